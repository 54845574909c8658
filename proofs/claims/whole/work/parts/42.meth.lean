/-! Methods as lists of steps, and that the machine does what they do (written by wip/whole/gen.py). -/
section MT
variable {l : Launch} {b Ls : Nat} {xs : Nat → Int32} {z : Nat × Nat}
def my_Z_published : MethodName := ⟨"MessageHubModel", "published", "(I)V"⟩
def mk_Z_published_0 (z : Nat × Nat) : ev_C := [(0, ev_fn (ev_ci 9 2)), (2, ev_fn (ev_iload 1 3)), (3, ev_fn (ev_imul 4)), (4, ev_fn (ev_aload 0 5)), (5, ev_fn (ev_getf 12 13 8)), (8, ev_fn (ev_iadd 9)), (9, ev_fn (ev_istore 2 10)), (10, ev_fn (ev_aload 0 11)), (11, ev_fn (ev_getf 12 15 14)), (14, ev_fn (ev_ci 2 15)), (15, ev_fn (ev_icmpne 31 18)), (18, ev_fn (ev_aload 0 19)), (19, ev_fn (ev_getf 12 55 22)), (22, ev_fn (ev_iload 2 23)), (23, ev_fn (ev_zald 24)), (24, ev_fn (ev_ifeq 31 27)), (27, ev_fn (ev_ci 1 28)), (28, ev_fn (ev_goto 32)), (31, ev_fn (ev_ci 0 32)), (32, ev_fn (ev_istore 3 33)), (33, ev_fn (ev_iload 3 34)), (34, ev_fn (ev_ifne 61 37)), (37, ev_fn (ev_aload 0 38)), (38, ev_fn (ev_iload 1 39)), (39, ev_fn (ev_aload 0 40)), (40, ev_fn (ev_getf 12 17 43)), (43, ev_fn (ev_aload 0 44)), (44, ev_fn (ev_getf 12 14 47)), (47, ev_fn (ev_aload 0 48)), (48, ev_fn (ev_getf 12 15 51)), (51, ev_fn (ev_aload 0 52)), (52, ev_fn (ev_getf 12 16 55)), (55, ev_callR 12 (mf_Z_accept z) 6 58), (58, ev_fn (ev_ifeq 65 61)), (61, ev_fn (ev_ci 1 62)), (62, ev_fn (ev_goto 66)), (65, ev_fn (ev_ci 0 66)), (66, ev_fn (ev_istore 4 68)), (68, ev_fn (ev_aload 0 69)), (69, ev_fn (ev_getf 12 15 72)), (72, ev_fn (ev_ci 2 73)), (73, ev_fn (ev_icmpne 88 76)), (76, ev_fn (ev_iload 4 78)), (78, ev_fn (ev_ifeq 88 81)), (81, ev_fn (ev_aload 0 82)), (82, ev_fn (ev_getf 12 55 85)), (85, ev_fn (ev_iload 2 86)), (86, ev_fn (ev_ci 1 87)), (87, ev_fn (ev_zast 88)), (88, ev_fn (ev_aload 0 89)), (89, ev_fn (ev_getf 12 15 92)), (92, ev_fn (ev_ifle 125 95)), (95, ev_fn (ev_aload 0 96)), (96, ev_fn (ev_iload 1 97)), (97, ev_fn (ev_aload 0 98)), (98, ev_fn (ev_getf 12 15 101)), (101, ev_fn (ev_ci 1 102)), (102, ev_fn (ev_icmpne 109 105)), (105, ev_fn (ev_ci 4 106)), (106, ev_fn (ev_goto 110))]
def mk_Z_published_1 (z : Nat × Nat) : ev_C := [(109, ev_fn (ev_ci 5 110)), (110, ev_fn (ev_iload 4 112)), (112, ev_fn (ev_ifeq 119 115)), (115, ev_fn (ev_ci 0 116)), (116, ev_fn (ev_goto 122)), (119, ev_fn (ev_ci 151 122)), (122, ev_callR 12 (mf_Z_answer z) 4 125), (125, ev_fn ev_vret)]
def mk_Z_published (z : Nat × Nat) : ev_C := mk_Z_published_0 z ++ (mk_Z_published_1 z)
def mf_Z_published (z : Nat × Nat) : ev_F := ev_met (mk_Z_published z) 5
set_option maxHeartbeats 4000000 in
set_option maxRecDepth 100000 in
theorem mg_Z_published_0 : ev_AllG (ev_Good l vc_L vt_L (gw_G b Ls xs z) prog_14_method_39_code 5 none my_Z_published.name my_Z_published.cls tb_T 5 128) (mk_Z_published_0 z) := by
  refine ⟨ok_bipush (z := 9) (by decide +kernel) (by decide +kernel), ?_⟩
  refine ⟨ok_iload_n (z := 1) (by decide +kernel) rfl, ?_⟩
  refine ⟨ok_imul (by decide +kernel), ?_⟩
  refine ⟨ok_aload_n (z := 0) (by decide +kernel) rfl, ?_⟩
  refine ⟨ok_getf (ix := 206) hc_12 (by decide) hi_12 tw_911 (Or.inl rfl) (by decide +kernel), ?_⟩
  refine ⟨ok_iadd (by decide +kernel), ?_⟩
  refine ⟨ok_istore_n (z := 2) (by decide) (by decide +kernel) rfl, ?_⟩
  refine ⟨ok_aload_n (z := 0) (by decide +kernel) rfl, ?_⟩
  refine ⟨ok_getf (ix := 212) hc_12 (by decide) hi_12 tw_913 (Or.inl rfl) (by decide +kernel), ?_⟩
  refine ⟨ok_iconst (z := 2) (by decide +kernel) (by decide +kernel), ?_⟩
  refine ⟨ok_icmpne (off := 16) (by decide +kernel) (by decide), ?_⟩
  refine ⟨ok_aload_n (z := 0) (by decide +kernel) rfl, ?_⟩
  refine ⟨ok_getf (ix := 147) hc_12 (by decide) hi_12 tw_953 (Or.inl rfl) (by decide +kernel), ?_⟩
  refine ⟨ok_iload_n (z := 2) (by decide +kernel) rfl, ?_⟩
  refine ⟨ok_zald rfl (by decide +kernel), ?_⟩
  refine ⟨ok_ifeq (off := 7) (by decide +kernel) (by decide), ?_⟩
  refine ⟨ok_iconst (z := 1) (by decide +kernel) (by decide +kernel), ?_⟩
  refine ⟨ok_goto (off := 4) (by decide +kernel) (by decide), ?_⟩
  refine ⟨ok_iconst (z := 0) (by decide +kernel) (by decide +kernel), ?_⟩
  refine ⟨ok_istore_n (z := 3) (by decide) (by decide +kernel) rfl, ?_⟩
  refine ⟨ok_iload_n (z := 3) (by decide +kernel) rfl, ?_⟩
  refine ⟨ok_ifne (off := 27) (by decide +kernel) (by decide), ?_⟩
  refine ⟨ok_aload_n (z := 0) (by decide +kernel) rfl, ?_⟩
  refine ⟨ok_iload_n (z := 1) (by decide +kernel) rfl, ?_⟩
  refine ⟨ok_aload_n (z := 0) (by decide +kernel) rfl, ?_⟩
  refine ⟨ok_getf (ix := 219) hc_12 (by decide) hi_12 tw_915 (Or.inl rfl) (by decide +kernel), ?_⟩
  refine ⟨ok_aload_n (z := 0) (by decide +kernel) rfl, ?_⟩
  refine ⟨ok_getf (ix := 209) hc_12 (by decide) hi_12 tw_912 (Or.inl rfl) (by decide +kernel), ?_⟩
  refine ⟨ok_aload_n (z := 0) (by decide +kernel) rfl, ?_⟩
  refine ⟨ok_getf (ix := 212) hc_12 (by decide) hi_12 tw_913 (Or.inl rfl) (by decide +kernel), ?_⟩
  refine ⟨ok_aload_n (z := 0) (by decide +kernel) rfl, ?_⟩
  refine ⟨ok_getf (ix := 215) hc_12 (by decide) hi_12 tw_914 (Or.inl rfl) (by decide +kernel), ?_⟩
  refine ⟨ok_callV (ix := 280) hc_12 ms_Z_accept (tb_cwV tw_1245 tw_1247 tv_51 tw_11 tw_1248 (by decide +kernel) (by decide) (by decide)) (by decide +kernel), ?_⟩
  refine ⟨ok_ifeq (off := 7) (by decide +kernel) (by decide), ?_⟩
  refine ⟨ok_iconst (z := 1) (by decide +kernel) (by decide +kernel), ?_⟩
  refine ⟨ok_goto (off := 4) (by decide +kernel) (by decide), ?_⟩
  refine ⟨ok_iconst (z := 0) (by decide +kernel) (by decide +kernel), ?_⟩
  refine ⟨ok_istore (by decide) (by decide +kernel), ?_⟩
  refine ⟨ok_aload_n (z := 0) (by decide +kernel) rfl, ?_⟩
  refine ⟨ok_getf (ix := 212) hc_12 (by decide) hi_12 tw_913 (Or.inl rfl) (by decide +kernel), ?_⟩
  refine ⟨ok_iconst (z := 2) (by decide +kernel) (by decide +kernel), ?_⟩
  refine ⟨ok_icmpne (off := 15) (by decide +kernel) (by decide), ?_⟩
  refine ⟨ok_iload (by decide +kernel), ?_⟩
  refine ⟨ok_ifeq (off := 10) (by decide +kernel) (by decide), ?_⟩
  refine ⟨ok_aload_n (z := 0) (by decide +kernel) rfl, ?_⟩
  refine ⟨ok_getf (ix := 147) hc_12 (by decide) hi_12 tw_953 (Or.inl rfl) (by decide +kernel), ?_⟩
  refine ⟨ok_iload_n (z := 2) (by decide +kernel) rfl, ?_⟩
  refine ⟨ok_iconst (z := 1) (by decide +kernel) (by decide +kernel), ?_⟩
  refine ⟨ok_zast rfl (by decide +kernel), ?_⟩
  refine ⟨ok_aload_n (z := 0) (by decide +kernel) rfl, ?_⟩
  refine ⟨ok_getf (ix := 212) hc_12 (by decide) hi_12 tw_913 (Or.inl rfl) (by decide +kernel), ?_⟩
  refine ⟨ok_ifle (off := 33) (by decide +kernel) (by decide), ?_⟩
  refine ⟨ok_aload_n (z := 0) (by decide +kernel) rfl, ?_⟩
  refine ⟨ok_iload_n (z := 1) (by decide +kernel) rfl, ?_⟩
  refine ⟨ok_aload_n (z := 0) (by decide +kernel) rfl, ?_⟩
  refine ⟨ok_getf (ix := 212) hc_12 (by decide) hi_12 tw_913 (Or.inl rfl) (by decide +kernel), ?_⟩
  refine ⟨ok_iconst (z := 1) (by decide +kernel) (by decide +kernel), ?_⟩
  refine ⟨ok_icmpne (off := 7) (by decide +kernel) (by decide), ?_⟩
  refine ⟨ok_iconst (z := 4) (by decide +kernel) (by decide +kernel), ?_⟩
  refine ⟨ok_goto (off := 4) (by decide +kernel) (by decide), ?_⟩
  exact trivial
set_option maxHeartbeats 4000000 in
set_option maxRecDepth 100000 in
theorem mg_Z_published_1 : ev_AllG (ev_Good l vc_L vt_L (gw_G b Ls xs z) prog_14_method_39_code 5 none my_Z_published.name my_Z_published.cls tb_T 5 128) (mk_Z_published_1 z) := by
  refine ⟨ok_iconst (z := 5) (by decide +kernel) (by decide +kernel), ?_⟩
  refine ⟨ok_iload (by decide +kernel), ?_⟩
  refine ⟨ok_ifeq (off := 7) (by decide +kernel) (by decide), ?_⟩
  refine ⟨ok_iconst (z := 0) (by decide +kernel) (by decide +kernel), ?_⟩
  refine ⟨ok_goto (off := 6) (by decide +kernel) (by decide), ?_⟩
  refine ⟨ok_sipush (z := 151) (by decide +kernel) (by decide +kernel), ?_⟩
  refine ⟨ok_callV (ix := 320) hc_12 ms_Z_answer (tb_cwV tw_1280 tw_1282 tv_59 tw_11 tw_1283 (by decide +kernel) (by decide) (by decide)) (by decide +kernel), ?_⟩
  refine ⟨ok_vret rfl (by decide +kernel), ?_⟩
  exact trivial
theorem mg_Z_published : ev_AllG (ev_Good l vc_L vt_L (gw_G b Ls xs z) prog_14_method_39_code 5 none my_Z_published.name my_Z_published.cls tb_T 5 128) (mk_Z_published z) := ev_AllG.app mg_Z_published_0 (mg_Z_published_1)
theorem ms_Z_published : ev_Met l vc_L vt_L (gw_G b Ls xs z) my_Z_published (Cond.code my_Z_published prog_14_method_39_code 5 none :: tb_T) 5 128 (mf_Z_published z) := ev_sound (by decide +kernel) mg_Z_published
def my_Z_awayPlace : MethodName := ⟨"MessageHubModel", "awayPlace", "(I)I"⟩
def mk_Z_awayPlace (z : Nat × Nat) : ev_C := [(0, ev_fn (ev_ci 0 1)), (1, ev_fn (ev_istore 2 2)), (2, ev_fn (ev_iload 2 3)), (3, ev_fn (ev_aload 0 4)), (4, ev_fn (ev_getf 12 47 7)), (7, ev_fn (ev_iload 1 8)), (8, ev_fn (ev_iald 9)), (9, ev_fn (ev_icmpge 38 12)), (12, ev_fn (ev_aload 0 13)), (13, ev_fn (ev_getf 12 54 16)), (16, ev_fn (ev_ci 8 18)), (18, ev_fn (ev_iload 1 19)), (19, ev_fn (ev_imul 20)), (20, ev_fn (ev_iload 2 21)), (21, ev_fn (ev_iadd 22)), (22, ev_fn (ev_iald 23)), (23, ev_fn (ev_aload 0 24)), (24, ev_fn (ev_getf 12 13 27)), (27, ev_fn (ev_icmpne 32 30)), (30, ev_fn (ev_iload 2 31)), (31, ev_fn ev_iret), (32, ev_fn (ev_iinc 2 1 35)), (35, ev_fn (ev_goto 2)), (38, ev_fn (ev_ci (-1) 39)), (39, ev_fn ev_iret)]
def mf_Z_awayPlace (z : Nat × Nat) : ev_F := ev_met (mk_Z_awayPlace z) 3
set_option maxHeartbeats 4000000 in
set_option maxRecDepth 100000 in
theorem mg_Z_awayPlace : ev_AllG (ev_Good l vc_L vt_L (gw_G b Ls xs z) prog_14_method_40_code 3 (some .int) my_Z_awayPlace.name my_Z_awayPlace.cls tb_T 0 0) (mk_Z_awayPlace z) := by
  refine ⟨ok_iconst (z := 0) (by decide +kernel) (by decide +kernel), ?_⟩
  refine ⟨ok_istore_n (z := 2) (by decide) (by decide +kernel) rfl, ?_⟩
  refine ⟨ok_iload_n (z := 2) (by decide +kernel) rfl, ?_⟩
  refine ⟨ok_aload_n (z := 0) (by decide +kernel) rfl, ?_⟩
  refine ⟨ok_getf (ix := 123) hc_12 (by decide) hi_12 tw_945 (Or.inl rfl) (by decide +kernel), ?_⟩
  refine ⟨ok_iload_n (z := 1) (by decide +kernel) rfl, ?_⟩
  refine ⟨ok_iald rfl (by decide +kernel), ?_⟩
  refine ⟨ok_icmpge (off := 29) (by decide +kernel) (by decide), ?_⟩
  refine ⟨ok_aload_n (z := 0) (by decide +kernel) rfl, ?_⟩
  refine ⟨ok_getf (ix := 144) hc_12 (by decide) hi_12 tw_952 (Or.inl rfl) (by decide +kernel), ?_⟩
  refine ⟨ok_bipush (z := 8) (by decide +kernel) (by decide +kernel), ?_⟩
  refine ⟨ok_iload_n (z := 1) (by decide +kernel) rfl, ?_⟩
  refine ⟨ok_imul (by decide +kernel), ?_⟩
  refine ⟨ok_iload_n (z := 2) (by decide +kernel) rfl, ?_⟩
  refine ⟨ok_iadd (by decide +kernel), ?_⟩
  refine ⟨ok_iald rfl (by decide +kernel), ?_⟩
  refine ⟨ok_aload_n (z := 0) (by decide +kernel) rfl, ?_⟩
  refine ⟨ok_getf (ix := 206) hc_12 (by decide) hi_12 tw_911 (Or.inl rfl) (by decide +kernel), ?_⟩
  refine ⟨ok_icmpne (off := 5) (by decide +kernel) (by decide), ?_⟩
  refine ⟨ok_iload_n (z := 2) (by decide +kernel) rfl, ?_⟩
  refine ⟨ok_iret rfl (by decide +kernel), ?_⟩
  refine ⟨ok_iinc (z := 1) (by decide) (by decide +kernel) (by decide +kernel), ?_⟩
  refine ⟨ok_goto (off := (-33)) (by decide +kernel) (by decide), ?_⟩
  refine ⟨ok_iconst (z := (-1)) (by decide +kernel) (by decide +kernel), ?_⟩
  refine ⟨ok_iret rfl (by decide +kernel), ?_⟩
  exact trivial
theorem ms_Z_awayPlace : ev_Met l vc_L vt_L (gw_G b Ls xs z) my_Z_awayPlace (Cond.code my_Z_awayPlace prog_14_method_40_code 3 (some .int) :: tb_T) 0 0 (mf_Z_awayPlace z) := ev_sound (by decide +kernel) mg_Z_awayPlace
def my_Z_done : MethodName := ⟨"MessageHubModel", "done", "(II)V"⟩
def mk_Z_done_0 (z : Nat × Nat) : ev_C := [(0, ev_fn (ev_aload 0 1)), (1, ev_fn (ev_getf 12 47 4)), (4, ev_fn (ev_iload 1 5)), (5, ev_fn (ev_dup2 6)), (6, ev_fn (ev_iald 7)), (7, ev_fn (ev_ci 1 8)), (8, ev_fn (ev_isub 9)), (9, ev_fn (ev_iast 10)), (10, ev_fn (ev_ci 8 12)), (12, ev_fn (ev_iload 1 13)), (13, ev_fn (ev_imul 14)), (14, ev_fn (ev_iload 2 15)), (15, ev_fn (ev_iadd 16)), (16, ev_fn (ev_istore 3 17)), (17, ev_fn (ev_iload 3 18)), (18, ev_fn (ev_ci 8 20)), (20, ev_fn (ev_iload 1 21)), (21, ev_fn (ev_imul 22)), (22, ev_fn (ev_aload 0 23)), (23, ev_fn (ev_getf 12 47 26)), (26, ev_fn (ev_iload 1 27)), (27, ev_fn (ev_iald 28)), (28, ev_fn (ev_iadd 29)), (29, ev_fn (ev_aload 0 30)), (30, ev_fn (ev_getf 12 48 33)), (33, ev_fn (ev_iload 1 34)), (34, ev_fn (ev_iald 35)), (35, ev_fn (ev_iadd 36)), (36, ev_fn (ev_icmpge 129 39)), (39, ev_fn (ev_aload 0 40)), (40, ev_fn (ev_getf 12 49 43)), (43, ev_fn (ev_iload 3 44)), (44, ev_fn (ev_aload 0 45)), (45, ev_fn (ev_getf 12 49 48)), (48, ev_fn (ev_iload 3 49)), (49, ev_fn (ev_ci 1 50)), (50, ev_fn (ev_iadd 51)), (51, ev_fn (ev_lald 52)), (52, ev_fn (ev_last 53)), (53, ev_fn (ev_aload 0 54)), (54, ev_fn (ev_getf 12 50 57)), (57, ev_fn (ev_iload 3 58)), (58, ev_fn (ev_aload 0 59)), (59, ev_fn (ev_getf 12 50 62)), (62, ev_fn (ev_iload 3 63)), (63, ev_fn (ev_ci 1 64)), (64, ev_fn (ev_iadd 65)), (65, ev_fn (ev_iald 66)), (66, ev_fn (ev_iast 67)), (67, ev_fn (ev_aload 0 68)), (68, ev_fn (ev_getf 12 51 71)), (71, ev_fn (ev_iload 3 72)), (72, ev_fn (ev_aload 0 73)), (73, ev_fn (ev_getf 12 51 76)), (76, ev_fn (ev_iload 3 77)), (77, ev_fn (ev_ci 1 78)), (78, ev_fn (ev_iadd 79)), (79, ev_fn (ev_iald 80)), (80, ev_fn (ev_iast 81)), (81, ev_fn (ev_aload 0 82))]
def mk_Z_done_1 (z : Nat × Nat) : ev_C := [(82, ev_fn (ev_getf 12 52 85)), (85, ev_fn (ev_iload 3 86)), (86, ev_fn (ev_aload 0 87)), (87, ev_fn (ev_getf 12 52 90)), (90, ev_fn (ev_iload 3 91)), (91, ev_fn (ev_ci 1 92)), (92, ev_fn (ev_iadd 93)), (93, ev_fn (ev_zald 94)), (94, ev_fn (ev_zast 95)), (95, ev_fn (ev_aload 0 96)), (96, ev_fn (ev_getf 12 53 99)), (99, ev_fn (ev_iload 3 100)), (100, ev_fn (ev_aload 0 101)), (101, ev_fn (ev_getf 12 53 104)), (104, ev_fn (ev_iload 3 105)), (105, ev_fn (ev_ci 1 106)), (106, ev_fn (ev_iadd 107)), (107, ev_fn (ev_iald 108)), (108, ev_fn (ev_iast 109)), (109, ev_fn (ev_aload 0 110)), (110, ev_fn (ev_getf 12 54 113)), (113, ev_fn (ev_iload 3 114)), (114, ev_fn (ev_aload 0 115)), (115, ev_fn (ev_getf 12 54 118)), (118, ev_fn (ev_iload 3 119)), (119, ev_fn (ev_ci 1 120)), (120, ev_fn (ev_iadd 121)), (121, ev_fn (ev_iald 122)), (122, ev_fn (ev_iast 123)), (123, ev_fn (ev_iinc 3 1 126)), (126, ev_fn (ev_goto 17)), (129, ev_fn ev_vret)]
def mk_Z_done (z : Nat × Nat) : ev_C := mk_Z_done_0 z ++ (mk_Z_done_1 z)
def mf_Z_done (z : Nat × Nat) : ev_F := ev_met (mk_Z_done z) 4
set_option maxHeartbeats 4000000 in
set_option maxRecDepth 100000 in
theorem mg_Z_done_0 : ev_AllG (ev_Good l vc_L vt_L (gw_G b Ls xs z) prog_14_method_41_code 4 none my_Z_done.name my_Z_done.cls tb_T 0 0) (mk_Z_done_0 z) := by
  refine ⟨ok_aload_n (z := 0) (by decide +kernel) rfl, ?_⟩
  refine ⟨ok_getf (ix := 123) hc_12 (by decide) hi_12 tw_945 (Or.inl rfl) (by decide +kernel), ?_⟩
  refine ⟨ok_iload_n (z := 1) (by decide +kernel) rfl, ?_⟩
  refine ⟨ok_dup2 (by decide +kernel), ?_⟩
  refine ⟨ok_iald rfl (by decide +kernel), ?_⟩
  refine ⟨ok_iconst (z := 1) (by decide +kernel) (by decide +kernel), ?_⟩
  refine ⟨ok_isub (by decide +kernel), ?_⟩
  refine ⟨ok_iast rfl (by decide +kernel), ?_⟩
  refine ⟨ok_bipush (z := 8) (by decide +kernel) (by decide +kernel), ?_⟩
  refine ⟨ok_iload_n (z := 1) (by decide +kernel) rfl, ?_⟩
  refine ⟨ok_imul (by decide +kernel), ?_⟩
  refine ⟨ok_iload_n (z := 2) (by decide +kernel) rfl, ?_⟩
  refine ⟨ok_iadd (by decide +kernel), ?_⟩
  refine ⟨ok_istore_n (z := 3) (by decide) (by decide +kernel) rfl, ?_⟩
  refine ⟨ok_iload_n (z := 3) (by decide +kernel) rfl, ?_⟩
  refine ⟨ok_bipush (z := 8) (by decide +kernel) (by decide +kernel), ?_⟩
  refine ⟨ok_iload_n (z := 1) (by decide +kernel) rfl, ?_⟩
  refine ⟨ok_imul (by decide +kernel), ?_⟩
  refine ⟨ok_aload_n (z := 0) (by decide +kernel) rfl, ?_⟩
  refine ⟨ok_getf (ix := 123) hc_12 (by decide) hi_12 tw_945 (Or.inl rfl) (by decide +kernel), ?_⟩
  refine ⟨ok_iload_n (z := 1) (by decide +kernel) rfl, ?_⟩
  refine ⟨ok_iald rfl (by decide +kernel), ?_⟩
  refine ⟨ok_iadd (by decide +kernel), ?_⟩
  refine ⟨ok_aload_n (z := 0) (by decide +kernel) rfl, ?_⟩
  refine ⟨ok_getf (ix := 126) hc_12 (by decide) hi_12 tw_946 (Or.inl rfl) (by decide +kernel), ?_⟩
  refine ⟨ok_iload_n (z := 1) (by decide +kernel) rfl, ?_⟩
  refine ⟨ok_iald rfl (by decide +kernel), ?_⟩
  refine ⟨ok_iadd (by decide +kernel), ?_⟩
  refine ⟨ok_icmpge (off := 93) (by decide +kernel) (by decide), ?_⟩
  refine ⟨ok_aload_n (z := 0) (by decide +kernel) rfl, ?_⟩
  refine ⟨ok_getf (ix := 129) hc_12 (by decide) hi_12 tw_947 (Or.inl rfl) (by decide +kernel), ?_⟩
  refine ⟨ok_iload_n (z := 3) (by decide +kernel) rfl, ?_⟩
  refine ⟨ok_aload_n (z := 0) (by decide +kernel) rfl, ?_⟩
  refine ⟨ok_getf (ix := 129) hc_12 (by decide) hi_12 tw_947 (Or.inl rfl) (by decide +kernel), ?_⟩
  refine ⟨ok_iload_n (z := 3) (by decide +kernel) rfl, ?_⟩
  refine ⟨ok_iconst (z := 1) (by decide +kernel) (by decide +kernel), ?_⟩
  refine ⟨ok_iadd (by decide +kernel), ?_⟩
  refine ⟨ok_lald rfl (by decide +kernel), ?_⟩
  refine ⟨ok_last rfl (by decide +kernel), ?_⟩
  refine ⟨ok_aload_n (z := 0) (by decide +kernel) rfl, ?_⟩
  refine ⟨ok_getf (ix := 132) hc_12 (by decide) hi_12 tw_948 (Or.inl rfl) (by decide +kernel), ?_⟩
  refine ⟨ok_iload_n (z := 3) (by decide +kernel) rfl, ?_⟩
  refine ⟨ok_aload_n (z := 0) (by decide +kernel) rfl, ?_⟩
  refine ⟨ok_getf (ix := 132) hc_12 (by decide) hi_12 tw_948 (Or.inl rfl) (by decide +kernel), ?_⟩
  refine ⟨ok_iload_n (z := 3) (by decide +kernel) rfl, ?_⟩
  refine ⟨ok_iconst (z := 1) (by decide +kernel) (by decide +kernel), ?_⟩
  refine ⟨ok_iadd (by decide +kernel), ?_⟩
  refine ⟨ok_iald rfl (by decide +kernel), ?_⟩
  refine ⟨ok_iast rfl (by decide +kernel), ?_⟩
  refine ⟨ok_aload_n (z := 0) (by decide +kernel) rfl, ?_⟩
  refine ⟨ok_getf (ix := 135) hc_12 (by decide) hi_12 tw_949 (Or.inl rfl) (by decide +kernel), ?_⟩
  refine ⟨ok_iload_n (z := 3) (by decide +kernel) rfl, ?_⟩
  refine ⟨ok_aload_n (z := 0) (by decide +kernel) rfl, ?_⟩
  refine ⟨ok_getf (ix := 135) hc_12 (by decide) hi_12 tw_949 (Or.inl rfl) (by decide +kernel), ?_⟩
  refine ⟨ok_iload_n (z := 3) (by decide +kernel) rfl, ?_⟩
  refine ⟨ok_iconst (z := 1) (by decide +kernel) (by decide +kernel), ?_⟩
  refine ⟨ok_iadd (by decide +kernel), ?_⟩
  refine ⟨ok_iald rfl (by decide +kernel), ?_⟩
  refine ⟨ok_iast rfl (by decide +kernel), ?_⟩
  refine ⟨ok_aload_n (z := 0) (by decide +kernel) rfl, ?_⟩
  exact trivial
set_option maxHeartbeats 4000000 in
set_option maxRecDepth 100000 in
theorem mg_Z_done_1 : ev_AllG (ev_Good l vc_L vt_L (gw_G b Ls xs z) prog_14_method_41_code 4 none my_Z_done.name my_Z_done.cls tb_T 0 0) (mk_Z_done_1 z) := by
  refine ⟨ok_getf (ix := 138) hc_12 (by decide) hi_12 tw_950 (Or.inl rfl) (by decide +kernel), ?_⟩
  refine ⟨ok_iload_n (z := 3) (by decide +kernel) rfl, ?_⟩
  refine ⟨ok_aload_n (z := 0) (by decide +kernel) rfl, ?_⟩
  refine ⟨ok_getf (ix := 138) hc_12 (by decide) hi_12 tw_950 (Or.inl rfl) (by decide +kernel), ?_⟩
  refine ⟨ok_iload_n (z := 3) (by decide +kernel) rfl, ?_⟩
  refine ⟨ok_iconst (z := 1) (by decide +kernel) (by decide +kernel), ?_⟩
  refine ⟨ok_iadd (by decide +kernel), ?_⟩
  refine ⟨ok_zald rfl (by decide +kernel), ?_⟩
  refine ⟨ok_zast rfl (by decide +kernel), ?_⟩
  refine ⟨ok_aload_n (z := 0) (by decide +kernel) rfl, ?_⟩
  refine ⟨ok_getf (ix := 141) hc_12 (by decide) hi_12 tw_951 (Or.inl rfl) (by decide +kernel), ?_⟩
  refine ⟨ok_iload_n (z := 3) (by decide +kernel) rfl, ?_⟩
  refine ⟨ok_aload_n (z := 0) (by decide +kernel) rfl, ?_⟩
  refine ⟨ok_getf (ix := 141) hc_12 (by decide) hi_12 tw_951 (Or.inl rfl) (by decide +kernel), ?_⟩
  refine ⟨ok_iload_n (z := 3) (by decide +kernel) rfl, ?_⟩
  refine ⟨ok_iconst (z := 1) (by decide +kernel) (by decide +kernel), ?_⟩
  refine ⟨ok_iadd (by decide +kernel), ?_⟩
  refine ⟨ok_iald rfl (by decide +kernel), ?_⟩
  refine ⟨ok_iast rfl (by decide +kernel), ?_⟩
  refine ⟨ok_aload_n (z := 0) (by decide +kernel) rfl, ?_⟩
  refine ⟨ok_getf (ix := 144) hc_12 (by decide) hi_12 tw_952 (Or.inl rfl) (by decide +kernel), ?_⟩
  refine ⟨ok_iload_n (z := 3) (by decide +kernel) rfl, ?_⟩
  refine ⟨ok_aload_n (z := 0) (by decide +kernel) rfl, ?_⟩
  refine ⟨ok_getf (ix := 144) hc_12 (by decide) hi_12 tw_952 (Or.inl rfl) (by decide +kernel), ?_⟩
  refine ⟨ok_iload_n (z := 3) (by decide +kernel) rfl, ?_⟩
  refine ⟨ok_iconst (z := 1) (by decide +kernel) (by decide +kernel), ?_⟩
  refine ⟨ok_iadd (by decide +kernel), ?_⟩
  refine ⟨ok_iald rfl (by decide +kernel), ?_⟩
  refine ⟨ok_iast rfl (by decide +kernel), ?_⟩
  refine ⟨ok_iinc (z := 1) (by decide) (by decide +kernel) (by decide +kernel), ?_⟩
  refine ⟨ok_goto (off := (-109)) (by decide +kernel) (by decide), ?_⟩
  refine ⟨ok_vret rfl (by decide +kernel), ?_⟩
  exact trivial
theorem mg_Z_done : ev_AllG (ev_Good l vc_L vt_L (gw_G b Ls xs z) prog_14_method_41_code 4 none my_Z_done.name my_Z_done.cls tb_T 0 0) (mk_Z_done z) := ev_AllG.app mg_Z_done_0 (mg_Z_done_1)
theorem ms_Z_done : ev_Met l vc_L vt_L (gw_G b Ls xs z) my_Z_done (Cond.code my_Z_done prog_14_method_41_code 4 none :: tb_T) 0 0 (mf_Z_done z) := ev_sound (by decide +kernel) mg_Z_done
def my_Z_brokerAnswered : MethodName := ⟨"MessageHubModel", "brokerAnswered", "(I)V"⟩
def mk_Z_brokerAnswered (z : Nat × Nat) : ev_C := [(0, ev_fn (ev_aload 0 1)), (1, ev_fn (ev_iload 1 2)), (2, ev_callR 12 (mf_Z_awayPlace z) 2 5), (5, ev_fn (ev_istore 2 6)), (6, ev_fn (ev_ci 8 8)), (8, ev_fn (ev_iload 1 9)), (9, ev_fn (ev_imul 10)), (10, ev_fn (ev_iload 2 11)), (11, ev_fn (ev_iadd 12)), (12, ev_fn (ev_istore 3 13)), (13, ev_fn (ev_aload 0 14)), (14, ev_fn (ev_getf 12 12 17)), (17, ev_fn (ev_ci 5 18)), (18, ev_fn (ev_icmpne 53 21)), (21, ev_fn (ev_iload 2 22)), (22, ev_fn (ev_iflt 42 25)), (25, ev_fn (ev_aload 0 26)), (26, ev_fn (ev_getf 12 51 29)), (29, ev_fn (ev_iload 3 30)), (30, ev_fn (ev_iald 31)), (31, ev_fn (ev_ci 2 32)), (32, ev_fn (ev_icmpne 42 35)), (35, ev_fn (ev_aload 0 36)), (36, ev_fn (ev_getf 12 53 39)), (39, ev_fn (ev_iload 3 40)), (40, ev_fn (ev_ci 2 41)), (41, ev_fn (ev_iast 42)), (42, ev_fn (ev_aload 0 43)), (43, ev_fn (ev_iload 1 44)), (44, ev_fn (ev_ci 6 46)), (46, ev_fn (ev_ci 0 47)), (47, ev_callR 12 (mf_Z_answer z) 4 50), (50, ev_fn (ev_goto 94)), (53, ev_fn (ev_iload 2 54)), (54, ev_fn (ev_iflt 94 57)), (57, ev_fn (ev_aload 0 58)), (58, ev_fn (ev_getf 12 12 61)), (61, ev_fn (ev_ci 4 62)), (62, ev_fn (ev_icmpne 78 65)), (65, ev_fn (ev_aload 0 66)), (66, ev_fn (ev_getf 12 51 69)), (69, ev_fn (ev_iload 3 70)), (70, ev_fn (ev_iald 71)), (71, ev_fn (ev_ci 1 72)), (72, ev_fn (ev_icmpne 94 75)), (75, ev_fn (ev_goto 88)), (78, ev_fn (ev_aload 0 79)), (79, ev_fn (ev_getf 12 53 82)), (82, ev_fn (ev_iload 3 83)), (83, ev_fn (ev_iald 84)), (84, ev_fn (ev_ci 2 85)), (85, ev_fn (ev_icmpne 94 88)), (88, ev_fn (ev_aload 0 89)), (89, ev_fn (ev_iload 1 90)), (90, ev_fn (ev_iload 2 91)), (91, ev_callR 12 (mf_Z_done z) 3 94), (94, ev_fn ev_vret)]
def mf_Z_brokerAnswered (z : Nat × Nat) : ev_F := ev_met (mk_Z_brokerAnswered z) 4
set_option maxHeartbeats 4000000 in
set_option maxRecDepth 100000 in
theorem mg_Z_brokerAnswered : ev_AllG (ev_Good l vc_L vt_L (gw_G b Ls xs z) prog_14_method_42_code 4 none my_Z_brokerAnswered.name my_Z_brokerAnswered.cls tb_T 2 48) (mk_Z_brokerAnswered z) := by
  refine ⟨ok_aload_n (z := 0) (by decide +kernel) rfl, ?_⟩
  refine ⟨ok_iload_n (z := 1) (by decide +kernel) rfl, ?_⟩
  refine ⟨ok_callV (ix := 324) hc_12 ms_Z_awayPlace (tb_cwV tw_1292 tw_1294 tv_62 tw_11 tw_1295 (by decide +kernel) (by decide) (by decide)) (by decide +kernel), ?_⟩
  refine ⟨ok_istore_n (z := 2) (by decide) (by decide +kernel) rfl, ?_⟩
  refine ⟨ok_bipush (z := 8) (by decide +kernel) (by decide +kernel), ?_⟩
  refine ⟨ok_iload_n (z := 1) (by decide +kernel) rfl, ?_⟩
  refine ⟨ok_imul (by decide +kernel), ?_⟩
  refine ⟨ok_iload_n (z := 2) (by decide +kernel) rfl, ?_⟩
  refine ⟨ok_iadd (by decide +kernel), ?_⟩
  refine ⟨ok_istore_n (z := 3) (by decide) (by decide +kernel) rfl, ?_⟩
  refine ⟨ok_aload_n (z := 0) (by decide +kernel) rfl, ?_⟩
  refine ⟨ok_getf (ix := 202) hc_12 (by decide) hi_12 tw_910 (Or.inl rfl) (by decide +kernel), ?_⟩
  refine ⟨ok_iconst (z := 5) (by decide +kernel) (by decide +kernel), ?_⟩
  refine ⟨ok_icmpne (off := 35) (by decide +kernel) (by decide), ?_⟩
  refine ⟨ok_iload_n (z := 2) (by decide +kernel) rfl, ?_⟩
  refine ⟨ok_iflt (off := 20) (by decide +kernel) (by decide), ?_⟩
  refine ⟨ok_aload_n (z := 0) (by decide +kernel) rfl, ?_⟩
  refine ⟨ok_getf (ix := 135) hc_12 (by decide) hi_12 tw_949 (Or.inl rfl) (by decide +kernel), ?_⟩
  refine ⟨ok_iload_n (z := 3) (by decide +kernel) rfl, ?_⟩
  refine ⟨ok_iald rfl (by decide +kernel), ?_⟩
  refine ⟨ok_iconst (z := 2) (by decide +kernel) (by decide +kernel), ?_⟩
  refine ⟨ok_icmpne (off := 10) (by decide +kernel) (by decide), ?_⟩
  refine ⟨ok_aload_n (z := 0) (by decide +kernel) rfl, ?_⟩
  refine ⟨ok_getf (ix := 141) hc_12 (by decide) hi_12 tw_951 (Or.inl rfl) (by decide +kernel), ?_⟩
  refine ⟨ok_iload_n (z := 3) (by decide +kernel) rfl, ?_⟩
  refine ⟨ok_iconst (z := 2) (by decide +kernel) (by decide +kernel), ?_⟩
  refine ⟨ok_iast rfl (by decide +kernel), ?_⟩
  refine ⟨ok_aload_n (z := 0) (by decide +kernel) rfl, ?_⟩
  refine ⟨ok_iload_n (z := 1) (by decide +kernel) rfl, ?_⟩
  refine ⟨ok_bipush (z := 6) (by decide +kernel) (by decide +kernel), ?_⟩
  refine ⟨ok_iconst (z := 0) (by decide +kernel) (by decide +kernel), ?_⟩
  refine ⟨ok_callV (ix := 320) hc_12 ms_Z_answer (tb_cwV tw_1280 tw_1282 tv_59 tw_11 tw_1283 (by decide +kernel) (by decide) (by decide)) (by decide +kernel), ?_⟩
  refine ⟨ok_goto (off := 44) (by decide +kernel) (by decide), ?_⟩
  refine ⟨ok_iload_n (z := 2) (by decide +kernel) rfl, ?_⟩
  refine ⟨ok_iflt (off := 40) (by decide +kernel) (by decide), ?_⟩
  refine ⟨ok_aload_n (z := 0) (by decide +kernel) rfl, ?_⟩
  refine ⟨ok_getf (ix := 202) hc_12 (by decide) hi_12 tw_910 (Or.inl rfl) (by decide +kernel), ?_⟩
  refine ⟨ok_iconst (z := 4) (by decide +kernel) (by decide +kernel), ?_⟩
  refine ⟨ok_icmpne (off := 16) (by decide +kernel) (by decide), ?_⟩
  refine ⟨ok_aload_n (z := 0) (by decide +kernel) rfl, ?_⟩
  refine ⟨ok_getf (ix := 135) hc_12 (by decide) hi_12 tw_949 (Or.inl rfl) (by decide +kernel), ?_⟩
  refine ⟨ok_iload_n (z := 3) (by decide +kernel) rfl, ?_⟩
  refine ⟨ok_iald rfl (by decide +kernel), ?_⟩
  refine ⟨ok_iconst (z := 1) (by decide +kernel) (by decide +kernel), ?_⟩
  refine ⟨ok_icmpne (off := 22) (by decide +kernel) (by decide), ?_⟩
  refine ⟨ok_goto (off := 13) (by decide +kernel) (by decide), ?_⟩
  refine ⟨ok_aload_n (z := 0) (by decide +kernel) rfl, ?_⟩
  refine ⟨ok_getf (ix := 141) hc_12 (by decide) hi_12 tw_951 (Or.inl rfl) (by decide +kernel), ?_⟩
  refine ⟨ok_iload_n (z := 3) (by decide +kernel) rfl, ?_⟩
  refine ⟨ok_iald rfl (by decide +kernel), ?_⟩
  refine ⟨ok_iconst (z := 2) (by decide +kernel) (by decide +kernel), ?_⟩
  refine ⟨ok_icmpne (off := 9) (by decide +kernel) (by decide), ?_⟩
  refine ⟨ok_aload_n (z := 0) (by decide +kernel) rfl, ?_⟩
  refine ⟨ok_iload_n (z := 1) (by decide +kernel) rfl, ?_⟩
  refine ⟨ok_iload_n (z := 2) (by decide +kernel) rfl, ?_⟩
  refine ⟨ok_callV (ix := 327) hc_12 ms_Z_done (tb_cwV tw_1296 tw_1298 tv_63 tw_11 tw_1299 (by decide +kernel) (by decide) (by decide)) (by decide +kernel), ?_⟩
  refine ⟨ok_vret rfl (by decide +kernel), ?_⟩
  exact trivial
theorem ms_Z_brokerAnswered : ev_Met l vc_L vt_L (gw_G b Ls xs z) my_Z_brokerAnswered (Cond.code my_Z_brokerAnswered prog_14_method_42_code 4 none :: tb_T) 2 48 (mf_Z_brokerAnswered z) := ev_sound (by decide +kernel) mg_Z_brokerAnswered
def my_Z_subPlace : MethodName := ⟨"MessageHubModel", "subPlace", "(I)I"⟩
def mk_Z_subPlace (z : Nat × Nat) : ev_C := [(0, ev_fn (ev_ci 0 1)), (1, ev_fn (ev_istore 2 2)), (2, ev_fn (ev_iload 2 3)), (3, ev_fn (ev_aload 0 4)), (4, ev_fn (ev_getf 12 43 7)), (7, ev_fn (ev_iload 1 8)), (8, ev_fn (ev_iald 9)), (9, ev_fn (ev_icmpge 38 12)), (12, ev_fn (ev_aload 0 13)), (13, ev_fn (ev_getf 12 44 16)), (16, ev_fn (ev_ci 4 17)), (17, ev_fn (ev_iload 1 18)), (18, ev_fn (ev_imul 19)), (19, ev_fn (ev_iload 2 20)), (20, ev_fn (ev_iadd 21)), (21, ev_fn (ev_lald 22)), (22, ev_fn (ev_aload 0 23)), (23, ev_fn (ev_getf 12 17 26)), (26, ev_fn (ev_lcmp 27)), (27, ev_fn (ev_ifne 32 30)), (30, ev_fn (ev_iload 2 31)), (31, ev_fn ev_iret), (32, ev_fn (ev_iinc 2 1 35)), (35, ev_fn (ev_goto 2)), (38, ev_fn (ev_ci (-1) 39)), (39, ev_fn ev_iret)]
def mf_Z_subPlace (z : Nat × Nat) : ev_F := ev_met (mk_Z_subPlace z) 3
set_option maxHeartbeats 4000000 in
set_option maxRecDepth 100000 in
theorem mg_Z_subPlace : ev_AllG (ev_Good l vc_L vt_L (gw_G b Ls xs z) prog_14_method_43_code 3 (some .int) my_Z_subPlace.name my_Z_subPlace.cls tb_T 0 0) (mk_Z_subPlace z) := by
  refine ⟨ok_iconst (z := 0) (by decide +kernel) (by decide +kernel), ?_⟩
  refine ⟨ok_istore_n (z := 2) (by decide) (by decide +kernel) rfl, ?_⟩
  refine ⟨ok_iload_n (z := 2) (by decide +kernel) rfl, ?_⟩
  refine ⟨ok_aload_n (z := 0) (by decide +kernel) rfl, ?_⟩
  refine ⟨ok_getf (ix := 111) hc_12 (by decide) hi_12 tw_941 (Or.inl rfl) (by decide +kernel), ?_⟩
  refine ⟨ok_iload_n (z := 1) (by decide +kernel) rfl, ?_⟩
  refine ⟨ok_iald rfl (by decide +kernel), ?_⟩
  refine ⟨ok_icmpge (off := 29) (by decide +kernel) (by decide), ?_⟩
  refine ⟨ok_aload_n (z := 0) (by decide +kernel) rfl, ?_⟩
  refine ⟨ok_getf (ix := 114) hc_12 (by decide) hi_12 tw_942 (Or.inl rfl) (by decide +kernel), ?_⟩
  refine ⟨ok_iconst (z := 4) (by decide +kernel) (by decide +kernel), ?_⟩
  refine ⟨ok_iload_n (z := 1) (by decide +kernel) rfl, ?_⟩
  refine ⟨ok_imul (by decide +kernel), ?_⟩
  refine ⟨ok_iload_n (z := 2) (by decide +kernel) rfl, ?_⟩
  refine ⟨ok_iadd (by decide +kernel), ?_⟩
  refine ⟨ok_lald rfl (by decide +kernel), ?_⟩
  refine ⟨ok_aload_n (z := 0) (by decide +kernel) rfl, ?_⟩
  refine ⟨ok_getf (ix := 219) hc_12 (by decide) hi_12 tw_915 (Or.inl rfl) (by decide +kernel), ?_⟩
  refine ⟨ok_lcmp (by decide +kernel), ?_⟩
  refine ⟨ok_ifne (off := 5) (by decide +kernel) (by decide), ?_⟩
  refine ⟨ok_iload_n (z := 2) (by decide +kernel) rfl, ?_⟩
  refine ⟨ok_iret rfl (by decide +kernel), ?_⟩
  refine ⟨ok_iinc (z := 1) (by decide) (by decide +kernel) (by decide +kernel), ?_⟩
  refine ⟨ok_goto (off := (-33)) (by decide +kernel) (by decide), ?_⟩
  refine ⟨ok_iconst (z := (-1)) (by decide +kernel) (by decide +kernel), ?_⟩
  refine ⟨ok_iret rfl (by decide +kernel), ?_⟩
  exact trivial
theorem ms_Z_subPlace : ev_Met l vc_L vt_L (gw_G b Ls xs z) my_Z_subPlace (Cond.code my_Z_subPlace prog_14_method_43_code 3 (some .int) :: tb_T) 0 0 (mf_Z_subPlace z) := ev_sound (by decide +kernel) mg_Z_subPlace
def my_Z_subscribed : MethodName := ⟨"MessageHubModel", "subscribed", "(I)V"⟩
def mk_Z_subscribed_0 (z : Nat × Nat) : ev_C := [(0, ev_fn (ev_aload 0 1)), (1, ev_fn (ev_iload 1 2)), (2, ev_callR 12 (mf_Z_subPlace z) 2 5), (5, ev_fn (ev_istore 2 6)), (6, ev_fn (ev_iload 2 7)), (7, ev_fn (ev_ifge 33 10)), (10, ev_fn (ev_aload 0 11)), (11, ev_fn (ev_getf 12 43 14)), (14, ev_fn (ev_iload 1 15)), (15, ev_fn (ev_iald 16)), (16, ev_fn (ev_ci 4 17)), (17, ev_fn (ev_icmpne 33 20)), (20, ev_fn (ev_aload 0 21)), (21, ev_fn (ev_iload 1 22)), (22, ev_fn (ev_ci 9 24)), (24, ev_fn (ev_ci 151 27)), (27, ev_callR 12 (mf_Z_answer z) 4 30), (30, ev_fn (ev_goto 217)), (33, ev_fn (ev_ci 4 34)), (34, ev_fn (ev_iload 1 35)), (35, ev_fn (ev_imul 36)), (36, ev_fn (ev_iload 2 37)), (37, ev_fn (ev_ifge 49 40)), (40, ev_fn (ev_aload 0 41)), (41, ev_fn (ev_getf 12 43 44)), (44, ev_fn (ev_iload 1 45)), (45, ev_fn (ev_iald 46)), (46, ev_fn (ev_goto 50)), (49, ev_fn (ev_iload 2 50)), (50, ev_fn (ev_iadd 51)), (51, ev_fn (ev_istore 3 52)), (52, ev_fn (ev_aload 0 53)), (53, ev_fn (ev_getf 12 43 56)), (56, ev_fn (ev_iload 1 57)), (57, ev_fn (ev_iload 2 58)), (58, ev_fn (ev_ifge 72 61)), (61, ev_fn (ev_aload 0 62)), (62, ev_fn (ev_getf 12 43 65)), (65, ev_fn (ev_iload 1 66)), (66, ev_fn (ev_iald 67)), (67, ev_fn (ev_ci 1 68)), (68, ev_fn (ev_iadd 69)), (69, ev_fn (ev_goto 78)), (72, ev_fn (ev_aload 0 73)), (73, ev_fn (ev_getf 12 43 76)), (76, ev_fn (ev_iload 1 77)), (77, ev_fn (ev_iald 78)), (78, ev_fn (ev_iast 79)), (79, ev_fn (ev_aload 0 80)), (80, ev_fn (ev_getf 12 44 83)), (83, ev_fn (ev_iload 3 84)), (84, ev_fn (ev_aload 0 85)), (85, ev_fn (ev_getf 12 17 88)), (88, ev_fn (ev_last 89)), (89, ev_fn (ev_aload 0 90)), (90, ev_fn (ev_getf 12 45 93)), (93, ev_fn (ev_iload 3 94)), (94, ev_fn (ev_aload 0 95)), (95, ev_fn (ev_getf 12 14 98)), (98, ev_fn (ev_iast 99))]
def mk_Z_subscribed_1 (z : Nat × Nat) : ev_C := [(99, ev_fn (ev_aload 0 100)), (100, ev_fn (ev_getf 12 46 103)), (103, ev_fn (ev_iload 3 104)), (104, ev_fn (ev_aload 0 105)), (105, ev_fn (ev_getf 12 16 108)), (108, ev_fn (ev_zast 109)), (109, ev_fn (ev_aload 0 110)), (110, ev_fn (ev_iload 1 111)), (111, ev_fn (ev_ci 9 113)), (113, ev_fn (ev_aload 0 114)), (114, ev_fn (ev_getf 12 14 117)), (117, ev_callR 12 (mf_Z_answer z) 4 120), (120, ev_fn (ev_ci 0 121)), (121, ev_fn (ev_istore 4 123)), (123, ev_fn (ev_iload 4 125)), (125, ev_fn (ev_aload 0 126)), (126, ev_fn (ev_getf 12 58 129)), (129, ev_fn (ev_icmpge 217 132)), (132, ev_fn (ev_aload 0 133)), (133, ev_fn (ev_getf 12 61 136)), (136, ev_fn (ev_iload 4 138)), (138, ev_fn (ev_iald 139)), (139, ev_fn (ev_aload 0 140)), (140, ev_fn (ev_getf 12 14 143)), (143, ev_call (mf_Z_lesser z) 2 146), (146, ev_fn (ev_istore 5 148)), (148, ev_fn (ev_aload 0 149)), (149, ev_fn (ev_aload 0 150)), (150, ev_fn (ev_getf 12 17 153)), (153, ev_fn (ev_aload 0 154)), (154, ev_fn (ev_getf 12 59 157)), (157, ev_fn (ev_iload 4 159)), (159, ev_fn (ev_lald 160)), (160, ev_callR 12 (mf_Z_fits z) 3 163), (163, ev_fn (ev_ifeq 211 166)), (166, ev_fn (ev_iload 5 168)), (168, ev_fn (ev_ifeq 189 171)), (171, ev_fn (ev_aload 0 172)), (172, ev_fn (ev_getf 12 47 175)), (175, ev_fn (ev_iload 1 176)), (176, ev_fn (ev_iald 177)), (177, ev_fn (ev_aload 0 178)), (178, ev_fn (ev_getf 12 48 181)), (181, ev_fn (ev_iload 1 182)), (182, ev_fn (ev_iald 183)), (183, ev_fn (ev_iadd 184)), (184, ev_fn (ev_ci 6 186)), (186, ev_fn (ev_icmpge 211 189)), (189, ev_fn (ev_aload 0 190)), (190, ev_fn (ev_iload 1 191)), (191, ev_fn (ev_aload 0 192)), (192, ev_fn (ev_getf 12 59 195)), (195, ev_fn (ev_iload 4 197)), (197, ev_fn (ev_lald 198)), (198, ev_fn (ev_aload 0 199)), (199, ev_fn (ev_getf 12 60 202)), (202, ev_fn (ev_iload 4 204)), (204, ev_fn (ev_iald 205)), (205, ev_fn (ev_iload 5 207)), (207, ev_fn (ev_ci 1 208))]
def mk_Z_subscribed_2 (z : Nat × Nat) : ev_C := [(208, ev_callR 12 (mf_Z_copy z) 6 211), (211, ev_fn (ev_iinc 4 1 214)), (214, ev_fn (ev_goto 123)), (217, ev_fn (ev_aload 0 218)), (218, ev_fn (ev_iload 1 219)), (219, ev_callR 12 (mf_Z_pumpSession z) 2 222), (222, ev_fn ev_vret)]
def mk_Z_subscribed (z : Nat × Nat) : ev_C := mk_Z_subscribed_0 z ++ (mk_Z_subscribed_1 z ++ (mk_Z_subscribed_2 z))
def mf_Z_subscribed (z : Nat × Nat) : ev_F := ev_met (mk_Z_subscribed z) 6
set_option maxHeartbeats 4000000 in
set_option maxRecDepth 100000 in
theorem mg_Z_subscribed_0 : ev_AllG (ev_Good l vc_L vt_L (gw_G b Ls xs z) prog_14_method_44_code 6 none my_Z_subscribed.name my_Z_subscribed.cls tb_T 4 99) (mk_Z_subscribed_0 z) := by
  refine ⟨ok_aload_n (z := 0) (by decide +kernel) rfl, ?_⟩
  refine ⟨ok_iload_n (z := 1) (by decide +kernel) rfl, ?_⟩
  refine ⟨ok_callV (ix := 330) hc_12 ms_Z_subPlace (tb_cwV tw_1304 tw_1306 tv_65 tw_11 tw_1307 (by decide +kernel) (by decide) (by decide)) (by decide +kernel), ?_⟩
  refine ⟨ok_istore_n (z := 2) (by decide) (by decide +kernel) rfl, ?_⟩
  refine ⟨ok_iload_n (z := 2) (by decide +kernel) rfl, ?_⟩
  refine ⟨ok_ifge (off := 26) (by decide +kernel) (by decide), ?_⟩
  refine ⟨ok_aload_n (z := 0) (by decide +kernel) rfl, ?_⟩
  refine ⟨ok_getf (ix := 111) hc_12 (by decide) hi_12 tw_941 (Or.inl rfl) (by decide +kernel), ?_⟩
  refine ⟨ok_iload_n (z := 1) (by decide +kernel) rfl, ?_⟩
  refine ⟨ok_iald rfl (by decide +kernel), ?_⟩
  refine ⟨ok_iconst (z := 4) (by decide +kernel) (by decide +kernel), ?_⟩
  refine ⟨ok_icmpne (off := 16) (by decide +kernel) (by decide), ?_⟩
  refine ⟨ok_aload_n (z := 0) (by decide +kernel) rfl, ?_⟩
  refine ⟨ok_iload_n (z := 1) (by decide +kernel) rfl, ?_⟩
  refine ⟨ok_bipush (z := 9) (by decide +kernel) (by decide +kernel), ?_⟩
  refine ⟨ok_sipush (z := 151) (by decide +kernel) (by decide +kernel), ?_⟩
  refine ⟨ok_callV (ix := 320) hc_12 ms_Z_answer (tb_cwV tw_1280 tw_1282 tv_59 tw_11 tw_1283 (by decide +kernel) (by decide) (by decide)) (by decide +kernel), ?_⟩
  refine ⟨ok_goto (off := 187) (by decide +kernel) (by decide), ?_⟩
  refine ⟨ok_iconst (z := 4) (by decide +kernel) (by decide +kernel), ?_⟩
  refine ⟨ok_iload_n (z := 1) (by decide +kernel) rfl, ?_⟩
  refine ⟨ok_imul (by decide +kernel), ?_⟩
  refine ⟨ok_iload_n (z := 2) (by decide +kernel) rfl, ?_⟩
  refine ⟨ok_ifge (off := 12) (by decide +kernel) (by decide), ?_⟩
  refine ⟨ok_aload_n (z := 0) (by decide +kernel) rfl, ?_⟩
  refine ⟨ok_getf (ix := 111) hc_12 (by decide) hi_12 tw_941 (Or.inl rfl) (by decide +kernel), ?_⟩
  refine ⟨ok_iload_n (z := 1) (by decide +kernel) rfl, ?_⟩
  refine ⟨ok_iald rfl (by decide +kernel), ?_⟩
  refine ⟨ok_goto (off := 4) (by decide +kernel) (by decide), ?_⟩
  refine ⟨ok_iload_n (z := 2) (by decide +kernel) rfl, ?_⟩
  refine ⟨ok_iadd (by decide +kernel), ?_⟩
  refine ⟨ok_istore_n (z := 3) (by decide) (by decide +kernel) rfl, ?_⟩
  refine ⟨ok_aload_n (z := 0) (by decide +kernel) rfl, ?_⟩
  refine ⟨ok_getf (ix := 111) hc_12 (by decide) hi_12 tw_941 (Or.inl rfl) (by decide +kernel), ?_⟩
  refine ⟨ok_iload_n (z := 1) (by decide +kernel) rfl, ?_⟩
  refine ⟨ok_iload_n (z := 2) (by decide +kernel) rfl, ?_⟩
  refine ⟨ok_ifge (off := 14) (by decide +kernel) (by decide), ?_⟩
  refine ⟨ok_aload_n (z := 0) (by decide +kernel) rfl, ?_⟩
  refine ⟨ok_getf (ix := 111) hc_12 (by decide) hi_12 tw_941 (Or.inl rfl) (by decide +kernel), ?_⟩
  refine ⟨ok_iload_n (z := 1) (by decide +kernel) rfl, ?_⟩
  refine ⟨ok_iald rfl (by decide +kernel), ?_⟩
  refine ⟨ok_iconst (z := 1) (by decide +kernel) (by decide +kernel), ?_⟩
  refine ⟨ok_iadd (by decide +kernel), ?_⟩
  refine ⟨ok_goto (off := 9) (by decide +kernel) (by decide), ?_⟩
  refine ⟨ok_aload_n (z := 0) (by decide +kernel) rfl, ?_⟩
  refine ⟨ok_getf (ix := 111) hc_12 (by decide) hi_12 tw_941 (Or.inl rfl) (by decide +kernel), ?_⟩
  refine ⟨ok_iload_n (z := 1) (by decide +kernel) rfl, ?_⟩
  refine ⟨ok_iald rfl (by decide +kernel), ?_⟩
  refine ⟨ok_iast rfl (by decide +kernel), ?_⟩
  refine ⟨ok_aload_n (z := 0) (by decide +kernel) rfl, ?_⟩
  refine ⟨ok_getf (ix := 114) hc_12 (by decide) hi_12 tw_942 (Or.inl rfl) (by decide +kernel), ?_⟩
  refine ⟨ok_iload_n (z := 3) (by decide +kernel) rfl, ?_⟩
  refine ⟨ok_aload_n (z := 0) (by decide +kernel) rfl, ?_⟩
  refine ⟨ok_getf (ix := 219) hc_12 (by decide) hi_12 tw_915 (Or.inl rfl) (by decide +kernel), ?_⟩
  refine ⟨ok_last rfl (by decide +kernel), ?_⟩
  refine ⟨ok_aload_n (z := 0) (by decide +kernel) rfl, ?_⟩
  refine ⟨ok_getf (ix := 117) hc_12 (by decide) hi_12 tw_943 (Or.inl rfl) (by decide +kernel), ?_⟩
  refine ⟨ok_iload_n (z := 3) (by decide +kernel) rfl, ?_⟩
  refine ⟨ok_aload_n (z := 0) (by decide +kernel) rfl, ?_⟩
  refine ⟨ok_getf (ix := 209) hc_12 (by decide) hi_12 tw_912 (Or.inl rfl) (by decide +kernel), ?_⟩
  refine ⟨ok_iast rfl (by decide +kernel), ?_⟩
  exact trivial
set_option maxHeartbeats 4000000 in
set_option maxRecDepth 100000 in
theorem mg_Z_subscribed_1 : ev_AllG (ev_Good l vc_L vt_L (gw_G b Ls xs z) prog_14_method_44_code 6 none my_Z_subscribed.name my_Z_subscribed.cls tb_T 4 99) (mk_Z_subscribed_1 z) := by
  refine ⟨ok_aload_n (z := 0) (by decide +kernel) rfl, ?_⟩
  refine ⟨ok_getf (ix := 120) hc_12 (by decide) hi_12 tw_944 (Or.inl rfl) (by decide +kernel), ?_⟩
  refine ⟨ok_iload_n (z := 3) (by decide +kernel) rfl, ?_⟩
  refine ⟨ok_aload_n (z := 0) (by decide +kernel) rfl, ?_⟩
  refine ⟨ok_getf (ix := 215) hc_12 (by decide) hi_12 tw_914 (Or.inl rfl) (by decide +kernel), ?_⟩
  refine ⟨ok_zast rfl (by decide +kernel), ?_⟩
  refine ⟨ok_aload_n (z := 0) (by decide +kernel) rfl, ?_⟩
  refine ⟨ok_iload_n (z := 1) (by decide +kernel) rfl, ?_⟩
  refine ⟨ok_bipush (z := 9) (by decide +kernel) (by decide +kernel), ?_⟩
  refine ⟨ok_aload_n (z := 0) (by decide +kernel) rfl, ?_⟩
  refine ⟨ok_getf (ix := 209) hc_12 (by decide) hi_12 tw_912 (Or.inl rfl) (by decide +kernel), ?_⟩
  refine ⟨ok_callV (ix := 320) hc_12 ms_Z_answer (tb_cwV tw_1280 tw_1282 tv_59 tw_11 tw_1283 (by decide +kernel) (by decide) (by decide)) (by decide +kernel), ?_⟩
  refine ⟨ok_iconst (z := 0) (by decide +kernel) (by decide +kernel), ?_⟩
  refine ⟨ok_istore (by decide) (by decide +kernel), ?_⟩
  refine ⟨ok_iload (by decide +kernel), ?_⟩
  refine ⟨ok_aload_n (z := 0) (by decide +kernel) rfl, ?_⟩
  refine ⟨ok_getf (ix := 309) hc_12 (by decide) hi_12 tw_956 (Or.inl rfl) (by decide +kernel), ?_⟩
  refine ⟨ok_icmpge (off := 88) (by decide +kernel) (by decide), ?_⟩
  refine ⟨ok_aload_n (z := 0) (by decide +kernel) rfl, ?_⟩
  refine ⟨ok_getf (ix := 162) hc_12 (by decide) hi_12 tw_959 (Or.inl rfl) (by decide +kernel), ?_⟩
  refine ⟨ok_iload (by decide +kernel), ?_⟩
  refine ⟨ok_iald rfl (by decide +kernel), ?_⟩
  refine ⟨ok_aload_n (z := 0) (by decide +kernel) rfl, ?_⟩
  refine ⟨ok_getf (ix := 209) hc_12 (by decide) hi_12 tw_912 (Or.inl rfl) (by decide +kernel), ?_⟩
  refine ⟨ok_callS (ix := 295) ms_Z_lesser (tb_cwS tw_1253 tw_1254 tw_11 tw_1255 (by decide +kernel) (by decide) (by decide)) (by decide +kernel), ?_⟩
  refine ⟨ok_istore (by decide) (by decide +kernel), ?_⟩
  refine ⟨ok_aload_n (z := 0) (by decide +kernel) rfl, ?_⟩
  refine ⟨ok_aload_n (z := 0) (by decide +kernel) rfl, ?_⟩
  refine ⟨ok_getf (ix := 219) hc_12 (by decide) hi_12 tw_915 (Or.inl rfl) (by decide +kernel), ?_⟩
  refine ⟨ok_aload_n (z := 0) (by decide +kernel) rfl, ?_⟩
  refine ⟨ok_getf (ix := 156) hc_12 (by decide) hi_12 tw_957 (Or.inl rfl) (by decide +kernel), ?_⟩
  refine ⟨ok_iload (by decide +kernel), ?_⟩
  refine ⟨ok_lald rfl (by decide +kernel), ?_⟩
  refine ⟨ok_callV (ix := 194) hc_12 ms_Z_fits (tb_cwV tw_1115 tw_1117 tv_30 tw_11 tw_1118 (by decide +kernel) (by decide) (by decide)) (by decide +kernel), ?_⟩
  refine ⟨ok_ifeq (off := 48) (by decide +kernel) (by decide), ?_⟩
  refine ⟨ok_iload (by decide +kernel), ?_⟩
  refine ⟨ok_ifeq (off := 21) (by decide +kernel) (by decide), ?_⟩
  refine ⟨ok_aload_n (z := 0) (by decide +kernel) rfl, ?_⟩
  refine ⟨ok_getf (ix := 123) hc_12 (by decide) hi_12 tw_945 (Or.inl rfl) (by decide +kernel), ?_⟩
  refine ⟨ok_iload_n (z := 1) (by decide +kernel) rfl, ?_⟩
  refine ⟨ok_iald rfl (by decide +kernel), ?_⟩
  refine ⟨ok_aload_n (z := 0) (by decide +kernel) rfl, ?_⟩
  refine ⟨ok_getf (ix := 126) hc_12 (by decide) hi_12 tw_946 (Or.inl rfl) (by decide +kernel), ?_⟩
  refine ⟨ok_iload_n (z := 1) (by decide +kernel) rfl, ?_⟩
  refine ⟨ok_iald rfl (by decide +kernel), ?_⟩
  refine ⟨ok_iadd (by decide +kernel), ?_⟩
  refine ⟨ok_bipush (z := 6) (by decide +kernel) (by decide +kernel), ?_⟩
  refine ⟨ok_icmpge (off := 25) (by decide +kernel) (by decide), ?_⟩
  refine ⟨ok_aload_n (z := 0) (by decide +kernel) rfl, ?_⟩
  refine ⟨ok_iload_n (z := 1) (by decide +kernel) rfl, ?_⟩
  refine ⟨ok_aload_n (z := 0) (by decide +kernel) rfl, ?_⟩
  refine ⟨ok_getf (ix := 156) hc_12 (by decide) hi_12 tw_957 (Or.inl rfl) (by decide +kernel), ?_⟩
  refine ⟨ok_iload (by decide +kernel), ?_⟩
  refine ⟨ok_lald rfl (by decide +kernel), ?_⟩
  refine ⟨ok_aload_n (z := 0) (by decide +kernel) rfl, ?_⟩
  refine ⟨ok_getf (ix := 159) hc_12 (by decide) hi_12 tw_958 (Or.inl rfl) (by decide +kernel), ?_⟩
  refine ⟨ok_iload (by decide +kernel), ?_⟩
  refine ⟨ok_iald rfl (by decide +kernel), ?_⟩
  refine ⟨ok_iload (by decide +kernel), ?_⟩
  refine ⟨ok_iconst (z := 1) (by decide +kernel) (by decide +kernel), ?_⟩
  exact trivial
set_option maxHeartbeats 4000000 in
set_option maxRecDepth 100000 in
theorem mg_Z_subscribed_2 : ev_AllG (ev_Good l vc_L vt_L (gw_G b Ls xs z) prog_14_method_44_code 6 none my_Z_subscribed.name my_Z_subscribed.cls tb_T 4 99) (mk_Z_subscribed_2 z) := by
  refine ⟨ok_callV (ix := 299) hc_12 ms_Z_copy (tb_cwV tw_1256 tw_1258 tv_53 tw_11 tw_1259 (by decide +kernel) (by decide) (by decide)) (by decide +kernel), ?_⟩
  refine ⟨ok_iinc (z := 1) (by decide) (by decide +kernel) (by decide +kernel), ?_⟩
  refine ⟨ok_goto (off := (-91)) (by decide +kernel) (by decide), ?_⟩
  refine ⟨ok_aload_n (z := 0) (by decide +kernel) rfl, ?_⟩
  refine ⟨ok_iload_n (z := 1) (by decide +kernel) rfl, ?_⟩
  refine ⟨ok_callV (ix := 306) hc_12 ms_Z_pumpSession (tb_cwV tw_1272 tw_1274 tv_57 tw_11 tw_1275 (by decide +kernel) (by decide) (by decide)) (by decide +kernel), ?_⟩
  refine ⟨ok_vret rfl (by decide +kernel), ?_⟩
  exact trivial
theorem mg_Z_subscribed : ev_AllG (ev_Good l vc_L vt_L (gw_G b Ls xs z) prog_14_method_44_code 6 none my_Z_subscribed.name my_Z_subscribed.cls tb_T 4 99) (mk_Z_subscribed z) := ev_AllG.app mg_Z_subscribed_0 (ev_AllG.app mg_Z_subscribed_1 (mg_Z_subscribed_2))
theorem ms_Z_subscribed : ev_Met l vc_L vt_L (gw_G b Ls xs z) my_Z_subscribed (Cond.code my_Z_subscribed prog_14_method_44_code 6 none :: tb_T) 4 99 (mf_Z_subscribed z) := ev_sound (by decide +kernel) mg_Z_subscribed
def my_Z_unsubscribed : MethodName := ⟨"MessageHubModel", "unsubscribed", "(I)V"⟩
def mk_Z_unsubscribed_0 (z : Nat × Nat) : ev_C := [(0, ev_fn (ev_aload 0 1)), (1, ev_fn (ev_iload 1 2)), (2, ev_callR 12 (mf_Z_subPlace z) 2 5), (5, ev_fn (ev_istore 2 6)), (6, ev_fn (ev_iload 2 7)), (7, ev_fn (ev_iflt 88 10)), (10, ev_fn (ev_aload 0 11)), (11, ev_fn (ev_getf 12 43 14)), (14, ev_fn (ev_iload 1 15)), (15, ev_fn (ev_dup2 16)), (16, ev_fn (ev_iald 17)), (17, ev_fn (ev_ci 1 18)), (18, ev_fn (ev_isub 19)), (19, ev_fn (ev_iast 20)), (20, ev_fn (ev_ci 4 21)), (21, ev_fn (ev_iload 1 22)), (22, ev_fn (ev_imul 23)), (23, ev_fn (ev_iload 2 24)), (24, ev_fn (ev_iadd 25)), (25, ev_fn (ev_istore 3 26)), (26, ev_fn (ev_iload 3 27)), (27, ev_fn (ev_ci 4 28)), (28, ev_fn (ev_iload 1 29)), (29, ev_fn (ev_imul 30)), (30, ev_fn (ev_aload 0 31)), (31, ev_fn (ev_getf 12 43 34)), (34, ev_fn (ev_iload 1 35)), (35, ev_fn (ev_iald 36)), (36, ev_fn (ev_iadd 37)), (37, ev_fn (ev_icmpge 88 40)), (40, ev_fn (ev_aload 0 41)), (41, ev_fn (ev_getf 12 44 44)), (44, ev_fn (ev_iload 3 45)), (45, ev_fn (ev_aload 0 46)), (46, ev_fn (ev_getf 12 44 49)), (49, ev_fn (ev_iload 3 50)), (50, ev_fn (ev_ci 1 51)), (51, ev_fn (ev_iadd 52)), (52, ev_fn (ev_lald 53)), (53, ev_fn (ev_last 54)), (54, ev_fn (ev_aload 0 55)), (55, ev_fn (ev_getf 12 45 58)), (58, ev_fn (ev_iload 3 59)), (59, ev_fn (ev_aload 0 60)), (60, ev_fn (ev_getf 12 45 63)), (63, ev_fn (ev_iload 3 64)), (64, ev_fn (ev_ci 1 65)), (65, ev_fn (ev_iadd 66)), (66, ev_fn (ev_iald 67)), (67, ev_fn (ev_iast 68)), (68, ev_fn (ev_aload 0 69)), (69, ev_fn (ev_getf 12 46 72)), (72, ev_fn (ev_iload 3 73)), (73, ev_fn (ev_aload 0 74)), (74, ev_fn (ev_getf 12 46 77)), (77, ev_fn (ev_iload 3 78)), (78, ev_fn (ev_ci 1 79)), (79, ev_fn (ev_iadd 80)), (80, ev_fn (ev_zald 81)), (81, ev_fn (ev_zast 82))]
def mk_Z_unsubscribed_1 (z : Nat × Nat) : ev_C := [(82, ev_fn (ev_iinc 3 1 85)), (85, ev_fn (ev_goto 26)), (88, ev_fn (ev_aload 0 89)), (89, ev_fn (ev_iload 1 90)), (90, ev_fn (ev_ci 11 92)), (92, ev_fn (ev_iload 2 93)), (93, ev_fn (ev_iflt 100 96)), (96, ev_fn (ev_ci 0 97)), (97, ev_fn (ev_goto 102)), (100, ev_fn (ev_ci 17 102)), (102, ev_callR 12 (mf_Z_answer z) 4 105), (105, ev_fn ev_vret)]
def mk_Z_unsubscribed (z : Nat × Nat) : ev_C := mk_Z_unsubscribed_0 z ++ (mk_Z_unsubscribed_1 z)
def mf_Z_unsubscribed (z : Nat × Nat) : ev_F := ev_met (mk_Z_unsubscribed z) 4
set_option maxHeartbeats 4000000 in
set_option maxRecDepth 100000 in
theorem mg_Z_unsubscribed_0 : ev_AllG (ev_Good l vc_L vt_L (gw_G b Ls xs z) prog_14_method_45_code 4 none my_Z_unsubscribed.name my_Z_unsubscribed.cls tb_T 2 48) (mk_Z_unsubscribed_0 z) := by
  refine ⟨ok_aload_n (z := 0) (by decide +kernel) rfl, ?_⟩
  refine ⟨ok_iload_n (z := 1) (by decide +kernel) rfl, ?_⟩
  refine ⟨ok_callV (ix := 330) hc_12 ms_Z_subPlace (tb_cwV tw_1304 tw_1306 tv_65 tw_11 tw_1307 (by decide +kernel) (by decide) (by decide)) (by decide +kernel), ?_⟩
  refine ⟨ok_istore_n (z := 2) (by decide) (by decide +kernel) rfl, ?_⟩
  refine ⟨ok_iload_n (z := 2) (by decide +kernel) rfl, ?_⟩
  refine ⟨ok_iflt (off := 81) (by decide +kernel) (by decide), ?_⟩
  refine ⟨ok_aload_n (z := 0) (by decide +kernel) rfl, ?_⟩
  refine ⟨ok_getf (ix := 111) hc_12 (by decide) hi_12 tw_941 (Or.inl rfl) (by decide +kernel), ?_⟩
  refine ⟨ok_iload_n (z := 1) (by decide +kernel) rfl, ?_⟩
  refine ⟨ok_dup2 (by decide +kernel), ?_⟩
  refine ⟨ok_iald rfl (by decide +kernel), ?_⟩
  refine ⟨ok_iconst (z := 1) (by decide +kernel) (by decide +kernel), ?_⟩
  refine ⟨ok_isub (by decide +kernel), ?_⟩
  refine ⟨ok_iast rfl (by decide +kernel), ?_⟩
  refine ⟨ok_iconst (z := 4) (by decide +kernel) (by decide +kernel), ?_⟩
  refine ⟨ok_iload_n (z := 1) (by decide +kernel) rfl, ?_⟩
  refine ⟨ok_imul (by decide +kernel), ?_⟩
  refine ⟨ok_iload_n (z := 2) (by decide +kernel) rfl, ?_⟩
  refine ⟨ok_iadd (by decide +kernel), ?_⟩
  refine ⟨ok_istore_n (z := 3) (by decide) (by decide +kernel) rfl, ?_⟩
  refine ⟨ok_iload_n (z := 3) (by decide +kernel) rfl, ?_⟩
  refine ⟨ok_iconst (z := 4) (by decide +kernel) (by decide +kernel), ?_⟩
  refine ⟨ok_iload_n (z := 1) (by decide +kernel) rfl, ?_⟩
  refine ⟨ok_imul (by decide +kernel), ?_⟩
  refine ⟨ok_aload_n (z := 0) (by decide +kernel) rfl, ?_⟩
  refine ⟨ok_getf (ix := 111) hc_12 (by decide) hi_12 tw_941 (Or.inl rfl) (by decide +kernel), ?_⟩
  refine ⟨ok_iload_n (z := 1) (by decide +kernel) rfl, ?_⟩
  refine ⟨ok_iald rfl (by decide +kernel), ?_⟩
  refine ⟨ok_iadd (by decide +kernel), ?_⟩
  refine ⟨ok_icmpge (off := 51) (by decide +kernel) (by decide), ?_⟩
  refine ⟨ok_aload_n (z := 0) (by decide +kernel) rfl, ?_⟩
  refine ⟨ok_getf (ix := 114) hc_12 (by decide) hi_12 tw_942 (Or.inl rfl) (by decide +kernel), ?_⟩
  refine ⟨ok_iload_n (z := 3) (by decide +kernel) rfl, ?_⟩
  refine ⟨ok_aload_n (z := 0) (by decide +kernel) rfl, ?_⟩
  refine ⟨ok_getf (ix := 114) hc_12 (by decide) hi_12 tw_942 (Or.inl rfl) (by decide +kernel), ?_⟩
  refine ⟨ok_iload_n (z := 3) (by decide +kernel) rfl, ?_⟩
  refine ⟨ok_iconst (z := 1) (by decide +kernel) (by decide +kernel), ?_⟩
  refine ⟨ok_iadd (by decide +kernel), ?_⟩
  refine ⟨ok_lald rfl (by decide +kernel), ?_⟩
  refine ⟨ok_last rfl (by decide +kernel), ?_⟩
  refine ⟨ok_aload_n (z := 0) (by decide +kernel) rfl, ?_⟩
  refine ⟨ok_getf (ix := 117) hc_12 (by decide) hi_12 tw_943 (Or.inl rfl) (by decide +kernel), ?_⟩
  refine ⟨ok_iload_n (z := 3) (by decide +kernel) rfl, ?_⟩
  refine ⟨ok_aload_n (z := 0) (by decide +kernel) rfl, ?_⟩
  refine ⟨ok_getf (ix := 117) hc_12 (by decide) hi_12 tw_943 (Or.inl rfl) (by decide +kernel), ?_⟩
  refine ⟨ok_iload_n (z := 3) (by decide +kernel) rfl, ?_⟩
  refine ⟨ok_iconst (z := 1) (by decide +kernel) (by decide +kernel), ?_⟩
  refine ⟨ok_iadd (by decide +kernel), ?_⟩
  refine ⟨ok_iald rfl (by decide +kernel), ?_⟩
  refine ⟨ok_iast rfl (by decide +kernel), ?_⟩
  refine ⟨ok_aload_n (z := 0) (by decide +kernel) rfl, ?_⟩
  refine ⟨ok_getf (ix := 120) hc_12 (by decide) hi_12 tw_944 (Or.inl rfl) (by decide +kernel), ?_⟩
  refine ⟨ok_iload_n (z := 3) (by decide +kernel) rfl, ?_⟩
  refine ⟨ok_aload_n (z := 0) (by decide +kernel) rfl, ?_⟩
  refine ⟨ok_getf (ix := 120) hc_12 (by decide) hi_12 tw_944 (Or.inl rfl) (by decide +kernel), ?_⟩
  refine ⟨ok_iload_n (z := 3) (by decide +kernel) rfl, ?_⟩
  refine ⟨ok_iconst (z := 1) (by decide +kernel) (by decide +kernel), ?_⟩
  refine ⟨ok_iadd (by decide +kernel), ?_⟩
  refine ⟨ok_zald rfl (by decide +kernel), ?_⟩
  refine ⟨ok_zast rfl (by decide +kernel), ?_⟩
  exact trivial
set_option maxHeartbeats 4000000 in
set_option maxRecDepth 100000 in
theorem mg_Z_unsubscribed_1 : ev_AllG (ev_Good l vc_L vt_L (gw_G b Ls xs z) prog_14_method_45_code 4 none my_Z_unsubscribed.name my_Z_unsubscribed.cls tb_T 2 48) (mk_Z_unsubscribed_1 z) := by
  refine ⟨ok_iinc (z := 1) (by decide) (by decide +kernel) (by decide +kernel), ?_⟩
  refine ⟨ok_goto (off := (-59)) (by decide +kernel) (by decide), ?_⟩
  refine ⟨ok_aload_n (z := 0) (by decide +kernel) rfl, ?_⟩
  refine ⟨ok_iload_n (z := 1) (by decide +kernel) rfl, ?_⟩
  refine ⟨ok_bipush (z := 11) (by decide +kernel) (by decide +kernel), ?_⟩
  refine ⟨ok_iload_n (z := 2) (by decide +kernel) rfl, ?_⟩
  refine ⟨ok_iflt (off := 7) (by decide +kernel) (by decide), ?_⟩
  refine ⟨ok_iconst (z := 0) (by decide +kernel) (by decide +kernel), ?_⟩
  refine ⟨ok_goto (off := 5) (by decide +kernel) (by decide), ?_⟩
  refine ⟨ok_bipush (z := 17) (by decide +kernel) (by decide +kernel), ?_⟩
  refine ⟨ok_callV (ix := 320) hc_12 ms_Z_answer (tb_cwV tw_1280 tw_1282 tv_59 tw_11 tw_1283 (by decide +kernel) (by decide) (by decide)) (by decide +kernel), ?_⟩
  refine ⟨ok_vret rfl (by decide +kernel), ?_⟩
  exact trivial
theorem mg_Z_unsubscribed : ev_AllG (ev_Good l vc_L vt_L (gw_G b Ls xs z) prog_14_method_45_code 4 none my_Z_unsubscribed.name my_Z_unsubscribed.cls tb_T 2 48) (mk_Z_unsubscribed z) := ev_AllG.app mg_Z_unsubscribed_0 (mg_Z_unsubscribed_1)
theorem ms_Z_unsubscribed : ev_Met l vc_L vt_L (gw_G b Ls xs z) my_Z_unsubscribed (Cond.code my_Z_unsubscribed prog_14_method_45_code 4 none :: tb_T) 2 48 (mf_Z_unsubscribed z) := ev_sound (by decide +kernel) mg_Z_unsubscribed
end MT
