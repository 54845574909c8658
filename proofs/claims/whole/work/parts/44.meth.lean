/-! Methods as lists of steps, and that the machine does what they do (written by wip/whole/gen.py). -/
section MT
variable {l : Launch} {b Ls : Nat} {xs : Nat → Int32} {z : Nat × Nat}
def my_Z_inbox : MethodName := ⟨"MessageHubModel", "inbox", "(II)I"⟩
def mk_Z_inbox (z : Nat × Nat) : ev_C := [(0, ev_fn (ev_iload 1 1)), (1, ev_call (mf_Z_isClient z) 1 4), (4, ev_fn (ev_ifeq 12 7)), (7, ev_fn (ev_iload 2 8)), (8, ev_fn (ev_ci (-1) 9)), (9, ev_fn (ev_icmpge 14 12)), (12, ev_fn (ev_ci 0 13)), (13, ev_fn ev_iret), (14, ev_fn (ev_iload 2 15)), (15, ev_fn (ev_ci (-1) 16)), (16, ev_fn (ev_icmpne 28 19)), (19, ev_fn (ev_aload 0 20)), (20, ev_fn (ev_getf 12 31 23)), (23, ev_fn (ev_iload 1 24)), (24, ev_fn (ev_iald 25)), (25, ev_fn (ev_goto 59)), (28, ev_fn (ev_iload 2 29)), (29, ev_fn (ev_aload 0 30)), (30, ev_fn (ev_getf 12 31 33)), (33, ev_fn (ev_iload 1 34)), (34, ev_fn (ev_iald 35)), (35, ev_fn (ev_icmpge 58 38)), (38, ev_fn (ev_iload 2 39)), (39, ev_fn (ev_ci 100 41)), (41, ev_fn (ev_icmpge 58 44)), (44, ev_fn (ev_aload 0 45)), (45, ev_fn (ev_getf 12 32 48)), (48, ev_fn (ev_ci 100 50)), (50, ev_fn (ev_iload 1 51)), (51, ev_fn (ev_imul 52)), (52, ev_fn (ev_iload 2 53)), (53, ev_fn (ev_iadd 54)), (54, ev_fn (ev_iald 55)), (55, ev_fn (ev_goto 59)), (58, ev_fn (ev_ci 0 59)), (59, ev_fn ev_iret)]
def mf_Z_inbox (z : Nat × Nat) : ev_F := ev_met (mk_Z_inbox z) 3
set_option maxHeartbeats 4000000 in
set_option maxRecDepth 100000 in
theorem mg_Z_inbox : ev_AllG (ev_Good l vc_L vt_L (gw_G b Ls xs z) prog_14_method_65_code 3 (some .int) my_Z_inbox.name my_Z_inbox.cls tb_T 1 20) (mk_Z_inbox z) := by
  refine ⟨ok_iload_n (z := 1) (by decide +kernel) rfl, ?_⟩
  refine ⟨ok_callS (ix := 348) ms_Z_isClient (tb_cwS tw_1126 tw_1127 tw_11 tw_1128 (by decide +kernel) (by decide) (by decide)) (by decide +kernel), ?_⟩
  refine ⟨ok_ifeq (off := 8) (by decide +kernel) (by decide), ?_⟩
  refine ⟨ok_iload_n (z := 2) (by decide +kernel) rfl, ?_⟩
  refine ⟨ok_iconst (z := (-1)) (by decide +kernel) (by decide +kernel), ?_⟩
  refine ⟨ok_icmpge (off := 5) (by decide +kernel) (by decide), ?_⟩
  refine ⟨ok_iconst (z := 0) (by decide +kernel) (by decide +kernel), ?_⟩
  refine ⟨ok_iret rfl (by decide +kernel), ?_⟩
  refine ⟨ok_iload_n (z := 2) (by decide +kernel) rfl, ?_⟩
  refine ⟨ok_iconst (z := (-1)) (by decide +kernel) (by decide +kernel), ?_⟩
  refine ⟨ok_icmpne (off := 12) (by decide +kernel) (by decide), ?_⟩
  refine ⟨ok_aload_n (z := 0) (by decide +kernel) rfl, ?_⟩
  refine ⟨ok_getf (ix := 75) hc_12 (by decide) hi_12 tw_929 (Or.inl rfl) (by decide +kernel), ?_⟩
  refine ⟨ok_iload_n (z := 1) (by decide +kernel) rfl, ?_⟩
  refine ⟨ok_iald rfl (by decide +kernel), ?_⟩
  refine ⟨ok_goto (off := 34) (by decide +kernel) (by decide), ?_⟩
  refine ⟨ok_iload_n (z := 2) (by decide +kernel) rfl, ?_⟩
  refine ⟨ok_aload_n (z := 0) (by decide +kernel) rfl, ?_⟩
  refine ⟨ok_getf (ix := 75) hc_12 (by decide) hi_12 tw_929 (Or.inl rfl) (by decide +kernel), ?_⟩
  refine ⟨ok_iload_n (z := 1) (by decide +kernel) rfl, ?_⟩
  refine ⟨ok_iald rfl (by decide +kernel), ?_⟩
  refine ⟨ok_icmpge (off := 23) (by decide +kernel) (by decide), ?_⟩
  refine ⟨ok_iload_n (z := 2) (by decide +kernel) rfl, ?_⟩
  refine ⟨ok_bipush (z := 100) (by decide +kernel) (by decide +kernel), ?_⟩
  refine ⟨ok_icmpge (off := 17) (by decide +kernel) (by decide), ?_⟩
  refine ⟨ok_aload_n (z := 0) (by decide +kernel) rfl, ?_⟩
  refine ⟨ok_getf (ix := 78) hc_12 (by decide) hi_12 tw_930 (Or.inl rfl) (by decide +kernel), ?_⟩
  refine ⟨ok_bipush (z := 100) (by decide +kernel) (by decide +kernel), ?_⟩
  refine ⟨ok_iload_n (z := 1) (by decide +kernel) rfl, ?_⟩
  refine ⟨ok_imul (by decide +kernel), ?_⟩
  refine ⟨ok_iload_n (z := 2) (by decide +kernel) rfl, ?_⟩
  refine ⟨ok_iadd (by decide +kernel), ?_⟩
  refine ⟨ok_iald rfl (by decide +kernel), ?_⟩
  refine ⟨ok_goto (off := 4) (by decide +kernel) (by decide), ?_⟩
  refine ⟨ok_iconst (z := 0) (by decide +kernel) (by decide +kernel), ?_⟩
  refine ⟨ok_iret rfl (by decide +kernel), ?_⟩
  exact trivial
theorem ms_Z_inbox : ev_Met l vc_L vt_L (gw_G b Ls xs z) my_Z_inbox (Cond.code my_Z_inbox prog_14_method_65_code 3 (some .int) :: tb_T) 1 20 (mf_Z_inbox z) := ev_sound (by decide +kernel) mg_Z_inbox
def my_Z_store : MethodName := ⟨"MessageHubModel", "store", "(I)I"⟩
def mk_Z_store (z : Nat × Nat) : ev_C := [(0, ev_fn (ev_iload 1 1)), (1, ev_call (mf_Z_isClient z) 1 4), (4, ev_fn (ev_ifeq 37 7)), (7, ev_fn (ev_aload 0 8)), (8, ev_fn (ev_getf 12 23 11)), (11, ev_fn (ev_iload 1 12)), (12, ev_fn (ev_iald 13)), (13, ev_fn (ev_ci 8 15)), (15, ev_fn (ev_aload 0 16)), (16, ev_fn (ev_iload 1 17)), (17, ev_callR 12 (mf_Z_underWay z) 2 20), (20, ev_fn (ev_imul 21)), (21, ev_fn (ev_iadd 22)), (22, ev_fn (ev_ci 64 24)), (24, ev_fn (ev_aload 0 25)), (25, ev_fn (ev_getf 12 30 28)), (28, ev_fn (ev_iload 1 29)), (29, ev_call (mf_Z_held z) 2 32), (32, ev_fn (ev_imul 33)), (33, ev_fn (ev_iadd 34)), (34, ev_fn (ev_goto 38)), (37, ev_fn (ev_ci (-1) 38)), (38, ev_fn ev_iret)]
def mf_Z_store (z : Nat × Nat) : ev_F := ev_met (mk_Z_store z) 2
set_option maxHeartbeats 4000000 in
set_option maxRecDepth 100000 in
theorem mg_Z_store : ev_AllG (ev_Good l vc_L vt_L (gw_G b Ls xs z) prog_14_method_66_code 2 (some .int) my_Z_store.name my_Z_store.cls tb_T 1 23) (mk_Z_store z) := by
  refine ⟨ok_iload_n (z := 1) (by decide +kernel) rfl, ?_⟩
  refine ⟨ok_callS (ix := 348) ms_Z_isClient (tb_cwS tw_1126 tw_1127 tw_11 tw_1128 (by decide +kernel) (by decide) (by decide)) (by decide +kernel), ?_⟩
  refine ⟨ok_ifeq (off := 33) (by decide +kernel) (by decide), ?_⟩
  refine ⟨ok_aload_n (z := 0) (by decide +kernel) rfl, ?_⟩
  refine ⟨ok_getf (ix := 51) hc_12 (by decide) hi_12 tw_921 (Or.inl rfl) (by decide +kernel), ?_⟩
  refine ⟨ok_iload_n (z := 1) (by decide +kernel) rfl, ?_⟩
  refine ⟨ok_iald rfl (by decide +kernel), ?_⟩
  refine ⟨ok_bipush (z := 8) (by decide +kernel) (by decide +kernel), ?_⟩
  refine ⟨ok_aload_n (z := 0) (by decide +kernel) rfl, ?_⟩
  refine ⟨ok_iload_n (z := 1) (by decide +kernel) rfl, ?_⟩
  refine ⟨ok_callV (ix := 243) hc_12 ms_Z_underWay (tb_cwV tw_1185 tw_1187 tv_37 tw_11 tw_1188 (by decide +kernel) (by decide) (by decide)) (by decide +kernel), ?_⟩
  refine ⟨ok_imul (by decide +kernel), ?_⟩
  refine ⟨ok_iadd (by decide +kernel), ?_⟩
  refine ⟨ok_bipush (z := 64) (by decide +kernel) (by decide +kernel), ?_⟩
  refine ⟨ok_aload_n (z := 0) (by decide +kernel) rfl, ?_⟩
  refine ⟨ok_getf (ix := 72) hc_12 (by decide) hi_12 tw_928 (Or.inl rfl) (by decide +kernel), ?_⟩
  refine ⟨ok_iload_n (z := 1) (by decide +kernel) rfl, ?_⟩
  refine ⟨ok_callS (ix := 373) ms_Z_held (tb_cwS tw_1333 tw_1334 tw_11 tw_1335 (by decide +kernel) (by decide) (by decide)) (by decide +kernel), ?_⟩
  refine ⟨ok_imul (by decide +kernel), ?_⟩
  refine ⟨ok_iadd (by decide +kernel), ?_⟩
  refine ⟨ok_goto (off := 4) (by decide +kernel) (by decide), ?_⟩
  refine ⟨ok_iconst (z := (-1)) (by decide +kernel) (by decide +kernel), ?_⟩
  refine ⟨ok_iret rfl (by decide +kernel), ?_⟩
  exact trivial
theorem ms_Z_store : ev_Met l vc_L vt_L (gw_G b Ls xs z) my_Z_store (Cond.code my_Z_store prog_14_method_66_code 2 (some .int) :: tb_T) 1 23 (mf_Z_store z) := ev_sound (by decide +kernel) mg_Z_store
def my_Z_retained : MethodName := ⟨"MessageHubModel", "retained", "(J)I"⟩
def mk_Z_retained (z : Nat × Nat) : ev_C := [(0, ev_fn (ev_lload 1 1)), (1, ev_call (mf_Z_plain z) 1 4), (4, ev_fn (ev_lstore 3 5)), (5, ev_fn (ev_aload 0 6)), (6, ev_fn (ev_lload 3 7)), (7, ev_callR 12 (mf_Z_keptPlace z) 2 10), (10, ev_fn (ev_istore 5 12)), (12, ev_fn (ev_iload 5 14)), (14, ev_fn (ev_ifge 21 17)), (17, ev_fn (ev_ci 0 18)), (18, ev_fn (ev_goto 28)), (21, ev_fn (ev_aload 0 22)), (22, ev_fn (ev_getf 12 60 25)), (25, ev_fn (ev_iload 5 27)), (27, ev_fn (ev_iald 28)), (28, ev_fn ev_iret)]
def mf_Z_retained (z : Nat × Nat) : ev_F := ev_met (mk_Z_retained z) 6
set_option maxHeartbeats 4000000 in
set_option maxRecDepth 100000 in
theorem mg_Z_retained : ev_AllG (ev_Good l vc_L vt_L (gw_G b Ls xs z) prog_14_method_67_code 6 (some .int) my_Z_retained.name my_Z_retained.cls tb_T 1 26) (mk_Z_retained z) := by
  refine ⟨ok_lload_n (z := 1) (by decide +kernel) rfl, ?_⟩
  refine ⟨ok_callS (ix := 351) ms_Z_plain (tb_cwS tw_1129 tw_1130 tw_11 tw_1131 (by decide +kernel) (by decide) (by decide)) (by decide +kernel), ?_⟩
  refine ⟨ok_lstore_n (z := 3) (by decide) (by decide +kernel) rfl, ?_⟩
  refine ⟨ok_aload_n (z := 0) (by decide +kernel) rfl, ?_⟩
  refine ⟨ok_lload_n (z := 3) (by decide +kernel) rfl, ?_⟩
  refine ⟨ok_callV (ix := 312) hc_12 ms_Z_keptPlace (tb_cwV tw_1268 tw_1270 tv_56 tw_11 tw_1271 (by decide +kernel) (by decide) (by decide)) (by decide +kernel), ?_⟩
  refine ⟨ok_istore (by decide) (by decide +kernel), ?_⟩
  refine ⟨ok_iload (by decide +kernel), ?_⟩
  refine ⟨ok_ifge (off := 7) (by decide +kernel) (by decide), ?_⟩
  refine ⟨ok_iconst (z := 0) (by decide +kernel) (by decide +kernel), ?_⟩
  refine ⟨ok_goto (off := 10) (by decide +kernel) (by decide), ?_⟩
  refine ⟨ok_aload_n (z := 0) (by decide +kernel) rfl, ?_⟩
  refine ⟨ok_getf (ix := 159) hc_12 (by decide) hi_12 tw_958 (Or.inl rfl) (by decide +kernel), ?_⟩
  refine ⟨ok_iload (by decide +kernel), ?_⟩
  refine ⟨ok_iald rfl (by decide +kernel), ?_⟩
  refine ⟨ok_iret rfl (by decide +kernel), ?_⟩
  exact trivial
theorem ms_Z_retained : ev_Met l vc_L vt_L (gw_G b Ls xs z) my_Z_retained (Cond.code my_Z_retained prog_14_method_67_code 6 (some .int) :: tb_T) 1 26 (mf_Z_retained z) := ev_sound (by decide +kernel) mg_Z_retained
end MT
