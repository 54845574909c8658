/-! Methods as lists of steps, and that the machine does what they do (written by wip/whole/gen.py). -/
section MT
variable {l : Launch} {b Ls : Nat} {xs : Nat → Int32} {z : Nat × Nat}
def my_AC_init : MethodName := ⟨"java/util/AbstractCollection", "<init>", "()V"⟩
def mk_AC_init (z : Nat × Nat) : ev_C := [(0, ev_fn (ev_aload 0 1)), (1, ev_fn (ev_obji 4)), (4, ev_fn ev_vret)]
def mf_AC_init (z : Nat × Nat) : ev_F := ev_met (mk_AC_init z) 1
set_option maxHeartbeats 4000000 in
set_option maxRecDepth 100000 in
theorem mg_AC_init : ev_AllG (ev_Good l vc_L vt_L (gw_G b Ls xs z) prog_21_method_1_code 1 none my_AC_init.name my_AC_init.cls tb_T 1 20) (mk_AC_init z) := by
  refine ⟨ok_aload_n (z := 0) (by decide +kernel) rfl, ?_⟩
  refine ⟨ok_obji (ix := 1) (by decide) (by decide) tw_52 tw_30 tw_31 (by decide +kernel), ?_⟩
  refine ⟨ok_vret rfl (by decide +kernel), ?_⟩
  exact trivial
theorem ms_AC_init : ev_Met l vc_L vt_L (gw_G b Ls xs z) my_AC_init (Cond.code my_AC_init prog_21_method_1_code 1 none :: tb_T) 1 20 (mf_AC_init z) := ev_sound (by decide +kernel) mg_AC_init
def my_AL_init : MethodName := ⟨"java/util/AbstractList", "<init>", "()V"⟩
def mk_AL_init (z : Nat × Nat) : ev_C := [(0, ev_fn (ev_aload 0 1)), (1, ev_callI (mf_AC_init z) 1 4), (4, ev_fn (ev_aload 0 5)), (5, ev_fn (ev_ci 0 6)), (6, ev_fn (ev_putf 2 2 .int 9)), (9, ev_fn ev_vret)]
def mf_AL_init (z : Nat × Nat) : ev_F := ev_met (mk_AL_init z) 1
set_option maxHeartbeats 4000000 in
set_option maxRecDepth 100000 in
theorem mg_AL_init : ev_AllG (ev_Good l vc_L vt_L (gw_G b Ls xs z) prog_22_method_1_code 1 none my_AL_init.name my_AL_init.cls tb_T 2 40) (mk_AL_init z) := by
  refine ⟨ok_aload_n (z := 0) (by decide +kernel) rfl, ?_⟩
  refine ⟨ok_callI (ix := 1) ms_AC_init (tb_cwI tw_49 tw_50 tw_3 tw_51 rfl (by decide +kernel) (by decide) (by decide)) (by decide +kernel), ?_⟩
  refine ⟨ok_aload_n (z := 0) (by decide +kernel) rfl, ?_⟩
  refine ⟨ok_iconst (z := 0) (by decide +kernel) (by decide +kernel), ?_⟩
  refine ⟨ok_putf (ix := 7) hc_2 (by decide) hi_2 ht_2 hn_2 tw_57 (Or.inl rfl) rfl (by decide +kernel) (by decide +kernel), ?_⟩
  refine ⟨ok_vret rfl (by decide +kernel), ?_⟩
  exact trivial
theorem ms_AL_init : ev_Met l vc_L vt_L (gw_G b Ls xs z) my_AL_init (Cond.code my_AL_init prog_22_method_1_code 1 none :: tb_T) 2 40 (mf_AL_init z) := ev_sound (by decide +kernel) mg_AL_init
def my_A_init : MethodName := ⟨"java/util/ArrayList", "<init>", "()V"⟩
def mk_A_init (z : Nat × Nat) : ev_C := [(0, ev_fn (ev_aload 0 1)), (1, ev_callI (mf_AL_init z) 1 4), (4, ev_fn (ev_aload 0 5)), (5, ev_fn (ev_gets (.ref z.1) 8)), (8, ev_fn (ev_putf 2 0 (.array (.object "java/lang/Object")) 11)), (11, ev_fn ev_vret)]
def mf_A_init (z : Nat × Nat) : ev_F := ev_met (mk_A_init z) 1
set_option maxHeartbeats 4000000 in
set_option maxRecDepth 100000 in
theorem mg_A_init : ev_AllG (ev_Good l vc_L vt_L (gw_G b Ls xs z) prog_23_method_2_code 1 none my_A_init.name my_A_init.cls tb_T 3 60) (mk_A_init z) := by
  refine ⟨ok_aload_n (z := 0) (by decide +kernel) rfl, ?_⟩
  refine ⟨ok_callI (ix := 1) ms_AL_init (tb_cwI tw_46 tw_47 tw_4 tw_48 rfl (by decide +kernel) (by decide) (by decide)) (by decide +kernel), ?_⟩
  refine ⟨ok_aload_n (z := 0) (by decide +kernel) rfl, ?_⟩
  refine ⟨ok_gets (ix := 39) gw_Z tw_53 (by decide +kernel), ?_⟩
  refine ⟨ok_putf (ix := 9) hc_2 (by decide) hi_2 ht_2 hn_2 tw_55 (Or.inl rfl) rfl (by decide +kernel) (by decide +kernel), ?_⟩
  refine ⟨ok_vret rfl (by decide +kernel), ?_⟩
  exact trivial
theorem ms_A_init : ev_Met l vc_L vt_L (gw_G b Ls xs z) my_A_init (Cond.code my_A_init prog_23_method_2_code 1 none :: tb_T) 3 60 (mf_A_init z) := ev_sound (by decide +kernel) mg_A_init
def my_L_init : MethodName := ⟨"MessageHub$Link", "<init>", "()V"⟩
def mk_L_init (z : Nat × Nat) : ev_C := [(0, ev_fn (ev_aload 0 1)), (1, ev_fn (ev_obji 4)), (4, ev_fn (ev_aload 0 5)), (5, ev_fn (ev_newo 2 3 ff_2 8)), (8, ev_fn (ev_dup 9)), (9, ev_callI (mf_A_init z) 1 12), (12, ev_fn (ev_putf 1 0 (.object "java/util/ArrayList") 15)), (15, ev_fn (ev_aload 0 16)), (16, ev_fn (ev_newo 2 3 ff_2 19)), (19, ev_fn (ev_dup 20)), (20, ev_callI (mf_A_init z) 1 23), (23, ev_fn (ev_putf 1 1 (.object "java/util/ArrayList") 26)), (26, ev_fn (ev_aload 0 27)), (27, ev_fn (ev_ci 0 28)), (28, ev_fn (ev_putf 1 2 .int 31)), (31, ev_fn ev_vret)]
def mf_L_init (z : Nat × Nat) : ev_F := ev_met (mk_L_init z) 1
set_option maxHeartbeats 4000000 in
set_option maxRecDepth 100000 in
theorem mg_L_init : ev_AllG (ev_Good l vc_L vt_L (gw_G b Ls xs z) prog_6_method_1_code 1 none my_L_init.name my_L_init.cls tb_T 4 80) (mk_L_init z) := by
  refine ⟨ok_aload_n (z := 0) (by decide +kernel) rfl, ?_⟩
  refine ⟨ok_obji (ix := 3) (by decide) (by decide) tw_40 tw_30 tw_31 (by decide +kernel), ?_⟩
  refine ⟨ok_aload_n (z := 0) (by decide +kernel) rfl, ?_⟩
  refine ⟨ok_newo (ix := 9) hc_2 hi_2 ht_2 hf_2 tw_41 tw_42 tw_5 (by decide +kernel), ?_⟩
  refine ⟨ok_dup (by decide +kernel), ?_⟩
  refine ⟨ok_callI (ix := 11) ms_A_init (tb_cwI tw_43 tw_44 tw_5 tw_45 rfl (by decide +kernel) (by decide) (by decide)) (by decide +kernel), ?_⟩
  refine ⟨ok_putF (ix := 12) hc_1 (by decide) hi_1 ht_1 hn_1 tw_67 rfl rfl rfl rfl (by decide +kernel) (by decide +kernel), ?_⟩
  refine ⟨ok_aload_n (z := 0) (by decide +kernel) rfl, ?_⟩
  refine ⟨ok_newo (ix := 9) hc_2 hi_2 ht_2 hf_2 tw_41 tw_42 tw_5 (by decide +kernel), ?_⟩
  refine ⟨ok_dup (by decide +kernel), ?_⟩
  refine ⟨ok_callI (ix := 11) ms_A_init (tb_cwI tw_43 tw_44 tw_5 tw_45 rfl (by decide +kernel) (by decide) (by decide)) (by decide +kernel), ?_⟩
  refine ⟨ok_putF (ix := 18) hc_1 (by decide) hi_1 ht_1 hn_1 tw_70 rfl rfl rfl rfl (by decide +kernel) (by decide +kernel), ?_⟩
  refine ⟨ok_aload_n (z := 0) (by decide +kernel) rfl, ?_⟩
  refine ⟨ok_iconst (z := 0) (by decide +kernel) (by decide +kernel), ?_⟩
  refine ⟨ok_putf (ix := 21) hc_1 (by decide) hi_1 ht_1 hn_1 tw_72 (Or.inl rfl) rfl (by decide +kernel) (by decide +kernel), ?_⟩
  refine ⟨ok_vret rfl (by decide +kernel), ?_⟩
  exact trivial
theorem ms_L_init : ev_Met l vc_L vt_L (gw_G b Ls xs z) my_L_init (Cond.code my_L_init prog_6_method_1_code 1 none :: tb_T) 4 80 (mf_L_init z) := ev_sound (by decide +kernel) mg_L_init
def my_I_init : MethodName := ⟨"MessageHub$HeldIds", "<init>", "()V"⟩
def mk_I_init (z : Nat × Nat) : ev_C := [(0, ev_fn (ev_aload 0 1)), (1, ev_fn (ev_obji 4)), (4, ev_fn ev_vret)]
def mf_I_init (z : Nat × Nat) : ev_F := ev_met (mk_I_init z) 1
set_option maxHeartbeats 4000000 in
set_option maxRecDepth 100000 in
theorem mg_I_init : ev_AllG (ev_Good l vc_L vt_L (gw_G b Ls xs z) prog_5_method_1_code 1 none my_I_init.name my_I_init.cls tb_T 1 20) (mk_I_init z) := by
  refine ⟨ok_aload_n (z := 0) (by decide +kernel) rfl, ?_⟩
  refine ⟨ok_obji (ix := 1) (by decide) (by decide) tw_99 tw_30 tw_31 (by decide +kernel), ?_⟩
  refine ⟨ok_vret rfl (by decide +kernel), ?_⟩
  exact trivial
theorem ms_I_init : ev_Met l vc_L vt_L (gw_G b Ls xs z) my_I_init (Cond.code my_I_init prog_5_method_1_code 1 none :: tb_T) 1 20 (mf_I_init z) := ev_sound (by decide +kernel) mg_I_init
def my_C_init : MethodName := ⟨"MessageHub$Client", "<init>", "(LMessageHub$Link;)V"⟩
def mk_C_init (z : Nat × Nat) : ev_C := [(0, ev_fn (ev_aload 0 1)), (1, ev_fn (ev_obji 4)), (4, ev_fn (ev_aload 0 5)), (5, ev_fn (ev_newo 2 3 ff_2 8)), (8, ev_fn (ev_dup 9)), (9, ev_callI (mf_A_init z) 1 12), (12, ev_fn (ev_putf 3 1 (.object "java/util/ArrayList") 15)), (15, ev_fn (ev_aload 0 16)), (16, ev_fn (ev_newo 4 1 ff_4 19)), (19, ev_fn (ev_dup 20)), (20, ev_callI (mf_I_init z) 1 23), (23, ev_fn (ev_putf 3 2 (.object "MessageHub$HeldIds") 26)), (26, ev_fn (ev_aload 0 27)), (27, ev_fn (ev_ci 100 29)), (29, ev_fn (ev_newi 31)), (31, ev_fn (ev_putf 3 3 (.array .int) 34)), (34, ev_fn (ev_aload 0 35)), (35, ev_fn (ev_aload 1 36)), (36, ev_fn (ev_putf 3 0 (.object "MessageHub$Link") 39)), (39, ev_fn ev_vret)]
def mf_C_init (z : Nat × Nat) : ev_F := ev_met (mk_C_init z) 2
set_option maxHeartbeats 4000000 in
set_option maxRecDepth 100000 in
theorem mg_C_init : ev_AllG (ev_Good l vc_L vt_L (gw_G b Ls xs z) prog_3_method_1_code 2 none my_C_init.name my_C_init.cls tb_T 4 80) (mk_C_init z) := by
  refine ⟨ok_aload_n (z := 0) (by decide +kernel) rfl, ?_⟩
  refine ⟨ok_obji (ix := 3) (by decide) (by decide) tw_91 tw_30 tw_31 (by decide +kernel), ?_⟩
  refine ⟨ok_aload_n (z := 0) (by decide +kernel) rfl, ?_⟩
  refine ⟨ok_newo (ix := 9) hc_2 hi_2 ht_2 hf_2 tw_92 tw_42 tw_5 (by decide +kernel), ?_⟩
  refine ⟨ok_dup (by decide +kernel), ?_⟩
  refine ⟨ok_callI (ix := 11) ms_A_init (tb_cwI tw_93 tw_44 tw_5 tw_45 rfl (by decide +kernel) (by decide) (by decide)) (by decide +kernel), ?_⟩
  refine ⟨ok_putF (ix := 12) hc_3 (by decide) hi_3 ht_3 hn_3 tw_105 rfl rfl rfl rfl (by decide +kernel) (by decide +kernel), ?_⟩
  refine ⟨ok_aload_n (z := 0) (by decide +kernel) rfl, ?_⟩
  refine ⟨ok_newo (ix := 18) hc_4 hi_4 ht_4 hf_4 tw_94 tw_95 tw_7 (by decide +kernel), ?_⟩
  refine ⟨ok_dup (by decide +kernel), ?_⟩
  refine ⟨ok_callIN (ix := 20) ms_I_init (tb_cwIN gw_n96 tw_97 tw_7 tw_98 rfl (by decide +kernel) (by decide) (by decide)) (by decide +kernel), ?_⟩
  refine ⟨ok_putF (ix := 21) hc_3 (by decide) hi_3 ht_3 hn_3 tw_107 rfl rfl rfl rfl (by decide +kernel) (by decide +kernel), ?_⟩
  refine ⟨ok_aload_n (z := 0) (by decide +kernel) rfl, ?_⟩
  refine ⟨ok_bipush (z := 100) (by decide +kernel) (by decide +kernel), ?_⟩
  refine ⟨ok_newi rfl tw_ai (by decide +kernel), ?_⟩
  refine ⟨ok_putF (ix := 25) hc_3 (by decide) hi_3 ht_3 hn_3 tw_108 rfl rfl rfl rfl (by decide +kernel) (by decide +kernel), ?_⟩
  refine ⟨ok_aload_n (z := 0) (by decide +kernel) rfl, ?_⟩
  refine ⟨ok_aload_n (z := 1) (by decide +kernel) rfl, ?_⟩
  refine ⟨ok_putF (ix := 29) hc_3 (by decide) hi_3 ht_3 hn_3 tw_104 rfl rfl rfl rfl (by decide +kernel) (by decide +kernel), ?_⟩
  refine ⟨ok_vret rfl (by decide +kernel), ?_⟩
  exact trivial
theorem ms_C_init : ev_Met l vc_L vt_L (gw_G b Ls xs z) my_C_init (Cond.code my_C_init prog_3_method_1_code 2 none :: tb_T) 4 80 (mf_C_init z) := ev_sound (by decide +kernel) mg_C_init
def my_N_init : MethodName := ⟨"MessageHub$Connection", "<init>", "()V"⟩
def mk_N_init (z : Nat × Nat) : ev_C := [(0, ev_fn (ev_aload 0 1)), (1, ev_fn (ev_obji 4)), (4, ev_fn ev_vret)]
def mf_N_init (z : Nat × Nat) : ev_F := ev_met (mk_N_init z) 1
set_option maxHeartbeats 4000000 in
set_option maxRecDepth 100000 in
theorem mg_N_init : ev_AllG (ev_Good l vc_L vt_L (gw_G b Ls xs z) prog_4_method_1_code 1 none my_N_init.name my_N_init.cls tb_T 1 20) (mk_N_init z) := by
  refine ⟨ok_aload_n (z := 0) (by decide +kernel) rfl, ?_⟩
  refine ⟨ok_obji (ix := 1) (by decide) (by decide) tw_144 tw_30 tw_31 (by decide +kernel), ?_⟩
  refine ⟨ok_vret rfl (by decide +kernel), ?_⟩
  exact trivial
theorem ms_N_init : ev_Met l vc_L vt_L (gw_G b Ls xs z) my_N_init (Cond.code my_N_init prog_4_method_1_code 1 none :: tb_T) 1 20 (mf_N_init z) := ev_sound (by decide +kernel) mg_N_init
def my_S_init : MethodName := ⟨"MessageHub$Session", "<init>", "()V"⟩
def mk_S_init (z : Nat × Nat) : ev_C := [(0, ev_fn (ev_aload 0 1)), (1, ev_fn (ev_obji 4)), (4, ev_fn (ev_aload 0 5)), (5, ev_fn (ev_newo 2 3 ff_2 8)), (8, ev_fn (ev_dup 9)), (9, ev_callI (mf_A_init z) 1 12), (12, ev_fn (ev_putf 7 0 (.object "java/util/ArrayList") 15)), (15, ev_fn (ev_aload 0 16)), (16, ev_fn (ev_newo 2 3 ff_2 19)), (19, ev_fn (ev_dup 20)), (20, ev_callI (mf_A_init z) 1 23), (23, ev_fn (ev_putf 7 1 (.object "java/util/ArrayList") 26)), (26, ev_fn (ev_aload 0 27)), (27, ev_fn (ev_newo 2 3 ff_2 30)), (30, ev_fn (ev_dup 31)), (31, ev_callI (mf_A_init z) 1 34), (34, ev_fn (ev_putf 7 2 (.object "java/util/ArrayList") 37)), (37, ev_fn (ev_aload 0 38)), (38, ev_fn (ev_newo 4 1 ff_4 41)), (41, ev_fn (ev_dup 42)), (42, ev_callI (mf_I_init z) 1 45), (45, ev_fn (ev_putf 7 3 (.object "MessageHub$HeldIds") 48)), (48, ev_fn ev_vret)]
def mf_S_init (z : Nat × Nat) : ev_F := ev_met (mk_S_init z) 1
set_option maxHeartbeats 4000000 in
set_option maxRecDepth 100000 in
theorem mg_S_init : ev_AllG (ev_Good l vc_L vt_L (gw_G b Ls xs z) prog_10_method_1_code 1 none my_S_init.name my_S_init.cls tb_T 4 80) (mk_S_init z) := by
  refine ⟨ok_aload_n (z := 0) (by decide +kernel) rfl, ?_⟩
  refine ⟨ok_obji (ix := 3) (by decide) (by decide) tw_172 tw_30 tw_31 (by decide +kernel), ?_⟩
  refine ⟨ok_aload_n (z := 0) (by decide +kernel) rfl, ?_⟩
  refine ⟨ok_newo (ix := 9) hc_2 hi_2 ht_2 hf_2 tw_173 tw_42 tw_5 (by decide +kernel), ?_⟩
  refine ⟨ok_dup (by decide +kernel), ?_⟩
  refine ⟨ok_callI (ix := 11) ms_A_init (tb_cwI tw_174 tw_44 tw_5 tw_45 rfl (by decide +kernel) (by decide) (by decide)) (by decide +kernel), ?_⟩
  refine ⟨ok_putF (ix := 12) hc_7 (by decide) hi_7 ht_7 hn_7 tw_177 rfl rfl rfl rfl (by decide +kernel) (by decide +kernel), ?_⟩
  refine ⟨ok_aload_n (z := 0) (by decide +kernel) rfl, ?_⟩
  refine ⟨ok_newo (ix := 9) hc_2 hi_2 ht_2 hf_2 tw_173 tw_42 tw_5 (by decide +kernel), ?_⟩
  refine ⟨ok_dup (by decide +kernel), ?_⟩
  refine ⟨ok_callI (ix := 11) ms_A_init (tb_cwI tw_174 tw_44 tw_5 tw_45 rfl (by decide +kernel) (by decide) (by decide)) (by decide +kernel), ?_⟩
  refine ⟨ok_putF (ix := 18) hc_7 (by decide) hi_7 ht_7 hn_7 tw_179 rfl rfl rfl rfl (by decide +kernel) (by decide +kernel), ?_⟩
  refine ⟨ok_aload_n (z := 0) (by decide +kernel) rfl, ?_⟩
  refine ⟨ok_newo (ix := 9) hc_2 hi_2 ht_2 hf_2 tw_173 tw_42 tw_5 (by decide +kernel), ?_⟩
  refine ⟨ok_dup (by decide +kernel), ?_⟩
  refine ⟨ok_callI (ix := 11) ms_A_init (tb_cwI tw_174 tw_44 tw_5 tw_45 rfl (by decide +kernel) (by decide) (by decide)) (by decide +kernel), ?_⟩
  refine ⟨ok_putF (ix := 21) hc_7 (by decide) hi_7 ht_7 hn_7 tw_181 rfl rfl rfl rfl (by decide +kernel) (by decide +kernel), ?_⟩
  refine ⟨ok_aload_n (z := 0) (by decide +kernel) rfl, ?_⟩
  refine ⟨ok_newo (ix := 24) hc_4 hi_4 ht_4 hf_4 tw_175 tw_95 tw_7 (by decide +kernel), ?_⟩
  refine ⟨ok_dup (by decide +kernel), ?_⟩
  refine ⟨ok_callIN (ix := 26) ms_I_init (tb_cwIN gw_n176 tw_97 tw_7 tw_98 rfl (by decide +kernel) (by decide) (by decide)) (by decide +kernel), ?_⟩
  refine ⟨ok_putF (ix := 27) hc_7 (by decide) hi_7 ht_7 hn_7 tw_183 rfl rfl rfl rfl (by decide +kernel) (by decide +kernel), ?_⟩
  refine ⟨ok_vret rfl (by decide +kernel), ?_⟩
  exact trivial
theorem ms_S_init : ev_Met l vc_L vt_L (gw_G b Ls xs z) my_S_init (Cond.code my_S_init prog_10_method_1_code 1 none :: tb_T) 4 80 (mf_S_init z) := ev_sound (by decide +kernel) mg_S_init
def my_B_init : MethodName := ⟨"MessageHub$Broker", "<init>", "([LMessageHub$Link;)V"⟩
def mk_B_init (z : Nat × Nat) : ev_C := [(0, ev_fn (ev_aload 0 1)), (1, ev_fn (ev_obji 4)), (4, ev_fn (ev_aload 0 5)), (5, ev_fn (ev_ci 3 6)), (6, ev_fn (ev_newq 6 9)), (9, ev_fn (ev_putf 5 1 (.array (.object "MessageHub$Connection")) 12)), (12, ev_fn (ev_aload 0 13)), (13, ev_fn (ev_ci 3 14)), (14, ev_fn (ev_newq 7 17)), (17, ev_fn (ev_putf 5 2 (.array (.object "MessageHub$Session")) 20)), (20, ev_fn (ev_aload 0 21)), (21, ev_fn (ev_newo 2 3 ff_2 24)), (24, ev_fn (ev_dup 25)), (25, ev_callI (mf_A_init z) 1 28), (28, ev_fn (ev_putf 5 3 (.object "java/util/ArrayList") 31)), (31, ev_fn (ev_aload 0 32)), (32, ev_fn (ev_ci 0 33)), (33, ev_fn (ev_putf 5 4 .int 36)), (36, ev_fn (ev_aload 0 37)), (37, ev_fn (ev_aload 1 38)), (38, ev_fn (ev_putf 5 0 (.array (.object "MessageHub$Link")) 41)), (41, ev_fn (ev_ci 0 42)), (42, ev_fn (ev_istore 2 43)), (43, ev_fn (ev_iload 2 44)), (44, ev_fn (ev_ci 3 45)), (45, ev_fn (ev_icmpge 80 48)), (48, ev_fn (ev_aload 0 49)), (49, ev_fn (ev_getf 5 1 52)), (52, ev_fn (ev_iload 2 53)), (53, ev_fn (ev_newo 6 6 ff_6 56)), (56, ev_fn (ev_dup 57)), (57, ev_callI (mf_N_init z) 1 60), (60, ev_fn (ev_aastR 61)), (61, ev_fn (ev_aload 0 62)), (62, ev_fn (ev_getf 5 2 65)), (65, ev_fn (ev_iload 2 66)), (66, ev_fn (ev_newo 7 7 ff_7 69)), (69, ev_fn (ev_dup 70)), (70, ev_callI (mf_S_init z) 1 73), (73, ev_fn (ev_aastR 74)), (74, ev_fn (ev_iinc 2 1 77)), (77, ev_fn (ev_goto 43)), (80, ev_fn ev_vret)]
def mf_B_init (z : Nat × Nat) : ev_F := ev_met (mk_B_init z) 3
set_option maxHeartbeats 4000000 in
set_option maxRecDepth 100000 in
theorem mg_B_init : ev_AllG (ev_Good l vc_L vt_L (gw_G b Ls xs z) prog_2_method_1_code 3 none my_B_init.name my_B_init.cls tb_T 5 100) (mk_B_init z) := by
  refine ⟨ok_aload_n (z := 0) (by decide +kernel) rfl, ?_⟩
  refine ⟨ok_obji (ix := 3) (by decide) (by decide) tw_133 tw_30 tw_31 (by decide +kernel), ?_⟩
  refine ⟨ok_aload_n (z := 0) (by decide +kernel) rfl, ?_⟩
  refine ⟨ok_iconst (z := 3) (by decide +kernel) (by decide +kernel), ?_⟩
  refine ⟨ok_newq (ix := 9) rfl tw_134 gw_o6 (by decide +kernel), ?_⟩
  refine ⟨ok_putF (ix := 11) hc_5 (by decide) hi_5 ht_5 hn_5 tw_206 rfl rfl rfl rfl (by decide +kernel) (by decide +kernel), ?_⟩
  refine ⟨ok_aload_n (z := 0) (by decide +kernel) rfl, ?_⟩
  refine ⟨ok_iconst (z := 3) (by decide +kernel) (by decide +kernel), ?_⟩
  refine ⟨ok_newq (ix := 17) rfl tw_136 gw_o7 (by decide +kernel), ?_⟩
  refine ⟨ok_putF (ix := 19) hc_5 (by decide) hi_5 ht_5 hn_5 tw_208 rfl rfl rfl rfl (by decide +kernel) (by decide +kernel), ?_⟩
  refine ⟨ok_aload_n (z := 0) (by decide +kernel) rfl, ?_⟩
  refine ⟨ok_newo (ix := 23) hc_2 hi_2 ht_2 hf_2 tw_138 tw_42 tw_5 (by decide +kernel), ?_⟩
  refine ⟨ok_dup (by decide +kernel), ?_⟩
  refine ⟨ok_callI (ix := 25) ms_A_init (tb_cwI tw_139 tw_44 tw_5 tw_45 rfl (by decide +kernel) (by decide) (by decide)) (by decide +kernel), ?_⟩
  refine ⟨ok_putF (ix := 26) hc_5 (by decide) hi_5 ht_5 hn_5 tw_210 rfl rfl rfl rfl (by decide +kernel) (by decide +kernel), ?_⟩
  refine ⟨ok_aload_n (z := 0) (by decide +kernel) rfl, ?_⟩
  refine ⟨ok_iconst (z := 0) (by decide +kernel) (by decide +kernel), ?_⟩
  refine ⟨ok_putf (ix := 30) hc_5 (by decide) hi_5 ht_5 hn_5 tw_211 (Or.inl rfl) rfl (by decide +kernel) (by decide +kernel), ?_⟩
  refine ⟨ok_aload_n (z := 0) (by decide +kernel) rfl, ?_⟩
  refine ⟨ok_aload_n (z := 1) (by decide +kernel) rfl, ?_⟩
  refine ⟨ok_putF (ix := 34) hc_5 (by decide) hi_5 ht_5 hn_5 tw_205 rfl rfl rfl rfl (by decide +kernel) (by decide +kernel), ?_⟩
  refine ⟨ok_iconst (z := 0) (by decide +kernel) (by decide +kernel), ?_⟩
  refine ⟨ok_istore_n (z := 2) (by decide) (by decide +kernel) rfl, ?_⟩
  refine ⟨ok_iload_n (z := 2) (by decide +kernel) rfl, ?_⟩
  refine ⟨ok_iconst (z := 3) (by decide +kernel) (by decide +kernel), ?_⟩
  refine ⟨ok_icmpge (off := 35) (by decide +kernel) (by decide), ?_⟩
  refine ⟨ok_aload_n (z := 0) (by decide +kernel) rfl, ?_⟩
  refine ⟨ok_getf (ix := 11) hc_5 (by decide) hi_5 tw_206 (Or.inl rfl) (by decide +kernel), ?_⟩
  refine ⟨ok_iload_n (z := 2) (by decide +kernel) rfl, ?_⟩
  refine ⟨ok_newo (ix := 9) hc_6 hi_6 ht_6 hf_6 tw_134 tw_140 tw_9 (by decide +kernel), ?_⟩
  refine ⟨ok_dup (by decide +kernel), ?_⟩
  refine ⟨ok_callIN (ix := 38) ms_N_init (tb_cwIN gw_n141 tw_142 tw_9 tw_143 rfl (by decide +kernel) (by decide) (by decide)) (by decide +kernel), ?_⟩
  refine ⟨ok_aastR (by decide +kernel), ?_⟩
  refine ⟨ok_aload_n (z := 0) (by decide +kernel) rfl, ?_⟩
  refine ⟨ok_getf (ix := 19) hc_5 (by decide) hi_5 tw_208 (Or.inl rfl) (by decide +kernel), ?_⟩
  refine ⟨ok_iload_n (z := 2) (by decide +kernel) rfl, ?_⟩
  refine ⟨ok_newo (ix := 17) hc_7 hi_7 ht_7 hf_7 tw_136 tw_168 tw_10 (by decide +kernel), ?_⟩
  refine ⟨ok_dup (by decide +kernel), ?_⟩
  refine ⟨ok_callIN (ix := 39) ms_S_init (tb_cwIN gw_n169 tw_170 tw_10 tw_171 rfl (by decide +kernel) (by decide) (by decide)) (by decide +kernel), ?_⟩
  refine ⟨ok_aastR (by decide +kernel), ?_⟩
  refine ⟨ok_iinc (z := 1) (by decide) (by decide +kernel) (by decide +kernel), ?_⟩
  refine ⟨ok_goto (off := (-34)) (by decide +kernel) (by decide), ?_⟩
  refine ⟨ok_vret rfl (by decide +kernel), ?_⟩
  exact trivial
theorem ms_B_init : ev_Met l vc_L vt_L (gw_G b Ls xs z) my_B_init (Cond.code my_B_init prog_2_method_1_code 3 none :: tb_T) 5 100 (mf_B_init z) := ev_sound (by decide +kernel) mg_B_init
def my_H_init : MethodName := ⟨"MessageHub", "<init>", "()V"⟩
def mk_H_init (z : Nat × Nat) : ev_C := [(0, ev_fn (ev_aload 0 1)), (1, ev_fn (ev_obji 4)), (4, ev_fn (ev_aload 0 5)), (5, ev_fn (ev_ci 3 6)), (6, ev_fn (ev_newq 4 9)), (9, ev_fn (ev_putf 0 0 (.array (.object "MessageHub$Link")) 12)), (12, ev_fn (ev_aload 0 13)), (13, ev_fn (ev_ci 3 14)), (14, ev_fn (ev_newq 5 17)), (17, ev_fn (ev_putf 0 1 (.array (.object "MessageHub$Client")) 20)), (20, ev_fn (ev_ci 0 21)), (21, ev_fn (ev_istore 1 22)), (22, ev_fn (ev_iload 1 23)), (23, ev_fn (ev_ci 3 24)), (24, ev_fn (ev_icmpge 65 27)), (27, ev_fn (ev_aload 0 28)), (28, ev_fn (ev_getf 0 0 31)), (31, ev_fn (ev_iload 1 32)), (32, ev_fn (ev_newo 1 4 ff_1 35)), (35, ev_fn (ev_dup 36)), (36, ev_callI (mf_L_init z) 1 39), (39, ev_fn (ev_aastR 40)), (40, ev_fn (ev_aload 0 41)), (41, ev_fn (ev_getf 0 1 44)), (44, ev_fn (ev_iload 1 45)), (45, ev_fn (ev_newo 3 7 ff_3 48)), (48, ev_fn (ev_dup 49)), (49, ev_fn (ev_aload 0 50)), (50, ev_fn (ev_getf 0 0 53)), (53, ev_fn (ev_iload 1 54)), (54, ev_fn (ev_aaldR 55)), (55, ev_callI (mf_C_init z) 2 58), (58, ev_fn (ev_aastR 59)), (59, ev_fn (ev_iinc 1 1 62)), (62, ev_fn (ev_goto 22)), (65, ev_fn (ev_aload 0 66)), (66, ev_fn (ev_newo 5 5 ff_5 69)), (69, ev_fn (ev_dup 70)), (70, ev_fn (ev_aload 0 71)), (71, ev_fn (ev_getf 0 0 74)), (74, ev_callI (mf_B_init z) 2 77), (77, ev_fn (ev_putf 0 2 (.object "MessageHub$Broker") 80)), (80, ev_fn ev_vret)]
def mf_H_init (z : Nat × Nat) : ev_F := ev_met (mk_H_init z) 2
set_option maxHeartbeats 4000000 in
set_option maxRecDepth 100000 in
theorem mg_H_init : ev_AllG (ev_Good l vc_L vt_L (gw_G b Ls xs z) prog_1_method_1_code 2 none my_H_init.name my_H_init.cls tb_T 6 122) (mk_H_init z) := by
  refine ⟨ok_aload_n (z := 0) (by decide +kernel) rfl, ?_⟩
  refine ⟨ok_obji (ix := 1) (by decide) (by decide) tw_29 tw_30 tw_31 (by decide +kernel), ?_⟩
  refine ⟨ok_aload_n (z := 0) (by decide +kernel) rfl, ?_⟩
  refine ⟨ok_iconst (z := 3) (by decide +kernel) (by decide +kernel), ?_⟩
  refine ⟨ok_newq (ix := 9) rfl tw_32 gw_o4 (by decide +kernel), ?_⟩
  refine ⟨ok_putF (ix := 11) hc_0 (by decide) hi_0 ht_0 hn_0 tw_224 rfl rfl rfl rfl (by decide +kernel) (by decide +kernel), ?_⟩
  refine ⟨ok_aload_n (z := 0) (by decide +kernel) rfl, ?_⟩
  refine ⟨ok_iconst (z := 3) (by decide +kernel) (by decide +kernel), ?_⟩
  refine ⟨ok_newq (ix := 15) rfl tw_34 gw_o5 (by decide +kernel), ?_⟩
  refine ⟨ok_putF (ix := 17) hc_0 (by decide) hi_0 ht_0 hn_0 tw_225 rfl rfl rfl rfl (by decide +kernel) (by decide +kernel), ?_⟩
  refine ⟨ok_iconst (z := 0) (by decide +kernel) (by decide +kernel), ?_⟩
  refine ⟨ok_istore_n (z := 1) (by decide) (by decide +kernel) rfl, ?_⟩
  refine ⟨ok_iload_n (z := 1) (by decide +kernel) rfl, ?_⟩
  refine ⟨ok_iconst (z := 3) (by decide +kernel) (by decide +kernel), ?_⟩
  refine ⟨ok_icmpge (off := 41) (by decide +kernel) (by decide), ?_⟩
  refine ⟨ok_aload_n (z := 0) (by decide +kernel) rfl, ?_⟩
  refine ⟨ok_getf (ix := 11) hc_0 (by decide) hi_0 tw_224 (Or.inl rfl) (by decide +kernel), ?_⟩
  refine ⟨ok_iload_n (z := 1) (by decide +kernel) rfl, ?_⟩
  refine ⟨ok_newo (ix := 9) hc_1 hi_1 ht_1 hf_1 tw_32 tw_36 tw_2 (by decide +kernel), ?_⟩
  refine ⟨ok_dup (by decide +kernel), ?_⟩
  refine ⟨ok_callIN (ix := 21) ms_L_init (tb_cwIN gw_n37 tw_38 tw_2 tw_39 rfl (by decide +kernel) (by decide) (by decide)) (by decide +kernel), ?_⟩
  refine ⟨ok_aastR (by decide +kernel), ?_⟩
  refine ⟨ok_aload_n (z := 0) (by decide +kernel) rfl, ?_⟩
  refine ⟨ok_getf (ix := 17) hc_0 (by decide) hi_0 tw_225 (Or.inl rfl) (by decide +kernel), ?_⟩
  refine ⟨ok_iload_n (z := 1) (by decide +kernel) rfl, ?_⟩
  refine ⟨ok_newo (ix := 15) hc_3 hi_3 ht_3 hf_3 tw_34 tw_87 tw_6 (by decide +kernel), ?_⟩
  refine ⟨ok_dup (by decide +kernel), ?_⟩
  refine ⟨ok_aload_n (z := 0) (by decide +kernel) rfl, ?_⟩
  refine ⟨ok_getf (ix := 11) hc_0 (by decide) hi_0 tw_224 (Or.inl rfl) (by decide +kernel), ?_⟩
  refine ⟨ok_iload_n (z := 1) (by decide +kernel) rfl, ?_⟩
  refine ⟨ok_aaldR (by decide +kernel), ?_⟩
  refine ⟨ok_callI (ix := 22) ms_C_init (tb_cwI tw_88 tw_89 tw_6 tw_90 rfl (by decide +kernel) (by decide) (by decide)) (by decide +kernel), ?_⟩
  refine ⟨ok_aastR (by decide +kernel), ?_⟩
  refine ⟨ok_iinc (z := 1) (by decide) (by decide +kernel) (by decide +kernel), ?_⟩
  refine ⟨ok_goto (off := (-40)) (by decide +kernel) (by decide), ?_⟩
  refine ⟨ok_aload_n (z := 0) (by decide +kernel) rfl, ?_⟩
  refine ⟨ok_newo (ix := 25) hc_5 hi_5 ht_5 hf_5 tw_128 tw_129 tw_8 (by decide +kernel), ?_⟩
  refine ⟨ok_dup (by decide +kernel), ?_⟩
  refine ⟨ok_aload_n (z := 0) (by decide +kernel) rfl, ?_⟩
  refine ⟨ok_getf (ix := 11) hc_0 (by decide) hi_0 tw_224 (Or.inl rfl) (by decide +kernel), ?_⟩
  refine ⟨ok_callI (ix := 27) ms_B_init (tb_cwI tw_130 tw_131 tw_8 tw_132 rfl (by decide +kernel) (by decide) (by decide)) (by decide +kernel), ?_⟩
  refine ⟨ok_putF (ix := 30) hc_0 (by decide) hi_0 ht_0 hn_0 tw_226 rfl rfl rfl rfl (by decide +kernel) (by decide +kernel), ?_⟩
  refine ⟨ok_vret rfl (by decide +kernel), ?_⟩
  exact trivial
theorem ms_H_init : ev_Met l vc_L vt_L (gw_G b Ls xs z) my_H_init (Cond.code my_H_init prog_1_method_1_code 2 none :: tb_T) 6 122 (mf_H_init z) := ev_sound (by decide +kernel) mg_H_init
def my_H_isWithin : MethodName := ⟨"MessageHub", "isWithin", "(III)Z"⟩
def mk_H_isWithin (z : Nat × Nat) : ev_C := [(0, ev_fn (ev_iload 1 1)), (1, ev_fn (ev_iload 0 2)), (2, ev_fn (ev_icmpgt 14 5)), (5, ev_fn (ev_iload 0 6)), (6, ev_fn (ev_iload 2 7)), (7, ev_fn (ev_icmpgt 14 10)), (10, ev_fn (ev_ci 1 11)), (11, ev_fn (ev_goto 15)), (14, ev_fn (ev_ci 0 15)), (15, ev_fn (ev_zret .boolean))]
def mf_H_isWithin (z : Nat × Nat) : ev_F := ev_met (mk_H_isWithin z) 3
set_option maxHeartbeats 4000000 in
set_option maxRecDepth 100000 in
theorem mg_H_isWithin : ev_AllG (ev_Good l vc_L vt_L (gw_G b Ls xs z) prog_1_method_22_code 3 (some .boolean) my_H_isWithin.name my_H_isWithin.cls tb_T 0 0) (mk_H_isWithin z) := by
  refine ⟨ok_iload_n (z := 1) (by decide +kernel) rfl, ?_⟩
  refine ⟨ok_iload_n (z := 0) (by decide +kernel) rfl, ?_⟩
  refine ⟨ok_icmpgt (off := 12) (by decide +kernel) (by decide), ?_⟩
  refine ⟨ok_iload_n (z := 0) (by decide +kernel) rfl, ?_⟩
  refine ⟨ok_iload_n (z := 2) (by decide +kernel) rfl, ?_⟩
  refine ⟨ok_icmpgt (off := 7) (by decide +kernel) (by decide), ?_⟩
  refine ⟨ok_iconst (z := 1) (by decide +kernel) (by decide +kernel), ?_⟩
  refine ⟨ok_goto (off := 4) (by decide +kernel) (by decide), ?_⟩
  refine ⟨ok_iconst (z := 0) (by decide +kernel) (by decide +kernel), ?_⟩
  refine ⟨ok_zret rfl (by decide +kernel), ?_⟩
  exact trivial
theorem ms_H_isWithin : ev_Met l vc_L vt_L (gw_G b Ls xs z) my_H_isWithin (Cond.code my_H_isWithin prog_1_method_22_code 3 (some .boolean) :: tb_T) 0 0 (mf_H_isWithin z) := ev_sound (by decide +kernel) mg_H_isWithin
def my_T_letterAt : MethodName := ⟨"MessageHub$Text", "letterAt", "(JI)I"⟩
def mk_T_letterAt (z : Nat × Nat) : ev_C := [(0, ev_fn (ev_iload 2 1)), (1, ev_fn (ev_ci 0 2)), (2, ev_fn (ev_ci 7 4)), (4, ev_call (mf_H_isWithin z) 3 7), (7, ev_fn (ev_ifeq 27 10)), (10, ev_fn (ev_lload 0 11)), (11, ev_fn (ev_ci 56 13)), (13, ev_fn (ev_ci 8 15)), (15, ev_fn (ev_iload 2 16)), (16, ev_fn (ev_imul 17)), (17, ev_fn (ev_isub 18)), (18, ev_fn (ev_lushr 19)), (19, ev_fn (ev_l2i 20)), (20, ev_fn (ev_ci 255 23)), (23, ev_fn (ev_iand 24)), (24, ev_fn (ev_goto 28)), (27, ev_fn (ev_ci 0 28)), (28, ev_fn ev_iret)]
def mf_T_letterAt (z : Nat × Nat) : ev_F := ev_met (mk_T_letterAt z) 3
set_option maxHeartbeats 4000000 in
set_option maxRecDepth 100000 in
theorem mg_T_letterAt : ev_AllG (ev_Good l vc_L vt_L (gw_G b Ls xs z) prog_12_method_8_code 3 (some .int) my_T_letterAt.name my_T_letterAt.cls tb_T 1 22) (mk_T_letterAt z) := by
  refine ⟨ok_iload_n (z := 2) (by decide +kernel) rfl, ?_⟩
  refine ⟨ok_iconst (z := 0) (by decide +kernel) (by decide +kernel), ?_⟩
  refine ⟨ok_bipush (z := 7) (by decide +kernel) (by decide +kernel), ?_⟩
  refine ⟨ok_callSN (ix := 33) ms_H_isWithin (tb_cwSN gw_n244 tw_245 tw_1 tw_246 (by decide +kernel) (by decide) (by decide)) (by decide +kernel), ?_⟩
  refine ⟨ok_ifeq (off := 20) (by decide +kernel) (by decide), ?_⟩
  refine ⟨ok_lload_n (z := 0) (by decide +kernel) rfl, ?_⟩
  refine ⟨ok_bipush (z := 56) (by decide +kernel) (by decide +kernel), ?_⟩
  refine ⟨ok_bipush (z := 8) (by decide +kernel) (by decide +kernel), ?_⟩
  refine ⟨ok_iload_n (z := 2) (by decide +kernel) rfl, ?_⟩
  refine ⟨ok_imul (by decide +kernel), ?_⟩
  refine ⟨ok_isub (by decide +kernel), ?_⟩
  refine ⟨ok_lushr (by decide +kernel), ?_⟩
  refine ⟨ok_l2i (by decide +kernel), ?_⟩
  refine ⟨ok_sipush (z := 255) (by decide +kernel) (by decide +kernel), ?_⟩
  refine ⟨ok_iand (by decide +kernel), ?_⟩
  refine ⟨ok_goto (off := 4) (by decide +kernel) (by decide), ?_⟩
  refine ⟨ok_iconst (z := 0) (by decide +kernel) (by decide +kernel), ?_⟩
  refine ⟨ok_iret rfl (by decide +kernel), ?_⟩
  exact trivial
theorem ms_T_letterAt : ev_Met l vc_L vt_L (gw_G b Ls xs z) my_T_letterAt (Cond.code my_T_letterAt prog_12_method_8_code 3 (some .int) :: tb_T) 1 22 (mf_T_letterAt z) := ev_sound (by decide +kernel) mg_T_letterAt
def my_T_read : MethodName := ⟨"MessageHub$Text", "read", "(J)J"⟩
def mk_T_read (z : Nat × Nat) : ev_C := [(0, ev_fn (ev_cl 0 1)), (1, ev_fn (ev_lstore 2 2)), (2, ev_fn (ev_ci 0 3)), (3, ev_fn (ev_istore 4 5)), (5, ev_fn (ev_ci 0 6)), (6, ev_fn (ev_istore 5 8)), (8, ev_fn (ev_iload 5 10)), (10, ev_fn (ev_ci 8 12)), (12, ev_fn (ev_icmpge 54 15)), (15, ev_fn (ev_lload 0 16)), (16, ev_fn (ev_iload 5 18)), (18, ev_call (mf_T_letterAt z) 2 21), (21, ev_fn (ev_i2l 22)), (22, ev_fn (ev_lstore 6 24)), (24, ev_fn (ev_lload 6 26)), (26, ev_fn (ev_cl 0 27)), (27, ev_fn (ev_lcmp 28)), (28, ev_fn (ev_ifeq 48 31)), (31, ev_fn (ev_lload 2 32)), (32, ev_fn (ev_lload 6 34)), (34, ev_fn (ev_ci 56 36)), (36, ev_fn (ev_ci 8 38)), (38, ev_fn (ev_iload 4 40)), (40, ev_fn (ev_imul 41)), (41, ev_fn (ev_isub 42)), (42, ev_fn (ev_lshl 43)), (43, ev_fn (ev_lor 44)), (44, ev_fn (ev_lstore 2 45)), (45, ev_fn (ev_iinc 4 1 48)), (48, ev_fn (ev_iinc 5 1 51)), (51, ev_fn (ev_goto 8)), (54, ev_fn (ev_lload 2 55)), (55, ev_fn ev_lret)]
def mf_T_read (z : Nat × Nat) : ev_F := ev_met (mk_T_read z) 8
set_option maxHeartbeats 4000000 in
set_option maxRecDepth 100000 in
theorem mg_T_read : ev_AllG (ev_Good l vc_L vt_L (gw_G b Ls xs z) prog_12_method_2_code 8 (some .long) my_T_read.name my_T_read.cls tb_T 2 44) (mk_T_read z) := by
  refine ⟨ok_lconst (z := 0) (by decide +kernel) (by decide +kernel), ?_⟩
  refine ⟨ok_lstore_n (z := 2) (by decide) (by decide +kernel) rfl, ?_⟩
  refine ⟨ok_iconst (z := 0) (by decide +kernel) (by decide +kernel), ?_⟩
  refine ⟨ok_istore (by decide) (by decide +kernel), ?_⟩
  refine ⟨ok_iconst (z := 0) (by decide +kernel) (by decide +kernel), ?_⟩
  refine ⟨ok_istore (by decide) (by decide +kernel), ?_⟩
  refine ⟨ok_iload (by decide +kernel), ?_⟩
  refine ⟨ok_bipush (z := 8) (by decide +kernel) (by decide +kernel), ?_⟩
  refine ⟨ok_icmpge (off := 42) (by decide +kernel) (by decide), ?_⟩
  refine ⟨ok_lload_n (z := 0) (by decide +kernel) rfl, ?_⟩
  refine ⟨ok_iload (by decide +kernel), ?_⟩
  refine ⟨ok_callS (ix := 9) ms_T_letterAt (tb_cwS tw_241 tw_242 tw_12 tw_243 (by decide +kernel) (by decide) (by decide)) (by decide +kernel), ?_⟩
  refine ⟨ok_i2l (by decide +kernel), ?_⟩
  refine ⟨ok_lstore (by decide) (by decide +kernel), ?_⟩
  refine ⟨ok_lload (by decide +kernel), ?_⟩
  refine ⟨ok_lconst (z := 0) (by decide +kernel) (by decide +kernel), ?_⟩
  refine ⟨ok_lcmp (by decide +kernel), ?_⟩
  refine ⟨ok_ifeq (off := 20) (by decide +kernel) (by decide), ?_⟩
  refine ⟨ok_lload_n (z := 2) (by decide +kernel) rfl, ?_⟩
  refine ⟨ok_lload (by decide +kernel), ?_⟩
  refine ⟨ok_bipush (z := 56) (by decide +kernel) (by decide +kernel), ?_⟩
  refine ⟨ok_bipush (z := 8) (by decide +kernel) (by decide +kernel), ?_⟩
  refine ⟨ok_iload (by decide +kernel), ?_⟩
  refine ⟨ok_imul (by decide +kernel), ?_⟩
  refine ⟨ok_isub (by decide +kernel), ?_⟩
  refine ⟨ok_lshl (by decide +kernel), ?_⟩
  refine ⟨ok_lor (by decide +kernel), ?_⟩
  refine ⟨ok_lstore_n (z := 2) (by decide) (by decide +kernel) rfl, ?_⟩
  refine ⟨ok_iinc (z := 1) (by decide) (by decide +kernel) (by decide +kernel), ?_⟩
  refine ⟨ok_iinc (z := 1) (by decide) (by decide +kernel) (by decide +kernel), ?_⟩
  refine ⟨ok_goto (off := (-43)) (by decide +kernel) (by decide), ?_⟩
  refine ⟨ok_lload_n (z := 2) (by decide +kernel) rfl, ?_⟩
  refine ⟨ok_lret rfl (by decide +kernel), ?_⟩
  exact trivial
theorem ms_T_read : ev_Met l vc_L vt_L (gw_G b Ls xs z) my_T_read (Cond.code my_T_read prog_12_method_2_code 8 (some .long) :: tb_T) 2 44 (mf_T_read z) := ev_sound (by decide +kernel) mg_T_read
def my_H_isClient : MethodName := ⟨"MessageHub", "isClient", "(I)Z"⟩
def mk_H_isClient (z : Nat × Nat) : ev_C := [(0, ev_fn (ev_iload 0 1)), (1, ev_fn (ev_ci 0 2)), (2, ev_fn (ev_ci 2 3)), (3, ev_call (mf_H_isWithin z) 3 6), (6, ev_fn (ev_zret .boolean))]
def mf_H_isClient (z : Nat × Nat) : ev_F := ev_met (mk_H_isClient z) 1
set_option maxHeartbeats 4000000 in
set_option maxRecDepth 100000 in
theorem mg_H_isClient : ev_AllG (ev_Good l vc_L vt_L (gw_G b Ls xs z) prog_1_method_23_code 1 (some .boolean) my_H_isClient.name my_H_isClient.cls tb_T 1 22) (mk_H_isClient z) := by
  refine ⟨ok_iload_n (z := 0) (by decide +kernel) rfl, ?_⟩
  refine ⟨ok_iconst (z := 0) (by decide +kernel) (by decide +kernel), ?_⟩
  refine ⟨ok_iconst (z := 2) (by decide +kernel) (by decide +kernel), ?_⟩
  refine ⟨ok_callS (ix := 56) ms_H_isWithin (tb_cwS tw_250 tw_245 tw_1 tw_246 (by decide +kernel) (by decide) (by decide)) (by decide +kernel), ?_⟩
  refine ⟨ok_zret rfl (by decide +kernel), ?_⟩
  exact trivial
theorem ms_H_isClient : ev_Met l vc_L vt_L (gw_G b Ls xs z) my_H_isClient (Cond.code my_H_isClient prog_1_method_23_code 1 (some .boolean) :: tb_T) 1 22 (mf_H_isClient z) := ev_sound (by decide +kernel) mg_H_isClient
def my_T_isPlain : MethodName := ⟨"MessageHub$Text", "isPlain", "(I)Z"⟩
def mk_T_isPlain (z : Nat × Nat) : ev_C := [(0, ev_fn (ev_iload 0 1)), (1, ev_fn (ev_ci 97 3)), (3, ev_fn (ev_ci 122 5)), (5, ev_call (mf_H_isWithin z) 3 8), (8, ev_fn (ev_ifne 34 11)), (11, ev_fn (ev_iload 0 12)), (12, ev_fn (ev_ci 48 14)), (14, ev_fn (ev_ci 57 16)), (16, ev_call (mf_H_isWithin z) 3 19), (19, ev_fn (ev_ifne 34 22)), (22, ev_fn (ev_iload 0 23)), (23, ev_fn (ev_ci 36 25)), (25, ev_fn (ev_icmpeq 34 28)), (28, ev_fn (ev_iload 0 29)), (29, ev_fn (ev_ci 47 31)), (31, ev_fn (ev_icmpne 38 34)), (34, ev_fn (ev_ci 1 35)), (35, ev_fn (ev_goto 39)), (38, ev_fn (ev_ci 0 39)), (39, ev_fn (ev_zret .boolean))]
def mf_T_isPlain (z : Nat × Nat) : ev_F := ev_met (mk_T_isPlain z) 1
set_option maxHeartbeats 4000000 in
set_option maxRecDepth 100000 in
theorem mg_T_isPlain : ev_AllG (ev_Good l vc_L vt_L (gw_G b Ls xs z) prog_12_method_6_code 1 (some .boolean) my_T_isPlain.name my_T_isPlain.cls tb_T 1 22) (mk_T_isPlain z) := by
  refine ⟨ok_iload_n (z := 0) (by decide +kernel) rfl, ?_⟩
  refine ⟨ok_bipush (z := 97) (by decide +kernel) (by decide +kernel), ?_⟩
  refine ⟨ok_bipush (z := 122) (by decide +kernel) (by decide +kernel), ?_⟩
  refine ⟨ok_callSN (ix := 33) ms_H_isWithin (tb_cwSN gw_n244 tw_245 tw_1 tw_246 (by decide +kernel) (by decide) (by decide)) (by decide +kernel), ?_⟩
  refine ⟨ok_ifne (off := 26) (by decide +kernel) (by decide), ?_⟩
  refine ⟨ok_iload_n (z := 0) (by decide +kernel) rfl, ?_⟩
  refine ⟨ok_bipush (z := 48) (by decide +kernel) (by decide +kernel), ?_⟩
  refine ⟨ok_bipush (z := 57) (by decide +kernel) (by decide +kernel), ?_⟩
  refine ⟨ok_callSN (ix := 33) ms_H_isWithin (tb_cwSN gw_n244 tw_245 tw_1 tw_246 (by decide +kernel) (by decide) (by decide)) (by decide +kernel), ?_⟩
  refine ⟨ok_ifne (off := 15) (by decide +kernel) (by decide), ?_⟩
  refine ⟨ok_iload_n (z := 0) (by decide +kernel) rfl, ?_⟩
  refine ⟨ok_bipush (z := 36) (by decide +kernel) (by decide +kernel), ?_⟩
  refine ⟨ok_icmpeq (off := 9) (by decide +kernel) (by decide), ?_⟩
  refine ⟨ok_iload_n (z := 0) (by decide +kernel) rfl, ?_⟩
  refine ⟨ok_bipush (z := 47) (by decide +kernel) (by decide +kernel), ?_⟩
  refine ⟨ok_icmpne (off := 7) (by decide +kernel) (by decide), ?_⟩
  refine ⟨ok_iconst (z := 1) (by decide +kernel) (by decide +kernel), ?_⟩
  refine ⟨ok_goto (off := 4) (by decide +kernel) (by decide), ?_⟩
  refine ⟨ok_iconst (z := 0) (by decide +kernel) (by decide +kernel), ?_⟩
  refine ⟨ok_zret rfl (by decide +kernel), ?_⟩
  exact trivial
theorem ms_T_isPlain : ev_Met l vc_L vt_L (gw_G b Ls xs z) my_T_isPlain (Cond.code my_T_isPlain prog_12_method_6_code 1 (some .boolean) :: tb_T) 1 22 (mf_T_isPlain z) := ev_sound (by decide +kernel) mg_T_isPlain
def my_T_isTopic : MethodName := ⟨"MessageHub$Text", "isTopic", "(J)Z"⟩
def mk_T_isTopic (z : Nat × Nat) : ev_C := [(0, ev_fn (ev_ci 0 1)), (1, ev_fn (ev_istore 2 2)), (2, ev_fn (ev_iload 2 3)), (3, ev_fn (ev_ci 8 5)), (5, ev_fn (ev_icmpge 33 8)), (8, ev_fn (ev_lload 0 9)), (9, ev_fn (ev_iload 2 10)), (10, ev_call (mf_T_letterAt z) 2 13), (13, ev_fn (ev_istore 3 14)), (14, ev_fn (ev_iload 3 15)), (15, ev_fn (ev_ifeq 27 18)), (18, ev_fn (ev_iload 3 19)), (19, ev_call (mf_T_isPlain z) 1 22), (22, ev_fn (ev_ifne 27 25)), (25, ev_fn (ev_ci 0 26)), (26, ev_fn (ev_zret .boolean)), (27, ev_fn (ev_iinc 2 1 30)), (30, ev_fn (ev_goto 2)), (33, ev_fn (ev_lload 0 34)), (34, ev_fn (ev_cl 0 35)), (35, ev_fn (ev_lcmp 36)), (36, ev_fn (ev_ifeq 43 39)), (39, ev_fn (ev_ci 1 40)), (40, ev_fn (ev_goto 44)), (43, ev_fn (ev_ci 0 44)), (44, ev_fn (ev_zret .boolean))]
def mf_T_isTopic (z : Nat × Nat) : ev_F := ev_met (mk_T_isTopic z) 4
set_option maxHeartbeats 4000000 in
set_option maxRecDepth 100000 in
theorem mg_T_isTopic : ev_AllG (ev_Good l vc_L vt_L (gw_G b Ls xs z) prog_12_method_3_code 4 (some .boolean) my_T_isTopic.name my_T_isTopic.cls tb_T 2 44) (mk_T_isTopic z) := by
  refine ⟨ok_iconst (z := 0) (by decide +kernel) (by decide +kernel), ?_⟩
  refine ⟨ok_istore_n (z := 2) (by decide) (by decide +kernel) rfl, ?_⟩
  refine ⟨ok_iload_n (z := 2) (by decide +kernel) rfl, ?_⟩
  refine ⟨ok_bipush (z := 8) (by decide +kernel) (by decide +kernel), ?_⟩
  refine ⟨ok_icmpge (off := 28) (by decide +kernel) (by decide), ?_⟩
  refine ⟨ok_lload_n (z := 0) (by decide +kernel) rfl, ?_⟩
  refine ⟨ok_iload_n (z := 2) (by decide +kernel) rfl, ?_⟩
  refine ⟨ok_callS (ix := 9) ms_T_letterAt (tb_cwS tw_241 tw_242 tw_12 tw_243 (by decide +kernel) (by decide) (by decide)) (by decide +kernel), ?_⟩
  refine ⟨ok_istore_n (z := 3) (by decide) (by decide +kernel) rfl, ?_⟩
  refine ⟨ok_iload_n (z := 3) (by decide +kernel) rfl, ?_⟩
  refine ⟨ok_ifeq (off := 12) (by decide +kernel) (by decide), ?_⟩
  refine ⟨ok_iload_n (z := 3) (by decide +kernel) rfl, ?_⟩
  refine ⟨ok_callS (ix := 15) ms_T_isPlain (tb_cwS tw_254 tw_255 tw_12 tw_256 (by decide +kernel) (by decide) (by decide)) (by decide +kernel), ?_⟩
  refine ⟨ok_ifne (off := 5) (by decide +kernel) (by decide), ?_⟩
  refine ⟨ok_iconst (z := 0) (by decide +kernel) (by decide +kernel), ?_⟩
  refine ⟨ok_zret rfl (by decide +kernel), ?_⟩
  refine ⟨ok_iinc (z := 1) (by decide) (by decide +kernel) (by decide +kernel), ?_⟩
  refine ⟨ok_goto (off := (-28)) (by decide +kernel) (by decide), ?_⟩
  refine ⟨ok_lload_n (z := 0) (by decide +kernel) rfl, ?_⟩
  refine ⟨ok_lconst (z := 0) (by decide +kernel) (by decide +kernel), ?_⟩
  refine ⟨ok_lcmp (by decide +kernel), ?_⟩
  refine ⟨ok_ifeq (off := 7) (by decide +kernel) (by decide), ?_⟩
  refine ⟨ok_iconst (z := 1) (by decide +kernel) (by decide +kernel), ?_⟩
  refine ⟨ok_goto (off := 4) (by decide +kernel) (by decide), ?_⟩
  refine ⟨ok_iconst (z := 0) (by decide +kernel) (by decide +kernel), ?_⟩
  refine ⟨ok_zret rfl (by decide +kernel), ?_⟩
  exact trivial
theorem ms_T_isTopic : ev_Met l vc_L vt_L (gw_G b Ls xs z) my_T_isTopic (Cond.code my_T_isTopic prog_12_method_3_code 4 (some .boolean) :: tb_T) 2 44 (mf_T_isTopic z) := ev_sound (by decide +kernel) mg_T_isTopic
def my_C_setWill : MethodName := ⟨"MessageHub$Client", "setWill", "(JI)V"⟩
def mk_C_setWill (z : Nat × Nat) : ev_C := [(0, ev_fn (ev_aload 0 1)), (1, ev_fn (ev_lload 1 2)), (2, ev_fn (ev_putf 3 5 .long 5)), (5, ev_fn (ev_aload 0 6)), (6, ev_fn (ev_iload 3 7)), (7, ev_fn (ev_putf 3 6 .int 10)), (10, ev_fn ev_vret)]
def mf_C_setWill (z : Nat × Nat) : ev_F := ev_met (mk_C_setWill z) 4
set_option maxHeartbeats 4000000 in
set_option maxRecDepth 100000 in
theorem mg_C_setWill : ev_AllG (ev_Good l vc_L vt_L (gw_G b Ls xs z) prog_3_method_2_code 4 none my_C_setWill.name my_C_setWill.cls tb_T 0 0) (mk_C_setWill z) := by
  refine ⟨ok_aload_n (z := 0) (by decide +kernel) rfl, ?_⟩
  refine ⟨ok_lload_n (z := 1) (by decide +kernel) rfl, ?_⟩
  refine ⟨ok_putf (ix := 33) hc_3 (by decide) hi_3 ht_3 hn_3 tw_110 (Or.inl rfl) rfl (by decide +kernel) (by decide +kernel), ?_⟩
  refine ⟨ok_aload_n (z := 0) (by decide +kernel) rfl, ?_⟩
  refine ⟨ok_iload_n (z := 3) (by decide +kernel) rfl, ?_⟩
  refine ⟨ok_putf (ix := 37) hc_3 (by decide) hi_3 ht_3 hn_3 tw_111 (Or.inl rfl) rfl (by decide +kernel) (by decide +kernel), ?_⟩
  refine ⟨ok_vret rfl (by decide +kernel), ?_⟩
  exact trivial
theorem ms_C_setWill : ev_Met l vc_L vt_L (gw_G b Ls xs z) my_C_setWill (Cond.code my_C_setWill prog_3_method_2_code 4 none :: tb_T) 0 0 (mf_C_setWill z) := ev_sound (by decide +kernel) mg_C_setWill
def my_H_will : MethodName := ⟨"MessageHub", "will", "(IJI)Z"⟩
def mk_H_will (z : Nat × Nat) : ev_C := [(0, ev_fn (ev_lload 2 1)), (1, ev_call (mf_T_read z) 1 4), (4, ev_fn (ev_lstore 5 6)), (6, ev_fn (ev_iload 1 7)), (7, ev_call (mf_H_isClient z) 1 10), (10, ev_fn (ev_ifeq 27 13)), (13, ev_fn (ev_lload 2 14)), (14, ev_fn (ev_cl 0 15)), (15, ev_fn (ev_lcmp 16)), (16, ev_fn (ev_ifeq 29 19)), (19, ev_fn (ev_lload 5 21)), (21, ev_call (mf_T_isTopic z) 1 24), (24, ev_fn (ev_ifne 29 27)), (27, ev_fn (ev_ci 0 28)), (28, ev_fn (ev_zret .boolean)), (29, ev_fn (ev_aload 0 30)), (30, ev_fn (ev_getf 0 1 33)), (33, ev_fn (ev_iload 1 34)), (34, ev_fn (ev_aaldR 35)), (35, ev_fn (ev_lload 5 37)), (37, ev_fn (ev_iload 4 39)), (39, ev_callR 3 (mf_C_setWill z) 3 42), (42, ev_fn (ev_ci 1 43)), (43, ev_fn (ev_zret .boolean))]
def mf_H_will (z : Nat × Nat) : ev_F := ev_met (mk_H_will z) 7
set_option maxHeartbeats 4000000 in
set_option maxRecDepth 100000 in
theorem mg_H_will : ev_AllG (ev_Good l vc_L vt_L (gw_G b Ls xs z) prog_1_method_2_code 7 (some .boolean) my_H_will.name my_H_will.cls tb_T 3 71) (mk_H_will z) := by
  refine ⟨ok_lload_n (z := 2) (by decide +kernel) rfl, ?_⟩
  refine ⟨ok_callS (ix := 34) ms_T_read (tb_cwS tw_238 tw_239 tw_12 tw_240 (by decide +kernel) (by decide) (by decide)) (by decide +kernel), ?_⟩
  refine ⟨ok_lstore (by decide) (by decide +kernel), ?_⟩
  refine ⟨ok_iload_n (z := 1) (by decide +kernel) rfl, ?_⟩
  refine ⟨ok_callS (ix := 40) ms_H_isClient (tb_cwS tw_247 tw_248 tw_1 tw_249 (by decide +kernel) (by decide) (by decide)) (by decide +kernel), ?_⟩
  refine ⟨ok_ifeq (off := 17) (by decide +kernel) (by decide), ?_⟩
  refine ⟨ok_lload_n (z := 2) (by decide +kernel) rfl, ?_⟩
  refine ⟨ok_lconst (z := 0) (by decide +kernel) (by decide +kernel), ?_⟩
  refine ⟨ok_lcmp (by decide +kernel), ?_⟩
  refine ⟨ok_ifeq (off := 13) (by decide +kernel) (by decide), ?_⟩
  refine ⟨ok_lload (by decide +kernel), ?_⟩
  refine ⟨ok_callS (ix := 44) ms_T_isTopic (tb_cwS tw_251 tw_252 tw_12 tw_253 (by decide +kernel) (by decide) (by decide)) (by decide +kernel), ?_⟩
  refine ⟨ok_ifne (off := 5) (by decide +kernel) (by decide), ?_⟩
  refine ⟨ok_iconst (z := 0) (by decide +kernel) (by decide +kernel), ?_⟩
  refine ⟨ok_zret rfl (by decide +kernel), ?_⟩
  refine ⟨ok_aload_n (z := 0) (by decide +kernel) rfl, ?_⟩
  refine ⟨ok_getf (ix := 17) hc_0 (by decide) hi_0 tw_225 (Or.inl rfl) (by decide +kernel), ?_⟩
  refine ⟨ok_iload_n (z := 1) (by decide +kernel) rfl, ?_⟩
  refine ⟨ok_aaldR (by decide +kernel), ?_⟩
  refine ⟨ok_lload (by decide +kernel), ?_⟩
  refine ⟨ok_iload (by decide +kernel), ?_⟩
  refine ⟨ok_callV (ix := 48) hc_3 ms_C_setWill (tb_cwV tw_257 tw_258 tw_259 tw_6 tw_260 (by decide +kernel) (by decide) (by decide)) (by decide +kernel), ?_⟩
  refine ⟨ok_iconst (z := 1) (by decide +kernel) (by decide +kernel), ?_⟩
  refine ⟨ok_zret rfl (by decide +kernel), ?_⟩
  exact trivial
theorem ms_H_will : ev_Met l vc_L vt_L (gw_G b Ls xs z) my_H_will (Cond.code my_H_will prog_1_method_2_code 7 (some .boolean) :: tb_T) 3 71 (mf_H_will z) := ev_sound (by decide +kernel) mg_H_will
def my_P_init : MethodName := ⟨"MessageHub$Packet", "<init>", "(III)V"⟩
def mk_P_init (z : Nat × Nat) : ev_C := [(0, ev_fn (ev_aload 0 1)), (1, ev_fn (ev_obji 4)), (4, ev_fn (ev_aload 0 5)), (5, ev_fn (ev_iload 1 6)), (6, ev_fn (ev_putf 8 0 .int 9)), (9, ev_fn (ev_aload 0 10)), (10, ev_fn (ev_iload 2 11)), (11, ev_fn (ev_putf 8 1 .int 14)), (14, ev_fn (ev_aload 0 15)), (15, ev_fn (ev_iload 3 16)), (16, ev_fn (ev_putf 8 2 .int 19)), (19, ev_fn ev_vret)]
def mf_P_init (z : Nat × Nat) : ev_F := ev_met (mk_P_init z) 4
set_option maxHeartbeats 4000000 in
set_option maxRecDepth 100000 in
theorem mg_P_init : ev_AllG (ev_Good l vc_L vt_L (gw_G b Ls xs z) prog_8_method_1_code 4 none my_P_init.name my_P_init.cls tb_T 1 20) (mk_P_init z) := by
  refine ⟨ok_aload_n (z := 0) (by decide +kernel) rfl, ?_⟩
  refine ⟨ok_obji (ix := 3) (by decide) (by decide) tw_277 tw_30 tw_31 (by decide +kernel), ?_⟩
  refine ⟨ok_aload_n (z := 0) (by decide +kernel) rfl, ?_⟩
  refine ⟨ok_iload_n (z := 1) (by decide +kernel) rfl, ?_⟩
  refine ⟨ok_putF (ix := 9) hc_8 (by decide) hi_8 ht_8 hn_8 tw_278 rfl rfl rfl rfl (by decide +kernel) (by decide +kernel), ?_⟩
  refine ⟨ok_aload_n (z := 0) (by decide +kernel) rfl, ?_⟩
  refine ⟨ok_iload_n (z := 2) (by decide +kernel) rfl, ?_⟩
  refine ⟨ok_putF (ix := 15) hc_8 (by decide) hi_8 ht_8 hn_8 tw_282 rfl rfl rfl rfl (by decide +kernel) (by decide +kernel), ?_⟩
  refine ⟨ok_aload_n (z := 0) (by decide +kernel) rfl, ?_⟩
  refine ⟨ok_iload_n (z := 3) (by decide +kernel) rfl, ?_⟩
  refine ⟨ok_putF (ix := 18) hc_8 (by decide) hi_8 ht_8 hn_8 tw_285 rfl rfl rfl rfl (by decide +kernel) (by decide +kernel), ?_⟩
  refine ⟨ok_vret rfl (by decide +kernel), ?_⟩
  exact trivial
theorem ms_P_init : ev_Met l vc_L vt_L (gw_G b Ls xs z) my_P_init (Cond.code my_P_init prog_8_method_1_code 4 none :: tb_T) 1 20 (mf_P_init z) := ev_sound (by decide +kernel) mg_P_init
def my_P_ofConnect : MethodName := ⟨"MessageHub$Packet", "ofConnect", "(ZIIIJI)LMessageHub$Packet;"⟩
def mk_P_ofConnect (z : Nat × Nat) : ev_C := [(0, ev_fn (ev_newo 8 10 ff_8 3)), (3, ev_fn (ev_dup 4)), (4, ev_fn (ev_ci 1 5)), (5, ev_fn (ev_ci 0 6)), (6, ev_fn (ev_iload 1 7)), (7, ev_callI (mf_P_init z) 4 10), (10, ev_fn (ev_astore 7 12)), (12, ev_fn (ev_aload 7 14)), (14, ev_fn (ev_iload 0 15)), (15, ev_fn (ev_putf 8 6 .boolean 18)), (18, ev_fn (ev_aload 7 20)), (20, ev_fn (ev_iload 2 21)), (21, ev_fn (ev_putf 8 7 .int 24)), (24, ev_fn (ev_aload 7 26)), (26, ev_fn (ev_iload 3 27)), (27, ev_fn (ev_putf 8 8 .int 30)), (30, ev_fn (ev_aload 7 32)), (32, ev_fn (ev_lload 4 34)), (34, ev_fn (ev_putf 8 3 .long 37)), (37, ev_fn (ev_aload 7 39)), (39, ev_fn (ev_iload 6 41)), (41, ev_fn (ev_putf 8 9 .int 44)), (44, ev_fn (ev_aload 7 46)), (46, ev_fn ev_aret)]
def mf_P_ofConnect (z : Nat × Nat) : ev_F := ev_met (mk_P_ofConnect z) 8
set_option maxHeartbeats 4000000 in
set_option maxRecDepth 100000 in
theorem mg_P_ofConnect : ev_AllG (ev_Good l vc_L vt_L (gw_G b Ls xs z) prog_8_method_4_code 8 (some (.object "MessageHub$Packet")) my_P_ofConnect.name my_P_ofConnect.cls tb_T 2 43) (mk_P_ofConnect z) := by
  refine ⟨ok_newo (ix := 10) hc_8 hi_8 ht_8 hf_8 tw_272 tw_273 tw_13 (by decide +kernel), ?_⟩
  refine ⟨ok_dup (by decide +kernel), ?_⟩
  refine ⟨ok_iconst (z := 1) (by decide +kernel) (by decide +kernel), ?_⟩
  refine ⟨ok_iconst (z := 0) (by decide +kernel) (by decide +kernel), ?_⟩
  refine ⟨ok_iload_n (z := 1) (by decide +kernel) rfl, ?_⟩
  refine ⟨ok_callI (ix := 24) ms_P_init (tb_cwI tw_274 tw_275 tw_13 tw_276 rfl (by decide +kernel) (by decide) (by decide)) (by decide +kernel), ?_⟩
  refine ⟨ok_astore (by decide) (by decide +kernel), ?_⟩
  refine ⟨ok_aload (by decide +kernel), ?_⟩
  refine ⟨ok_iload_n (z := 0) (by decide +kernel) rfl, ?_⟩
  refine ⟨ok_putf (ix := 45) hc_8 (by decide) hi_8 ht_8 hn_8 tw_295 (Or.inl rfl) rfl (by decide +kernel) (by decide +kernel), ?_⟩
  refine ⟨ok_aload (by decide +kernel), ?_⟩
  refine ⟨ok_iload_n (z := 2) (by decide +kernel) rfl, ?_⟩
  refine ⟨ok_putf (ix := 48) hc_8 (by decide) hi_8 ht_8 hn_8 tw_298 (Or.inl rfl) rfl (by decide +kernel) (by decide +kernel), ?_⟩
  refine ⟨ok_aload (by decide +kernel), ?_⟩
  refine ⟨ok_iload_n (z := 3) (by decide +kernel) rfl, ?_⟩
  refine ⟨ok_putf (ix := 51) hc_8 (by decide) hi_8 ht_8 hn_8 tw_300 (Or.inl rfl) rfl (by decide +kernel) (by decide +kernel), ?_⟩
  refine ⟨ok_aload (by decide +kernel), ?_⟩
  refine ⟨ok_lload (by decide +kernel), ?_⟩
  refine ⟨ok_putf (ix := 31) hc_8 (by decide) hi_8 ht_8 hn_8 tw_288 (Or.inl rfl) rfl (by decide +kernel) (by decide +kernel), ?_⟩
  refine ⟨ok_aload (by decide +kernel), ?_⟩
  refine ⟨ok_iload (by decide +kernel), ?_⟩
  refine ⟨ok_putf (ix := 54) hc_8 (by decide) hi_8 ht_8 hn_8 tw_302 (Or.inl rfl) rfl (by decide +kernel) (by decide +kernel), ?_⟩
  refine ⟨ok_aload (by decide +kernel), ?_⟩
  refine ⟨ok_aret rfl (Or.inl ⟨_, rfl⟩) (by decide +kernel), ?_⟩
  exact trivial
theorem ms_P_ofConnect : ev_Met l vc_L vt_L (gw_G b Ls xs z) my_P_ofConnect (Cond.code my_P_ofConnect prog_8_method_4_code 8 (some (.object "MessageHub$Packet")) :: tb_T) 2 43 (mf_P_ofConnect z) := ev_sound (by decide +kernel) mg_P_ofConnect
def my_JS_hugeLength : MethodName := ⟨"jdk/internal/util/ArraysSupport", "hugeLength", "(II)I"⟩
def mk_JS_hugeLength (z : Nat × Nat) : ev_C := [(0, ev_fn (ev_iload 0 1)), (1, ev_fn (ev_iload 1 2)), (2, ev_fn (ev_iadd 3)), (3, ev_fn (ev_istore 2 4)), (4, ev_fn (ev_iload 2 5)), (5, ev_fn (ev_ifge 49 8)), (11, ev_fn (ev_dup 12)), (15, ev_fn (ev_dup 16)), (24, ev_fn (ev_iload 0 25)), (33, ev_fn (ev_iload 1 34)), (49, ev_fn (ev_iload 2 50)), (50, ev_fn (ev_ci 2147483639 52)), (52, ev_fn (ev_icmpgt 58 55)), (55, ev_fn (ev_ci 2147483639 57)), (57, ev_fn ev_iret), (58, ev_fn (ev_iload 2 59)), (59, ev_fn ev_iret)]
def mf_JS_hugeLength (z : Nat × Nat) : ev_F := ev_met (mk_JS_hugeLength z) 3
set_option maxHeartbeats 4000000 in
set_option maxRecDepth 100000 in
theorem mg_JS_hugeLength : ev_AllG (ev_Good l vc_L vt_L (gw_G b Ls xs z) prog_30_method_28_code 3 (some .int) my_JS_hugeLength.name my_JS_hugeLength.cls tb_T 0 0) (mk_JS_hugeLength z) := by
  refine ⟨ok_iload_n (z := 0) (by decide +kernel) rfl, ?_⟩
  refine ⟨ok_iload_n (z := 1) (by decide +kernel) rfl, ?_⟩
  refine ⟨ok_iadd (by decide +kernel), ?_⟩
  refine ⟨ok_istore_n (z := 2) (by decide) (by decide +kernel) rfl, ?_⟩
  refine ⟨ok_iload_n (z := 2) (by decide +kernel) rfl, ?_⟩
  refine ⟨ok_ifge (off := 44) (by decide +kernel) (by decide), ?_⟩
  refine ⟨ok_dup (by decide +kernel), ?_⟩
  refine ⟨ok_dup (by decide +kernel), ?_⟩
  refine ⟨ok_iload_n (z := 0) (by decide +kernel) rfl, ?_⟩
  refine ⟨ok_iload_n (z := 1) (by decide +kernel) rfl, ?_⟩
  refine ⟨ok_iload_n (z := 2) (by decide +kernel) rfl, ?_⟩
  refine ⟨ok_ldc (ix := 200) tw_346 (by decide +kernel), ?_⟩
  refine ⟨ok_icmpgt (off := 6) (by decide +kernel) (by decide), ?_⟩
  refine ⟨ok_ldc (ix := 200) tw_346 (by decide +kernel), ?_⟩
  refine ⟨ok_iret rfl (by decide +kernel), ?_⟩
  refine ⟨ok_iload_n (z := 2) (by decide +kernel) rfl, ?_⟩
  refine ⟨ok_iret rfl (by decide +kernel), ?_⟩
  exact trivial
theorem ms_JS_hugeLength : ev_Met l vc_L vt_L (gw_G b Ls xs z) my_JS_hugeLength (Cond.code my_JS_hugeLength prog_30_method_28_code 3 (some .int) :: tb_T) 0 0 (mf_JS_hugeLength z) := ev_sound (by decide +kernel) mg_JS_hugeLength
def my_JS_newLength : MethodName := ⟨"jdk/internal/util/ArraysSupport", "newLength", "(III)I"⟩
def mk_JS_newLength (z : Nat × Nat) : ev_C := [(0, ev_fn (ev_iload 0 1)), (1, ev_fn (ev_iload 1 2)), (2, ev_fn (ev_iload 2 3)), (3, ev_fn (ev_mmax 6)), (6, ev_fn (ev_iadd 7)), (7, ev_fn (ev_istore 3 8)), (8, ev_fn (ev_ci 0 9)), (9, ev_fn (ev_iload 3 10)), (10, ev_fn (ev_icmpge 21 13)), (13, ev_fn (ev_iload 3 14)), (14, ev_fn (ev_ci 2147483639 16)), (16, ev_fn (ev_icmpgt 21 19)), (19, ev_fn (ev_iload 3 20)), (20, ev_fn ev_iret), (21, ev_fn (ev_iload 0 22)), (22, ev_fn (ev_iload 1 23)), (23, ev_call (mf_JS_hugeLength z) 2 26), (26, ev_fn ev_iret)]
def mf_JS_newLength (z : Nat × Nat) : ev_F := ev_met (mk_JS_newLength z) 4
set_option maxHeartbeats 4000000 in
set_option maxRecDepth 100000 in
theorem mg_JS_newLength : ev_AllG (ev_Good l vc_L vt_L (gw_G b Ls xs z) prog_30_method_27_code 4 (some .int) my_JS_newLength.name my_JS_newLength.cls tb_T 1 22) (mk_JS_newLength z) := by
  refine ⟨ok_iload_n (z := 0) (by decide +kernel) rfl, ?_⟩
  refine ⟨ok_iload_n (z := 1) (by decide +kernel) rfl, ?_⟩
  refine ⟨ok_iload_n (z := 2) (by decide +kernel) rfl, ?_⟩
  refine ⟨ok_mmax (ix := 194) (by decide) (by decide) tw_343 tw_344 tw_15 tw_345 (by decide +kernel), ?_⟩
  refine ⟨ok_iadd (by decide +kernel), ?_⟩
  refine ⟨ok_istore_n (z := 3) (by decide) (by decide +kernel) rfl, ?_⟩
  refine ⟨ok_iconst (z := 0) (by decide +kernel) (by decide +kernel), ?_⟩
  refine ⟨ok_iload_n (z := 3) (by decide +kernel) rfl, ?_⟩
  refine ⟨ok_icmpge (off := 11) (by decide +kernel) (by decide), ?_⟩
  refine ⟨ok_iload_n (z := 3) (by decide +kernel) rfl, ?_⟩
  refine ⟨ok_ldc (ix := 200) tw_346 (by decide +kernel), ?_⟩
  refine ⟨ok_icmpgt (off := 5) (by decide +kernel) (by decide), ?_⟩
  refine ⟨ok_iload_n (z := 3) (by decide +kernel) rfl, ?_⟩
  refine ⟨ok_iret rfl (by decide +kernel), ?_⟩
  refine ⟨ok_iload_n (z := 0) (by decide +kernel) rfl, ?_⟩
  refine ⟨ok_iload_n (z := 1) (by decide +kernel) rfl, ?_⟩
  refine ⟨ok_callS (ix := 201) ms_JS_hugeLength (tb_cwS tw_347 tw_348 tw_14 tw_349 (by decide +kernel) (by decide) (by decide)) (by decide +kernel), ?_⟩
  refine ⟨ok_iret rfl (by decide +kernel), ?_⟩
  exact trivial
theorem ms_JS_newLength : ev_Met l vc_L vt_L (gw_G b Ls xs z) my_JS_newLength (Cond.code my_JS_newLength prog_30_method_27_code 4 (some .int) :: tb_T) 1 22 (mf_JS_newLength z) := ev_sound (by decide +kernel) mg_JS_newLength
def my_JA_copyOf2 : MethodName := ⟨"java/util/Arrays", "copyOf", "([Ljava/lang/Object;ILjava/lang/Class;)[Ljava/lang/Object;"⟩
def mk_JA_copyOf2 (z : Nat × Nat) : ev_C := [(0, ev_fn (ev_aload 2 1)), (1, ev_fn (ev_gets (.ref z.2) 3)), (3, ev_fn (ev_acmpne 13 6)), (6, ev_fn (ev_iload 1 7)), (7, ev_fn (ev_newq 3 10)), (10, ev_fn (ev_goto 24)), (13, ev_fn (ev_aload 2 14)), (17, ev_fn (ev_iload 1 18)), (21, ev_fn (ev_castA 3 24)), (24, ev_fn (ev_astore 3 25)), (25, ev_fn (ev_aload 0 26)), (26, ev_fn (ev_ci 0 27)), (27, ev_fn (ev_aload 3 28)), (28, ev_fn (ev_ci 0 29)), (29, ev_fn (ev_aload 0 30)), (30, ev_fn (ev_alenE z.1 8 31)), (31, ev_fn (ev_iload 1 32)), (32, ev_fn (ev_mmin 35)), (35, ev_copyq 3 gw_cs 38), (38, ev_fn (ev_aload 3 39)), (39, ev_fn ev_aret)]
def mf_JA_copyOf2 (z : Nat × Nat) : ev_F := ev_met (mk_JA_copyOf2 z) 4
set_option maxHeartbeats 4000000 in
set_option maxRecDepth 100000 in
theorem mg_JA_copyOf2 : ev_AllG (ev_Good l vc_L vt_L (gw_G b Ls xs z) prog_24_method_120_code 4 (some (.array (.object "java/lang/Object"))) my_JA_copyOf2.name my_JA_copyOf2.cls tb_T 1 45) (mk_JA_copyOf2 z) := by
  refine ⟨ok_aload_n (z := 2) (by decide +kernel) rfl, ?_⟩
  refine ⟨ok_ldcM (ix := 110) gw_Mi tw_373 (by decide +kernel), ?_⟩
  refine ⟨ok_acmpne (off := 10) (by decide +kernel) (by decide), ?_⟩
  refine ⟨ok_iload_n (z := 1) (by decide +kernel) rfl, ?_⟩
  refine ⟨ok_newq (ix := 2) rfl tw_375 gw_o3 (by decide +kernel), ?_⟩
  refine ⟨ok_goto (off := 14) (by decide +kernel) (by decide), ?_⟩
  refine ⟨ok_aload_n (z := 2) (by decide +kernel) rfl, ?_⟩
  refine ⟨ok_iload_n (z := 1) (by decide +kernel) rfl, ?_⟩
  refine ⟨ok_castA (ix := 110) rfl rfl tw_373 (by decide +kernel), ?_⟩
  refine ⟨ok_astore_n (z := 3) (by decide) (by decide +kernel) rfl, ?_⟩
  refine ⟨ok_aload_n (z := 0) (by decide +kernel) rfl, ?_⟩
  refine ⟨ok_iconst (z := 0) (by decide +kernel) (by decide +kernel), ?_⟩
  refine ⟨ok_aload_n (z := 3) (by decide +kernel) rfl, ?_⟩
  refine ⟨ok_iconst (z := 0) (by decide +kernel) (by decide +kernel), ?_⟩
  refine ⟨ok_aload_n (z := 0) (by decide +kernel) rfl, ?_⟩
  refine ⟨ok_alenE gw_T rfl (by decide +kernel), ?_⟩
  refine ⟨ok_iload_n (z := 1) (by decide +kernel) rfl, ?_⟩
  refine ⟨ok_mmin (ix := 304) (by decide) (by decide) tw_376 tw_377 tw_15 tw_378 (by decide +kernel), ?_⟩
  refine ⟨ok_copyq (ix := 150) rfl gw_csO (by decide) (by decide +kernel) tw_379 tw_381 tw_380 tw_17 (by decide +kernel), ?_⟩
  refine ⟨ok_aload_n (z := 3) (by decide +kernel) rfl, ?_⟩
  refine ⟨ok_aret rfl (Or.inr ⟨_, rfl⟩) (by decide +kernel), ?_⟩
  exact trivial
theorem ms_JA_copyOf2 : ev_Met l vc_L vt_L (gw_G b Ls xs z) my_JA_copyOf2 (Cond.code my_JA_copyOf2 prog_24_method_120_code 4 (some (.array (.object "java/lang/Object"))) :: tb_T) 1 45 (mf_JA_copyOf2 z) := ev_sound (by decide +kernel) mg_JA_copyOf2
def my_JA_copyOf : MethodName := ⟨"java/util/Arrays", "copyOf", "([Ljava/lang/Object;I)[Ljava/lang/Object;"⟩
def mk_JA_copyOf (z : Nat × Nat) : ev_C := [(0, ev_fn (ev_aload 0 1)), (1, ev_fn (ev_iload 1 2)), (2, ev_fn (ev_aload 0 3)), (3, ev_fn (ev_getC 3 z.2 6)), (6, ev_call (mf_JA_copyOf2 z) 3 9), (9, ev_fn ev_aret)]
def mf_JA_copyOf (z : Nat × Nat) : ev_F := ev_met (mk_JA_copyOf z) 2
set_option maxHeartbeats 4000000 in
set_option maxRecDepth 100000 in
theorem mg_JA_copyOf : ev_AllG (ev_Good l vc_L vt_L (gw_G b Ls xs z) prog_24_method_119_code 2 (some (.array (.object "java/lang/Object"))) my_JA_copyOf.name my_JA_copyOf.cls tb_T 2 68) (mk_JA_copyOf z) := by
  refine ⟨ok_aload_n (z := 0) (by decide +kernel) rfl, ?_⟩
  refine ⟨ok_iload_n (z := 1) (by decide +kernel) rfl, ?_⟩
  refine ⟨ok_aload_n (z := 0) (by decide +kernel) rfl, ?_⟩
  refine ⟨ok_getC (ix := 86) rfl rfl (by decide) (by decide) gw_Mc tw_353 tw_1363 tw_354 tw_369 (by decide +kernel), ?_⟩
  refine ⟨ok_callS (ix := 300) ms_JA_copyOf2 (tb_cwS tw_370 tw_371 tw_16 tw_372 (by decide +kernel) (by decide) (by decide)) (by decide +kernel), ?_⟩
  refine ⟨ok_aret rfl (Or.inr ⟨_, rfl⟩) (by decide +kernel), ?_⟩
  exact trivial
theorem ms_JA_copyOf : ev_Met l vc_L vt_L (gw_G b Ls xs z) my_JA_copyOf (Cond.code my_JA_copyOf prog_24_method_119_code 2 (some (.array (.object "java/lang/Object"))) :: tb_T) 2 68 (mf_JA_copyOf z) := ev_sound (by decide +kernel) mg_JA_copyOf
def my_A_grow2 : MethodName := ⟨"java/util/ArrayList", "grow", "(I)[Ljava/lang/Object;"⟩
def mk_A_grow2 (z : Nat × Nat) : ev_C := [(0, ev_fn (ev_aload 0 1)), (1, ev_fn (ev_getf 2 0 4)), (4, ev_fn (ev_alenE z.1 8 5)), (5, ev_fn (ev_istore 2 6)), (6, ev_fn (ev_iload 2 7)), (7, ev_fn (ev_ifgt 20 10)), (10, ev_fn (ev_aload 0 11)), (11, ev_fn (ev_getf 2 0 14)), (14, ev_fn (ev_gets (.ref z.1) 17)), (17, ev_fn (ev_acmpeq 45 20)), (20, ev_fn (ev_iload 2 21)), (21, ev_fn (ev_iload 1 22)), (22, ev_fn (ev_iload 2 23)), (23, ev_fn (ev_isub 24)), (24, ev_fn (ev_iload 2 25)), (25, ev_fn (ev_ci 1 26)), (26, ev_fn (ev_ishr 27)), (27, ev_call (mf_JS_newLength z) 3 30), (30, ev_fn (ev_istore 3 31)), (31, ev_fn (ev_aload 0 32)), (32, ev_fn (ev_aload 0 33)), (33, ev_fn (ev_getf 2 0 36)), (36, ev_fn (ev_iload 3 37)), (37, ev_call (mf_JA_copyOf z) 2 40), (40, ev_fn (ev_dup_x1 41)), (41, ev_fn (ev_putf 2 0 (.array (.object "java/lang/Object")) 44)), (44, ev_fn ev_aret), (45, ev_fn (ev_aload 0 46)), (46, ev_fn (ev_ci 10 48)), (48, ev_fn (ev_iload 1 49)), (49, ev_fn (ev_mmax 52)), (52, ev_fn (ev_newq 3 55)), (55, ev_fn (ev_dup_x1 56)), (56, ev_fn (ev_putf 2 0 (.array (.object "java/lang/Object")) 59)), (59, ev_fn ev_aret)]
def mf_A_grow2 (z : Nat × Nat) : ev_F := ev_met (mk_A_grow2 z) 4
set_option maxHeartbeats 4000000 in
set_option maxRecDepth 100000 in
theorem mg_A_grow2 : ev_AllG (ev_Good l vc_L vt_L (gw_G b Ls xs z) prog_23_method_6_code 4 (some (.array (.object "java/lang/Object"))) my_A_grow2.name my_A_grow2.cls tb_T 3 89) (mk_A_grow2 z) := by
  refine ⟨ok_aload_n (z := 0) (by decide +kernel) rfl, ?_⟩
  refine ⟨ok_getf (ix := 9) hc_2 (by decide) hi_2 tw_55 (Or.inl rfl) (by decide +kernel), ?_⟩
  refine ⟨ok_alenE gw_T rfl (by decide +kernel), ?_⟩
  refine ⟨ok_istore_n (z := 2) (by decide) (by decide +kernel) rfl, ?_⟩
  refine ⟨ok_iload_n (z := 2) (by decide +kernel) rfl, ?_⟩
  refine ⟨ok_ifgt (off := 13) (by decide +kernel) (by decide), ?_⟩
  refine ⟨ok_aload_n (z := 0) (by decide +kernel) rfl, ?_⟩
  refine ⟨ok_getf (ix := 9) hc_2 (by decide) hi_2 tw_55 (Or.inl rfl) (by decide +kernel), ?_⟩
  refine ⟨ok_gets (ix := 39) gw_Z tw_53 (by decide +kernel), ?_⟩
  refine ⟨ok_acmpeq (off := 28) (by decide +kernel) (by decide), ?_⟩
  refine ⟨ok_iload_n (z := 2) (by decide +kernel) rfl, ?_⟩
  refine ⟨ok_iload_n (z := 1) (by decide +kernel) rfl, ?_⟩
  refine ⟨ok_iload_n (z := 2) (by decide +kernel) rfl, ?_⟩
  refine ⟨ok_isub (by decide +kernel), ?_⟩
  refine ⟨ok_iload_n (z := 2) (by decide +kernel) rfl, ?_⟩
  refine ⟨ok_iconst (z := 1) (by decide +kernel) (by decide +kernel), ?_⟩
  refine ⟨ok_ishr (by decide +kernel), ?_⟩
  refine ⟨ok_callS (ix := 73) ms_JS_newLength (tb_cwS tw_340 tw_341 tw_14 tw_342 (by decide +kernel) (by decide) (by decide)) (by decide +kernel), ?_⟩
  refine ⟨ok_istore_n (z := 3) (by decide) (by decide +kernel) rfl, ?_⟩
  refine ⟨ok_aload_n (z := 0) (by decide +kernel) rfl, ?_⟩
  refine ⟨ok_aload_n (z := 0) (by decide +kernel) rfl, ?_⟩
  refine ⟨ok_getf (ix := 9) hc_2 (by decide) hi_2 tw_55 (Or.inl rfl) (by decide +kernel), ?_⟩
  refine ⟨ok_iload_n (z := 3) (by decide +kernel) rfl, ?_⟩
  refine ⟨ok_callS (ix := 66) ms_JA_copyOf (tb_cwS tw_350 tw_351 tw_16 tw_352 (by decide +kernel) (by decide) (by decide)) (by decide +kernel), ?_⟩
  refine ⟨ok_dup_x1 (by decide +kernel), ?_⟩
  refine ⟨ok_putf (ix := 9) hc_2 (by decide) hi_2 ht_2 hn_2 tw_55 (Or.inl rfl) rfl (by decide +kernel) (by decide +kernel), ?_⟩
  refine ⟨ok_aret rfl (Or.inr ⟨_, rfl⟩) (by decide +kernel), ?_⟩
  refine ⟨ok_aload_n (z := 0) (by decide +kernel) rfl, ?_⟩
  refine ⟨ok_bipush (z := 10) (by decide +kernel) (by decide +kernel), ?_⟩
  refine ⟨ok_iload_n (z := 1) (by decide +kernel) rfl, ?_⟩
  refine ⟨ok_mmax (ix := 79) (by decide) (by decide) tw_382 tw_344 tw_15 tw_345 (by decide +kernel), ?_⟩
  refine ⟨ok_newq (ix := 7) rfl tw_383 gw_o3 (by decide +kernel), ?_⟩
  refine ⟨ok_dup_x1 (by decide +kernel), ?_⟩
  refine ⟨ok_putf (ix := 9) hc_2 (by decide) hi_2 ht_2 hn_2 tw_55 (Or.inl rfl) rfl (by decide +kernel) (by decide +kernel), ?_⟩
  refine ⟨ok_aret rfl (Or.inr ⟨_, rfl⟩) (by decide +kernel), ?_⟩
  exact trivial
theorem ms_A_grow2 : ev_Met l vc_L vt_L (gw_G b Ls xs z) my_A_grow2 (Cond.code my_A_grow2 prog_23_method_6_code 4 (some (.array (.object "java/lang/Object"))) :: tb_T) 3 89 (mf_A_grow2 z) := ev_sound (by decide +kernel) mg_A_grow2
def my_A_grow : MethodName := ⟨"java/util/ArrayList", "grow", "()[Ljava/lang/Object;"⟩
def mk_A_grow (z : Nat × Nat) : ev_C := [(0, ev_fn (ev_aload 0 1)), (1, ev_fn (ev_aload 0 2)), (2, ev_fn (ev_getf 2 1 5)), (5, ev_fn (ev_ci 1 6)), (6, ev_fn (ev_iadd 7)), (7, ev_callR 2 (mf_A_grow2 z) 2 10), (10, ev_fn ev_aret)]
def mf_A_grow (z : Nat × Nat) : ev_F := ev_met (mk_A_grow z) 1
set_option maxHeartbeats 4000000 in
set_option maxRecDepth 100000 in
theorem mg_A_grow : ev_AllG (ev_Good l vc_L vt_L (gw_G b Ls xs z) prog_23_method_7_code 1 (some (.array (.object "java/lang/Object"))) my_A_grow.name my_A_grow.cls tb_T 4 112) (mk_A_grow z) := by
  refine ⟨ok_aload_n (z := 0) (by decide +kernel) rfl, ?_⟩
  refine ⟨ok_aload_n (z := 0) (by decide +kernel) rfl, ?_⟩
  refine ⟨ok_getf (ix := 48) hc_2 (by decide) hi_2 tw_56 (Or.inl rfl) (by decide +kernel), ?_⟩
  refine ⟨ok_iconst (z := 1) (by decide +kernel) (by decide +kernel), ?_⟩
  refine ⟨ok_iadd (by decide +kernel), ?_⟩
  refine ⟨ok_callV (ix := 69) hc_2 ms_A_grow2 (tb_cwV tw_336 tw_338 tv_2 tw_5 tw_339 (by decide +kernel) (by decide) (by decide)) (by decide +kernel), ?_⟩
  refine ⟨ok_aret rfl (Or.inr ⟨_, rfl⟩) (by decide +kernel), ?_⟩
  exact trivial
theorem ms_A_grow : ev_Met l vc_L vt_L (gw_G b Ls xs z) my_A_grow (Cond.code my_A_grow prog_23_method_7_code 1 (some (.array (.object "java/lang/Object"))) :: tb_T) 4 112 (mf_A_grow z) := ev_sound (by decide +kernel) mg_A_grow
def my_A_add2 : MethodName := ⟨"java/util/ArrayList", "add", "(Ljava/lang/Object;[Ljava/lang/Object;I)V"⟩
def mk_A_add2 (z : Nat × Nat) : ev_C := [(0, ev_fn (ev_iload 3 1)), (1, ev_fn (ev_aload 2 2)), (2, ev_fn (ev_alenE z.1 8 3)), (3, ev_fn (ev_icmpne 11 6)), (6, ev_fn (ev_aload 0 7)), (7, ev_callR 2 (mf_A_grow z) 1 10), (10, ev_fn (ev_astore 2 11)), (11, ev_fn (ev_aload 2 12)), (12, ev_fn (ev_iload 3 13)), (13, ev_fn (ev_aload 1 14)), (14, ev_fn (ev_aastR 15)), (15, ev_fn (ev_aload 0 16)), (16, ev_fn (ev_iload 3 17)), (17, ev_fn (ev_ci 1 18)), (18, ev_fn (ev_iadd 19)), (19, ev_fn (ev_putf 2 1 .int 22)), (22, ev_fn ev_vret)]
def mf_A_add2 (z : Nat × Nat) : ev_F := ev_met (mk_A_add2 z) 4
set_option maxHeartbeats 4000000 in
set_option maxRecDepth 100000 in
theorem mg_A_add2 : ev_AllG (ev_Good l vc_L vt_L (gw_G b Ls xs z) prog_23_method_24_code 4 none my_A_add2.name my_A_add2.cls tb_T 5 132) (mk_A_add2 z) := by
  refine ⟨ok_iload_n (z := 3) (by decide +kernel) rfl, ?_⟩
  refine ⟨ok_aload_n (z := 2) (by decide +kernel) rfl, ?_⟩
  refine ⟨ok_alenE gw_T rfl (by decide +kernel), ?_⟩
  refine ⟨ok_icmpne (off := 8) (by decide +kernel) (by decide), ?_⟩
  refine ⟨ok_aload_n (z := 0) (by decide +kernel) rfl, ?_⟩
  refine ⟨ok_callV (ix := 129) hc_2 ms_A_grow (tb_cwV tw_332 tw_334 tv_1 tw_5 tw_335 (by decide +kernel) (by decide) (by decide)) (by decide +kernel), ?_⟩
  refine ⟨ok_astore_n (z := 2) (by decide) (by decide +kernel) rfl, ?_⟩
  refine ⟨ok_aload_n (z := 2) (by decide +kernel) rfl, ?_⟩
  refine ⟨ok_iload_n (z := 3) (by decide +kernel) rfl, ?_⟩
  refine ⟨ok_aload_n (z := 1) (by decide +kernel) rfl, ?_⟩
  refine ⟨ok_aastR (by decide +kernel), ?_⟩
  refine ⟨ok_aload_n (z := 0) (by decide +kernel) rfl, ?_⟩
  refine ⟨ok_iload_n (z := 3) (by decide +kernel) rfl, ?_⟩
  refine ⟨ok_iconst (z := 1) (by decide +kernel) (by decide +kernel), ?_⟩
  refine ⟨ok_iadd (by decide +kernel), ?_⟩
  refine ⟨ok_putf (ix := 48) hc_2 (by decide) hi_2 ht_2 hn_2 tw_56 (Or.inl rfl) rfl (by decide +kernel) (by decide +kernel), ?_⟩
  refine ⟨ok_vret rfl (by decide +kernel), ?_⟩
  exact trivial
theorem ms_A_add2 : ev_Met l vc_L vt_L (gw_G b Ls xs z) my_A_add2 (Cond.code my_A_add2 prog_23_method_24_code 4 none :: tb_T) 5 132 (mf_A_add2 z) := ev_sound (by decide +kernel) mg_A_add2
def my_A_add : MethodName := ⟨"java/util/ArrayList", "add", "(Ljava/lang/Object;)Z"⟩
def mk_A_add (z : Nat × Nat) : ev_C := [(0, ev_fn (ev_aload 0 1)), (1, ev_fn (ev_dup 2)), (2, ev_fn (ev_getf 2 2 5)), (5, ev_fn (ev_ci 1 6)), (6, ev_fn (ev_iadd 7)), (7, ev_fn (ev_putf 2 2 .int 10)), (10, ev_fn (ev_aload 0 11)), (11, ev_fn (ev_aload 1 12)), (12, ev_fn (ev_aload 0 13)), (13, ev_fn (ev_getf 2 0 16)), (16, ev_fn (ev_aload 0 17)), (17, ev_fn (ev_getf 2 1 20)), (20, ev_callR 2 (mf_A_add2 z) 4 23), (23, ev_fn (ev_ci 1 24)), (24, ev_fn (ev_zret .boolean))]
def mf_A_add (z : Nat × Nat) : ev_F := ev_met (mk_A_add z) 2
set_option maxHeartbeats 4000000 in
set_option maxRecDepth 100000 in
theorem mg_A_add : ev_AllG (ev_Good l vc_L vt_L (gw_G b Ls xs z) prog_23_method_25_code 2 (some .boolean) my_A_add.name my_A_add.cls tb_T 6 155) (mk_A_add z) := by
  refine ⟨ok_aload_n (z := 0) (by decide +kernel) rfl, ?_⟩
  refine ⟨ok_dup (by decide +kernel), ?_⟩
  refine ⟨ok_getf (ix := 63) hc_2 (by decide) hi_2 tw_58 (Or.inr tw_59) (by decide +kernel), ?_⟩
  refine ⟨ok_iconst (z := 1) (by decide +kernel) (by decide +kernel), ?_⟩
  refine ⟨ok_iadd (by decide +kernel), ?_⟩
  refine ⟨ok_putf (ix := 63) hc_2 (by decide) hi_2 ht_2 hn_2 tw_58 (Or.inr tw_59) rfl (by decide +kernel) (by decide +kernel), ?_⟩
  refine ⟨ok_aload_n (z := 0) (by decide +kernel) rfl, ?_⟩
  refine ⟨ok_aload_n (z := 1) (by decide +kernel) rfl, ?_⟩
  refine ⟨ok_aload_n (z := 0) (by decide +kernel) rfl, ?_⟩
  refine ⟨ok_getf (ix := 9) hc_2 (by decide) hi_2 tw_55 (Or.inl rfl) (by decide +kernel), ?_⟩
  refine ⟨ok_aload_n (z := 0) (by decide +kernel) rfl, ?_⟩
  refine ⟨ok_getf (ix := 48) hc_2 (by decide) hi_2 tw_56 (Or.inl rfl) (by decide +kernel), ?_⟩
  refine ⟨ok_callV (ix := 131) hc_2 ms_A_add2 (tb_cwV tw_328 tw_330 tv_0 tw_5 tw_331 (by decide +kernel) (by decide) (by decide)) (by decide +kernel), ?_⟩
  refine ⟨ok_iconst (z := 1) (by decide +kernel) (by decide +kernel), ?_⟩
  refine ⟨ok_zret rfl (by decide +kernel), ?_⟩
  exact trivial
theorem ms_A_add : ev_Met l vc_L vt_L (gw_G b Ls xs z) my_A_add (Cond.code my_A_add prog_23_method_25_code 2 (some .boolean) :: tb_T) 6 155 (mf_A_add z) := ev_sound (by decide +kernel) mg_A_add
def my_C_openLink : MethodName := ⟨"MessageHub$Client", "openLink", "(ZIII)V"⟩
def mk_C_openLink (z : Nat × Nat) : ev_C := [(0, ev_fn (ev_aload 0 1)), (1, ev_fn (ev_getf 3 0 4)), (4, ev_fn (ev_ci 1 5)), (5, ev_fn (ev_putf 1 2 .int 8)), (8, ev_fn (ev_aload 0 9)), (9, ev_fn (ev_getf 3 0 12)), (12, ev_fn (ev_getf 1 0 15)), (15, ev_fn (ev_iload 1 16)), (16, ev_fn (ev_iload 2 17)), (17, ev_fn (ev_iload 3 18)), (18, ev_fn (ev_iload 4 20)), (20, ev_fn (ev_aload 0 21)), (21, ev_fn (ev_getf 3 5 24)), (24, ev_fn (ev_aload 0 25)), (25, ev_fn (ev_getf 3 6 28)), (28, ev_call (mf_P_ofConnect z) 6 31), (31, ev_callR 2 (mf_A_add z) 2 34), (34, ev_fn (ev_pop 35)), (35, ev_fn ev_vret)]
def mf_C_openLink (z : Nat × Nat) : ev_F := ev_met (mk_C_openLink z) 5
set_option maxHeartbeats 4000000 in
set_option maxRecDepth 100000 in
theorem mg_C_openLink : ev_AllG (ev_Good l vc_L vt_L (gw_G b Ls xs z) prog_3_method_3_code 5 none my_C_openLink.name my_C_openLink.cls tb_T 7 176) (mk_C_openLink z) := by
  refine ⟨ok_aload_n (z := 0) (by decide +kernel) rfl, ?_⟩
  refine ⟨ok_getf (ix := 29) hc_3 (by decide) hi_3 tw_104 (Or.inl rfl) (by decide +kernel), ?_⟩
  refine ⟨ok_iconst (z := 1) (by decide +kernel) (by decide +kernel), ?_⟩
  refine ⟨ok_putf (ix := 41) hc_1 (by decide) hi_1 ht_1 hn_1 tw_73 (Or.inl rfl) rfl (by decide +kernel) (by decide +kernel), ?_⟩
  refine ⟨ok_aload_n (z := 0) (by decide +kernel) rfl, ?_⟩
  refine ⟨ok_getf (ix := 29) hc_3 (by decide) hi_3 tw_104 (Or.inl rfl) (by decide +kernel), ?_⟩
  refine ⟨ok_getf (ix := 46) hc_1 (by decide) hi_1 tw_68 (Or.inl rfl) (by decide +kernel), ?_⟩
  refine ⟨ok_iload_n (z := 1) (by decide +kernel) rfl, ?_⟩
  refine ⟨ok_iload_n (z := 2) (by decide +kernel) rfl, ?_⟩
  refine ⟨ok_iload_n (z := 3) (by decide +kernel) rfl, ?_⟩
  refine ⟨ok_iload (by decide +kernel), ?_⟩
  refine ⟨ok_aload_n (z := 0) (by decide +kernel) rfl, ?_⟩
  refine ⟨ok_getf (ix := 33) hc_3 (by decide) hi_3 tw_110 (Or.inl rfl) (by decide +kernel), ?_⟩
  refine ⟨ok_aload_n (z := 0) (by decide +kernel) rfl, ?_⟩
  refine ⟨ok_getf (ix := 37) hc_3 (by decide) hi_3 tw_111 (Or.inl rfl) (by decide +kernel), ?_⟩
  refine ⟨ok_callS (ix := 49) ms_P_ofConnect (tb_cwS tw_269 tw_270 tw_13 tw_271 (by decide +kernel) (by decide) (by decide)) (by decide +kernel), ?_⟩
  refine ⟨ok_callV (ix := 55) hc_2 ms_A_add (tb_cwV tw_324 tw_325 tw_326 tw_5 tw_327 (by decide +kernel) (by decide) (by decide)) (by decide +kernel), ?_⟩
  refine ⟨ok_pop (by decide +kernel), ?_⟩
  refine ⟨ok_vret rfl (by decide +kernel), ?_⟩
  exact trivial
theorem ms_C_openLink : ev_Met l vc_L vt_L (gw_G b Ls xs z) my_C_openLink (Cond.code my_C_openLink prog_3_method_3_code 5 none :: tb_T) 7 176 (mf_C_openLink z) := ev_sound (by decide +kernel) mg_C_openLink
end MT
