/-! The law as a list of steps (written by wip/whole/gen.py). -/
section MTL
variable {l : Launch} {b Ls : Nat} {xs : Nat → Int32} {z : Nat × Nat} {nm : String}
def mk_law_10 (b Ls : Nat) (xs : Nat → Int32) (z : Nat × Nat) : ev_C := [(876, ev_fn (ev_ci 1 877)), (877, ev_fn (ev_iadd 878)), (878, ev_fn (ev_sld b Ls xs 879)), (879, ev_fn (ev_aload 0 880)), (880, ev_fn (ev_iload 3 881)), (881, ev_fn (ev_ci 2 882)), (882, ev_fn (ev_iadd 883)), (883, ev_fn (ev_sld b Ls xs 884)), (884, ev_callR 0 (mf_H_inbox z) 3 887), (887, ev_fn (ev_aload 2 888)), (888, ev_fn (ev_aload 0 889)), (889, ev_fn (ev_iload 3 890)), (890, ev_fn (ev_ci 1 891)), (891, ev_fn (ev_iadd 892)), (892, ev_fn (ev_sld b Ls xs 893)), (893, ev_fn (ev_aload 0 894)), (894, ev_fn (ev_iload 3 895)), (895, ev_fn (ev_ci 2 896)), (896, ev_fn (ev_iadd 897)), (897, ev_fn (ev_sld b Ls xs 898)), (898, ev_callR 12 (mf_Z_inbox z) 3 901), (901, ev_fn (ev_icmpeq 1075 904)), (904, ev_fn (ev_ci 0 905)), (905, ev_fn (ev_zret .boolean)), (906, ev_fn (ev_aload 1 907)), (907, ev_fn (ev_aload 0 908)), (908, ev_fn (ev_iload 3 909)), (909, ev_fn (ev_ci 1 910)), (910, ev_fn (ev_iadd 911)), (911, ev_fn (ev_sld b Ls xs 912)), (912, ev_callR 0 (mf_H_store z) 2 915), (915, ev_fn (ev_aload 2 916)), (916, ev_fn (ev_aload 0 917)), (917, ev_fn (ev_iload 3 918)), (918, ev_fn (ev_ci 1 919)), (919, ev_fn (ev_iadd 920)), (920, ev_fn (ev_sld b Ls xs 921)), (921, ev_callR 12 (mf_Z_store z) 2 924), (924, ev_fn (ev_icmpeq 1075 927)), (927, ev_fn (ev_ci 0 928)), (928, ev_fn (ev_zret .boolean)), (929, ev_fn (ev_aload 1 930)), (930, ev_fn (ev_aload 0 931)), (931, ev_fn (ev_iload 3 932)), (932, ev_fn (ev_ci 1 933)), (933, ev_fn (ev_iadd 934)), (934, ev_fn (ev_sld b Ls xs 935)), (935, ev_fn (ev_i2l 936)), (936, ev_fn (ev_ci 32 938)), (938, ev_fn (ev_lshl 939)), (939, ev_fn (ev_aload 0 940)), (940, ev_fn (ev_iload 3 941)), (941, ev_fn (ev_ci 2 942)), (942, ev_fn (ev_iadd 943)), (943, ev_fn (ev_sld b Ls xs 944)), (944, ev_fn (ev_i2l 945)), (945, ev_fn (ev_cl 4294967295 948)), (948, ev_fn (ev_land 949)), (949, ev_fn (ev_lor 950)), (950, ev_callR 0 (mf_H_retained z) 2 953)]
set_option maxHeartbeats 4000000 in
set_option maxRecDepth 100000 in
theorem mg_law_10 : ev_AllG (ev_Good l vc_L vt_L (gw_G b Ls xs z) code 4 (some .boolean) nm "MessageHubLaw" tb_T 13 321) (mk_law_10 b Ls xs z) := by
  refine ⟨ok_iconst (z := 1) (by decide +kernel) (by decide +kernel), ?_⟩
  refine ⟨ok_iadd (by decide +kernel), ?_⟩
  refine ⟨ok_sld gw_X (by decide +kernel), ?_⟩
  refine ⟨ok_aload_n (z := 0) (by decide +kernel) rfl, ?_⟩
  refine ⟨ok_iload_n (z := 3) (by decide +kernel) rfl, ?_⟩
  refine ⟨ok_iconst (z := 2) (by decide +kernel) (by decide +kernel), ?_⟩
  refine ⟨ok_iadd (by decide +kernel), ?_⟩
  refine ⟨ok_sld gw_X (by decide +kernel), ?_⟩
  refine ⟨ok_callV (ix := 89) hc_0 ms_H_inbox (tb_cwV tw_862 tw_863 tw_864 tw_1 tw_865 (by decide +kernel) (by decide) (by decide)) (by decide +kernel), ?_⟩
  refine ⟨ok_aload_n (z := 2) (by decide +kernel) rfl, ?_⟩
  refine ⟨ok_aload_n (z := 0) (by decide +kernel) rfl, ?_⟩
  refine ⟨ok_iload_n (z := 3) (by decide +kernel) rfl, ?_⟩
  refine ⟨ok_iconst (z := 1) (by decide +kernel) (by decide +kernel), ?_⟩
  refine ⟨ok_iadd (by decide +kernel), ?_⟩
  refine ⟨ok_sld gw_X (by decide +kernel), ?_⟩
  refine ⟨ok_aload_n (z := 0) (by decide +kernel) rfl, ?_⟩
  refine ⟨ok_iload_n (z := 3) (by decide +kernel) rfl, ?_⟩
  refine ⟨ok_iconst (z := 2) (by decide +kernel) (by decide +kernel), ?_⟩
  refine ⟨ok_iadd (by decide +kernel), ?_⟩
  refine ⟨ok_sld gw_X (by decide +kernel), ?_⟩
  refine ⟨ok_callV (ix := 93) hc_12 ms_Z_inbox (tb_cwV tw_1345 tw_1346 tw_1347 tw_11 tw_1348 (by decide +kernel) (by decide) (by decide)) (by decide +kernel), ?_⟩
  refine ⟨ok_icmpeq (off := 174) (by decide +kernel) (by decide), ?_⟩
  refine ⟨ok_iconst (z := 0) (by decide +kernel) (by decide +kernel), ?_⟩
  refine ⟨ok_zret rfl (by decide +kernel), ?_⟩
  refine ⟨ok_aload_n (z := 1) (by decide +kernel) rfl, ?_⟩
  refine ⟨ok_aload_n (z := 0) (by decide +kernel) rfl, ?_⟩
  refine ⟨ok_iload_n (z := 3) (by decide +kernel) rfl, ?_⟩
  refine ⟨ok_iconst (z := 1) (by decide +kernel) (by decide +kernel), ?_⟩
  refine ⟨ok_iadd (by decide +kernel), ?_⟩
  refine ⟨ok_sld gw_X (by decide +kernel), ?_⟩
  refine ⟨ok_callV (ix := 94) hc_0 ms_H_store (tb_cwV tw_870 tw_871 tw_872 tw_1 tw_873 (by decide +kernel) (by decide) (by decide)) (by decide +kernel), ?_⟩
  refine ⟨ok_aload_n (z := 2) (by decide +kernel) rfl, ?_⟩
  refine ⟨ok_aload_n (z := 0) (by decide +kernel) rfl, ?_⟩
  refine ⟨ok_iload_n (z := 3) (by decide +kernel) rfl, ?_⟩
  refine ⟨ok_iconst (z := 1) (by decide +kernel) (by decide +kernel), ?_⟩
  refine ⟨ok_iadd (by decide +kernel), ?_⟩
  refine ⟨ok_sld gw_X (by decide +kernel), ?_⟩
  refine ⟨ok_callV (ix := 97) hc_12 ms_Z_store (tb_cwV tw_1349 tw_1350 tw_1351 tw_11 tw_1352 (by decide +kernel) (by decide) (by decide)) (by decide +kernel), ?_⟩
  refine ⟨ok_icmpeq (off := 151) (by decide +kernel) (by decide), ?_⟩
  refine ⟨ok_iconst (z := 0) (by decide +kernel) (by decide +kernel), ?_⟩
  refine ⟨ok_zret rfl (by decide +kernel), ?_⟩
  refine ⟨ok_aload_n (z := 1) (by decide +kernel) rfl, ?_⟩
  refine ⟨ok_aload_n (z := 0) (by decide +kernel) rfl, ?_⟩
  refine ⟨ok_iload_n (z := 3) (by decide +kernel) rfl, ?_⟩
  refine ⟨ok_iconst (z := 1) (by decide +kernel) (by decide +kernel), ?_⟩
  refine ⟨ok_iadd (by decide +kernel), ?_⟩
  refine ⟨ok_sld gw_X (by decide +kernel), ?_⟩
  refine ⟨ok_i2l (by decide +kernel), ?_⟩
  refine ⟨ok_bipush (z := 32) (by decide +kernel) (by decide +kernel), ?_⟩
  refine ⟨ok_lshl (by decide +kernel), ?_⟩
  refine ⟨ok_aload_n (z := 0) (by decide +kernel) rfl, ?_⟩
  refine ⟨ok_iload_n (z := 3) (by decide +kernel) rfl, ?_⟩
  refine ⟨ok_iconst (z := 2) (by decide +kernel) (by decide +kernel), ?_⟩
  refine ⟨ok_iadd (by decide +kernel), ?_⟩
  refine ⟨ok_sld gw_X (by decide +kernel), ?_⟩
  refine ⟨ok_i2l (by decide +kernel), ?_⟩
  refine ⟨ok_ldc2 (ix := 13) tw_1357 (by decide +kernel), ?_⟩
  refine ⟨ok_land (by decide +kernel), ?_⟩
  refine ⟨ok_lor (by decide +kernel), ?_⟩
  refine ⟨ok_callV (ix := 98) hc_0 ms_H_retained (tb_cwV tw_879 tw_880 tw_881 tw_1 tw_882 (by decide +kernel) (by decide) (by decide)) (by decide +kernel), ?_⟩
  exact trivial
def mk_law_11 (b Ls : Nat) (xs : Nat → Int32) (z : Nat × Nat) : ev_C := [(953, ev_fn (ev_aload 2 954)), (954, ev_fn (ev_aload 0 955)), (955, ev_fn (ev_iload 3 956)), (956, ev_fn (ev_ci 1 957)), (957, ev_fn (ev_iadd 958)), (958, ev_fn (ev_sld b Ls xs 959)), (959, ev_fn (ev_i2l 960)), (960, ev_fn (ev_ci 32 962)), (962, ev_fn (ev_lshl 963)), (963, ev_fn (ev_aload 0 964)), (964, ev_fn (ev_iload 3 965)), (965, ev_fn (ev_ci 2 966)), (966, ev_fn (ev_iadd 967)), (967, ev_fn (ev_sld b Ls xs 968)), (968, ev_fn (ev_i2l 969)), (969, ev_fn (ev_cl 4294967295 972)), (972, ev_fn (ev_land 973)), (973, ev_fn (ev_lor 974)), (974, ev_callR 12 (mf_Z_retained z) 2 977), (977, ev_fn (ev_icmpeq 1075 980)), (980, ev_fn (ev_ci 0 981)), (981, ev_fn (ev_zret .boolean)), (982, ev_fn (ev_aload 1 983)), (983, ev_fn (ev_aload 0 984)), (984, ev_fn (ev_iload 3 985)), (985, ev_fn (ev_ci 1 986)), (986, ev_fn (ev_iadd 987)), (987, ev_fn (ev_sld b Ls xs 988)), (988, ev_fn (ev_i2l 989)), (989, ev_fn (ev_ci 32 991)), (991, ev_fn (ev_lshl 992)), (992, ev_fn (ev_aload 0 993)), (993, ev_fn (ev_iload 3 994)), (994, ev_fn (ev_ci 2 995)), (995, ev_fn (ev_iadd 996)), (996, ev_fn (ev_sld b Ls xs 997)), (997, ev_fn (ev_i2l 998)), (998, ev_fn (ev_cl 4294967295 1001)), (1001, ev_fn (ev_land 1002)), (1002, ev_fn (ev_lor 1003)), (1003, ev_fn (ev_aload 0 1004)), (1004, ev_fn (ev_iload 3 1005)), (1005, ev_fn (ev_ci 3 1006)), (1006, ev_fn (ev_iadd 1007)), (1007, ev_fn (ev_sld b Ls xs 1008)), (1008, ev_fn (ev_i2l 1009)), (1009, ev_fn (ev_ci 32 1011)), (1011, ev_fn (ev_lshl 1012)), (1012, ev_fn (ev_aload 0 1013)), (1013, ev_fn (ev_iload 3 1014)), (1014, ev_fn (ev_ci 4 1015)), (1015, ev_fn (ev_iadd 1016)), (1016, ev_fn (ev_sld b Ls xs 1017)), (1017, ev_fn (ev_i2l 1018)), (1018, ev_fn (ev_cl 4294967295 1021)), (1021, ev_fn (ev_land 1022)), (1022, ev_fn (ev_lor 1023)), (1023, ev_callR 0 (mf_H_matches z) 3 1026), (1026, ev_fn (ev_aload 2 1027)), (1027, ev_fn (ev_aload 0 1028))]
set_option maxHeartbeats 4000000 in
set_option maxRecDepth 100000 in
theorem mg_law_11 : ev_AllG (ev_Good l vc_L vt_L (gw_G b Ls xs z) code 4 (some .boolean) nm "MessageHubLaw" tb_T 13 321) (mk_law_11 b Ls xs z) := by
  refine ⟨ok_aload_n (z := 2) (by decide +kernel) rfl, ?_⟩
  refine ⟨ok_aload_n (z := 0) (by decide +kernel) rfl, ?_⟩
  refine ⟨ok_iload_n (z := 3) (by decide +kernel) rfl, ?_⟩
  refine ⟨ok_iconst (z := 1) (by decide +kernel) (by decide +kernel), ?_⟩
  refine ⟨ok_iadd (by decide +kernel), ?_⟩
  refine ⟨ok_sld gw_X (by decide +kernel), ?_⟩
  refine ⟨ok_i2l (by decide +kernel), ?_⟩
  refine ⟨ok_bipush (z := 32) (by decide +kernel) (by decide +kernel), ?_⟩
  refine ⟨ok_lshl (by decide +kernel), ?_⟩
  refine ⟨ok_aload_n (z := 0) (by decide +kernel) rfl, ?_⟩
  refine ⟨ok_iload_n (z := 3) (by decide +kernel) rfl, ?_⟩
  refine ⟨ok_iconst (z := 2) (by decide +kernel) (by decide +kernel), ?_⟩
  refine ⟨ok_iadd (by decide +kernel), ?_⟩
  refine ⟨ok_sld gw_X (by decide +kernel), ?_⟩
  refine ⟨ok_i2l (by decide +kernel), ?_⟩
  refine ⟨ok_ldc2 (ix := 13) tw_1357 (by decide +kernel), ?_⟩
  refine ⟨ok_land (by decide +kernel), ?_⟩
  refine ⟨ok_lor (by decide +kernel), ?_⟩
  refine ⟨ok_callV (ix := 102) hc_12 ms_Z_retained (tb_cwV tw_1353 tw_1354 tw_1355 tw_11 tw_1356 (by decide +kernel) (by decide) (by decide)) (by decide +kernel), ?_⟩
  refine ⟨ok_icmpeq (off := 98) (by decide +kernel) (by decide), ?_⟩
  refine ⟨ok_iconst (z := 0) (by decide +kernel) (by decide +kernel), ?_⟩
  refine ⟨ok_zret rfl (by decide +kernel), ?_⟩
  refine ⟨ok_aload_n (z := 1) (by decide +kernel) rfl, ?_⟩
  refine ⟨ok_aload_n (z := 0) (by decide +kernel) rfl, ?_⟩
  refine ⟨ok_iload_n (z := 3) (by decide +kernel) rfl, ?_⟩
  refine ⟨ok_iconst (z := 1) (by decide +kernel) (by decide +kernel), ?_⟩
  refine ⟨ok_iadd (by decide +kernel), ?_⟩
  refine ⟨ok_sld gw_X (by decide +kernel), ?_⟩
  refine ⟨ok_i2l (by decide +kernel), ?_⟩
  refine ⟨ok_bipush (z := 32) (by decide +kernel) (by decide +kernel), ?_⟩
  refine ⟨ok_lshl (by decide +kernel), ?_⟩
  refine ⟨ok_aload_n (z := 0) (by decide +kernel) rfl, ?_⟩
  refine ⟨ok_iload_n (z := 3) (by decide +kernel) rfl, ?_⟩
  refine ⟨ok_iconst (z := 2) (by decide +kernel) (by decide +kernel), ?_⟩
  refine ⟨ok_iadd (by decide +kernel), ?_⟩
  refine ⟨ok_sld gw_X (by decide +kernel), ?_⟩
  refine ⟨ok_i2l (by decide +kernel), ?_⟩
  refine ⟨ok_ldc2 (ix := 13) tw_1357 (by decide +kernel), ?_⟩
  refine ⟨ok_land (by decide +kernel), ?_⟩
  refine ⟨ok_lor (by decide +kernel), ?_⟩
  refine ⟨ok_aload_n (z := 0) (by decide +kernel) rfl, ?_⟩
  refine ⟨ok_iload_n (z := 3) (by decide +kernel) rfl, ?_⟩
  refine ⟨ok_iconst (z := 3) (by decide +kernel) (by decide +kernel), ?_⟩
  refine ⟨ok_iadd (by decide +kernel), ?_⟩
  refine ⟨ok_sld gw_X (by decide +kernel), ?_⟩
  refine ⟨ok_i2l (by decide +kernel), ?_⟩
  refine ⟨ok_bipush (z := 32) (by decide +kernel) (by decide +kernel), ?_⟩
  refine ⟨ok_lshl (by decide +kernel), ?_⟩
  refine ⟨ok_aload_n (z := 0) (by decide +kernel) rfl, ?_⟩
  refine ⟨ok_iload_n (z := 3) (by decide +kernel) rfl, ?_⟩
  refine ⟨ok_iconst (z := 4) (by decide +kernel) (by decide +kernel), ?_⟩
  refine ⟨ok_iadd (by decide +kernel), ?_⟩
  refine ⟨ok_sld gw_X (by decide +kernel), ?_⟩
  refine ⟨ok_i2l (by decide +kernel), ?_⟩
  refine ⟨ok_ldc2 (ix := 13) tw_1357 (by decide +kernel), ?_⟩
  refine ⟨ok_land (by decide +kernel), ?_⟩
  refine ⟨ok_lor (by decide +kernel), ?_⟩
  refine ⟨ok_callV (ix := 103) hc_0 ms_H_matches (tb_cwV tw_887 tw_888 tw_889 tw_1 tw_890 (by decide +kernel) (by decide) (by decide)) (by decide +kernel), ?_⟩
  refine ⟨ok_aload_n (z := 2) (by decide +kernel) rfl, ?_⟩
  refine ⟨ok_aload_n (z := 0) (by decide +kernel) rfl, ?_⟩
  exact trivial
def mk_law_12 (b Ls : Nat) (xs : Nat → Int32) (z : Nat × Nat) : ev_C := [(1028, ev_fn (ev_iload 3 1029)), (1029, ev_fn (ev_ci 1 1030)), (1030, ev_fn (ev_iadd 1031)), (1031, ev_fn (ev_sld b Ls xs 1032)), (1032, ev_fn (ev_i2l 1033)), (1033, ev_fn (ev_ci 32 1035)), (1035, ev_fn (ev_lshl 1036)), (1036, ev_fn (ev_aload 0 1037)), (1037, ev_fn (ev_iload 3 1038)), (1038, ev_fn (ev_ci 2 1039)), (1039, ev_fn (ev_iadd 1040)), (1040, ev_fn (ev_sld b Ls xs 1041)), (1041, ev_fn (ev_i2l 1042)), (1042, ev_fn (ev_cl 4294967295 1045)), (1045, ev_fn (ev_land 1046)), (1046, ev_fn (ev_lor 1047)), (1047, ev_fn (ev_aload 0 1048)), (1048, ev_fn (ev_iload 3 1049)), (1049, ev_fn (ev_ci 3 1050)), (1050, ev_fn (ev_iadd 1051)), (1051, ev_fn (ev_sld b Ls xs 1052)), (1052, ev_fn (ev_i2l 1053)), (1053, ev_fn (ev_ci 32 1055)), (1055, ev_fn (ev_lshl 1056)), (1056, ev_fn (ev_aload 0 1057)), (1057, ev_fn (ev_iload 3 1058)), (1058, ev_fn (ev_ci 4 1059)), (1059, ev_fn (ev_iadd 1060)), (1060, ev_fn (ev_sld b Ls xs 1061)), (1061, ev_fn (ev_i2l 1062)), (1062, ev_fn (ev_cl 4294967295 1065)), (1065, ev_fn (ev_land 1066)), (1066, ev_fn (ev_lor 1067)), (1067, ev_callR 12 (mf_Z_matches z) 3 1070), (1070, ev_fn (ev_icmpeq 1075 1073)), (1073, ev_fn (ev_ci 0 1074)), (1074, ev_fn (ev_zret .boolean)), (1075, ev_fn (ev_iinc 3 7 1078)), (1078, ev_fn (ev_goto 18)), (1081, ev_fn (ev_ci 1 1082)), (1082, ev_fn (ev_zret .boolean))]
set_option maxHeartbeats 4000000 in
set_option maxRecDepth 100000 in
theorem mg_law_12 : ev_AllG (ev_Good l vc_L vt_L (gw_G b Ls xs z) code 4 (some .boolean) nm "MessageHubLaw" tb_T 13 321) (mk_law_12 b Ls xs z) := by
  refine ⟨ok_iload_n (z := 3) (by decide +kernel) rfl, ?_⟩
  refine ⟨ok_iconst (z := 1) (by decide +kernel) (by decide +kernel), ?_⟩
  refine ⟨ok_iadd (by decide +kernel), ?_⟩
  refine ⟨ok_sld gw_X (by decide +kernel), ?_⟩
  refine ⟨ok_i2l (by decide +kernel), ?_⟩
  refine ⟨ok_bipush (z := 32) (by decide +kernel) (by decide +kernel), ?_⟩
  refine ⟨ok_lshl (by decide +kernel), ?_⟩
  refine ⟨ok_aload_n (z := 0) (by decide +kernel) rfl, ?_⟩
  refine ⟨ok_iload_n (z := 3) (by decide +kernel) rfl, ?_⟩
  refine ⟨ok_iconst (z := 2) (by decide +kernel) (by decide +kernel), ?_⟩
  refine ⟨ok_iadd (by decide +kernel), ?_⟩
  refine ⟨ok_sld gw_X (by decide +kernel), ?_⟩
  refine ⟨ok_i2l (by decide +kernel), ?_⟩
  refine ⟨ok_ldc2 (ix := 13) tw_1357 (by decide +kernel), ?_⟩
  refine ⟨ok_land (by decide +kernel), ?_⟩
  refine ⟨ok_lor (by decide +kernel), ?_⟩
  refine ⟨ok_aload_n (z := 0) (by decide +kernel) rfl, ?_⟩
  refine ⟨ok_iload_n (z := 3) (by decide +kernel) rfl, ?_⟩
  refine ⟨ok_iconst (z := 3) (by decide +kernel) (by decide +kernel), ?_⟩
  refine ⟨ok_iadd (by decide +kernel), ?_⟩
  refine ⟨ok_sld gw_X (by decide +kernel), ?_⟩
  refine ⟨ok_i2l (by decide +kernel), ?_⟩
  refine ⟨ok_bipush (z := 32) (by decide +kernel) (by decide +kernel), ?_⟩
  refine ⟨ok_lshl (by decide +kernel), ?_⟩
  refine ⟨ok_aload_n (z := 0) (by decide +kernel) rfl, ?_⟩
  refine ⟨ok_iload_n (z := 3) (by decide +kernel) rfl, ?_⟩
  refine ⟨ok_iconst (z := 4) (by decide +kernel) (by decide +kernel), ?_⟩
  refine ⟨ok_iadd (by decide +kernel), ?_⟩
  refine ⟨ok_sld gw_X (by decide +kernel), ?_⟩
  refine ⟨ok_i2l (by decide +kernel), ?_⟩
  refine ⟨ok_ldc2 (ix := 13) tw_1357 (by decide +kernel), ?_⟩
  refine ⟨ok_land (by decide +kernel), ?_⟩
  refine ⟨ok_lor (by decide +kernel), ?_⟩
  refine ⟨ok_callV (ix := 107) hc_12 ms_Z_matches (tb_cwV tw_1096 tw_1097 tw_1098 tw_11 tw_1099 (by decide +kernel) (by decide) (by decide)) (by decide +kernel), ?_⟩
  refine ⟨ok_icmpeq (off := 5) (by decide +kernel) (by decide), ?_⟩
  refine ⟨ok_iconst (z := 0) (by decide +kernel) (by decide +kernel), ?_⟩
  refine ⟨ok_zret rfl (by decide +kernel), ?_⟩
  refine ⟨ok_iinc (z := 7) (by decide) (by decide +kernel) (by decide +kernel), ?_⟩
  refine ⟨ok_goto (off := (-1060)) (by decide +kernel) (by decide), ?_⟩
  refine ⟨ok_iconst (z := 1) (by decide +kernel) (by decide +kernel), ?_⟩
  refine ⟨ok_zret rfl (by decide +kernel), ?_⟩
  exact trivial
def mk_law (b Ls : Nat) (xs : Nat → Int32) (z : Nat × Nat) : ev_C := mk_law_0 b Ls xs z ++ (mk_law_1 b Ls xs z ++ (mk_law_2 b Ls xs z ++ (mk_law_3 b Ls xs z ++ (mk_law_4 b Ls xs z ++ (mk_law_5 b Ls xs z ++ (mk_law_6 b Ls xs z ++ (mk_law_7 b Ls xs z ++ (mk_law_8 b Ls xs z ++ (mk_law_9 b Ls xs z ++ (mk_law_10 b Ls xs z ++ (mk_law_11 b Ls xs z ++ (mk_law_12 b Ls xs z))))))))))))
theorem mg_law : ev_AllG (ev_Good l vc_L vt_L (gw_G b Ls xs z) code 4 (some .boolean) nm "MessageHubLaw" tb_T 13 321) (mk_law b Ls xs z) := ev_AllG.app mg_law_0 (ev_AllG.app mg_law_1 (ev_AllG.app mg_law_2 (ev_AllG.app mg_law_3 (ev_AllG.app mg_law_4 (ev_AllG.app mg_law_5 (ev_AllG.app mg_law_6 (ev_AllG.app mg_law_7 (ev_AllG.app mg_law_8 (ev_AllG.app mg_law_9 (ev_AllG.app mg_law_10 (ev_AllG.app mg_law_11 (mg_law_12))))))))))))
end MTL
