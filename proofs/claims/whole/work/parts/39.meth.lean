/-! Methods as lists of steps, and that the machine does what they do (written by wip/whole/gen.py). -/
section MT
variable {l : Launch} {b Ls : Nat} {xs : Nat → Int32} {z : Nat × Nat}
def my_Z_takeFirst : MethodName := ⟨"MessageHubModel", "takeFirst", "(I)V"⟩
def mk_Z_takeFirst_0 (z : Nat × Nat) : ev_C := [(0, ev_fn (ev_ci 32 2)), (2, ev_fn (ev_iload 1 3)), (3, ev_fn (ev_imul 4)), (4, ev_fn (ev_istore 2 5)), (5, ev_fn (ev_aload 0 6)), (6, ev_fn (ev_aload 0 7)), (7, ev_fn (ev_getf 12 1 10)), (10, ev_fn (ev_iload 2 11)), (11, ev_fn (ev_iald 12)), (12, ev_fn (ev_putf 12 12 .int 15)), (15, ev_fn (ev_aload 0 16)), (16, ev_fn (ev_aload 0 17)), (17, ev_fn (ev_getf 12 2 20)), (20, ev_fn (ev_iload 2 21)), (21, ev_fn (ev_iald 22)), (22, ev_fn (ev_putf 12 13 .int 25)), (25, ev_fn (ev_aload 0 26)), (26, ev_fn (ev_aload 0 27)), (27, ev_fn (ev_getf 12 3 30)), (30, ev_fn (ev_iload 2 31)), (31, ev_fn (ev_iald 32)), (32, ev_fn (ev_putf 12 14 .int 35)), (35, ev_fn (ev_aload 0 36)), (36, ev_fn (ev_aload 0 37)), (37, ev_fn (ev_getf 12 4 40)), (40, ev_fn (ev_iload 2 41)), (41, ev_fn (ev_iald 42)), (42, ev_fn (ev_putf 12 15 .int 45)), (45, ev_fn (ev_aload 0 46)), (46, ev_fn (ev_aload 0 47)), (47, ev_fn (ev_getf 12 6 50)), (50, ev_fn (ev_iload 2 51)), (51, ev_fn (ev_zald 52)), (52, ev_fn (ev_putf 12 16 .boolean 55)), (55, ev_fn (ev_aload 0 56)), (56, ev_fn (ev_aload 0 57)), (57, ev_fn (ev_getf 12 7 60)), (60, ev_fn (ev_iload 2 61)), (61, ev_fn (ev_lald 62)), (62, ev_fn (ev_putf 12 17 .long 65)), (65, ev_fn (ev_aload 0 66)), (66, ev_fn (ev_aload 0 67)), (67, ev_fn (ev_getf 12 8 70)), (70, ev_fn (ev_iload 2 71)), (71, ev_fn (ev_iald 72)), (72, ev_fn (ev_putf 12 18 .int 75)), (75, ev_fn (ev_aload 0 76)), (76, ev_fn (ev_aload 0 77)), (77, ev_fn (ev_getf 12 9 80)), (80, ev_fn (ev_iload 2 81)), (81, ev_fn (ev_iald 82)), (82, ev_fn (ev_putf 12 19 .int 85)), (85, ev_fn (ev_aload 0 86)), (86, ev_fn (ev_aload 0 87)), (87, ev_fn (ev_getf 12 10 90)), (90, ev_fn (ev_iload 2 91)), (91, ev_fn (ev_lald 92)), (92, ev_fn (ev_putf 12 20 .long 95)), (95, ev_fn (ev_aload 0 96)), (96, ev_fn (ev_aload 0 97))]
def mk_Z_takeFirst_1 (z : Nat × Nat) : ev_C := [(97, ev_fn (ev_getf 12 11 100)), (100, ev_fn (ev_iload 2 101)), (101, ev_fn (ev_iald 102)), (102, ev_fn (ev_putf 12 21 .int 105)), (105, ev_fn (ev_aload 0 106)), (106, ev_fn (ev_getf 12 0 109)), (109, ev_fn (ev_iload 1 110)), (110, ev_fn (ev_dup2 111)), (111, ev_fn (ev_iald 112)), (112, ev_fn (ev_ci 1 113)), (113, ev_fn (ev_isub 114)), (114, ev_fn (ev_iast 115)), (115, ev_fn (ev_iload 2 116)), (116, ev_fn (ev_istore 3 117)), (117, ev_fn (ev_iload 3 118)), (118, ev_fn (ev_iload 2 119)), (119, ev_fn (ev_aload 0 120)), (120, ev_fn (ev_getf 12 0 123)), (123, ev_fn (ev_iload 1 124)), (124, ev_fn (ev_iald 125)), (125, ev_fn (ev_iadd 126)), (126, ev_fn (ev_icmpge 289 129)), (129, ev_fn (ev_aload 0 130)), (130, ev_fn (ev_getf 12 1 133)), (133, ev_fn (ev_iload 3 134)), (134, ev_fn (ev_aload 0 135)), (135, ev_fn (ev_getf 12 1 138)), (138, ev_fn (ev_iload 3 139)), (139, ev_fn (ev_ci 1 140)), (140, ev_fn (ev_iadd 141)), (141, ev_fn (ev_iald 142)), (142, ev_fn (ev_iast 143)), (143, ev_fn (ev_aload 0 144)), (144, ev_fn (ev_getf 12 2 147)), (147, ev_fn (ev_iload 3 148)), (148, ev_fn (ev_aload 0 149)), (149, ev_fn (ev_getf 12 2 152)), (152, ev_fn (ev_iload 3 153)), (153, ev_fn (ev_ci 1 154)), (154, ev_fn (ev_iadd 155)), (155, ev_fn (ev_iald 156)), (156, ev_fn (ev_iast 157)), (157, ev_fn (ev_aload 0 158)), (158, ev_fn (ev_getf 12 3 161)), (161, ev_fn (ev_iload 3 162)), (162, ev_fn (ev_aload 0 163)), (163, ev_fn (ev_getf 12 3 166)), (166, ev_fn (ev_iload 3 167)), (167, ev_fn (ev_ci 1 168)), (168, ev_fn (ev_iadd 169)), (169, ev_fn (ev_iald 170)), (170, ev_fn (ev_iast 171)), (171, ev_fn (ev_aload 0 172)), (172, ev_fn (ev_getf 12 4 175)), (175, ev_fn (ev_iload 3 176)), (176, ev_fn (ev_aload 0 177)), (177, ev_fn (ev_getf 12 4 180)), (180, ev_fn (ev_iload 3 181)), (181, ev_fn (ev_ci 1 182)), (182, ev_fn (ev_iadd 183))]
def mk_Z_takeFirst_2 (z : Nat × Nat) : ev_C := [(183, ev_fn (ev_iald 184)), (184, ev_fn (ev_iast 185)), (185, ev_fn (ev_aload 0 186)), (186, ev_fn (ev_getf 12 5 189)), (189, ev_fn (ev_iload 3 190)), (190, ev_fn (ev_aload 0 191)), (191, ev_fn (ev_getf 12 5 194)), (194, ev_fn (ev_iload 3 195)), (195, ev_fn (ev_ci 1 196)), (196, ev_fn (ev_iadd 197)), (197, ev_fn (ev_zald 198)), (198, ev_fn (ev_zast 199)), (199, ev_fn (ev_aload 0 200)), (200, ev_fn (ev_getf 12 6 203)), (203, ev_fn (ev_iload 3 204)), (204, ev_fn (ev_aload 0 205)), (205, ev_fn (ev_getf 12 6 208)), (208, ev_fn (ev_iload 3 209)), (209, ev_fn (ev_ci 1 210)), (210, ev_fn (ev_iadd 211)), (211, ev_fn (ev_zald 212)), (212, ev_fn (ev_zast 213)), (213, ev_fn (ev_aload 0 214)), (214, ev_fn (ev_getf 12 7 217)), (217, ev_fn (ev_iload 3 218)), (218, ev_fn (ev_aload 0 219)), (219, ev_fn (ev_getf 12 7 222)), (222, ev_fn (ev_iload 3 223)), (223, ev_fn (ev_ci 1 224)), (224, ev_fn (ev_iadd 225)), (225, ev_fn (ev_lald 226)), (226, ev_fn (ev_last 227)), (227, ev_fn (ev_aload 0 228)), (228, ev_fn (ev_getf 12 8 231)), (231, ev_fn (ev_iload 3 232)), (232, ev_fn (ev_aload 0 233)), (233, ev_fn (ev_getf 12 8 236)), (236, ev_fn (ev_iload 3 237)), (237, ev_fn (ev_ci 1 238)), (238, ev_fn (ev_iadd 239)), (239, ev_fn (ev_iald 240)), (240, ev_fn (ev_iast 241)), (241, ev_fn (ev_aload 0 242)), (242, ev_fn (ev_getf 12 9 245)), (245, ev_fn (ev_iload 3 246)), (246, ev_fn (ev_aload 0 247)), (247, ev_fn (ev_getf 12 9 250)), (250, ev_fn (ev_iload 3 251)), (251, ev_fn (ev_ci 1 252)), (252, ev_fn (ev_iadd 253)), (253, ev_fn (ev_iald 254)), (254, ev_fn (ev_iast 255)), (255, ev_fn (ev_aload 0 256)), (256, ev_fn (ev_getf 12 10 259)), (259, ev_fn (ev_iload 3 260)), (260, ev_fn (ev_aload 0 261)), (261, ev_fn (ev_getf 12 10 264)), (264, ev_fn (ev_iload 3 265)), (265, ev_fn (ev_ci 1 266)), (266, ev_fn (ev_iadd 267))]
def mk_Z_takeFirst_3 (z : Nat × Nat) : ev_C := [(267, ev_fn (ev_lald 268)), (268, ev_fn (ev_last 269)), (269, ev_fn (ev_aload 0 270)), (270, ev_fn (ev_getf 12 11 273)), (273, ev_fn (ev_iload 3 274)), (274, ev_fn (ev_aload 0 275)), (275, ev_fn (ev_getf 12 11 278)), (278, ev_fn (ev_iload 3 279)), (279, ev_fn (ev_ci 1 280)), (280, ev_fn (ev_iadd 281)), (281, ev_fn (ev_iald 282)), (282, ev_fn (ev_iast 283)), (283, ev_fn (ev_iinc 3 1 286)), (286, ev_fn (ev_goto 117)), (289, ev_fn ev_vret)]
def mk_Z_takeFirst (z : Nat × Nat) : ev_C := mk_Z_takeFirst_0 z ++ (mk_Z_takeFirst_1 z ++ (mk_Z_takeFirst_2 z ++ (mk_Z_takeFirst_3 z)))
def mf_Z_takeFirst (z : Nat × Nat) : ev_F := ev_met (mk_Z_takeFirst z) 4
set_option maxHeartbeats 4000000 in
set_option maxRecDepth 100000 in
theorem mg_Z_takeFirst_0 : ev_AllG (ev_Good l vc_L vt_L (gw_G b Ls xs z) prog_14_method_14_code 4 none my_Z_takeFirst.name my_Z_takeFirst.cls tb_T 0 0) (mk_Z_takeFirst_0 z) := by
  refine ⟨ok_bipush (z := 32) (by decide +kernel) (by decide +kernel), ?_⟩
  refine ⟨ok_iload_n (z := 1) (by decide +kernel) rfl, ?_⟩
  refine ⟨ok_imul (by decide +kernel), ?_⟩
  refine ⟨ok_istore_n (z := 2) (by decide) (by decide +kernel) rfl, ?_⟩
  refine ⟨ok_aload_n (z := 0) (by decide +kernel) rfl, ?_⟩
  refine ⟨ok_aload_n (z := 0) (by decide +kernel) rfl, ?_⟩
  refine ⟨ok_getf (ix := 13) hc_12 (by decide) hi_12 tw_899 (Or.inl rfl) (by decide +kernel), ?_⟩
  refine ⟨ok_iload_n (z := 2) (by decide +kernel) rfl, ?_⟩
  refine ⟨ok_iald rfl (by decide +kernel), ?_⟩
  refine ⟨ok_putf (ix := 202) hc_12 (by decide) hi_12 ht_12 hn_12 tw_910 (Or.inl rfl) rfl (by decide +kernel) (by decide +kernel), ?_⟩
  refine ⟨ok_aload_n (z := 0) (by decide +kernel) rfl, ?_⟩
  refine ⟨ok_aload_n (z := 0) (by decide +kernel) rfl, ?_⟩
  refine ⟨ok_getf (ix := 16) hc_12 (by decide) hi_12 tw_900 (Or.inl rfl) (by decide +kernel), ?_⟩
  refine ⟨ok_iload_n (z := 2) (by decide +kernel) rfl, ?_⟩
  refine ⟨ok_iald rfl (by decide +kernel), ?_⟩
  refine ⟨ok_putf (ix := 206) hc_12 (by decide) hi_12 ht_12 hn_12 tw_911 (Or.inl rfl) rfl (by decide +kernel) (by decide +kernel), ?_⟩
  refine ⟨ok_aload_n (z := 0) (by decide +kernel) rfl, ?_⟩
  refine ⟨ok_aload_n (z := 0) (by decide +kernel) rfl, ?_⟩
  refine ⟨ok_getf (ix := 19) hc_12 (by decide) hi_12 tw_901 (Or.inl rfl) (by decide +kernel), ?_⟩
  refine ⟨ok_iload_n (z := 2) (by decide +kernel) rfl, ?_⟩
  refine ⟨ok_iald rfl (by decide +kernel), ?_⟩
  refine ⟨ok_putf (ix := 209) hc_12 (by decide) hi_12 ht_12 hn_12 tw_912 (Or.inl rfl) rfl (by decide +kernel) (by decide +kernel), ?_⟩
  refine ⟨ok_aload_n (z := 0) (by decide +kernel) rfl, ?_⟩
  refine ⟨ok_aload_n (z := 0) (by decide +kernel) rfl, ?_⟩
  refine ⟨ok_getf (ix := 22) hc_12 (by decide) hi_12 tw_902 (Or.inl rfl) (by decide +kernel), ?_⟩
  refine ⟨ok_iload_n (z := 2) (by decide +kernel) rfl, ?_⟩
  refine ⟨ok_iald rfl (by decide +kernel), ?_⟩
  refine ⟨ok_putf (ix := 212) hc_12 (by decide) hi_12 ht_12 hn_12 tw_913 (Or.inl rfl) rfl (by decide +kernel) (by decide +kernel), ?_⟩
  refine ⟨ok_aload_n (z := 0) (by decide +kernel) rfl, ?_⟩
  refine ⟨ok_aload_n (z := 0) (by decide +kernel) rfl, ?_⟩
  refine ⟨ok_getf (ix := 29) hc_12 (by decide) hi_12 tw_904 (Or.inl rfl) (by decide +kernel), ?_⟩
  refine ⟨ok_iload_n (z := 2) (by decide +kernel) rfl, ?_⟩
  refine ⟨ok_zald rfl (by decide +kernel), ?_⟩
  refine ⟨ok_putf (ix := 215) hc_12 (by decide) hi_12 ht_12 hn_12 tw_914 (Or.inl rfl) rfl (by decide +kernel) (by decide +kernel), ?_⟩
  refine ⟨ok_aload_n (z := 0) (by decide +kernel) rfl, ?_⟩
  refine ⟨ok_aload_n (z := 0) (by decide +kernel) rfl, ?_⟩
  refine ⟨ok_getf (ix := 32) hc_12 (by decide) hi_12 tw_905 (Or.inl rfl) (by decide +kernel), ?_⟩
  refine ⟨ok_iload_n (z := 2) (by decide +kernel) rfl, ?_⟩
  refine ⟨ok_lald rfl (by decide +kernel), ?_⟩
  refine ⟨ok_putf (ix := 219) hc_12 (by decide) hi_12 ht_12 hn_12 tw_915 (Or.inl rfl) rfl (by decide +kernel) (by decide +kernel), ?_⟩
  refine ⟨ok_aload_n (z := 0) (by decide +kernel) rfl, ?_⟩
  refine ⟨ok_aload_n (z := 0) (by decide +kernel) rfl, ?_⟩
  refine ⟨ok_getf (ix := 36) hc_12 (by decide) hi_12 tw_906 (Or.inl rfl) (by decide +kernel), ?_⟩
  refine ⟨ok_iload_n (z := 2) (by decide +kernel) rfl, ?_⟩
  refine ⟨ok_iald rfl (by decide +kernel), ?_⟩
  refine ⟨ok_putf (ix := 223) hc_12 (by decide) hi_12 ht_12 hn_12 tw_916 (Or.inl rfl) rfl (by decide +kernel) (by decide +kernel), ?_⟩
  refine ⟨ok_aload_n (z := 0) (by decide +kernel) rfl, ?_⟩
  refine ⟨ok_aload_n (z := 0) (by decide +kernel) rfl, ?_⟩
  refine ⟨ok_getf (ix := 39) hc_12 (by decide) hi_12 tw_907 (Or.inl rfl) (by decide +kernel), ?_⟩
  refine ⟨ok_iload_n (z := 2) (by decide +kernel) rfl, ?_⟩
  refine ⟨ok_iald rfl (by decide +kernel), ?_⟩
  refine ⟨ok_putf (ix := 226) hc_12 (by decide) hi_12 ht_12 hn_12 tw_917 (Or.inl rfl) rfl (by decide +kernel) (by decide +kernel), ?_⟩
  refine ⟨ok_aload_n (z := 0) (by decide +kernel) rfl, ?_⟩
  refine ⟨ok_aload_n (z := 0) (by decide +kernel) rfl, ?_⟩
  refine ⟨ok_getf (ix := 42) hc_12 (by decide) hi_12 tw_908 (Or.inl rfl) (by decide +kernel), ?_⟩
  refine ⟨ok_iload_n (z := 2) (by decide +kernel) rfl, ?_⟩
  refine ⟨ok_lald rfl (by decide +kernel), ?_⟩
  refine ⟨ok_putf (ix := 229) hc_12 (by decide) hi_12 ht_12 hn_12 tw_918 (Or.inl rfl) rfl (by decide +kernel) (by decide +kernel), ?_⟩
  refine ⟨ok_aload_n (z := 0) (by decide +kernel) rfl, ?_⟩
  refine ⟨ok_aload_n (z := 0) (by decide +kernel) rfl, ?_⟩
  exact trivial
set_option maxHeartbeats 4000000 in
set_option maxRecDepth 100000 in
theorem mg_Z_takeFirst_1 : ev_AllG (ev_Good l vc_L vt_L (gw_G b Ls xs z) prog_14_method_14_code 4 none my_Z_takeFirst.name my_Z_takeFirst.cls tb_T 0 0) (mk_Z_takeFirst_1 z) := by
  refine ⟨ok_getf (ix := 45) hc_12 (by decide) hi_12 tw_909 (Or.inl rfl) (by decide +kernel), ?_⟩
  refine ⟨ok_iload_n (z := 2) (by decide +kernel) rfl, ?_⟩
  refine ⟨ok_iald rfl (by decide +kernel), ?_⟩
  refine ⟨ok_putf (ix := 232) hc_12 (by decide) hi_12 ht_12 hn_12 tw_919 (Or.inl rfl) rfl (by decide +kernel) (by decide +kernel), ?_⟩
  refine ⟨ok_aload_n (z := 0) (by decide +kernel) rfl, ?_⟩
  refine ⟨ok_getf (ix := 7) hc_12 (by decide) hi_12 tw_898 (Or.inl rfl) (by decide +kernel), ?_⟩
  refine ⟨ok_iload_n (z := 1) (by decide +kernel) rfl, ?_⟩
  refine ⟨ok_dup2 (by decide +kernel), ?_⟩
  refine ⟨ok_iald rfl (by decide +kernel), ?_⟩
  refine ⟨ok_iconst (z := 1) (by decide +kernel) (by decide +kernel), ?_⟩
  refine ⟨ok_isub (by decide +kernel), ?_⟩
  refine ⟨ok_iast rfl (by decide +kernel), ?_⟩
  refine ⟨ok_iload_n (z := 2) (by decide +kernel) rfl, ?_⟩
  refine ⟨ok_istore_n (z := 3) (by decide) (by decide +kernel) rfl, ?_⟩
  refine ⟨ok_iload_n (z := 3) (by decide +kernel) rfl, ?_⟩
  refine ⟨ok_iload_n (z := 2) (by decide +kernel) rfl, ?_⟩
  refine ⟨ok_aload_n (z := 0) (by decide +kernel) rfl, ?_⟩
  refine ⟨ok_getf (ix := 7) hc_12 (by decide) hi_12 tw_898 (Or.inl rfl) (by decide +kernel), ?_⟩
  refine ⟨ok_iload_n (z := 1) (by decide +kernel) rfl, ?_⟩
  refine ⟨ok_iald rfl (by decide +kernel), ?_⟩
  refine ⟨ok_iadd (by decide +kernel), ?_⟩
  refine ⟨ok_icmpge (off := 163) (by decide +kernel) (by decide), ?_⟩
  refine ⟨ok_aload_n (z := 0) (by decide +kernel) rfl, ?_⟩
  refine ⟨ok_getf (ix := 13) hc_12 (by decide) hi_12 tw_899 (Or.inl rfl) (by decide +kernel), ?_⟩
  refine ⟨ok_iload_n (z := 3) (by decide +kernel) rfl, ?_⟩
  refine ⟨ok_aload_n (z := 0) (by decide +kernel) rfl, ?_⟩
  refine ⟨ok_getf (ix := 13) hc_12 (by decide) hi_12 tw_899 (Or.inl rfl) (by decide +kernel), ?_⟩
  refine ⟨ok_iload_n (z := 3) (by decide +kernel) rfl, ?_⟩
  refine ⟨ok_iconst (z := 1) (by decide +kernel) (by decide +kernel), ?_⟩
  refine ⟨ok_iadd (by decide +kernel), ?_⟩
  refine ⟨ok_iald rfl (by decide +kernel), ?_⟩
  refine ⟨ok_iast rfl (by decide +kernel), ?_⟩
  refine ⟨ok_aload_n (z := 0) (by decide +kernel) rfl, ?_⟩
  refine ⟨ok_getf (ix := 16) hc_12 (by decide) hi_12 tw_900 (Or.inl rfl) (by decide +kernel), ?_⟩
  refine ⟨ok_iload_n (z := 3) (by decide +kernel) rfl, ?_⟩
  refine ⟨ok_aload_n (z := 0) (by decide +kernel) rfl, ?_⟩
  refine ⟨ok_getf (ix := 16) hc_12 (by decide) hi_12 tw_900 (Or.inl rfl) (by decide +kernel), ?_⟩
  refine ⟨ok_iload_n (z := 3) (by decide +kernel) rfl, ?_⟩
  refine ⟨ok_iconst (z := 1) (by decide +kernel) (by decide +kernel), ?_⟩
  refine ⟨ok_iadd (by decide +kernel), ?_⟩
  refine ⟨ok_iald rfl (by decide +kernel), ?_⟩
  refine ⟨ok_iast rfl (by decide +kernel), ?_⟩
  refine ⟨ok_aload_n (z := 0) (by decide +kernel) rfl, ?_⟩
  refine ⟨ok_getf (ix := 19) hc_12 (by decide) hi_12 tw_901 (Or.inl rfl) (by decide +kernel), ?_⟩
  refine ⟨ok_iload_n (z := 3) (by decide +kernel) rfl, ?_⟩
  refine ⟨ok_aload_n (z := 0) (by decide +kernel) rfl, ?_⟩
  refine ⟨ok_getf (ix := 19) hc_12 (by decide) hi_12 tw_901 (Or.inl rfl) (by decide +kernel), ?_⟩
  refine ⟨ok_iload_n (z := 3) (by decide +kernel) rfl, ?_⟩
  refine ⟨ok_iconst (z := 1) (by decide +kernel) (by decide +kernel), ?_⟩
  refine ⟨ok_iadd (by decide +kernel), ?_⟩
  refine ⟨ok_iald rfl (by decide +kernel), ?_⟩
  refine ⟨ok_iast rfl (by decide +kernel), ?_⟩
  refine ⟨ok_aload_n (z := 0) (by decide +kernel) rfl, ?_⟩
  refine ⟨ok_getf (ix := 22) hc_12 (by decide) hi_12 tw_902 (Or.inl rfl) (by decide +kernel), ?_⟩
  refine ⟨ok_iload_n (z := 3) (by decide +kernel) rfl, ?_⟩
  refine ⟨ok_aload_n (z := 0) (by decide +kernel) rfl, ?_⟩
  refine ⟨ok_getf (ix := 22) hc_12 (by decide) hi_12 tw_902 (Or.inl rfl) (by decide +kernel), ?_⟩
  refine ⟨ok_iload_n (z := 3) (by decide +kernel) rfl, ?_⟩
  refine ⟨ok_iconst (z := 1) (by decide +kernel) (by decide +kernel), ?_⟩
  refine ⟨ok_iadd (by decide +kernel), ?_⟩
  exact trivial
set_option maxHeartbeats 4000000 in
set_option maxRecDepth 100000 in
theorem mg_Z_takeFirst_2 : ev_AllG (ev_Good l vc_L vt_L (gw_G b Ls xs z) prog_14_method_14_code 4 none my_Z_takeFirst.name my_Z_takeFirst.cls tb_T 0 0) (mk_Z_takeFirst_2 z) := by
  refine ⟨ok_iald rfl (by decide +kernel), ?_⟩
  refine ⟨ok_iast rfl (by decide +kernel), ?_⟩
  refine ⟨ok_aload_n (z := 0) (by decide +kernel) rfl, ?_⟩
  refine ⟨ok_getf (ix := 25) hc_12 (by decide) hi_12 tw_903 (Or.inl rfl) (by decide +kernel), ?_⟩
  refine ⟨ok_iload_n (z := 3) (by decide +kernel) rfl, ?_⟩
  refine ⟨ok_aload_n (z := 0) (by decide +kernel) rfl, ?_⟩
  refine ⟨ok_getf (ix := 25) hc_12 (by decide) hi_12 tw_903 (Or.inl rfl) (by decide +kernel), ?_⟩
  refine ⟨ok_iload_n (z := 3) (by decide +kernel) rfl, ?_⟩
  refine ⟨ok_iconst (z := 1) (by decide +kernel) (by decide +kernel), ?_⟩
  refine ⟨ok_iadd (by decide +kernel), ?_⟩
  refine ⟨ok_zald rfl (by decide +kernel), ?_⟩
  refine ⟨ok_zast rfl (by decide +kernel), ?_⟩
  refine ⟨ok_aload_n (z := 0) (by decide +kernel) rfl, ?_⟩
  refine ⟨ok_getf (ix := 29) hc_12 (by decide) hi_12 tw_904 (Or.inl rfl) (by decide +kernel), ?_⟩
  refine ⟨ok_iload_n (z := 3) (by decide +kernel) rfl, ?_⟩
  refine ⟨ok_aload_n (z := 0) (by decide +kernel) rfl, ?_⟩
  refine ⟨ok_getf (ix := 29) hc_12 (by decide) hi_12 tw_904 (Or.inl rfl) (by decide +kernel), ?_⟩
  refine ⟨ok_iload_n (z := 3) (by decide +kernel) rfl, ?_⟩
  refine ⟨ok_iconst (z := 1) (by decide +kernel) (by decide +kernel), ?_⟩
  refine ⟨ok_iadd (by decide +kernel), ?_⟩
  refine ⟨ok_zald rfl (by decide +kernel), ?_⟩
  refine ⟨ok_zast rfl (by decide +kernel), ?_⟩
  refine ⟨ok_aload_n (z := 0) (by decide +kernel) rfl, ?_⟩
  refine ⟨ok_getf (ix := 32) hc_12 (by decide) hi_12 tw_905 (Or.inl rfl) (by decide +kernel), ?_⟩
  refine ⟨ok_iload_n (z := 3) (by decide +kernel) rfl, ?_⟩
  refine ⟨ok_aload_n (z := 0) (by decide +kernel) rfl, ?_⟩
  refine ⟨ok_getf (ix := 32) hc_12 (by decide) hi_12 tw_905 (Or.inl rfl) (by decide +kernel), ?_⟩
  refine ⟨ok_iload_n (z := 3) (by decide +kernel) rfl, ?_⟩
  refine ⟨ok_iconst (z := 1) (by decide +kernel) (by decide +kernel), ?_⟩
  refine ⟨ok_iadd (by decide +kernel), ?_⟩
  refine ⟨ok_lald rfl (by decide +kernel), ?_⟩
  refine ⟨ok_last rfl (by decide +kernel), ?_⟩
  refine ⟨ok_aload_n (z := 0) (by decide +kernel) rfl, ?_⟩
  refine ⟨ok_getf (ix := 36) hc_12 (by decide) hi_12 tw_906 (Or.inl rfl) (by decide +kernel), ?_⟩
  refine ⟨ok_iload_n (z := 3) (by decide +kernel) rfl, ?_⟩
  refine ⟨ok_aload_n (z := 0) (by decide +kernel) rfl, ?_⟩
  refine ⟨ok_getf (ix := 36) hc_12 (by decide) hi_12 tw_906 (Or.inl rfl) (by decide +kernel), ?_⟩
  refine ⟨ok_iload_n (z := 3) (by decide +kernel) rfl, ?_⟩
  refine ⟨ok_iconst (z := 1) (by decide +kernel) (by decide +kernel), ?_⟩
  refine ⟨ok_iadd (by decide +kernel), ?_⟩
  refine ⟨ok_iald rfl (by decide +kernel), ?_⟩
  refine ⟨ok_iast rfl (by decide +kernel), ?_⟩
  refine ⟨ok_aload_n (z := 0) (by decide +kernel) rfl, ?_⟩
  refine ⟨ok_getf (ix := 39) hc_12 (by decide) hi_12 tw_907 (Or.inl rfl) (by decide +kernel), ?_⟩
  refine ⟨ok_iload_n (z := 3) (by decide +kernel) rfl, ?_⟩
  refine ⟨ok_aload_n (z := 0) (by decide +kernel) rfl, ?_⟩
  refine ⟨ok_getf (ix := 39) hc_12 (by decide) hi_12 tw_907 (Or.inl rfl) (by decide +kernel), ?_⟩
  refine ⟨ok_iload_n (z := 3) (by decide +kernel) rfl, ?_⟩
  refine ⟨ok_iconst (z := 1) (by decide +kernel) (by decide +kernel), ?_⟩
  refine ⟨ok_iadd (by decide +kernel), ?_⟩
  refine ⟨ok_iald rfl (by decide +kernel), ?_⟩
  refine ⟨ok_iast rfl (by decide +kernel), ?_⟩
  refine ⟨ok_aload_n (z := 0) (by decide +kernel) rfl, ?_⟩
  refine ⟨ok_getf (ix := 42) hc_12 (by decide) hi_12 tw_908 (Or.inl rfl) (by decide +kernel), ?_⟩
  refine ⟨ok_iload_n (z := 3) (by decide +kernel) rfl, ?_⟩
  refine ⟨ok_aload_n (z := 0) (by decide +kernel) rfl, ?_⟩
  refine ⟨ok_getf (ix := 42) hc_12 (by decide) hi_12 tw_908 (Or.inl rfl) (by decide +kernel), ?_⟩
  refine ⟨ok_iload_n (z := 3) (by decide +kernel) rfl, ?_⟩
  refine ⟨ok_iconst (z := 1) (by decide +kernel) (by decide +kernel), ?_⟩
  refine ⟨ok_iadd (by decide +kernel), ?_⟩
  exact trivial
set_option maxHeartbeats 4000000 in
set_option maxRecDepth 100000 in
theorem mg_Z_takeFirst_3 : ev_AllG (ev_Good l vc_L vt_L (gw_G b Ls xs z) prog_14_method_14_code 4 none my_Z_takeFirst.name my_Z_takeFirst.cls tb_T 0 0) (mk_Z_takeFirst_3 z) := by
  refine ⟨ok_lald rfl (by decide +kernel), ?_⟩
  refine ⟨ok_last rfl (by decide +kernel), ?_⟩
  refine ⟨ok_aload_n (z := 0) (by decide +kernel) rfl, ?_⟩
  refine ⟨ok_getf (ix := 45) hc_12 (by decide) hi_12 tw_909 (Or.inl rfl) (by decide +kernel), ?_⟩
  refine ⟨ok_iload_n (z := 3) (by decide +kernel) rfl, ?_⟩
  refine ⟨ok_aload_n (z := 0) (by decide +kernel) rfl, ?_⟩
  refine ⟨ok_getf (ix := 45) hc_12 (by decide) hi_12 tw_909 (Or.inl rfl) (by decide +kernel), ?_⟩
  refine ⟨ok_iload_n (z := 3) (by decide +kernel) rfl, ?_⟩
  refine ⟨ok_iconst (z := 1) (by decide +kernel) (by decide +kernel), ?_⟩
  refine ⟨ok_iadd (by decide +kernel), ?_⟩
  refine ⟨ok_iald rfl (by decide +kernel), ?_⟩
  refine ⟨ok_iast rfl (by decide +kernel), ?_⟩
  refine ⟨ok_iinc (z := 1) (by decide) (by decide +kernel) (by decide +kernel), ?_⟩
  refine ⟨ok_goto (off := (-169)) (by decide +kernel) (by decide), ?_⟩
  refine ⟨ok_vret rfl (by decide +kernel), ?_⟩
  exact trivial
theorem mg_Z_takeFirst : ev_AllG (ev_Good l vc_L vt_L (gw_G b Ls xs z) prog_14_method_14_code 4 none my_Z_takeFirst.name my_Z_takeFirst.cls tb_T 0 0) (mk_Z_takeFirst z) := ev_AllG.app mg_Z_takeFirst_0 (ev_AllG.app mg_Z_takeFirst_1 (ev_AllG.app mg_Z_takeFirst_2 (mg_Z_takeFirst_3)))
theorem ms_Z_takeFirst : ev_Met l vc_L vt_L (gw_G b Ls xs z) my_Z_takeFirst (Cond.code my_Z_takeFirst prog_14_method_14_code 4 none :: tb_T) 0 0 (mf_Z_takeFirst z) := ev_sound (by decide +kernel) mg_Z_takeFirst
def my_Z_forget : MethodName := ⟨"MessageHubModel", "forget", "(II)V"⟩
def mk_Z_forget_0 (z : Nat × Nat) : ev_C := [(0, ev_fn (ev_aload 0 1)), (1, ev_fn (ev_getf 12 23 4)), (4, ev_fn (ev_iload 1 5)), (5, ev_fn (ev_dup2 6)), (6, ev_fn (ev_iald 7)), (7, ev_fn (ev_ci 1 8)), (8, ev_fn (ev_isub 9)), (9, ev_fn (ev_iast 10)), (10, ev_fn (ev_ci 4 11)), (11, ev_fn (ev_iload 1 12)), (12, ev_fn (ev_imul 13)), (13, ev_fn (ev_iload 2 14)), (14, ev_fn (ev_iadd 15)), (15, ev_fn (ev_istore 3 16)), (16, ev_fn (ev_iload 3 17)), (17, ev_fn (ev_ci 4 18)), (18, ev_fn (ev_iload 1 19)), (19, ev_fn (ev_imul 20)), (20, ev_fn (ev_aload 0 21)), (21, ev_fn (ev_getf 12 23 24)), (24, ev_fn (ev_iload 1 25)), (25, ev_fn (ev_iald 26)), (26, ev_fn (ev_iadd 27)), (27, ev_fn (ev_icmpge 120 30)), (30, ev_fn (ev_aload 0 31)), (31, ev_fn (ev_getf 12 24 34)), (34, ev_fn (ev_iload 3 35)), (35, ev_fn (ev_aload 0 36)), (36, ev_fn (ev_getf 12 24 39)), (39, ev_fn (ev_iload 3 40)), (40, ev_fn (ev_ci 1 41)), (41, ev_fn (ev_iadd 42)), (42, ev_fn (ev_lald 43)), (43, ev_fn (ev_last 44)), (44, ev_fn (ev_aload 0 45)), (45, ev_fn (ev_getf 12 25 48)), (48, ev_fn (ev_iload 3 49)), (49, ev_fn (ev_aload 0 50)), (50, ev_fn (ev_getf 12 25 53)), (53, ev_fn (ev_iload 3 54)), (54, ev_fn (ev_ci 1 55)), (55, ev_fn (ev_iadd 56)), (56, ev_fn (ev_iald 57)), (57, ev_fn (ev_iast 58)), (58, ev_fn (ev_aload 0 59)), (59, ev_fn (ev_getf 12 26 62)), (62, ev_fn (ev_iload 3 63)), (63, ev_fn (ev_aload 0 64)), (64, ev_fn (ev_getf 12 26 67)), (67, ev_fn (ev_iload 3 68)), (68, ev_fn (ev_ci 1 69)), (69, ev_fn (ev_iadd 70)), (70, ev_fn (ev_iald 71)), (71, ev_fn (ev_iast 72)), (72, ev_fn (ev_aload 0 73)), (73, ev_fn (ev_getf 12 27 76)), (76, ev_fn (ev_iload 3 77)), (77, ev_fn (ev_aload 0 78)), (78, ev_fn (ev_getf 12 27 81)), (81, ev_fn (ev_iload 3 82))]
def mk_Z_forget_1 (z : Nat × Nat) : ev_C := [(82, ev_fn (ev_ci 1 83)), (83, ev_fn (ev_iadd 84)), (84, ev_fn (ev_zald 85)), (85, ev_fn (ev_zast 86)), (86, ev_fn (ev_aload 0 87)), (87, ev_fn (ev_getf 12 28 90)), (90, ev_fn (ev_iload 3 91)), (91, ev_fn (ev_aload 0 92)), (92, ev_fn (ev_getf 12 28 95)), (95, ev_fn (ev_iload 3 96)), (96, ev_fn (ev_ci 1 97)), (97, ev_fn (ev_iadd 98)), (98, ev_fn (ev_iald 99)), (99, ev_fn (ev_iast 100)), (100, ev_fn (ev_aload 0 101)), (101, ev_fn (ev_getf 12 29 104)), (104, ev_fn (ev_iload 3 105)), (105, ev_fn (ev_aload 0 106)), (106, ev_fn (ev_getf 12 29 109)), (109, ev_fn (ev_iload 3 110)), (110, ev_fn (ev_ci 1 111)), (111, ev_fn (ev_iadd 112)), (112, ev_fn (ev_iald 113)), (113, ev_fn (ev_iast 114)), (114, ev_fn (ev_iinc 3 1 117)), (117, ev_fn (ev_goto 16)), (120, ev_fn ev_vret)]
def mk_Z_forget (z : Nat × Nat) : ev_C := mk_Z_forget_0 z ++ (mk_Z_forget_1 z)
def mf_Z_forget (z : Nat × Nat) : ev_F := ev_met (mk_Z_forget z) 4
set_option maxHeartbeats 4000000 in
set_option maxRecDepth 100000 in
theorem mg_Z_forget_0 : ev_AllG (ev_Good l vc_L vt_L (gw_G b Ls xs z) prog_14_method_16_code 4 none my_Z_forget.name my_Z_forget.cls tb_T 0 0) (mk_Z_forget_0 z) := by
  refine ⟨ok_aload_n (z := 0) (by decide +kernel) rfl, ?_⟩
  refine ⟨ok_getf (ix := 51) hc_12 (by decide) hi_12 tw_921 (Or.inl rfl) (by decide +kernel), ?_⟩
  refine ⟨ok_iload_n (z := 1) (by decide +kernel) rfl, ?_⟩
  refine ⟨ok_dup2 (by decide +kernel), ?_⟩
  refine ⟨ok_iald rfl (by decide +kernel), ?_⟩
  refine ⟨ok_iconst (z := 1) (by decide +kernel) (by decide +kernel), ?_⟩
  refine ⟨ok_isub (by decide +kernel), ?_⟩
  refine ⟨ok_iast rfl (by decide +kernel), ?_⟩
  refine ⟨ok_iconst (z := 4) (by decide +kernel) (by decide +kernel), ?_⟩
  refine ⟨ok_iload_n (z := 1) (by decide +kernel) rfl, ?_⟩
  refine ⟨ok_imul (by decide +kernel), ?_⟩
  refine ⟨ok_iload_n (z := 2) (by decide +kernel) rfl, ?_⟩
  refine ⟨ok_iadd (by decide +kernel), ?_⟩
  refine ⟨ok_istore_n (z := 3) (by decide) (by decide +kernel) rfl, ?_⟩
  refine ⟨ok_iload_n (z := 3) (by decide +kernel) rfl, ?_⟩
  refine ⟨ok_iconst (z := 4) (by decide +kernel) (by decide +kernel), ?_⟩
  refine ⟨ok_iload_n (z := 1) (by decide +kernel) rfl, ?_⟩
  refine ⟨ok_imul (by decide +kernel), ?_⟩
  refine ⟨ok_aload_n (z := 0) (by decide +kernel) rfl, ?_⟩
  refine ⟨ok_getf (ix := 51) hc_12 (by decide) hi_12 tw_921 (Or.inl rfl) (by decide +kernel), ?_⟩
  refine ⟨ok_iload_n (z := 1) (by decide +kernel) rfl, ?_⟩
  refine ⟨ok_iald rfl (by decide +kernel), ?_⟩
  refine ⟨ok_iadd (by decide +kernel), ?_⟩
  refine ⟨ok_icmpge (off := 93) (by decide +kernel) (by decide), ?_⟩
  refine ⟨ok_aload_n (z := 0) (by decide +kernel) rfl, ?_⟩
  refine ⟨ok_getf (ix := 54) hc_12 (by decide) hi_12 tw_922 (Or.inl rfl) (by decide +kernel), ?_⟩
  refine ⟨ok_iload_n (z := 3) (by decide +kernel) rfl, ?_⟩
  refine ⟨ok_aload_n (z := 0) (by decide +kernel) rfl, ?_⟩
  refine ⟨ok_getf (ix := 54) hc_12 (by decide) hi_12 tw_922 (Or.inl rfl) (by decide +kernel), ?_⟩
  refine ⟨ok_iload_n (z := 3) (by decide +kernel) rfl, ?_⟩
  refine ⟨ok_iconst (z := 1) (by decide +kernel) (by decide +kernel), ?_⟩
  refine ⟨ok_iadd (by decide +kernel), ?_⟩
  refine ⟨ok_lald rfl (by decide +kernel), ?_⟩
  refine ⟨ok_last rfl (by decide +kernel), ?_⟩
  refine ⟨ok_aload_n (z := 0) (by decide +kernel) rfl, ?_⟩
  refine ⟨ok_getf (ix := 57) hc_12 (by decide) hi_12 tw_923 (Or.inl rfl) (by decide +kernel), ?_⟩
  refine ⟨ok_iload_n (z := 3) (by decide +kernel) rfl, ?_⟩
  refine ⟨ok_aload_n (z := 0) (by decide +kernel) rfl, ?_⟩
  refine ⟨ok_getf (ix := 57) hc_12 (by decide) hi_12 tw_923 (Or.inl rfl) (by decide +kernel), ?_⟩
  refine ⟨ok_iload_n (z := 3) (by decide +kernel) rfl, ?_⟩
  refine ⟨ok_iconst (z := 1) (by decide +kernel) (by decide +kernel), ?_⟩
  refine ⟨ok_iadd (by decide +kernel), ?_⟩
  refine ⟨ok_iald rfl (by decide +kernel), ?_⟩
  refine ⟨ok_iast rfl (by decide +kernel), ?_⟩
  refine ⟨ok_aload_n (z := 0) (by decide +kernel) rfl, ?_⟩
  refine ⟨ok_getf (ix := 60) hc_12 (by decide) hi_12 tw_924 (Or.inl rfl) (by decide +kernel), ?_⟩
  refine ⟨ok_iload_n (z := 3) (by decide +kernel) rfl, ?_⟩
  refine ⟨ok_aload_n (z := 0) (by decide +kernel) rfl, ?_⟩
  refine ⟨ok_getf (ix := 60) hc_12 (by decide) hi_12 tw_924 (Or.inl rfl) (by decide +kernel), ?_⟩
  refine ⟨ok_iload_n (z := 3) (by decide +kernel) rfl, ?_⟩
  refine ⟨ok_iconst (z := 1) (by decide +kernel) (by decide +kernel), ?_⟩
  refine ⟨ok_iadd (by decide +kernel), ?_⟩
  refine ⟨ok_iald rfl (by decide +kernel), ?_⟩
  refine ⟨ok_iast rfl (by decide +kernel), ?_⟩
  refine ⟨ok_aload_n (z := 0) (by decide +kernel) rfl, ?_⟩
  refine ⟨ok_getf (ix := 63) hc_12 (by decide) hi_12 tw_925 (Or.inl rfl) (by decide +kernel), ?_⟩
  refine ⟨ok_iload_n (z := 3) (by decide +kernel) rfl, ?_⟩
  refine ⟨ok_aload_n (z := 0) (by decide +kernel) rfl, ?_⟩
  refine ⟨ok_getf (ix := 63) hc_12 (by decide) hi_12 tw_925 (Or.inl rfl) (by decide +kernel), ?_⟩
  refine ⟨ok_iload_n (z := 3) (by decide +kernel) rfl, ?_⟩
  exact trivial
set_option maxHeartbeats 4000000 in
set_option maxRecDepth 100000 in
theorem mg_Z_forget_1 : ev_AllG (ev_Good l vc_L vt_L (gw_G b Ls xs z) prog_14_method_16_code 4 none my_Z_forget.name my_Z_forget.cls tb_T 0 0) (mk_Z_forget_1 z) := by
  refine ⟨ok_iconst (z := 1) (by decide +kernel) (by decide +kernel), ?_⟩
  refine ⟨ok_iadd (by decide +kernel), ?_⟩
  refine ⟨ok_zald rfl (by decide +kernel), ?_⟩
  refine ⟨ok_zast rfl (by decide +kernel), ?_⟩
  refine ⟨ok_aload_n (z := 0) (by decide +kernel) rfl, ?_⟩
  refine ⟨ok_getf (ix := 66) hc_12 (by decide) hi_12 tw_926 (Or.inl rfl) (by decide +kernel), ?_⟩
  refine ⟨ok_iload_n (z := 3) (by decide +kernel) rfl, ?_⟩
  refine ⟨ok_aload_n (z := 0) (by decide +kernel) rfl, ?_⟩
  refine ⟨ok_getf (ix := 66) hc_12 (by decide) hi_12 tw_926 (Or.inl rfl) (by decide +kernel), ?_⟩
  refine ⟨ok_iload_n (z := 3) (by decide +kernel) rfl, ?_⟩
  refine ⟨ok_iconst (z := 1) (by decide +kernel) (by decide +kernel), ?_⟩
  refine ⟨ok_iadd (by decide +kernel), ?_⟩
  refine ⟨ok_iald rfl (by decide +kernel), ?_⟩
  refine ⟨ok_iast rfl (by decide +kernel), ?_⟩
  refine ⟨ok_aload_n (z := 0) (by decide +kernel) rfl, ?_⟩
  refine ⟨ok_getf (ix := 69) hc_12 (by decide) hi_12 tw_927 (Or.inl rfl) (by decide +kernel), ?_⟩
  refine ⟨ok_iload_n (z := 3) (by decide +kernel) rfl, ?_⟩
  refine ⟨ok_aload_n (z := 0) (by decide +kernel) rfl, ?_⟩
  refine ⟨ok_getf (ix := 69) hc_12 (by decide) hi_12 tw_927 (Or.inl rfl) (by decide +kernel), ?_⟩
  refine ⟨ok_iload_n (z := 3) (by decide +kernel) rfl, ?_⟩
  refine ⟨ok_iconst (z := 1) (by decide +kernel) (by decide +kernel), ?_⟩
  refine ⟨ok_iadd (by decide +kernel), ?_⟩
  refine ⟨ok_iald rfl (by decide +kernel), ?_⟩
  refine ⟨ok_iast rfl (by decide +kernel), ?_⟩
  refine ⟨ok_iinc (z := 1) (by decide) (by decide +kernel) (by decide +kernel), ?_⟩
  refine ⟨ok_goto (off := (-101)) (by decide +kernel) (by decide), ?_⟩
  refine ⟨ok_vret rfl (by decide +kernel), ?_⟩
  exact trivial
theorem mg_Z_forget : ev_AllG (ev_Good l vc_L vt_L (gw_G b Ls xs z) prog_14_method_16_code 4 none my_Z_forget.name my_Z_forget.cls tb_T 0 0) (mk_Z_forget z) := ev_AllG.app mg_Z_forget_0 (mg_Z_forget_1)
theorem ms_Z_forget : ev_Met l vc_L vt_L (gw_G b Ls xs z) my_Z_forget (Cond.code my_Z_forget prog_14_method_16_code 4 none :: tb_T) 0 0 (mf_Z_forget z) := ev_sound (by decide +kernel) mg_Z_forget
def my_Z_greeted : MethodName := ⟨"MessageHubModel", "greeted", "(I)V"⟩
def mk_Z_greeted_0 (z : Nat × Nat) : ev_C := [(0, ev_fn (ev_aload 0 1)), (1, ev_fn (ev_getf 12 22 4)), (4, ev_fn (ev_iload 1 5)), (5, ev_fn (ev_ci 2 6)), (6, ev_fn (ev_iast 7)), (7, ev_fn (ev_ci 0 8)), (8, ev_fn (ev_istore 2 9)), (9, ev_fn (ev_iload 2 10)), (10, ev_fn (ev_ci 9 12)), (12, ev_fn (ev_icmpge 40 15)), (15, ev_fn (ev_aload 0 16)), (16, ev_fn (ev_getf 12 14 19)), (19, ev_fn (ev_ifne 40 22)), (22, ev_fn (ev_aload 0 23)), (23, ev_fn (ev_getf 12 30 26)), (26, ev_fn (ev_ci 9 28)), (28, ev_fn (ev_iload 1 29)), (29, ev_fn (ev_imul 30)), (30, ev_fn (ev_iload 2 31)), (31, ev_fn (ev_iadd 32)), (32, ev_fn (ev_ci 0 33)), (33, ev_fn (ev_zast 34)), (34, ev_fn (ev_iinc 2 1 37)), (37, ev_fn (ev_goto 9)), (40, ev_fn (ev_aload 0 41)), (41, ev_fn (ev_getf 12 23 44)), (44, ev_fn (ev_iload 1 45)), (45, ev_fn (ev_iald 46)), (46, ev_fn (ev_ci 1 47)), (47, ev_fn (ev_isub 48)), (48, ev_fn (ev_istore 2 49)), (49, ev_fn (ev_iload 2 50)), (50, ev_fn (ev_iflt 100 53)), (53, ev_fn (ev_aload 0 54)), (54, ev_fn (ev_getf 12 14 57)), (57, ev_fn (ev_ifne 100 60)), (60, ev_fn (ev_aload 0 61)), (61, ev_fn (ev_getf 12 28 64)), (64, ev_fn (ev_ci 4 65)), (65, ev_fn (ev_iload 1 66)), (66, ev_fn (ev_imul 67)), (67, ev_fn (ev_iload 2 68)), (68, ev_fn (ev_iadd 69)), (69, ev_fn (ev_iald 70)), (70, ev_fn (ev_ci 2 71)), (71, ev_fn (ev_icmpne 83 74)), (74, ev_fn (ev_aload 0 75)), (75, ev_fn (ev_iload 1 76)), (76, ev_fn (ev_iload 2 77)), (77, ev_callR 12 (mf_Z_forget z) 3 80), (80, ev_fn (ev_goto 94)), (83, ev_fn (ev_aload 0 84)), (84, ev_fn (ev_getf 12 28 87)), (87, ev_fn (ev_ci 4 88)), (88, ev_fn (ev_iload 1 89)), (89, ev_fn (ev_imul 90)), (90, ev_fn (ev_iload 2 91)), (91, ev_fn (ev_iadd 92)), (92, ev_fn (ev_ci 0 93)), (93, ev_fn (ev_iast 94))]
def mk_Z_greeted_1 (z : Nat × Nat) : ev_C := [(94, ev_fn (ev_iinc 2 (-1) 97)), (97, ev_fn (ev_goto 49)), (100, ev_fn (ev_ci 0 101)), (101, ev_fn (ev_istore 2 102)), (102, ev_fn (ev_iload 2 103)), (103, ev_fn (ev_aload 0 104)), (104, ev_fn (ev_getf 12 23 107)), (107, ev_fn (ev_iload 1 108)), (108, ev_fn (ev_iald 109)), (109, ev_fn (ev_icmpge 171 112)), (112, ev_fn (ev_ci 4 113)), (113, ev_fn (ev_iload 1 114)), (114, ev_fn (ev_imul 115)), (115, ev_fn (ev_iload 2 116)), (116, ev_fn (ev_iadd 117)), (117, ev_fn (ev_istore 3 118)), (118, ev_fn (ev_aload 0 119)), (119, ev_fn (ev_getf 12 28 122)), (122, ev_fn (ev_iload 3 123)), (123, ev_fn (ev_iald 124)), (124, ev_fn (ev_ci 1 125)), (125, ev_fn (ev_icmpne 138 128)), (128, ev_fn (ev_aload 0 129)), (129, ev_fn (ev_iload 1 130)), (130, ev_fn (ev_iload 3 131)), (131, ev_fn (ev_ci 1 132)), (132, ev_callR 12 (mf_Z_sendStored z) 4 135), (135, ev_fn (ev_goto 165)), (138, ev_fn (ev_aload 0 139)), (139, ev_fn (ev_getf 12 28 142)), (142, ev_fn (ev_iload 3 143)), (143, ev_fn (ev_iald 144)), (144, ev_fn (ev_ci 2 145)), (145, ev_fn (ev_icmpne 165 148)), (148, ev_fn (ev_aload 0 149)), (149, ev_fn (ev_ci 2 150)), (150, ev_fn (ev_iload 1 151)), (151, ev_fn (ev_imul 152)), (152, ev_fn (ev_ci 6 154)), (154, ev_fn (ev_aload 0 155)), (155, ev_fn (ev_getf 12 29 158)), (158, ev_fn (ev_iload 3 159)), (159, ev_fn (ev_iald 160)), (160, ev_fn (ev_ci 0 161)), (161, ev_callR 12 (mf_Z_send z) 5 164), (164, ev_fn (ev_pop 165)), (165, ev_fn (ev_iinc 2 1 168)), (168, ev_fn (ev_goto 102)), (171, ev_fn (ev_aload 0 172)), (172, ev_fn (ev_iload 1 173)), (173, ev_callR 12 (mf_Z_pumpClient z) 2 176), (176, ev_fn ev_vret)]
def mk_Z_greeted (z : Nat × Nat) : ev_C := mk_Z_greeted_0 z ++ (mk_Z_greeted_1 z)
def mf_Z_greeted (z : Nat × Nat) : ev_F := ev_met (mk_Z_greeted z) 4
set_option maxHeartbeats 4000000 in
set_option maxRecDepth 100000 in
theorem mg_Z_greeted_0 : ev_AllG (ev_Good l vc_L vt_L (gw_G b Ls xs z) prog_14_method_22_code 4 none my_Z_greeted.name my_Z_greeted.cls tb_T 4 98) (mk_Z_greeted_0 z) := by
  refine ⟨ok_aload_n (z := 0) (by decide +kernel) rfl, ?_⟩
  refine ⟨ok_getf (ix := 48) hc_12 (by decide) hi_12 tw_920 (Or.inl rfl) (by decide +kernel), ?_⟩
  refine ⟨ok_iload_n (z := 1) (by decide +kernel) rfl, ?_⟩
  refine ⟨ok_iconst (z := 2) (by decide +kernel) (by decide +kernel), ?_⟩
  refine ⟨ok_iast rfl (by decide +kernel), ?_⟩
  refine ⟨ok_iconst (z := 0) (by decide +kernel) (by decide +kernel), ?_⟩
  refine ⟨ok_istore_n (z := 2) (by decide) (by decide +kernel) rfl, ?_⟩
  refine ⟨ok_iload_n (z := 2) (by decide +kernel) rfl, ?_⟩
  refine ⟨ok_bipush (z := 9) (by decide +kernel) (by decide +kernel), ?_⟩
  refine ⟨ok_icmpge (off := 28) (by decide +kernel) (by decide), ?_⟩
  refine ⟨ok_aload_n (z := 0) (by decide +kernel) rfl, ?_⟩
  refine ⟨ok_getf (ix := 209) hc_12 (by decide) hi_12 tw_912 (Or.inl rfl) (by decide +kernel), ?_⟩
  refine ⟨ok_ifne (off := 21) (by decide +kernel) (by decide), ?_⟩
  refine ⟨ok_aload_n (z := 0) (by decide +kernel) rfl, ?_⟩
  refine ⟨ok_getf (ix := 72) hc_12 (by decide) hi_12 tw_928 (Or.inl rfl) (by decide +kernel), ?_⟩
  refine ⟨ok_bipush (z := 9) (by decide +kernel) (by decide +kernel), ?_⟩
  refine ⟨ok_iload_n (z := 1) (by decide +kernel) rfl, ?_⟩
  refine ⟨ok_imul (by decide +kernel), ?_⟩
  refine ⟨ok_iload_n (z := 2) (by decide +kernel) rfl, ?_⟩
  refine ⟨ok_iadd (by decide +kernel), ?_⟩
  refine ⟨ok_iconst (z := 0) (by decide +kernel) (by decide +kernel), ?_⟩
  refine ⟨ok_zast rfl (by decide +kernel), ?_⟩
  refine ⟨ok_iinc (z := 1) (by decide) (by decide +kernel) (by decide +kernel), ?_⟩
  refine ⟨ok_goto (off := (-28)) (by decide +kernel) (by decide), ?_⟩
  refine ⟨ok_aload_n (z := 0) (by decide +kernel) rfl, ?_⟩
  refine ⟨ok_getf (ix := 51) hc_12 (by decide) hi_12 tw_921 (Or.inl rfl) (by decide +kernel), ?_⟩
  refine ⟨ok_iload_n (z := 1) (by decide +kernel) rfl, ?_⟩
  refine ⟨ok_iald rfl (by decide +kernel), ?_⟩
  refine ⟨ok_iconst (z := 1) (by decide +kernel) (by decide +kernel), ?_⟩
  refine ⟨ok_isub (by decide +kernel), ?_⟩
  refine ⟨ok_istore_n (z := 2) (by decide) (by decide +kernel) rfl, ?_⟩
  refine ⟨ok_iload_n (z := 2) (by decide +kernel) rfl, ?_⟩
  refine ⟨ok_iflt (off := 50) (by decide +kernel) (by decide), ?_⟩
  refine ⟨ok_aload_n (z := 0) (by decide +kernel) rfl, ?_⟩
  refine ⟨ok_getf (ix := 209) hc_12 (by decide) hi_12 tw_912 (Or.inl rfl) (by decide +kernel), ?_⟩
  refine ⟨ok_ifne (off := 43) (by decide +kernel) (by decide), ?_⟩
  refine ⟨ok_aload_n (z := 0) (by decide +kernel) rfl, ?_⟩
  refine ⟨ok_getf (ix := 66) hc_12 (by decide) hi_12 tw_926 (Or.inl rfl) (by decide +kernel), ?_⟩
  refine ⟨ok_iconst (z := 4) (by decide +kernel) (by decide +kernel), ?_⟩
  refine ⟨ok_iload_n (z := 1) (by decide +kernel) rfl, ?_⟩
  refine ⟨ok_imul (by decide +kernel), ?_⟩
  refine ⟨ok_iload_n (z := 2) (by decide +kernel) rfl, ?_⟩
  refine ⟨ok_iadd (by decide +kernel), ?_⟩
  refine ⟨ok_iald rfl (by decide +kernel), ?_⟩
  refine ⟨ok_iconst (z := 2) (by decide +kernel) (by decide +kernel), ?_⟩
  refine ⟨ok_icmpne (off := 12) (by decide +kernel) (by decide), ?_⟩
  refine ⟨ok_aload_n (z := 0) (by decide +kernel) rfl, ?_⟩
  refine ⟨ok_iload_n (z := 1) (by decide +kernel) rfl, ?_⟩
  refine ⟨ok_iload_n (z := 2) (by decide +kernel) rfl, ?_⟩
  refine ⟨ok_callV (ix := 254) hc_12 ms_Z_forget (tb_cwV tw_1213 tw_1215 tv_43 tw_11 tw_1216 (by decide +kernel) (by decide) (by decide)) (by decide +kernel), ?_⟩
  refine ⟨ok_goto (off := 14) (by decide +kernel) (by decide), ?_⟩
  refine ⟨ok_aload_n (z := 0) (by decide +kernel) rfl, ?_⟩
  refine ⟨ok_getf (ix := 66) hc_12 (by decide) hi_12 tw_926 (Or.inl rfl) (by decide +kernel), ?_⟩
  refine ⟨ok_iconst (z := 4) (by decide +kernel) (by decide +kernel), ?_⟩
  refine ⟨ok_iload_n (z := 1) (by decide +kernel) rfl, ?_⟩
  refine ⟨ok_imul (by decide +kernel), ?_⟩
  refine ⟨ok_iload_n (z := 2) (by decide +kernel) rfl, ?_⟩
  refine ⟨ok_iadd (by decide +kernel), ?_⟩
  refine ⟨ok_iconst (z := 0) (by decide +kernel) (by decide +kernel), ?_⟩
  refine ⟨ok_iast rfl (by decide +kernel), ?_⟩
  exact trivial
set_option maxHeartbeats 4000000 in
set_option maxRecDepth 100000 in
theorem mg_Z_greeted_1 : ev_AllG (ev_Good l vc_L vt_L (gw_G b Ls xs z) prog_14_method_22_code 4 none my_Z_greeted.name my_Z_greeted.cls tb_T 4 98) (mk_Z_greeted_1 z) := by
  refine ⟨ok_iinc (z := (-1)) (by decide) (by decide +kernel) (by decide +kernel), ?_⟩
  refine ⟨ok_goto (off := (-48)) (by decide +kernel) (by decide), ?_⟩
  refine ⟨ok_iconst (z := 0) (by decide +kernel) (by decide +kernel), ?_⟩
  refine ⟨ok_istore_n (z := 2) (by decide) (by decide +kernel) rfl, ?_⟩
  refine ⟨ok_iload_n (z := 2) (by decide +kernel) rfl, ?_⟩
  refine ⟨ok_aload_n (z := 0) (by decide +kernel) rfl, ?_⟩
  refine ⟨ok_getf (ix := 51) hc_12 (by decide) hi_12 tw_921 (Or.inl rfl) (by decide +kernel), ?_⟩
  refine ⟨ok_iload_n (z := 1) (by decide +kernel) rfl, ?_⟩
  refine ⟨ok_iald rfl (by decide +kernel), ?_⟩
  refine ⟨ok_icmpge (off := 62) (by decide +kernel) (by decide), ?_⟩
  refine ⟨ok_iconst (z := 4) (by decide +kernel) (by decide +kernel), ?_⟩
  refine ⟨ok_iload_n (z := 1) (by decide +kernel) rfl, ?_⟩
  refine ⟨ok_imul (by decide +kernel), ?_⟩
  refine ⟨ok_iload_n (z := 2) (by decide +kernel) rfl, ?_⟩
  refine ⟨ok_iadd (by decide +kernel), ?_⟩
  refine ⟨ok_istore_n (z := 3) (by decide) (by decide +kernel) rfl, ?_⟩
  refine ⟨ok_aload_n (z := 0) (by decide +kernel) rfl, ?_⟩
  refine ⟨ok_getf (ix := 66) hc_12 (by decide) hi_12 tw_926 (Or.inl rfl) (by decide +kernel), ?_⟩
  refine ⟨ok_iload_n (z := 3) (by decide +kernel) rfl, ?_⟩
  refine ⟨ok_iald rfl (by decide +kernel), ?_⟩
  refine ⟨ok_iconst (z := 1) (by decide +kernel) (by decide +kernel), ?_⟩
  refine ⟨ok_icmpne (off := 13) (by decide +kernel) (by decide), ?_⟩
  refine ⟨ok_aload_n (z := 0) (by decide +kernel) rfl, ?_⟩
  refine ⟨ok_iload_n (z := 1) (by decide +kernel) rfl, ?_⟩
  refine ⟨ok_iload_n (z := 3) (by decide +kernel) rfl, ?_⟩
  refine ⟨ok_iconst (z := 1) (by decide +kernel) (by decide +kernel), ?_⟩
  refine ⟨ok_callV (ix := 250) hc_12 ms_Z_sendStored (tb_cwV tw_1193 tw_1195 tv_39 tw_11 tw_1196 (by decide +kernel) (by decide) (by decide)) (by decide +kernel), ?_⟩
  refine ⟨ok_goto (off := 30) (by decide +kernel) (by decide), ?_⟩
  refine ⟨ok_aload_n (z := 0) (by decide +kernel) rfl, ?_⟩
  refine ⟨ok_getf (ix := 66) hc_12 (by decide) hi_12 tw_926 (Or.inl rfl) (by decide +kernel), ?_⟩
  refine ⟨ok_iload_n (z := 3) (by decide +kernel) rfl, ?_⟩
  refine ⟨ok_iald rfl (by decide +kernel), ?_⟩
  refine ⟨ok_iconst (z := 2) (by decide +kernel) (by decide +kernel), ?_⟩
  refine ⟨ok_icmpne (off := 20) (by decide +kernel) (by decide), ?_⟩
  refine ⟨ok_aload_n (z := 0) (by decide +kernel) rfl, ?_⟩
  refine ⟨ok_iconst (z := 2) (by decide +kernel) (by decide +kernel), ?_⟩
  refine ⟨ok_iload_n (z := 1) (by decide +kernel) rfl, ?_⟩
  refine ⟨ok_imul (by decide +kernel), ?_⟩
  refine ⟨ok_bipush (z := 6) (by decide +kernel) (by decide +kernel), ?_⟩
  refine ⟨ok_aload_n (z := 0) (by decide +kernel) rfl, ?_⟩
  refine ⟨ok_getf (ix := 69) hc_12 (by decide) hi_12 tw_927 (Or.inl rfl) (by decide +kernel), ?_⟩
  refine ⟨ok_iload_n (z := 3) (by decide +kernel) rfl, ?_⟩
  refine ⟨ok_iald rfl (by decide +kernel), ?_⟩
  refine ⟨ok_iconst (z := 0) (by decide +kernel) (by decide +kernel), ?_⟩
  refine ⟨ok_callV (ix := 198) hc_12 ms_Z_send (tb_cwV tw_1137 tw_1139 tv_31 tw_11 tw_1140 (by decide +kernel) (by decide) (by decide)) (by decide +kernel), ?_⟩
  refine ⟨ok_pop (by decide +kernel), ?_⟩
  refine ⟨ok_iinc (z := 1) (by decide) (by decide +kernel) (by decide +kernel), ?_⟩
  refine ⟨ok_goto (off := (-66)) (by decide +kernel) (by decide), ?_⟩
  refine ⟨ok_aload_n (z := 0) (by decide +kernel) rfl, ?_⟩
  refine ⟨ok_iload_n (z := 1) (by decide +kernel) rfl, ?_⟩
  refine ⟨ok_callV (ix := 258) hc_12 ms_Z_pumpClient (tb_cwV tw_1181 tw_1183 tv_36 tw_11 tw_1184 (by decide +kernel) (by decide) (by decide)) (by decide +kernel), ?_⟩
  refine ⟨ok_vret rfl (by decide +kernel), ?_⟩
  exact trivial
theorem mg_Z_greeted : ev_AllG (ev_Good l vc_L vt_L (gw_G b Ls xs z) prog_14_method_22_code 4 none my_Z_greeted.name my_Z_greeted.cls tb_T 4 98) (mk_Z_greeted z) := ev_AllG.app mg_Z_greeted_0 (mg_Z_greeted_1)
theorem ms_Z_greeted : ev_Met l vc_L vt_L (gw_G b Ls xs z) my_Z_greeted (Cond.code my_Z_greeted prog_14_method_22_code 4 none :: tb_T) 4 98 (mf_Z_greeted z) := ev_sound (by decide +kernel) mg_Z_greeted
def my_Z_inboxed : MethodName := ⟨"MessageHubModel", "inboxed", "(I)V"⟩
def mk_Z_inboxed (z : Nat × Nat) : ev_C := [(0, ev_fn (ev_aload 0 1)), (1, ev_fn (ev_getf 12 31 4)), (4, ev_fn (ev_iload 1 5)), (5, ev_fn (ev_iald 6)), (6, ev_fn (ev_ci 100 8)), (8, ev_fn (ev_icmpge 31 11)), (11, ev_fn (ev_aload 0 12)), (12, ev_fn (ev_getf 12 32 15)), (15, ev_fn (ev_ci 100 17)), (17, ev_fn (ev_iload 1 18)), (18, ev_fn (ev_imul 19)), (19, ev_fn (ev_aload 0 20)), (20, ev_fn (ev_getf 12 31 23)), (23, ev_fn (ev_iload 1 24)), (24, ev_fn (ev_iald 25)), (25, ev_fn (ev_iadd 26)), (26, ev_fn (ev_aload 0 27)), (27, ev_fn (ev_getf 12 14 30)), (30, ev_fn (ev_iast 31)), (31, ev_fn (ev_aload 0 32)), (32, ev_fn (ev_getf 12 31 35)), (35, ev_fn (ev_iload 1 36)), (36, ev_fn (ev_dup2 37)), (37, ev_fn (ev_iald 38)), (38, ev_fn (ev_ci 1 39)), (39, ev_fn (ev_iadd 40)), (40, ev_fn (ev_iast 41)), (41, ev_fn ev_vret)]
def mf_Z_inboxed (z : Nat × Nat) : ev_F := ev_met (mk_Z_inboxed z) 2
set_option maxHeartbeats 4000000 in
set_option maxRecDepth 100000 in
theorem mg_Z_inboxed : ev_AllG (ev_Good l vc_L vt_L (gw_G b Ls xs z) prog_14_method_23_code 2 none my_Z_inboxed.name my_Z_inboxed.cls tb_T 0 0) (mk_Z_inboxed z) := by
  refine ⟨ok_aload_n (z := 0) (by decide +kernel) rfl, ?_⟩
  refine ⟨ok_getf (ix := 75) hc_12 (by decide) hi_12 tw_929 (Or.inl rfl) (by decide +kernel), ?_⟩
  refine ⟨ok_iload_n (z := 1) (by decide +kernel) rfl, ?_⟩
  refine ⟨ok_iald rfl (by decide +kernel), ?_⟩
  refine ⟨ok_bipush (z := 100) (by decide +kernel) (by decide +kernel), ?_⟩
  refine ⟨ok_icmpge (off := 23) (by decide +kernel) (by decide), ?_⟩
  refine ⟨ok_aload_n (z := 0) (by decide +kernel) rfl, ?_⟩
  refine ⟨ok_getf (ix := 78) hc_12 (by decide) hi_12 tw_930 (Or.inl rfl) (by decide +kernel), ?_⟩
  refine ⟨ok_bipush (z := 100) (by decide +kernel) (by decide +kernel), ?_⟩
  refine ⟨ok_iload_n (z := 1) (by decide +kernel) rfl, ?_⟩
  refine ⟨ok_imul (by decide +kernel), ?_⟩
  refine ⟨ok_aload_n (z := 0) (by decide +kernel) rfl, ?_⟩
  refine ⟨ok_getf (ix := 75) hc_12 (by decide) hi_12 tw_929 (Or.inl rfl) (by decide +kernel), ?_⟩
  refine ⟨ok_iload_n (z := 1) (by decide +kernel) rfl, ?_⟩
  refine ⟨ok_iald rfl (by decide +kernel), ?_⟩
  refine ⟨ok_iadd (by decide +kernel), ?_⟩
  refine ⟨ok_aload_n (z := 0) (by decide +kernel) rfl, ?_⟩
  refine ⟨ok_getf (ix := 209) hc_12 (by decide) hi_12 tw_912 (Or.inl rfl) (by decide +kernel), ?_⟩
  refine ⟨ok_iast rfl (by decide +kernel), ?_⟩
  refine ⟨ok_aload_n (z := 0) (by decide +kernel) rfl, ?_⟩
  refine ⟨ok_getf (ix := 75) hc_12 (by decide) hi_12 tw_929 (Or.inl rfl) (by decide +kernel), ?_⟩
  refine ⟨ok_iload_n (z := 1) (by decide +kernel) rfl, ?_⟩
  refine ⟨ok_dup2 (by decide +kernel), ?_⟩
  refine ⟨ok_iald rfl (by decide +kernel), ?_⟩
  refine ⟨ok_iconst (z := 1) (by decide +kernel) (by decide +kernel), ?_⟩
  refine ⟨ok_iadd (by decide +kernel), ?_⟩
  refine ⟨ok_iast rfl (by decide +kernel), ?_⟩
  refine ⟨ok_vret rfl (by decide +kernel), ?_⟩
  exact trivial
theorem ms_Z_inboxed : ev_Met l vc_L vt_L (gw_G b Ls xs z) my_Z_inboxed (Cond.code my_Z_inboxed prog_14_method_23_code 2 none :: tb_T) 0 0 (mf_Z_inboxed z) := ev_sound (by decide +kernel) mg_Z_inboxed
def my_Z_storePlace : MethodName := ⟨"MessageHubModel", "storePlace", "(I)I"⟩
def mk_Z_storePlace (z : Nat × Nat) : ev_C := [(0, ev_fn (ev_ci 0 1)), (1, ev_fn (ev_istore 2 2)), (2, ev_fn (ev_iload 2 3)), (3, ev_fn (ev_aload 0 4)), (4, ev_fn (ev_getf 12 23 7)), (7, ev_fn (ev_iload 1 8)), (8, ev_fn (ev_iald 9)), (9, ev_fn (ev_icmpge 50 12)), (12, ev_fn (ev_aload 0 13)), (13, ev_fn (ev_getf 12 28 16)), (16, ev_fn (ev_ci 4 17)), (17, ev_fn (ev_iload 1 18)), (18, ev_fn (ev_imul 19)), (19, ev_fn (ev_iload 2 20)), (20, ev_fn (ev_iadd 21)), (21, ev_fn (ev_iald 22)), (22, ev_fn (ev_ifle 44 25)), (25, ev_fn (ev_aload 0 26)), (26, ev_fn (ev_getf 12 29 29)), (29, ev_fn (ev_ci 4 30)), (30, ev_fn (ev_iload 1 31)), (31, ev_fn (ev_imul 32)), (32, ev_fn (ev_iload 2 33)), (33, ev_fn (ev_iadd 34)), (34, ev_fn (ev_iald 35)), (35, ev_fn (ev_aload 0 36)), (36, ev_fn (ev_getf 12 13 39)), (39, ev_fn (ev_icmpne 44 42)), (42, ev_fn (ev_iload 2 43)), (43, ev_fn ev_iret), (44, ev_fn (ev_iinc 2 1 47)), (47, ev_fn (ev_goto 2)), (50, ev_fn (ev_ci (-1) 51)), (51, ev_fn ev_iret)]
def mf_Z_storePlace (z : Nat × Nat) : ev_F := ev_met (mk_Z_storePlace z) 3
set_option maxHeartbeats 4000000 in
set_option maxRecDepth 100000 in
theorem mg_Z_storePlace : ev_AllG (ev_Good l vc_L vt_L (gw_G b Ls xs z) prog_14_method_21_code 3 (some .int) my_Z_storePlace.name my_Z_storePlace.cls tb_T 0 0) (mk_Z_storePlace z) := by
  refine ⟨ok_iconst (z := 0) (by decide +kernel) (by decide +kernel), ?_⟩
  refine ⟨ok_istore_n (z := 2) (by decide) (by decide +kernel) rfl, ?_⟩
  refine ⟨ok_iload_n (z := 2) (by decide +kernel) rfl, ?_⟩
  refine ⟨ok_aload_n (z := 0) (by decide +kernel) rfl, ?_⟩
  refine ⟨ok_getf (ix := 51) hc_12 (by decide) hi_12 tw_921 (Or.inl rfl) (by decide +kernel), ?_⟩
  refine ⟨ok_iload_n (z := 1) (by decide +kernel) rfl, ?_⟩
  refine ⟨ok_iald rfl (by decide +kernel), ?_⟩
  refine ⟨ok_icmpge (off := 41) (by decide +kernel) (by decide), ?_⟩
  refine ⟨ok_aload_n (z := 0) (by decide +kernel) rfl, ?_⟩
  refine ⟨ok_getf (ix := 66) hc_12 (by decide) hi_12 tw_926 (Or.inl rfl) (by decide +kernel), ?_⟩
  refine ⟨ok_iconst (z := 4) (by decide +kernel) (by decide +kernel), ?_⟩
  refine ⟨ok_iload_n (z := 1) (by decide +kernel) rfl, ?_⟩
  refine ⟨ok_imul (by decide +kernel), ?_⟩
  refine ⟨ok_iload_n (z := 2) (by decide +kernel) rfl, ?_⟩
  refine ⟨ok_iadd (by decide +kernel), ?_⟩
  refine ⟨ok_iald rfl (by decide +kernel), ?_⟩
  refine ⟨ok_ifle (off := 22) (by decide +kernel) (by decide), ?_⟩
  refine ⟨ok_aload_n (z := 0) (by decide +kernel) rfl, ?_⟩
  refine ⟨ok_getf (ix := 69) hc_12 (by decide) hi_12 tw_927 (Or.inl rfl) (by decide +kernel), ?_⟩
  refine ⟨ok_iconst (z := 4) (by decide +kernel) (by decide +kernel), ?_⟩
  refine ⟨ok_iload_n (z := 1) (by decide +kernel) rfl, ?_⟩
  refine ⟨ok_imul (by decide +kernel), ?_⟩
  refine ⟨ok_iload_n (z := 2) (by decide +kernel) rfl, ?_⟩
  refine ⟨ok_iadd (by decide +kernel), ?_⟩
  refine ⟨ok_iald rfl (by decide +kernel), ?_⟩
  refine ⟨ok_aload_n (z := 0) (by decide +kernel) rfl, ?_⟩
  refine ⟨ok_getf (ix := 206) hc_12 (by decide) hi_12 tw_911 (Or.inl rfl) (by decide +kernel), ?_⟩
  refine ⟨ok_icmpne (off := 5) (by decide +kernel) (by decide), ?_⟩
  refine ⟨ok_iload_n (z := 2) (by decide +kernel) rfl, ?_⟩
  refine ⟨ok_iret rfl (by decide +kernel), ?_⟩
  refine ⟨ok_iinc (z := 1) (by decide) (by decide +kernel) (by decide +kernel), ?_⟩
  refine ⟨ok_goto (off := (-45)) (by decide +kernel) (by decide), ?_⟩
  refine ⟨ok_iconst (z := (-1)) (by decide +kernel) (by decide +kernel), ?_⟩
  refine ⟨ok_iret rfl (by decide +kernel), ?_⟩
  exact trivial
theorem ms_Z_storePlace : ev_Met l vc_L vt_L (gw_G b Ls xs z) my_Z_storePlace (Cond.code my_Z_storePlace prog_14_method_21_code 3 (some .int) :: tb_T) 0 0 (mf_Z_storePlace z) := ev_sound (by decide +kernel) mg_Z_storePlace
end MT
