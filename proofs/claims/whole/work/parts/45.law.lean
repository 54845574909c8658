/-! The law as a list of steps (written by wip/whole/gen.py). -/
section MTL
variable {l : Launch} {b Ls : Nat} {xs : Nat → Int32} {z : Nat × Nat} {nm : String}
def mk_law_0 (b Ls : Nat) (xs : Nat → Int32) (z : Nat × Nat) : ev_C := [(0, ev_fn (ev_newo 0 3 ff_0 3)), (3, ev_fn (ev_dup 4)), (4, ev_callI (mf_H_init z) 1 7), (7, ev_fn (ev_astore 1 8)), (8, ev_fn (ev_newo 12 65 ff_12 11)), (11, ev_fn (ev_dup 12)), (12, ev_callI (mf_Z_init z) 1 15), (15, ev_fn (ev_astore 2 16)), (16, ev_fn (ev_ci 0 17)), (17, ev_fn (ev_istore 3 18)), (18, ev_fn (ev_iload 3 19)), (19, ev_fn (ev_aload 0 20)), (20, ev_fn (ev_slen b Ls 21)), (21, ev_fn (ev_ci 7 23)), (23, ev_fn (ev_isub 24)), (24, ev_fn (ev_icmpgt 1081 27)), (27, ev_fn (ev_aload 0 28)), (28, ev_fn (ev_iload 3 29)), (29, ev_fn (ev_sld b Ls xs 30)), (30, ev_fn (ev_ci 31 32)), (32, ev_fn (ev_iand 33)), (33, ev_fn (ev_tsw 33 1042 0 19 #[95, 168, 247, 270, 293, 316, 415, 478, 589, 638, 651, 662, 685, 708, 731, 780, 840, 873, 896, 949])), (128, ev_fn (ev_aload 1 129)), (129, ev_fn (ev_aload 0 130)), (130, ev_fn (ev_iload 3 131)), (131, ev_fn (ev_ci 1 132)), (132, ev_fn (ev_iadd 133)), (133, ev_fn (ev_sld b Ls xs 134)), (134, ev_fn (ev_aload 0 135)), (135, ev_fn (ev_iload 3 136)), (136, ev_fn (ev_ci 2 137)), (137, ev_fn (ev_iadd 138)), (138, ev_fn (ev_sld b Ls xs 139)), (139, ev_fn (ev_i2l 140)), (140, ev_fn (ev_ci 32 142)), (142, ev_fn (ev_lshl 143)), (143, ev_fn (ev_aload 0 144)), (144, ev_fn (ev_iload 3 145)), (145, ev_fn (ev_ci 3 146)), (146, ev_fn (ev_iadd 147)), (147, ev_fn (ev_sld b Ls xs 148)), (148, ev_fn (ev_i2l 149)), (149, ev_fn (ev_cl 4294967295 152)), (152, ev_fn (ev_land 153)), (153, ev_fn (ev_lor 154)), (154, ev_fn (ev_aload 0 155)), (155, ev_fn (ev_iload 3 156)), (156, ev_fn (ev_ci 4 157)), (157, ev_fn (ev_iadd 158)), (158, ev_fn (ev_sld b Ls xs 159)), (159, ev_callR 0 (mf_H_will z) 4 162), (162, ev_fn (ev_aload 2 163)), (163, ev_fn (ev_aload 0 164)), (164, ev_fn (ev_iload 3 165)), (165, ev_fn (ev_ci 1 166)), (166, ev_fn (ev_iadd 167)), (167, ev_fn (ev_sld b Ls xs 168)), (168, ev_fn (ev_aload 0 169)), (169, ev_fn (ev_iload 3 170)), (170, ev_fn (ev_ci 2 171))]
set_option maxHeartbeats 4000000 in
set_option maxRecDepth 100000 in
theorem mg_law_0 : ev_AllG (ev_Good l vc_L vt_L (gw_G b Ls xs z) code 4 (some .boolean) nm "MessageHubLaw" tb_T 13 321) (mk_law_0 b Ls xs z) := by
  refine ⟨ok_newo (ix := 7) hc_0 hi_0 ht_0 hf_0 tw_24 tw_25 tw_1 (by decide +kernel), ?_⟩
  refine ⟨ok_dup (by decide +kernel), ?_⟩
  refine ⟨ok_callI (ix := 9) ms_H_init (tb_cwI tw_26 tw_27 tw_1 tw_28 rfl (by decide +kernel) (by decide) (by decide)) (by decide +kernel), ?_⟩
  refine ⟨ok_astore_n (z := 1) (by decide) (by decide +kernel) rfl, ?_⟩
  refine ⟨ok_newo (ix := 10) hc_12 hi_12 ht_12 hf_12 tw_892 tw_893 tw_11 (by decide +kernel), ?_⟩
  refine ⟨ok_dup (by decide +kernel), ?_⟩
  refine ⟨ok_callI (ix := 12) ms_Z_init (tb_cwI tw_894 tw_895 tw_11 tw_896 rfl (by decide +kernel) (by decide) (by decide)) (by decide +kernel), ?_⟩
  refine ⟨ok_astore_n (z := 2) (by decide) (by decide +kernel) rfl, ?_⟩
  refine ⟨ok_iconst (z := 0) (by decide +kernel) (by decide +kernel), ?_⟩
  refine ⟨ok_istore_n (z := 3) (by decide) (by decide +kernel) rfl, ?_⟩
  refine ⟨ok_iload_n (z := 3) (by decide +kernel) rfl, ?_⟩
  refine ⟨ok_aload_n (z := 0) (by decide +kernel) rfl, ?_⟩
  refine ⟨ok_slen gw_X (by decide +kernel), ?_⟩
  refine ⟨ok_bipush (z := 7) (by decide +kernel) (by decide +kernel), ?_⟩
  refine ⟨ok_isub (by decide +kernel), ?_⟩
  refine ⟨ok_icmpgt (off := 1057) (by decide +kernel) (by decide), ?_⟩
  refine ⟨ok_aload_n (z := 0) (by decide +kernel) rfl, ?_⟩
  refine ⟨ok_iload_n (z := 3) (by decide +kernel) rfl, ?_⟩
  refine ⟨ok_sld gw_X (by decide +kernel), ?_⟩
  refine ⟨ok_bipush (z := 31) (by decide +kernel) (by decide +kernel), ?_⟩
  refine ⟨ok_iand (by decide +kernel), ?_⟩
  refine ⟨ok_tsw (len := 95) (by decide +kernel), ?_⟩
  refine ⟨ok_aload_n (z := 1) (by decide +kernel) rfl, ?_⟩
  refine ⟨ok_aload_n (z := 0) (by decide +kernel) rfl, ?_⟩
  refine ⟨ok_iload_n (z := 3) (by decide +kernel) rfl, ?_⟩
  refine ⟨ok_iconst (z := 1) (by decide +kernel) (by decide +kernel), ?_⟩
  refine ⟨ok_iadd (by decide +kernel), ?_⟩
  refine ⟨ok_sld gw_X (by decide +kernel), ?_⟩
  refine ⟨ok_aload_n (z := 0) (by decide +kernel) rfl, ?_⟩
  refine ⟨ok_iload_n (z := 3) (by decide +kernel) rfl, ?_⟩
  refine ⟨ok_iconst (z := 2) (by decide +kernel) (by decide +kernel), ?_⟩
  refine ⟨ok_iadd (by decide +kernel), ?_⟩
  refine ⟨ok_sld gw_X (by decide +kernel), ?_⟩
  refine ⟨ok_i2l (by decide +kernel), ?_⟩
  refine ⟨ok_bipush (z := 32) (by decide +kernel) (by decide +kernel), ?_⟩
  refine ⟨ok_lshl (by decide +kernel), ?_⟩
  refine ⟨ok_aload_n (z := 0) (by decide +kernel) rfl, ?_⟩
  refine ⟨ok_iload_n (z := 3) (by decide +kernel) rfl, ?_⟩
  refine ⟨ok_iconst (z := 3) (by decide +kernel) (by decide +kernel), ?_⟩
  refine ⟨ok_iadd (by decide +kernel), ?_⟩
  refine ⟨ok_sld gw_X (by decide +kernel), ?_⟩
  refine ⟨ok_i2l (by decide +kernel), ?_⟩
  refine ⟨ok_ldc2 (ix := 13) tw_1357 (by decide +kernel), ?_⟩
  refine ⟨ok_land (by decide +kernel), ?_⟩
  refine ⟨ok_lor (by decide +kernel), ?_⟩
  refine ⟨ok_aload_n (z := 0) (by decide +kernel) rfl, ?_⟩
  refine ⟨ok_iload_n (z := 3) (by decide +kernel) rfl, ?_⟩
  refine ⟨ok_iconst (z := 4) (by decide +kernel) (by decide +kernel), ?_⟩
  refine ⟨ok_iadd (by decide +kernel), ?_⟩
  refine ⟨ok_sld gw_X (by decide +kernel), ?_⟩
  refine ⟨ok_callV (ix := 15) hc_0 ms_H_will (tb_cwV tw_234 tw_235 tw_236 tw_1 tw_237 (by decide +kernel) (by decide) (by decide)) (by decide +kernel), ?_⟩
  refine ⟨ok_aload_n (z := 2) (by decide +kernel) rfl, ?_⟩
  refine ⟨ok_aload_n (z := 0) (by decide +kernel) rfl, ?_⟩
  refine ⟨ok_iload_n (z := 3) (by decide +kernel) rfl, ?_⟩
  refine ⟨ok_iconst (z := 1) (by decide +kernel) (by decide +kernel), ?_⟩
  refine ⟨ok_iadd (by decide +kernel), ?_⟩
  refine ⟨ok_sld gw_X (by decide +kernel), ?_⟩
  refine ⟨ok_aload_n (z := 0) (by decide +kernel) rfl, ?_⟩
  refine ⟨ok_iload_n (z := 3) (by decide +kernel) rfl, ?_⟩
  refine ⟨ok_iconst (z := 2) (by decide +kernel) (by decide +kernel), ?_⟩
  exact trivial
def mk_law_1 (b Ls : Nat) (xs : Nat → Int32) (z : Nat × Nat) : ev_C := [(171, ev_fn (ev_iadd 172)), (172, ev_fn (ev_sld b Ls xs 173)), (173, ev_fn (ev_i2l 174)), (174, ev_fn (ev_ci 32 176)), (176, ev_fn (ev_lshl 177)), (177, ev_fn (ev_aload 0 178)), (178, ev_fn (ev_iload 3 179)), (179, ev_fn (ev_ci 3 180)), (180, ev_fn (ev_iadd 181)), (181, ev_fn (ev_sld b Ls xs 182)), (182, ev_fn (ev_i2l 183)), (183, ev_fn (ev_cl 4294967295 186)), (186, ev_fn (ev_land 187)), (187, ev_fn (ev_lor 188)), (188, ev_fn (ev_aload 0 189)), (189, ev_fn (ev_iload 3 190)), (190, ev_fn (ev_ci 4 191)), (191, ev_fn (ev_iadd 192)), (192, ev_fn (ev_sld b Ls xs 193)), (193, ev_callR 12 (mf_Z_will z) 4 196), (196, ev_fn (ev_icmpeq 1075 199)), (199, ev_fn (ev_ci 0 200)), (200, ev_fn (ev_zret .boolean)), (201, ev_fn (ev_aload 1 202)), (202, ev_fn (ev_aload 0 203)), (203, ev_fn (ev_iload 3 204)), (204, ev_fn (ev_ci 1 205)), (205, ev_fn (ev_iadd 206)), (206, ev_fn (ev_sld b Ls xs 207)), (207, ev_fn (ev_aload 0 208)), (208, ev_fn (ev_iload 3 209)), (209, ev_fn (ev_ci 2 210)), (210, ev_fn (ev_iadd 211)), (211, ev_fn (ev_sld b Ls xs 212)), (212, ev_fn (ev_ifeq 219 215)), (215, ev_fn (ev_ci 1 216)), (216, ev_fn (ev_goto 220)), (219, ev_fn (ev_ci 0 220)), (220, ev_fn (ev_aload 0 221)), (221, ev_fn (ev_iload 3 222)), (222, ev_fn (ev_ci 3 223)), (223, ev_fn (ev_iadd 224)), (224, ev_fn (ev_sld b Ls xs 225)), (225, ev_fn (ev_aload 0 226)), (226, ev_fn (ev_iload 3 227)), (227, ev_fn (ev_ci 4 228)), (228, ev_fn (ev_iadd 229)), (229, ev_fn (ev_sld b Ls xs 230)), (230, ev_fn (ev_aload 0 231)), (231, ev_fn (ev_iload 3 232)), (232, ev_fn (ev_ci 5 233)), (233, ev_fn (ev_iadd 234)), (234, ev_fn (ev_sld b Ls xs 235)), (235, ev_callR 0 (mf_H_connect z) 6 238), (238, ev_fn (ev_aload 2 239)), (239, ev_fn (ev_aload 0 240)), (240, ev_fn (ev_iload 3 241)), (241, ev_fn (ev_ci 1 242)), (242, ev_fn (ev_iadd 243)), (243, ev_fn (ev_sld b Ls xs 244))]
set_option maxHeartbeats 4000000 in
set_option maxRecDepth 100000 in
theorem mg_law_1 : ev_AllG (ev_Good l vc_L vt_L (gw_G b Ls xs z) code 4 (some .boolean) nm "MessageHubLaw" tb_T 13 321) (mk_law_1 b Ls xs z) := by
  refine ⟨ok_iadd (by decide +kernel), ?_⟩
  refine ⟨ok_sld gw_X (by decide +kernel), ?_⟩
  refine ⟨ok_i2l (by decide +kernel), ?_⟩
  refine ⟨ok_bipush (z := 32) (by decide +kernel) (by decide +kernel), ?_⟩
  refine ⟨ok_lshl (by decide +kernel), ?_⟩
  refine ⟨ok_aload_n (z := 0) (by decide +kernel) rfl, ?_⟩
  refine ⟨ok_iload_n (z := 3) (by decide +kernel) rfl, ?_⟩
  refine ⟨ok_iconst (z := 3) (by decide +kernel) (by decide +kernel), ?_⟩
  refine ⟨ok_iadd (by decide +kernel), ?_⟩
  refine ⟨ok_sld gw_X (by decide +kernel), ?_⟩
  refine ⟨ok_i2l (by decide +kernel), ?_⟩
  refine ⟨ok_ldc2 (ix := 13) tw_1357 (by decide +kernel), ?_⟩
  refine ⟨ok_land (by decide +kernel), ?_⟩
  refine ⟨ok_lor (by decide +kernel), ?_⟩
  refine ⟨ok_aload_n (z := 0) (by decide +kernel) rfl, ?_⟩
  refine ⟨ok_iload_n (z := 3) (by decide +kernel) rfl, ?_⟩
  refine ⟨ok_iconst (z := 4) (by decide +kernel) (by decide +kernel), ?_⟩
  refine ⟨ok_iadd (by decide +kernel), ?_⟩
  refine ⟨ok_sld gw_X (by decide +kernel), ?_⟩
  refine ⟨ok_callV (ix := 19) hc_12 ms_Z_will (tb_cwV tw_1122 tw_1123 tw_1124 tw_11 tw_1125 (by decide +kernel) (by decide) (by decide)) (by decide +kernel), ?_⟩
  refine ⟨ok_icmpeq (off := 879) (by decide +kernel) (by decide), ?_⟩
  refine ⟨ok_iconst (z := 0) (by decide +kernel) (by decide +kernel), ?_⟩
  refine ⟨ok_zret rfl (by decide +kernel), ?_⟩
  refine ⟨ok_aload_n (z := 1) (by decide +kernel) rfl, ?_⟩
  refine ⟨ok_aload_n (z := 0) (by decide +kernel) rfl, ?_⟩
  refine ⟨ok_iload_n (z := 3) (by decide +kernel) rfl, ?_⟩
  refine ⟨ok_iconst (z := 1) (by decide +kernel) (by decide +kernel), ?_⟩
  refine ⟨ok_iadd (by decide +kernel), ?_⟩
  refine ⟨ok_sld gw_X (by decide +kernel), ?_⟩
  refine ⟨ok_aload_n (z := 0) (by decide +kernel) rfl, ?_⟩
  refine ⟨ok_iload_n (z := 3) (by decide +kernel) rfl, ?_⟩
  refine ⟨ok_iconst (z := 2) (by decide +kernel) (by decide +kernel), ?_⟩
  refine ⟨ok_iadd (by decide +kernel), ?_⟩
  refine ⟨ok_sld gw_X (by decide +kernel), ?_⟩
  refine ⟨ok_ifeq (off := 7) (by decide +kernel) (by decide), ?_⟩
  refine ⟨ok_iconst (z := 1) (by decide +kernel) (by decide +kernel), ?_⟩
  refine ⟨ok_goto (off := 4) (by decide +kernel) (by decide), ?_⟩
  refine ⟨ok_iconst (z := 0) (by decide +kernel) (by decide +kernel), ?_⟩
  refine ⟨ok_aload_n (z := 0) (by decide +kernel) rfl, ?_⟩
  refine ⟨ok_iload_n (z := 3) (by decide +kernel) rfl, ?_⟩
  refine ⟨ok_iconst (z := 3) (by decide +kernel) (by decide +kernel), ?_⟩
  refine ⟨ok_iadd (by decide +kernel), ?_⟩
  refine ⟨ok_sld gw_X (by decide +kernel), ?_⟩
  refine ⟨ok_aload_n (z := 0) (by decide +kernel) rfl, ?_⟩
  refine ⟨ok_iload_n (z := 3) (by decide +kernel) rfl, ?_⟩
  refine ⟨ok_iconst (z := 4) (by decide +kernel) (by decide +kernel), ?_⟩
  refine ⟨ok_iadd (by decide +kernel), ?_⟩
  refine ⟨ok_sld gw_X (by decide +kernel), ?_⟩
  refine ⟨ok_aload_n (z := 0) (by decide +kernel) rfl, ?_⟩
  refine ⟨ok_iload_n (z := 3) (by decide +kernel) rfl, ?_⟩
  refine ⟨ok_iconst (z := 5) (by decide +kernel) (by decide +kernel), ?_⟩
  refine ⟨ok_iadd (by decide +kernel), ?_⟩
  refine ⟨ok_sld gw_X (by decide +kernel), ?_⟩
  refine ⟨ok_callV (ix := 20) hc_0 ms_H_connect (tb_cwV tw_261 tw_262 tw_263 tw_1 tw_264 (by decide +kernel) (by decide) (by decide)) (by decide +kernel), ?_⟩
  refine ⟨ok_aload_n (z := 2) (by decide +kernel) rfl, ?_⟩
  refine ⟨ok_aload_n (z := 0) (by decide +kernel) rfl, ?_⟩
  refine ⟨ok_iload_n (z := 3) (by decide +kernel) rfl, ?_⟩
  refine ⟨ok_iconst (z := 1) (by decide +kernel) (by decide +kernel), ?_⟩
  refine ⟨ok_iadd (by decide +kernel), ?_⟩
  refine ⟨ok_sld gw_X (by decide +kernel), ?_⟩
  exact trivial
def mk_law_2 (b Ls : Nat) (xs : Nat → Int32) (z : Nat × Nat) : ev_C := [(244, ev_fn (ev_aload 0 245)), (245, ev_fn (ev_iload 3 246)), (246, ev_fn (ev_ci 2 247)), (247, ev_fn (ev_iadd 248)), (248, ev_fn (ev_sld b Ls xs 249)), (249, ev_fn (ev_ifeq 256 252)), (252, ev_fn (ev_ci 1 253)), (253, ev_fn (ev_goto 257)), (256, ev_fn (ev_ci 0 257)), (257, ev_fn (ev_aload 0 258)), (258, ev_fn (ev_iload 3 259)), (259, ev_fn (ev_ci 3 260)), (260, ev_fn (ev_iadd 261)), (261, ev_fn (ev_sld b Ls xs 262)), (262, ev_fn (ev_aload 0 263)), (263, ev_fn (ev_iload 3 264)), (264, ev_fn (ev_ci 4 265)), (265, ev_fn (ev_iadd 266)), (266, ev_fn (ev_sld b Ls xs 267)), (267, ev_fn (ev_aload 0 268)), (268, ev_fn (ev_iload 3 269)), (269, ev_fn (ev_ci 5 270)), (270, ev_fn (ev_iadd 271)), (271, ev_fn (ev_sld b Ls xs 272)), (272, ev_callR 12 (mf_Z_connect z) 6 275), (275, ev_fn (ev_icmpeq 1075 278)), (278, ev_fn (ev_ci 0 279)), (279, ev_fn (ev_zret .boolean)), (280, ev_fn (ev_aload 1 281)), (281, ev_fn (ev_aload 0 282)), (282, ev_fn (ev_iload 3 283)), (283, ev_fn (ev_ci 1 284)), (284, ev_fn (ev_iadd 285)), (285, ev_fn (ev_sld b Ls xs 286)), (286, ev_callR 0 (mf_H_drop z) 2 289), (289, ev_fn (ev_aload 2 290)), (290, ev_fn (ev_aload 0 291)), (291, ev_fn (ev_iload 3 292)), (292, ev_fn (ev_ci 1 293)), (293, ev_fn (ev_iadd 294)), (294, ev_fn (ev_sld b Ls xs 295)), (295, ev_callR 12 (mf_Z_drop z) 2 298), (298, ev_fn (ev_icmpeq 1075 301)), (301, ev_fn (ev_ci 0 302)), (302, ev_fn (ev_zret .boolean)), (303, ev_fn (ev_aload 1 304)), (304, ev_fn (ev_aload 0 305)), (305, ev_fn (ev_iload 3 306)), (306, ev_fn (ev_ci 1 307)), (307, ev_fn (ev_iadd 308)), (308, ev_fn (ev_sld b Ls xs 309)), (309, ev_callR 0 (mf_H_leave z) 2 312), (312, ev_fn (ev_aload 2 313)), (313, ev_fn (ev_aload 0 314)), (314, ev_fn (ev_iload 3 315)), (315, ev_fn (ev_ci 1 316)), (316, ev_fn (ev_iadd 317)), (317, ev_fn (ev_sld b Ls xs 318)), (318, ev_callR 12 (mf_Z_leave z) 2 321), (321, ev_fn (ev_icmpeq 1075 324))]
set_option maxHeartbeats 4000000 in
set_option maxRecDepth 100000 in
theorem mg_law_2 : ev_AllG (ev_Good l vc_L vt_L (gw_G b Ls xs z) code 4 (some .boolean) nm "MessageHubLaw" tb_T 13 321) (mk_law_2 b Ls xs z) := by
  refine ⟨ok_aload_n (z := 0) (by decide +kernel) rfl, ?_⟩
  refine ⟨ok_iload_n (z := 3) (by decide +kernel) rfl, ?_⟩
  refine ⟨ok_iconst (z := 2) (by decide +kernel) (by decide +kernel), ?_⟩
  refine ⟨ok_iadd (by decide +kernel), ?_⟩
  refine ⟨ok_sld gw_X (by decide +kernel), ?_⟩
  refine ⟨ok_ifeq (off := 7) (by decide +kernel) (by decide), ?_⟩
  refine ⟨ok_iconst (z := 1) (by decide +kernel) (by decide +kernel), ?_⟩
  refine ⟨ok_goto (off := 4) (by decide +kernel) (by decide), ?_⟩
  refine ⟨ok_iconst (z := 0) (by decide +kernel) (by decide +kernel), ?_⟩
  refine ⟨ok_aload_n (z := 0) (by decide +kernel) rfl, ?_⟩
  refine ⟨ok_iload_n (z := 3) (by decide +kernel) rfl, ?_⟩
  refine ⟨ok_iconst (z := 3) (by decide +kernel) (by decide +kernel), ?_⟩
  refine ⟨ok_iadd (by decide +kernel), ?_⟩
  refine ⟨ok_sld gw_X (by decide +kernel), ?_⟩
  refine ⟨ok_aload_n (z := 0) (by decide +kernel) rfl, ?_⟩
  refine ⟨ok_iload_n (z := 3) (by decide +kernel) rfl, ?_⟩
  refine ⟨ok_iconst (z := 4) (by decide +kernel) (by decide +kernel), ?_⟩
  refine ⟨ok_iadd (by decide +kernel), ?_⟩
  refine ⟨ok_sld gw_X (by decide +kernel), ?_⟩
  refine ⟨ok_aload_n (z := 0) (by decide +kernel) rfl, ?_⟩
  refine ⟨ok_iload_n (z := 3) (by decide +kernel) rfl, ?_⟩
  refine ⟨ok_iconst (z := 5) (by decide +kernel) (by decide +kernel), ?_⟩
  refine ⟨ok_iadd (by decide +kernel), ?_⟩
  refine ⟨ok_sld gw_X (by decide +kernel), ?_⟩
  refine ⟨ok_callV (ix := 24) hc_12 ms_Z_connect (tb_cwV tw_1133 tw_1134 tw_1135 tw_11 tw_1136 (by decide +kernel) (by decide) (by decide)) (by decide +kernel), ?_⟩
  refine ⟨ok_icmpeq (off := 800) (by decide +kernel) (by decide), ?_⟩
  refine ⟨ok_iconst (z := 0) (by decide +kernel) (by decide +kernel), ?_⟩
  refine ⟨ok_zret rfl (by decide +kernel), ?_⟩
  refine ⟨ok_aload_n (z := 1) (by decide +kernel) rfl, ?_⟩
  refine ⟨ok_aload_n (z := 0) (by decide +kernel) rfl, ?_⟩
  refine ⟨ok_iload_n (z := 3) (by decide +kernel) rfl, ?_⟩
  refine ⟨ok_iconst (z := 1) (by decide +kernel) (by decide +kernel), ?_⟩
  refine ⟨ok_iadd (by decide +kernel), ?_⟩
  refine ⟨ok_sld gw_X (by decide +kernel), ?_⟩
  refine ⟨ok_callV (ix := 25) hc_0 ms_H_drop (tb_cwV tw_384 tw_385 tw_386 tw_1 tw_387 (by decide +kernel) (by decide) (by decide)) (by decide +kernel), ?_⟩
  refine ⟨ok_aload_n (z := 2) (by decide +kernel) rfl, ?_⟩
  refine ⟨ok_aload_n (z := 0) (by decide +kernel) rfl, ?_⟩
  refine ⟨ok_iload_n (z := 3) (by decide +kernel) rfl, ?_⟩
  refine ⟨ok_iconst (z := 1) (by decide +kernel) (by decide +kernel), ?_⟩
  refine ⟨ok_iadd (by decide +kernel), ?_⟩
  refine ⟨ok_sld gw_X (by decide +kernel), ?_⟩
  refine ⟨ok_callV (ix := 29) hc_12 ms_Z_drop (tb_cwV tw_1141 tw_1142 tw_1143 tw_11 tw_1144 (by decide +kernel) (by decide) (by decide)) (by decide +kernel), ?_⟩
  refine ⟨ok_icmpeq (off := 777) (by decide +kernel) (by decide), ?_⟩
  refine ⟨ok_iconst (z := 0) (by decide +kernel) (by decide +kernel), ?_⟩
  refine ⟨ok_zret rfl (by decide +kernel), ?_⟩
  refine ⟨ok_aload_n (z := 1) (by decide +kernel) rfl, ?_⟩
  refine ⟨ok_aload_n (z := 0) (by decide +kernel) rfl, ?_⟩
  refine ⟨ok_iload_n (z := 3) (by decide +kernel) rfl, ?_⟩
  refine ⟨ok_iconst (z := 1) (by decide +kernel) (by decide +kernel), ?_⟩
  refine ⟨ok_iadd (by decide +kernel), ?_⟩
  refine ⟨ok_sld gw_X (by decide +kernel), ?_⟩
  refine ⟨ok_callV (ix := 30) hc_0 ms_H_leave (tb_cwV tw_396 tw_397 tw_398 tw_1 tw_399 (by decide +kernel) (by decide) (by decide)) (by decide +kernel), ?_⟩
  refine ⟨ok_aload_n (z := 2) (by decide +kernel) rfl, ?_⟩
  refine ⟨ok_aload_n (z := 0) (by decide +kernel) rfl, ?_⟩
  refine ⟨ok_iload_n (z := 3) (by decide +kernel) rfl, ?_⟩
  refine ⟨ok_iconst (z := 1) (by decide +kernel) (by decide +kernel), ?_⟩
  refine ⟨ok_iadd (by decide +kernel), ?_⟩
  refine ⟨ok_sld gw_X (by decide +kernel), ?_⟩
  refine ⟨ok_callV (ix := 33) hc_12 ms_Z_leave (tb_cwV tw_1149 tw_1150 tw_1151 tw_11 tw_1152 (by decide +kernel) (by decide) (by decide)) (by decide +kernel), ?_⟩
  refine ⟨ok_icmpeq (off := 754) (by decide +kernel) (by decide), ?_⟩
  exact trivial
def mk_law_3 (b Ls : Nat) (xs : Nat → Int32) (z : Nat × Nat) : ev_C := [(324, ev_fn (ev_ci 0 325)), (325, ev_fn (ev_zret .boolean)), (326, ev_fn (ev_aload 1 327)), (327, ev_fn (ev_aload 0 328)), (328, ev_fn (ev_iload 3 329)), (329, ev_fn (ev_ci 1 330)), (330, ev_fn (ev_iadd 331)), (331, ev_fn (ev_sld b Ls xs 332)), (332, ev_callR 0 (mf_H_ping z) 2 335), (335, ev_fn (ev_aload 2 336)), (336, ev_fn (ev_aload 0 337)), (337, ev_fn (ev_iload 3 338)), (338, ev_fn (ev_ci 1 339)), (339, ev_fn (ev_iadd 340)), (340, ev_fn (ev_sld b Ls xs 341)), (341, ev_callR 12 (mf_Z_ping z) 2 344), (344, ev_fn (ev_icmpeq 1075 347)), (347, ev_fn (ev_ci 0 348)), (348, ev_fn (ev_zret .boolean)), (349, ev_fn (ev_aload 1 350)), (350, ev_fn (ev_aload 0 351)), (351, ev_fn (ev_iload 3 352)), (352, ev_fn (ev_ci 1 353)), (353, ev_fn (ev_iadd 354)), (354, ev_fn (ev_sld b Ls xs 355)), (355, ev_fn (ev_aload 0 356)), (356, ev_fn (ev_iload 3 357)), (357, ev_fn (ev_ci 2 358)), (358, ev_fn (ev_iadd 359)), (359, ev_fn (ev_sld b Ls xs 360)), (360, ev_fn (ev_i2l 361)), (361, ev_fn (ev_ci 32 363)), (363, ev_fn (ev_lshl 364)), (364, ev_fn (ev_aload 0 365)), (365, ev_fn (ev_iload 3 366)), (366, ev_fn (ev_ci 3 367)), (367, ev_fn (ev_iadd 368)), (368, ev_fn (ev_sld b Ls xs 369)), (369, ev_fn (ev_i2l 370)), (370, ev_fn (ev_cl 4294967295 373)), (373, ev_fn (ev_land 374)), (374, ev_fn (ev_lor 375)), (375, ev_fn (ev_aload 0 376)), (376, ev_fn (ev_iload 3 377)), (377, ev_fn (ev_ci 4 378)), (378, ev_fn (ev_iadd 379)), (379, ev_fn (ev_sld b Ls xs 380)), (380, ev_fn (ev_aload 0 381)), (381, ev_fn (ev_iload 3 382)), (382, ev_fn (ev_ci 5 383)), (383, ev_fn (ev_iadd 384)), (384, ev_fn (ev_sld b Ls xs 385)), (385, ev_fn (ev_ifeq 392 388)), (388, ev_fn (ev_ci 1 389)), (389, ev_fn (ev_goto 393)), (392, ev_fn (ev_ci 0 393)), (393, ev_callR 0 (mf_H_subscribe z) 5 396), (396, ev_fn (ev_aload 2 397)), (397, ev_fn (ev_aload 0 398)), (398, ev_fn (ev_iload 3 399))]
set_option maxHeartbeats 4000000 in
set_option maxRecDepth 100000 in
theorem mg_law_3 : ev_AllG (ev_Good l vc_L vt_L (gw_G b Ls xs z) code 4 (some .boolean) nm "MessageHubLaw" tb_T 13 321) (mk_law_3 b Ls xs z) := by
  refine ⟨ok_iconst (z := 0) (by decide +kernel) (by decide +kernel), ?_⟩
  refine ⟨ok_zret rfl (by decide +kernel), ?_⟩
  refine ⟨ok_aload_n (z := 1) (by decide +kernel) rfl, ?_⟩
  refine ⟨ok_aload_n (z := 0) (by decide +kernel) rfl, ?_⟩
  refine ⟨ok_iload_n (z := 3) (by decide +kernel) rfl, ?_⟩
  refine ⟨ok_iconst (z := 1) (by decide +kernel) (by decide +kernel), ?_⟩
  refine ⟨ok_iadd (by decide +kernel), ?_⟩
  refine ⟨ok_sld gw_X (by decide +kernel), ?_⟩
  refine ⟨ok_callV (ix := 34) hc_0 ms_H_ping (tb_cwV tw_411 tw_412 tw_413 tw_1 tw_414 (by decide +kernel) (by decide) (by decide)) (by decide +kernel), ?_⟩
  refine ⟨ok_aload_n (z := 2) (by decide +kernel) rfl, ?_⟩
  refine ⟨ok_aload_n (z := 0) (by decide +kernel) rfl, ?_⟩
  refine ⟨ok_iload_n (z := 3) (by decide +kernel) rfl, ?_⟩
  refine ⟨ok_iconst (z := 1) (by decide +kernel) (by decide +kernel), ?_⟩
  refine ⟨ok_iadd (by decide +kernel), ?_⟩
  refine ⟨ok_sld gw_X (by decide +kernel), ?_⟩
  refine ⟨ok_callV (ix := 37) hc_12 ms_Z_ping (tb_cwV tw_1157 tw_1158 tw_1159 tw_11 tw_1160 (by decide +kernel) (by decide) (by decide)) (by decide +kernel), ?_⟩
  refine ⟨ok_icmpeq (off := 731) (by decide +kernel) (by decide), ?_⟩
  refine ⟨ok_iconst (z := 0) (by decide +kernel) (by decide +kernel), ?_⟩
  refine ⟨ok_zret rfl (by decide +kernel), ?_⟩
  refine ⟨ok_aload_n (z := 1) (by decide +kernel) rfl, ?_⟩
  refine ⟨ok_aload_n (z := 0) (by decide +kernel) rfl, ?_⟩
  refine ⟨ok_iload_n (z := 3) (by decide +kernel) rfl, ?_⟩
  refine ⟨ok_iconst (z := 1) (by decide +kernel) (by decide +kernel), ?_⟩
  refine ⟨ok_iadd (by decide +kernel), ?_⟩
  refine ⟨ok_sld gw_X (by decide +kernel), ?_⟩
  refine ⟨ok_aload_n (z := 0) (by decide +kernel) rfl, ?_⟩
  refine ⟨ok_iload_n (z := 3) (by decide +kernel) rfl, ?_⟩
  refine ⟨ok_iconst (z := 2) (by decide +kernel) (by decide +kernel), ?_⟩
  refine ⟨ok_iadd (by decide +kernel), ?_⟩
  refine ⟨ok_sld gw_X (by decide +kernel), ?_⟩
  refine ⟨ok_i2l (by decide +kernel), ?_⟩
  refine ⟨ok_bipush (z := 32) (by decide +kernel) (by decide +kernel), ?_⟩
  refine ⟨ok_lshl (by decide +kernel), ?_⟩
  refine ⟨ok_aload_n (z := 0) (by decide +kernel) rfl, ?_⟩
  refine ⟨ok_iload_n (z := 3) (by decide +kernel) rfl, ?_⟩
  refine ⟨ok_iconst (z := 3) (by decide +kernel) (by decide +kernel), ?_⟩
  refine ⟨ok_iadd (by decide +kernel), ?_⟩
  refine ⟨ok_sld gw_X (by decide +kernel), ?_⟩
  refine ⟨ok_i2l (by decide +kernel), ?_⟩
  refine ⟨ok_ldc2 (ix := 13) tw_1357 (by decide +kernel), ?_⟩
  refine ⟨ok_land (by decide +kernel), ?_⟩
  refine ⟨ok_lor (by decide +kernel), ?_⟩
  refine ⟨ok_aload_n (z := 0) (by decide +kernel) rfl, ?_⟩
  refine ⟨ok_iload_n (z := 3) (by decide +kernel) rfl, ?_⟩
  refine ⟨ok_iconst (z := 4) (by decide +kernel) (by decide +kernel), ?_⟩
  refine ⟨ok_iadd (by decide +kernel), ?_⟩
  refine ⟨ok_sld gw_X (by decide +kernel), ?_⟩
  refine ⟨ok_aload_n (z := 0) (by decide +kernel) rfl, ?_⟩
  refine ⟨ok_iload_n (z := 3) (by decide +kernel) rfl, ?_⟩
  refine ⟨ok_iconst (z := 5) (by decide +kernel) (by decide +kernel), ?_⟩
  refine ⟨ok_iadd (by decide +kernel), ?_⟩
  refine ⟨ok_sld gw_X (by decide +kernel), ?_⟩
  refine ⟨ok_ifeq (off := 7) (by decide +kernel) (by decide), ?_⟩
  refine ⟨ok_iconst (z := 1) (by decide +kernel) (by decide +kernel), ?_⟩
  refine ⟨ok_goto (off := 4) (by decide +kernel) (by decide), ?_⟩
  refine ⟨ok_iconst (z := 0) (by decide +kernel) (by decide +kernel), ?_⟩
  refine ⟨ok_callV (ix := 38) hc_0 ms_H_subscribe (tb_cwV tw_415 tw_416 tw_417 tw_1 tw_418 (by decide +kernel) (by decide) (by decide)) (by decide +kernel), ?_⟩
  refine ⟨ok_aload_n (z := 2) (by decide +kernel) rfl, ?_⟩
  refine ⟨ok_aload_n (z := 0) (by decide +kernel) rfl, ?_⟩
  refine ⟨ok_iload_n (z := 3) (by decide +kernel) rfl, ?_⟩
  exact trivial
def mk_law_4 (b Ls : Nat) (xs : Nat → Int32) (z : Nat × Nat) : ev_C := [(399, ev_fn (ev_ci 1 400)), (400, ev_fn (ev_iadd 401)), (401, ev_fn (ev_sld b Ls xs 402)), (402, ev_fn (ev_aload 0 403)), (403, ev_fn (ev_iload 3 404)), (404, ev_fn (ev_ci 2 405)), (405, ev_fn (ev_iadd 406)), (406, ev_fn (ev_sld b Ls xs 407)), (407, ev_fn (ev_i2l 408)), (408, ev_fn (ev_ci 32 410)), (410, ev_fn (ev_lshl 411)), (411, ev_fn (ev_aload 0 412)), (412, ev_fn (ev_iload 3 413)), (413, ev_fn (ev_ci 3 414)), (414, ev_fn (ev_iadd 415)), (415, ev_fn (ev_sld b Ls xs 416)), (416, ev_fn (ev_i2l 417)), (417, ev_fn (ev_cl 4294967295 420)), (420, ev_fn (ev_land 421)), (421, ev_fn (ev_lor 422)), (422, ev_fn (ev_aload 0 423)), (423, ev_fn (ev_iload 3 424)), (424, ev_fn (ev_ci 4 425)), (425, ev_fn (ev_iadd 426)), (426, ev_fn (ev_sld b Ls xs 427)), (427, ev_fn (ev_aload 0 428)), (428, ev_fn (ev_iload 3 429)), (429, ev_fn (ev_ci 5 430)), (430, ev_fn (ev_iadd 431)), (431, ev_fn (ev_sld b Ls xs 432)), (432, ev_fn (ev_ifeq 439 435)), (435, ev_fn (ev_ci 1 436)), (436, ev_fn (ev_goto 440)), (439, ev_fn (ev_ci 0 440)), (440, ev_callR 12 (mf_Z_subscribe z) 5 443), (443, ev_fn (ev_icmpeq 1075 446)), (446, ev_fn (ev_ci 0 447)), (447, ev_fn (ev_zret .boolean)), (448, ev_fn (ev_aload 1 449)), (449, ev_fn (ev_aload 0 450)), (450, ev_fn (ev_iload 3 451)), (451, ev_fn (ev_ci 1 452)), (452, ev_fn (ev_iadd 453)), (453, ev_fn (ev_sld b Ls xs 454)), (454, ev_fn (ev_aload 0 455)), (455, ev_fn (ev_iload 3 456)), (456, ev_fn (ev_ci 2 457)), (457, ev_fn (ev_iadd 458)), (458, ev_fn (ev_sld b Ls xs 459)), (459, ev_fn (ev_i2l 460)), (460, ev_fn (ev_ci 32 462)), (462, ev_fn (ev_lshl 463)), (463, ev_fn (ev_aload 0 464)), (464, ev_fn (ev_iload 3 465)), (465, ev_fn (ev_ci 3 466)), (466, ev_fn (ev_iadd 467)), (467, ev_fn (ev_sld b Ls xs 468)), (468, ev_fn (ev_i2l 469)), (469, ev_fn (ev_cl 4294967295 472)), (472, ev_fn (ev_land 473))]
set_option maxHeartbeats 4000000 in
set_option maxRecDepth 100000 in
theorem mg_law_4 : ev_AllG (ev_Good l vc_L vt_L (gw_G b Ls xs z) code 4 (some .boolean) nm "MessageHubLaw" tb_T 13 321) (mk_law_4 b Ls xs z) := by
  refine ⟨ok_iconst (z := 1) (by decide +kernel) (by decide +kernel), ?_⟩
  refine ⟨ok_iadd (by decide +kernel), ?_⟩
  refine ⟨ok_sld gw_X (by decide +kernel), ?_⟩
  refine ⟨ok_aload_n (z := 0) (by decide +kernel) rfl, ?_⟩
  refine ⟨ok_iload_n (z := 3) (by decide +kernel) rfl, ?_⟩
  refine ⟨ok_iconst (z := 2) (by decide +kernel) (by decide +kernel), ?_⟩
  refine ⟨ok_iadd (by decide +kernel), ?_⟩
  refine ⟨ok_sld gw_X (by decide +kernel), ?_⟩
  refine ⟨ok_i2l (by decide +kernel), ?_⟩
  refine ⟨ok_bipush (z := 32) (by decide +kernel) (by decide +kernel), ?_⟩
  refine ⟨ok_lshl (by decide +kernel), ?_⟩
  refine ⟨ok_aload_n (z := 0) (by decide +kernel) rfl, ?_⟩
  refine ⟨ok_iload_n (z := 3) (by decide +kernel) rfl, ?_⟩
  refine ⟨ok_iconst (z := 3) (by decide +kernel) (by decide +kernel), ?_⟩
  refine ⟨ok_iadd (by decide +kernel), ?_⟩
  refine ⟨ok_sld gw_X (by decide +kernel), ?_⟩
  refine ⟨ok_i2l (by decide +kernel), ?_⟩
  refine ⟨ok_ldc2 (ix := 13) tw_1357 (by decide +kernel), ?_⟩
  refine ⟨ok_land (by decide +kernel), ?_⟩
  refine ⟨ok_lor (by decide +kernel), ?_⟩
  refine ⟨ok_aload_n (z := 0) (by decide +kernel) rfl, ?_⟩
  refine ⟨ok_iload_n (z := 3) (by decide +kernel) rfl, ?_⟩
  refine ⟨ok_iconst (z := 4) (by decide +kernel) (by decide +kernel), ?_⟩
  refine ⟨ok_iadd (by decide +kernel), ?_⟩
  refine ⟨ok_sld gw_X (by decide +kernel), ?_⟩
  refine ⟨ok_aload_n (z := 0) (by decide +kernel) rfl, ?_⟩
  refine ⟨ok_iload_n (z := 3) (by decide +kernel) rfl, ?_⟩
  refine ⟨ok_iconst (z := 5) (by decide +kernel) (by decide +kernel), ?_⟩
  refine ⟨ok_iadd (by decide +kernel), ?_⟩
  refine ⟨ok_sld gw_X (by decide +kernel), ?_⟩
  refine ⟨ok_ifeq (off := 7) (by decide +kernel) (by decide), ?_⟩
  refine ⟨ok_iconst (z := 1) (by decide +kernel) (by decide +kernel), ?_⟩
  refine ⟨ok_goto (off := 4) (by decide +kernel) (by decide), ?_⟩
  refine ⟨ok_iconst (z := 0) (by decide +kernel) (by decide +kernel), ?_⟩
  refine ⟨ok_callV (ix := 42) hc_12 ms_Z_subscribe (tb_cwV tw_1161 tw_1162 tw_1163 tw_11 tw_1164 (by decide +kernel) (by decide) (by decide)) (by decide +kernel), ?_⟩
  refine ⟨ok_icmpeq (off := 632) (by decide +kernel) (by decide), ?_⟩
  refine ⟨ok_iconst (z := 0) (by decide +kernel) (by decide +kernel), ?_⟩
  refine ⟨ok_zret rfl (by decide +kernel), ?_⟩
  refine ⟨ok_aload_n (z := 1) (by decide +kernel) rfl, ?_⟩
  refine ⟨ok_aload_n (z := 0) (by decide +kernel) rfl, ?_⟩
  refine ⟨ok_iload_n (z := 3) (by decide +kernel) rfl, ?_⟩
  refine ⟨ok_iconst (z := 1) (by decide +kernel) (by decide +kernel), ?_⟩
  refine ⟨ok_iadd (by decide +kernel), ?_⟩
  refine ⟨ok_sld gw_X (by decide +kernel), ?_⟩
  refine ⟨ok_aload_n (z := 0) (by decide +kernel) rfl, ?_⟩
  refine ⟨ok_iload_n (z := 3) (by decide +kernel) rfl, ?_⟩
  refine ⟨ok_iconst (z := 2) (by decide +kernel) (by decide +kernel), ?_⟩
  refine ⟨ok_iadd (by decide +kernel), ?_⟩
  refine ⟨ok_sld gw_X (by decide +kernel), ?_⟩
  refine ⟨ok_i2l (by decide +kernel), ?_⟩
  refine ⟨ok_bipush (z := 32) (by decide +kernel) (by decide +kernel), ?_⟩
  refine ⟨ok_lshl (by decide +kernel), ?_⟩
  refine ⟨ok_aload_n (z := 0) (by decide +kernel) rfl, ?_⟩
  refine ⟨ok_iload_n (z := 3) (by decide +kernel) rfl, ?_⟩
  refine ⟨ok_iconst (z := 3) (by decide +kernel) (by decide +kernel), ?_⟩
  refine ⟨ok_iadd (by decide +kernel), ?_⟩
  refine ⟨ok_sld gw_X (by decide +kernel), ?_⟩
  refine ⟨ok_i2l (by decide +kernel), ?_⟩
  refine ⟨ok_ldc2 (ix := 13) tw_1357 (by decide +kernel), ?_⟩
  refine ⟨ok_land (by decide +kernel), ?_⟩
  exact trivial
end MTL
