/-! The law as a list of steps (written by wip/whole/gen.py). -/
section MTL
variable {l : Launch} {b Ls : Nat} {xs : Nat → Int32} {z : Nat × Nat} {nm : String}
def mk_law_5 (b Ls : Nat) (xs : Nat → Int32) (z : Nat × Nat) : ev_C := [(473, ev_fn (ev_lor 474)), (474, ev_callR 0 (mf_H_unsubscribe z) 3 477), (477, ev_fn (ev_aload 2 478)), (478, ev_fn (ev_aload 0 479)), (479, ev_fn (ev_iload 3 480)), (480, ev_fn (ev_ci 1 481)), (481, ev_fn (ev_iadd 482)), (482, ev_fn (ev_sld b Ls xs 483)), (483, ev_fn (ev_aload 0 484)), (484, ev_fn (ev_iload 3 485)), (485, ev_fn (ev_ci 2 486)), (486, ev_fn (ev_iadd 487)), (487, ev_fn (ev_sld b Ls xs 488)), (488, ev_fn (ev_i2l 489)), (489, ev_fn (ev_ci 32 491)), (491, ev_fn (ev_lshl 492)), (492, ev_fn (ev_aload 0 493)), (493, ev_fn (ev_iload 3 494)), (494, ev_fn (ev_ci 3 495)), (495, ev_fn (ev_iadd 496)), (496, ev_fn (ev_sld b Ls xs 497)), (497, ev_fn (ev_i2l 498)), (498, ev_fn (ev_cl 4294967295 501)), (501, ev_fn (ev_land 502)), (502, ev_fn (ev_lor 503)), (503, ev_callR 12 (mf_Z_unsubscribe z) 3 506), (506, ev_fn (ev_icmpeq 1075 509)), (509, ev_fn (ev_ci 0 510)), (510, ev_fn (ev_zret .boolean)), (511, ev_fn (ev_aload 1 512)), (512, ev_fn (ev_aload 0 513)), (513, ev_fn (ev_iload 3 514)), (514, ev_fn (ev_ci 1 515)), (515, ev_fn (ev_iadd 516)), (516, ev_fn (ev_sld b Ls xs 517)), (517, ev_fn (ev_aload 0 518)), (518, ev_fn (ev_iload 3 519)), (519, ev_fn (ev_ci 2 520)), (520, ev_fn (ev_iadd 521)), (521, ev_fn (ev_sld b Ls xs 522)), (522, ev_fn (ev_i2l 523)), (523, ev_fn (ev_ci 32 525)), (525, ev_fn (ev_lshl 526)), (526, ev_fn (ev_aload 0 527)), (527, ev_fn (ev_iload 3 528)), (528, ev_fn (ev_ci 3 529)), (529, ev_fn (ev_iadd 530)), (530, ev_fn (ev_sld b Ls xs 531)), (531, ev_fn (ev_i2l 532)), (532, ev_fn (ev_cl 4294967295 535)), (535, ev_fn (ev_land 536)), (536, ev_fn (ev_lor 537)), (537, ev_fn (ev_aload 0 538)), (538, ev_fn (ev_iload 3 539)), (539, ev_fn (ev_ci 4 540)), (540, ev_fn (ev_iadd 541)), (541, ev_fn (ev_sld b Ls xs 542)), (542, ev_fn (ev_aload 0 543)), (543, ev_fn (ev_iload 3 544)), (544, ev_fn (ev_ci 5 545))]
set_option maxHeartbeats 4000000 in
set_option maxRecDepth 100000 in
theorem mg_law_5 : ev_AllG (ev_Good l vc_L vt_L (gw_G b Ls xs z) code 4 (some .boolean) nm "MessageHubLaw" tb_T 13 321) (mk_law_5 b Ls xs z) := by
  refine ⟨ok_lor (by decide +kernel), ?_⟩
  refine ⟨ok_callV (ix := 43) hc_0 ms_H_unsubscribe (tb_cwV tw_428 tw_429 tw_430 tw_1 tw_431 (by decide +kernel) (by decide) (by decide)) (by decide +kernel), ?_⟩
  refine ⟨ok_aload_n (z := 2) (by decide +kernel) rfl, ?_⟩
  refine ⟨ok_aload_n (z := 0) (by decide +kernel) rfl, ?_⟩
  refine ⟨ok_iload_n (z := 3) (by decide +kernel) rfl, ?_⟩
  refine ⟨ok_iconst (z := 1) (by decide +kernel) (by decide +kernel), ?_⟩
  refine ⟨ok_iadd (by decide +kernel), ?_⟩
  refine ⟨ok_sld gw_X (by decide +kernel), ?_⟩
  refine ⟨ok_aload_n (z := 0) (by decide +kernel) rfl, ?_⟩
  refine ⟨ok_iload_n (z := 3) (by decide +kernel) rfl, ?_⟩
  refine ⟨ok_iconst (z := 2) (by decide +kernel) (by decide +kernel), ?_⟩
  refine ⟨ok_iadd (by decide +kernel), ?_⟩
  refine ⟨ok_sld gw_X (by decide +kernel), ?_⟩
  refine ⟨ok_i2l (by decide +kernel), ?_⟩
  refine ⟨ok_bipush (z := 32) (by decide +kernel) (by decide +kernel), ?_⟩
  refine ⟨ok_lshl (by decide +kernel), ?_⟩
  refine ⟨ok_aload_n (z := 0) (by decide +kernel) rfl, ?_⟩
  refine ⟨ok_iload_n (z := 3) (by decide +kernel) rfl, ?_⟩
  refine ⟨ok_iconst (z := 3) (by decide +kernel) (by decide +kernel), ?_⟩
  refine ⟨ok_iadd (by decide +kernel), ?_⟩
  refine ⟨ok_sld gw_X (by decide +kernel), ?_⟩
  refine ⟨ok_i2l (by decide +kernel), ?_⟩
  refine ⟨ok_ldc2 (ix := 13) tw_1357 (by decide +kernel), ?_⟩
  refine ⟨ok_land (by decide +kernel), ?_⟩
  refine ⟨ok_lor (by decide +kernel), ?_⟩
  refine ⟨ok_callV (ix := 47) hc_12 ms_Z_unsubscribe (tb_cwV tw_1165 tw_1166 tw_1167 tw_11 tw_1168 (by decide +kernel) (by decide) (by decide)) (by decide +kernel), ?_⟩
  refine ⟨ok_icmpeq (off := 569) (by decide +kernel) (by decide), ?_⟩
  refine ⟨ok_iconst (z := 0) (by decide +kernel) (by decide +kernel), ?_⟩
  refine ⟨ok_zret rfl (by decide +kernel), ?_⟩
  refine ⟨ok_aload_n (z := 1) (by decide +kernel) rfl, ?_⟩
  refine ⟨ok_aload_n (z := 0) (by decide +kernel) rfl, ?_⟩
  refine ⟨ok_iload_n (z := 3) (by decide +kernel) rfl, ?_⟩
  refine ⟨ok_iconst (z := 1) (by decide +kernel) (by decide +kernel), ?_⟩
  refine ⟨ok_iadd (by decide +kernel), ?_⟩
  refine ⟨ok_sld gw_X (by decide +kernel), ?_⟩
  refine ⟨ok_aload_n (z := 0) (by decide +kernel) rfl, ?_⟩
  refine ⟨ok_iload_n (z := 3) (by decide +kernel) rfl, ?_⟩
  refine ⟨ok_iconst (z := 2) (by decide +kernel) (by decide +kernel), ?_⟩
  refine ⟨ok_iadd (by decide +kernel), ?_⟩
  refine ⟨ok_sld gw_X (by decide +kernel), ?_⟩
  refine ⟨ok_i2l (by decide +kernel), ?_⟩
  refine ⟨ok_bipush (z := 32) (by decide +kernel) (by decide +kernel), ?_⟩
  refine ⟨ok_lshl (by decide +kernel), ?_⟩
  refine ⟨ok_aload_n (z := 0) (by decide +kernel) rfl, ?_⟩
  refine ⟨ok_iload_n (z := 3) (by decide +kernel) rfl, ?_⟩
  refine ⟨ok_iconst (z := 3) (by decide +kernel) (by decide +kernel), ?_⟩
  refine ⟨ok_iadd (by decide +kernel), ?_⟩
  refine ⟨ok_sld gw_X (by decide +kernel), ?_⟩
  refine ⟨ok_i2l (by decide +kernel), ?_⟩
  refine ⟨ok_ldc2 (ix := 13) tw_1357 (by decide +kernel), ?_⟩
  refine ⟨ok_land (by decide +kernel), ?_⟩
  refine ⟨ok_lor (by decide +kernel), ?_⟩
  refine ⟨ok_aload_n (z := 0) (by decide +kernel) rfl, ?_⟩
  refine ⟨ok_iload_n (z := 3) (by decide +kernel) rfl, ?_⟩
  refine ⟨ok_iconst (z := 4) (by decide +kernel) (by decide +kernel), ?_⟩
  refine ⟨ok_iadd (by decide +kernel), ?_⟩
  refine ⟨ok_sld gw_X (by decide +kernel), ?_⟩
  refine ⟨ok_aload_n (z := 0) (by decide +kernel) rfl, ?_⟩
  refine ⟨ok_iload_n (z := 3) (by decide +kernel) rfl, ?_⟩
  refine ⟨ok_iconst (z := 5) (by decide +kernel) (by decide +kernel), ?_⟩
  exact trivial
def mk_law_6 (b Ls : Nat) (xs : Nat → Int32) (z : Nat × Nat) : ev_C := [(545, ev_fn (ev_iadd 546)), (546, ev_fn (ev_sld b Ls xs 547)), (547, ev_fn (ev_aload 0 548)), (548, ev_fn (ev_iload 3 549)), (549, ev_fn (ev_ci 6 551)), (551, ev_fn (ev_iadd 552)), (552, ev_fn (ev_sld b Ls xs 553)), (553, ev_fn (ev_ifeq 560 556)), (556, ev_fn (ev_ci 1 557)), (557, ev_fn (ev_goto 561)), (560, ev_fn (ev_ci 0 561)), (561, ev_callR 0 (mf_H_publish z) 6 564), (564, ev_fn (ev_aload 2 565)), (565, ev_fn (ev_aload 0 566)), (566, ev_fn (ev_iload 3 567)), (567, ev_fn (ev_ci 1 568)), (568, ev_fn (ev_iadd 569)), (569, ev_fn (ev_sld b Ls xs 570)), (570, ev_fn (ev_aload 0 571)), (571, ev_fn (ev_iload 3 572)), (572, ev_fn (ev_ci 2 573)), (573, ev_fn (ev_iadd 574)), (574, ev_fn (ev_sld b Ls xs 575)), (575, ev_fn (ev_i2l 576)), (576, ev_fn (ev_ci 32 578)), (578, ev_fn (ev_lshl 579)), (579, ev_fn (ev_aload 0 580)), (580, ev_fn (ev_iload 3 581)), (581, ev_fn (ev_ci 3 582)), (582, ev_fn (ev_iadd 583)), (583, ev_fn (ev_sld b Ls xs 584)), (584, ev_fn (ev_i2l 585)), (585, ev_fn (ev_cl 4294967295 588)), (588, ev_fn (ev_land 589)), (589, ev_fn (ev_lor 590)), (590, ev_fn (ev_aload 0 591)), (591, ev_fn (ev_iload 3 592)), (592, ev_fn (ev_ci 4 593)), (593, ev_fn (ev_iadd 594)), (594, ev_fn (ev_sld b Ls xs 595)), (595, ev_fn (ev_aload 0 596)), (596, ev_fn (ev_iload 3 597)), (597, ev_fn (ev_ci 5 598)), (598, ev_fn (ev_iadd 599)), (599, ev_fn (ev_sld b Ls xs 600)), (600, ev_fn (ev_aload 0 601)), (601, ev_fn (ev_iload 3 602)), (602, ev_fn (ev_ci 6 604)), (604, ev_fn (ev_iadd 605)), (605, ev_fn (ev_sld b Ls xs 606)), (606, ev_fn (ev_ifeq 613 609)), (609, ev_fn (ev_ci 1 610)), (610, ev_fn (ev_goto 614)), (613, ev_fn (ev_ci 0 614)), (614, ev_callR 12 (mf_Z_publish z) 6 617), (617, ev_fn (ev_icmpeq 1075 620)), (620, ev_fn (ev_ci 0 621)), (621, ev_fn (ev_zret .boolean)), (622, ev_fn (ev_aload 1 623)), (623, ev_fn (ev_aload 0 624))]
set_option maxHeartbeats 4000000 in
set_option maxRecDepth 100000 in
theorem mg_law_6 : ev_AllG (ev_Good l vc_L vt_L (gw_G b Ls xs z) code 4 (some .boolean) nm "MessageHubLaw" tb_T 13 321) (mk_law_6 b Ls xs z) := by
  refine ⟨ok_iadd (by decide +kernel), ?_⟩
  refine ⟨ok_sld gw_X (by decide +kernel), ?_⟩
  refine ⟨ok_aload_n (z := 0) (by decide +kernel) rfl, ?_⟩
  refine ⟨ok_iload_n (z := 3) (by decide +kernel) rfl, ?_⟩
  refine ⟨ok_bipush (z := 6) (by decide +kernel) (by decide +kernel), ?_⟩
  refine ⟨ok_iadd (by decide +kernel), ?_⟩
  refine ⟨ok_sld gw_X (by decide +kernel), ?_⟩
  refine ⟨ok_ifeq (off := 7) (by decide +kernel) (by decide), ?_⟩
  refine ⟨ok_iconst (z := 1) (by decide +kernel) (by decide +kernel), ?_⟩
  refine ⟨ok_goto (off := 4) (by decide +kernel) (by decide), ?_⟩
  refine ⟨ok_iconst (z := 0) (by decide +kernel) (by decide +kernel), ?_⟩
  refine ⟨ok_callV (ix := 48) hc_0 ms_H_publish (tb_cwV tw_432 tw_433 tw_434 tw_1 tw_435 (by decide +kernel) (by decide) (by decide)) (by decide +kernel), ?_⟩
  refine ⟨ok_aload_n (z := 2) (by decide +kernel) rfl, ?_⟩
  refine ⟨ok_aload_n (z := 0) (by decide +kernel) rfl, ?_⟩
  refine ⟨ok_iload_n (z := 3) (by decide +kernel) rfl, ?_⟩
  refine ⟨ok_iconst (z := 1) (by decide +kernel) (by decide +kernel), ?_⟩
  refine ⟨ok_iadd (by decide +kernel), ?_⟩
  refine ⟨ok_sld gw_X (by decide +kernel), ?_⟩
  refine ⟨ok_aload_n (z := 0) (by decide +kernel) rfl, ?_⟩
  refine ⟨ok_iload_n (z := 3) (by decide +kernel) rfl, ?_⟩
  refine ⟨ok_iconst (z := 2) (by decide +kernel) (by decide +kernel), ?_⟩
  refine ⟨ok_iadd (by decide +kernel), ?_⟩
  refine ⟨ok_sld gw_X (by decide +kernel), ?_⟩
  refine ⟨ok_i2l (by decide +kernel), ?_⟩
  refine ⟨ok_bipush (z := 32) (by decide +kernel) (by decide +kernel), ?_⟩
  refine ⟨ok_lshl (by decide +kernel), ?_⟩
  refine ⟨ok_aload_n (z := 0) (by decide +kernel) rfl, ?_⟩
  refine ⟨ok_iload_n (z := 3) (by decide +kernel) rfl, ?_⟩
  refine ⟨ok_iconst (z := 3) (by decide +kernel) (by decide +kernel), ?_⟩
  refine ⟨ok_iadd (by decide +kernel), ?_⟩
  refine ⟨ok_sld gw_X (by decide +kernel), ?_⟩
  refine ⟨ok_i2l (by decide +kernel), ?_⟩
  refine ⟨ok_ldc2 (ix := 13) tw_1357 (by decide +kernel), ?_⟩
  refine ⟨ok_land (by decide +kernel), ?_⟩
  refine ⟨ok_lor (by decide +kernel), ?_⟩
  refine ⟨ok_aload_n (z := 0) (by decide +kernel) rfl, ?_⟩
  refine ⟨ok_iload_n (z := 3) (by decide +kernel) rfl, ?_⟩
  refine ⟨ok_iconst (z := 4) (by decide +kernel) (by decide +kernel), ?_⟩
  refine ⟨ok_iadd (by decide +kernel), ?_⟩
  refine ⟨ok_sld gw_X (by decide +kernel), ?_⟩
  refine ⟨ok_aload_n (z := 0) (by decide +kernel) rfl, ?_⟩
  refine ⟨ok_iload_n (z := 3) (by decide +kernel) rfl, ?_⟩
  refine ⟨ok_iconst (z := 5) (by decide +kernel) (by decide +kernel), ?_⟩
  refine ⟨ok_iadd (by decide +kernel), ?_⟩
  refine ⟨ok_sld gw_X (by decide +kernel), ?_⟩
  refine ⟨ok_aload_n (z := 0) (by decide +kernel) rfl, ?_⟩
  refine ⟨ok_iload_n (z := 3) (by decide +kernel) rfl, ?_⟩
  refine ⟨ok_bipush (z := 6) (by decide +kernel) (by decide +kernel), ?_⟩
  refine ⟨ok_iadd (by decide +kernel), ?_⟩
  refine ⟨ok_sld gw_X (by decide +kernel), ?_⟩
  refine ⟨ok_ifeq (off := 7) (by decide +kernel) (by decide), ?_⟩
  refine ⟨ok_iconst (z := 1) (by decide +kernel) (by decide +kernel), ?_⟩
  refine ⟨ok_goto (off := 4) (by decide +kernel) (by decide), ?_⟩
  refine ⟨ok_iconst (z := 0) (by decide +kernel) (by decide +kernel), ?_⟩
  refine ⟨ok_callV (ix := 52) hc_12 ms_Z_publish (tb_cwV tw_1169 tw_1170 tw_1171 tw_11 tw_1172 (by decide +kernel) (by decide) (by decide)) (by decide +kernel), ?_⟩
  refine ⟨ok_icmpeq (off := 458) (by decide +kernel) (by decide), ?_⟩
  refine ⟨ok_iconst (z := 0) (by decide +kernel) (by decide +kernel), ?_⟩
  refine ⟨ok_zret rfl (by decide +kernel), ?_⟩
  refine ⟨ok_aload_n (z := 1) (by decide +kernel) rfl, ?_⟩
  refine ⟨ok_aload_n (z := 0) (by decide +kernel) rfl, ?_⟩
  exact trivial
def mk_law_7 (b Ls : Nat) (xs : Nat → Int32) (z : Nat × Nat) : ev_C := [(624, ev_fn (ev_iload 3 625)), (625, ev_fn (ev_ci 1 626)), (626, ev_fn (ev_iadd 627)), (627, ev_fn (ev_sld b Ls xs 628)), (628, ev_fn (ev_aload 0 629)), (629, ev_fn (ev_iload 3 630)), (630, ev_fn (ev_ci 2 631)), (631, ev_fn (ev_iadd 632)), (632, ev_fn (ev_sld b Ls xs 633)), (633, ev_fn (ev_ifeq 640 636)), (636, ev_fn (ev_ci 1 637)), (637, ev_fn (ev_goto 641)), (640, ev_fn (ev_ci 0 641)), (641, ev_callR 0 (mf_H_deliver z) 3 644), (644, ev_fn (ev_aload 2 645)), (645, ev_fn (ev_aload 0 646)), (646, ev_fn (ev_iload 3 647)), (647, ev_fn (ev_ci 1 648)), (648, ev_fn (ev_iadd 649)), (649, ev_fn (ev_sld b Ls xs 650)), (650, ev_fn (ev_aload 0 651)), (651, ev_fn (ev_iload 3 652)), (652, ev_fn (ev_ci 2 653)), (653, ev_fn (ev_iadd 654)), (654, ev_fn (ev_sld b Ls xs 655)), (655, ev_fn (ev_ifeq 662 658)), (658, ev_fn (ev_ci 1 659)), (659, ev_fn (ev_goto 663)), (662, ev_fn (ev_ci 0 663)), (663, ev_callR 12 (mf_Z_deliver z) 3 666), (666, ev_fn (ev_icmpeq 1075 669)), (669, ev_fn (ev_ci 0 670)), (670, ev_fn (ev_zret .boolean)), (671, ev_fn (ev_aload 1 672)), (672, ev_callR 0 (mf_H_tick z) 1 675), (675, ev_fn (ev_aload 2 676)), (676, ev_callR 12 (mf_Z_tick z) 1 679), (679, ev_fn (ev_icmpeq 1075 682)), (682, ev_fn (ev_ci 0 683)), (683, ev_fn (ev_zret .boolean)), (684, ev_fn (ev_aload 1 685)), (685, ev_callR 0 (mf_H_crash z) 1 688), (688, ev_fn (ev_aload 2 689)), (689, ev_callR 12 (mf_Z_crash z) 1 692), (692, ev_fn (ev_goto 1075)), (695, ev_fn (ev_aload 1 696)), (696, ev_fn (ev_aload 0 697)), (697, ev_fn (ev_iload 3 698)), (698, ev_fn (ev_ci 1 699)), (699, ev_fn (ev_iadd 700)), (700, ev_fn (ev_sld b Ls xs 701)), (701, ev_callR 0 (mf_H_fail z) 2 704), (704, ev_fn (ev_aload 2 705)), (705, ev_fn (ev_aload 0 706)), (706, ev_fn (ev_iload 3 707)), (707, ev_fn (ev_ci 1 708)), (708, ev_fn (ev_iadd 709)), (709, ev_fn (ev_sld b Ls xs 710)), (710, ev_callR 12 (mf_Z_fail z) 2 713), (713, ev_fn (ev_icmpeq 1075 716))]
set_option maxHeartbeats 4000000 in
set_option maxRecDepth 100000 in
theorem mg_law_7 : ev_AllG (ev_Good l vc_L vt_L (gw_G b Ls xs z) code 4 (some .boolean) nm "MessageHubLaw" tb_T 13 321) (mk_law_7 b Ls xs z) := by
  refine ⟨ok_iload_n (z := 3) (by decide +kernel) rfl, ?_⟩
  refine ⟨ok_iconst (z := 1) (by decide +kernel) (by decide +kernel), ?_⟩
  refine ⟨ok_iadd (by decide +kernel), ?_⟩
  refine ⟨ok_sld gw_X (by decide +kernel), ?_⟩
  refine ⟨ok_aload_n (z := 0) (by decide +kernel) rfl, ?_⟩
  refine ⟨ok_iload_n (z := 3) (by decide +kernel) rfl, ?_⟩
  refine ⟨ok_iconst (z := 2) (by decide +kernel) (by decide +kernel), ?_⟩
  refine ⟨ok_iadd (by decide +kernel), ?_⟩
  refine ⟨ok_sld gw_X (by decide +kernel), ?_⟩
  refine ⟨ok_ifeq (off := 7) (by decide +kernel) (by decide), ?_⟩
  refine ⟨ok_iconst (z := 1) (by decide +kernel) (by decide +kernel), ?_⟩
  refine ⟨ok_goto (off := 4) (by decide +kernel) (by decide), ?_⟩
  refine ⟨ok_iconst (z := 0) (by decide +kernel) (by decide +kernel), ?_⟩
  refine ⟨ok_callV (ix := 53) hc_0 ms_H_deliver (tb_cwV tw_531 tw_532 tw_533 tw_1 tw_534 (by decide +kernel) (by decide) (by decide)) (by decide +kernel), ?_⟩
  refine ⟨ok_aload_n (z := 2) (by decide +kernel) rfl, ?_⟩
  refine ⟨ok_aload_n (z := 0) (by decide +kernel) rfl, ?_⟩
  refine ⟨ok_iload_n (z := 3) (by decide +kernel) rfl, ?_⟩
  refine ⟨ok_iconst (z := 1) (by decide +kernel) (by decide +kernel), ?_⟩
  refine ⟨ok_iadd (by decide +kernel), ?_⟩
  refine ⟨ok_sld gw_X (by decide +kernel), ?_⟩
  refine ⟨ok_aload_n (z := 0) (by decide +kernel) rfl, ?_⟩
  refine ⟨ok_iload_n (z := 3) (by decide +kernel) rfl, ?_⟩
  refine ⟨ok_iconst (z := 2) (by decide +kernel) (by decide +kernel), ?_⟩
  refine ⟨ok_iadd (by decide +kernel), ?_⟩
  refine ⟨ok_sld gw_X (by decide +kernel), ?_⟩
  refine ⟨ok_ifeq (off := 7) (by decide +kernel) (by decide), ?_⟩
  refine ⟨ok_iconst (z := 1) (by decide +kernel) (by decide +kernel), ?_⟩
  refine ⟨ok_goto (off := 4) (by decide +kernel) (by decide), ?_⟩
  refine ⟨ok_iconst (z := 0) (by decide +kernel) (by decide +kernel), ?_⟩
  refine ⟨ok_callV (ix := 57) hc_12 ms_Z_deliver (tb_cwV tw_1197 tw_1198 tw_1199 tw_11 tw_1200 (by decide +kernel) (by decide) (by decide)) (by decide +kernel), ?_⟩
  refine ⟨ok_icmpeq (off := 409) (by decide +kernel) (by decide), ?_⟩
  refine ⟨ok_iconst (z := 0) (by decide +kernel) (by decide +kernel), ?_⟩
  refine ⟨ok_zret rfl (by decide +kernel), ?_⟩
  refine ⟨ok_aload_n (z := 1) (by decide +kernel) rfl, ?_⟩
  refine ⟨ok_callV (ix := 58) hc_0 ms_H_tick (tb_cwV tw_802 tw_803 tw_804 tw_1 tw_805 (by decide +kernel) (by decide) (by decide)) (by decide +kernel), ?_⟩
  refine ⟨ok_aload_n (z := 2) (by decide +kernel) rfl, ?_⟩
  refine ⟨ok_callV (ix := 62) hc_12 ms_Z_tick (tb_cwV tw_1316 tw_1317 tw_1318 tw_11 tw_1319 (by decide +kernel) (by decide) (by decide)) (by decide +kernel), ?_⟩
  refine ⟨ok_icmpeq (off := 396) (by decide +kernel) (by decide), ?_⟩
  refine ⟨ok_iconst (z := 0) (by decide +kernel) (by decide +kernel), ?_⟩
  refine ⟨ok_zret rfl (by decide +kernel), ?_⟩
  refine ⟨ok_aload_n (z := 1) (by decide +kernel) rfl, ?_⟩
  refine ⟨ok_callV (ix := 63) hc_0 ms_H_crash (tb_cwV tw_818 tw_819 tw_820 tw_1 tw_821 (by decide +kernel) (by decide) (by decide)) (by decide +kernel), ?_⟩
  refine ⟨ok_aload_n (z := 2) (by decide +kernel) rfl, ?_⟩
  refine ⟨ok_callV (ix := 66) hc_12 ms_Z_crash (tb_cwV tw_1320 tw_1313 tw_1314 tw_11 tw_1315 (by decide +kernel) (by decide) (by decide)) (by decide +kernel), ?_⟩
  refine ⟨ok_goto (off := 383) (by decide +kernel) (by decide), ?_⟩
  refine ⟨ok_aload_n (z := 1) (by decide +kernel) rfl, ?_⟩
  refine ⟨ok_aload_n (z := 0) (by decide +kernel) rfl, ?_⟩
  refine ⟨ok_iload_n (z := 3) (by decide +kernel) rfl, ?_⟩
  refine ⟨ok_iconst (z := 1) (by decide +kernel) (by decide +kernel), ?_⟩
  refine ⟨ok_iadd (by decide +kernel), ?_⟩
  refine ⟨ok_sld gw_X (by decide +kernel), ?_⟩
  refine ⟨ok_callV (ix := 67) hc_0 ms_H_fail (tb_cwV tw_822 tw_823 tw_824 tw_1 tw_825 (by decide +kernel) (by decide) (by decide)) (by decide +kernel), ?_⟩
  refine ⟨ok_aload_n (z := 2) (by decide +kernel) rfl, ?_⟩
  refine ⟨ok_aload_n (z := 0) (by decide +kernel) rfl, ?_⟩
  refine ⟨ok_iload_n (z := 3) (by decide +kernel) rfl, ?_⟩
  refine ⟨ok_iconst (z := 1) (by decide +kernel) (by decide +kernel), ?_⟩
  refine ⟨ok_iadd (by decide +kernel), ?_⟩
  refine ⟨ok_sld gw_X (by decide +kernel), ?_⟩
  refine ⟨ok_callV (ix := 70) hc_12 ms_Z_fail (tb_cwV tw_1321 tw_1322 tw_1323 tw_11 tw_1324 (by decide +kernel) (by decide) (by decide)) (by decide +kernel), ?_⟩
  refine ⟨ok_icmpeq (off := 362) (by decide +kernel) (by decide), ?_⟩
  exact trivial
def mk_law_8 (b Ls : Nat) (xs : Nat → Int32) (z : Nat × Nat) : ev_C := [(716, ev_fn (ev_ci 0 717)), (717, ev_fn (ev_zret .boolean)), (718, ev_fn (ev_aload 1 719)), (719, ev_fn (ev_aload 0 720)), (720, ev_fn (ev_iload 3 721)), (721, ev_fn (ev_ci 1 722)), (722, ev_fn (ev_iadd 723)), (723, ev_fn (ev_sld b Ls xs 724)), (724, ev_callR 0 (mf_H_state z) 2 727), (727, ev_fn (ev_aload 2 728)), (728, ev_fn (ev_aload 0 729)), (729, ev_fn (ev_iload 3 730)), (730, ev_fn (ev_ci 1 731)), (731, ev_fn (ev_iadd 732)), (732, ev_fn (ev_sld b Ls xs 733)), (733, ev_callR 12 (mf_Z_state z) 2 736), (736, ev_fn (ev_icmpeq 1075 739)), (739, ev_fn (ev_ci 0 740)), (740, ev_fn (ev_zret .boolean)), (741, ev_fn (ev_aload 1 742)), (742, ev_fn (ev_aload 0 743)), (743, ev_fn (ev_iload 3 744)), (744, ev_fn (ev_ci 1 745)), (745, ev_fn (ev_iadd 746)), (746, ev_fn (ev_sld b Ls xs 747)), (747, ev_callR 0 (mf_H_session z) 2 750), (750, ev_fn (ev_aload 2 751)), (751, ev_fn (ev_aload 0 752)), (752, ev_fn (ev_iload 3 753)), (753, ev_fn (ev_ci 1 754)), (754, ev_fn (ev_iadd 755)), (755, ev_fn (ev_sld b Ls xs 756)), (756, ev_callR 12 (mf_Z_session z) 2 759), (759, ev_fn (ev_icmpeq 1075 762)), (762, ev_fn (ev_ci 0 763)), (763, ev_fn (ev_zret .boolean)), (764, ev_fn (ev_aload 1 765)), (765, ev_fn (ev_aload 0 766)), (766, ev_fn (ev_iload 3 767)), (767, ev_fn (ev_ci 1 768)), (768, ev_fn (ev_iadd 769)), (769, ev_fn (ev_sld b Ls xs 770)), (770, ev_fn (ev_aload 0 771)), (771, ev_fn (ev_iload 3 772)), (772, ev_fn (ev_ci 2 773)), (773, ev_fn (ev_iadd 774)), (774, ev_fn (ev_sld b Ls xs 775)), (775, ev_fn (ev_ifeq 782 778)), (778, ev_fn (ev_ci 1 779)), (779, ev_fn (ev_goto 783)), (782, ev_fn (ev_ci 0 783)), (783, ev_callR 0 (mf_H_line z) 3 786), (786, ev_fn (ev_aload 2 787)), (787, ev_fn (ev_aload 0 788)), (788, ev_fn (ev_iload 3 789)), (789, ev_fn (ev_ci 1 790)), (790, ev_fn (ev_iadd 791)), (791, ev_fn (ev_sld b Ls xs 792)), (792, ev_fn (ev_aload 0 793)), (793, ev_fn (ev_iload 3 794))]
set_option maxHeartbeats 4000000 in
set_option maxRecDepth 100000 in
theorem mg_law_8 : ev_AllG (ev_Good l vc_L vt_L (gw_G b Ls xs z) code 4 (some .boolean) nm "MessageHubLaw" tb_T 13 321) (mk_law_8 b Ls xs z) := by
  refine ⟨ok_iconst (z := 0) (by decide +kernel) (by decide +kernel), ?_⟩
  refine ⟨ok_zret rfl (by decide +kernel), ?_⟩
  refine ⟨ok_aload_n (z := 1) (by decide +kernel) rfl, ?_⟩
  refine ⟨ok_aload_n (z := 0) (by decide +kernel) rfl, ?_⟩
  refine ⟨ok_iload_n (z := 3) (by decide +kernel) rfl, ?_⟩
  refine ⟨ok_iconst (z := 1) (by decide +kernel) (by decide +kernel), ?_⟩
  refine ⟨ok_iadd (by decide +kernel), ?_⟩
  refine ⟨ok_sld gw_X (by decide +kernel), ?_⟩
  refine ⟨ok_callV (ix := 71) hc_0 ms_H_state (tb_cwV tw_826 tw_827 tw_828 tw_1 tw_829 (by decide +kernel) (by decide) (by decide)) (by decide +kernel), ?_⟩
  refine ⟨ok_aload_n (z := 2) (by decide +kernel) rfl, ?_⟩
  refine ⟨ok_aload_n (z := 0) (by decide +kernel) rfl, ?_⟩
  refine ⟨ok_iload_n (z := 3) (by decide +kernel) rfl, ?_⟩
  refine ⟨ok_iconst (z := 1) (by decide +kernel) (by decide +kernel), ?_⟩
  refine ⟨ok_iadd (by decide +kernel), ?_⟩
  refine ⟨ok_sld gw_X (by decide +kernel), ?_⟩
  refine ⟨ok_callV (ix := 75) hc_12 ms_Z_state (tb_cwV tw_1325 tw_1326 tw_1327 tw_11 tw_1328 (by decide +kernel) (by decide) (by decide)) (by decide +kernel), ?_⟩
  refine ⟨ok_icmpeq (off := 339) (by decide +kernel) (by decide), ?_⟩
  refine ⟨ok_iconst (z := 0) (by decide +kernel) (by decide +kernel), ?_⟩
  refine ⟨ok_zret rfl (by decide +kernel), ?_⟩
  refine ⟨ok_aload_n (z := 1) (by decide +kernel) rfl, ?_⟩
  refine ⟨ok_aload_n (z := 0) (by decide +kernel) rfl, ?_⟩
  refine ⟨ok_iload_n (z := 3) (by decide +kernel) rfl, ?_⟩
  refine ⟨ok_iconst (z := 1) (by decide +kernel) (by decide +kernel), ?_⟩
  refine ⟨ok_iadd (by decide +kernel), ?_⟩
  refine ⟨ok_sld gw_X (by decide +kernel), ?_⟩
  refine ⟨ok_callV (ix := 76) hc_0 ms_H_session (tb_cwV tw_830 tw_831 tw_832 tw_1 tw_833 (by decide +kernel) (by decide) (by decide)) (by decide +kernel), ?_⟩
  refine ⟨ok_aload_n (z := 2) (by decide +kernel) rfl, ?_⟩
  refine ⟨ok_aload_n (z := 0) (by decide +kernel) rfl, ?_⟩
  refine ⟨ok_iload_n (z := 3) (by decide +kernel) rfl, ?_⟩
  refine ⟨ok_iconst (z := 1) (by decide +kernel) (by decide +kernel), ?_⟩
  refine ⟨ok_iadd (by decide +kernel), ?_⟩
  refine ⟨ok_sld gw_X (by decide +kernel), ?_⟩
  refine ⟨ok_callV (ix := 79) hc_12 ms_Z_session (tb_cwV tw_1329 tw_1330 tw_1331 tw_11 tw_1332 (by decide +kernel) (by decide) (by decide)) (by decide +kernel), ?_⟩
  refine ⟨ok_icmpeq (off := 316) (by decide +kernel) (by decide), ?_⟩
  refine ⟨ok_iconst (z := 0) (by decide +kernel) (by decide +kernel), ?_⟩
  refine ⟨ok_zret rfl (by decide +kernel), ?_⟩
  refine ⟨ok_aload_n (z := 1) (by decide +kernel) rfl, ?_⟩
  refine ⟨ok_aload_n (z := 0) (by decide +kernel) rfl, ?_⟩
  refine ⟨ok_iload_n (z := 3) (by decide +kernel) rfl, ?_⟩
  refine ⟨ok_iconst (z := 1) (by decide +kernel) (by decide +kernel), ?_⟩
  refine ⟨ok_iadd (by decide +kernel), ?_⟩
  refine ⟨ok_sld gw_X (by decide +kernel), ?_⟩
  refine ⟨ok_aload_n (z := 0) (by decide +kernel) rfl, ?_⟩
  refine ⟨ok_iload_n (z := 3) (by decide +kernel) rfl, ?_⟩
  refine ⟨ok_iconst (z := 2) (by decide +kernel) (by decide +kernel), ?_⟩
  refine ⟨ok_iadd (by decide +kernel), ?_⟩
  refine ⟨ok_sld gw_X (by decide +kernel), ?_⟩
  refine ⟨ok_ifeq (off := 7) (by decide +kernel) (by decide), ?_⟩
  refine ⟨ok_iconst (z := 1) (by decide +kernel) (by decide +kernel), ?_⟩
  refine ⟨ok_goto (off := 4) (by decide +kernel) (by decide), ?_⟩
  refine ⟨ok_iconst (z := 0) (by decide +kernel) (by decide +kernel), ?_⟩
  refine ⟨ok_callV (ix := 80) hc_0 ms_H_line (tb_cwV tw_848 tw_849 tw_850 tw_1 tw_851 (by decide +kernel) (by decide) (by decide)) (by decide +kernel), ?_⟩
  refine ⟨ok_aload_n (z := 2) (by decide +kernel) rfl, ?_⟩
  refine ⟨ok_aload_n (z := 0) (by decide +kernel) rfl, ?_⟩
  refine ⟨ok_iload_n (z := 3) (by decide +kernel) rfl, ?_⟩
  refine ⟨ok_iconst (z := 1) (by decide +kernel) (by decide +kernel), ?_⟩
  refine ⟨ok_iadd (by decide +kernel), ?_⟩
  refine ⟨ok_sld gw_X (by decide +kernel), ?_⟩
  refine ⟨ok_aload_n (z := 0) (by decide +kernel) rfl, ?_⟩
  refine ⟨ok_iload_n (z := 3) (by decide +kernel) rfl, ?_⟩
  exact trivial
def mk_law_9 (b Ls : Nat) (xs : Nat → Int32) (z : Nat × Nat) : ev_C := [(794, ev_fn (ev_ci 2 795)), (795, ev_fn (ev_iadd 796)), (796, ev_fn (ev_sld b Ls xs 797)), (797, ev_fn (ev_ifeq 804 800)), (800, ev_fn (ev_ci 1 801)), (801, ev_fn (ev_goto 805)), (804, ev_fn (ev_ci 0 805)), (805, ev_callR 12 (mf_Z_line z) 3 808), (808, ev_fn (ev_icmpeq 1075 811)), (811, ev_fn (ev_ci 0 812)), (812, ev_fn (ev_zret .boolean)), (813, ev_fn (ev_aload 1 814)), (814, ev_fn (ev_aload 0 815)), (815, ev_fn (ev_iload 3 816)), (816, ev_fn (ev_ci 1 817)), (817, ev_fn (ev_iadd 818)), (818, ev_fn (ev_sld b Ls xs 819)), (819, ev_fn (ev_aload 0 820)), (820, ev_fn (ev_iload 3 821)), (821, ev_fn (ev_ci 2 822)), (822, ev_fn (ev_iadd 823)), (823, ev_fn (ev_sld b Ls xs 824)), (824, ev_fn (ev_ifeq 831 827)), (827, ev_fn (ev_ci 1 828)), (828, ev_fn (ev_goto 832)), (831, ev_fn (ev_ci 0 832)), (832, ev_fn (ev_aload 0 833)), (833, ev_fn (ev_iload 3 834)), (834, ev_fn (ev_ci 3 835)), (835, ev_fn (ev_iadd 836)), (836, ev_fn (ev_sld b Ls xs 837)), (837, ev_callR 0 (mf_H_packet z) 4 840), (840, ev_fn (ev_aload 2 841)), (841, ev_fn (ev_aload 0 842)), (842, ev_fn (ev_iload 3 843)), (843, ev_fn (ev_ci 1 844)), (844, ev_fn (ev_iadd 845)), (845, ev_fn (ev_sld b Ls xs 846)), (846, ev_fn (ev_aload 0 847)), (847, ev_fn (ev_iload 3 848)), (848, ev_fn (ev_ci 2 849)), (849, ev_fn (ev_iadd 850)), (850, ev_fn (ev_sld b Ls xs 851)), (851, ev_fn (ev_ifeq 858 854)), (854, ev_fn (ev_ci 1 855)), (855, ev_fn (ev_goto 859)), (858, ev_fn (ev_ci 0 859)), (859, ev_fn (ev_aload 0 860)), (860, ev_fn (ev_iload 3 861)), (861, ev_fn (ev_ci 3 862)), (862, ev_fn (ev_iadd 863)), (863, ev_fn (ev_sld b Ls xs 864)), (864, ev_callR 12 (mf_Z_packet z) 4 867), (867, ev_fn (ev_lcmp 868)), (868, ev_fn (ev_ifeq 1075 871)), (871, ev_fn (ev_ci 0 872)), (872, ev_fn (ev_zret .boolean)), (873, ev_fn (ev_aload 1 874)), (874, ev_fn (ev_aload 0 875)), (875, ev_fn (ev_iload 3 876))]
set_option maxHeartbeats 4000000 in
set_option maxRecDepth 100000 in
theorem mg_law_9 : ev_AllG (ev_Good l vc_L vt_L (gw_G b Ls xs z) code 4 (some .boolean) nm "MessageHubLaw" tb_T 13 321) (mk_law_9 b Ls xs z) := by
  refine ⟨ok_iconst (z := 2) (by decide +kernel) (by decide +kernel), ?_⟩
  refine ⟨ok_iadd (by decide +kernel), ?_⟩
  refine ⟨ok_sld gw_X (by decide +kernel), ?_⟩
  refine ⟨ok_ifeq (off := 7) (by decide +kernel) (by decide), ?_⟩
  refine ⟨ok_iconst (z := 1) (by decide +kernel) (by decide +kernel), ?_⟩
  refine ⟨ok_goto (off := 4) (by decide +kernel) (by decide), ?_⟩
  refine ⟨ok_iconst (z := 0) (by decide +kernel) (by decide +kernel), ?_⟩
  refine ⟨ok_callV (ix := 83) hc_12 ms_Z_line (tb_cwV tw_1336 tw_1337 tw_1338 tw_11 tw_1339 (by decide +kernel) (by decide) (by decide)) (by decide +kernel), ?_⟩
  refine ⟨ok_icmpeq (off := 267) (by decide +kernel) (by decide), ?_⟩
  refine ⟨ok_iconst (z := 0) (by decide +kernel) (by decide +kernel), ?_⟩
  refine ⟨ok_zret rfl (by decide +kernel), ?_⟩
  refine ⟨ok_aload_n (z := 1) (by decide +kernel) rfl, ?_⟩
  refine ⟨ok_aload_n (z := 0) (by decide +kernel) rfl, ?_⟩
  refine ⟨ok_iload_n (z := 3) (by decide +kernel) rfl, ?_⟩
  refine ⟨ok_iconst (z := 1) (by decide +kernel) (by decide +kernel), ?_⟩
  refine ⟨ok_iadd (by decide +kernel), ?_⟩
  refine ⟨ok_sld gw_X (by decide +kernel), ?_⟩
  refine ⟨ok_aload_n (z := 0) (by decide +kernel) rfl, ?_⟩
  refine ⟨ok_iload_n (z := 3) (by decide +kernel) rfl, ?_⟩
  refine ⟨ok_iconst (z := 2) (by decide +kernel) (by decide +kernel), ?_⟩
  refine ⟨ok_iadd (by decide +kernel), ?_⟩
  refine ⟨ok_sld gw_X (by decide +kernel), ?_⟩
  refine ⟨ok_ifeq (off := 7) (by decide +kernel) (by decide), ?_⟩
  refine ⟨ok_iconst (z := 1) (by decide +kernel) (by decide +kernel), ?_⟩
  refine ⟨ok_goto (off := 4) (by decide +kernel) (by decide), ?_⟩
  refine ⟨ok_iconst (z := 0) (by decide +kernel) (by decide +kernel), ?_⟩
  refine ⟨ok_aload_n (z := 0) (by decide +kernel) rfl, ?_⟩
  refine ⟨ok_iload_n (z := 3) (by decide +kernel) rfl, ?_⟩
  refine ⟨ok_iconst (z := 3) (by decide +kernel) (by decide +kernel), ?_⟩
  refine ⟨ok_iadd (by decide +kernel), ?_⟩
  refine ⟨ok_sld gw_X (by decide +kernel), ?_⟩
  refine ⟨ok_callV (ix := 84) hc_0 ms_H_packet (tb_cwV tw_852 tw_853 tw_854 tw_1 tw_855 (by decide +kernel) (by decide) (by decide)) (by decide +kernel), ?_⟩
  refine ⟨ok_aload_n (z := 2) (by decide +kernel) rfl, ?_⟩
  refine ⟨ok_aload_n (z := 0) (by decide +kernel) rfl, ?_⟩
  refine ⟨ok_iload_n (z := 3) (by decide +kernel) rfl, ?_⟩
  refine ⟨ok_iconst (z := 1) (by decide +kernel) (by decide +kernel), ?_⟩
  refine ⟨ok_iadd (by decide +kernel), ?_⟩
  refine ⟨ok_sld gw_X (by decide +kernel), ?_⟩
  refine ⟨ok_aload_n (z := 0) (by decide +kernel) rfl, ?_⟩
  refine ⟨ok_iload_n (z := 3) (by decide +kernel) rfl, ?_⟩
  refine ⟨ok_iconst (z := 2) (by decide +kernel) (by decide +kernel), ?_⟩
  refine ⟨ok_iadd (by decide +kernel), ?_⟩
  refine ⟨ok_sld gw_X (by decide +kernel), ?_⟩
  refine ⟨ok_ifeq (off := 7) (by decide +kernel) (by decide), ?_⟩
  refine ⟨ok_iconst (z := 1) (by decide +kernel) (by decide +kernel), ?_⟩
  refine ⟨ok_goto (off := 4) (by decide +kernel) (by decide), ?_⟩
  refine ⟨ok_iconst (z := 0) (by decide +kernel) (by decide +kernel), ?_⟩
  refine ⟨ok_aload_n (z := 0) (by decide +kernel) rfl, ?_⟩
  refine ⟨ok_iload_n (z := 3) (by decide +kernel) rfl, ?_⟩
  refine ⟨ok_iconst (z := 3) (by decide +kernel) (by decide +kernel), ?_⟩
  refine ⟨ok_iadd (by decide +kernel), ?_⟩
  refine ⟨ok_sld gw_X (by decide +kernel), ?_⟩
  refine ⟨ok_callV (ix := 88) hc_12 ms_Z_packet (tb_cwV tw_1340 tw_1341 tw_1342 tw_11 tw_1343 (by decide +kernel) (by decide) (by decide)) (by decide +kernel), ?_⟩
  refine ⟨ok_lcmp (by decide +kernel), ?_⟩
  refine ⟨ok_ifeq (off := 207) (by decide +kernel) (by decide), ?_⟩
  refine ⟨ok_iconst (z := 0) (by decide +kernel) (by decide +kernel), ?_⟩
  refine ⟨ok_zret rfl (by decide +kernel), ?_⟩
  refine ⟨ok_aload_n (z := 1) (by decide +kernel) rfl, ?_⟩
  refine ⟨ok_aload_n (z := 0) (by decide +kernel) rfl, ?_⟩
  refine ⟨ok_iload_n (z := 3) (by decide +kernel) rfl, ?_⟩
  exact trivial
end MTL
