/-! ===== printed by wip/whole/gen_law.py: the law, by its cases ===== -/
theorem l_L_13 : Cond.methodLink RL 13 yX5_plank ∈ lw_tbl := List.mem_of_getElem? (i := 244) (by decide +kernel)
theorem l_L_17 : Cond.methodLink RL 17 yX6_plank ∈ lw_tbl := List.mem_of_getElem? (i := 807) (by decide +kernel)
theorem l_L_18 : Cond.methodLink RL 18 yX5_sawyer ∈ lw_tbl := List.mem_of_getElem? (i := 259) (by decide +kernel)
theorem l_L_21 : Cond.methodLink RL 21 yX6_sawyer ∈ lw_tbl := List.mem_of_getElem? (i := 817) (by decide +kernel)
theorem l_L_22 : Cond.methodLink RL 22 yX5_of ∈ lw_tbl := List.mem_of_getElem? (i := 267) (by decide +kernel)
theorem l_L_25 : Cond.methodLink RL 25 yX6_of ∈ lw_tbl := List.mem_of_getElem? (i := 824) (by decide +kernel)
theorem l_L_26 : Cond.methodLink RL 26 yX5_at ∈ lw_tbl := List.mem_of_getElem? (i := 294) (by decide +kernel)
theorem l_L_29 : Cond.methodLink RL 29 yX6_at ∈ lw_tbl := List.mem_of_getElem? (i := 842) (by decide +kernel)
theorem l_L_30 : Cond.methodLink RL 30 yX5_type ∈ lw_tbl := List.mem_of_getElem? (i := 303) (by decide +kernel)
theorem l_L_34 : Cond.methodLink RL 34 yX6_type ∈ lw_tbl := List.mem_of_getElem? (i := 850) (by decide +kernel)
theorem l_L_35 : Cond.methodLink RL 35 yX5_read ∈ lw_tbl := List.mem_of_getElem? (i := 311) (by decide +kernel)
theorem l_L_39 : Cond.methodLink RL 39 yX6_read ∈ lw_tbl := List.mem_of_getElem? (i := 854) (by decide +kernel)
theorem l_L_40 : Cond.methodLink RL 40 yX5_count ∈ lw_tbl := List.mem_of_getElem? (i := 468) (by decide +kernel)
theorem l_L_43 : Cond.methodLink RL 43 yX6_count ∈ lw_tbl := List.mem_of_getElem? (i := 892) (by decide +kernel)
theorem l_L_44 : Cond.methodLink RL 44 yX5_hours ∈ lw_tbl := List.mem_of_getElem? (i := 484) (by decide +kernel)
theorem l_L_47 : Cond.methodLink RL 47 yX6_hours ∈ lw_tbl := List.mem_of_getElem? (i := 906) (by decide +kernel)
theorem l_L_48 : Cond.methodLink RL 48 yX5_set ∈ lw_tbl := List.mem_of_getElem? (i := 511) (by decide +kernel)
theorem l_L_51 : Cond.methodLink RL 51 yX6_set ∈ lw_tbl := List.mem_of_getElem? (i := 927) (by decide +kernel)
theorem l_L_52 : Cond.methodLink RL 52 yX5_sharpen ∈ lw_tbl := List.mem_of_getElem? (i := 515) (by decide +kernel)
theorem l_L_55 : Cond.methodLink RL 55 yX6_sharpen ∈ lw_tbl := List.mem_of_getElem? (i := 931) (by decide +kernel)
theorem l_L_56 : Cond.methodLink RL 56 yX5_soak ∈ lw_tbl := List.mem_of_getElem? (i := 524) (by decide +kernel)
theorem l_L_59 : Cond.methodLink RL 59 yX6_soak ∈ lw_tbl := List.mem_of_getElem? (i := 935) (by decide +kernel)
theorem l_L_60 : Cond.methodLink RL 60 yX5_drift ∈ lw_tbl := List.mem_of_getElem? (i := 529) (by decide +kernel)
theorem l_L_63 : Cond.methodLink RL 63 yX6_drift ∈ lw_tbl := List.mem_of_getElem? (i := 939) (by decide +kernel)
theorem l_L_64 : Cond.methodLink RL 64 yX5_undo ∈ lw_tbl := List.mem_of_getElem? (i := 540) (by decide +kernel)
theorem l_L_67 : Cond.methodLink RL 67 yX6_undo ∈ lw_tbl := List.mem_of_getElem? (i := 947) (by decide +kernel)
theorem l_L_68 : Cond.methodLink RL 68 yX5_seed ∈ lw_tbl := List.mem_of_getElem? (i := 548) (by decide +kernel)
theorem l_L_71 : Cond.methodLink RL 71 yX6_seed ∈ lw_tbl := List.mem_of_getElem? (i := 951) (by decide +kernel)
theorem l_L_72 : Cond.methodLink RL 72 yX5_left ∈ lw_tbl := List.mem_of_getElem? (i := 552) (by decide +kernel)
theorem l_L_75 : Cond.methodLink RL 75 yX6_left ∈ lw_tbl := List.mem_of_getElem? (i := 955) (by decide +kernel)
theorem l_L_76 : Cond.methodLink RL 76 yX5_ahead ∈ lw_tbl := List.mem_of_getElem? (i := 565) (by decide +kernel)
theorem l_L_80 : Cond.methodLink RL 80 yX6_ahead ∈ lw_tbl := List.mem_of_getElem? (i := 967) (by decide +kernel)
theorem l_L_81 : Cond.methodLink RL 81 yX5_then ∈ lw_tbl := List.mem_of_getElem? (i := 569) (by decide +kernel)
theorem l_L_84 : Cond.methodLink RL 84 yX6_then ∈ lw_tbl := List.mem_of_getElem? (i := 971) (by decide +kernel)
theorem l_L_85 : Cond.methodLink RL 85 yX5_falls ∈ lw_tbl := List.mem_of_getElem? (i := 573) (by decide +kernel)
theorem l_L_88 : Cond.methodLink RL 88 yX6_falls ∈ lw_tbl := List.mem_of_getElem? (i := 975) (by decide +kernel)
theorem l_L_89 : Cond.methodLink RL 89 yX5_noon ∈ lw_tbl := List.mem_of_getElem? (i := 577) (by decide +kernel)
theorem l_L_92 : Cond.methodLink RL 92 yX6_noon ∈ lw_tbl := List.mem_of_getElem? (i := 979) (by decide +kernel)
theorem l_L_93 : Cond.methodLink RL 93 yX5_best ∈ lw_tbl := List.mem_of_getElem? (i := 597) (by decide +kernel)
theorem l_L_96 : Cond.methodLink RL 96 yX6_best ∈ lw_tbl := List.mem_of_getElem? (i := 987) (by decide +kernel)
theorem l_L_97 : Cond.methodLink RL 97 yX5_most ∈ lw_tbl := List.mem_of_getElem? (i := 649) (by decide +kernel)
theorem l_L_100 : Cond.methodLink RL 100 yX6_most ∈ lw_tbl := List.mem_of_getElem? (i := 1006) (by decide +kernel)
theorem l_L_101 : Cond.methodLink RL 101 yX5_sharp ∈ lw_tbl := List.mem_of_getElem? (i := 653) (by decide +kernel)
theorem l_L_104 : Cond.methodLink RL 104 yX6_sharp ∈ lw_tbl := List.mem_of_getElem? (i := 1010) (by decide +kernel)
theorem l_L_105 : Cond.methodLink RL 105 yX5_without ∈ lw_tbl := List.mem_of_getElem? (i := 657) (by decide +kernel)
theorem l_L_108 : Cond.methodLink RL 108 yX6_without ∈ lw_tbl := List.mem_of_getElem? (i := 1014) (by decide +kernel)
theorem l_L_109 : Cond.methodLink RL 109 yX5_thickest ∈ lw_tbl := List.mem_of_getElem? (i := 661) (by decide +kernel)
theorem l_L_112 : Cond.methodLink RL 112 yX6_thickest ∈ lw_tbl := List.mem_of_getElem? (i := 1018) (by decide +kernel)
theorem l_L_113 : Cond.methodLink RL 113 yX5_hops ∈ lw_tbl := List.mem_of_getElem? (i := 665) (by decide +kernel)
theorem l_L_116 : Cond.methodLink RL 116 yX6_hops ∈ lw_tbl := List.mem_of_getElem? (i := 1022) (by decide +kernel)
theorem l_L_117 : Cond.methodLink RL 117 yX5_image ∈ lw_tbl := List.mem_of_getElem? (i := 675) (by decide +kernel)
theorem l_L_120 : Cond.methodLink RL 120 yX6_image ∈ lw_tbl := List.mem_of_getElem? (i := 1026) (by decide +kernel)
theorem l_L_121 : Cond.methodLink RL 121 yX5_restore ∈ lw_tbl := List.mem_of_getElem? (i := 683) (by decide +kernel)
theorem l_L_124 : Cond.methodLink RL 124 yX6_restore ∈ lw_tbl := List.mem_of_getElem? (i := 1030) (by decide +kernel)
theorem l_L_125 : Cond.methodLink RL 125 yX5_dust ∈ lw_tbl := List.mem_of_getElem? (i := 687) (by decide +kernel)
theorem l_L_129 : Cond.methodLink RL 129 yX6_dust ∈ lw_tbl := List.mem_of_getElem? (i := 1034) (by decide +kernel)
theorem l_L_130 : Cond.methodLink RL 130 yX5_film ∈ lw_tbl := List.mem_of_getElem? (i := 717) (by decide +kernel)
theorem l_L_134 : Cond.methodLink RL 134 yX6_film ∈ lw_tbl := List.mem_of_getElem? (i := 1052) (by decide +kernel)
theorem l_L_135 : Cond.methodLink RL 135 yX5_sheet ∈ lw_tbl := List.mem_of_getElem? (i := 725) (by decide +kernel)
theorem l_L_138 : Cond.methodLink RL 138 yX6_sheet ∈ lw_tbl := List.mem_of_getElem? (i := 1059) (by decide +kernel)
theorem l_L_139 : Cond.methodLink RL 139 yX5_drop ∈ lw_tbl := List.mem_of_getElem? (i := 733) (by decide +kernel)
theorem l_L_142 : Cond.methodLink RL 142 yX6_drop ∈ lw_tbl := List.mem_of_getElem? (i := 1063) (by decide +kernel)
theorem k_L_143 : Cond.constantLong RL 143 (Int64.ofInt 4294967295) ∈ lw_tbl := List.mem_of_getElem? (i := 1075) (by decide +kernel)
theorem l_L_145 : Cond.methodLink RL 145 yX5_item ∈ lw_tbl := List.mem_of_getElem? (i := 741) (by decide +kernel)
theorem l_L_149 : Cond.methodLink RL 149 yX6_item ∈ lw_tbl := List.mem_of_getElem? (i := 1067) (by decide +kernel)
theorem l_L_150 : Cond.methodLink RL 150 yX5_copy ∈ lw_tbl := List.mem_of_getElem? (i := 745) (by decide +kernel)
theorem l_L_153 : Cond.methodLink RL 153 yX6_copy ∈ lw_tbl := List.mem_of_getElem? (i := 1071) (by decide +kernel)
def PL_head (LL : Nat) (xx : Nat → Int32) : nv_Pg := [(18, s_il 3 19), (19, s_al 0 20), (20, s_sln LL 21), (21, s_ki (8) 23), (23, s_sub 24), (24, s_ic c_gt 1269 27), (27, s_al 0 28), (28, s_il 3 29), (29, s_scr LL xx 30), (30, s_ki (63) 32), (32, s_b nv_and 33), (33, s_sw 0 1263 [180, 213, 246, 279, 312, 335, 348, 371, 394, 427, 460, 493, 516, 529, 552, 585, 628, 651, 674, 687, 710, 743, 776, 799, 832, 875, 888, 901, 988, 1051, 1094, 1117, 1200]), (1269, s_ki (1) 1270), (1270, s_one)]
set_option maxRecDepth 100000 in
set_option maxHeartbeats 4000000 in
theorem okL_head : lq_okP PL_head := fun X bb LL xx =>
  lq_oc (lq_n_iload_n (k := 3) (by decide +kernel)) <|
  lq_oc (lq_n_aload_n (k := 0) (by decide +kernel)) <|
  lq_oc (lq_n_alen (by decide +kernel)) <|
  lq_oc (lq_n_bipush (z := 8) (by decide +kernel) (by decide)) <|
  lq_oc (lq_n_isub (by decide +kernel)) <|
  lq_oc (lq_n_icmp_gt (off := 1245) (tgt := 1269) (by decide +kernel) (by decide)) <|
  lq_oc (lq_n_aload_n (k := 0) (by decide +kernel)) <|
  lq_oc (lq_n_iload_n (k := 3) (by decide +kernel)) <|
  lq_oc (lq_n_iaload (by decide +kernel)) <|
  lq_oc (lq_n_bipush (z := 63) (by decide +kernel) (by decide)) <|
  lq_oc (lq_n_iand (by decide +kernel)) <|
  lq_oc (lq_n_tableswitch (dflt := 1230) (lo := 0) (hi := 32) (offs := #[147, 180, 213, 246, 279, 302, 315, 338, 361, 394, 427, 460, 483, 496, 519, 552, 595, 618, 641, 654, 677, 710, 743, 766, 799, 842, 855, 868, 955, 1018, 1061, 1084, 1167]) (len := 147) (df := 1263) (ts := [180, 213, 246, 279, 312, 335, 348, 371, 394, 427, 460, 493, 516, 529, 552, 585, 628, 651, 674, 687, 710, 743, 776, 799, 832, 875, 888, 901, 988, 1051, 1094, 1117, 1200]) (by decide +kernel) (by decide) (by decide) (by decide)) <|
  lq_oc (lq_n_iconst (z := 1) (by decide +kernel)) <|
  lq_oc (lq_n_ret (by decide +kernel)) <|
  lq_on
def PL_tail (LL : Nat) (xx : Nat → Int32) : nv_Pg := [(1263, s_inc 3 (8) 1266), (1266, s_go 18)]
set_option maxRecDepth 100000 in
set_option maxHeartbeats 4000000 in
theorem okL_tail : lq_okP PL_tail := fun X bb LL xx =>
  lq_oc (lq_n_iinc (k := 3) (d := 8) (by decide +kernel) (by decide)) <|
  lq_oc (lq_n_goto (off := -1248) (tgt := 18) (by decide +kernel) (by decide)) <|
  lq_on
def PL_plank (LL : Nat) (xx : Nat → Int32) : nv_Pg := [(180, s_al 1 181), (181, s_al 0 182), (182, s_il 3 183), (183, s_ki (1) 184), (184, s_add 185), (185, s_scr LL xx 186), (186, s_al 0 187), (187, s_il 3 188), (188, s_ki (2) 189), (189, s_add 190), (190, s_scr LL xx 191), (191, s_lcv 5 M_X5_plank 2 194), (194, s_al 2 195), (195, s_al 0 196), (196, s_il 3 197), (197, s_ki (1) 198), (198, s_add 199), (199, s_scr LL xx 200), (200, s_al 0 201), (201, s_il 3 202), (202, s_ki (2) 203), (203, s_add 204), (204, s_scr LL xx 205), (205, s_lcv 6 M_X6_plank 2 208), (208, s_ieq 1263)]
set_option maxRecDepth 100000 in
set_option maxHeartbeats 4000000 in
theorem okL_plank : lq_okP PL_plank := fun X bb LL xx =>
  lq_oc (lq_n_aload_n (k := 1) (by decide +kernel)) <|
  lq_oc (lq_n_aload_n (k := 0) (by decide +kernel)) <|
  lq_oc (lq_n_iload_n (k := 3) (by decide +kernel)) <|
  lq_oc (lq_n_iconst (z := 1) (by decide +kernel)) <|
  lq_oc (lq_n_iadd (by decide +kernel)) <|
  lq_oc (lq_n_iaload (by decide +kernel)) <|
  lq_oc (lq_n_aload_n (k := 0) (by decide +kernel)) <|
  lq_oc (lq_n_iload_n (k := 3) (by decide +kernel)) <|
  lq_oc (lq_n_iconst (z := 2) (by decide +kernel)) <|
  lq_oc (lq_n_iadd (by decide +kernel)) <|
  lq_oc (lq_n_iaload (by decide +kernel)) <|
  lq_oc (lq_n_virtual (M' := M_X5_plank) (idx := 13) (n := 2) (ci := 5) (N := 10) (D := RX5) (T := TX5) (by decide +kernel) fn_X5_plank fv_X5_plank rfl rfl l_L_13 ⟨by decide, by decide⟩) <|
  lq_oc (lq_n_aload_n (k := 2) (by decide +kernel)) <|
  lq_oc (lq_n_aload_n (k := 0) (by decide +kernel)) <|
  lq_oc (lq_n_iload_n (k := 3) (by decide +kernel)) <|
  lq_oc (lq_n_iconst (z := 1) (by decide +kernel)) <|
  lq_oc (lq_n_iadd (by decide +kernel)) <|
  lq_oc (lq_n_iaload (by decide +kernel)) <|
  lq_oc (lq_n_aload_n (k := 0) (by decide +kernel)) <|
  lq_oc (lq_n_iload_n (k := 3) (by decide +kernel)) <|
  lq_oc (lq_n_iconst (z := 2) (by decide +kernel)) <|
  lq_oc (lq_n_iadd (by decide +kernel)) <|
  lq_oc (lq_n_iaload (by decide +kernel)) <|
  lq_oc (lq_n_virtual (M' := M_X6_plank) (idx := 17) (n := 2) (ci := 6) (N := 16) (D := RX6) (T := TX6) (by decide +kernel) fn_X6_plank fv_X6_plank rfl rfl l_L_17 ⟨by decide, by decide⟩) <|
  lq_oc (lq_n_ieq (off := 1055) (tgt := 1263) (by decide +kernel) (by decide)) <|
  lq_on
def PL_sawyer (LL : Nat) (xx : Nat → Int32) : nv_Pg := [(213, s_al 1 214), (214, s_al 0 215), (215, s_il 3 216), (216, s_ki (1) 217), (217, s_add 218), (218, s_scr LL xx 219), (219, s_al 0 220), (220, s_il 3 221), (221, s_ki (2) 222), (222, s_add 223), (223, s_scr LL xx 224), (224, s_lcv 5 M_X5_sawyer 2 227), (227, s_al 2 228), (228, s_al 0 229), (229, s_il 3 230), (230, s_ki (1) 231), (231, s_add 232), (232, s_scr LL xx 233), (233, s_al 0 234), (234, s_il 3 235), (235, s_ki (2) 236), (236, s_add 237), (237, s_scr LL xx 238), (238, s_lcv 6 M_X6_sawyer 2 241), (241, s_ieq 1263)]
set_option maxRecDepth 100000 in
set_option maxHeartbeats 4000000 in
theorem okL_sawyer : lq_okP PL_sawyer := fun X bb LL xx =>
  lq_oc (lq_n_aload_n (k := 1) (by decide +kernel)) <|
  lq_oc (lq_n_aload_n (k := 0) (by decide +kernel)) <|
  lq_oc (lq_n_iload_n (k := 3) (by decide +kernel)) <|
  lq_oc (lq_n_iconst (z := 1) (by decide +kernel)) <|
  lq_oc (lq_n_iadd (by decide +kernel)) <|
  lq_oc (lq_n_iaload (by decide +kernel)) <|
  lq_oc (lq_n_aload_n (k := 0) (by decide +kernel)) <|
  lq_oc (lq_n_iload_n (k := 3) (by decide +kernel)) <|
  lq_oc (lq_n_iconst (z := 2) (by decide +kernel)) <|
  lq_oc (lq_n_iadd (by decide +kernel)) <|
  lq_oc (lq_n_iaload (by decide +kernel)) <|
  lq_oc (lq_n_virtual (M' := M_X5_sawyer) (idx := 18) (n := 2) (ci := 5) (N := 10) (D := RX5) (T := TX5) (by decide +kernel) fn_X5_sawyer fv_X5_sawyer rfl rfl l_L_18 ⟨by decide, by decide⟩) <|
  lq_oc (lq_n_aload_n (k := 2) (by decide +kernel)) <|
  lq_oc (lq_n_aload_n (k := 0) (by decide +kernel)) <|
  lq_oc (lq_n_iload_n (k := 3) (by decide +kernel)) <|
  lq_oc (lq_n_iconst (z := 1) (by decide +kernel)) <|
  lq_oc (lq_n_iadd (by decide +kernel)) <|
  lq_oc (lq_n_iaload (by decide +kernel)) <|
  lq_oc (lq_n_aload_n (k := 0) (by decide +kernel)) <|
  lq_oc (lq_n_iload_n (k := 3) (by decide +kernel)) <|
  lq_oc (lq_n_iconst (z := 2) (by decide +kernel)) <|
  lq_oc (lq_n_iadd (by decide +kernel)) <|
  lq_oc (lq_n_iaload (by decide +kernel)) <|
  lq_oc (lq_n_virtual (M' := M_X6_sawyer) (idx := 21) (n := 2) (ci := 6) (N := 16) (D := RX6) (T := TX6) (by decide +kernel) fn_X6_sawyer fv_X6_sawyer rfl rfl l_L_21 ⟨by decide, by decide⟩) <|
  lq_oc (lq_n_ieq (off := 1022) (tgt := 1263) (by decide +kernel) (by decide)) <|
  lq_on
def PL_of (LL : Nat) (xx : Nat → Int32) : nv_Pg := [(246, s_al 1 247), (247, s_al 0 248), (248, s_il 3 249), (249, s_ki (1) 250), (250, s_add 251), (251, s_scr LL xx 252), (252, s_al 0 253), (253, s_il 3 254), (254, s_ki (2) 255), (255, s_add 256), (256, s_scr LL xx 257), (257, s_lcv 5 M_X5_of 2 260), (260, s_al 2 261), (261, s_al 0 262), (262, s_il 3 263), (263, s_ki (1) 264), (264, s_add 265), (265, s_scr LL xx 266), (266, s_al 0 267), (267, s_il 3 268), (268, s_ki (2) 269), (269, s_add 270), (270, s_scr LL xx 271), (271, s_lcv 6 M_X6_of 2 274), (274, s_ieq 1263)]
set_option maxRecDepth 100000 in
set_option maxHeartbeats 4000000 in
theorem okL_of : lq_okP PL_of := fun X bb LL xx =>
  lq_oc (lq_n_aload_n (k := 1) (by decide +kernel)) <|
  lq_oc (lq_n_aload_n (k := 0) (by decide +kernel)) <|
  lq_oc (lq_n_iload_n (k := 3) (by decide +kernel)) <|
  lq_oc (lq_n_iconst (z := 1) (by decide +kernel)) <|
  lq_oc (lq_n_iadd (by decide +kernel)) <|
  lq_oc (lq_n_iaload (by decide +kernel)) <|
  lq_oc (lq_n_aload_n (k := 0) (by decide +kernel)) <|
  lq_oc (lq_n_iload_n (k := 3) (by decide +kernel)) <|
  lq_oc (lq_n_iconst (z := 2) (by decide +kernel)) <|
  lq_oc (lq_n_iadd (by decide +kernel)) <|
  lq_oc (lq_n_iaload (by decide +kernel)) <|
  lq_oc (lq_n_virtual (M' := M_X5_of) (idx := 22) (n := 2) (ci := 5) (N := 10) (D := RX5) (T := TX5) (by decide +kernel) fn_X5_of fv_X5_of rfl rfl l_L_22 ⟨by decide, by decide⟩) <|
  lq_oc (lq_n_aload_n (k := 2) (by decide +kernel)) <|
  lq_oc (lq_n_aload_n (k := 0) (by decide +kernel)) <|
  lq_oc (lq_n_iload_n (k := 3) (by decide +kernel)) <|
  lq_oc (lq_n_iconst (z := 1) (by decide +kernel)) <|
  lq_oc (lq_n_iadd (by decide +kernel)) <|
  lq_oc (lq_n_iaload (by decide +kernel)) <|
  lq_oc (lq_n_aload_n (k := 0) (by decide +kernel)) <|
  lq_oc (lq_n_iload_n (k := 3) (by decide +kernel)) <|
  lq_oc (lq_n_iconst (z := 2) (by decide +kernel)) <|
  lq_oc (lq_n_iadd (by decide +kernel)) <|
  lq_oc (lq_n_iaload (by decide +kernel)) <|
  lq_oc (lq_n_virtual (M' := M_X6_of) (idx := 25) (n := 2) (ci := 6) (N := 16) (D := RX6) (T := TX6) (by decide +kernel) fn_X6_of fv_X6_of rfl rfl l_L_25 ⟨by decide, by decide⟩) <|
  lq_oc (lq_n_ieq (off := 989) (tgt := 1263) (by decide +kernel) (by decide)) <|
  lq_on
def PL_at (LL : Nat) (xx : Nat → Int32) : nv_Pg := [(279, s_al 1 280), (280, s_al 0 281), (281, s_il 3 282), (282, s_ki (1) 283), (283, s_add 284), (284, s_scr LL xx 285), (285, s_al 0 286), (286, s_il 3 287), (287, s_ki (2) 288), (288, s_add 289), (289, s_scr LL xx 290), (290, s_lcv 5 M_X5_at 2 293), (293, s_al 2 294), (294, s_al 0 295), (295, s_il 3 296), (296, s_ki (1) 297), (297, s_add 298), (298, s_scr LL xx 299), (299, s_al 0 300), (300, s_il 3 301), (301, s_ki (2) 302), (302, s_add 303), (303, s_scr LL xx 304), (304, s_lcv 6 M_X6_at 2 307), (307, s_ieq 1263)]
set_option maxRecDepth 100000 in
set_option maxHeartbeats 4000000 in
theorem okL_at : lq_okP PL_at := fun X bb LL xx =>
  lq_oc (lq_n_aload_n (k := 1) (by decide +kernel)) <|
  lq_oc (lq_n_aload_n (k := 0) (by decide +kernel)) <|
  lq_oc (lq_n_iload_n (k := 3) (by decide +kernel)) <|
  lq_oc (lq_n_iconst (z := 1) (by decide +kernel)) <|
  lq_oc (lq_n_iadd (by decide +kernel)) <|
  lq_oc (lq_n_iaload (by decide +kernel)) <|
  lq_oc (lq_n_aload_n (k := 0) (by decide +kernel)) <|
  lq_oc (lq_n_iload_n (k := 3) (by decide +kernel)) <|
  lq_oc (lq_n_iconst (z := 2) (by decide +kernel)) <|
  lq_oc (lq_n_iadd (by decide +kernel)) <|
  lq_oc (lq_n_iaload (by decide +kernel)) <|
  lq_oc (lq_n_virtual (M' := M_X5_at) (idx := 26) (n := 2) (ci := 5) (N := 10) (D := RX5) (T := TX5) (by decide +kernel) fn_X5_at fv_X5_at rfl rfl l_L_26 ⟨by decide, by decide⟩) <|
  lq_oc (lq_n_aload_n (k := 2) (by decide +kernel)) <|
  lq_oc (lq_n_aload_n (k := 0) (by decide +kernel)) <|
  lq_oc (lq_n_iload_n (k := 3) (by decide +kernel)) <|
  lq_oc (lq_n_iconst (z := 1) (by decide +kernel)) <|
  lq_oc (lq_n_iadd (by decide +kernel)) <|
  lq_oc (lq_n_iaload (by decide +kernel)) <|
  lq_oc (lq_n_aload_n (k := 0) (by decide +kernel)) <|
  lq_oc (lq_n_iload_n (k := 3) (by decide +kernel)) <|
  lq_oc (lq_n_iconst (z := 2) (by decide +kernel)) <|
  lq_oc (lq_n_iadd (by decide +kernel)) <|
  lq_oc (lq_n_iaload (by decide +kernel)) <|
  lq_oc (lq_n_virtual (M' := M_X6_at) (idx := 29) (n := 2) (ci := 6) (N := 16) (D := RX6) (T := TX6) (by decide +kernel) fn_X6_at fv_X6_at rfl rfl l_L_29 ⟨by decide, by decide⟩) <|
  lq_oc (lq_n_ieq (off := 956) (tgt := 1263) (by decide +kernel) (by decide)) <|
  lq_on
def PL_type (LL : Nat) (xx : Nat → Int32) : nv_Pg := [(312, s_al 1 313), (313, s_al 0 314), (314, s_il 3 315), (315, s_ki (1) 316), (316, s_add 317), (317, s_scr LL xx 318), (318, s_lcv 5 M_X5_type 1 321), (321, s_al 2 322), (322, s_al 0 323), (323, s_il 3 324), (324, s_ki (1) 325), (325, s_add 326), (326, s_scr LL xx 327), (327, s_lcv 6 M_X6_type 1 330), (330, s_ieq 1263)]
set_option maxRecDepth 100000 in
set_option maxHeartbeats 4000000 in
theorem okL_type : lq_okP PL_type := fun X bb LL xx =>
  lq_oc (lq_n_aload_n (k := 1) (by decide +kernel)) <|
  lq_oc (lq_n_aload_n (k := 0) (by decide +kernel)) <|
  lq_oc (lq_n_iload_n (k := 3) (by decide +kernel)) <|
  lq_oc (lq_n_iconst (z := 1) (by decide +kernel)) <|
  lq_oc (lq_n_iadd (by decide +kernel)) <|
  lq_oc (lq_n_iaload (by decide +kernel)) <|
  lq_oc (lq_n_virtual (M' := M_X5_type) (idx := 30) (n := 1) (ci := 5) (N := 10) (D := RX5) (T := TX5) (by decide +kernel) fn_X5_type fv_X5_type rfl rfl l_L_30 ⟨by decide, by decide⟩) <|
  lq_oc (lq_n_aload_n (k := 2) (by decide +kernel)) <|
  lq_oc (lq_n_aload_n (k := 0) (by decide +kernel)) <|
  lq_oc (lq_n_iload_n (k := 3) (by decide +kernel)) <|
  lq_oc (lq_n_iconst (z := 1) (by decide +kernel)) <|
  lq_oc (lq_n_iadd (by decide +kernel)) <|
  lq_oc (lq_n_iaload (by decide +kernel)) <|
  lq_oc (lq_n_virtual (M' := M_X6_type) (idx := 34) (n := 1) (ci := 6) (N := 16) (D := RX6) (T := TX6) (by decide +kernel) fn_X6_type fv_X6_type rfl rfl l_L_34 ⟨by decide, by decide⟩) <|
  lq_oc (lq_n_ieq (off := 933) (tgt := 1263) (by decide +kernel) (by decide)) <|
  lq_on
def PL_read (LL : Nat) (xx : Nat → Int32) : nv_Pg := [(335, s_al 1 336), (336, s_lcv 5 M_X5_read 0 339), (339, s_al 2 340), (340, s_lcv 6 M_X6_read 0 343), (343, s_ieq 1263)]
set_option maxRecDepth 100000 in
set_option maxHeartbeats 4000000 in
theorem okL_read : lq_okP PL_read := fun X bb LL xx =>
  lq_oc (lq_n_aload_n (k := 1) (by decide +kernel)) <|
  lq_oc (lq_n_virtual (M' := M_X5_read) (idx := 35) (n := 0) (ci := 5) (N := 10) (D := RX5) (T := TX5) (by decide +kernel) fn_X5_read fv_X5_read rfl rfl l_L_35 ⟨by decide, by decide⟩) <|
  lq_oc (lq_n_aload_n (k := 2) (by decide +kernel)) <|
  lq_oc (lq_n_virtual (M' := M_X6_read) (idx := 39) (n := 0) (ci := 6) (N := 16) (D := RX6) (T := TX6) (by decide +kernel) fn_X6_read fv_X6_read rfl rfl l_L_39 ⟨by decide, by decide⟩) <|
  lq_oc (lq_n_ieq (off := 920) (tgt := 1263) (by decide +kernel) (by decide)) <|
  lq_on
def PL_count (LL : Nat) (xx : Nat → Int32) : nv_Pg := [(348, s_al 1 349), (349, s_al 0 350), (350, s_il 3 351), (351, s_ki (1) 352), (352, s_add 353), (353, s_scr LL xx 354), (354, s_lcv 5 M_X5_count 1 357), (357, s_al 2 358), (358, s_al 0 359), (359, s_il 3 360), (360, s_ki (1) 361), (361, s_add 362), (362, s_scr LL xx 363), (363, s_lcv 6 M_X6_count 1 366), (366, s_ieq 1263)]
set_option maxRecDepth 100000 in
set_option maxHeartbeats 4000000 in
theorem okL_count : lq_okP PL_count := fun X bb LL xx =>
  lq_oc (lq_n_aload_n (k := 1) (by decide +kernel)) <|
  lq_oc (lq_n_aload_n (k := 0) (by decide +kernel)) <|
  lq_oc (lq_n_iload_n (k := 3) (by decide +kernel)) <|
  lq_oc (lq_n_iconst (z := 1) (by decide +kernel)) <|
  lq_oc (lq_n_iadd (by decide +kernel)) <|
  lq_oc (lq_n_iaload (by decide +kernel)) <|
  lq_oc (lq_n_virtual (M' := M_X5_count) (idx := 40) (n := 1) (ci := 5) (N := 10) (D := RX5) (T := TX5) (by decide +kernel) fn_X5_count fv_X5_count rfl rfl l_L_40 ⟨by decide, by decide⟩) <|
  lq_oc (lq_n_aload_n (k := 2) (by decide +kernel)) <|
  lq_oc (lq_n_aload_n (k := 0) (by decide +kernel)) <|
  lq_oc (lq_n_iload_n (k := 3) (by decide +kernel)) <|
  lq_oc (lq_n_iconst (z := 1) (by decide +kernel)) <|
  lq_oc (lq_n_iadd (by decide +kernel)) <|
  lq_oc (lq_n_iaload (by decide +kernel)) <|
  lq_oc (lq_n_virtual (M' := M_X6_count) (idx := 43) (n := 1) (ci := 6) (N := 16) (D := RX6) (T := TX6) (by decide +kernel) fn_X6_count fv_X6_count rfl rfl l_L_43 ⟨by decide, by decide⟩) <|
  lq_oc (lq_n_ieq (off := 897) (tgt := 1263) (by decide +kernel) (by decide)) <|
  lq_on
def PL_hours (LL : Nat) (xx : Nat → Int32) : nv_Pg := [(371, s_al 1 372), (372, s_al 0 373), (373, s_il 3 374), (374, s_ki (1) 375), (375, s_add 376), (376, s_scr LL xx 377), (377, s_lcv 5 M_X5_hours 1 380), (380, s_al 2 381), (381, s_al 0 382), (382, s_il 3 383), (383, s_ki (1) 384), (384, s_add 385), (385, s_scr LL xx 386), (386, s_lcv 6 M_X6_hours 1 389), (389, s_ieq 1263)]
set_option maxRecDepth 100000 in
set_option maxHeartbeats 4000000 in
theorem okL_hours : lq_okP PL_hours := fun X bb LL xx =>
  lq_oc (lq_n_aload_n (k := 1) (by decide +kernel)) <|
  lq_oc (lq_n_aload_n (k := 0) (by decide +kernel)) <|
  lq_oc (lq_n_iload_n (k := 3) (by decide +kernel)) <|
  lq_oc (lq_n_iconst (z := 1) (by decide +kernel)) <|
  lq_oc (lq_n_iadd (by decide +kernel)) <|
  lq_oc (lq_n_iaload (by decide +kernel)) <|
  lq_oc (lq_n_virtual (M' := M_X5_hours) (idx := 44) (n := 1) (ci := 5) (N := 10) (D := RX5) (T := TX5) (by decide +kernel) fn_X5_hours fv_X5_hours rfl rfl l_L_44 ⟨by decide, by decide⟩) <|
  lq_oc (lq_n_aload_n (k := 2) (by decide +kernel)) <|
  lq_oc (lq_n_aload_n (k := 0) (by decide +kernel)) <|
  lq_oc (lq_n_iload_n (k := 3) (by decide +kernel)) <|
  lq_oc (lq_n_iconst (z := 1) (by decide +kernel)) <|
  lq_oc (lq_n_iadd (by decide +kernel)) <|
  lq_oc (lq_n_iaload (by decide +kernel)) <|
  lq_oc (lq_n_virtual (M' := M_X6_hours) (idx := 47) (n := 1) (ci := 6) (N := 16) (D := RX6) (T := TX6) (by decide +kernel) fn_X6_hours fv_X6_hours rfl rfl l_L_47 ⟨by decide, by decide⟩) <|
  lq_oc (lq_n_ieq (off := 874) (tgt := 1263) (by decide +kernel) (by decide)) <|
  lq_on
def PL_set (LL : Nat) (xx : Nat → Int32) : nv_Pg := [(394, s_al 1 395), (395, s_al 0 396), (396, s_il 3 397), (397, s_ki (1) 398), (398, s_add 399), (399, s_scr LL xx 400), (400, s_al 0 401), (401, s_il 3 402), (402, s_ki (2) 403), (403, s_add 404), (404, s_scr LL xx 405), (405, s_lcv 5 M_X5_set 2 408), (408, s_al 2 409), (409, s_al 0 410), (410, s_il 3 411), (411, s_ki (1) 412), (412, s_add 413), (413, s_scr LL xx 414), (414, s_al 0 415), (415, s_il 3 416), (416, s_ki (2) 417), (417, s_add 418), (418, s_scr LL xx 419), (419, s_lcv 6 M_X6_set 2 422), (422, s_ieq 1263)]
set_option maxRecDepth 100000 in
set_option maxHeartbeats 4000000 in
theorem okL_set : lq_okP PL_set := fun X bb LL xx =>
  lq_oc (lq_n_aload_n (k := 1) (by decide +kernel)) <|
  lq_oc (lq_n_aload_n (k := 0) (by decide +kernel)) <|
  lq_oc (lq_n_iload_n (k := 3) (by decide +kernel)) <|
  lq_oc (lq_n_iconst (z := 1) (by decide +kernel)) <|
  lq_oc (lq_n_iadd (by decide +kernel)) <|
  lq_oc (lq_n_iaload (by decide +kernel)) <|
  lq_oc (lq_n_aload_n (k := 0) (by decide +kernel)) <|
  lq_oc (lq_n_iload_n (k := 3) (by decide +kernel)) <|
  lq_oc (lq_n_iconst (z := 2) (by decide +kernel)) <|
  lq_oc (lq_n_iadd (by decide +kernel)) <|
  lq_oc (lq_n_iaload (by decide +kernel)) <|
  lq_oc (lq_n_virtual (M' := M_X5_set) (idx := 48) (n := 2) (ci := 5) (N := 10) (D := RX5) (T := TX5) (by decide +kernel) fn_X5_set fv_X5_set rfl rfl l_L_48 ⟨by decide, by decide⟩) <|
  lq_oc (lq_n_aload_n (k := 2) (by decide +kernel)) <|
  lq_oc (lq_n_aload_n (k := 0) (by decide +kernel)) <|
  lq_oc (lq_n_iload_n (k := 3) (by decide +kernel)) <|
  lq_oc (lq_n_iconst (z := 1) (by decide +kernel)) <|
  lq_oc (lq_n_iadd (by decide +kernel)) <|
  lq_oc (lq_n_iaload (by decide +kernel)) <|
  lq_oc (lq_n_aload_n (k := 0) (by decide +kernel)) <|
  lq_oc (lq_n_iload_n (k := 3) (by decide +kernel)) <|
  lq_oc (lq_n_iconst (z := 2) (by decide +kernel)) <|
  lq_oc (lq_n_iadd (by decide +kernel)) <|
  lq_oc (lq_n_iaload (by decide +kernel)) <|
  lq_oc (lq_n_virtual (M' := M_X6_set) (idx := 51) (n := 2) (ci := 6) (N := 16) (D := RX6) (T := TX6) (by decide +kernel) fn_X6_set fv_X6_set rfl rfl l_L_51 ⟨by decide, by decide⟩) <|
  lq_oc (lq_n_ieq (off := 841) (tgt := 1263) (by decide +kernel) (by decide)) <|
  lq_on
def PL_sharpen (LL : Nat) (xx : Nat → Int32) : nv_Pg := [(427, s_al 1 428), (428, s_al 0 429), (429, s_il 3 430), (430, s_ki (1) 431), (431, s_add 432), (432, s_scr LL xx 433), (433, s_al 0 434), (434, s_il 3 435), (435, s_ki (2) 436), (436, s_add 437), (437, s_scr LL xx 438), (438, s_lcv 5 M_X5_sharpen 2 441), (441, s_al 2 442), (442, s_al 0 443), (443, s_il 3 444), (444, s_ki (1) 445), (445, s_add 446), (446, s_scr LL xx 447), (447, s_al 0 448), (448, s_il 3 449), (449, s_ki (2) 450), (450, s_add 451), (451, s_scr LL xx 452), (452, s_lcv 6 M_X6_sharpen 2 455), (455, s_ieq 1263)]
set_option maxRecDepth 100000 in
set_option maxHeartbeats 4000000 in
theorem okL_sharpen : lq_okP PL_sharpen := fun X bb LL xx =>
  lq_oc (lq_n_aload_n (k := 1) (by decide +kernel)) <|
  lq_oc (lq_n_aload_n (k := 0) (by decide +kernel)) <|
  lq_oc (lq_n_iload_n (k := 3) (by decide +kernel)) <|
  lq_oc (lq_n_iconst (z := 1) (by decide +kernel)) <|
  lq_oc (lq_n_iadd (by decide +kernel)) <|
  lq_oc (lq_n_iaload (by decide +kernel)) <|
  lq_oc (lq_n_aload_n (k := 0) (by decide +kernel)) <|
  lq_oc (lq_n_iload_n (k := 3) (by decide +kernel)) <|
  lq_oc (lq_n_iconst (z := 2) (by decide +kernel)) <|
  lq_oc (lq_n_iadd (by decide +kernel)) <|
  lq_oc (lq_n_iaload (by decide +kernel)) <|
  lq_oc (lq_n_virtual (M' := M_X5_sharpen) (idx := 52) (n := 2) (ci := 5) (N := 10) (D := RX5) (T := TX5) (by decide +kernel) fn_X5_sharpen fv_X5_sharpen rfl rfl l_L_52 ⟨by decide, by decide⟩) <|
  lq_oc (lq_n_aload_n (k := 2) (by decide +kernel)) <|
  lq_oc (lq_n_aload_n (k := 0) (by decide +kernel)) <|
  lq_oc (lq_n_iload_n (k := 3) (by decide +kernel)) <|
  lq_oc (lq_n_iconst (z := 1) (by decide +kernel)) <|
  lq_oc (lq_n_iadd (by decide +kernel)) <|
  lq_oc (lq_n_iaload (by decide +kernel)) <|
  lq_oc (lq_n_aload_n (k := 0) (by decide +kernel)) <|
  lq_oc (lq_n_iload_n (k := 3) (by decide +kernel)) <|
  lq_oc (lq_n_iconst (z := 2) (by decide +kernel)) <|
  lq_oc (lq_n_iadd (by decide +kernel)) <|
  lq_oc (lq_n_iaload (by decide +kernel)) <|
  lq_oc (lq_n_virtual (M' := M_X6_sharpen) (idx := 55) (n := 2) (ci := 6) (N := 16) (D := RX6) (T := TX6) (by decide +kernel) fn_X6_sharpen fv_X6_sharpen rfl rfl l_L_55 ⟨by decide, by decide⟩) <|
  lq_oc (lq_n_ieq (off := 808) (tgt := 1263) (by decide +kernel) (by decide)) <|
  lq_on
def PL_soak (LL : Nat) (xx : Nat → Int32) : nv_Pg := [(460, s_al 1 461), (461, s_al 0 462), (462, s_il 3 463), (463, s_ki (1) 464), (464, s_add 465), (465, s_scr LL xx 466), (466, s_al 0 467), (467, s_il 3 468), (468, s_ki (2) 469), (469, s_add 470), (470, s_scr LL xx 471), (471, s_lcv 5 M_X5_soak 2 474), (474, s_al 2 475), (475, s_al 0 476), (476, s_il 3 477), (477, s_ki (1) 478), (478, s_add 479), (479, s_scr LL xx 480), (480, s_al 0 481), (481, s_il 3 482), (482, s_ki (2) 483), (483, s_add 484), (484, s_scr LL xx 485), (485, s_lcv 6 M_X6_soak 2 488), (488, s_ieq 1263)]
set_option maxRecDepth 100000 in
set_option maxHeartbeats 4000000 in
theorem okL_soak : lq_okP PL_soak := fun X bb LL xx =>
  lq_oc (lq_n_aload_n (k := 1) (by decide +kernel)) <|
  lq_oc (lq_n_aload_n (k := 0) (by decide +kernel)) <|
  lq_oc (lq_n_iload_n (k := 3) (by decide +kernel)) <|
  lq_oc (lq_n_iconst (z := 1) (by decide +kernel)) <|
  lq_oc (lq_n_iadd (by decide +kernel)) <|
  lq_oc (lq_n_iaload (by decide +kernel)) <|
  lq_oc (lq_n_aload_n (k := 0) (by decide +kernel)) <|
  lq_oc (lq_n_iload_n (k := 3) (by decide +kernel)) <|
  lq_oc (lq_n_iconst (z := 2) (by decide +kernel)) <|
  lq_oc (lq_n_iadd (by decide +kernel)) <|
  lq_oc (lq_n_iaload (by decide +kernel)) <|
  lq_oc (lq_n_virtual (M' := M_X5_soak) (idx := 56) (n := 2) (ci := 5) (N := 10) (D := RX5) (T := TX5) (by decide +kernel) fn_X5_soak fv_X5_soak rfl rfl l_L_56 ⟨by decide, by decide⟩) <|
  lq_oc (lq_n_aload_n (k := 2) (by decide +kernel)) <|
  lq_oc (lq_n_aload_n (k := 0) (by decide +kernel)) <|
  lq_oc (lq_n_iload_n (k := 3) (by decide +kernel)) <|
  lq_oc (lq_n_iconst (z := 1) (by decide +kernel)) <|
  lq_oc (lq_n_iadd (by decide +kernel)) <|
  lq_oc (lq_n_iaload (by decide +kernel)) <|
  lq_oc (lq_n_aload_n (k := 0) (by decide +kernel)) <|
  lq_oc (lq_n_iload_n (k := 3) (by decide +kernel)) <|
  lq_oc (lq_n_iconst (z := 2) (by decide +kernel)) <|
  lq_oc (lq_n_iadd (by decide +kernel)) <|
  lq_oc (lq_n_iaload (by decide +kernel)) <|
  lq_oc (lq_n_virtual (M' := M_X6_soak) (idx := 59) (n := 2) (ci := 6) (N := 16) (D := RX6) (T := TX6) (by decide +kernel) fn_X6_soak fv_X6_soak rfl rfl l_L_59 ⟨by decide, by decide⟩) <|
  lq_oc (lq_n_ieq (off := 775) (tgt := 1263) (by decide +kernel) (by decide)) <|
  lq_on
def PL_drift (LL : Nat) (xx : Nat → Int32) : nv_Pg := [(493, s_al 1 494), (494, s_al 0 495), (495, s_il 3 496), (496, s_ki (1) 497), (497, s_add 498), (498, s_scr LL xx 499), (499, s_lcv 5 M_X5_drift 1 502), (502, s_al 2 503), (503, s_al 0 504), (504, s_il 3 505), (505, s_ki (1) 506), (506, s_add 507), (507, s_scr LL xx 508), (508, s_lcv 6 M_X6_drift 1 511), (511, s_ieq 1263)]
set_option maxRecDepth 100000 in
set_option maxHeartbeats 4000000 in
theorem okL_drift : lq_okP PL_drift := fun X bb LL xx =>
  lq_oc (lq_n_aload_n (k := 1) (by decide +kernel)) <|
  lq_oc (lq_n_aload_n (k := 0) (by decide +kernel)) <|
  lq_oc (lq_n_iload_n (k := 3) (by decide +kernel)) <|
  lq_oc (lq_n_iconst (z := 1) (by decide +kernel)) <|
  lq_oc (lq_n_iadd (by decide +kernel)) <|
  lq_oc (lq_n_iaload (by decide +kernel)) <|
  lq_oc (lq_n_virtual (M' := M_X5_drift) (idx := 60) (n := 1) (ci := 5) (N := 10) (D := RX5) (T := TX5) (by decide +kernel) fn_X5_drift fv_X5_drift rfl rfl l_L_60 ⟨by decide, by decide⟩) <|
  lq_oc (lq_n_aload_n (k := 2) (by decide +kernel)) <|
  lq_oc (lq_n_aload_n (k := 0) (by decide +kernel)) <|
  lq_oc (lq_n_iload_n (k := 3) (by decide +kernel)) <|
  lq_oc (lq_n_iconst (z := 1) (by decide +kernel)) <|
  lq_oc (lq_n_iadd (by decide +kernel)) <|
  lq_oc (lq_n_iaload (by decide +kernel)) <|
  lq_oc (lq_n_virtual (M' := M_X6_drift) (idx := 63) (n := 1) (ci := 6) (N := 16) (D := RX6) (T := TX6) (by decide +kernel) fn_X6_drift fv_X6_drift rfl rfl l_L_63 ⟨by decide, by decide⟩) <|
  lq_oc (lq_n_ieq (off := 752) (tgt := 1263) (by decide +kernel) (by decide)) <|
  lq_on
def PL_undo (LL : Nat) (xx : Nat → Int32) : nv_Pg := [(516, s_al 1 517), (517, s_lcv 5 M_X5_undo 0 520), (520, s_al 2 521), (521, s_lcv 6 M_X6_undo 0 524), (524, s_ieq 1263)]
set_option maxRecDepth 100000 in
set_option maxHeartbeats 4000000 in
theorem okL_undo : lq_okP PL_undo := fun X bb LL xx =>
  lq_oc (lq_n_aload_n (k := 1) (by decide +kernel)) <|
  lq_oc (lq_n_virtual (M' := M_X5_undo) (idx := 64) (n := 0) (ci := 5) (N := 10) (D := RX5) (T := TX5) (by decide +kernel) fn_X5_undo fv_X5_undo rfl rfl l_L_64 ⟨by decide, by decide⟩) <|
  lq_oc (lq_n_aload_n (k := 2) (by decide +kernel)) <|
  lq_oc (lq_n_virtual (M' := M_X6_undo) (idx := 67) (n := 0) (ci := 6) (N := 16) (D := RX6) (T := TX6) (by decide +kernel) fn_X6_undo fv_X6_undo rfl rfl l_L_67 ⟨by decide, by decide⟩) <|
  lq_oc (lq_n_ieq (off := 739) (tgt := 1263) (by decide +kernel) (by decide)) <|
  lq_on
def PL_seed (LL : Nat) (xx : Nat → Int32) : nv_Pg := [(529, s_al 1 530), (530, s_al 0 531), (531, s_il 3 532), (532, s_ki (1) 533), (533, s_add 534), (534, s_scr LL xx 535), (535, s_lcv 5 M_X5_seed 1 538), (538, s_al 2 539), (539, s_al 0 540), (540, s_il 3 541), (541, s_ki (1) 542), (542, s_add 543), (543, s_scr LL xx 544), (544, s_lcv 6 M_X6_seed 1 547), (547, s_ieq 1263)]
set_option maxRecDepth 100000 in
set_option maxHeartbeats 4000000 in
theorem okL_seed : lq_okP PL_seed := fun X bb LL xx =>
  lq_oc (lq_n_aload_n (k := 1) (by decide +kernel)) <|
  lq_oc (lq_n_aload_n (k := 0) (by decide +kernel)) <|
  lq_oc (lq_n_iload_n (k := 3) (by decide +kernel)) <|
  lq_oc (lq_n_iconst (z := 1) (by decide +kernel)) <|
  lq_oc (lq_n_iadd (by decide +kernel)) <|
  lq_oc (lq_n_iaload (by decide +kernel)) <|
  lq_oc (lq_n_virtual (M' := M_X5_seed) (idx := 68) (n := 1) (ci := 5) (N := 10) (D := RX5) (T := TX5) (by decide +kernel) fn_X5_seed fv_X5_seed rfl rfl l_L_68 ⟨by decide, by decide⟩) <|
  lq_oc (lq_n_aload_n (k := 2) (by decide +kernel)) <|
  lq_oc (lq_n_aload_n (k := 0) (by decide +kernel)) <|
  lq_oc (lq_n_iload_n (k := 3) (by decide +kernel)) <|
  lq_oc (lq_n_iconst (z := 1) (by decide +kernel)) <|
  lq_oc (lq_n_iadd (by decide +kernel)) <|
  lq_oc (lq_n_iaload (by decide +kernel)) <|
  lq_oc (lq_n_virtual (M' := M_X6_seed) (idx := 71) (n := 1) (ci := 6) (N := 16) (D := RX6) (T := TX6) (by decide +kernel) fn_X6_seed fv_X6_seed rfl rfl l_L_71 ⟨by decide, by decide⟩) <|
  lq_oc (lq_n_ieq (off := 716) (tgt := 1263) (by decide +kernel) (by decide)) <|
  lq_on
def PL_left (LL : Nat) (xx : Nat → Int32) : nv_Pg := [(552, s_al 1 553), (553, s_al 0 554), (554, s_il 3 555), (555, s_ki (1) 556), (556, s_add 557), (557, s_scr LL xx 558), (558, s_al 0 559), (559, s_il 3 560), (560, s_ki (2) 561), (561, s_add 562), (562, s_scr LL xx 563), (563, s_lcv 5 M_X5_left 2 566), (566, s_al 2 567), (567, s_al 0 568), (568, s_il 3 569), (569, s_ki (1) 570), (570, s_add 571), (571, s_scr LL xx 572), (572, s_al 0 573), (573, s_il 3 574), (574, s_ki (2) 575), (575, s_add 576), (576, s_scr LL xx 577), (577, s_lcv 6 M_X6_left 2 580), (580, s_ieq 1263)]
set_option maxRecDepth 100000 in
set_option maxHeartbeats 4000000 in
theorem okL_left : lq_okP PL_left := fun X bb LL xx =>
  lq_oc (lq_n_aload_n (k := 1) (by decide +kernel)) <|
  lq_oc (lq_n_aload_n (k := 0) (by decide +kernel)) <|
  lq_oc (lq_n_iload_n (k := 3) (by decide +kernel)) <|
  lq_oc (lq_n_iconst (z := 1) (by decide +kernel)) <|
  lq_oc (lq_n_iadd (by decide +kernel)) <|
  lq_oc (lq_n_iaload (by decide +kernel)) <|
  lq_oc (lq_n_aload_n (k := 0) (by decide +kernel)) <|
  lq_oc (lq_n_iload_n (k := 3) (by decide +kernel)) <|
  lq_oc (lq_n_iconst (z := 2) (by decide +kernel)) <|
  lq_oc (lq_n_iadd (by decide +kernel)) <|
  lq_oc (lq_n_iaload (by decide +kernel)) <|
  lq_oc (lq_n_virtual (M' := M_X5_left) (idx := 72) (n := 2) (ci := 5) (N := 10) (D := RX5) (T := TX5) (by decide +kernel) fn_X5_left fv_X5_left rfl rfl l_L_72 ⟨by decide, by decide⟩) <|
  lq_oc (lq_n_aload_n (k := 2) (by decide +kernel)) <|
  lq_oc (lq_n_aload_n (k := 0) (by decide +kernel)) <|
  lq_oc (lq_n_iload_n (k := 3) (by decide +kernel)) <|
  lq_oc (lq_n_iconst (z := 1) (by decide +kernel)) <|
  lq_oc (lq_n_iadd (by decide +kernel)) <|
  lq_oc (lq_n_iaload (by decide +kernel)) <|
  lq_oc (lq_n_aload_n (k := 0) (by decide +kernel)) <|
  lq_oc (lq_n_iload_n (k := 3) (by decide +kernel)) <|
  lq_oc (lq_n_iconst (z := 2) (by decide +kernel)) <|
  lq_oc (lq_n_iadd (by decide +kernel)) <|
  lq_oc (lq_n_iaload (by decide +kernel)) <|
  lq_oc (lq_n_virtual (M' := M_X6_left) (idx := 75) (n := 2) (ci := 6) (N := 16) (D := RX6) (T := TX6) (by decide +kernel) fn_X6_left fv_X6_left rfl rfl l_L_75 ⟨by decide, by decide⟩) <|
  lq_oc (lq_n_ieq (off := 683) (tgt := 1263) (by decide +kernel) (by decide)) <|
  lq_on
def PL_ahead (LL : Nat) (xx : Nat → Int32) : nv_Pg := [(585, s_al 1 586), (586, s_al 0 587), (587, s_il 3 588), (588, s_ki (1) 589), (589, s_add 590), (590, s_scr LL xx 591), (591, s_al 0 592), (592, s_il 3 593), (593, s_ki (2) 594), (594, s_add 595), (595, s_scr LL xx 596), (596, s_al 0 597), (597, s_il 3 598), (598, s_ki (3) 599), (599, s_add 600), (600, s_scr LL xx 601), (601, s_lcv 5 M_X5_ahead 3 604), (604, s_al 2 605), (605, s_al 0 606), (606, s_il 3 607), (607, s_ki (1) 608), (608, s_add 609), (609, s_scr LL xx 610), (610, s_al 0 611), (611, s_il 3 612), (612, s_ki (2) 613), (613, s_add 614), (614, s_scr LL xx 615), (615, s_al 0 616), (616, s_il 3 617), (617, s_ki (3) 618), (618, s_add 619), (619, s_scr LL xx 620), (620, s_lcv 6 M_X6_ahead 3 623), (623, s_ieq 1263)]
set_option maxRecDepth 100000 in
set_option maxHeartbeats 4000000 in
theorem okL_ahead : lq_okP PL_ahead := fun X bb LL xx =>
  lq_oc (lq_n_aload_n (k := 1) (by decide +kernel)) <|
  lq_oc (lq_n_aload_n (k := 0) (by decide +kernel)) <|
  lq_oc (lq_n_iload_n (k := 3) (by decide +kernel)) <|
  lq_oc (lq_n_iconst (z := 1) (by decide +kernel)) <|
  lq_oc (lq_n_iadd (by decide +kernel)) <|
  lq_oc (lq_n_iaload (by decide +kernel)) <|
  lq_oc (lq_n_aload_n (k := 0) (by decide +kernel)) <|
  lq_oc (lq_n_iload_n (k := 3) (by decide +kernel)) <|
  lq_oc (lq_n_iconst (z := 2) (by decide +kernel)) <|
  lq_oc (lq_n_iadd (by decide +kernel)) <|
  lq_oc (lq_n_iaload (by decide +kernel)) <|
  lq_oc (lq_n_aload_n (k := 0) (by decide +kernel)) <|
  lq_oc (lq_n_iload_n (k := 3) (by decide +kernel)) <|
  lq_oc (lq_n_iconst (z := 3) (by decide +kernel)) <|
  lq_oc (lq_n_iadd (by decide +kernel)) <|
  lq_oc (lq_n_iaload (by decide +kernel)) <|
  lq_oc (lq_n_virtual (M' := M_X5_ahead) (idx := 76) (n := 3) (ci := 5) (N := 10) (D := RX5) (T := TX5) (by decide +kernel) fn_X5_ahead fv_X5_ahead rfl rfl l_L_76 ⟨by decide, by decide⟩) <|
  lq_oc (lq_n_aload_n (k := 2) (by decide +kernel)) <|
  lq_oc (lq_n_aload_n (k := 0) (by decide +kernel)) <|
  lq_oc (lq_n_iload_n (k := 3) (by decide +kernel)) <|
  lq_oc (lq_n_iconst (z := 1) (by decide +kernel)) <|
  lq_oc (lq_n_iadd (by decide +kernel)) <|
  lq_oc (lq_n_iaload (by decide +kernel)) <|
  lq_oc (lq_n_aload_n (k := 0) (by decide +kernel)) <|
  lq_oc (lq_n_iload_n (k := 3) (by decide +kernel)) <|
  lq_oc (lq_n_iconst (z := 2) (by decide +kernel)) <|
  lq_oc (lq_n_iadd (by decide +kernel)) <|
  lq_oc (lq_n_iaload (by decide +kernel)) <|
  lq_oc (lq_n_aload_n (k := 0) (by decide +kernel)) <|
  lq_oc (lq_n_iload_n (k := 3) (by decide +kernel)) <|
  lq_oc (lq_n_iconst (z := 3) (by decide +kernel)) <|
  lq_oc (lq_n_iadd (by decide +kernel)) <|
  lq_oc (lq_n_iaload (by decide +kernel)) <|
  lq_oc (lq_n_virtual (M' := M_X6_ahead) (idx := 80) (n := 3) (ci := 6) (N := 16) (D := RX6) (T := TX6) (by decide +kernel) fn_X6_ahead fv_X6_ahead rfl rfl l_L_80 ⟨by decide, by decide⟩) <|
  lq_oc (lq_n_ieq (off := 640) (tgt := 1263) (by decide +kernel) (by decide)) <|
  lq_on
def PL_then (LL : Nat) (xx : Nat → Int32) : nv_Pg := [(628, s_al 1 629), (629, s_al 0 630), (630, s_il 3 631), (631, s_ki (1) 632), (632, s_add 633), (633, s_scr LL xx 634), (634, s_lcv 5 M_X5_then 1 637), (637, s_al 2 638), (638, s_al 0 639), (639, s_il 3 640), (640, s_ki (1) 641), (641, s_add 642), (642, s_scr LL xx 643), (643, s_lcv 6 M_X6_then 1 646), (646, s_ieq 1263)]
set_option maxRecDepth 100000 in
set_option maxHeartbeats 4000000 in
theorem okL_then : lq_okP PL_then := fun X bb LL xx =>
  lq_oc (lq_n_aload_n (k := 1) (by decide +kernel)) <|
  lq_oc (lq_n_aload_n (k := 0) (by decide +kernel)) <|
  lq_oc (lq_n_iload_n (k := 3) (by decide +kernel)) <|
  lq_oc (lq_n_iconst (z := 1) (by decide +kernel)) <|
  lq_oc (lq_n_iadd (by decide +kernel)) <|
  lq_oc (lq_n_iaload (by decide +kernel)) <|
  lq_oc (lq_n_virtual (M' := M_X5_then) (idx := 81) (n := 1) (ci := 5) (N := 10) (D := RX5) (T := TX5) (by decide +kernel) fn_X5_then fv_X5_then rfl rfl l_L_81 ⟨by decide, by decide⟩) <|
  lq_oc (lq_n_aload_n (k := 2) (by decide +kernel)) <|
  lq_oc (lq_n_aload_n (k := 0) (by decide +kernel)) <|
  lq_oc (lq_n_iload_n (k := 3) (by decide +kernel)) <|
  lq_oc (lq_n_iconst (z := 1) (by decide +kernel)) <|
  lq_oc (lq_n_iadd (by decide +kernel)) <|
  lq_oc (lq_n_iaload (by decide +kernel)) <|
  lq_oc (lq_n_virtual (M' := M_X6_then) (idx := 84) (n := 1) (ci := 6) (N := 16) (D := RX6) (T := TX6) (by decide +kernel) fn_X6_then fv_X6_then rfl rfl l_L_84 ⟨by decide, by decide⟩) <|
  lq_oc (lq_n_ieq (off := 617) (tgt := 1263) (by decide +kernel) (by decide)) <|
  lq_on
def PL_falls (LL : Nat) (xx : Nat → Int32) : nv_Pg := [(651, s_al 1 652), (652, s_al 0 653), (653, s_il 3 654), (654, s_ki (1) 655), (655, s_add 656), (656, s_scr LL xx 657), (657, s_lcv 5 M_X5_falls 1 660), (660, s_al 2 661), (661, s_al 0 662), (662, s_il 3 663), (663, s_ki (1) 664), (664, s_add 665), (665, s_scr LL xx 666), (666, s_lcv 6 M_X6_falls 1 669), (669, s_ieq 1263)]
set_option maxRecDepth 100000 in
set_option maxHeartbeats 4000000 in
theorem okL_falls : lq_okP PL_falls := fun X bb LL xx =>
  lq_oc (lq_n_aload_n (k := 1) (by decide +kernel)) <|
  lq_oc (lq_n_aload_n (k := 0) (by decide +kernel)) <|
  lq_oc (lq_n_iload_n (k := 3) (by decide +kernel)) <|
  lq_oc (lq_n_iconst (z := 1) (by decide +kernel)) <|
  lq_oc (lq_n_iadd (by decide +kernel)) <|
  lq_oc (lq_n_iaload (by decide +kernel)) <|
  lq_oc (lq_n_virtual (M' := M_X5_falls) (idx := 85) (n := 1) (ci := 5) (N := 10) (D := RX5) (T := TX5) (by decide +kernel) fn_X5_falls fv_X5_falls rfl rfl l_L_85 ⟨by decide, by decide⟩) <|
  lq_oc (lq_n_aload_n (k := 2) (by decide +kernel)) <|
  lq_oc (lq_n_aload_n (k := 0) (by decide +kernel)) <|
  lq_oc (lq_n_iload_n (k := 3) (by decide +kernel)) <|
  lq_oc (lq_n_iconst (z := 1) (by decide +kernel)) <|
  lq_oc (lq_n_iadd (by decide +kernel)) <|
  lq_oc (lq_n_iaload (by decide +kernel)) <|
  lq_oc (lq_n_virtual (M' := M_X6_falls) (idx := 88) (n := 1) (ci := 6) (N := 16) (D := RX6) (T := TX6) (by decide +kernel) fn_X6_falls fv_X6_falls rfl rfl l_L_88 ⟨by decide, by decide⟩) <|
  lq_oc (lq_n_ieq (off := 594) (tgt := 1263) (by decide +kernel) (by decide)) <|
  lq_on
def PL_noon (LL : Nat) (xx : Nat → Int32) : nv_Pg := [(674, s_al 1 675), (675, s_lcv 5 M_X5_noon 0 678), (678, s_al 2 679), (679, s_lcv 6 M_X6_noon 0 682), (682, s_ieq 1263)]
set_option maxRecDepth 100000 in
set_option maxHeartbeats 4000000 in
theorem okL_noon : lq_okP PL_noon := fun X bb LL xx =>
  lq_oc (lq_n_aload_n (k := 1) (by decide +kernel)) <|
  lq_oc (lq_n_virtual (M' := M_X5_noon) (idx := 89) (n := 0) (ci := 5) (N := 10) (D := RX5) (T := TX5) (by decide +kernel) fn_X5_noon fv_X5_noon rfl rfl l_L_89 ⟨by decide, by decide⟩) <|
  lq_oc (lq_n_aload_n (k := 2) (by decide +kernel)) <|
  lq_oc (lq_n_virtual (M' := M_X6_noon) (idx := 92) (n := 0) (ci := 6) (N := 16) (D := RX6) (T := TX6) (by decide +kernel) fn_X6_noon fv_X6_noon rfl rfl l_L_92 ⟨by decide, by decide⟩) <|
  lq_oc (lq_n_ieq (off := 581) (tgt := 1263) (by decide +kernel) (by decide)) <|
  lq_on
def PL_best (LL : Nat) (xx : Nat → Int32) : nv_Pg := [(687, s_al 1 688), (688, s_al 0 689), (689, s_il 3 690), (690, s_ki (1) 691), (691, s_add 692), (692, s_scr LL xx 693), (693, s_lcv 5 M_X5_best 1 696), (696, s_al 2 697), (697, s_al 0 698), (698, s_il 3 699), (699, s_ki (1) 700), (700, s_add 701), (701, s_scr LL xx 702), (702, s_lcv 6 M_X6_best 1 705), (705, s_ieq 1263)]
set_option maxRecDepth 100000 in
set_option maxHeartbeats 4000000 in
theorem okL_best : lq_okP PL_best := fun X bb LL xx =>
  lq_oc (lq_n_aload_n (k := 1) (by decide +kernel)) <|
  lq_oc (lq_n_aload_n (k := 0) (by decide +kernel)) <|
  lq_oc (lq_n_iload_n (k := 3) (by decide +kernel)) <|
  lq_oc (lq_n_iconst (z := 1) (by decide +kernel)) <|
  lq_oc (lq_n_iadd (by decide +kernel)) <|
  lq_oc (lq_n_iaload (by decide +kernel)) <|
  lq_oc (lq_n_virtual (M' := M_X5_best) (idx := 93) (n := 1) (ci := 5) (N := 10) (D := RX5) (T := TX5) (by decide +kernel) fn_X5_best fv_X5_best rfl rfl l_L_93 ⟨by decide, by decide⟩) <|
  lq_oc (lq_n_aload_n (k := 2) (by decide +kernel)) <|
  lq_oc (lq_n_aload_n (k := 0) (by decide +kernel)) <|
  lq_oc (lq_n_iload_n (k := 3) (by decide +kernel)) <|
  lq_oc (lq_n_iconst (z := 1) (by decide +kernel)) <|
  lq_oc (lq_n_iadd (by decide +kernel)) <|
  lq_oc (lq_n_iaload (by decide +kernel)) <|
  lq_oc (lq_n_virtual (M' := M_X6_best) (idx := 96) (n := 1) (ci := 6) (N := 16) (D := RX6) (T := TX6) (by decide +kernel) fn_X6_best fv_X6_best rfl rfl l_L_96 ⟨by decide, by decide⟩) <|
  lq_oc (lq_n_ieq (off := 558) (tgt := 1263) (by decide +kernel) (by decide)) <|
  lq_on
def PL_most (LL : Nat) (xx : Nat → Int32) : nv_Pg := [(710, s_al 1 711), (711, s_al 0 712), (712, s_il 3 713), (713, s_ki (1) 714), (714, s_add 715), (715, s_scr LL xx 716), (716, s_al 0 717), (717, s_il 3 718), (718, s_ki (2) 719), (719, s_add 720), (720, s_scr LL xx 721), (721, s_lcv 5 M_X5_most 2 724), (724, s_al 2 725), (725, s_al 0 726), (726, s_il 3 727), (727, s_ki (1) 728), (728, s_add 729), (729, s_scr LL xx 730), (730, s_al 0 731), (731, s_il 3 732), (732, s_ki (2) 733), (733, s_add 734), (734, s_scr LL xx 735), (735, s_lcv 6 M_X6_most 2 738), (738, s_ieq 1263)]
set_option maxRecDepth 100000 in
set_option maxHeartbeats 4000000 in
theorem okL_most : lq_okP PL_most := fun X bb LL xx =>
  lq_oc (lq_n_aload_n (k := 1) (by decide +kernel)) <|
  lq_oc (lq_n_aload_n (k := 0) (by decide +kernel)) <|
  lq_oc (lq_n_iload_n (k := 3) (by decide +kernel)) <|
  lq_oc (lq_n_iconst (z := 1) (by decide +kernel)) <|
  lq_oc (lq_n_iadd (by decide +kernel)) <|
  lq_oc (lq_n_iaload (by decide +kernel)) <|
  lq_oc (lq_n_aload_n (k := 0) (by decide +kernel)) <|
  lq_oc (lq_n_iload_n (k := 3) (by decide +kernel)) <|
  lq_oc (lq_n_iconst (z := 2) (by decide +kernel)) <|
  lq_oc (lq_n_iadd (by decide +kernel)) <|
  lq_oc (lq_n_iaload (by decide +kernel)) <|
  lq_oc (lq_n_virtual (M' := M_X5_most) (idx := 97) (n := 2) (ci := 5) (N := 10) (D := RX5) (T := TX5) (by decide +kernel) fn_X5_most fv_X5_most rfl rfl l_L_97 ⟨by decide, by decide⟩) <|
  lq_oc (lq_n_aload_n (k := 2) (by decide +kernel)) <|
  lq_oc (lq_n_aload_n (k := 0) (by decide +kernel)) <|
  lq_oc (lq_n_iload_n (k := 3) (by decide +kernel)) <|
  lq_oc (lq_n_iconst (z := 1) (by decide +kernel)) <|
  lq_oc (lq_n_iadd (by decide +kernel)) <|
  lq_oc (lq_n_iaload (by decide +kernel)) <|
  lq_oc (lq_n_aload_n (k := 0) (by decide +kernel)) <|
  lq_oc (lq_n_iload_n (k := 3) (by decide +kernel)) <|
  lq_oc (lq_n_iconst (z := 2) (by decide +kernel)) <|
  lq_oc (lq_n_iadd (by decide +kernel)) <|
  lq_oc (lq_n_iaload (by decide +kernel)) <|
  lq_oc (lq_n_virtual (M' := M_X6_most) (idx := 100) (n := 2) (ci := 6) (N := 16) (D := RX6) (T := TX6) (by decide +kernel) fn_X6_most fv_X6_most rfl rfl l_L_100 ⟨by decide, by decide⟩) <|
  lq_oc (lq_n_ieq (off := 525) (tgt := 1263) (by decide +kernel) (by decide)) <|
  lq_on
def PL_sharp (LL : Nat) (xx : Nat → Int32) : nv_Pg := [(743, s_al 1 744), (744, s_al 0 745), (745, s_il 3 746), (746, s_ki (1) 747), (747, s_add 748), (748, s_scr LL xx 749), (749, s_al 0 750), (750, s_il 3 751), (751, s_ki (2) 752), (752, s_add 753), (753, s_scr LL xx 754), (754, s_lcv 5 M_X5_sharp 2 757), (757, s_al 2 758), (758, s_al 0 759), (759, s_il 3 760), (760, s_ki (1) 761), (761, s_add 762), (762, s_scr LL xx 763), (763, s_al 0 764), (764, s_il 3 765), (765, s_ki (2) 766), (766, s_add 767), (767, s_scr LL xx 768), (768, s_lcv 6 M_X6_sharp 2 771), (771, s_ieq 1263)]
set_option maxRecDepth 100000 in
set_option maxHeartbeats 4000000 in
theorem okL_sharp : lq_okP PL_sharp := fun X bb LL xx =>
  lq_oc (lq_n_aload_n (k := 1) (by decide +kernel)) <|
  lq_oc (lq_n_aload_n (k := 0) (by decide +kernel)) <|
  lq_oc (lq_n_iload_n (k := 3) (by decide +kernel)) <|
  lq_oc (lq_n_iconst (z := 1) (by decide +kernel)) <|
  lq_oc (lq_n_iadd (by decide +kernel)) <|
  lq_oc (lq_n_iaload (by decide +kernel)) <|
  lq_oc (lq_n_aload_n (k := 0) (by decide +kernel)) <|
  lq_oc (lq_n_iload_n (k := 3) (by decide +kernel)) <|
  lq_oc (lq_n_iconst (z := 2) (by decide +kernel)) <|
  lq_oc (lq_n_iadd (by decide +kernel)) <|
  lq_oc (lq_n_iaload (by decide +kernel)) <|
  lq_oc (lq_n_virtual (M' := M_X5_sharp) (idx := 101) (n := 2) (ci := 5) (N := 10) (D := RX5) (T := TX5) (by decide +kernel) fn_X5_sharp fv_X5_sharp rfl rfl l_L_101 ⟨by decide, by decide⟩) <|
  lq_oc (lq_n_aload_n (k := 2) (by decide +kernel)) <|
  lq_oc (lq_n_aload_n (k := 0) (by decide +kernel)) <|
  lq_oc (lq_n_iload_n (k := 3) (by decide +kernel)) <|
  lq_oc (lq_n_iconst (z := 1) (by decide +kernel)) <|
  lq_oc (lq_n_iadd (by decide +kernel)) <|
  lq_oc (lq_n_iaload (by decide +kernel)) <|
  lq_oc (lq_n_aload_n (k := 0) (by decide +kernel)) <|
  lq_oc (lq_n_iload_n (k := 3) (by decide +kernel)) <|
  lq_oc (lq_n_iconst (z := 2) (by decide +kernel)) <|
  lq_oc (lq_n_iadd (by decide +kernel)) <|
  lq_oc (lq_n_iaload (by decide +kernel)) <|
  lq_oc (lq_n_virtual (M' := M_X6_sharp) (idx := 104) (n := 2) (ci := 6) (N := 16) (D := RX6) (T := TX6) (by decide +kernel) fn_X6_sharp fv_X6_sharp rfl rfl l_L_104 ⟨by decide, by decide⟩) <|
  lq_oc (lq_n_ieq (off := 492) (tgt := 1263) (by decide +kernel) (by decide)) <|
  lq_on
def PL_without (LL : Nat) (xx : Nat → Int32) : nv_Pg := [(776, s_al 1 777), (777, s_al 0 778), (778, s_il 3 779), (779, s_ki (1) 780), (780, s_add 781), (781, s_scr LL xx 782), (782, s_lcv 5 M_X5_without 1 785), (785, s_al 2 786), (786, s_al 0 787), (787, s_il 3 788), (788, s_ki (1) 789), (789, s_add 790), (790, s_scr LL xx 791), (791, s_lcv 6 M_X6_without 1 794), (794, s_ieq 1263)]
set_option maxRecDepth 100000 in
set_option maxHeartbeats 4000000 in
theorem okL_without : lq_okP PL_without := fun X bb LL xx =>
  lq_oc (lq_n_aload_n (k := 1) (by decide +kernel)) <|
  lq_oc (lq_n_aload_n (k := 0) (by decide +kernel)) <|
  lq_oc (lq_n_iload_n (k := 3) (by decide +kernel)) <|
  lq_oc (lq_n_iconst (z := 1) (by decide +kernel)) <|
  lq_oc (lq_n_iadd (by decide +kernel)) <|
  lq_oc (lq_n_iaload (by decide +kernel)) <|
  lq_oc (lq_n_virtual (M' := M_X5_without) (idx := 105) (n := 1) (ci := 5) (N := 10) (D := RX5) (T := TX5) (by decide +kernel) fn_X5_without fv_X5_without rfl rfl l_L_105 ⟨by decide, by decide⟩) <|
  lq_oc (lq_n_aload_n (k := 2) (by decide +kernel)) <|
  lq_oc (lq_n_aload_n (k := 0) (by decide +kernel)) <|
  lq_oc (lq_n_iload_n (k := 3) (by decide +kernel)) <|
  lq_oc (lq_n_iconst (z := 1) (by decide +kernel)) <|
  lq_oc (lq_n_iadd (by decide +kernel)) <|
  lq_oc (lq_n_iaload (by decide +kernel)) <|
  lq_oc (lq_n_virtual (M' := M_X6_without) (idx := 108) (n := 1) (ci := 6) (N := 16) (D := RX6) (T := TX6) (by decide +kernel) fn_X6_without fv_X6_without rfl rfl l_L_108 ⟨by decide, by decide⟩) <|
  lq_oc (lq_n_ieq (off := 469) (tgt := 1263) (by decide +kernel) (by decide)) <|
  lq_on
def PL_thickest (LL : Nat) (xx : Nat → Int32) : nv_Pg := [(799, s_al 1 800), (800, s_al 0 801), (801, s_il 3 802), (802, s_ki (1) 803), (803, s_add 804), (804, s_scr LL xx 805), (805, s_al 0 806), (806, s_il 3 807), (807, s_ki (2) 808), (808, s_add 809), (809, s_scr LL xx 810), (810, s_lcv 5 M_X5_thickest 2 813), (813, s_al 2 814), (814, s_al 0 815), (815, s_il 3 816), (816, s_ki (1) 817), (817, s_add 818), (818, s_scr LL xx 819), (819, s_al 0 820), (820, s_il 3 821), (821, s_ki (2) 822), (822, s_add 823), (823, s_scr LL xx 824), (824, s_lcv 6 M_X6_thickest 2 827), (827, s_ieq 1263)]
set_option maxRecDepth 100000 in
set_option maxHeartbeats 4000000 in
theorem okL_thickest : lq_okP PL_thickest := fun X bb LL xx =>
  lq_oc (lq_n_aload_n (k := 1) (by decide +kernel)) <|
  lq_oc (lq_n_aload_n (k := 0) (by decide +kernel)) <|
  lq_oc (lq_n_iload_n (k := 3) (by decide +kernel)) <|
  lq_oc (lq_n_iconst (z := 1) (by decide +kernel)) <|
  lq_oc (lq_n_iadd (by decide +kernel)) <|
  lq_oc (lq_n_iaload (by decide +kernel)) <|
  lq_oc (lq_n_aload_n (k := 0) (by decide +kernel)) <|
  lq_oc (lq_n_iload_n (k := 3) (by decide +kernel)) <|
  lq_oc (lq_n_iconst (z := 2) (by decide +kernel)) <|
  lq_oc (lq_n_iadd (by decide +kernel)) <|
  lq_oc (lq_n_iaload (by decide +kernel)) <|
  lq_oc (lq_n_virtual (M' := M_X5_thickest) (idx := 109) (n := 2) (ci := 5) (N := 10) (D := RX5) (T := TX5) (by decide +kernel) fn_X5_thickest fv_X5_thickest rfl rfl l_L_109 ⟨by decide, by decide⟩) <|
  lq_oc (lq_n_aload_n (k := 2) (by decide +kernel)) <|
  lq_oc (lq_n_aload_n (k := 0) (by decide +kernel)) <|
  lq_oc (lq_n_iload_n (k := 3) (by decide +kernel)) <|
  lq_oc (lq_n_iconst (z := 1) (by decide +kernel)) <|
  lq_oc (lq_n_iadd (by decide +kernel)) <|
  lq_oc (lq_n_iaload (by decide +kernel)) <|
  lq_oc (lq_n_aload_n (k := 0) (by decide +kernel)) <|
  lq_oc (lq_n_iload_n (k := 3) (by decide +kernel)) <|
  lq_oc (lq_n_iconst (z := 2) (by decide +kernel)) <|
  lq_oc (lq_n_iadd (by decide +kernel)) <|
  lq_oc (lq_n_iaload (by decide +kernel)) <|
  lq_oc (lq_n_virtual (M' := M_X6_thickest) (idx := 112) (n := 2) (ci := 6) (N := 16) (D := RX6) (T := TX6) (by decide +kernel) fn_X6_thickest fv_X6_thickest rfl rfl l_L_112 ⟨by decide, by decide⟩) <|
  lq_oc (lq_n_ieq (off := 436) (tgt := 1263) (by decide +kernel) (by decide)) <|
  lq_on
def PL_hops (LL : Nat) (xx : Nat → Int32) : nv_Pg := [(832, s_al 1 833), (833, s_al 0 834), (834, s_il 3 835), (835, s_ki (1) 836), (836, s_add 837), (837, s_scr LL xx 838), (838, s_al 0 839), (839, s_il 3 840), (840, s_ki (2) 841), (841, s_add 842), (842, s_scr LL xx 843), (843, s_al 0 844), (844, s_il 3 845), (845, s_ki (3) 846), (846, s_add 847), (847, s_scr LL xx 848), (848, s_lcv 5 M_X5_hops 3 851), (851, s_al 2 852), (852, s_al 0 853), (853, s_il 3 854), (854, s_ki (1) 855), (855, s_add 856), (856, s_scr LL xx 857), (857, s_al 0 858), (858, s_il 3 859), (859, s_ki (2) 860), (860, s_add 861), (861, s_scr LL xx 862), (862, s_al 0 863), (863, s_il 3 864), (864, s_ki (3) 865), (865, s_add 866), (866, s_scr LL xx 867), (867, s_lcv 6 M_X6_hops 3 870), (870, s_ieq 1263)]
set_option maxRecDepth 100000 in
set_option maxHeartbeats 4000000 in
theorem okL_hops : lq_okP PL_hops := fun X bb LL xx =>
  lq_oc (lq_n_aload_n (k := 1) (by decide +kernel)) <|
  lq_oc (lq_n_aload_n (k := 0) (by decide +kernel)) <|
  lq_oc (lq_n_iload_n (k := 3) (by decide +kernel)) <|
  lq_oc (lq_n_iconst (z := 1) (by decide +kernel)) <|
  lq_oc (lq_n_iadd (by decide +kernel)) <|
  lq_oc (lq_n_iaload (by decide +kernel)) <|
  lq_oc (lq_n_aload_n (k := 0) (by decide +kernel)) <|
  lq_oc (lq_n_iload_n (k := 3) (by decide +kernel)) <|
  lq_oc (lq_n_iconst (z := 2) (by decide +kernel)) <|
  lq_oc (lq_n_iadd (by decide +kernel)) <|
  lq_oc (lq_n_iaload (by decide +kernel)) <|
  lq_oc (lq_n_aload_n (k := 0) (by decide +kernel)) <|
  lq_oc (lq_n_iload_n (k := 3) (by decide +kernel)) <|
  lq_oc (lq_n_iconst (z := 3) (by decide +kernel)) <|
  lq_oc (lq_n_iadd (by decide +kernel)) <|
  lq_oc (lq_n_iaload (by decide +kernel)) <|
  lq_oc (lq_n_virtual (M' := M_X5_hops) (idx := 113) (n := 3) (ci := 5) (N := 10) (D := RX5) (T := TX5) (by decide +kernel) fn_X5_hops fv_X5_hops rfl rfl l_L_113 ⟨by decide, by decide⟩) <|
  lq_oc (lq_n_aload_n (k := 2) (by decide +kernel)) <|
  lq_oc (lq_n_aload_n (k := 0) (by decide +kernel)) <|
  lq_oc (lq_n_iload_n (k := 3) (by decide +kernel)) <|
  lq_oc (lq_n_iconst (z := 1) (by decide +kernel)) <|
  lq_oc (lq_n_iadd (by decide +kernel)) <|
  lq_oc (lq_n_iaload (by decide +kernel)) <|
  lq_oc (lq_n_aload_n (k := 0) (by decide +kernel)) <|
  lq_oc (lq_n_iload_n (k := 3) (by decide +kernel)) <|
  lq_oc (lq_n_iconst (z := 2) (by decide +kernel)) <|
  lq_oc (lq_n_iadd (by decide +kernel)) <|
  lq_oc (lq_n_iaload (by decide +kernel)) <|
  lq_oc (lq_n_aload_n (k := 0) (by decide +kernel)) <|
  lq_oc (lq_n_iload_n (k := 3) (by decide +kernel)) <|
  lq_oc (lq_n_iconst (z := 3) (by decide +kernel)) <|
  lq_oc (lq_n_iadd (by decide +kernel)) <|
  lq_oc (lq_n_iaload (by decide +kernel)) <|
  lq_oc (lq_n_virtual (M' := M_X6_hops) (idx := 116) (n := 3) (ci := 6) (N := 16) (D := RX6) (T := TX6) (by decide +kernel) fn_X6_hops fv_X6_hops rfl rfl l_L_116 ⟨by decide, by decide⟩) <|
  lq_oc (lq_n_ieq (off := 393) (tgt := 1263) (by decide +kernel) (by decide)) <|
  lq_on
def PL_image (LL : Nat) (xx : Nat → Int32) : nv_Pg := [(875, s_al 1 876), (876, s_lcv 5 M_X5_image 0 879), (879, s_al 2 880), (880, s_lcv 6 M_X6_image 0 883), (883, s_ieq 1263)]
set_option maxRecDepth 100000 in
set_option maxHeartbeats 4000000 in
theorem okL_image : lq_okP PL_image := fun X bb LL xx =>
  lq_oc (lq_n_aload_n (k := 1) (by decide +kernel)) <|
  lq_oc (lq_n_virtual (M' := M_X5_image) (idx := 117) (n := 0) (ci := 5) (N := 10) (D := RX5) (T := TX5) (by decide +kernel) fn_X5_image fv_X5_image rfl rfl l_L_117 ⟨by decide, by decide⟩) <|
  lq_oc (lq_n_aload_n (k := 2) (by decide +kernel)) <|
  lq_oc (lq_n_virtual (M' := M_X6_image) (idx := 120) (n := 0) (ci := 6) (N := 16) (D := RX6) (T := TX6) (by decide +kernel) fn_X6_image fv_X6_image rfl rfl l_L_120 ⟨by decide, by decide⟩) <|
  lq_oc (lq_n_ieq (off := 380) (tgt := 1263) (by decide +kernel) (by decide)) <|
  lq_on
def PL_restore (LL : Nat) (xx : Nat → Int32) : nv_Pg := [(888, s_al 1 889), (889, s_lcv 5 M_X5_restore 0 892), (892, s_al 2 893), (893, s_lcv 6 M_X6_restore 0 896), (896, s_ieq 1263)]
set_option maxRecDepth 100000 in
set_option maxHeartbeats 4000000 in
theorem okL_restore : lq_okP PL_restore := fun X bb LL xx =>
  lq_oc (lq_n_aload_n (k := 1) (by decide +kernel)) <|
  lq_oc (lq_n_virtual (M' := M_X5_restore) (idx := 121) (n := 0) (ci := 5) (N := 10) (D := RX5) (T := TX5) (by decide +kernel) fn_X5_restore fv_X5_restore rfl rfl l_L_121 ⟨by decide, by decide⟩) <|
  lq_oc (lq_n_aload_n (k := 2) (by decide +kernel)) <|
  lq_oc (lq_n_virtual (M' := M_X6_restore) (idx := 124) (n := 0) (ci := 6) (N := 16) (D := RX6) (T := TX6) (by decide +kernel) fn_X6_restore fv_X6_restore rfl rfl l_L_124 ⟨by decide, by decide⟩) <|
  lq_oc (lq_n_ieq (off := 367) (tgt := 1263) (by decide +kernel) (by decide)) <|
  lq_on
def PL_dust (LL : Nat) (xx : Nat → Int32) : nv_Pg := [(901, s_al 1 902), (902, s_al 0 903), (903, s_il 3 904), (904, s_ki (1) 905), (905, s_add 906), (906, s_scr LL xx 907), (907, s_al 0 908), (908, s_il 3 909), (909, s_ki (2) 910), (910, s_add 911), (911, s_scr LL xx 912), (912, s_al 0 913), (913, s_il 3 914), (914, s_ki (3) 915), (915, s_add 916), (916, s_scr LL xx 917), (917, s_al 0 918), (918, s_il 3 919), (919, s_ki (4) 920), (920, s_add 921), (921, s_scr LL xx 922), (922, s_al 0 923), (923, s_il 3 924), (924, s_ki (5) 925), (925, s_add 926), (926, s_scr LL xx 927), (927, s_al 0 928), (928, s_il 3 929), (929, s_ki (6) 931), (931, s_add 932), (932, s_scr LL xx 933), (933, s_al 0 934), (934, s_il 3 935), (935, s_ki (7) 937), (937, s_add 938), (938, s_scr LL xx 939), (939, s_lcv 5 M_X5_dust 7 942), (942, s_al 2 943), (943, s_al 0 944), (944, s_il 3 945), (945, s_ki (1) 946), (946, s_add 947), (947, s_scr LL xx 948), (948, s_al 0 949), (949, s_il 3 950), (950, s_ki (2) 951), (951, s_add 952), (952, s_scr LL xx 953), (953, s_al 0 954), (954, s_il 3 955), (955, s_ki (3) 956), (956, s_add 957), (957, s_scr LL xx 958), (958, s_al 0 959), (959, s_il 3 960), (960, s_ki (4) 961), (961, s_add 962), (962, s_scr LL xx 963), (963, s_al 0 964), (964, s_il 3 965), (965, s_ki (5) 966), (966, s_add 967), (967, s_scr LL xx 968), (968, s_al 0 969), (969, s_il 3 970), (970, s_ki (6) 972), (972, s_add 973), (973, s_scr LL xx 974), (974, s_al 0 975), (975, s_il 3 976), (976, s_ki (7) 978), (978, s_add 979), (979, s_scr LL xx 980), (980, s_lcv 6 M_X6_dust 7 983), (983, s_ieq 1263)]
set_option maxRecDepth 100000 in
set_option maxHeartbeats 4000000 in
theorem okL_dust : lq_okP PL_dust := fun X bb LL xx =>
  lq_oc (lq_n_aload_n (k := 1) (by decide +kernel)) <|
  lq_oc (lq_n_aload_n (k := 0) (by decide +kernel)) <|
  lq_oc (lq_n_iload_n (k := 3) (by decide +kernel)) <|
  lq_oc (lq_n_iconst (z := 1) (by decide +kernel)) <|
  lq_oc (lq_n_iadd (by decide +kernel)) <|
  lq_oc (lq_n_iaload (by decide +kernel)) <|
  lq_oc (lq_n_aload_n (k := 0) (by decide +kernel)) <|
  lq_oc (lq_n_iload_n (k := 3) (by decide +kernel)) <|
  lq_oc (lq_n_iconst (z := 2) (by decide +kernel)) <|
  lq_oc (lq_n_iadd (by decide +kernel)) <|
  lq_oc (lq_n_iaload (by decide +kernel)) <|
  lq_oc (lq_n_aload_n (k := 0) (by decide +kernel)) <|
  lq_oc (lq_n_iload_n (k := 3) (by decide +kernel)) <|
  lq_oc (lq_n_iconst (z := 3) (by decide +kernel)) <|
  lq_oc (lq_n_iadd (by decide +kernel)) <|
  lq_oc (lq_n_iaload (by decide +kernel)) <|
  lq_oc (lq_n_aload_n (k := 0) (by decide +kernel)) <|
  lq_oc (lq_n_iload_n (k := 3) (by decide +kernel)) <|
  lq_oc (lq_n_iconst (z := 4) (by decide +kernel)) <|
  lq_oc (lq_n_iadd (by decide +kernel)) <|
  lq_oc (lq_n_iaload (by decide +kernel)) <|
  lq_oc (lq_n_aload_n (k := 0) (by decide +kernel)) <|
  lq_oc (lq_n_iload_n (k := 3) (by decide +kernel)) <|
  lq_oc (lq_n_iconst (z := 5) (by decide +kernel)) <|
  lq_oc (lq_n_iadd (by decide +kernel)) <|
  lq_oc (lq_n_iaload (by decide +kernel)) <|
  lq_oc (lq_n_aload_n (k := 0) (by decide +kernel)) <|
  lq_oc (lq_n_iload_n (k := 3) (by decide +kernel)) <|
  lq_oc (lq_n_bipush (z := 6) (by decide +kernel) (by decide)) <|
  lq_oc (lq_n_iadd (by decide +kernel)) <|
  lq_oc (lq_n_iaload (by decide +kernel)) <|
  lq_oc (lq_n_aload_n (k := 0) (by decide +kernel)) <|
  lq_oc (lq_n_iload_n (k := 3) (by decide +kernel)) <|
  lq_oc (lq_n_bipush (z := 7) (by decide +kernel) (by decide)) <|
  lq_oc (lq_n_iadd (by decide +kernel)) <|
  lq_oc (lq_n_iaload (by decide +kernel)) <|
  lq_oc (lq_n_virtual (M' := M_X5_dust) (idx := 125) (n := 7) (ci := 5) (N := 10) (D := RX5) (T := TX5) (by decide +kernel) fn_X5_dust fv_X5_dust rfl rfl l_L_125 ⟨by decide, by decide⟩) <|
  lq_oc (lq_n_aload_n (k := 2) (by decide +kernel)) <|
  lq_oc (lq_n_aload_n (k := 0) (by decide +kernel)) <|
  lq_oc (lq_n_iload_n (k := 3) (by decide +kernel)) <|
  lq_oc (lq_n_iconst (z := 1) (by decide +kernel)) <|
  lq_oc (lq_n_iadd (by decide +kernel)) <|
  lq_oc (lq_n_iaload (by decide +kernel)) <|
  lq_oc (lq_n_aload_n (k := 0) (by decide +kernel)) <|
  lq_oc (lq_n_iload_n (k := 3) (by decide +kernel)) <|
  lq_oc (lq_n_iconst (z := 2) (by decide +kernel)) <|
  lq_oc (lq_n_iadd (by decide +kernel)) <|
  lq_oc (lq_n_iaload (by decide +kernel)) <|
  lq_oc (lq_n_aload_n (k := 0) (by decide +kernel)) <|
  lq_oc (lq_n_iload_n (k := 3) (by decide +kernel)) <|
  lq_oc (lq_n_iconst (z := 3) (by decide +kernel)) <|
  lq_oc (lq_n_iadd (by decide +kernel)) <|
  lq_oc (lq_n_iaload (by decide +kernel)) <|
  lq_oc (lq_n_aload_n (k := 0) (by decide +kernel)) <|
  lq_oc (lq_n_iload_n (k := 3) (by decide +kernel)) <|
  lq_oc (lq_n_iconst (z := 4) (by decide +kernel)) <|
  lq_oc (lq_n_iadd (by decide +kernel)) <|
  lq_oc (lq_n_iaload (by decide +kernel)) <|
  lq_oc (lq_n_aload_n (k := 0) (by decide +kernel)) <|
  lq_oc (lq_n_iload_n (k := 3) (by decide +kernel)) <|
  lq_oc (lq_n_iconst (z := 5) (by decide +kernel)) <|
  lq_oc (lq_n_iadd (by decide +kernel)) <|
  lq_oc (lq_n_iaload (by decide +kernel)) <|
  lq_oc (lq_n_aload_n (k := 0) (by decide +kernel)) <|
  lq_oc (lq_n_iload_n (k := 3) (by decide +kernel)) <|
  lq_oc (lq_n_bipush (z := 6) (by decide +kernel) (by decide)) <|
  lq_oc (lq_n_iadd (by decide +kernel)) <|
  lq_oc (lq_n_iaload (by decide +kernel)) <|
  lq_oc (lq_n_aload_n (k := 0) (by decide +kernel)) <|
  lq_oc (lq_n_iload_n (k := 3) (by decide +kernel)) <|
  lq_oc (lq_n_bipush (z := 7) (by decide +kernel) (by decide)) <|
  lq_oc (lq_n_iadd (by decide +kernel)) <|
  lq_oc (lq_n_iaload (by decide +kernel)) <|
  lq_oc (lq_n_virtual (M' := M_X6_dust) (idx := 129) (n := 7) (ci := 6) (N := 16) (D := RX6) (T := TX6) (by decide +kernel) fn_X6_dust fv_X6_dust rfl rfl l_L_129 ⟨by decide, by decide⟩) <|
  lq_oc (lq_n_ieq (off := 280) (tgt := 1263) (by decide +kernel) (by decide)) <|
  lq_on
def PL_film (LL : Nat) (xx : Nat → Int32) : nv_Pg := [(988, s_al 1 989), (989, s_al 0 990), (990, s_il 3 991), (991, s_ki (1) 992), (992, s_add 993), (993, s_scr LL xx 994), (994, s_al 0 995), (995, s_il 3 996), (996, s_ki (2) 997), (997, s_add 998), (998, s_scr LL xx 999), (999, s_al 0 1000), (1000, s_il 3 1001), (1001, s_ki (3) 1002), (1002, s_add 1003), (1003, s_scr LL xx 1004), (1004, s_al 0 1005), (1005, s_il 3 1006), (1006, s_ki (4) 1007), (1007, s_add 1008), (1008, s_scr LL xx 1009), (1009, s_al 0 1010), (1010, s_il 3 1011), (1011, s_ki (5) 1012), (1012, s_add 1013), (1013, s_scr LL xx 1014), (1014, s_lcv 5 M_X5_film 5 1017), (1017, s_al 2 1018), (1018, s_al 0 1019), (1019, s_il 3 1020), (1020, s_ki (1) 1021), (1021, s_add 1022), (1022, s_scr LL xx 1023), (1023, s_al 0 1024), (1024, s_il 3 1025), (1025, s_ki (2) 1026), (1026, s_add 1027), (1027, s_scr LL xx 1028), (1028, s_al 0 1029), (1029, s_il 3 1030), (1030, s_ki (3) 1031), (1031, s_add 1032), (1032, s_scr LL xx 1033), (1033, s_al 0 1034), (1034, s_il 3 1035), (1035, s_ki (4) 1036), (1036, s_add 1037), (1037, s_scr LL xx 1038), (1038, s_al 0 1039), (1039, s_il 3 1040), (1040, s_ki (5) 1041), (1041, s_add 1042), (1042, s_scr LL xx 1043), (1043, s_lcv 6 M_X6_film 5 1046), (1046, s_ieq 1263)]
set_option maxRecDepth 100000 in
set_option maxHeartbeats 4000000 in
theorem okL_film : lq_okP PL_film := fun X bb LL xx =>
  lq_oc (lq_n_aload_n (k := 1) (by decide +kernel)) <|
  lq_oc (lq_n_aload_n (k := 0) (by decide +kernel)) <|
  lq_oc (lq_n_iload_n (k := 3) (by decide +kernel)) <|
  lq_oc (lq_n_iconst (z := 1) (by decide +kernel)) <|
  lq_oc (lq_n_iadd (by decide +kernel)) <|
  lq_oc (lq_n_iaload (by decide +kernel)) <|
  lq_oc (lq_n_aload_n (k := 0) (by decide +kernel)) <|
  lq_oc (lq_n_iload_n (k := 3) (by decide +kernel)) <|
  lq_oc (lq_n_iconst (z := 2) (by decide +kernel)) <|
  lq_oc (lq_n_iadd (by decide +kernel)) <|
  lq_oc (lq_n_iaload (by decide +kernel)) <|
  lq_oc (lq_n_aload_n (k := 0) (by decide +kernel)) <|
  lq_oc (lq_n_iload_n (k := 3) (by decide +kernel)) <|
  lq_oc (lq_n_iconst (z := 3) (by decide +kernel)) <|
  lq_oc (lq_n_iadd (by decide +kernel)) <|
  lq_oc (lq_n_iaload (by decide +kernel)) <|
  lq_oc (lq_n_aload_n (k := 0) (by decide +kernel)) <|
  lq_oc (lq_n_iload_n (k := 3) (by decide +kernel)) <|
  lq_oc (lq_n_iconst (z := 4) (by decide +kernel)) <|
  lq_oc (lq_n_iadd (by decide +kernel)) <|
  lq_oc (lq_n_iaload (by decide +kernel)) <|
  lq_oc (lq_n_aload_n (k := 0) (by decide +kernel)) <|
  lq_oc (lq_n_iload_n (k := 3) (by decide +kernel)) <|
  lq_oc (lq_n_iconst (z := 5) (by decide +kernel)) <|
  lq_oc (lq_n_iadd (by decide +kernel)) <|
  lq_oc (lq_n_iaload (by decide +kernel)) <|
  lq_oc (lq_n_virtual (M' := M_X5_film) (idx := 130) (n := 5) (ci := 5) (N := 10) (D := RX5) (T := TX5) (by decide +kernel) fn_X5_film fv_X5_film rfl rfl l_L_130 ⟨by decide, by decide⟩) <|
  lq_oc (lq_n_aload_n (k := 2) (by decide +kernel)) <|
  lq_oc (lq_n_aload_n (k := 0) (by decide +kernel)) <|
  lq_oc (lq_n_iload_n (k := 3) (by decide +kernel)) <|
  lq_oc (lq_n_iconst (z := 1) (by decide +kernel)) <|
  lq_oc (lq_n_iadd (by decide +kernel)) <|
  lq_oc (lq_n_iaload (by decide +kernel)) <|
  lq_oc (lq_n_aload_n (k := 0) (by decide +kernel)) <|
  lq_oc (lq_n_iload_n (k := 3) (by decide +kernel)) <|
  lq_oc (lq_n_iconst (z := 2) (by decide +kernel)) <|
  lq_oc (lq_n_iadd (by decide +kernel)) <|
  lq_oc (lq_n_iaload (by decide +kernel)) <|
  lq_oc (lq_n_aload_n (k := 0) (by decide +kernel)) <|
  lq_oc (lq_n_iload_n (k := 3) (by decide +kernel)) <|
  lq_oc (lq_n_iconst (z := 3) (by decide +kernel)) <|
  lq_oc (lq_n_iadd (by decide +kernel)) <|
  lq_oc (lq_n_iaload (by decide +kernel)) <|
  lq_oc (lq_n_aload_n (k := 0) (by decide +kernel)) <|
  lq_oc (lq_n_iload_n (k := 3) (by decide +kernel)) <|
  lq_oc (lq_n_iconst (z := 4) (by decide +kernel)) <|
  lq_oc (lq_n_iadd (by decide +kernel)) <|
  lq_oc (lq_n_iaload (by decide +kernel)) <|
  lq_oc (lq_n_aload_n (k := 0) (by decide +kernel)) <|
  lq_oc (lq_n_iload_n (k := 3) (by decide +kernel)) <|
  lq_oc (lq_n_iconst (z := 5) (by decide +kernel)) <|
  lq_oc (lq_n_iadd (by decide +kernel)) <|
  lq_oc (lq_n_iaload (by decide +kernel)) <|
  lq_oc (lq_n_virtual (M' := M_X6_film) (idx := 134) (n := 5) (ci := 6) (N := 16) (D := RX6) (T := TX6) (by decide +kernel) fn_X6_film fv_X6_film rfl rfl l_L_134 ⟨by decide, by decide⟩) <|
  lq_oc (lq_n_ieq (off := 217) (tgt := 1263) (by decide +kernel) (by decide)) <|
  lq_on
def PL_sheet (LL : Nat) (xx : Nat → Int32) : nv_Pg := [(1051, s_al 1 1052), (1052, s_al 0 1053), (1053, s_il 3 1054), (1054, s_ki (1) 1055), (1055, s_add 1056), (1056, s_scr LL xx 1057), (1057, s_al 0 1058), (1058, s_il 3 1059), (1059, s_ki (2) 1060), (1060, s_add 1061), (1061, s_scr LL xx 1062), (1062, s_al 0 1063), (1063, s_il 3 1064), (1064, s_ki (3) 1065), (1065, s_add 1066), (1066, s_scr LL xx 1067), (1067, s_lcv 5 M_X5_sheet 3 1070), (1070, s_al 2 1071), (1071, s_al 0 1072), (1072, s_il 3 1073), (1073, s_ki (1) 1074), (1074, s_add 1075), (1075, s_scr LL xx 1076), (1076, s_al 0 1077), (1077, s_il 3 1078), (1078, s_ki (2) 1079), (1079, s_add 1080), (1080, s_scr LL xx 1081), (1081, s_al 0 1082), (1082, s_il 3 1083), (1083, s_ki (3) 1084), (1084, s_add 1085), (1085, s_scr LL xx 1086), (1086, s_lcv 6 M_X6_sheet 3 1089), (1089, s_ieq 1263)]
set_option maxRecDepth 100000 in
set_option maxHeartbeats 4000000 in
theorem okL_sheet : lq_okP PL_sheet := fun X bb LL xx =>
  lq_oc (lq_n_aload_n (k := 1) (by decide +kernel)) <|
  lq_oc (lq_n_aload_n (k := 0) (by decide +kernel)) <|
  lq_oc (lq_n_iload_n (k := 3) (by decide +kernel)) <|
  lq_oc (lq_n_iconst (z := 1) (by decide +kernel)) <|
  lq_oc (lq_n_iadd (by decide +kernel)) <|
  lq_oc (lq_n_iaload (by decide +kernel)) <|
  lq_oc (lq_n_aload_n (k := 0) (by decide +kernel)) <|
  lq_oc (lq_n_iload_n (k := 3) (by decide +kernel)) <|
  lq_oc (lq_n_iconst (z := 2) (by decide +kernel)) <|
  lq_oc (lq_n_iadd (by decide +kernel)) <|
  lq_oc (lq_n_iaload (by decide +kernel)) <|
  lq_oc (lq_n_aload_n (k := 0) (by decide +kernel)) <|
  lq_oc (lq_n_iload_n (k := 3) (by decide +kernel)) <|
  lq_oc (lq_n_iconst (z := 3) (by decide +kernel)) <|
  lq_oc (lq_n_iadd (by decide +kernel)) <|
  lq_oc (lq_n_iaload (by decide +kernel)) <|
  lq_oc (lq_n_virtual (M' := M_X5_sheet) (idx := 135) (n := 3) (ci := 5) (N := 10) (D := RX5) (T := TX5) (by decide +kernel) fn_X5_sheet fv_X5_sheet rfl rfl l_L_135 ⟨by decide, by decide⟩) <|
  lq_oc (lq_n_aload_n (k := 2) (by decide +kernel)) <|
  lq_oc (lq_n_aload_n (k := 0) (by decide +kernel)) <|
  lq_oc (lq_n_iload_n (k := 3) (by decide +kernel)) <|
  lq_oc (lq_n_iconst (z := 1) (by decide +kernel)) <|
  lq_oc (lq_n_iadd (by decide +kernel)) <|
  lq_oc (lq_n_iaload (by decide +kernel)) <|
  lq_oc (lq_n_aload_n (k := 0) (by decide +kernel)) <|
  lq_oc (lq_n_iload_n (k := 3) (by decide +kernel)) <|
  lq_oc (lq_n_iconst (z := 2) (by decide +kernel)) <|
  lq_oc (lq_n_iadd (by decide +kernel)) <|
  lq_oc (lq_n_iaload (by decide +kernel)) <|
  lq_oc (lq_n_aload_n (k := 0) (by decide +kernel)) <|
  lq_oc (lq_n_iload_n (k := 3) (by decide +kernel)) <|
  lq_oc (lq_n_iconst (z := 3) (by decide +kernel)) <|
  lq_oc (lq_n_iadd (by decide +kernel)) <|
  lq_oc (lq_n_iaload (by decide +kernel)) <|
  lq_oc (lq_n_virtual (M' := M_X6_sheet) (idx := 138) (n := 3) (ci := 6) (N := 16) (D := RX6) (T := TX6) (by decide +kernel) fn_X6_sheet fv_X6_sheet rfl rfl l_L_138 ⟨by decide, by decide⟩) <|
  lq_oc (lq_n_ieq (off := 174) (tgt := 1263) (by decide +kernel) (by decide)) <|
  lq_on
def PL_drop (LL : Nat) (xx : Nat → Int32) : nv_Pg := [(1094, s_al 1 1095), (1095, s_al 0 1096), (1096, s_il 3 1097), (1097, s_ki (1) 1098), (1098, s_add 1099), (1099, s_scr LL xx 1100), (1100, s_lcv 5 M_X5_drop 1 1103), (1103, s_al 2 1104), (1104, s_al 0 1105), (1105, s_il 3 1106), (1106, s_ki (1) 1107), (1107, s_add 1108), (1108, s_scr LL xx 1109), (1109, s_lcv 6 M_X6_drop 1 1112), (1112, s_ieq 1263)]
set_option maxRecDepth 100000 in
set_option maxHeartbeats 4000000 in
theorem okL_drop : lq_okP PL_drop := fun X bb LL xx =>
  lq_oc (lq_n_aload_n (k := 1) (by decide +kernel)) <|
  lq_oc (lq_n_aload_n (k := 0) (by decide +kernel)) <|
  lq_oc (lq_n_iload_n (k := 3) (by decide +kernel)) <|
  lq_oc (lq_n_iconst (z := 1) (by decide +kernel)) <|
  lq_oc (lq_n_iadd (by decide +kernel)) <|
  lq_oc (lq_n_iaload (by decide +kernel)) <|
  lq_oc (lq_n_virtual (M' := M_X5_drop) (idx := 139) (n := 1) (ci := 5) (N := 10) (D := RX5) (T := TX5) (by decide +kernel) fn_X5_drop fv_X5_drop rfl rfl l_L_139 ⟨by decide, by decide⟩) <|
  lq_oc (lq_n_aload_n (k := 2) (by decide +kernel)) <|
  lq_oc (lq_n_aload_n (k := 0) (by decide +kernel)) <|
  lq_oc (lq_n_iload_n (k := 3) (by decide +kernel)) <|
  lq_oc (lq_n_iconst (z := 1) (by decide +kernel)) <|
  lq_oc (lq_n_iadd (by decide +kernel)) <|
  lq_oc (lq_n_iaload (by decide +kernel)) <|
  lq_oc (lq_n_virtual (M' := M_X6_drop) (idx := 142) (n := 1) (ci := 6) (N := 16) (D := RX6) (T := TX6) (by decide +kernel) fn_X6_drop fv_X6_drop rfl rfl l_L_142 ⟨by decide, by decide⟩) <|
  lq_oc (lq_n_ieq (off := 151) (tgt := 1263) (by decide +kernel) (by decide)) <|
  lq_on
def PL_item (LL : Nat) (xx : Nat → Int32) : nv_Pg := [(1117, s_al 1 1118), (1118, s_al 0 1119), (1119, s_il 3 1120), (1120, s_ki (1) 1121), (1121, s_add 1122), (1122, s_scr LL xx 1123), (1123, s_al 0 1124), (1124, s_il 3 1125), (1125, s_ki (2) 1126), (1126, s_add 1127), (1127, s_scr LL xx 1128), (1128, s_al 0 1129), (1129, s_il 3 1130), (1130, s_ki (3) 1131), (1131, s_add 1132), (1132, s_scr LL xx 1133), (1133, s_al 0 1134), (1134, s_il 3 1135), (1135, s_ki (4) 1136), (1136, s_add 1137), (1137, s_scr LL xx 1138), (1138, s_i2l 1139), (1139, s_ki (32) 1141), (1141, s_lsh 1142), (1142, s_al 0 1143), (1143, s_il 3 1144), (1144, s_ki (5) 1145), (1145, s_add 1146), (1146, s_scr LL xx 1147), (1147, s_i2l 1148), (1148, s_kl 4294967295 1151), (1151, s_lnd 1152), (1152, s_lr 1153), (1153, s_lcv 5 M_X5_item 4 1156), (1156, s_al 2 1157), (1157, s_al 0 1158), (1158, s_il 3 1159), (1159, s_ki (1) 1160), (1160, s_add 1161), (1161, s_scr LL xx 1162), (1162, s_al 0 1163), (1163, s_il 3 1164), (1164, s_ki (2) 1165), (1165, s_add 1166), (1166, s_scr LL xx 1167), (1167, s_al 0 1168), (1168, s_il 3 1169), (1169, s_ki (3) 1170), (1170, s_add 1171), (1171, s_scr LL xx 1172), (1172, s_al 0 1173), (1173, s_il 3 1174), (1174, s_ki (4) 1175), (1175, s_add 1176), (1176, s_scr LL xx 1177), (1177, s_i2l 1178), (1178, s_ki (32) 1180), (1180, s_lsh 1181), (1181, s_al 0 1182), (1182, s_il 3 1183), (1183, s_ki (5) 1184), (1184, s_add 1185), (1185, s_scr LL xx 1186), (1186, s_i2l 1187), (1187, s_kl 4294967295 1190), (1190, s_lnd 1191), (1191, s_lr 1192), (1192, s_lcv 6 M_X6_item 4 1195), (1195, s_ieq 1263)]
set_option maxRecDepth 100000 in
set_option maxHeartbeats 4000000 in
theorem okL_item : lq_okP PL_item := fun X bb LL xx =>
  lq_oc (lq_n_aload_n (k := 1) (by decide +kernel)) <|
  lq_oc (lq_n_aload_n (k := 0) (by decide +kernel)) <|
  lq_oc (lq_n_iload_n (k := 3) (by decide +kernel)) <|
  lq_oc (lq_n_iconst (z := 1) (by decide +kernel)) <|
  lq_oc (lq_n_iadd (by decide +kernel)) <|
  lq_oc (lq_n_iaload (by decide +kernel)) <|
  lq_oc (lq_n_aload_n (k := 0) (by decide +kernel)) <|
  lq_oc (lq_n_iload_n (k := 3) (by decide +kernel)) <|
  lq_oc (lq_n_iconst (z := 2) (by decide +kernel)) <|
  lq_oc (lq_n_iadd (by decide +kernel)) <|
  lq_oc (lq_n_iaload (by decide +kernel)) <|
  lq_oc (lq_n_aload_n (k := 0) (by decide +kernel)) <|
  lq_oc (lq_n_iload_n (k := 3) (by decide +kernel)) <|
  lq_oc (lq_n_iconst (z := 3) (by decide +kernel)) <|
  lq_oc (lq_n_iadd (by decide +kernel)) <|
  lq_oc (lq_n_iaload (by decide +kernel)) <|
  lq_oc (lq_n_aload_n (k := 0) (by decide +kernel)) <|
  lq_oc (lq_n_iload_n (k := 3) (by decide +kernel)) <|
  lq_oc (lq_n_iconst (z := 4) (by decide +kernel)) <|
  lq_oc (lq_n_iadd (by decide +kernel)) <|
  lq_oc (lq_n_iaload (by decide +kernel)) <|
  lq_oc (lq_n_i2l (by decide +kernel)) <|
  lq_oc (lq_n_bipush (z := 32) (by decide +kernel) (by decide)) <|
  lq_oc (lq_n_lshl (by decide +kernel)) <|
  lq_oc (lq_n_aload_n (k := 0) (by decide +kernel)) <|
  lq_oc (lq_n_iload_n (k := 3) (by decide +kernel)) <|
  lq_oc (lq_n_iconst (z := 5) (by decide +kernel)) <|
  lq_oc (lq_n_iadd (by decide +kernel)) <|
  lq_oc (lq_n_iaload (by decide +kernel)) <|
  lq_oc (lq_n_i2l (by decide +kernel)) <|
  lq_oc (lq_n_ldc2 (i := 143) (z := 4294967295) (by decide +kernel) k_L_143) <|
  lq_oc (lq_n_land (by decide +kernel)) <|
  lq_oc (lq_n_lor (by decide +kernel)) <|
  lq_oc (lq_n_virtual (M' := M_X5_item) (idx := 145) (n := 4) (ci := 5) (N := 10) (D := RX5) (T := TX5) (by decide +kernel) fn_X5_item fv_X5_item rfl rfl l_L_145 ⟨by decide, by decide⟩) <|
  lq_oc (lq_n_aload_n (k := 2) (by decide +kernel)) <|
  lq_oc (lq_n_aload_n (k := 0) (by decide +kernel)) <|
  lq_oc (lq_n_iload_n (k := 3) (by decide +kernel)) <|
  lq_oc (lq_n_iconst (z := 1) (by decide +kernel)) <|
  lq_oc (lq_n_iadd (by decide +kernel)) <|
  lq_oc (lq_n_iaload (by decide +kernel)) <|
  lq_oc (lq_n_aload_n (k := 0) (by decide +kernel)) <|
  lq_oc (lq_n_iload_n (k := 3) (by decide +kernel)) <|
  lq_oc (lq_n_iconst (z := 2) (by decide +kernel)) <|
  lq_oc (lq_n_iadd (by decide +kernel)) <|
  lq_oc (lq_n_iaload (by decide +kernel)) <|
  lq_oc (lq_n_aload_n (k := 0) (by decide +kernel)) <|
  lq_oc (lq_n_iload_n (k := 3) (by decide +kernel)) <|
  lq_oc (lq_n_iconst (z := 3) (by decide +kernel)) <|
  lq_oc (lq_n_iadd (by decide +kernel)) <|
  lq_oc (lq_n_iaload (by decide +kernel)) <|
  lq_oc (lq_n_aload_n (k := 0) (by decide +kernel)) <|
  lq_oc (lq_n_iload_n (k := 3) (by decide +kernel)) <|
  lq_oc (lq_n_iconst (z := 4) (by decide +kernel)) <|
  lq_oc (lq_n_iadd (by decide +kernel)) <|
  lq_oc (lq_n_iaload (by decide +kernel)) <|
  lq_oc (lq_n_i2l (by decide +kernel)) <|
  lq_oc (lq_n_bipush (z := 32) (by decide +kernel) (by decide)) <|
  lq_oc (lq_n_lshl (by decide +kernel)) <|
  lq_oc (lq_n_aload_n (k := 0) (by decide +kernel)) <|
  lq_oc (lq_n_iload_n (k := 3) (by decide +kernel)) <|
  lq_oc (lq_n_iconst (z := 5) (by decide +kernel)) <|
  lq_oc (lq_n_iadd (by decide +kernel)) <|
  lq_oc (lq_n_iaload (by decide +kernel)) <|
  lq_oc (lq_n_i2l (by decide +kernel)) <|
  lq_oc (lq_n_ldc2 (i := 143) (z := 4294967295) (by decide +kernel) k_L_143) <|
  lq_oc (lq_n_land (by decide +kernel)) <|
  lq_oc (lq_n_lor (by decide +kernel)) <|
  lq_oc (lq_n_virtual (M' := M_X6_item) (idx := 149) (n := 4) (ci := 6) (N := 16) (D := RX6) (T := TX6) (by decide +kernel) fn_X6_item fv_X6_item rfl rfl l_L_149 ⟨by decide, by decide⟩) <|
  lq_oc (lq_n_ieq (off := 68) (tgt := 1263) (by decide +kernel) (by decide)) <|
  lq_on
def PL_copy (LL : Nat) (xx : Nat → Int32) : nv_Pg := [(1200, s_al 1 1201), (1201, s_al 0 1202), (1202, s_il 3 1203), (1203, s_ki (1) 1204), (1204, s_add 1205), (1205, s_scr LL xx 1206), (1206, s_al 0 1207), (1207, s_il 3 1208), (1208, s_ki (2) 1209), (1209, s_add 1210), (1210, s_scr LL xx 1211), (1211, s_al 0 1212), (1212, s_il 3 1213), (1213, s_ki (3) 1214), (1214, s_add 1215), (1215, s_scr LL xx 1216), (1216, s_al 0 1217), (1217, s_il 3 1218), (1218, s_ki (4) 1219), (1219, s_add 1220), (1220, s_scr LL xx 1221), (1221, s_al 0 1222), (1222, s_il 3 1223), (1223, s_ki (5) 1224), (1224, s_add 1225), (1225, s_scr LL xx 1226), (1226, s_lcv 5 M_X5_copy 5 1229), (1229, s_al 2 1230), (1230, s_al 0 1231), (1231, s_il 3 1232), (1232, s_ki (1) 1233), (1233, s_add 1234), (1234, s_scr LL xx 1235), (1235, s_al 0 1236), (1236, s_il 3 1237), (1237, s_ki (2) 1238), (1238, s_add 1239), (1239, s_scr LL xx 1240), (1240, s_al 0 1241), (1241, s_il 3 1242), (1242, s_ki (3) 1243), (1243, s_add 1244), (1244, s_scr LL xx 1245), (1245, s_al 0 1246), (1246, s_il 3 1247), (1247, s_ki (4) 1248), (1248, s_add 1249), (1249, s_scr LL xx 1250), (1250, s_al 0 1251), (1251, s_il 3 1252), (1252, s_ki (5) 1253), (1253, s_add 1254), (1254, s_scr LL xx 1255), (1255, s_lcv 6 M_X6_copy 5 1258), (1258, s_ieq 1263)]
set_option maxRecDepth 100000 in
set_option maxHeartbeats 4000000 in
theorem okL_copy : lq_okP PL_copy := fun X bb LL xx =>
  lq_oc (lq_n_aload_n (k := 1) (by decide +kernel)) <|
  lq_oc (lq_n_aload_n (k := 0) (by decide +kernel)) <|
  lq_oc (lq_n_iload_n (k := 3) (by decide +kernel)) <|
  lq_oc (lq_n_iconst (z := 1) (by decide +kernel)) <|
  lq_oc (lq_n_iadd (by decide +kernel)) <|
  lq_oc (lq_n_iaload (by decide +kernel)) <|
  lq_oc (lq_n_aload_n (k := 0) (by decide +kernel)) <|
  lq_oc (lq_n_iload_n (k := 3) (by decide +kernel)) <|
  lq_oc (lq_n_iconst (z := 2) (by decide +kernel)) <|
  lq_oc (lq_n_iadd (by decide +kernel)) <|
  lq_oc (lq_n_iaload (by decide +kernel)) <|
  lq_oc (lq_n_aload_n (k := 0) (by decide +kernel)) <|
  lq_oc (lq_n_iload_n (k := 3) (by decide +kernel)) <|
  lq_oc (lq_n_iconst (z := 3) (by decide +kernel)) <|
  lq_oc (lq_n_iadd (by decide +kernel)) <|
  lq_oc (lq_n_iaload (by decide +kernel)) <|
  lq_oc (lq_n_aload_n (k := 0) (by decide +kernel)) <|
  lq_oc (lq_n_iload_n (k := 3) (by decide +kernel)) <|
  lq_oc (lq_n_iconst (z := 4) (by decide +kernel)) <|
  lq_oc (lq_n_iadd (by decide +kernel)) <|
  lq_oc (lq_n_iaload (by decide +kernel)) <|
  lq_oc (lq_n_aload_n (k := 0) (by decide +kernel)) <|
  lq_oc (lq_n_iload_n (k := 3) (by decide +kernel)) <|
  lq_oc (lq_n_iconst (z := 5) (by decide +kernel)) <|
  lq_oc (lq_n_iadd (by decide +kernel)) <|
  lq_oc (lq_n_iaload (by decide +kernel)) <|
  lq_oc (lq_n_virtual (M' := M_X5_copy) (idx := 150) (n := 5) (ci := 5) (N := 10) (D := RX5) (T := TX5) (by decide +kernel) fn_X5_copy fv_X5_copy rfl rfl l_L_150 ⟨by decide, by decide⟩) <|
  lq_oc (lq_n_aload_n (k := 2) (by decide +kernel)) <|
  lq_oc (lq_n_aload_n (k := 0) (by decide +kernel)) <|
  lq_oc (lq_n_iload_n (k := 3) (by decide +kernel)) <|
  lq_oc (lq_n_iconst (z := 1) (by decide +kernel)) <|
  lq_oc (lq_n_iadd (by decide +kernel)) <|
  lq_oc (lq_n_iaload (by decide +kernel)) <|
  lq_oc (lq_n_aload_n (k := 0) (by decide +kernel)) <|
  lq_oc (lq_n_iload_n (k := 3) (by decide +kernel)) <|
  lq_oc (lq_n_iconst (z := 2) (by decide +kernel)) <|
  lq_oc (lq_n_iadd (by decide +kernel)) <|
  lq_oc (lq_n_iaload (by decide +kernel)) <|
  lq_oc (lq_n_aload_n (k := 0) (by decide +kernel)) <|
  lq_oc (lq_n_iload_n (k := 3) (by decide +kernel)) <|
  lq_oc (lq_n_iconst (z := 3) (by decide +kernel)) <|
  lq_oc (lq_n_iadd (by decide +kernel)) <|
  lq_oc (lq_n_iaload (by decide +kernel)) <|
  lq_oc (lq_n_aload_n (k := 0) (by decide +kernel)) <|
  lq_oc (lq_n_iload_n (k := 3) (by decide +kernel)) <|
  lq_oc (lq_n_iconst (z := 4) (by decide +kernel)) <|
  lq_oc (lq_n_iadd (by decide +kernel)) <|
  lq_oc (lq_n_iaload (by decide +kernel)) <|
  lq_oc (lq_n_aload_n (k := 0) (by decide +kernel)) <|
  lq_oc (lq_n_iload_n (k := 3) (by decide +kernel)) <|
  lq_oc (lq_n_iconst (z := 5) (by decide +kernel)) <|
  lq_oc (lq_n_iadd (by decide +kernel)) <|
  lq_oc (lq_n_iaload (by decide +kernel)) <|
  lq_oc (lq_n_virtual (M' := M_X6_copy) (idx := 153) (n := 5) (ci := 6) (N := 16) (D := RX6) (T := TX6) (by decide +kernel) fn_X6_copy fv_X6_copy rfl rfl l_L_153 ⟨by decide, by decide⟩) <|
  lq_oc (lq_n_ieq (off := 5) (tgt := 1263) (by decide +kernel) (by decide)) <|
  lq_on
