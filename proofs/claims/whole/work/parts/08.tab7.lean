def M_X6_image : nv_MD := (RX6, yX6_image, cX6_image, 1, (some .int), 1, 25)
theorem fn_X6_image : nv_fn M_X6_image 0 := ⟨List.mem_of_getElem? (i := 1029) (by decide +kernel), List.mem_of_getElem? (i := 50) (by decide +kernel), by decide +kernel⟩
theorem fv_X6_image : nv_fnV M_X6_image := ⟨List.mem_of_getElem? (i := 1027) (by decide +kernel), List.mem_of_getElem? (i := 1028) (by decide +kernel)⟩
def P_X6_image : nv_Pg := [(0, s_al 0 1), (1, s_gf 6 7 4), (4, s_ki (0) 5), (5, s_al 0 6), (6, s_gf 6 10 9), (9, s_ki (0) 10), (10, s_ki (171) 13), (13, s_cs M_X6_bring 5 16), (16, s_al 0 17), (17, s_ki (1) 18), (18, s_pz 6 11 21), (21, s_ki (1) 22), (22, s_ir)]
set_option maxRecDepth 100000 in
set_option maxHeartbeats 4000000 in
theorem ok_X6_image : nv_ok_P M_X6_image P_X6_image :=
  nv_oc (n_aload_n (k := 0) (by decide +kernel)) <|
  nv_oc (n_getfield (idx := 23) (ci := 6) (k := 7) (N := 16) (D := RX6) (T := TX6) (by decide +kernel) rfl i_X6 (by decide) (by decide) f_X6_23) <|
  nv_oc (n_iconst (z := 0) (by decide +kernel)) <|
  nv_oc (n_aload_n (k := 0) (by decide +kernel)) <|
  nv_oc (n_getfield (idx := 32) (ci := 6) (k := 10) (N := 16) (D := RX6) (T := TX6) (by decide +kernel) rfl i_X6 (by decide) (by decide) f_X6_32) <|
  nv_oc (n_iconst (z := 0) (by decide +kernel)) <|
  nv_oc (n_sipush (z := 171) (by decide +kernel) (by decide)) <|
  nv_oc (n_static (M' := M_X6_bring) (idx := 107) (n := 5) (by decide +kernel) fn_X6_bring st_X6_bring l_X6_107 ⟨by decide, by decide⟩) <|
  nv_oc (n_aload_n (k := 0) (by decide +kernel)) <|
  nv_oc (n_iconst (z := 1) (by decide +kernel)) <|
  nv_oc (n_putbool (idx := 173) (ci := 6) (k := 11) (N := 16) (D := RX6) (T := TX6) tyX6 tyX6_ok nmX6 (by decide +kernel) rfl i_X6 (by decide) (by decide) rfl f_X6_173 rfl) <|
  nv_oc (n_iconst (z := 1) (by decide +kernel)) <|
  nv_oc (n_iret (by decide +kernel) rfl) <|
  nv_on
def M_X6_restore : nv_MD := (RX6, yX6_restore, cX6_restore, 1, (some .int), 1, 25)
theorem fn_X6_restore : nv_fn M_X6_restore 0 := ⟨List.mem_of_getElem? (i := 1033) (by decide +kernel), List.mem_of_getElem? (i := 50) (by decide +kernel), by decide +kernel⟩
theorem fv_X6_restore : nv_fnV M_X6_restore := ⟨List.mem_of_getElem? (i := 1031) (by decide +kernel), List.mem_of_getElem? (i := 1032) (by decide +kernel)⟩
def P_X6_restore : nv_Pg := [(0, s_al 0 1), (1, s_gf 6 11 4), (4, s_if c_eq 7 10), (7, s_ki (-4) 9), (9, s_ir), (10, s_al 0 11), (11, s_gf 6 10 14), (14, s_ki (0) 15), (15, s_al 0 16), (16, s_gf 6 7 19), (19, s_ki (0) 20), (20, s_ki (171) 23), (23, s_cs M_X6_bring 5 26), (26, s_ki (1) 27), (27, s_ir)]
set_option maxRecDepth 100000 in
set_option maxHeartbeats 4000000 in
theorem ok_X6_restore : nv_ok_P M_X6_restore P_X6_restore :=
  nv_oc (n_aload_n (k := 0) (by decide +kernel)) <|
  nv_oc (n_getfield (idx := 173) (ci := 6) (k := 11) (N := 16) (D := RX6) (T := TX6) (by decide +kernel) rfl i_X6 (by decide) (by decide) f_X6_173) <|
  nv_oc (n_if_ne (off := 6) (tgt := 10) (by decide +kernel) (by decide)) <|
  nv_oc (n_bipush (z := -4) (by decide +kernel) (by decide)) <|
  nv_oc (n_iret (by decide +kernel) rfl) <|
  nv_oc (n_aload_n (k := 0) (by decide +kernel)) <|
  nv_oc (n_getfield (idx := 32) (ci := 6) (k := 10) (N := 16) (D := RX6) (T := TX6) (by decide +kernel) rfl i_X6 (by decide) (by decide) f_X6_32) <|
  nv_oc (n_iconst (z := 0) (by decide +kernel)) <|
  nv_oc (n_aload_n (k := 0) (by decide +kernel)) <|
  nv_oc (n_getfield (idx := 23) (ci := 6) (k := 7) (N := 16) (D := RX6) (T := TX6) (by decide +kernel) rfl i_X6 (by decide) (by decide) f_X6_23) <|
  nv_oc (n_iconst (z := 0) (by decide +kernel)) <|
  nv_oc (n_sipush (z := 171) (by decide +kernel) (by decide)) <|
  nv_oc (n_static (M' := M_X6_bring) (idx := 107) (n := 5) (by decide +kernel) fn_X6_bring st_X6_bring l_X6_107 ⟨by decide, by decide⟩) <|
  nv_oc (n_iconst (z := 1) (by decide +kernel)) <|
  nv_oc (n_iret (by decide +kernel) rfl) <|
  nv_on
def M_X6_isSheet : nv_MD := (RX6, yX6_isSheet, cX6_isSheet, 1, (some .boolean), 1, 22)
theorem fn_X6_isSheet : nv_fn M_X6_isSheet 1 := ⟨List.mem_of_getElem? (i := 1040) (by decide +kernel), List.mem_of_getElem? (i := 50) (by decide +kernel), by decide +kernel⟩
theorem st_X6_isSheet : Cond.static (nv_y M_X6_isSheet) ∈ lw_tbl := List.mem_of_getElem? (i := 1039) (by decide +kernel)
def P_X6_isSheet : nv_Pg := [(0, s_il 0 1), (1, s_ki (0) 2), (2, s_ki (3) 3), (3, s_cs M_X6_in 3 6), (6, s_zr)]
set_option maxRecDepth 100000 in
set_option maxHeartbeats 4000000 in
theorem ok_X6_isSheet : nv_ok_P M_X6_isSheet P_X6_isSheet :=
  nv_oc (n_iload_n (k := 0) (by decide +kernel)) <|
  nv_oc (n_iconst (z := 0) (by decide +kernel)) <|
  nv_oc (n_iconst (z := 3) (by decide +kernel)) <|
  nv_oc (n_static (M' := M_X6_in) (idx := 41) (n := 3) (by decide +kernel) fn_X6_in st_X6_in l_X6_41 ⟨by decide, by decide⟩) <|
  nv_oc (n_zret (by decide +kernel) rfl) <|
  nv_on
def M_X6_isPart : nv_MD := (RX6, yX6_isPart, cX6_isPart, 3, (some .boolean), 0, 0)
theorem fn_X6_isPart : nv_fn M_X6_isPart 3 := ⟨List.mem_of_getElem? (i := 1047) (by decide +kernel), List.mem_of_getElem? (i := 50) (by decide +kernel), by decide +kernel⟩
theorem st_X6_isPart : Cond.static (nv_y M_X6_isPart) ∈ lw_tbl := List.mem_of_getElem? (i := 1046) (by decide +kernel)
def P_X6_isPart : nv_Pg := [(0, s_il 1 1), (1, s_if c_lt 24 4), (4, s_il 0 5), (5, s_if c_lt 24 8), (8, s_il 1 9), (9, s_il 2 10), (10, s_ic c_gt 24 13), (13, s_il 0 14), (14, s_il 2 15), (15, s_il 1 16), (16, s_sub 17), (17, s_ic c_gt 24 20), (20, s_ki (1) 21), (21, s_go 25), (24, s_ki (0) 25), (25, s_zr)]
set_option maxRecDepth 100000 in
set_option maxHeartbeats 4000000 in
theorem ok_X6_isPart : nv_ok_P M_X6_isPart P_X6_isPart :=
  nv_oc (n_iload_n (k := 1) (by decide +kernel)) <|
  nv_oc (n_if_lt (off := 23) (tgt := 24) (by decide +kernel) (by decide)) <|
  nv_oc (n_iload_n (k := 0) (by decide +kernel)) <|
  nv_oc (n_if_lt (off := 19) (tgt := 24) (by decide +kernel) (by decide)) <|
  nv_oc (n_iload_n (k := 1) (by decide +kernel)) <|
  nv_oc (n_iload_n (k := 2) (by decide +kernel)) <|
  nv_oc (n_icmp_gt (off := 14) (tgt := 24) (by decide +kernel) (by decide)) <|
  nv_oc (n_iload_n (k := 0) (by decide +kernel)) <|
  nv_oc (n_iload_n (k := 2) (by decide +kernel)) <|
  nv_oc (n_iload_n (k := 1) (by decide +kernel)) <|
  nv_oc (n_isub (by decide +kernel)) <|
  nv_oc (n_icmp_gt (off := 7) (tgt := 24) (by decide +kernel) (by decide)) <|
  nv_oc (n_iconst (z := 1) (by decide +kernel)) <|
  nv_oc (n_goto (off := 4) (tgt := 25) (by decide +kernel) (by decide)) <|
  nv_oc (n_iconst (z := 0) (by decide +kernel)) <|
  nv_oc (n_zret (by decide +kernel) rfl) <|
  nv_on
def M_X6_wrong : nv_MD := (RX6, yX6_wrong, cX6_wrong, 5, (some .int), 1, 22)
theorem fn_X6_wrong : nv_fn M_X6_wrong 4 := ⟨List.mem_of_getElem? (i := 1044) (by decide +kernel), List.mem_of_getElem? (i := 50) (by decide +kernel), by decide +kernel⟩
theorem fv_X6_wrong : nv_fnV M_X6_wrong := ⟨List.mem_of_getElem? (i := 1043) (by decide +kernel), List.mem_of_getElem? (i := 41) (by decide +kernel)⟩
def P_X6_wrong : nv_Pg := [(0, s_al 0 1), (1, s_gf 6 0 4), (4, s_il 1 5), (5, s_ia 6), (6, s_if c_ge 14 9), (9, s_ki (-11) 11), (11, s_go 50), (14, s_al 0 15), (15, s_gf 6 0 18), (18, s_il 1 19), (19, s_ia 20), (20, s_il 2 21), (21, s_ic c_eq 29 24), (24, s_ki (-12) 26), (26, s_go 50), (29, s_il 3 30), (30, s_il 4 32), (32, s_al 0 33), (33, s_gf 6 1 36), (36, s_il 1 37), (37, s_ia 38), (38, s_cs M_X6_isPart 3 41), (41, s_if c_eq 48 44), (44, s_ki (0) 45), (45, s_go 50), (48, s_ki (-13) 50), (50, s_ir)]
set_option maxRecDepth 100000 in
set_option maxHeartbeats 4000000 in
theorem ok_X6_wrong : nv_ok_P M_X6_wrong P_X6_wrong :=
  nv_oc (n_aload_n (k := 0) (by decide +kernel)) <|
  nv_oc (n_getfield (idx := 7) (ci := 6) (k := 0) (N := 16) (D := RX6) (T := TX6) (by decide +kernel) rfl i_X6 (by decide) (by decide) f_X6_7) <|
  nv_oc (n_iload_n (k := 1) (by decide +kernel)) <|
  nv_oc (n_iaload (by decide +kernel)) <|
  nv_oc (n_if_ge (off := 8) (tgt := 14) (by decide +kernel) (by decide)) <|
  nv_oc (n_bipush (z := -11) (by decide +kernel) (by decide)) <|
  nv_oc (n_goto (off := 39) (tgt := 50) (by decide +kernel) (by decide)) <|
  nv_oc (n_aload_n (k := 0) (by decide +kernel)) <|
  nv_oc (n_getfield (idx := 7) (ci := 6) (k := 0) (N := 16) (D := RX6) (T := TX6) (by decide +kernel) rfl i_X6 (by decide) (by decide) f_X6_7) <|
  nv_oc (n_iload_n (k := 1) (by decide +kernel)) <|
  nv_oc (n_iaload (by decide +kernel)) <|
  nv_oc (n_iload_n (k := 2) (by decide +kernel)) <|
  nv_oc (n_icmp_eq (off := 8) (tgt := 29) (by decide +kernel) (by decide)) <|
  nv_oc (n_bipush (z := -12) (by decide +kernel) (by decide)) <|
  nv_oc (n_goto (off := 24) (tgt := 50) (by decide +kernel) (by decide)) <|
  nv_oc (n_iload_n (k := 3) (by decide +kernel)) <|
  nv_oc (n_iload (k := 4) (by decide +kernel)) <|
  nv_oc (n_aload_n (k := 0) (by decide +kernel)) <|
  nv_oc (n_getfield (idx := 13) (ci := 6) (k := 1) (N := 16) (D := RX6) (T := TX6) (by decide +kernel) rfl i_X6 (by decide) (by decide) f_X6_13) <|
  nv_oc (n_iload_n (k := 1) (by decide +kernel)) <|
  nv_oc (n_iaload (by decide +kernel)) <|
  nv_oc (n_static (M' := M_X6_isPart) (idx := 177) (n := 3) (by decide +kernel) fn_X6_isPart st_X6_isPart l_X6_177 ⟨by decide, by decide⟩) <|
  nv_oc (n_if_eq (off := 7) (tgt := 48) (by decide +kernel) (by decide)) <|
  nv_oc (n_iconst (z := 0) (by decide +kernel)) <|
  nv_oc (n_goto (off := 5) (tgt := 50) (by decide +kernel) (by decide)) <|
  nv_oc (n_bipush (z := -13) (by decide +kernel) (by decide)) <|
  nv_oc (n_iret (by decide +kernel) rfl) <|
  nv_on
def M_X6_isDust : nv_MD := (RX6, yX6_isDust, cX6_isDust, 7, (some .boolean), 3, 66)
theorem fn_X6_isDust : nv_fn M_X6_isDust 4 := ⟨List.mem_of_getElem? (i := 1051) (by decide +kernel), List.mem_of_getElem? (i := 50) (by decide +kernel), by decide +kernel⟩
theorem fv_X6_isDust : nv_fnV M_X6_isDust := ⟨List.mem_of_getElem? (i := 1050) (by decide +kernel), List.mem_of_getElem? (i := 42) (by decide +kernel)⟩
def P_X6_isDust : nv_Pg := [(0, s_ki (1) 1), (1, s_is 5 3), (3, s_ki (0) 4), (4, s_is 6 6), (6, s_il 6 8), (8, s_il 4 10), (10, s_ic c_ge 67 13), (13, s_il 5 15), (15, s_if c_eq 67 18), (18, s_al 0 19), (19, s_al 0 20), (20, s_gf 6 8 23), (23, s_ki (0) 24), (24, s_cv 6 M_X6_hourIn 2 27), (27, s_al 0 28), (28, s_gf 6 8 31), (31, s_ki (2) 32), (32, s_il 1 33), (33, s_add 34), (34, s_ia 35), (35, s_i2l 36), (36, s_al 0 37), (37, s_gf 6 2 40), (40, s_ki (24) 42), (42, s_il 2 43), (43, s_mul 44), (44, s_il 3 45), (45, s_add 46), (46, s_il 6 48), (48, s_add 49), (49, s_la 50), (50, s_lcmp 51), (51, s_if c_eq 54 58), (54, s_ki (1) 55), (55, s_go 59), (58, s_ki (0) 59), (59, s_is 5 61), (61, s_inc 6 (1) 64), (64, s_go 6), (67, s_il 5 69), (69, s_zr)]
set_option maxRecDepth 100000 in
set_option maxHeartbeats 4000000 in
theorem ok_X6_isDust : nv_ok_P M_X6_isDust P_X6_isDust :=
  nv_oc (n_iconst (z := 1) (by decide +kernel)) <|
  nv_oc (n_istore (k := 5) (by decide +kernel) (by decide)) <|
  nv_oc (n_iconst (z := 0) (by decide +kernel)) <|
  nv_oc (n_istore (k := 6) (by decide +kernel) (by decide)) <|
  nv_oc (n_iload (k := 6) (by decide +kernel)) <|
  nv_oc (n_iload (k := 4) (by decide +kernel)) <|
  nv_oc (n_icmp_ge (off := 57) (tgt := 67) (by decide +kernel) (by decide)) <|
  nv_oc (n_iload (k := 5) (by decide +kernel)) <|
  nv_oc (n_if_eq (off := 52) (tgt := 67) (by decide +kernel) (by decide)) <|
  nv_oc (n_aload_n (k := 0) (by decide +kernel)) <|
  nv_oc (n_aload_n (k := 0) (by decide +kernel)) <|
  nv_oc (n_getfield (idx := 26) (ci := 6) (k := 8) (N := 16) (D := RX6) (T := TX6) (by decide +kernel) rfl i_X6 (by decide) (by decide) f_X6_26) <|
  nv_oc (n_iconst (z := 0) (by decide +kernel)) <|
  nv_oc (n_virtual (M' := M_X6_hourIn) (idx := 134) (n := 2) (ci := 6) (N := 16) (D := RX6) (T := TX6) (by decide +kernel) fn_X6_hourIn fv_X6_hourIn rfl rfl l_X6_134 ⟨by decide, by decide⟩) <|
  nv_oc (n_aload_n (k := 0) (by decide +kernel)) <|
  nv_oc (n_getfield (idx := 26) (ci := 6) (k := 8) (N := 16) (D := RX6) (T := TX6) (by decide +kernel) rfl i_X6 (by decide) (by decide) f_X6_26) <|
  nv_oc (n_iconst (z := 2) (by decide +kernel)) <|
  nv_oc (n_iload_n (k := 1) (by decide +kernel)) <|
  nv_oc (n_iadd (by decide +kernel)) <|
  nv_oc (n_iaload (by decide +kernel)) <|
  nv_oc (n_i2l (by decide +kernel)) <|
  nv_oc (n_aload_n (k := 0) (by decide +kernel)) <|
  nv_oc (n_getfield (idx := 16) (ci := 6) (k := 2) (N := 16) (D := RX6) (T := TX6) (by decide +kernel) rfl i_X6 (by decide) (by decide) f_X6_16) <|
  nv_oc (n_bipush (z := 24) (by decide +kernel) (by decide)) <|
  nv_oc (n_iload_n (k := 2) (by decide +kernel)) <|
  nv_oc (n_imul (by decide +kernel)) <|
  nv_oc (n_iload_n (k := 3) (by decide +kernel)) <|
  nv_oc (n_iadd (by decide +kernel)) <|
  nv_oc (n_iload (k := 6) (by decide +kernel)) <|
  nv_oc (n_iadd (by decide +kernel)) <|
  nv_oc (n_laload (by decide +kernel)) <|
  nv_oc (n_lcmp (by decide +kernel)) <|
  nv_oc (n_if_ne (off := 7) (tgt := 58) (by decide +kernel) (by decide)) <|
  nv_oc (n_iconst (z := 1) (by decide +kernel)) <|
  nv_oc (n_goto (off := 4) (tgt := 59) (by decide +kernel) (by decide)) <|
  nv_oc (n_iconst (z := 0) (by decide +kernel)) <|
  nv_oc (n_istore (k := 5) (by decide +kernel) (by decide)) <|
  nv_oc (n_iinc (k := 6) (d := 1) (by decide +kernel) (by decide)) <|
  nv_oc (n_goto (off := -58) (tgt := 6) (by decide +kernel) (by decide)) <|
  nv_oc (n_iload (k := 5) (by decide +kernel)) <|
  nv_oc (n_zret (by decide +kernel) rfl) <|
  nv_on
def M_X6_dust : nv_MD := (RX6, yX6_dust, cX6_dust, 11, (some .int), 4, 92)
theorem fn_X6_dust : nv_fn M_X6_dust 7 := ⟨List.mem_of_getElem? (i := 1037) (by decide +kernel), List.mem_of_getElem? (i := 50) (by decide +kernel), by decide +kernel⟩
theorem fv_X6_dust : nv_fnV M_X6_dust := ⟨List.mem_of_getElem? (i := 1035) (by decide +kernel), List.mem_of_getElem? (i := 1036) (by decide +kernel)⟩
def P_X6_dust : nv_Pg := [(0, s_al 0 1), (1, s_il 1 2), (2, s_cv 6 M_X6_isPlank 1 5), (5, s_if c_eq 54 8), (8, s_al 0 9), (9, s_il 2 10), (10, s_cv 6 M_X6_isSawyer 1 13), (13, s_if c_eq 54 16), (16, s_il 3 17), (17, s_cs M_X6_isSheet 1 20), (20, s_if c_eq 54 23), (23, s_il 4 25), (25, s_ki (0) 26), (26, s_ki (3) 27), (27, s_cs M_X6_in 3 30), (30, s_if c_eq 54 33), (33, s_il 6 35), (35, s_ki (1) 36), (36, s_ki (8) 38), (38, s_cs M_X6_in 3 41), (41, s_if c_eq 54 44), (44, s_il 7 46), (46, s_ki (0) 47), (47, s_ki (2) 48), (48, s_cs M_X6_in 3 51), (51, s_if c_eq 54 56), (54, s_ki (-1) 55), (55, s_ir), (56, s_al 0 57), (57, s_il 3 58), (58, s_il 4 60), (60, s_il 5 62), (62, s_il 6 64), (64, s_cv 6 M_X6_wrong 4 67), (67, s_is 8 69), (69, s_il 8 71), (71, s_if c_eq 77 74), (74, s_il 8 76), (76, s_ir), (77, s_ki (0) 78), (78, s_is 9 80), (80, s_ki (0) 81), (81, s_is 10 83), (83, s_il 10 85), (85, s_il 7 87), (87, s_if c_eq 90 94), (90, s_ki (4) 91), (91, s_go 114), (94, s_il 7 96), (96, s_ki (1) 97), (97, s_ic c_eq 100 105), (100, s_ki (9) 102), (102, s_go 114), (105, s_al 0 106), (106, s_gf 6 7 109), (109, s_ki (17) 111), (111, s_ia 112), (112, s_ki (1) 113), (113, s_sub 114), (114, s_ic c_gt 185 117), (117, s_al 0 118), (118, s_cv 6 M_X6_begin 0 121), (121, s_al 0 122), (122, s_gf 6 8 125), (125, s_il 7 127), (127, s_if c_eq 130 135), (130, s_ki (29) 132), (132, s_go 148), (135, s_il 7 137), (137, s_ki (1) 138), (138, s_ic c_eq 141 146), (141, s_ki (7) 143), (143, s_go 148), (146, s_ki (12) 148), (148, s_il 2 149), (149, s_add 150), (150, s_il 10 152), (152, s_iw 153), (153, s_il 9 155), (155, s_al 0 156), (156, s_il 1 157), (157, s_il 3 158), (158, s_il 5 160), (160, s_il 6 162), (162, s_cv 6 M_X6_isDust 4 165), (165, s_if c_eq 175 168), (168, s_ki (1) 169), (169, s_il 10 171), (171, s_sl 172), (172, s_go 176), (175, s_ki (0) 176), (176, s_b nv_or 177), (177, s_is 9 179), (179, s_inc 10 (1) 182), (182, s_go 83), (185, s_il 9 187), (187, s_ir)]
set_option maxRecDepth 100000 in
set_option maxHeartbeats 4000000 in
theorem ok_X6_dust : nv_ok_P M_X6_dust P_X6_dust :=
  nv_oc (n_aload_n (k := 0) (by decide +kernel)) <|
  nv_oc (n_iload_n (k := 1) (by decide +kernel)) <|
  nv_oc (n_virtual (M' := M_X6_isPlank) (idx := 56) (n := 1) (ci := 6) (N := 16) (D := RX6) (T := TX6) (by decide +kernel) fn_X6_isPlank fv_X6_isPlank rfl rfl l_X6_56 ⟨by decide, by decide⟩) <|
  nv_oc (n_if_eq (off := 49) (tgt := 54) (by decide +kernel) (by decide)) <|
  nv_oc (n_aload_n (k := 0) (by decide +kernel)) <|
  nv_oc (n_iload_n (k := 2) (by decide +kernel)) <|
  nv_oc (n_virtual (M' := M_X6_isSawyer) (idx := 67) (n := 1) (ci := 6) (N := 16) (D := RX6) (T := TX6) (by decide +kernel) fn_X6_isSawyer fv_X6_isSawyer rfl rfl l_X6_67 ⟨by decide, by decide⟩) <|
  nv_oc (n_if_eq (off := 41) (tgt := 54) (by decide +kernel) (by decide)) <|
  nv_oc (n_iload_n (k := 3) (by decide +kernel)) <|
  nv_oc (n_static (M' := M_X6_isSheet) (idx := 180) (n := 1) (by decide +kernel) fn_X6_isSheet st_X6_isSheet l_X6_180 ⟨by decide, by decide⟩) <|
  nv_oc (n_if_eq (off := 34) (tgt := 54) (by decide +kernel) (by decide)) <|
  nv_oc (n_iload (k := 4) (by decide +kernel)) <|
  nv_oc (n_iconst (z := 0) (by decide +kernel)) <|
  nv_oc (n_iconst (z := 3) (by decide +kernel)) <|
  nv_oc (n_static (M' := M_X6_in) (idx := 41) (n := 3) (by decide +kernel) fn_X6_in st_X6_in l_X6_41 ⟨by decide, by decide⟩) <|
  nv_oc (n_if_eq (off := 24) (tgt := 54) (by decide +kernel) (by decide)) <|
  nv_oc (n_iload (k := 6) (by decide +kernel)) <|
  nv_oc (n_iconst (z := 1) (by decide +kernel)) <|
  nv_oc (n_bipush (z := 8) (by decide +kernel) (by decide)) <|
  nv_oc (n_static (M' := M_X6_in) (idx := 41) (n := 3) (by decide +kernel) fn_X6_in st_X6_in l_X6_41 ⟨by decide, by decide⟩) <|
  nv_oc (n_if_eq (off := 13) (tgt := 54) (by decide +kernel) (by decide)) <|
  nv_oc (n_iload (k := 7) (by decide +kernel)) <|
  nv_oc (n_iconst (z := 0) (by decide +kernel)) <|
  nv_oc (n_iconst (z := 2) (by decide +kernel)) <|
  nv_oc (n_static (M' := M_X6_in) (idx := 41) (n := 3) (by decide +kernel) fn_X6_in st_X6_in l_X6_41 ⟨by decide, by decide⟩) <|
  nv_oc (n_if_ne (off := 5) (tgt := 56) (by decide +kernel) (by decide)) <|
  nv_oc (n_iconst (z := -1) (by decide +kernel)) <|
  nv_oc (n_iret (by decide +kernel) rfl) <|
  nv_oc (n_aload_n (k := 0) (by decide +kernel)) <|
  nv_oc (n_iload_n (k := 3) (by decide +kernel)) <|
  nv_oc (n_iload (k := 4) (by decide +kernel)) <|
  nv_oc (n_iload (k := 5) (by decide +kernel)) <|
  nv_oc (n_iload (k := 6) (by decide +kernel)) <|
  nv_oc (n_virtual (M' := M_X6_wrong) (idx := 183) (n := 4) (ci := 6) (N := 16) (D := RX6) (T := TX6) (by decide +kernel) fn_X6_wrong fv_X6_wrong rfl rfl l_X6_183 ⟨by decide, by decide⟩) <|
  nv_oc (n_istore (k := 8) (by decide +kernel) (by decide)) <|
  nv_oc (n_iload (k := 8) (by decide +kernel)) <|
  nv_oc (n_if_eq (off := 6) (tgt := 77) (by decide +kernel) (by decide)) <|
  nv_oc (n_iload (k := 8) (by decide +kernel)) <|
  nv_oc (n_iret (by decide +kernel) rfl) <|
  nv_oc (n_iconst (z := 0) (by decide +kernel)) <|
  nv_oc (n_istore (k := 9) (by decide +kernel) (by decide)) <|
  nv_oc (n_iconst (z := 0) (by decide +kernel)) <|
  nv_oc (n_istore (k := 10) (by decide +kernel) (by decide)) <|
  nv_oc (n_iload (k := 10) (by decide +kernel)) <|
  nv_oc (n_iload (k := 7) (by decide +kernel)) <|
  nv_oc (n_if_ne (off := 7) (tgt := 94) (by decide +kernel) (by decide)) <|
  nv_oc (n_iconst (z := 4) (by decide +kernel)) <|
  nv_oc (n_goto (off := 23) (tgt := 114) (by decide +kernel) (by decide)) <|
  nv_oc (n_iload (k := 7) (by decide +kernel)) <|
  nv_oc (n_iconst (z := 1) (by decide +kernel)) <|
  nv_oc (n_icmp_ne (off := 8) (tgt := 105) (by decide +kernel) (by decide)) <|
  nv_oc (n_bipush (z := 9) (by decide +kernel) (by decide)) <|
  nv_oc (n_goto (off := 12) (tgt := 114) (by decide +kernel) (by decide)) <|
  nv_oc (n_aload_n (k := 0) (by decide +kernel)) <|
  nv_oc (n_getfield (idx := 23) (ci := 6) (k := 7) (N := 16) (D := RX6) (T := TX6) (by decide +kernel) rfl i_X6 (by decide) (by decide) f_X6_23) <|
  nv_oc (n_bipush (z := 17) (by decide +kernel) (by decide)) <|
  nv_oc (n_iaload (by decide +kernel)) <|
  nv_oc (n_iconst (z := 1) (by decide +kernel)) <|
  nv_oc (n_isub (by decide +kernel)) <|
  nv_oc (n_icmp_gt (off := 71) (tgt := 185) (by decide +kernel) (by decide)) <|
  nv_oc (n_aload_n (k := 0) (by decide +kernel)) <|
  nv_oc (n_virtual (M' := M_X6_begin) (idx := 145) (n := 0) (ci := 6) (N := 16) (D := RX6) (T := TX6) (by decide +kernel) fn_X6_begin fv_X6_begin rfl rfl l_X6_145 ⟨by decide, by decide⟩) <|
  nv_oc (n_aload_n (k := 0) (by decide +kernel)) <|
  nv_oc (n_getfield (idx := 26) (ci := 6) (k := 8) (N := 16) (D := RX6) (T := TX6) (by decide +kernel) rfl i_X6 (by decide) (by decide) f_X6_26) <|
  nv_oc (n_iload (k := 7) (by decide +kernel)) <|
  nv_oc (n_if_ne (off := 8) (tgt := 135) (by decide +kernel) (by decide)) <|
  nv_oc (n_bipush (z := 29) (by decide +kernel) (by decide)) <|
  nv_oc (n_goto (off := 16) (tgt := 148) (by decide +kernel) (by decide)) <|
  nv_oc (n_iload (k := 7) (by decide +kernel)) <|
  nv_oc (n_iconst (z := 1) (by decide +kernel)) <|
  nv_oc (n_icmp_ne (off := 8) (tgt := 146) (by decide +kernel) (by decide)) <|
  nv_oc (n_bipush (z := 7) (by decide +kernel) (by decide)) <|
  nv_oc (n_goto (off := 5) (tgt := 148) (by decide +kernel) (by decide)) <|
  nv_oc (n_bipush (z := 12) (by decide +kernel) (by decide)) <|
  nv_oc (n_iload_n (k := 2) (by decide +kernel)) <|
  nv_oc (n_iadd (by decide +kernel)) <|
  nv_oc (n_iload (k := 10) (by decide +kernel)) <|
  nv_oc (n_iastore (by decide +kernel)) <|
  nv_oc (n_iload (k := 9) (by decide +kernel)) <|
  nv_oc (n_aload_n (k := 0) (by decide +kernel)) <|
  nv_oc (n_iload_n (k := 1) (by decide +kernel)) <|
  nv_oc (n_iload_n (k := 3) (by decide +kernel)) <|
  nv_oc (n_iload (k := 5) (by decide +kernel)) <|
  nv_oc (n_iload (k := 6) (by decide +kernel)) <|
  nv_oc (n_virtual (M' := M_X6_isDust) (idx := 187) (n := 4) (ci := 6) (N := 16) (D := RX6) (T := TX6) (by decide +kernel) fn_X6_isDust fv_X6_isDust rfl rfl l_X6_187 ⟨by decide, by decide⟩) <|
  nv_oc (n_if_eq (off := 10) (tgt := 175) (by decide +kernel) (by decide)) <|
  nv_oc (n_iconst (z := 1) (by decide +kernel)) <|
  nv_oc (n_iload (k := 10) (by decide +kernel)) <|
  nv_oc (n_ishl (by decide +kernel)) <|
  nv_oc (n_goto (off := 4) (tgt := 176) (by decide +kernel) (by decide)) <|
  nv_oc (n_iconst (z := 0) (by decide +kernel)) <|
  nv_oc (n_ior (by decide +kernel)) <|
  nv_oc (n_istore (k := 9) (by decide +kernel) (by decide)) <|
  nv_oc (n_iinc (k := 10) (d := 1) (by decide +kernel) (by decide)) <|
  nv_oc (n_goto (off := -99) (tgt := 83) (by decide +kernel) (by decide)) <|
  nv_oc (n_iload (k := 9) (by decide +kernel)) <|
  nv_oc (n_iret (by decide +kernel) rfl) <|
  nv_on
def M_X6_cutTo : nv_MD := (RX6, yX6_cutTo, cX6_cutTo, 3, (some .long), 0, 0)
theorem fn_X6_cutTo : nv_fn M_X6_cutTo 2 := ⟨List.mem_of_getElem? (i := 1058) (by decide +kernel), List.mem_of_getElem? (i := 50) (by decide +kernel), by decide +kernel⟩
theorem st_X6_cutTo : Cond.static (nv_y M_X6_cutTo) ∈ lw_tbl := List.mem_of_getElem? (i := 1057) (by decide +kernel)
def P_X6_cutTo : nv_Pg := [(0, s_il 0 1), (1, s_if c_eq 4 11), (4, s_ll 1 5), (5, s_l2i 6), (6, s_u1 nv_b8 7), (7, s_i2l 8), (8, s_go 35), (11, s_il 0 12), (12, s_ki (1) 13), (13, s_ic c_eq 16 23), (16, s_ll 1 17), (17, s_l2i 18), (18, s_u1 nv_s16 19), (19, s_i2l 20), (20, s_go 35), (23, s_il 0 24), (24, s_ki (2) 25), (25, s_ic c_eq 28 34), (28, s_ll 1 29), (29, s_l2i 30), (30, s_i2l 31), (31, s_go 35), (34, s_ll 1 35), (35, s_lret)]
set_option maxRecDepth 100000 in
set_option maxHeartbeats 4000000 in
theorem ok_X6_cutTo : nv_ok_P M_X6_cutTo P_X6_cutTo :=
  nv_oc (n_iload_n (k := 0) (by decide +kernel)) <|
  nv_oc (n_if_ne (off := 10) (tgt := 11) (by decide +kernel) (by decide)) <|
  nv_oc (n_lload_n (k := 1) (by decide +kernel)) <|
  nv_oc (n_l2i (by decide +kernel)) <|
  nv_oc (n_i2b (by decide +kernel)) <|
  nv_oc (n_i2l (by decide +kernel)) <|
  nv_oc (n_goto (off := 27) (tgt := 35) (by decide +kernel) (by decide)) <|
  nv_oc (n_iload_n (k := 0) (by decide +kernel)) <|
  nv_oc (n_iconst (z := 1) (by decide +kernel)) <|
  nv_oc (n_icmp_ne (off := 10) (tgt := 23) (by decide +kernel) (by decide)) <|
  nv_oc (n_lload_n (k := 1) (by decide +kernel)) <|
  nv_oc (n_l2i (by decide +kernel)) <|
  nv_oc (n_i2s (by decide +kernel)) <|
  nv_oc (n_i2l (by decide +kernel)) <|
  nv_oc (n_goto (off := 15) (tgt := 35) (by decide +kernel) (by decide)) <|
  nv_oc (n_iload_n (k := 0) (by decide +kernel)) <|
  nv_oc (n_iconst (z := 2) (by decide +kernel)) <|
  nv_oc (n_icmp_ne (off := 9) (tgt := 34) (by decide +kernel) (by decide)) <|
  nv_oc (n_lload_n (k := 1) (by decide +kernel)) <|
  nv_oc (n_l2i (by decide +kernel)) <|
  nv_oc (n_i2l (by decide +kernel)) <|
  nv_oc (n_goto (off := 4) (tgt := 35) (by decide +kernel) (by decide)) <|
  nv_oc (n_lload_n (k := 1) (by decide +kernel)) <|
  nv_oc (n_lret (by decide +kernel) rfl) <|
  nv_on
def M_X6_film : nv_MD := (RX6, yX6_film, cX6_film, 8, (some .int), 3, 66)
theorem fn_X6_film : nv_fn M_X6_film 5 := ⟨List.mem_of_getElem? (i := 1055) (by decide +kernel), List.mem_of_getElem? (i := 50) (by decide +kernel), by decide +kernel⟩
theorem fv_X6_film : nv_fnV M_X6_film := ⟨List.mem_of_getElem? (i := 1053) (by decide +kernel), List.mem_of_getElem? (i := 1054) (by decide +kernel)⟩
def P_X6_film : nv_Pg := [(0, s_al 0 1), (1, s_il 1 2), (2, s_cv 6 M_X6_isPlank 1 5), (5, s_if c_eq 35 8), (8, s_il 2 9), (9, s_ki (1) 10), (10, s_ki (24) 12), (12, s_cs M_X6_in 3 15), (15, s_if c_eq 35 18), (18, s_il 3 19), (19, s_cs M_X6_isSheet 1 22), (22, s_if c_eq 35 25), (25, s_il 4 27), (27, s_ki (0) 28), (28, s_ki (3) 29), (29, s_cs M_X6_in 3 32), (32, s_if c_eq 35 37), (35, s_ki (-1) 36), (36, s_ir), (37, s_al 0 38), (38, s_il 3 39), (39, s_il 4 41), (41, s_il 5 43), (43, s_il 2 44), (44, s_cv 6 M_X6_wrong 4 47), (47, s_is 6 49), (49, s_il 6 51), (51, s_if c_eq 57 54), (54, s_il 6 56), (56, s_ir), (57, s_al 0 58), (58, s_cv 6 M_X6_begin 0 61), (61, s_ki (0) 62), (62, s_is 7 64), (64, s_il 7 66), (66, s_il 2 67), (67, s_ic c_ge 114 70), (70, s_al 0 71), (71, s_al 0 72), (72, s_gf 6 8 75), (75, s_ki (0) 76), (76, s_cv 6 M_X6_hourIn 2 79), (79, s_al 0 80), (80, s_gf 6 2 83), (83, s_ki (24) 85), (85, s_il 3 86), (86, s_mul 87), (87, s_il 5 89), (89, s_add 90), (90, s_il 7 92), (92, s_add 93), (93, s_il 4 95), (95, s_al 0 96), (96, s_gf 6 8 99), (99, s_ki (2) 100), (100, s_il 1 101), (101, s_add 102), (102, s_ia 103), (103, s_i2l 104), (104, s_cs M_X6_cutTo 2 107), (107, s_lw 108), (108, s_inc 7 (1) 111), (111, s_go 64), (114, s_il 2 115), (115, s_ir)]
set_option maxRecDepth 100000 in
set_option maxHeartbeats 4000000 in
theorem ok_X6_film : nv_ok_P M_X6_film P_X6_film :=
  nv_oc (n_aload_n (k := 0) (by decide +kernel)) <|
  nv_oc (n_iload_n (k := 1) (by decide +kernel)) <|
  nv_oc (n_virtual (M' := M_X6_isPlank) (idx := 56) (n := 1) (ci := 6) (N := 16) (D := RX6) (T := TX6) (by decide +kernel) fn_X6_isPlank fv_X6_isPlank rfl rfl l_X6_56 ⟨by decide, by decide⟩) <|
  nv_oc (n_if_eq (off := 30) (tgt := 35) (by decide +kernel) (by decide)) <|
  nv_oc (n_iload_n (k := 2) (by decide +kernel)) <|
  nv_oc (n_iconst (z := 1) (by decide +kernel)) <|
  nv_oc (n_bipush (z := 24) (by decide +kernel) (by decide)) <|
  nv_oc (n_static (M' := M_X6_in) (idx := 41) (n := 3) (by decide +kernel) fn_X6_in st_X6_in l_X6_41 ⟨by decide, by decide⟩) <|
  nv_oc (n_if_eq (off := 20) (tgt := 35) (by decide +kernel) (by decide)) <|
  nv_oc (n_iload_n (k := 3) (by decide +kernel)) <|
  nv_oc (n_static (M' := M_X6_isSheet) (idx := 180) (n := 1) (by decide +kernel) fn_X6_isSheet st_X6_isSheet l_X6_180 ⟨by decide, by decide⟩) <|
  nv_oc (n_if_eq (off := 13) (tgt := 35) (by decide +kernel) (by decide)) <|
  nv_oc (n_iload (k := 4) (by decide +kernel)) <|
  nv_oc (n_iconst (z := 0) (by decide +kernel)) <|
  nv_oc (n_iconst (z := 3) (by decide +kernel)) <|
  nv_oc (n_static (M' := M_X6_in) (idx := 41) (n := 3) (by decide +kernel) fn_X6_in st_X6_in l_X6_41 ⟨by decide, by decide⟩) <|
  nv_oc (n_if_ne (off := 5) (tgt := 37) (by decide +kernel) (by decide)) <|
  nv_oc (n_iconst (z := -1) (by decide +kernel)) <|
  nv_oc (n_iret (by decide +kernel) rfl) <|
  nv_oc (n_aload_n (k := 0) (by decide +kernel)) <|
  nv_oc (n_iload_n (k := 3) (by decide +kernel)) <|
  nv_oc (n_iload (k := 4) (by decide +kernel)) <|
  nv_oc (n_iload (k := 5) (by decide +kernel)) <|
  nv_oc (n_iload_n (k := 2) (by decide +kernel)) <|
  nv_oc (n_virtual (M' := M_X6_wrong) (idx := 183) (n := 4) (ci := 6) (N := 16) (D := RX6) (T := TX6) (by decide +kernel) fn_X6_wrong fv_X6_wrong rfl rfl l_X6_183 ⟨by decide, by decide⟩) <|
  nv_oc (n_istore (k := 6) (by decide +kernel) (by decide)) <|
  nv_oc (n_iload (k := 6) (by decide +kernel)) <|
  nv_oc (n_if_eq (off := 6) (tgt := 57) (by decide +kernel) (by decide)) <|
  nv_oc (n_iload (k := 6) (by decide +kernel)) <|
  nv_oc (n_iret (by decide +kernel) rfl) <|
  nv_oc (n_aload_n (k := 0) (by decide +kernel)) <|
  nv_oc (n_virtual (M' := M_X6_begin) (idx := 145) (n := 0) (ci := 6) (N := 16) (D := RX6) (T := TX6) (by decide +kernel) fn_X6_begin fv_X6_begin rfl rfl l_X6_145 ⟨by decide, by decide⟩) <|
  nv_oc (n_iconst (z := 0) (by decide +kernel)) <|
  nv_oc (n_istore (k := 7) (by decide +kernel) (by decide)) <|
  nv_oc (n_iload (k := 7) (by decide +kernel)) <|
  nv_oc (n_iload_n (k := 2) (by decide +kernel)) <|
  nv_oc (n_icmp_ge (off := 47) (tgt := 114) (by decide +kernel) (by decide)) <|
  nv_oc (n_aload_n (k := 0) (by decide +kernel)) <|
  nv_oc (n_aload_n (k := 0) (by decide +kernel)) <|
  nv_oc (n_getfield (idx := 26) (ci := 6) (k := 8) (N := 16) (D := RX6) (T := TX6) (by decide +kernel) rfl i_X6 (by decide) (by decide) f_X6_26) <|
  nv_oc (n_iconst (z := 0) (by decide +kernel)) <|
  nv_oc (n_virtual (M' := M_X6_hourIn) (idx := 134) (n := 2) (ci := 6) (N := 16) (D := RX6) (T := TX6) (by decide +kernel) fn_X6_hourIn fv_X6_hourIn rfl rfl l_X6_134 ⟨by decide, by decide⟩) <|
  nv_oc (n_aload_n (k := 0) (by decide +kernel)) <|
  nv_oc (n_getfield (idx := 16) (ci := 6) (k := 2) (N := 16) (D := RX6) (T := TX6) (by decide +kernel) rfl i_X6 (by decide) (by decide) f_X6_16) <|
  nv_oc (n_bipush (z := 24) (by decide +kernel) (by decide)) <|
  nv_oc (n_iload_n (k := 3) (by decide +kernel)) <|
  nv_oc (n_imul (by decide +kernel)) <|
  nv_oc (n_iload (k := 5) (by decide +kernel)) <|
  nv_oc (n_iadd (by decide +kernel)) <|
  nv_oc (n_iload (k := 7) (by decide +kernel)) <|
  nv_oc (n_iadd (by decide +kernel)) <|
  nv_oc (n_iload (k := 4) (by decide +kernel)) <|
  nv_oc (n_aload_n (k := 0) (by decide +kernel)) <|
  nv_oc (n_getfield (idx := 26) (ci := 6) (k := 8) (N := 16) (D := RX6) (T := TX6) (by decide +kernel) rfl i_X6 (by decide) (by decide) f_X6_26) <|
  nv_oc (n_iconst (z := 2) (by decide +kernel)) <|
  nv_oc (n_iload_n (k := 1) (by decide +kernel)) <|
  nv_oc (n_iadd (by decide +kernel)) <|
  nv_oc (n_iaload (by decide +kernel)) <|
  nv_oc (n_i2l (by decide +kernel)) <|
  nv_oc (n_static (M' := M_X6_cutTo) (idx := 191) (n := 2) (by decide +kernel) fn_X6_cutTo st_X6_cutTo l_X6_191 ⟨by decide, by decide⟩) <|
  nv_oc (n_lastore (by decide +kernel)) <|
  nv_oc (n_iinc (k := 7) (d := 1) (by decide +kernel) (by decide)) <|
  nv_oc (n_goto (off := -47) (tgt := 64) (by decide +kernel) (by decide)) <|
  nv_oc (n_iload_n (k := 2) (by decide +kernel)) <|
  nv_oc (n_iret (by decide +kernel) rfl) <|
  nv_on
def M_X6_sheet : nv_MD := (RX6, yX6_sheet, cX6_sheet, 5, (some .int), 2, 42)
theorem fn_X6_sheet : nv_fn M_X6_sheet 3 := ⟨List.mem_of_getElem? (i := 1062) (by decide +kernel), List.mem_of_getElem? (i := 50) (by decide +kernel), by decide +kernel⟩
theorem fv_X6_sheet : nv_fnV M_X6_sheet := ⟨List.mem_of_getElem? (i := 1060) (by decide +kernel), List.mem_of_getElem? (i := 1061) (by decide +kernel)⟩
def P_X6_sheet : nv_Pg := [(0, s_il 1 1), (1, s_cs M_X6_isSheet 1 4), (4, s_if c_eq 22 7), (7, s_il 2 8), (8, s_ki (0) 9), (9, s_ki (3) 10), (10, s_cs M_X6_in 3 13), (13, s_if c_eq 22 16), (16, s_il 3 17), (17, s_ki (24) 19), (19, s_ic c_le 24 22), (22, s_ki (-1) 23), (23, s_ir), (24, s_il 3 25), (25, s_if c_ge 31 28), (28, s_ki (-14) 30), (30, s_ir), (31, s_al 0 32), (32, s_gf 6 0 35), (35, s_il 1 36), (36, s_il 2 37), (37, s_iw 38), (38, s_al 0 39), (39, s_gf 6 1 42), (42, s_il 1 43), (43, s_il 3 44), (44, s_iw 45), (45, s_ki (0) 46), (46, s_is 4 48), (48, s_il 4 50), (50, s_ki (24) 52), (52, s_ic c_ge 74 55), (55, s_al 0 56), (56, s_gf 6 2 59), (59, s_ki (24) 61), (61, s_il 1 62), (62, s_mul 63), (63, s_il 4 65), (65, s_add 66), (66, s_kl 0 67), (67, s_lw 68), (68, s_inc 4 (1) 71), (71, s_go 48), (74, s_il 3 75), (75, s_ir)]
set_option maxRecDepth 100000 in
set_option maxHeartbeats 4000000 in
theorem ok_X6_sheet : nv_ok_P M_X6_sheet P_X6_sheet :=
  nv_oc (n_iload_n (k := 1) (by decide +kernel)) <|
  nv_oc (n_static (M' := M_X6_isSheet) (idx := 180) (n := 1) (by decide +kernel) fn_X6_isSheet st_X6_isSheet l_X6_180 ⟨by decide, by decide⟩) <|
  nv_oc (n_if_eq (off := 18) (tgt := 22) (by decide +kernel) (by decide)) <|
  nv_oc (n_iload_n (k := 2) (by decide +kernel)) <|
  nv_oc (n_iconst (z := 0) (by decide +kernel)) <|
  nv_oc (n_iconst (z := 3) (by decide +kernel)) <|
  nv_oc (n_static (M' := M_X6_in) (idx := 41) (n := 3) (by decide +kernel) fn_X6_in st_X6_in l_X6_41 ⟨by decide, by decide⟩) <|
  nv_oc (n_if_eq (off := 9) (tgt := 22) (by decide +kernel) (by decide)) <|
  nv_oc (n_iload_n (k := 3) (by decide +kernel)) <|
  nv_oc (n_bipush (z := 24) (by decide +kernel) (by decide)) <|
  nv_oc (n_icmp_le (off := 5) (tgt := 24) (by decide +kernel) (by decide)) <|
  nv_oc (n_iconst (z := -1) (by decide +kernel)) <|
  nv_oc (n_iret (by decide +kernel) rfl) <|
  nv_oc (n_iload_n (k := 3) (by decide +kernel)) <|
  nv_oc (n_if_ge (off := 6) (tgt := 31) (by decide +kernel) (by decide)) <|
  nv_oc (n_bipush (z := -14) (by decide +kernel) (by decide)) <|
  nv_oc (n_iret (by decide +kernel) rfl) <|
  nv_oc (n_aload_n (k := 0) (by decide +kernel)) <|
  nv_oc (n_getfield (idx := 7) (ci := 6) (k := 0) (N := 16) (D := RX6) (T := TX6) (by decide +kernel) rfl i_X6 (by decide) (by decide) f_X6_7) <|
  nv_oc (n_iload_n (k := 1) (by decide +kernel)) <|
  nv_oc (n_iload_n (k := 2) (by decide +kernel)) <|
  nv_oc (n_iastore (by decide +kernel)) <|
  nv_oc (n_aload_n (k := 0) (by decide +kernel)) <|
  nv_oc (n_getfield (idx := 13) (ci := 6) (k := 1) (N := 16) (D := RX6) (T := TX6) (by decide +kernel) rfl i_X6 (by decide) (by decide) f_X6_13) <|
  nv_oc (n_iload_n (k := 1) (by decide +kernel)) <|
  nv_oc (n_iload_n (k := 3) (by decide +kernel)) <|
  nv_oc (n_iastore (by decide +kernel)) <|
  nv_oc (n_iconst (z := 0) (by decide +kernel)) <|
  nv_oc (n_istore (k := 4) (by decide +kernel) (by decide)) <|
  nv_oc (n_iload (k := 4) (by decide +kernel)) <|
  nv_oc (n_bipush (z := 24) (by decide +kernel) (by decide)) <|
  nv_oc (n_icmp_ge (off := 22) (tgt := 74) (by decide +kernel) (by decide)) <|
  nv_oc (n_aload_n (k := 0) (by decide +kernel)) <|
  nv_oc (n_getfield (idx := 16) (ci := 6) (k := 2) (N := 16) (D := RX6) (T := TX6) (by decide +kernel) rfl i_X6 (by decide) (by decide) f_X6_16) <|
  nv_oc (n_bipush (z := 24) (by decide +kernel) (by decide)) <|
  nv_oc (n_iload_n (k := 1) (by decide +kernel)) <|
  nv_oc (n_imul (by decide +kernel)) <|
  nv_oc (n_iload (k := 4) (by decide +kernel)) <|
  nv_oc (n_iadd (by decide +kernel)) <|
  nv_oc (n_lconst (z := 0) (v := 0) (by decide +kernel) (by decide)) <|
  nv_oc (n_lastore (by decide +kernel)) <|
  nv_oc (n_iinc (k := 4) (d := 1) (by decide +kernel) (by decide)) <|
  nv_oc (n_goto (off := -23) (tgt := 48) (by decide +kernel) (by decide)) <|
  nv_oc (n_iload_n (k := 3) (by decide +kernel)) <|
  nv_oc (n_iret (by decide +kernel) rfl) <|
  nv_on
def M_X6_drop : nv_MD := (RX6, yX6_drop, cX6_drop, 2, (some .int), 2, 42)
theorem fn_X6_drop : nv_fn M_X6_drop 1 := ⟨List.mem_of_getElem? (i := 1066) (by decide +kernel), List.mem_of_getElem? (i := 50) (by decide +kernel), by decide +kernel⟩
theorem fv_X6_drop : nv_fnV M_X6_drop := ⟨List.mem_of_getElem? (i := 1064) (by decide +kernel), List.mem_of_getElem? (i := 1065) (by decide +kernel)⟩
def P_X6_drop : nv_Pg := [(0, s_il 1 1), (1, s_cs M_X6_isSheet 1 4), (4, s_if c_eq 7 9), (7, s_ki (-1) 8), (8, s_ir), (9, s_al 0 10), (10, s_gf 6 0 13), (13, s_il 1 14), (14, s_ia 15), (15, s_if c_ge 21 18), (18, s_ki (-11) 20), (20, s_ir), (21, s_al 0 22), (22, s_gf 6 0 25), (25, s_il 1 26), (26, s_ki (-1) 27), (27, s_iw 28), (28, s_al 0 29), (29, s_gf 6 1 32), (32, s_il 1 33), (33, s_ia 34), (34, s_ir)]
set_option maxRecDepth 100000 in
set_option maxHeartbeats 4000000 in
theorem ok_X6_drop : nv_ok_P M_X6_drop P_X6_drop :=
  nv_oc (n_iload_n (k := 1) (by decide +kernel)) <|
  nv_oc (n_static (M' := M_X6_isSheet) (idx := 180) (n := 1) (by decide +kernel) fn_X6_isSheet st_X6_isSheet l_X6_180 ⟨by decide, by decide⟩) <|
  nv_oc (n_if_ne (off := 5) (tgt := 9) (by decide +kernel) (by decide)) <|
  nv_oc (n_iconst (z := -1) (by decide +kernel)) <|
  nv_oc (n_iret (by decide +kernel) rfl) <|
  nv_oc (n_aload_n (k := 0) (by decide +kernel)) <|
  nv_oc (n_getfield (idx := 7) (ci := 6) (k := 0) (N := 16) (D := RX6) (T := TX6) (by decide +kernel) rfl i_X6 (by decide) (by decide) f_X6_7) <|
  nv_oc (n_iload_n (k := 1) (by decide +kernel)) <|
  nv_oc (n_iaload (by decide +kernel)) <|
  nv_oc (n_if_ge (off := 6) (tgt := 21) (by decide +kernel) (by decide)) <|
  nv_oc (n_bipush (z := -11) (by decide +kernel) (by decide)) <|
  nv_oc (n_iret (by decide +kernel) rfl) <|
  nv_oc (n_aload_n (k := 0) (by decide +kernel)) <|
  nv_oc (n_getfield (idx := 7) (ci := 6) (k := 0) (N := 16) (D := RX6) (T := TX6) (by decide +kernel) rfl i_X6 (by decide) (by decide) f_X6_7) <|
  nv_oc (n_iload_n (k := 1) (by decide +kernel)) <|
  nv_oc (n_iconst (z := -1) (by decide +kernel)) <|
  nv_oc (n_iastore (by decide +kernel)) <|
  nv_oc (n_aload_n (k := 0) (by decide +kernel)) <|
  nv_oc (n_getfield (idx := 13) (ci := 6) (k := 1) (N := 16) (D := RX6) (T := TX6) (by decide +kernel) rfl i_X6 (by decide) (by decide) f_X6_13) <|
  nv_oc (n_iload_n (k := 1) (by decide +kernel)) <|
  nv_oc (n_iaload (by decide +kernel)) <|
  nv_oc (n_iret (by decide +kernel) rfl) <|
  nv_on
def M_X6_item : nv_MD := (RX6, yX6_item, cX6_item, 7, (some .int), 2, 46)
theorem fn_X6_item : nv_fn M_X6_item 4 := ⟨List.mem_of_getElem? (i := 1070) (by decide +kernel), List.mem_of_getElem? (i := 50) (by decide +kernel), by decide +kernel⟩
theorem fv_X6_item : nv_fnV M_X6_item := ⟨List.mem_of_getElem? (i := 1068) (by decide +kernel), List.mem_of_getElem? (i := 1069) (by decide +kernel)⟩
def P_X6_item : nv_Pg := [(0, s_il 1 1), (1, s_cs M_X6_isSheet 1 4), (4, s_if c_eq 16 7), (7, s_il 2 8), (8, s_ki (0) 9), (9, s_ki (3) 10), (10, s_cs M_X6_in 3 13), (13, s_if c_eq 16 18), (16, s_ki (-1) 17), (17, s_ir), (18, s_al 0 19), (19, s_il 1 20), (20, s_il 2 21), (21, s_il 3 22), (22, s_ki (1) 23), (23, s_cv 6 M_X6_wrong 4 26), (26, s_is 6 28), (28, s_il 6 30), (30, s_if c_eq 36 33), (33, s_il 6 35), (35, s_ir), (36, s_al 0 37), (37, s_gf 6 2 40), (40, s_ki (24) 42), (42, s_il 1 43), (43, s_mul 44), (44, s_il 3 45), (45, s_add 46), (46, s_il 2 47), (47, s_if c_eq 50 58), (50, s_ll 4 52), (52, s_l2i 53), (53, s_u1 nv_b8 54), (54, s_i2l 55), (55, s_go 85), (58, s_il 2 59), (59, s_ki (1) 60), (60, s_ic c_eq 63 71), (63, s_ll 4 65), (65, s_l2i 66), (66, s_u1 nv_s16 67), (67, s_i2l 68), (68, s_go 85), (71, s_il 2 72), (72, s_ki (2) 73), (73, s_ic c_eq 76 83), (76, s_ll 4 78), (78, s_l2i 79), (79, s_i2l 80), (80, s_go 85), (83, s_ll 4 85), (85, s_lw 86), (86, s_ki (1) 87), (87, s_ir)]
set_option maxRecDepth 100000 in
set_option maxHeartbeats 4000000 in
theorem ok_X6_item : nv_ok_P M_X6_item P_X6_item :=
  nv_oc (n_iload_n (k := 1) (by decide +kernel)) <|
  nv_oc (n_static (M' := M_X6_isSheet) (idx := 180) (n := 1) (by decide +kernel) fn_X6_isSheet st_X6_isSheet l_X6_180 ⟨by decide, by decide⟩) <|
  nv_oc (n_if_eq (off := 12) (tgt := 16) (by decide +kernel) (by decide)) <|
  nv_oc (n_iload_n (k := 2) (by decide +kernel)) <|
  nv_oc (n_iconst (z := 0) (by decide +kernel)) <|
  nv_oc (n_iconst (z := 3) (by decide +kernel)) <|
  nv_oc (n_static (M' := M_X6_in) (idx := 41) (n := 3) (by decide +kernel) fn_X6_in st_X6_in l_X6_41 ⟨by decide, by decide⟩) <|
  nv_oc (n_if_ne (off := 5) (tgt := 18) (by decide +kernel) (by decide)) <|
  nv_oc (n_iconst (z := -1) (by decide +kernel)) <|
  nv_oc (n_iret (by decide +kernel) rfl) <|
  nv_oc (n_aload_n (k := 0) (by decide +kernel)) <|
  nv_oc (n_iload_n (k := 1) (by decide +kernel)) <|
  nv_oc (n_iload_n (k := 2) (by decide +kernel)) <|
  nv_oc (n_iload_n (k := 3) (by decide +kernel)) <|
  nv_oc (n_iconst (z := 1) (by decide +kernel)) <|
  nv_oc (n_virtual (M' := M_X6_wrong) (idx := 183) (n := 4) (ci := 6) (N := 16) (D := RX6) (T := TX6) (by decide +kernel) fn_X6_wrong fv_X6_wrong rfl rfl l_X6_183 ⟨by decide, by decide⟩) <|
  nv_oc (n_istore (k := 6) (by decide +kernel) (by decide)) <|
  nv_oc (n_iload (k := 6) (by decide +kernel)) <|
  nv_oc (n_if_eq (off := 6) (tgt := 36) (by decide +kernel) (by decide)) <|
  nv_oc (n_iload (k := 6) (by decide +kernel)) <|
  nv_oc (n_iret (by decide +kernel) rfl) <|
  nv_oc (n_aload_n (k := 0) (by decide +kernel)) <|
  nv_oc (n_getfield (idx := 16) (ci := 6) (k := 2) (N := 16) (D := RX6) (T := TX6) (by decide +kernel) rfl i_X6 (by decide) (by decide) f_X6_16) <|
  nv_oc (n_bipush (z := 24) (by decide +kernel) (by decide)) <|
  nv_oc (n_iload_n (k := 1) (by decide +kernel)) <|
  nv_oc (n_imul (by decide +kernel)) <|
  nv_oc (n_iload_n (k := 3) (by decide +kernel)) <|
  nv_oc (n_iadd (by decide +kernel)) <|
  nv_oc (n_iload_n (k := 2) (by decide +kernel)) <|
  nv_oc (n_if_ne (off := 11) (tgt := 58) (by decide +kernel) (by decide)) <|
  nv_oc (n_lload (k := 4) (by decide +kernel)) <|
  nv_oc (n_l2i (by decide +kernel)) <|
  nv_oc (n_i2b (by decide +kernel)) <|
  nv_oc (n_i2l (by decide +kernel)) <|
  nv_oc (n_goto (off := 30) (tgt := 85) (by decide +kernel) (by decide)) <|
  nv_oc (n_iload_n (k := 2) (by decide +kernel)) <|
  nv_oc (n_iconst (z := 1) (by decide +kernel)) <|
  nv_oc (n_icmp_ne (off := 11) (tgt := 71) (by decide +kernel) (by decide)) <|
  nv_oc (n_lload (k := 4) (by decide +kernel)) <|
  nv_oc (n_l2i (by decide +kernel)) <|
  nv_oc (n_i2s (by decide +kernel)) <|
  nv_oc (n_i2l (by decide +kernel)) <|
  nv_oc (n_goto (off := 17) (tgt := 85) (by decide +kernel) (by decide)) <|
  nv_oc (n_iload_n (k := 2) (by decide +kernel)) <|
  nv_oc (n_iconst (z := 2) (by decide +kernel)) <|
  nv_oc (n_icmp_ne (off := 10) (tgt := 83) (by decide +kernel) (by decide)) <|
  nv_oc (n_lload (k := 4) (by decide +kernel)) <|
  nv_oc (n_l2i (by decide +kernel)) <|
  nv_oc (n_i2l (by decide +kernel)) <|
  nv_oc (n_goto (off := 5) (tgt := 85) (by decide +kernel) (by decide)) <|
  nv_oc (n_lload (k := 4) (by decide +kernel)) <|
  nv_oc (n_lastore (by decide +kernel)) <|
  nv_oc (n_iconst (z := 1) (by decide +kernel)) <|
  nv_oc (n_iret (by decide +kernel) rfl) <|
  nv_on
def M_X6_copy : nv_MD := (RX6, yX6_copy, cX6_copy, 9, (some .int), 2, 42)
theorem fn_X6_copy : nv_fn M_X6_copy 5 := ⟨List.mem_of_getElem? (i := 1074) (by decide +kernel), List.mem_of_getElem? (i := 50) (by decide +kernel), by decide +kernel⟩
theorem fv_X6_copy : nv_fnV M_X6_copy := ⟨List.mem_of_getElem? (i := 1072) (by decide +kernel), List.mem_of_getElem? (i := 1073) (by decide +kernel)⟩
def P_X6_copy : nv_Pg := [(0, s_il 1 1), (1, s_cs M_X6_isSheet 1 4), (4, s_if c_eq 14 7), (7, s_il 3 8), (8, s_cs M_X6_isSheet 1 11), (11, s_if c_eq 14 16), (14, s_ki (-1) 15), (15, s_ir), (16, s_al 0 17), (17, s_gf 6 0 20), (20, s_il 1 21), (21, s_ia 22), (22, s_if c_lt 34 25), (25, s_al 0 26), (26, s_gf 6 0 29), (29, s_il 3 30), (30, s_ia 31), (31, s_if c_ge 37 34), (34, s_ki (-11) 36), (36, s_ir), (37, s_al 0 38), (38, s_gf 6 0 41), (41, s_il 1 42), (42, s_ia 43), (43, s_al 0 44), (44, s_gf 6 0 47), (47, s_il 3 48), (48, s_ia 49), (49, s_ic c_eq 55 52), (52, s_ki (-12) 54), (54, s_ir), (55, s_il 2 56), (56, s_il 5 58), (58, s_al 0 59), (59, s_gf 6 1 62), (62, s_il 1 63), (63, s_ia 64), (64, s_cs M_X6_isPart 3 67), (67, s_if c_eq 86 70), (70, s_il 4 72), (72, s_il 5 74), (74, s_al 0 75), (75, s_gf 6 1 78), (78, s_il 3 79), (79, s_ia 80), (80, s_cs M_X6_isPart 3 83), (83, s_if c_eq 86 89), (86, s_ki (-13) 88), (88, s_ir), (89, s_il 1 90), (90, s_il 3 91), (91, s_ic c_eq 94 104), (94, s_il 4 96), (96, s_il 2 97), (97, s_ic c_le 104 100), (100, s_ki (1) 101), (101, s_go 105), (104, s_ki (0) 105), (105, s_is 6 107), (107, s_ki (0) 108), (108, s_is 7 110), (110, s_il 7 112), (112, s_il 5 114), (114, s_ic c_ge 171 117), (117, s_il 6 119), (119, s_if c_eq 132 122), (122, s_il 5 124), (124, s_ki (1) 125), (125, s_sub 126), (126, s_il 7 128), (128, s_sub 129), (129, s_go 134), (132, s_il 7 134), (134, s_is 8 136), (136, s_al 0 137), (137, s_gf 6 2 140), (140, s_ki (24) 142), (142, s_il 3 143), (143, s_mul 144), (144, s_il 4 146), (146, s_add 147), (147, s_il 8 149), (149, s_add 150), (150, s_al 0 151), (151, s_gf 6 2 154), (154, s_ki (24) 156), (156, s_il 1 157), (157, s_mul 158), (158, s_il 2 159), (159, s_add 160), (160, s_il 8 162), (162, s_add 163), (163, s_la 164), (164, s_lw 165), (165, s_inc 7 (1) 168), (168, s_go 110), (171, s_il 5 173), (173, s_ir)]
set_option maxRecDepth 100000 in
set_option maxHeartbeats 4000000 in
theorem ok_X6_copy : nv_ok_P M_X6_copy P_X6_copy :=
  nv_oc (n_iload_n (k := 1) (by decide +kernel)) <|
  nv_oc (n_static (M' := M_X6_isSheet) (idx := 180) (n := 1) (by decide +kernel) fn_X6_isSheet st_X6_isSheet l_X6_180 ⟨by decide, by decide⟩) <|
  nv_oc (n_if_eq (off := 10) (tgt := 14) (by decide +kernel) (by decide)) <|
  nv_oc (n_iload_n (k := 3) (by decide +kernel)) <|
  nv_oc (n_static (M' := M_X6_isSheet) (idx := 180) (n := 1) (by decide +kernel) fn_X6_isSheet st_X6_isSheet l_X6_180 ⟨by decide, by decide⟩) <|
  nv_oc (n_if_ne (off := 5) (tgt := 16) (by decide +kernel) (by decide)) <|
  nv_oc (n_iconst (z := -1) (by decide +kernel)) <|
  nv_oc (n_iret (by decide +kernel) rfl) <|
  nv_oc (n_aload_n (k := 0) (by decide +kernel)) <|
  nv_oc (n_getfield (idx := 7) (ci := 6) (k := 0) (N := 16) (D := RX6) (T := TX6) (by decide +kernel) rfl i_X6 (by decide) (by decide) f_X6_7) <|
  nv_oc (n_iload_n (k := 1) (by decide +kernel)) <|
  nv_oc (n_iaload (by decide +kernel)) <|
  nv_oc (n_if_lt (off := 12) (tgt := 34) (by decide +kernel) (by decide)) <|
  nv_oc (n_aload_n (k := 0) (by decide +kernel)) <|
  nv_oc (n_getfield (idx := 7) (ci := 6) (k := 0) (N := 16) (D := RX6) (T := TX6) (by decide +kernel) rfl i_X6 (by decide) (by decide) f_X6_7) <|
  nv_oc (n_iload_n (k := 3) (by decide +kernel)) <|
  nv_oc (n_iaload (by decide +kernel)) <|
  nv_oc (n_if_ge (off := 6) (tgt := 37) (by decide +kernel) (by decide)) <|
  nv_oc (n_bipush (z := -11) (by decide +kernel) (by decide)) <|
  nv_oc (n_iret (by decide +kernel) rfl) <|
  nv_oc (n_aload_n (k := 0) (by decide +kernel)) <|
  nv_oc (n_getfield (idx := 7) (ci := 6) (k := 0) (N := 16) (D := RX6) (T := TX6) (by decide +kernel) rfl i_X6 (by decide) (by decide) f_X6_7) <|
  nv_oc (n_iload_n (k := 1) (by decide +kernel)) <|
  nv_oc (n_iaload (by decide +kernel)) <|
  nv_oc (n_aload_n (k := 0) (by decide +kernel)) <|
  nv_oc (n_getfield (idx := 7) (ci := 6) (k := 0) (N := 16) (D := RX6) (T := TX6) (by decide +kernel) rfl i_X6 (by decide) (by decide) f_X6_7) <|
  nv_oc (n_iload_n (k := 3) (by decide +kernel)) <|
  nv_oc (n_iaload (by decide +kernel)) <|
  nv_oc (n_icmp_eq (off := 6) (tgt := 55) (by decide +kernel) (by decide)) <|
  nv_oc (n_bipush (z := -12) (by decide +kernel) (by decide)) <|
  nv_oc (n_iret (by decide +kernel) rfl) <|
  nv_oc (n_iload_n (k := 2) (by decide +kernel)) <|
  nv_oc (n_iload (k := 5) (by decide +kernel)) <|
  nv_oc (n_aload_n (k := 0) (by decide +kernel)) <|
  nv_oc (n_getfield (idx := 13) (ci := 6) (k := 1) (N := 16) (D := RX6) (T := TX6) (by decide +kernel) rfl i_X6 (by decide) (by decide) f_X6_13) <|
  nv_oc (n_iload_n (k := 1) (by decide +kernel)) <|
  nv_oc (n_iaload (by decide +kernel)) <|
  nv_oc (n_static (M' := M_X6_isPart) (idx := 177) (n := 3) (by decide +kernel) fn_X6_isPart st_X6_isPart l_X6_177 ⟨by decide, by decide⟩) <|
  nv_oc (n_if_eq (off := 19) (tgt := 86) (by decide +kernel) (by decide)) <|
  nv_oc (n_iload (k := 4) (by decide +kernel)) <|
  nv_oc (n_iload (k := 5) (by decide +kernel)) <|
  nv_oc (n_aload_n (k := 0) (by decide +kernel)) <|
  nv_oc (n_getfield (idx := 13) (ci := 6) (k := 1) (N := 16) (D := RX6) (T := TX6) (by decide +kernel) rfl i_X6 (by decide) (by decide) f_X6_13) <|
  nv_oc (n_iload_n (k := 3) (by decide +kernel)) <|
  nv_oc (n_iaload (by decide +kernel)) <|
  nv_oc (n_static (M' := M_X6_isPart) (idx := 177) (n := 3) (by decide +kernel) fn_X6_isPart st_X6_isPart l_X6_177 ⟨by decide, by decide⟩) <|
  nv_oc (n_if_ne (off := 6) (tgt := 89) (by decide +kernel) (by decide)) <|
  nv_oc (n_bipush (z := -13) (by decide +kernel) (by decide)) <|
  nv_oc (n_iret (by decide +kernel) rfl) <|
  nv_oc (n_iload_n (k := 1) (by decide +kernel)) <|
  nv_oc (n_iload_n (k := 3) (by decide +kernel)) <|
  nv_oc (n_icmp_ne (off := 13) (tgt := 104) (by decide +kernel) (by decide)) <|
  nv_oc (n_iload (k := 4) (by decide +kernel)) <|
  nv_oc (n_iload_n (k := 2) (by decide +kernel)) <|
  nv_oc (n_icmp_le (off := 7) (tgt := 104) (by decide +kernel) (by decide)) <|
  nv_oc (n_iconst (z := 1) (by decide +kernel)) <|
  nv_oc (n_goto (off := 4) (tgt := 105) (by decide +kernel) (by decide)) <|
  nv_oc (n_iconst (z := 0) (by decide +kernel)) <|
  nv_oc (n_istore (k := 6) (by decide +kernel) (by decide)) <|
  nv_oc (n_iconst (z := 0) (by decide +kernel)) <|
  nv_oc (n_istore (k := 7) (by decide +kernel) (by decide)) <|
  nv_oc (n_iload (k := 7) (by decide +kernel)) <|
  nv_oc (n_iload (k := 5) (by decide +kernel)) <|
  nv_oc (n_icmp_ge (off := 57) (tgt := 171) (by decide +kernel) (by decide)) <|
  nv_oc (n_iload (k := 6) (by decide +kernel)) <|
  nv_oc (n_if_eq (off := 13) (tgt := 132) (by decide +kernel) (by decide)) <|
  nv_oc (n_iload (k := 5) (by decide +kernel)) <|
  nv_oc (n_iconst (z := 1) (by decide +kernel)) <|
  nv_oc (n_isub (by decide +kernel)) <|
  nv_oc (n_iload (k := 7) (by decide +kernel)) <|
  nv_oc (n_isub (by decide +kernel)) <|
  nv_oc (n_goto (off := 5) (tgt := 134) (by decide +kernel) (by decide)) <|
  nv_oc (n_iload (k := 7) (by decide +kernel)) <|
  nv_oc (n_istore (k := 8) (by decide +kernel) (by decide)) <|
  nv_oc (n_aload_n (k := 0) (by decide +kernel)) <|
  nv_oc (n_getfield (idx := 16) (ci := 6) (k := 2) (N := 16) (D := RX6) (T := TX6) (by decide +kernel) rfl i_X6 (by decide) (by decide) f_X6_16) <|
  nv_oc (n_bipush (z := 24) (by decide +kernel) (by decide)) <|
  nv_oc (n_iload_n (k := 3) (by decide +kernel)) <|
  nv_oc (n_imul (by decide +kernel)) <|
  nv_oc (n_iload (k := 4) (by decide +kernel)) <|
  nv_oc (n_iadd (by decide +kernel)) <|
  nv_oc (n_iload (k := 8) (by decide +kernel)) <|
  nv_oc (n_iadd (by decide +kernel)) <|
  nv_oc (n_aload_n (k := 0) (by decide +kernel)) <|
  nv_oc (n_getfield (idx := 16) (ci := 6) (k := 2) (N := 16) (D := RX6) (T := TX6) (by decide +kernel) rfl i_X6 (by decide) (by decide) f_X6_16) <|
  nv_oc (n_bipush (z := 24) (by decide +kernel) (by decide)) <|
  nv_oc (n_iload_n (k := 1) (by decide +kernel)) <|
  nv_oc (n_imul (by decide +kernel)) <|
  nv_oc (n_iload_n (k := 2) (by decide +kernel)) <|
  nv_oc (n_iadd (by decide +kernel)) <|
  nv_oc (n_iload (k := 8) (by decide +kernel)) <|
  nv_oc (n_iadd (by decide +kernel)) <|
  nv_oc (n_laload (by decide +kernel)) <|
  nv_oc (n_lastore (by decide +kernel)) <|
  nv_oc (n_iinc (k := 7) (d := 1) (by decide +kernel) (by decide)) <|
  nv_oc (n_goto (off := -58) (tgt := 110) (by decide +kernel) (by decide)) <|
  nv_oc (n_iload (k := 5) (by decide +kernel)) <|
  nv_oc (n_iret (by decide +kernel) rfl) <|
  nv_on
