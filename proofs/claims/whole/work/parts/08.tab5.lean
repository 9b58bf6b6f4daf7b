def M_X6_isSawyerItem : nv_MD := (RX6, yX6_isSawyerItem, cX6_isSawyerItem, 3, (some .boolean), 2, 44)
theorem fn_X6_isSawyerItem : nv_fn M_X6_isSawyerItem 0 := ⟨List.mem_of_getElem? (i := 885) (by decide +kernel), List.mem_of_getElem? (i := 50) (by decide +kernel), by decide +kernel⟩
theorem fv_X6_isSawyerItem : nv_fnV M_X6_isSawyerItem := ⟨List.mem_of_getElem? (i := 884) (by decide +kernel), List.mem_of_getElem? (i := 31) (by decide +kernel)⟩
def P_X6_isSawyerItem : nv_Pg := [(0, s_al 0 1), (1, s_cv 6 M_X6_peek 0 4), (4, s_cs M_X6_kindBy 1 7), (7, s_is 1 8), (8, s_il 1 9), (9, s_if c_ge 14 12), (12, s_ki (0) 13), (13, s_zr), (14, s_al 0 15), (15, s_dup 16), (16, s_gf 6 5 19), (19, s_ki (1) 20), (20, s_add 21), (21, s_pf 6 5 24), (24, s_al 0 25), (25, s_ki (0) 26), (26, s_ki (9) 28), (28, s_cv 6 M_X6_isDigit 2 31), (31, s_if c_eq 34 36), (34, s_ki (0) 35), (35, s_zr), (36, s_al 0 37), (37, s_gf 6 9 40), (40, s_il 1 41), (41, s_al 0 42), (42, s_gf 6 6 45), (45, s_cs M_X6_addSawyer 3 48), (48, s_is 2 49), (49, s_al 0 50), (50, s_ki (64) 52), (52, s_cv 6 M_X6_isSign 1 55), (55, s_if c_eq 90 58), (58, s_al 0 59), (59, s_ki (0) 60), (60, s_al 0 61), (61, s_gf 6 9 64), (64, s_ki (17) 66), (66, s_ia 67), (67, s_ki (1) 68), (68, s_sub 69), (69, s_cv 6 M_X6_isDigit 2 72), (72, s_if c_eq 75 77), (75, s_ki (0) 76), (76, s_zr), (77, s_al 0 78), (78, s_gf 6 9 81), (81, s_ki (12) 83), (83, s_il 2 84), (84, s_add 85), (85, s_al 0 86), (86, s_gf 6 6 89), (89, s_iw 90), (90, s_ki (1) 91), (91, s_zr)]
set_option maxRecDepth 100000 in
set_option maxHeartbeats 4000000 in
theorem ok_X6_isSawyerItem : nv_ok_P M_X6_isSawyerItem P_X6_isSawyerItem :=
  nv_oc (n_aload_n (k := 0) (by decide +kernel)) <|
  nv_oc (n_virtual (M' := M_X6_peek) (idx := 77) (n := 0) (ci := 6) (N := 16) (D := RX6) (T := TX6) (by decide +kernel) fn_X6_peek fv_X6_peek rfl rfl l_X6_77 ⟨by decide, by decide⟩) <|
  nv_oc (n_static (M' := M_X6_kindBy) (idx := 94) (n := 1) (by decide +kernel) fn_X6_kindBy st_X6_kindBy l_X6_94 ⟨by decide, by decide⟩) <|
  nv_oc (n_istore_n (k := 1) (by decide +kernel) (by decide)) <|
  nv_oc (n_iload_n (k := 1) (by decide +kernel)) <|
  nv_oc (n_if_ge (off := 5) (tgt := 14) (by decide +kernel) (by decide)) <|
  nv_oc (n_iconst (z := 0) (by decide +kernel)) <|
  nv_oc (n_zret (by decide +kernel) rfl) <|
  nv_oc (n_aload_n (k := 0) (by decide +kernel)) <|
  nv_oc (n_dup (by decide +kernel)) <|
  nv_oc (n_getfield (idx := 74) (ci := 6) (k := 5) (N := 16) (D := RX6) (T := TX6) (by decide +kernel) rfl i_X6 (by decide) (by decide) f_X6_74) <|
  nv_oc (n_iconst (z := 1) (by decide +kernel)) <|
  nv_oc (n_iadd (by decide +kernel)) <|
  nv_oc (n_putfield (idx := 74) (ci := 6) (k := 5) (N := 16) (D := RX6) (T := TX6) tyX6 tyX6_ok nmX6 (by decide +kernel) rfl i_X6 (by decide) (by decide) rfl f_X6_74 rfl) <|
  nv_oc (n_aload_n (k := 0) (by decide +kernel)) <|
  nv_oc (n_iconst (z := 0) (by decide +kernel)) <|
  nv_oc (n_bipush (z := 9) (by decide +kernel) (by decide)) <|
  nv_oc (n_virtual (M' := M_X6_isDigit) (idx := 84) (n := 2) (ci := 6) (N := 16) (D := RX6) (T := TX6) (by decide +kernel) fn_X6_isDigit fv_X6_isDigit rfl rfl l_X6_84 ⟨by decide, by decide⟩) <|
  nv_oc (n_if_ne (off := 5) (tgt := 36) (by decide +kernel) (by decide)) <|
  nv_oc (n_iconst (z := 0) (by decide +kernel)) <|
  nv_oc (n_zret (by decide +kernel) rfl) <|
  nv_oc (n_aload_n (k := 0) (by decide +kernel)) <|
  nv_oc (n_getfield (idx := 29) (ci := 6) (k := 9) (N := 16) (D := RX6) (T := TX6) (by decide +kernel) rfl i_X6 (by decide) (by decide) f_X6_29) <|
  nv_oc (n_iload_n (k := 1) (by decide +kernel)) <|
  nv_oc (n_aload_n (k := 0) (by decide +kernel)) <|
  nv_oc (n_getfield (idx := 81) (ci := 6) (k := 6) (N := 16) (D := RX6) (T := TX6) (by decide +kernel) rfl i_X6 (by decide) (by decide) f_X6_81) <|
  nv_oc (n_static (M' := M_X6_addSawyer) (idx := 49) (n := 3) (by decide +kernel) fn_X6_addSawyer st_X6_addSawyer l_X6_49 ⟨by decide, by decide⟩) <|
  nv_oc (n_istore_n (k := 2) (by decide +kernel) (by decide)) <|
  nv_oc (n_aload_n (k := 0) (by decide +kernel)) <|
  nv_oc (n_bipush (z := 64) (by decide +kernel) (by decide)) <|
  nv_oc (n_virtual (M' := M_X6_isSign) (idx := 91) (n := 1) (ci := 6) (N := 16) (D := RX6) (T := TX6) (by decide +kernel) fn_X6_isSign fv_X6_isSign rfl rfl l_X6_91 ⟨by decide, by decide⟩) <|
  nv_oc (n_if_eq (off := 35) (tgt := 90) (by decide +kernel) (by decide)) <|
  nv_oc (n_aload_n (k := 0) (by decide +kernel)) <|
  nv_oc (n_iconst (z := 0) (by decide +kernel)) <|
  nv_oc (n_aload_n (k := 0) (by decide +kernel)) <|
  nv_oc (n_getfield (idx := 29) (ci := 6) (k := 9) (N := 16) (D := RX6) (T := TX6) (by decide +kernel) rfl i_X6 (by decide) (by decide) f_X6_29) <|
  nv_oc (n_bipush (z := 17) (by decide +kernel) (by decide)) <|
  nv_oc (n_iaload (by decide +kernel)) <|
  nv_oc (n_iconst (z := 1) (by decide +kernel)) <|
  nv_oc (n_isub (by decide +kernel)) <|
  nv_oc (n_virtual (M' := M_X6_isDigit) (idx := 84) (n := 2) (ci := 6) (N := 16) (D := RX6) (T := TX6) (by decide +kernel) fn_X6_isDigit fv_X6_isDigit rfl rfl l_X6_84 ⟨by decide, by decide⟩) <|
  nv_oc (n_if_ne (off := 5) (tgt := 77) (by decide +kernel) (by decide)) <|
  nv_oc (n_iconst (z := 0) (by decide +kernel)) <|
  nv_oc (n_zret (by decide +kernel) rfl) <|
  nv_oc (n_aload_n (k := 0) (by decide +kernel)) <|
  nv_oc (n_getfield (idx := 29) (ci := 6) (k := 9) (N := 16) (D := RX6) (T := TX6) (by decide +kernel) rfl i_X6 (by decide) (by decide) f_X6_29) <|
  nv_oc (n_bipush (z := 12) (by decide +kernel) (by decide)) <|
  nv_oc (n_iload_n (k := 2) (by decide +kernel)) <|
  nv_oc (n_iadd (by decide +kernel)) <|
  nv_oc (n_aload_n (k := 0) (by decide +kernel)) <|
  nv_oc (n_getfield (idx := 81) (ci := 6) (k := 6) (N := 16) (D := RX6) (T := TX6) (by decide +kernel) rfl i_X6 (by decide) (by decide) f_X6_81) <|
  nv_oc (n_iastore (by decide +kernel)) <|
  nv_oc (n_iconst (z := 1) (by decide +kernel)) <|
  nv_oc (n_zret (by decide +kernel) rfl) <|
  nv_on
def M_X6_isNoon : nv_MD := (RX6, yX6_isNoon, cX6_isNoon, 2, (some .boolean), 4, 89)
theorem fn_X6_isNoon : nv_fn M_X6_isNoon 0 := ⟨List.mem_of_getElem? (i := 861) (by decide +kernel), List.mem_of_getElem? (i := 50) (by decide +kernel), by decide +kernel⟩
theorem fv_X6_isNoon : nv_fnV M_X6_isNoon := ⟨List.mem_of_getElem? (i := 860) (by decide +kernel), List.mem_of_getElem? (i := 25) (by decide +kernel)⟩
def P_X6_isNoon : nv_Pg := [(0, s_ki (1) 1), (1, s_is 1 2), (2, s_il 1 3), (3, s_if c_eq 44 6), (6, s_al 0 7), (7, s_cv 6 M_X6_isPlankItem 0 10), (10, s_if c_eq 13 15), (13, s_ki (0) 14), (14, s_zr), (15, s_al 0 16), (16, s_gf 6 9 19), (19, s_ki (17) 21), (21, s_ia 22), (22, s_ki (5) 23), (23, s_ic c_ge 39 26), (26, s_al 0 27), (27, s_ki (44) 29), (29, s_cv 6 M_X6_isSign 1 32), (32, s_if c_eq 39 35), (35, s_ki (1) 36), (36, s_go 40), (39, s_ki (0) 40), (40, s_is 1 41), (41, s_go 2), (44, s_al 0 45), (45, s_ki (59) 47), (47, s_cv 6 M_X6_isSign 1 50), (50, s_is 1 51), (51, s_il 1 52), (52, s_if c_eq 93 55), (55, s_al 0 56), (56, s_cv 6 M_X6_isSawyerItem 0 59), (59, s_if c_eq 62 64), (62, s_ki (0) 63), (63, s_zr), (64, s_al 0 65), (65, s_gf 6 9 68), (68, s_ki (28) 70), (70, s_ia 71), (71, s_ki (5) 72), (72, s_ic c_ge 88 75), (75, s_al 0 76), (76, s_ki (44) 78), (78, s_cv 6 M_X6_isSign 1 81), (81, s_if c_eq 88 84), (84, s_ki (1) 85), (85, s_go 89), (88, s_ki (0) 89), (89, s_is 1 90), (90, s_go 51), (93, s_al 0 94), (94, s_cv 6 M_X6_peek 0 97), (97, s_if c_eq 100 104), (100, s_ki (1) 101), (101, s_go 105), (104, s_ki (0) 105), (105, s_zr)]
set_option maxRecDepth 100000 in
set_option maxHeartbeats 4000000 in
theorem ok_X6_isNoon : nv_ok_P M_X6_isNoon P_X6_isNoon :=
  nv_oc (n_iconst (z := 1) (by decide +kernel)) <|
  nv_oc (n_istore_n (k := 1) (by decide +kernel) (by decide)) <|
  nv_oc (n_iload_n (k := 1) (by decide +kernel)) <|
  nv_oc (n_if_eq (off := 41) (tgt := 44) (by decide +kernel) (by decide)) <|
  nv_oc (n_aload_n (k := 0) (by decide +kernel)) <|
  nv_oc (n_virtual (M' := M_X6_isPlankItem) (idx := 97) (n := 0) (ci := 6) (N := 16) (D := RX6) (T := TX6) (by decide +kernel) fn_X6_isPlankItem fv_X6_isPlankItem rfl rfl l_X6_97 ⟨by decide, by decide⟩) <|
  nv_oc (n_if_ne (off := 5) (tgt := 15) (by decide +kernel) (by decide)) <|
  nv_oc (n_iconst (z := 0) (by decide +kernel)) <|
  nv_oc (n_zret (by decide +kernel) rfl) <|
  nv_oc (n_aload_n (k := 0) (by decide +kernel)) <|
  nv_oc (n_getfield (idx := 29) (ci := 6) (k := 9) (N := 16) (D := RX6) (T := TX6) (by decide +kernel) rfl i_X6 (by decide) (by decide) f_X6_29) <|
  nv_oc (n_bipush (z := 17) (by decide +kernel) (by decide)) <|
  nv_oc (n_iaload (by decide +kernel)) <|
  nv_oc (n_iconst (z := 5) (by decide +kernel)) <|
  nv_oc (n_icmp_ge (off := 16) (tgt := 39) (by decide +kernel) (by decide)) <|
  nv_oc (n_aload_n (k := 0) (by decide +kernel)) <|
  nv_oc (n_bipush (z := 44) (by decide +kernel) (by decide)) <|
  nv_oc (n_virtual (M' := M_X6_isSign) (idx := 91) (n := 1) (ci := 6) (N := 16) (D := RX6) (T := TX6) (by decide +kernel) fn_X6_isSign fv_X6_isSign rfl rfl l_X6_91 ⟨by decide, by decide⟩) <|
  nv_oc (n_if_eq (off := 7) (tgt := 39) (by decide +kernel) (by decide)) <|
  nv_oc (n_iconst (z := 1) (by decide +kernel)) <|
  nv_oc (n_goto (off := 4) (tgt := 40) (by decide +kernel) (by decide)) <|
  nv_oc (n_iconst (z := 0) (by decide +kernel)) <|
  nv_oc (n_istore_n (k := 1) (by decide +kernel) (by decide)) <|
  nv_oc (n_goto (off := -39) (tgt := 2) (by decide +kernel) (by decide)) <|
  nv_oc (n_aload_n (k := 0) (by decide +kernel)) <|
  nv_oc (n_bipush (z := 59) (by decide +kernel) (by decide)) <|
  nv_oc (n_virtual (M' := M_X6_isSign) (idx := 91) (n := 1) (ci := 6) (N := 16) (D := RX6) (T := TX6) (by decide +kernel) fn_X6_isSign fv_X6_isSign rfl rfl l_X6_91 ⟨by decide, by decide⟩) <|
  nv_oc (n_istore_n (k := 1) (by decide +kernel) (by decide)) <|
  nv_oc (n_iload_n (k := 1) (by decide +kernel)) <|
  nv_oc (n_if_eq (off := 41) (tgt := 93) (by decide +kernel) (by decide)) <|
  nv_oc (n_aload_n (k := 0) (by decide +kernel)) <|
  nv_oc (n_virtual (M' := M_X6_isSawyerItem) (idx := 101) (n := 0) (ci := 6) (N := 16) (D := RX6) (T := TX6) (by decide +kernel) fn_X6_isSawyerItem fv_X6_isSawyerItem rfl rfl l_X6_101 ⟨by decide, by decide⟩) <|
  nv_oc (n_if_ne (off := 5) (tgt := 64) (by decide +kernel) (by decide)) <|
  nv_oc (n_iconst (z := 0) (by decide +kernel)) <|
  nv_oc (n_zret (by decide +kernel) rfl) <|
  nv_oc (n_aload_n (k := 0) (by decide +kernel)) <|
  nv_oc (n_getfield (idx := 29) (ci := 6) (k := 9) (N := 16) (D := RX6) (T := TX6) (by decide +kernel) rfl i_X6 (by decide) (by decide) f_X6_29) <|
  nv_oc (n_bipush (z := 28) (by decide +kernel) (by decide)) <|
  nv_oc (n_iaload (by decide +kernel)) <|
  nv_oc (n_iconst (z := 5) (by decide +kernel)) <|
  nv_oc (n_icmp_ge (off := 16) (tgt := 88) (by decide +kernel) (by decide)) <|
  nv_oc (n_aload_n (k := 0) (by decide +kernel)) <|
  nv_oc (n_bipush (z := 44) (by decide +kernel) (by decide)) <|
  nv_oc (n_virtual (M' := M_X6_isSign) (idx := 91) (n := 1) (ci := 6) (N := 16) (D := RX6) (T := TX6) (by decide +kernel) fn_X6_isSign fv_X6_isSign rfl rfl l_X6_91 ⟨by decide, by decide⟩) <|
  nv_oc (n_if_eq (off := 7) (tgt := 88) (by decide +kernel) (by decide)) <|
  nv_oc (n_iconst (z := 1) (by decide +kernel)) <|
  nv_oc (n_goto (off := 4) (tgt := 89) (by decide +kernel) (by decide)) <|
  nv_oc (n_iconst (z := 0) (by decide +kernel)) <|
  nv_oc (n_istore_n (k := 1) (by decide +kernel) (by decide)) <|
  nv_oc (n_goto (off := -39) (tgt := 51) (by decide +kernel) (by decide)) <|
  nv_oc (n_aload_n (k := 0) (by decide +kernel)) <|
  nv_oc (n_virtual (M' := M_X6_peek) (idx := 77) (n := 0) (ci := 6) (N := 16) (D := RX6) (T := TX6) (by decide +kernel) fn_X6_peek fv_X6_peek rfl rfl l_X6_77 ⟨by decide, by decide⟩) <|
  nv_oc (n_if_ne (off := 7) (tgt := 104) (by decide +kernel) (by decide)) <|
  nv_oc (n_iconst (z := 1) (by decide +kernel)) <|
  nv_oc (n_goto (off := 4) (tgt := 105) (by decide +kernel) (by decide)) <|
  nv_oc (n_iconst (z := 0) (by decide +kernel)) <|
  nv_oc (n_zret (by decide +kernel) rfl) <|
  nv_on
def M_X6_read : nv_MD := (RX6, yX6_read, cX6_read, 2, (some .int), 5, 110)
theorem fn_X6_read : nv_fn M_X6_read 0 := ⟨List.mem_of_getElem? (i := 857) (by decide +kernel), List.mem_of_getElem? (i := 50) (by decide +kernel), by decide +kernel⟩
theorem fv_X6_read : nv_fnV M_X6_read := ⟨List.mem_of_getElem? (i := 855) (by decide +kernel), List.mem_of_getElem? (i := 856) (by decide +kernel)⟩
def P_X6_read : nv_Pg := [(0, s_ki (0) 1), (1, s_is 1 2), (2, s_il 1 3), (3, s_ki (171) 6), (6, s_ic c_ge 22 9), (9, s_al 0 10), (10, s_gf 6 9 13), (13, s_il 1 14), (14, s_ki (0) 15), (15, s_iw 16), (16, s_inc 1 (1) 19), (19, s_go 2), (22, s_al 0 23), (23, s_gf 6 9 26), (26, s_ki (1) 27), (27, s_al 0 28), (28, s_gf 6 7 31), (31, s_ki (1) 32), (32, s_ia 33), (33, s_iw 34), (34, s_al 0 35), (35, s_ki (0) 36), (36, s_pf 6 5 39), (39, s_al 0 40), (40, s_cv 6 M_X6_isNoon 0 43), (43, s_is 1 44), (44, s_al 0 45), (45, s_ki (0) 46), (46, s_pf 6 3 49), (49, s_il 1 50), (50, s_if c_eq 53 61), (53, s_ki (-20) 55), (55, s_al 0 56), (56, s_gf 6 5 59), (59, s_sub 60), (60, s_ir), (61, s_al 0 62), (62, s_gf 6 9 65), (65, s_ki (0) 66), (66, s_al 0 67), (67, s_gf 6 7 70), (70, s_ki (0) 71), (71, s_ki (171) 74), (74, s_cs M_X6_bring 5 77), (77, s_al 0 78), (78, s_gf 6 7 81), (81, s_ki (17) 83), (83, s_ia 84), (84, s_ir)]
set_option maxRecDepth 100000 in
set_option maxHeartbeats 4000000 in
theorem ok_X6_read : nv_ok_P M_X6_read P_X6_read :=
  nv_oc (n_iconst (z := 0) (by decide +kernel)) <|
  nv_oc (n_istore_n (k := 1) (by decide +kernel) (by decide)) <|
  nv_oc (n_iload_n (k := 1) (by decide +kernel)) <|
  nv_oc (n_sipush (z := 171) (by decide +kernel) (by decide)) <|
  nv_oc (n_icmp_ge (off := 16) (tgt := 22) (by decide +kernel) (by decide)) <|
  nv_oc (n_aload_n (k := 0) (by decide +kernel)) <|
  nv_oc (n_getfield (idx := 29) (ci := 6) (k := 9) (N := 16) (D := RX6) (T := TX6) (by decide +kernel) rfl i_X6 (by decide) (by decide) f_X6_29) <|
  nv_oc (n_iload_n (k := 1) (by decide +kernel)) <|
  nv_oc (n_iconst (z := 0) (by decide +kernel)) <|
  nv_oc (n_iastore (by decide +kernel)) <|
  nv_oc (n_iinc (k := 1) (d := 1) (by decide +kernel) (by decide)) <|
  nv_oc (n_goto (off := -17) (tgt := 2) (by decide +kernel) (by decide)) <|
  nv_oc (n_aload_n (k := 0) (by decide +kernel)) <|
  nv_oc (n_getfield (idx := 29) (ci := 6) (k := 9) (N := 16) (D := RX6) (T := TX6) (by decide +kernel) rfl i_X6 (by decide) (by decide) f_X6_29) <|
  nv_oc (n_iconst (z := 1) (by decide +kernel)) <|
  nv_oc (n_aload_n (k := 0) (by decide +kernel)) <|
  nv_oc (n_getfield (idx := 23) (ci := 6) (k := 7) (N := 16) (D := RX6) (T := TX6) (by decide +kernel) rfl i_X6 (by decide) (by decide) f_X6_23) <|
  nv_oc (n_iconst (z := 1) (by decide +kernel)) <|
  nv_oc (n_iaload (by decide +kernel)) <|
  nv_oc (n_iastore (by decide +kernel)) <|
  nv_oc (n_aload_n (k := 0) (by decide +kernel)) <|
  nv_oc (n_iconst (z := 0) (by decide +kernel)) <|
  nv_oc (n_putfield (idx := 74) (ci := 6) (k := 5) (N := 16) (D := RX6) (T := TX6) tyX6 tyX6_ok nmX6 (by decide +kernel) rfl i_X6 (by decide) (by decide) rfl f_X6_74 rfl) <|
  nv_oc (n_aload_n (k := 0) (by decide +kernel)) <|
  nv_oc (n_virtual (M' := M_X6_isNoon) (idx := 104) (n := 0) (ci := 6) (N := 16) (D := RX6) (T := TX6) (by decide +kernel) fn_X6_isNoon fv_X6_isNoon rfl rfl l_X6_104 ⟨by decide, by decide⟩) <|
  nv_oc (n_istore_n (k := 1) (by decide +kernel) (by decide)) <|
  nv_oc (n_aload_n (k := 0) (by decide +kernel)) <|
  nv_oc (n_iconst (z := 0) (by decide +kernel)) <|
  nv_oc (n_putfield (idx := 70) (ci := 6) (k := 3) (N := 16) (D := RX6) (T := TX6) tyX6 tyX6_ok nmX6 (by decide +kernel) rfl i_X6 (by decide) (by decide) rfl f_X6_70 rfl) <|
  nv_oc (n_iload_n (k := 1) (by decide +kernel)) <|
  nv_oc (n_if_ne (off := 11) (tgt := 61) (by decide +kernel) (by decide)) <|
  nv_oc (n_bipush (z := -20) (by decide +kernel) (by decide)) <|
  nv_oc (n_aload_n (k := 0) (by decide +kernel)) <|
  nv_oc (n_getfield (idx := 74) (ci := 6) (k := 5) (N := 16) (D := RX6) (T := TX6) (by decide +kernel) rfl i_X6 (by decide) (by decide) f_X6_74) <|
  nv_oc (n_isub (by decide +kernel)) <|
  nv_oc (n_iret (by decide +kernel) rfl) <|
  nv_oc (n_aload_n (k := 0) (by decide +kernel)) <|
  nv_oc (n_getfield (idx := 29) (ci := 6) (k := 9) (N := 16) (D := RX6) (T := TX6) (by decide +kernel) rfl i_X6 (by decide) (by decide) f_X6_29) <|
  nv_oc (n_iconst (z := 0) (by decide +kernel)) <|
  nv_oc (n_aload_n (k := 0) (by decide +kernel)) <|
  nv_oc (n_getfield (idx := 23) (ci := 6) (k := 7) (N := 16) (D := RX6) (T := TX6) (by decide +kernel) rfl i_X6 (by decide) (by decide) f_X6_23) <|
  nv_oc (n_iconst (z := 0) (by decide +kernel)) <|
  nv_oc (n_sipush (z := 171) (by decide +kernel) (by decide)) <|
  nv_oc (n_static (M' := M_X6_bring) (idx := 107) (n := 5) (by decide +kernel) fn_X6_bring st_X6_bring l_X6_107 ⟨by decide, by decide⟩) <|
  nv_oc (n_aload_n (k := 0) (by decide +kernel)) <|
  nv_oc (n_getfield (idx := 23) (ci := 6) (k := 7) (N := 16) (D := RX6) (T := TX6) (by decide +kernel) rfl i_X6 (by decide) (by decide) f_X6_23) <|
  nv_oc (n_bipush (z := 17) (by decide +kernel) (by decide)) <|
  nv_oc (n_iaload (by decide +kernel)) <|
  nv_oc (n_iret (by decide +kernel) rfl) <|
  nv_on
def M_X6_fallen : nv_MD := (RX6, yX6_fallen, cX6_fallen, 3, (some .int), 0, 0)
theorem fn_X6_fallen : nv_fn M_X6_fallen 1 := ⟨List.mem_of_getElem? (i := 898) (by decide +kernel), List.mem_of_getElem? (i := 50) (by decide +kernel), by decide +kernel⟩
theorem st_X6_fallen : Cond.static (nv_y M_X6_fallen) ∈ lw_tbl := List.mem_of_getElem? (i := 897) (by decide +kernel)
def P_X6_fallen : nv_Pg := [(0, s_ki (0) 1), (1, s_is 1 2), (2, s_ki (0) 3), (3, s_is 2 4), (4, s_il 2 5), (5, s_al 0 6), (6, s_ki (17) 8), (8, s_ia 9), (9, s_ic c_ge 36 12), (12, s_il 1 13), (13, s_al 0 14), (14, s_ki (2) 15), (15, s_il 2 16), (16, s_add 17), (17, s_ia 18), (18, s_if c_eq 21 27), (21, s_ki (1) 22), (22, s_il 2 23), (23, s_sl 24), (24, s_go 28), (27, s_ki (0) 28), (28, s_b nv_or 29), (29, s_is 1 30), (30, s_inc 2 (1) 33), (33, s_go 4), (36, s_il 1 37), (37, s_ir)]
set_option maxRecDepth 100000 in
set_option maxHeartbeats 4000000 in
theorem ok_X6_fallen : nv_ok_P M_X6_fallen P_X6_fallen :=
  nv_oc (n_iconst (z := 0) (by decide +kernel)) <|
  nv_oc (n_istore_n (k := 1) (by decide +kernel) (by decide)) <|
  nv_oc (n_iconst (z := 0) (by decide +kernel)) <|
  nv_oc (n_istore_n (k := 2) (by decide +kernel) (by decide)) <|
  nv_oc (n_iload_n (k := 2) (by decide +kernel)) <|
  nv_oc (n_aload_n (k := 0) (by decide +kernel)) <|
  nv_oc (n_bipush (z := 17) (by decide +kernel) (by decide)) <|
  nv_oc (n_iaload (by decide +kernel)) <|
  nv_oc (n_icmp_ge (off := 27) (tgt := 36) (by decide +kernel) (by decide)) <|
  nv_oc (n_iload_n (k := 1) (by decide +kernel)) <|
  nv_oc (n_aload_n (k := 0) (by decide +kernel)) <|
  nv_oc (n_iconst (z := 2) (by decide +kernel)) <|
  nv_oc (n_iload_n (k := 2) (by decide +kernel)) <|
  nv_oc (n_iadd (by decide +kernel)) <|
  nv_oc (n_iaload (by decide +kernel)) <|
  nv_oc (n_if_ne (off := 9) (tgt := 27) (by decide +kernel) (by decide)) <|
  nv_oc (n_iconst (z := 1) (by decide +kernel)) <|
  nv_oc (n_iload_n (k := 2) (by decide +kernel)) <|
  nv_oc (n_ishl (by decide +kernel)) <|
  nv_oc (n_goto (off := 4) (tgt := 28) (by decide +kernel) (by decide)) <|
  nv_oc (n_iconst (z := 0) (by decide +kernel)) <|
  nv_oc (n_ior (by decide +kernel)) <|
  nv_oc (n_istore_n (k := 1) (by decide +kernel) (by decide)) <|
  nv_oc (n_iinc (k := 2) (d := 1) (by decide +kernel) (by decide)) <|
  nv_oc (n_goto (off := -29) (tgt := 4) (by decide +kernel) (by decide)) <|
  nv_oc (n_iload_n (k := 1) (by decide +kernel)) <|
  nv_oc (n_iret (by decide +kernel) rfl) <|
  nv_on
def M_X6_isAll : nv_MD := (RX6, yX6_isAll, cX6_isAll, 1, (some .boolean), 1, 22)
theorem fn_X6_isAll : nv_fn M_X6_isAll 1 := ⟨List.mem_of_getElem? (i := 923) (by decide +kernel), List.mem_of_getElem? (i := 50) (by decide +kernel), by decide +kernel⟩
theorem st_X6_isAll : Cond.static (nv_y M_X6_isAll) ∈ lw_tbl := List.mem_of_getElem? (i := 922) (by decide +kernel)
def P_X6_isAll : nv_Pg := [(0, s_al 0 1), (1, s_cs M_X6_fallen 1 4), (4, s_ki (1) 5), (5, s_al 0 6), (6, s_ki (17) 8), (8, s_ia 9), (9, s_sl 10), (10, s_ki (1) 11), (11, s_sub 12), (12, s_ic c_eq 15 19), (15, s_ki (1) 16), (16, s_go 20), (19, s_ki (0) 20), (20, s_zr)]
set_option maxRecDepth 100000 in
set_option maxHeartbeats 4000000 in
theorem ok_X6_isAll : nv_ok_P M_X6_isAll P_X6_isAll :=
  nv_oc (n_aload_n (k := 0) (by decide +kernel)) <|
  nv_oc (n_static (M' := M_X6_fallen) (idx := 111) (n := 1) (by decide +kernel) fn_X6_fallen st_X6_fallen l_X6_111 ⟨by decide, by decide⟩) <|
  nv_oc (n_iconst (z := 1) (by decide +kernel)) <|
  nv_oc (n_aload_n (k := 0) (by decide +kernel)) <|
  nv_oc (n_bipush (z := 17) (by decide +kernel) (by decide)) <|
  nv_oc (n_iaload (by decide +kernel)) <|
  nv_oc (n_ishl (by decide +kernel)) <|
  nv_oc (n_iconst (z := 1) (by decide +kernel)) <|
  nv_oc (n_isub (by decide +kernel)) <|
  nv_oc (n_icmp_ne (off := 7) (tgt := 19) (by decide +kernel) (by decide)) <|
  nv_oc (n_iconst (z := 1) (by decide +kernel)) <|
  nv_oc (n_goto (off := 4) (tgt := 20) (by decide +kernel) (by decide)) <|
  nv_oc (n_iconst (z := 0) (by decide +kernel)) <|
  nv_oc (n_zret (by decide +kernel) rfl) <|
  nv_on
def M_X6_leftOf : nv_MD := (RX6, yX6_leftOf, cX6_leftOf, 3, (some .int), 0, 0)
theorem fn_X6_leftOf : nv_fn M_X6_leftOf 1 := ⟨List.mem_of_getElem? (i := 901) (by decide +kernel), List.mem_of_getElem? (i := 50) (by decide +kernel), by decide +kernel⟩
theorem st_X6_leftOf : Cond.static (nv_y M_X6_leftOf) ∈ lw_tbl := List.mem_of_getElem? (i := 900) (by decide +kernel)
def P_X6_leftOf : nv_Pg := [(0, s_ki (0) 1), (1, s_is 1 2), (2, s_ki (0) 3), (3, s_is 2 4), (4, s_il 2 5), (5, s_al 0 6), (6, s_ki (17) 8), (8, s_ia 9), (9, s_ic c_ge 26 12), (12, s_il 1 13), (13, s_al 0 14), (14, s_ki (2) 15), (15, s_il 2 16), (16, s_add 17), (17, s_ia 18), (18, s_add 19), (19, s_is 1 20), (20, s_inc 2 (1) 23), (23, s_go 4), (26, s_il 1 27), (27, s_ir)]
set_option maxRecDepth 100000 in
set_option maxHeartbeats 4000000 in
theorem ok_X6_leftOf : nv_ok_P M_X6_leftOf P_X6_leftOf :=
  nv_oc (n_iconst (z := 0) (by decide +kernel)) <|
  nv_oc (n_istore_n (k := 1) (by decide +kernel) (by decide)) <|
  nv_oc (n_iconst (z := 0) (by decide +kernel)) <|
  nv_oc (n_istore_n (k := 2) (by decide +kernel) (by decide)) <|
  nv_oc (n_iload_n (k := 2) (by decide +kernel)) <|
  nv_oc (n_aload_n (k := 0) (by decide +kernel)) <|
  nv_oc (n_bipush (z := 17) (by decide +kernel) (by decide)) <|
  nv_oc (n_iaload (by decide +kernel)) <|
  nv_oc (n_icmp_ge (off := 17) (tgt := 26) (by decide +kernel) (by decide)) <|
  nv_oc (n_iload_n (k := 1) (by decide +kernel)) <|
  nv_oc (n_aload_n (k := 0) (by decide +kernel)) <|
  nv_oc (n_iconst (z := 2) (by decide +kernel)) <|
  nv_oc (n_iload_n (k := 2) (by decide +kernel)) <|
  nv_oc (n_iadd (by decide +kernel)) <|
  nv_oc (n_iaload (by decide +kernel)) <|
  nv_oc (n_iadd (by decide +kernel)) <|
  nv_oc (n_istore_n (k := 1) (by decide +kernel) (by decide)) <|
  nv_oc (n_iinc (k := 2) (d := 1) (by decide +kernel) (by decide)) <|
  nv_oc (n_goto (off := -19) (tgt := 4) (by decide +kernel) (by decide)) <|
  nv_oc (n_iload_n (k := 1) (by decide +kernel)) <|
  nv_oc (n_iret (by decide +kernel) rfl) <|
  nv_on
def M_X6_teeth : nv_MD := (RX6, yX6_teeth, cX6_teeth, 3, (some .int), 0, 0)
theorem fn_X6_teeth : nv_fn M_X6_teeth 0 := ⟨List.mem_of_getElem? (i := 905) (by decide +kernel), List.mem_of_getElem? (i := 50) (by decide +kernel), by decide +kernel⟩
theorem fv_X6_teeth : nv_fnV M_X6_teeth := ⟨List.mem_of_getElem? (i := 904) (by decide +kernel), List.mem_of_getElem? (i := 32) (by decide +kernel)⟩
def P_X6_teeth : nv_Pg := [(0, s_ki (0) 1), (1, s_is 1 2), (2, s_ki (0) 3), (3, s_is 2 4), (4, s_il 2 5), (5, s_al 0 6), (6, s_gf 6 7 9), (9, s_ki (28) 11), (11, s_ia 12), (12, s_ic c_ge 33 15), (15, s_il 1 16), (16, s_al 0 17), (17, s_gf 6 7 20), (20, s_ki (7) 22), (22, s_il 2 23), (23, s_add 24), (24, s_ia 25), (25, s_add 26), (26, s_is 1 27), (27, s_inc 2 (1) 30), (30, s_go 4), (33, s_il 1 34), (34, s_ir)]
set_option maxRecDepth 100000 in
set_option maxHeartbeats 4000000 in
theorem ok_X6_teeth : nv_ok_P M_X6_teeth P_X6_teeth :=
  nv_oc (n_iconst (z := 0) (by decide +kernel)) <|
  nv_oc (n_istore_n (k := 1) (by decide +kernel) (by decide)) <|
  nv_oc (n_iconst (z := 0) (by decide +kernel)) <|
  nv_oc (n_istore_n (k := 2) (by decide +kernel) (by decide)) <|
  nv_oc (n_iload_n (k := 2) (by decide +kernel)) <|
  nv_oc (n_aload_n (k := 0) (by decide +kernel)) <|
  nv_oc (n_getfield (idx := 23) (ci := 6) (k := 7) (N := 16) (D := RX6) (T := TX6) (by decide +kernel) rfl i_X6 (by decide) (by decide) f_X6_23) <|
  nv_oc (n_bipush (z := 28) (by decide +kernel) (by decide)) <|
  nv_oc (n_iaload (by decide +kernel)) <|
  nv_oc (n_icmp_ge (off := 21) (tgt := 33) (by decide +kernel) (by decide)) <|
  nv_oc (n_iload_n (k := 1) (by decide +kernel)) <|
  nv_oc (n_aload_n (k := 0) (by decide +kernel)) <|
  nv_oc (n_getfield (idx := 23) (ci := 6) (k := 7) (N := 16) (D := RX6) (T := TX6) (by decide +kernel) rfl i_X6 (by decide) (by decide) f_X6_23) <|
  nv_oc (n_bipush (z := 7) (by decide +kernel) (by decide)) <|
  nv_oc (n_iload_n (k := 2) (by decide +kernel)) <|
  nv_oc (n_iadd (by decide +kernel)) <|
  nv_oc (n_iaload (by decide +kernel)) <|
  nv_oc (n_iadd (by decide +kernel)) <|
  nv_oc (n_istore_n (k := 1) (by decide +kernel) (by decide)) <|
  nv_oc (n_iinc (k := 2) (d := 1) (by decide +kernel) (by decide)) <|
  nv_oc (n_goto (off := -26) (tgt := 4) (by decide +kernel) (by decide)) <|
  nv_oc (n_iload_n (k := 1) (by decide +kernel)) <|
  nv_oc (n_iret (by decide +kernel) rfl) <|
  nv_on
def M_X6_count : nv_MD := (RX6, yX6_count, cX6_count, 2, (some .int), 1, 23)
theorem fn_X6_count : nv_fn M_X6_count 1 := ⟨List.mem_of_getElem? (i := 895) (by decide +kernel), List.mem_of_getElem? (i := 50) (by decide +kernel), by decide +kernel⟩
theorem fv_X6_count : nv_fnV M_X6_count := ⟨List.mem_of_getElem? (i := 893) (by decide +kernel), List.mem_of_getElem? (i := 894) (by decide +kernel)⟩
def P_X6_count : nv_Pg := [(0, s_il 1 1), (1, s_sw 0 110 [48, 56, 64, 71, 79, 87, 92, 102]), (48, s_al 0 49), (49, s_gf 6 7 52), (52, s_ki (17) 54), (54, s_ia 55), (55, s_ir), (56, s_al 0 57), (57, s_gf 6 7 60), (60, s_ki (28) 62), (62, s_ia 63), (63, s_ir), (64, s_al 0 65), (65, s_gf 6 7 68), (68, s_ki (0) 69), (69, s_ia 70), (70, s_ir), (71, s_al 0 72), (72, s_gf 6 7 75), (75, s_cs M_X6_fallen 1 78), (78, s_ir), (79, s_al 0 80), (80, s_gf 6 7 83), (83, s_cs M_X6_leftOf 1 86), (86, s_ir), (87, s_al 0 88), (88, s_cv 6 M_X6_teeth 0 91), (91, s_ir), (92, s_al 0 93), (93, s_gf 6 7 96), (96, s_ki (-4) 98), (98, s_cs M_X6_sittersOn 2 101), (101, s_ir), (102, s_al 0 103), (103, s_gf 6 7 106), (106, s_ki (34) 108), (108, s_ia 109), (109, s_ir), (110, s_ki (-1) 111), (111, s_ir)]
set_option maxRecDepth 100000 in
set_option maxHeartbeats 4000000 in
theorem ok_X6_count : nv_ok_P M_X6_count P_X6_count :=
  nv_oc (n_iload_n (k := 1) (by decide +kernel)) <|
  nv_oc (n_tableswitch (dflt := 109) (lo := 0) (hi := 7) (offs := #[47, 55, 63, 70, 78, 86, 91, 101]) (len := 47) (df := 110) (ts := [48, 56, 64, 71, 79, 87, 92, 102]) (by decide +kernel) (by decide) (by decide) (by decide)) <|
  nv_oc (n_aload_n (k := 0) (by decide +kernel)) <|
  nv_oc (n_getfield (idx := 23) (ci := 6) (k := 7) (N := 16) (D := RX6) (T := TX6) (by decide +kernel) rfl i_X6 (by decide) (by decide) f_X6_23) <|
  nv_oc (n_bipush (z := 17) (by decide +kernel) (by decide)) <|
  nv_oc (n_iaload (by decide +kernel)) <|
  nv_oc (n_iret (by decide +kernel) rfl) <|
  nv_oc (n_aload_n (k := 0) (by decide +kernel)) <|
  nv_oc (n_getfield (idx := 23) (ci := 6) (k := 7) (N := 16) (D := RX6) (T := TX6) (by decide +kernel) rfl i_X6 (by decide) (by decide) f_X6_23) <|
  nv_oc (n_bipush (z := 28) (by decide +kernel) (by decide)) <|
  nv_oc (n_iaload (by decide +kernel)) <|
  nv_oc (n_iret (by decide +kernel) rfl) <|
  nv_oc (n_aload_n (k := 0) (by decide +kernel)) <|
  nv_oc (n_getfield (idx := 23) (ci := 6) (k := 7) (N := 16) (D := RX6) (T := TX6) (by decide +kernel) rfl i_X6 (by decide) (by decide) f_X6_23) <|
  nv_oc (n_iconst (z := 0) (by decide +kernel)) <|
  nv_oc (n_iaload (by decide +kernel)) <|
  nv_oc (n_iret (by decide +kernel) rfl) <|
  nv_oc (n_aload_n (k := 0) (by decide +kernel)) <|
  nv_oc (n_getfield (idx := 23) (ci := 6) (k := 7) (N := 16) (D := RX6) (T := TX6) (by decide +kernel) rfl i_X6 (by decide) (by decide) f_X6_23) <|
  nv_oc (n_static (M' := M_X6_fallen) (idx := 111) (n := 1) (by decide +kernel) fn_X6_fallen st_X6_fallen l_X6_111 ⟨by decide, by decide⟩) <|
  nv_oc (n_iret (by decide +kernel) rfl) <|
  nv_oc (n_aload_n (k := 0) (by decide +kernel)) <|
  nv_oc (n_getfield (idx := 23) (ci := 6) (k := 7) (N := 16) (D := RX6) (T := TX6) (by decide +kernel) rfl i_X6 (by decide) (by decide) f_X6_23) <|
  nv_oc (n_static (M' := M_X6_leftOf) (idx := 115) (n := 1) (by decide +kernel) fn_X6_leftOf st_X6_leftOf l_X6_115 ⟨by decide, by decide⟩) <|
  nv_oc (n_iret (by decide +kernel) rfl) <|
  nv_oc (n_aload_n (k := 0) (by decide +kernel)) <|
  nv_oc (n_virtual (M' := M_X6_teeth) (idx := 118) (n := 0) (ci := 6) (N := 16) (D := RX6) (T := TX6) (by decide +kernel) fn_X6_teeth fv_X6_teeth rfl rfl l_X6_118 ⟨by decide, by decide⟩) <|
  nv_oc (n_iret (by decide +kernel) rfl) <|
  nv_oc (n_aload_n (k := 0) (by decide +kernel)) <|
  nv_oc (n_getfield (idx := 23) (ci := 6) (k := 7) (N := 16) (D := RX6) (T := TX6) (by decide +kernel) rfl i_X6 (by decide) (by decide) f_X6_23) <|
  nv_oc (n_bipush (z := -4) (by decide +kernel) (by decide)) <|
  nv_oc (n_static (M' := M_X6_sittersOn) (idx := 60) (n := 2) (by decide +kernel) fn_X6_sittersOn st_X6_sittersOn l_X6_60 ⟨by decide, by decide⟩) <|
  nv_oc (n_iret (by decide +kernel) rfl) <|
  nv_oc (n_aload_n (k := 0) (by decide +kernel)) <|
  nv_oc (n_getfield (idx := 23) (ci := 6) (k := 7) (N := 16) (D := RX6) (T := TX6) (by decide +kernel) rfl i_X6 (by decide) (by decide) f_X6_23) <|
  nv_oc (n_bipush (z := 34) (by decide +kernel) (by decide)) <|
  nv_oc (n_iaload (by decide +kernel)) <|
  nv_oc (n_iret (by decide +kernel) rfl) <|
  nv_oc (n_iconst (z := -1) (by decide +kernel)) <|
  nv_oc (n_iret (by decide +kernel) rfl) <|
  nv_on
def M_X6_note : nv_MD := (RX6, yX6_note, cX6_note, 1, none, 1, 25)
theorem fn_X6_note : nv_fn M_X6_note 0 := ⟨List.mem_of_getElem? (i := 913) (by decide +kernel), List.mem_of_getElem? (i := 50) (by decide +kernel), by decide +kernel⟩
theorem fv_X6_note : nv_fnV M_X6_note := ⟨List.mem_of_getElem? (i := 912) (by decide +kernel), List.mem_of_getElem? (i := 33) (by decide +kernel)⟩
def P_X6_note : nv_Pg := [(0, s_al 0 1), (1, s_gf 6 7 4), (4, s_ki (34) 6), (6, s_ia 7), (7, s_ki (8) 9), (9, s_ic c_eq 12 40), (12, s_al 0 13), (13, s_gf 6 7 16), (16, s_ki (52) 18), (18, s_al 0 19), (19, s_gf 6 7 22), (22, s_ki (35) 24), (24, s_ki (119) 26), (26, s_cs M_X6_bring 5 29), (29, s_al 0 30), (30, s_gf 6 7 33), (33, s_ki (34) 35), (35, s_dup2 36), (36, s_ia 37), (37, s_ki (1) 38), (38, s_sub 39), (39, s_iw 40), (40, s_al 0 41), (41, s_gf 6 7 44), (44, s_ki (0) 45), (45, s_al 0 46), (46, s_gf 6 7 49), (49, s_ki (35) 51), (51, s_ki (17) 53), (53, s_al 0 54), (54, s_gf 6 7 57), (57, s_ki (34) 59), (59, s_ia 60), (60, s_mul 61), (61, s_add 62), (62, s_ki (17) 64), (64, s_cs M_X6_bring 5 67), (67, s_al 0 68), (68, s_gf 6 7 71), (71, s_ki (34) 73), (73, s_dup2 74), (74, s_ia 75), (75, s_ki (1) 76), (76, s_add 77), (77, s_iw 78), (78, s_vr)]
set_option maxRecDepth 100000 in
set_option maxHeartbeats 4000000 in
theorem ok_X6_note : nv_ok_P M_X6_note P_X6_note :=
  nv_oc (n_aload_n (k := 0) (by decide +kernel)) <|
  nv_oc (n_getfield (idx := 23) (ci := 6) (k := 7) (N := 16) (D := RX6) (T := TX6) (by decide +kernel) rfl i_X6 (by decide) (by decide) f_X6_23) <|
  nv_oc (n_bipush (z := 34) (by decide +kernel) (by decide)) <|
  nv_oc (n_iaload (by decide +kernel)) <|
  nv_oc (n_bipush (z := 8) (by decide +kernel) (by decide)) <|
  nv_oc (n_icmp_ne (off := 31) (tgt := 40) (by decide +kernel) (by decide)) <|
  nv_oc (n_aload_n (k := 0) (by decide +kernel)) <|
  nv_oc (n_getfield (idx := 23) (ci := 6) (k := 7) (N := 16) (D := RX6) (T := TX6) (by decide +kernel) rfl i_X6 (by decide) (by decide) f_X6_23) <|
  nv_oc (n_bipush (z := 52) (by decide +kernel) (by decide)) <|
  nv_oc (n_aload_n (k := 0) (by decide +kernel)) <|
  nv_oc (n_getfield (idx := 23) (ci := 6) (k := 7) (N := 16) (D := RX6) (T := TX6) (by decide +kernel) rfl i_X6 (by decide) (by decide) f_X6_23) <|
  nv_oc (n_bipush (z := 35) (by decide +kernel) (by decide)) <|
  nv_oc (n_bipush (z := 119) (by decide +kernel) (by decide)) <|
  nv_oc (n_static (M' := M_X6_bring) (idx := 107) (n := 5) (by decide +kernel) fn_X6_bring st_X6_bring l_X6_107 ⟨by decide, by decide⟩) <|
  nv_oc (n_aload_n (k := 0) (by decide +kernel)) <|
  nv_oc (n_getfield (idx := 23) (ci := 6) (k := 7) (N := 16) (D := RX6) (T := TX6) (by decide +kernel) rfl i_X6 (by decide) (by decide) f_X6_23) <|
  nv_oc (n_bipush (z := 34) (by decide +kernel) (by decide)) <|
  nv_oc (n_dup2 (by decide +kernel)) <|
  nv_oc (n_iaload (by decide +kernel)) <|
  nv_oc (n_iconst (z := 1) (by decide +kernel)) <|
  nv_oc (n_isub (by decide +kernel)) <|
  nv_oc (n_iastore (by decide +kernel)) <|
  nv_oc (n_aload_n (k := 0) (by decide +kernel)) <|
  nv_oc (n_getfield (idx := 23) (ci := 6) (k := 7) (N := 16) (D := RX6) (T := TX6) (by decide +kernel) rfl i_X6 (by decide) (by decide) f_X6_23) <|
  nv_oc (n_iconst (z := 0) (by decide +kernel)) <|
  nv_oc (n_aload_n (k := 0) (by decide +kernel)) <|
  nv_oc (n_getfield (idx := 23) (ci := 6) (k := 7) (N := 16) (D := RX6) (T := TX6) (by decide +kernel) rfl i_X6 (by decide) (by decide) f_X6_23) <|
  nv_oc (n_bipush (z := 35) (by decide +kernel) (by decide)) <|
  nv_oc (n_bipush (z := 17) (by decide +kernel) (by decide)) <|
  nv_oc (n_aload_n (k := 0) (by decide +kernel)) <|
  nv_oc (n_getfield (idx := 23) (ci := 6) (k := 7) (N := 16) (D := RX6) (T := TX6) (by decide +kernel) rfl i_X6 (by decide) (by decide) f_X6_23) <|
  nv_oc (n_bipush (z := 34) (by decide +kernel) (by decide)) <|
  nv_oc (n_iaload (by decide +kernel)) <|
  nv_oc (n_imul (by decide +kernel)) <|
  nv_oc (n_iadd (by decide +kernel)) <|
  nv_oc (n_bipush (z := 17) (by decide +kernel) (by decide)) <|
  nv_oc (n_static (M' := M_X6_bring) (idx := 107) (n := 5) (by decide +kernel) fn_X6_bring st_X6_bring l_X6_107 ⟨by decide, by decide⟩) <|
  nv_oc (n_aload_n (k := 0) (by decide +kernel)) <|
  nv_oc (n_getfield (idx := 23) (ci := 6) (k := 7) (N := 16) (D := RX6) (T := TX6) (by decide +kernel) rfl i_X6 (by decide) (by decide) f_X6_23) <|
  nv_oc (n_bipush (z := 34) (by decide +kernel) (by decide)) <|
  nv_oc (n_dup2 (by decide +kernel)) <|
  nv_oc (n_iaload (by decide +kernel)) <|
  nv_oc (n_iconst (z := 1) (by decide +kernel)) <|
  nv_oc (n_iadd (by decide +kernel)) <|
  nv_oc (n_iastore (by decide +kernel)) <|
  nv_oc (n_vret (by decide +kernel) rfl) <|
  nv_on
def M_X6_thickestOf : nv_MD := (RX6, yX6_thickestOf, cX6_thickestOf, 3, (some .int), 0, 0)
theorem fn_X6_thickestOf : nv_fn M_X6_thickestOf 1 := ⟨List.mem_of_getElem? (i := 926) (by decide +kernel), List.mem_of_getElem? (i := 50) (by decide +kernel), by decide +kernel⟩
theorem st_X6_thickestOf : Cond.static (nv_y M_X6_thickestOf) ∈ lw_tbl := List.mem_of_getElem? (i := 925) (by decide +kernel)
def P_X6_thickestOf : nv_Pg := [(0, s_ki (0) 1), (1, s_is 1 2), (2, s_ki (1) 3), (3, s_is 2 4), (4, s_il 2 5), (5, s_al 0 6), (6, s_ki (17) 8), (8, s_ia 9), (9, s_ic c_ge 37 12), (12, s_al 0 13), (13, s_ki (2) 14), (14, s_il 2 15), (15, s_add 16), (16, s_ia 17), (17, s_al 0 18), (18, s_ki (2) 19), (19, s_il 1 20), (20, s_add 21), (21, s_ia 22), (22, s_ic c_le 29 25), (25, s_il 2 26), (26, s_go 30), (29, s_il 1 30), (30, s_is 1 31), (31, s_inc 2 (1) 34), (34, s_go 4), (37, s_il 1 38), (38, s_ir)]
set_option maxRecDepth 100000 in
set_option maxHeartbeats 4000000 in
theorem ok_X6_thickestOf : nv_ok_P M_X6_thickestOf P_X6_thickestOf :=
  nv_oc (n_iconst (z := 0) (by decide +kernel)) <|
  nv_oc (n_istore_n (k := 1) (by decide +kernel) (by decide)) <|
  nv_oc (n_iconst (z := 1) (by decide +kernel)) <|
  nv_oc (n_istore_n (k := 2) (by decide +kernel) (by decide)) <|
  nv_oc (n_iload_n (k := 2) (by decide +kernel)) <|
  nv_oc (n_aload_n (k := 0) (by decide +kernel)) <|
  nv_oc (n_bipush (z := 17) (by decide +kernel) (by decide)) <|
  nv_oc (n_iaload (by decide +kernel)) <|
  nv_oc (n_icmp_ge (off := 28) (tgt := 37) (by decide +kernel) (by decide)) <|
  nv_oc (n_aload_n (k := 0) (by decide +kernel)) <|
  nv_oc (n_iconst (z := 2) (by decide +kernel)) <|
  nv_oc (n_iload_n (k := 2) (by decide +kernel)) <|
  nv_oc (n_iadd (by decide +kernel)) <|
  nv_oc (n_iaload (by decide +kernel)) <|
  nv_oc (n_aload_n (k := 0) (by decide +kernel)) <|
  nv_oc (n_iconst (z := 2) (by decide +kernel)) <|
  nv_oc (n_iload_n (k := 1) (by decide +kernel)) <|
  nv_oc (n_iadd (by decide +kernel)) <|
  nv_oc (n_iaload (by decide +kernel)) <|
  nv_oc (n_icmp_le (off := 7) (tgt := 29) (by decide +kernel) (by decide)) <|
  nv_oc (n_iload_n (k := 2) (by decide +kernel)) <|
  nv_oc (n_goto (off := 4) (tgt := 30) (by decide +kernel) (by decide)) <|
  nv_oc (n_iload_n (k := 1) (by decide +kernel)) <|
  nv_oc (n_istore_n (k := 1) (by decide +kernel) (by decide)) <|
  nv_oc (n_iinc (k := 2) (d := 1) (by decide +kernel) (by decide)) <|
  nv_oc (n_goto (off := -30) (tgt := 4) (by decide +kernel) (by decide)) <|
  nv_oc (n_iload_n (k := 1) (by decide +kernel)) <|
  nv_oc (n_iret (by decide +kernel) rfl) <|
  nv_on
def M_X6_hourIn : nv_MD := (RX6, yX6_hourIn, cX6_hourIn, 5, none, 2, 42)
theorem fn_X6_hourIn : nv_fn M_X6_hourIn 2 := ⟨List.mem_of_getElem? (i := 917) (by decide +kernel), List.mem_of_getElem? (i := 50) (by decide +kernel), by decide +kernel⟩
theorem fv_X6_hourIn : nv_fnV M_X6_hourIn := ⟨List.mem_of_getElem? (i := 916) (by decide +kernel), List.mem_of_getElem? (i := 34) (by decide +kernel)⟩
def P_X6_hourIn : nv_Pg := [(0, s_ki (0) 1), (1, s_is 3 2), (2, s_il 3 3), (3, s_al 1 4), (4, s_ki (28) 6), (6, s_ia 7), (7, s_ic c_ge 39 10), (10, s_al 0 11), (11, s_gf 6 12 14), (14, s_il 3 15), (15, s_il 2 16), (16, s_il 3 17), (17, s_cs M_X6_has 2 20), (20, s_if c_eq 27 23), (23, s_ki (0) 24), (24, s_go 32), (27, s_al 1 28), (28, s_il 3 29), (29, s_cs M_X6_cuts 2 32), (32, s_iw 33), (33, s_inc 3 (1) 36), (36, s_go 2), (39, s_ki (0) 40), (40, s_is 3 41), (41, s_il 3 42), (42, s_al 1 43), (43, s_ki (28) 45), (45, s_ia 46), (46, s_ic c_ge 149 49), (49, s_al 1 50), (50, s_ki (12) 52), (52, s_il 3 53), (53, s_add 54), (54, s_ia 55), (55, s_is 4 57), (57, s_il 4 59), (59, s_ki (-4) 61), (61, s_ic c_eq 102 64), (64, s_al 1 65), (65, s_ki (2) 66), (66, s_il 4 68), (68, s_add 69), (69, s_al 1 70), (70, s_ki (2) 71), (71, s_il 4 73), (73, s_add 74), (74, s_ia 75), (75, s_al 0 76), (76, s_gf 6 12 79), (79, s_il 3 80), (80, s_ia 81), (81, s_ic c_le 100 84), (84, s_al 1 85), (85, s_ki (2) 86), (86, s_il 4 88), (88, s_add 89), (89, s_ia 90), (90, s_al 0 91), (91, s_gf 6 12 94), (94, s_il 3 95), (95, s_ia 96), (96, s_sub 97), (97, s_go 101), (100, s_ki (0) 101), (101, s_iw 102), (102, s_al 1 103), (103, s_ki (7) 105), (105, s_il 3 106), (106, s_add 107), (107, s_dup2 108), (108, s_ia 109), (109, s_al 1 110), (110, s_ki (0) 111), (111, s_ia 112), (112, s_ki (3) 113), (113, s_rem 114), (114, s_ki (2) 115), (115, s_ic c_eq 118 140), (118, s_al 0 119), (119, s_gf 6 12 122), (122, s_il 3 123), (123, s_ia 124), (124, s_if c_le 140 127), (127, s_al 1 128), (128, s_ki (7) 130), (130, s_il 3 131), (131, s_add 132), (132, s_ia 133), (133, s_if c_le 140 136), (136, s_ki (1) 137), (137, s_go 141), (140, s_ki (0) 141), (141, s_sub 142), (142, s_iw 143), (143, s_inc 3 (1) 146), (146, s_go 41), (149, s_ki (0) 150), (150, s_is 3 151), (151, s_il 3 152), (152, s_al 1 153), (153, s_ki (28) 155), (155, s_ia 156), (156, s_ic c_ge 211 159), (159, s_al 1 160), (160, s_ki (12) 162), (162, s_il 3 163), (163, s_add 164), (164, s_ia 165), (165, s_is 4 167), (167, s_al 1 168), (168, s_ki (12) 170), (170, s_il 3 171), (171, s_add 172), (172, s_il 4 174), (174, s_ki (-4) 176), (176, s_ic c_eq 202 179), (179, s_al 1 180), (180, s_ki (2) 181), (181, s_il 4 183), (183, s_add 184), (184, s_ia 185), (185, s_if c_eq 188 202), (188, s_al 1 189), (189, s_cs M_X6_isAll 1 192), (192, s_if c_eq 195 202), (195, s_al 1 196), (196, s_cs M_X6_thickestOf 1 199), (199, s_go 204), (202, s_il 4 204), (204, s_iw 205), (205, s_inc 3 (1) 208), (208, s_go 151), (211, s_al 1 212), (212, s_ki (0) 213), (213, s_dup2 214), (214, s_ia 215), (215, s_ki (1) 216), (216, s_add 217), (217, s_iw 218), (218, s_vr)]
set_option maxRecDepth 100000 in
set_option maxHeartbeats 4000000 in
theorem ok_X6_hourIn : nv_ok_P M_X6_hourIn P_X6_hourIn :=
  nv_oc (n_iconst (z := 0) (by decide +kernel)) <|
  nv_oc (n_istore_n (k := 3) (by decide +kernel) (by decide)) <|
  nv_oc (n_iload_n (k := 3) (by decide +kernel)) <|
  nv_oc (n_aload_n (k := 1) (by decide +kernel)) <|
  nv_oc (n_bipush (z := 28) (by decide +kernel) (by decide)) <|
  nv_oc (n_iaload (by decide +kernel)) <|
  nv_oc (n_icmp_ge (off := 32) (tgt := 39) (by decide +kernel) (by decide)) <|
  nv_oc (n_aload_n (k := 0) (by decide +kernel)) <|
  nv_oc (n_getfield (idx := 35) (ci := 6) (k := 12) (N := 16) (D := RX6) (T := TX6) (by decide +kernel) rfl i_X6 (by decide) (by decide) f_X6_35) <|
  nv_oc (n_iload_n (k := 3) (by decide +kernel)) <|
  nv_oc (n_iload_n (k := 2) (by decide +kernel)) <|
  nv_oc (n_iload_n (k := 3) (by decide +kernel)) <|
  nv_oc (n_static (M' := M_X6_has) (idx := 121) (n := 2) (by decide +kernel) fn_X6_has st_X6_has l_X6_121 ⟨by decide, by decide⟩) <|
  nv_oc (n_if_eq (off := 7) (tgt := 27) (by decide +kernel) (by decide)) <|
  nv_oc (n_iconst (z := 0) (by decide +kernel)) <|
  nv_oc (n_goto (off := 8) (tgt := 32) (by decide +kernel) (by decide)) <|
  nv_oc (n_aload_n (k := 1) (by decide +kernel)) <|
  nv_oc (n_iload_n (k := 3) (by decide +kernel)) <|
  nv_oc (n_static (M' := M_X6_cuts) (idx := 52) (n := 2) (by decide +kernel) fn_X6_cuts st_X6_cuts l_X6_52 ⟨by decide, by decide⟩) <|
  nv_oc (n_iastore (by decide +kernel)) <|
  nv_oc (n_iinc (k := 3) (d := 1) (by decide +kernel) (by decide)) <|
  nv_oc (n_goto (off := -34) (tgt := 2) (by decide +kernel) (by decide)) <|
  nv_oc (n_iconst (z := 0) (by decide +kernel)) <|
  nv_oc (n_istore_n (k := 3) (by decide +kernel) (by decide)) <|
  nv_oc (n_iload_n (k := 3) (by decide +kernel)) <|
  nv_oc (n_aload_n (k := 1) (by decide +kernel)) <|
  nv_oc (n_bipush (z := 28) (by decide +kernel) (by decide)) <|
  nv_oc (n_iaload (by decide +kernel)) <|
  nv_oc (n_icmp_ge (off := 103) (tgt := 149) (by decide +kernel) (by decide)) <|
  nv_oc (n_aload_n (k := 1) (by decide +kernel)) <|
  nv_oc (n_bipush (z := 12) (by decide +kernel) (by decide)) <|
  nv_oc (n_iload_n (k := 3) (by decide +kernel)) <|
  nv_oc (n_iadd (by decide +kernel)) <|
  nv_oc (n_iaload (by decide +kernel)) <|
  nv_oc (n_istore (k := 4) (by decide +kernel) (by decide)) <|
  nv_oc (n_iload (k := 4) (by decide +kernel)) <|
  nv_oc (n_bipush (z := -4) (by decide +kernel) (by decide)) <|
  nv_oc (n_icmp_eq (off := 41) (tgt := 102) (by decide +kernel) (by decide)) <|
  nv_oc (n_aload_n (k := 1) (by decide +kernel)) <|
  nv_oc (n_iconst (z := 2) (by decide +kernel)) <|
  nv_oc (n_iload (k := 4) (by decide +kernel)) <|
  nv_oc (n_iadd (by decide +kernel)) <|
  nv_oc (n_aload_n (k := 1) (by decide +kernel)) <|
  nv_oc (n_iconst (z := 2) (by decide +kernel)) <|
  nv_oc (n_iload (k := 4) (by decide +kernel)) <|
  nv_oc (n_iadd (by decide +kernel)) <|
  nv_oc (n_iaload (by decide +kernel)) <|
  nv_oc (n_aload_n (k := 0) (by decide +kernel)) <|
  nv_oc (n_getfield (idx := 35) (ci := 6) (k := 12) (N := 16) (D := RX6) (T := TX6) (by decide +kernel) rfl i_X6 (by decide) (by decide) f_X6_35) <|
  nv_oc (n_iload_n (k := 3) (by decide +kernel)) <|
  nv_oc (n_iaload (by decide +kernel)) <|
  nv_oc (n_icmp_le (off := 19) (tgt := 100) (by decide +kernel) (by decide)) <|
  nv_oc (n_aload_n (k := 1) (by decide +kernel)) <|
  nv_oc (n_iconst (z := 2) (by decide +kernel)) <|
  nv_oc (n_iload (k := 4) (by decide +kernel)) <|
  nv_oc (n_iadd (by decide +kernel)) <|
  nv_oc (n_iaload (by decide +kernel)) <|
  nv_oc (n_aload_n (k := 0) (by decide +kernel)) <|
  nv_oc (n_getfield (idx := 35) (ci := 6) (k := 12) (N := 16) (D := RX6) (T := TX6) (by decide +kernel) rfl i_X6 (by decide) (by decide) f_X6_35) <|
  nv_oc (n_iload_n (k := 3) (by decide +kernel)) <|
  nv_oc (n_iaload (by decide +kernel)) <|
  nv_oc (n_isub (by decide +kernel)) <|
  nv_oc (n_goto (off := 4) (tgt := 101) (by decide +kernel) (by decide)) <|
  nv_oc (n_iconst (z := 0) (by decide +kernel)) <|
  nv_oc (n_iastore (by decide +kernel)) <|
  nv_oc (n_aload_n (k := 1) (by decide +kernel)) <|
  nv_oc (n_bipush (z := 7) (by decide +kernel) (by decide)) <|
  nv_oc (n_iload_n (k := 3) (by decide +kernel)) <|
  nv_oc (n_iadd (by decide +kernel)) <|
  nv_oc (n_dup2 (by decide +kernel)) <|
  nv_oc (n_iaload (by decide +kernel)) <|
  nv_oc (n_aload_n (k := 1) (by decide +kernel)) <|
  nv_oc (n_iconst (z := 0) (by decide +kernel)) <|
  nv_oc (n_iaload (by decide +kernel)) <|
  nv_oc (n_iconst (z := 3) (by decide +kernel)) <|
  nv_oc (n_irem (by decide +kernel)) <|
  nv_oc (n_iconst (z := 2) (by decide +kernel)) <|
  nv_oc (n_icmp_ne (off := 25) (tgt := 140) (by decide +kernel) (by decide)) <|
  nv_oc (n_aload_n (k := 0) (by decide +kernel)) <|
  nv_oc (n_getfield (idx := 35) (ci := 6) (k := 12) (N := 16) (D := RX6) (T := TX6) (by decide +kernel) rfl i_X6 (by decide) (by decide) f_X6_35) <|
  nv_oc (n_iload_n (k := 3) (by decide +kernel)) <|
  nv_oc (n_iaload (by decide +kernel)) <|
  nv_oc (n_if_le (off := 16) (tgt := 140) (by decide +kernel) (by decide)) <|
  nv_oc (n_aload_n (k := 1) (by decide +kernel)) <|
  nv_oc (n_bipush (z := 7) (by decide +kernel) (by decide)) <|
  nv_oc (n_iload_n (k := 3) (by decide +kernel)) <|
  nv_oc (n_iadd (by decide +kernel)) <|
  nv_oc (n_iaload (by decide +kernel)) <|
  nv_oc (n_if_le (off := 7) (tgt := 140) (by decide +kernel) (by decide)) <|
  nv_oc (n_iconst (z := 1) (by decide +kernel)) <|
  nv_oc (n_goto (off := 4) (tgt := 141) (by decide +kernel) (by decide)) <|
  nv_oc (n_iconst (z := 0) (by decide +kernel)) <|
  nv_oc (n_isub (by decide +kernel)) <|
  nv_oc (n_iastore (by decide +kernel)) <|
  nv_oc (n_iinc (k := 3) (d := 1) (by decide +kernel) (by decide)) <|
  nv_oc (n_goto (off := -105) (tgt := 41) (by decide +kernel) (by decide)) <|
  nv_oc (n_iconst (z := 0) (by decide +kernel)) <|
  nv_oc (n_istore_n (k := 3) (by decide +kernel) (by decide)) <|
  nv_oc (n_iload_n (k := 3) (by decide +kernel)) <|
  nv_oc (n_aload_n (k := 1) (by decide +kernel)) <|
  nv_oc (n_bipush (z := 28) (by decide +kernel) (by decide)) <|
  nv_oc (n_iaload (by decide +kernel)) <|
  nv_oc (n_icmp_ge (off := 55) (tgt := 211) (by decide +kernel) (by decide)) <|
  nv_oc (n_aload_n (k := 1) (by decide +kernel)) <|
  nv_oc (n_bipush (z := 12) (by decide +kernel) (by decide)) <|
  nv_oc (n_iload_n (k := 3) (by decide +kernel)) <|
  nv_oc (n_iadd (by decide +kernel)) <|
  nv_oc (n_iaload (by decide +kernel)) <|
  nv_oc (n_istore (k := 4) (by decide +kernel) (by decide)) <|
  nv_oc (n_aload_n (k := 1) (by decide +kernel)) <|
  nv_oc (n_bipush (z := 12) (by decide +kernel) (by decide)) <|
  nv_oc (n_iload_n (k := 3) (by decide +kernel)) <|
  nv_oc (n_iadd (by decide +kernel)) <|
  nv_oc (n_iload (k := 4) (by decide +kernel)) <|
  nv_oc (n_bipush (z := -4) (by decide +kernel) (by decide)) <|
  nv_oc (n_icmp_eq (off := 26) (tgt := 202) (by decide +kernel) (by decide)) <|
  nv_oc (n_aload_n (k := 1) (by decide +kernel)) <|
  nv_oc (n_iconst (z := 2) (by decide +kernel)) <|
  nv_oc (n_iload (k := 4) (by decide +kernel)) <|
  nv_oc (n_iadd (by decide +kernel)) <|
  nv_oc (n_iaload (by decide +kernel)) <|
  nv_oc (n_if_ne (off := 17) (tgt := 202) (by decide +kernel) (by decide)) <|
  nv_oc (n_aload_n (k := 1) (by decide +kernel)) <|
  nv_oc (n_static (M' := M_X6_isAll) (idx := 124) (n := 1) (by decide +kernel) fn_X6_isAll st_X6_isAll l_X6_124 ⟨by decide, by decide⟩) <|
  nv_oc (n_if_ne (off := 10) (tgt := 202) (by decide +kernel) (by decide)) <|
  nv_oc (n_aload_n (k := 1) (by decide +kernel)) <|
  nv_oc (n_static (M' := M_X6_thickestOf) (idx := 128) (n := 1) (by decide +kernel) fn_X6_thickestOf st_X6_thickestOf l_X6_128 ⟨by decide, by decide⟩) <|
  nv_oc (n_goto (off := 5) (tgt := 204) (by decide +kernel) (by decide)) <|
  nv_oc (n_iload (k := 4) (by decide +kernel)) <|
  nv_oc (n_iastore (by decide +kernel)) <|
  nv_oc (n_iinc (k := 3) (d := 1) (by decide +kernel) (by decide)) <|
  nv_oc (n_goto (off := -57) (tgt := 151) (by decide +kernel) (by decide)) <|
  nv_oc (n_aload_n (k := 1) (by decide +kernel)) <|
  nv_oc (n_iconst (z := 0) (by decide +kernel)) <|
  nv_oc (n_dup2 (by decide +kernel)) <|
  nv_oc (n_iaload (by decide +kernel)) <|
  nv_oc (n_iconst (z := 1) (by decide +kernel)) <|
  nv_oc (n_iadd (by decide +kernel)) <|
  nv_oc (n_iastore (by decide +kernel)) <|
  nv_oc (n_vret (by decide +kernel) rfl) <|
  nv_on
def M_X6_hours : nv_MD := (RX6, yX6_hours, cX6_hours, 3, (some .int), 3, 66)
theorem fn_X6_hours : nv_fn M_X6_hours 1 := ⟨List.mem_of_getElem? (i := 909) (by decide +kernel), List.mem_of_getElem? (i := 50) (by decide +kernel), by decide +kernel⟩
theorem fv_X6_hours : nv_fnV M_X6_hours := ⟨List.mem_of_getElem? (i := 907) (by decide +kernel), List.mem_of_getElem? (i := 908) (by decide +kernel)⟩
def P_X6_hours : nv_Pg := [(0, s_il 1 1), (1, s_ki (1) 2), (2, s_ki (40) 4), (4, s_cs M_X6_in 3 7), (7, s_if c_eq 10 12), (10, s_ki (-1) 11), (11, s_ir), (12, s_al 0 13), (13, s_gf 6 7 16), (16, s_ki (0) 17), (17, s_ia 18), (18, s_il 1 19), (19, s_add 20), (20, s_ki (9999) 23), (23, s_ic c_le 29 26), (26, s_ki (-3) 28), (28, s_ir), (29, s_ki (0) 30), (30, s_is 2 31), (31, s_il 2 32), (32, s_il 1 33), (33, s_ic c_ge 55 36), (36, s_al 0 37), (37, s_cv 6 M_X6_note 0 40), (40, s_al 0 41), (41, s_al 0 42), (42, s_gf 6 7 45), (45, s_ki (0) 46), (46, s_cv 6 M_X6_hourIn 2 49), (49, s_inc 2 (1) 52), (52, s_go 31), (55, s_al 0 56), (56, s_gf 6 7 59), (59, s_cs M_X6_fallen 1 62), (62, s_ir)]
set_option maxRecDepth 100000 in
set_option maxHeartbeats 4000000 in
theorem ok_X6_hours : nv_ok_P M_X6_hours P_X6_hours :=
  nv_oc (n_iload_n (k := 1) (by decide +kernel)) <|
  nv_oc (n_iconst (z := 1) (by decide +kernel)) <|
  nv_oc (n_bipush (z := 40) (by decide +kernel) (by decide)) <|
  nv_oc (n_static (M' := M_X6_in) (idx := 41) (n := 3) (by decide +kernel) fn_X6_in st_X6_in l_X6_41 ⟨by decide, by decide⟩) <|
  nv_oc (n_if_ne (off := 5) (tgt := 12) (by decide +kernel) (by decide)) <|
  nv_oc (n_iconst (z := -1) (by decide +kernel)) <|
  nv_oc (n_iret (by decide +kernel) rfl) <|
  nv_oc (n_aload_n (k := 0) (by decide +kernel)) <|
  nv_oc (n_getfield (idx := 23) (ci := 6) (k := 7) (N := 16) (D := RX6) (T := TX6) (by decide +kernel) rfl i_X6 (by decide) (by decide) f_X6_23) <|
  nv_oc (n_iconst (z := 0) (by decide +kernel)) <|
  nv_oc (n_iaload (by decide +kernel)) <|
  nv_oc (n_iload_n (k := 1) (by decide +kernel)) <|
  nv_oc (n_iadd (by decide +kernel)) <|
  nv_oc (n_sipush (z := 9999) (by decide +kernel) (by decide)) <|
  nv_oc (n_icmp_le (off := 6) (tgt := 29) (by decide +kernel) (by decide)) <|
  nv_oc (n_bipush (z := -3) (by decide +kernel) (by decide)) <|
  nv_oc (n_iret (by decide +kernel) rfl) <|
  nv_oc (n_iconst (z := 0) (by decide +kernel)) <|
  nv_oc (n_istore_n (k := 2) (by decide +kernel) (by decide)) <|
  nv_oc (n_iload_n (k := 2) (by decide +kernel)) <|
  nv_oc (n_iload_n (k := 1) (by decide +kernel)) <|
  nv_oc (n_icmp_ge (off := 22) (tgt := 55) (by decide +kernel) (by decide)) <|
  nv_oc (n_aload_n (k := 0) (by decide +kernel)) <|
  nv_oc (n_virtual (M' := M_X6_note) (idx := 131) (n := 0) (ci := 6) (N := 16) (D := RX6) (T := TX6) (by decide +kernel) fn_X6_note fv_X6_note rfl rfl l_X6_131 ⟨by decide, by decide⟩) <|
  nv_oc (n_aload_n (k := 0) (by decide +kernel)) <|
  nv_oc (n_aload_n (k := 0) (by decide +kernel)) <|
  nv_oc (n_getfield (idx := 23) (ci := 6) (k := 7) (N := 16) (D := RX6) (T := TX6) (by decide +kernel) rfl i_X6 (by decide) (by decide) f_X6_23) <|
  nv_oc (n_iconst (z := 0) (by decide +kernel)) <|
  nv_oc (n_virtual (M' := M_X6_hourIn) (idx := 134) (n := 2) (ci := 6) (N := 16) (D := RX6) (T := TX6) (by decide +kernel) fn_X6_hourIn fv_X6_hourIn rfl rfl l_X6_134 ⟨by decide, by decide⟩) <|
  nv_oc (n_iinc (k := 2) (d := 1) (by decide +kernel) (by decide)) <|
  nv_oc (n_goto (off := -21) (tgt := 31) (by decide +kernel) (by decide)) <|
  nv_oc (n_aload_n (k := 0) (by decide +kernel)) <|
  nv_oc (n_getfield (idx := 23) (ci := 6) (k := 7) (N := 16) (D := RX6) (T := TX6) (by decide +kernel) rfl i_X6 (by decide) (by decide) f_X6_23) <|
  nv_oc (n_static (M' := M_X6_fallen) (idx := 111) (n := 1) (by decide +kernel) fn_X6_fallen st_X6_fallen l_X6_111 ⟨by decide, by decide⟩) <|
  nv_oc (n_iret (by decide +kernel) rfl) <|
  nv_on
def M_X6_set : nv_MD := (RX6, yX6_set, cX6_set, 4, (some .int), 2, 45)
theorem fn_X6_set : nv_fn M_X6_set 2 := ⟨List.mem_of_getElem? (i := 930) (by decide +kernel), List.mem_of_getElem? (i := 50) (by decide +kernel), by decide +kernel⟩
theorem fv_X6_set : nv_fnV M_X6_set := ⟨List.mem_of_getElem? (i := 928) (by decide +kernel), List.mem_of_getElem? (i := 929) (by decide +kernel)⟩
def P_X6_set : nv_Pg := [(0, s_al 0 1), (1, s_il 1 2), (2, s_cv 6 M_X6_isSawyer 1 5), (5, s_if c_eq 22 8), (8, s_il 2 9), (9, s_ki (-4) 11), (11, s_ic c_eq 24 14), (14, s_al 0 15), (15, s_il 2 16), (16, s_cv 6 M_X6_isPlank 1 19), (19, s_if c_eq 22 24), (22, s_ki (-1) 23), (23, s_ir), (24, s_al 0 25), (25, s_gf 6 7 28), (28, s_ki (12) 30), (30, s_il 1 31), (31, s_add 32), (32, s_ia 33), (33, s_is 3 34), (34, s_il 3 35), (35, s_il 2 36), (36, s_ic c_eq 39 42), (39, s_ki (-2) 41), (41, s_ir), (42, s_al 0 43), (43, s_cv 6 M_X6_note 0 46), (46, s_al 0 47), (47, s_gf 6 7 50), (50, s_ki (12) 52), (52, s_il 1 53), (53, s_add 54), (54, s_il 2 55), (55, s_iw 56), (56, s_il 3 57), (57, s_ir)]
set_option maxRecDepth 100000 in
set_option maxHeartbeats 4000000 in
theorem ok_X6_set : nv_ok_P M_X6_set P_X6_set :=
  nv_oc (n_aload_n (k := 0) (by decide +kernel)) <|
  nv_oc (n_iload_n (k := 1) (by decide +kernel)) <|
  nv_oc (n_virtual (M' := M_X6_isSawyer) (idx := 67) (n := 1) (ci := 6) (N := 16) (D := RX6) (T := TX6) (by decide +kernel) fn_X6_isSawyer fv_X6_isSawyer rfl rfl l_X6_67 ⟨by decide, by decide⟩) <|
  nv_oc (n_if_eq (off := 17) (tgt := 22) (by decide +kernel) (by decide)) <|
  nv_oc (n_iload_n (k := 2) (by decide +kernel)) <|
  nv_oc (n_bipush (z := -4) (by decide +kernel) (by decide)) <|
  nv_oc (n_icmp_eq (off := 13) (tgt := 24) (by decide +kernel) (by decide)) <|
  nv_oc (n_aload_n (k := 0) (by decide +kernel)) <|
  nv_oc (n_iload_n (k := 2) (by decide +kernel)) <|
  nv_oc (n_virtual (M' := M_X6_isPlank) (idx := 56) (n := 1) (ci := 6) (N := 16) (D := RX6) (T := TX6) (by decide +kernel) fn_X6_isPlank fv_X6_isPlank rfl rfl l_X6_56 ⟨by decide, by decide⟩) <|
  nv_oc (n_if_ne (off := 5) (tgt := 24) (by decide +kernel) (by decide)) <|
  nv_oc (n_iconst (z := -1) (by decide +kernel)) <|
  nv_oc (n_iret (by decide +kernel) rfl) <|
  nv_oc (n_aload_n (k := 0) (by decide +kernel)) <|
  nv_oc (n_getfield (idx := 23) (ci := 6) (k := 7) (N := 16) (D := RX6) (T := TX6) (by decide +kernel) rfl i_X6 (by decide) (by decide) f_X6_23) <|
  nv_oc (n_bipush (z := 12) (by decide +kernel) (by decide)) <|
  nv_oc (n_iload_n (k := 1) (by decide +kernel)) <|
  nv_oc (n_iadd (by decide +kernel)) <|
  nv_oc (n_iaload (by decide +kernel)) <|
  nv_oc (n_istore_n (k := 3) (by decide +kernel) (by decide)) <|
  nv_oc (n_iload_n (k := 3) (by decide +kernel)) <|
  nv_oc (n_iload_n (k := 2) (by decide +kernel)) <|
  nv_oc (n_icmp_ne (off := 6) (tgt := 42) (by decide +kernel) (by decide)) <|
  nv_oc (n_bipush (z := -2) (by decide +kernel) (by decide)) <|
  nv_oc (n_iret (by decide +kernel) rfl) <|
  nv_oc (n_aload_n (k := 0) (by decide +kernel)) <|
  nv_oc (n_virtual (M' := M_X6_note) (idx := 131) (n := 0) (ci := 6) (N := 16) (D := RX6) (T := TX6) (by decide +kernel) fn_X6_note fv_X6_note rfl rfl l_X6_131 ⟨by decide, by decide⟩) <|
  nv_oc (n_aload_n (k := 0) (by decide +kernel)) <|
  nv_oc (n_getfield (idx := 23) (ci := 6) (k := 7) (N := 16) (D := RX6) (T := TX6) (by decide +kernel) rfl i_X6 (by decide) (by decide) f_X6_23) <|
  nv_oc (n_bipush (z := 12) (by decide +kernel) (by decide)) <|
  nv_oc (n_iload_n (k := 1) (by decide +kernel)) <|
  nv_oc (n_iadd (by decide +kernel)) <|
  nv_oc (n_iload_n (k := 2) (by decide +kernel)) <|
  nv_oc (n_iastore (by decide +kernel)) <|
  nv_oc (n_iload_n (k := 3) (by decide +kernel)) <|
  nv_oc (n_iret (by decide +kernel) rfl) <|
  nv_on
def M_X6_sharpen : nv_MD := (RX6, yX6_sharpen, cX6_sharpen, 3, (some .int), 2, 45)
theorem fn_X6_sharpen : nv_fn M_X6_sharpen 2 := ⟨List.mem_of_getElem? (i := 934) (by decide +kernel), List.mem_of_getElem? (i := 50) (by decide +kernel), by decide +kernel⟩
theorem fv_X6_sharpen : nv_fnV M_X6_sharpen := ⟨List.mem_of_getElem? (i := 932) (by decide +kernel), List.mem_of_getElem? (i := 933) (by decide +kernel)⟩
def P_X6_sharpen : nv_Pg := [(0, s_al 0 1), (1, s_il 1 2), (2, s_cv 6 M_X6_isSawyer 1 5), (5, s_if c_eq 18 8), (8, s_il 2 9), (9, s_ki (1) 10), (10, s_ki (9) 12), (12, s_cs M_X6_in 3 15), (15, s_if c_eq 18 20), (18, s_ki (-1) 19), (19, s_ir), (20, s_al 0 21), (21, s_gf 6 7 24), (24, s_ki (7) 26), (26, s_il 1 27), (27, s_add 28), (28, s_ia 29), (29, s_ki (9) 31), (31, s_ic c_eq 34 37), (34, s_ki (-2) 36), (36, s_ir), (37, s_al 0 38), (38, s_cv 6 M_X6_note 0 41), (41, s_al 0 42), (42, s_gf 6 7 45), (45, s_ki (7) 47), (47, s_il 1 48), (48, s_add 49), (49, s_al 0 50), (50, s_gf 6 7 53), (53, s_ki (7) 55), (55, s_il 1 56), (56, s_add 57), (57, s_ia 58), (58, s_il 2 59), (59, s_add 60), (60, s_ki (9) 62), (62, s_ic c_le 70 65), (65, s_ki (9) 67), (67, s_go 81), (70, s_al 0 71), (71, s_gf 6 7 74), (74, s_ki (7) 76), (76, s_il 1 77), (77, s_add 78), (78, s_ia 79), (79, s_il 2 80), (80, s_add 81), (81, s_iw 82), (82, s_al 0 83), (83, s_gf 6 7 86), (86, s_ki (7) 88), (88, s_il 1 89), (89, s_add 90), (90, s_ia 91), (91, s_ir)]
set_option maxRecDepth 100000 in
set_option maxHeartbeats 4000000 in
theorem ok_X6_sharpen : nv_ok_P M_X6_sharpen P_X6_sharpen :=
  nv_oc (n_aload_n (k := 0) (by decide +kernel)) <|
  nv_oc (n_iload_n (k := 1) (by decide +kernel)) <|
  nv_oc (n_virtual (M' := M_X6_isSawyer) (idx := 67) (n := 1) (ci := 6) (N := 16) (D := RX6) (T := TX6) (by decide +kernel) fn_X6_isSawyer fv_X6_isSawyer rfl rfl l_X6_67 ⟨by decide, by decide⟩) <|
  nv_oc (n_if_eq (off := 13) (tgt := 18) (by decide +kernel) (by decide)) <|
  nv_oc (n_iload_n (k := 2) (by decide +kernel)) <|
  nv_oc (n_iconst (z := 1) (by decide +kernel)) <|
  nv_oc (n_bipush (z := 9) (by decide +kernel) (by decide)) <|
  nv_oc (n_static (M' := M_X6_in) (idx := 41) (n := 3) (by decide +kernel) fn_X6_in st_X6_in l_X6_41 ⟨by decide, by decide⟩) <|
  nv_oc (n_if_ne (off := 5) (tgt := 20) (by decide +kernel) (by decide)) <|
  nv_oc (n_iconst (z := -1) (by decide +kernel)) <|
  nv_oc (n_iret (by decide +kernel) rfl) <|
  nv_oc (n_aload_n (k := 0) (by decide +kernel)) <|
  nv_oc (n_getfield (idx := 23) (ci := 6) (k := 7) (N := 16) (D := RX6) (T := TX6) (by decide +kernel) rfl i_X6 (by decide) (by decide) f_X6_23) <|
  nv_oc (n_bipush (z := 7) (by decide +kernel) (by decide)) <|
  nv_oc (n_iload_n (k := 1) (by decide +kernel)) <|
  nv_oc (n_iadd (by decide +kernel)) <|
  nv_oc (n_iaload (by decide +kernel)) <|
  nv_oc (n_bipush (z := 9) (by decide +kernel) (by decide)) <|
  nv_oc (n_icmp_ne (off := 6) (tgt := 37) (by decide +kernel) (by decide)) <|
  nv_oc (n_bipush (z := -2) (by decide +kernel) (by decide)) <|
  nv_oc (n_iret (by decide +kernel) rfl) <|
  nv_oc (n_aload_n (k := 0) (by decide +kernel)) <|
  nv_oc (n_virtual (M' := M_X6_note) (idx := 131) (n := 0) (ci := 6) (N := 16) (D := RX6) (T := TX6) (by decide +kernel) fn_X6_note fv_X6_note rfl rfl l_X6_131 ⟨by decide, by decide⟩) <|
  nv_oc (n_aload_n (k := 0) (by decide +kernel)) <|
  nv_oc (n_getfield (idx := 23) (ci := 6) (k := 7) (N := 16) (D := RX6) (T := TX6) (by decide +kernel) rfl i_X6 (by decide) (by decide) f_X6_23) <|
  nv_oc (n_bipush (z := 7) (by decide +kernel) (by decide)) <|
  nv_oc (n_iload_n (k := 1) (by decide +kernel)) <|
  nv_oc (n_iadd (by decide +kernel)) <|
  nv_oc (n_aload_n (k := 0) (by decide +kernel)) <|
  nv_oc (n_getfield (idx := 23) (ci := 6) (k := 7) (N := 16) (D := RX6) (T := TX6) (by decide +kernel) rfl i_X6 (by decide) (by decide) f_X6_23) <|
  nv_oc (n_bipush (z := 7) (by decide +kernel) (by decide)) <|
  nv_oc (n_iload_n (k := 1) (by decide +kernel)) <|
  nv_oc (n_iadd (by decide +kernel)) <|
  nv_oc (n_iaload (by decide +kernel)) <|
  nv_oc (n_iload_n (k := 2) (by decide +kernel)) <|
  nv_oc (n_iadd (by decide +kernel)) <|
  nv_oc (n_bipush (z := 9) (by decide +kernel) (by decide)) <|
  nv_oc (n_icmp_le (off := 8) (tgt := 70) (by decide +kernel) (by decide)) <|
  nv_oc (n_bipush (z := 9) (by decide +kernel) (by decide)) <|
  nv_oc (n_goto (off := 14) (tgt := 81) (by decide +kernel) (by decide)) <|
  nv_oc (n_aload_n (k := 0) (by decide +kernel)) <|
  nv_oc (n_getfield (idx := 23) (ci := 6) (k := 7) (N := 16) (D := RX6) (T := TX6) (by decide +kernel) rfl i_X6 (by decide) (by decide) f_X6_23) <|
  nv_oc (n_bipush (z := 7) (by decide +kernel) (by decide)) <|
  nv_oc (n_iload_n (k := 1) (by decide +kernel)) <|
  nv_oc (n_iadd (by decide +kernel)) <|
  nv_oc (n_iaload (by decide +kernel)) <|
  nv_oc (n_iload_n (k := 2) (by decide +kernel)) <|
  nv_oc (n_iadd (by decide +kernel)) <|
  nv_oc (n_iastore (by decide +kernel)) <|
  nv_oc (n_aload_n (k := 0) (by decide +kernel)) <|
  nv_oc (n_getfield (idx := 23) (ci := 6) (k := 7) (N := 16) (D := RX6) (T := TX6) (by decide +kernel) rfl i_X6 (by decide) (by decide) f_X6_23) <|
  nv_oc (n_bipush (z := 7) (by decide +kernel) (by decide)) <|
  nv_oc (n_iload_n (k := 1) (by decide +kernel)) <|
  nv_oc (n_iadd (by decide +kernel)) <|
  nv_oc (n_iaload (by decide +kernel)) <|
  nv_oc (n_iret (by decide +kernel) rfl) <|
  nv_on
def M_X6_soak : nv_MD := (RX6, yX6_soak, cX6_soak, 4, (some .int), 2, 45)
theorem fn_X6_soak : nv_fn M_X6_soak 2 := ⟨List.mem_of_getElem? (i := 938) (by decide +kernel), List.mem_of_getElem? (i := 50) (by decide +kernel), by decide +kernel⟩
theorem fv_X6_soak : nv_fnV M_X6_soak := ⟨List.mem_of_getElem? (i := 936) (by decide +kernel), List.mem_of_getElem? (i := 937) (by decide +kernel)⟩
def P_X6_soak : nv_Pg := [(0, s_al 0 1), (1, s_il 1 2), (2, s_cv 6 M_X6_isPlank 1 5), (5, s_if c_eq 18 8), (8, s_il 2 9), (9, s_ki (1) 10), (10, s_ki (99) 12), (12, s_cs M_X6_in 3 15), (15, s_if c_eq 18 20), (18, s_ki (-1) 19), (19, s_ir), (20, s_al 0 21), (21, s_gf 6 7 24), (24, s_ki (2) 25), (25, s_il 1 26), (26, s_add 27), (27, s_ia 28), (28, s_is 3 29), (29, s_il 3 30), (30, s_if c_eq 39 33), (33, s_il 3 34), (34, s_ki (99) 36), (36, s_ic c_eq 39 42), (39, s_ki (-2) 41), (41, s_ir), (42, s_al 0 43), (43, s_cv 6 M_X6_note 0 46), (46, s_al 0 47), (47, s_gf 6 7 50), (50, s_ki (2) 51), (51, s_il 1 52), (52, s_add 53), (53, s_il 3 54), (54, s_il 2 55), (55, s_add 56), (56, s_ki (99) 58), (58, s_ic c_le 66 61), (61, s_ki (99) 63), (63, s_go 69), (66, s_il 3 67), (67, s_il 2 68), (68, s_add 69), (69, s_iw 70), (70, s_al 0 71), (71, s_gf 6 7 74), (74, s_ki (2) 75), (75, s_il 1 76), (76, s_add 77), (77, s_ia 78), (78, s_ir)]
set_option maxRecDepth 100000 in
set_option maxHeartbeats 4000000 in
theorem ok_X6_soak : nv_ok_P M_X6_soak P_X6_soak :=
  nv_oc (n_aload_n (k := 0) (by decide +kernel)) <|
  nv_oc (n_iload_n (k := 1) (by decide +kernel)) <|
  nv_oc (n_virtual (M' := M_X6_isPlank) (idx := 56) (n := 1) (ci := 6) (N := 16) (D := RX6) (T := TX6) (by decide +kernel) fn_X6_isPlank fv_X6_isPlank rfl rfl l_X6_56 ⟨by decide, by decide⟩) <|
  nv_oc (n_if_eq (off := 13) (tgt := 18) (by decide +kernel) (by decide)) <|
  nv_oc (n_iload_n (k := 2) (by decide +kernel)) <|
  nv_oc (n_iconst (z := 1) (by decide +kernel)) <|
  nv_oc (n_bipush (z := 99) (by decide +kernel) (by decide)) <|
  nv_oc (n_static (M' := M_X6_in) (idx := 41) (n := 3) (by decide +kernel) fn_X6_in st_X6_in l_X6_41 ⟨by decide, by decide⟩) <|
  nv_oc (n_if_ne (off := 5) (tgt := 20) (by decide +kernel) (by decide)) <|
  nv_oc (n_iconst (z := -1) (by decide +kernel)) <|
  nv_oc (n_iret (by decide +kernel) rfl) <|
  nv_oc (n_aload_n (k := 0) (by decide +kernel)) <|
  nv_oc (n_getfield (idx := 23) (ci := 6) (k := 7) (N := 16) (D := RX6) (T := TX6) (by decide +kernel) rfl i_X6 (by decide) (by decide) f_X6_23) <|
  nv_oc (n_iconst (z := 2) (by decide +kernel)) <|
  nv_oc (n_iload_n (k := 1) (by decide +kernel)) <|
  nv_oc (n_iadd (by decide +kernel)) <|
  nv_oc (n_iaload (by decide +kernel)) <|
  nv_oc (n_istore_n (k := 3) (by decide +kernel) (by decide)) <|
  nv_oc (n_iload_n (k := 3) (by decide +kernel)) <|
  nv_oc (n_if_eq (off := 9) (tgt := 39) (by decide +kernel) (by decide)) <|
  nv_oc (n_iload_n (k := 3) (by decide +kernel)) <|
  nv_oc (n_bipush (z := 99) (by decide +kernel) (by decide)) <|
  nv_oc (n_icmp_ne (off := 6) (tgt := 42) (by decide +kernel) (by decide)) <|
  nv_oc (n_bipush (z := -2) (by decide +kernel) (by decide)) <|
  nv_oc (n_iret (by decide +kernel) rfl) <|
  nv_oc (n_aload_n (k := 0) (by decide +kernel)) <|
  nv_oc (n_virtual (M' := M_X6_note) (idx := 131) (n := 0) (ci := 6) (N := 16) (D := RX6) (T := TX6) (by decide +kernel) fn_X6_note fv_X6_note rfl rfl l_X6_131 ⟨by decide, by decide⟩) <|
  nv_oc (n_aload_n (k := 0) (by decide +kernel)) <|
  nv_oc (n_getfield (idx := 23) (ci := 6) (k := 7) (N := 16) (D := RX6) (T := TX6) (by decide +kernel) rfl i_X6 (by decide) (by decide) f_X6_23) <|
  nv_oc (n_iconst (z := 2) (by decide +kernel)) <|
  nv_oc (n_iload_n (k := 1) (by decide +kernel)) <|
  nv_oc (n_iadd (by decide +kernel)) <|
  nv_oc (n_iload_n (k := 3) (by decide +kernel)) <|
  nv_oc (n_iload_n (k := 2) (by decide +kernel)) <|
  nv_oc (n_iadd (by decide +kernel)) <|
  nv_oc (n_bipush (z := 99) (by decide +kernel) (by decide)) <|
  nv_oc (n_icmp_le (off := 8) (tgt := 66) (by decide +kernel) (by decide)) <|
  nv_oc (n_bipush (z := 99) (by decide +kernel) (by decide)) <|
  nv_oc (n_goto (off := 6) (tgt := 69) (by decide +kernel) (by decide)) <|
  nv_oc (n_iload_n (k := 3) (by decide +kernel)) <|
  nv_oc (n_iload_n (k := 2) (by decide +kernel)) <|
  nv_oc (n_iadd (by decide +kernel)) <|
  nv_oc (n_iastore (by decide +kernel)) <|
  nv_oc (n_aload_n (k := 0) (by decide +kernel)) <|
  nv_oc (n_getfield (idx := 23) (ci := 6) (k := 7) (N := 16) (D := RX6) (T := TX6) (by decide +kernel) rfl i_X6 (by decide) (by decide) f_X6_23) <|
  nv_oc (n_iconst (z := 2) (by decide +kernel)) <|
  nv_oc (n_iload_n (k := 1) (by decide +kernel)) <|
  nv_oc (n_iadd (by decide +kernel)) <|
  nv_oc (n_iaload (by decide +kernel)) <|
  nv_oc (n_iret (by decide +kernel) rfl) <|
  nv_on
def M_X6_drift : nv_MD := (RX6, yX6_drift, cX6_drift, 3, (some .int), 3, 66)
theorem fn_X6_drift : nv_fn M_X6_drift 1 := ⟨List.mem_of_getElem? (i := 942) (by decide +kernel), List.mem_of_getElem? (i := 50) (by decide +kernel), by decide +kernel⟩
theorem fv_X6_drift : nv_fnV M_X6_drift := ⟨List.mem_of_getElem? (i := 940) (by decide +kernel), List.mem_of_getElem? (i := 941) (by decide +kernel)⟩
def P_X6_drift : nv_Pg := [(0, s_il 1 1), (1, s_ki (1) 2), (2, s_ki (40) 4), (4, s_cs M_X6_in 3 7), (7, s_if c_eq 10 12), (10, s_ki (-1) 11), (11, s_ir), (12, s_al 0 13), (13, s_gf 6 7 16), (16, s_ki (0) 17), (17, s_ia 18), (18, s_il 1 19), (19, s_add 20), (20, s_ki (9999) 23), (23, s_ic c_le 29 26), (26, s_ki (-3) 28), (28, s_ir), (29, s_ki (0) 30), (30, s_is 2 31), (31, s_il 2 32), (32, s_il 1 33), (33, s_ic c_ge 144 36), (36, s_al 0 37), (37, s_cv 6 M_X6_note 0 40), (40, s_al 0 41), (41, s_gf 6 7 44), (44, s_ki (1) 45), (45, s_al 0 46), (46, s_gf 6 7 49), (49, s_ki (1) 50), (50, s_ia 51), (51, s_i2l 52), (52, s_kl 1103515245 55), (55, s_lmul 56), (56, s_kl 12345 59), (59, s_ladd 60), (60, s_kl 2147483648 63), (63, s_lrem 64), (64, s_l2i 65), (65, s_iw 66), (66, s_al 0 67), (67, s_gf 6 7 70), (70, s_ki (28) 72), (72, s_ia 73), (73, s_if c_le 129 76), (76, s_al 0 77), (77, s_gf 6 7 80), (80, s_ki (17) 82), (82, s_ia 83), (83, s_if c_le 129 86), (86, s_al 0 87), (87, s_gf 6 7 90), (90, s_ki (12) 92), (92, s_al 0 93), (93, s_gf 6 7 96), (96, s_ki (1) 97), (97, s_ia 98), (98, s_ki 65536 100), (100, s_div 101), (101, s_al 0 102), (102, s_gf 6 7 105), (105, s_ki (28) 107), (107, s_ia 108), (108, s_rem 109), (109, s_add 110), (110, s_al 0 111), (111, s_gf 6 7 114), (114, s_ki (1) 115), (115, s_ia 116), (116, s_ki (128) 119), (119, s_div 120), (120, s_al 0 121), (121, s_gf 6 7 124), (124, s_ki (17) 126), (126, s_ia 127), (127, s_rem 128), (128, s_iw 129), (129, s_al 0 130), (130, s_al 0 131), (131, s_gf 6 7 134), (134, s_ki (0) 135), (135, s_cv 6 M_X6_hourIn 2 138), (138, s_inc 2 (1) 141), (141, s_go 31), (144, s_al 0 145), (145, s_gf 6 7 148), (148, s_cs M_X6_fallen 1 151), (151, s_ir)]
set_option maxRecDepth 100000 in
set_option maxHeartbeats 4000000 in
theorem ok_X6_drift : nv_ok_P M_X6_drift P_X6_drift :=
  nv_oc (n_iload_n (k := 1) (by decide +kernel)) <|
  nv_oc (n_iconst (z := 1) (by decide +kernel)) <|
  nv_oc (n_bipush (z := 40) (by decide +kernel) (by decide)) <|
  nv_oc (n_static (M' := M_X6_in) (idx := 41) (n := 3) (by decide +kernel) fn_X6_in st_X6_in l_X6_41 ⟨by decide, by decide⟩) <|
  nv_oc (n_if_ne (off := 5) (tgt := 12) (by decide +kernel) (by decide)) <|
  nv_oc (n_iconst (z := -1) (by decide +kernel)) <|
  nv_oc (n_iret (by decide +kernel) rfl) <|
  nv_oc (n_aload_n (k := 0) (by decide +kernel)) <|
  nv_oc (n_getfield (idx := 23) (ci := 6) (k := 7) (N := 16) (D := RX6) (T := TX6) (by decide +kernel) rfl i_X6 (by decide) (by decide) f_X6_23) <|
  nv_oc (n_iconst (z := 0) (by decide +kernel)) <|
  nv_oc (n_iaload (by decide +kernel)) <|
  nv_oc (n_iload_n (k := 1) (by decide +kernel)) <|
  nv_oc (n_iadd (by decide +kernel)) <|
  nv_oc (n_sipush (z := 9999) (by decide +kernel) (by decide)) <|
  nv_oc (n_icmp_le (off := 6) (tgt := 29) (by decide +kernel) (by decide)) <|
  nv_oc (n_bipush (z := -3) (by decide +kernel) (by decide)) <|
  nv_oc (n_iret (by decide +kernel) rfl) <|
  nv_oc (n_iconst (z := 0) (by decide +kernel)) <|
  nv_oc (n_istore_n (k := 2) (by decide +kernel) (by decide)) <|
  nv_oc (n_iload_n (k := 2) (by decide +kernel)) <|
  nv_oc (n_iload_n (k := 1) (by decide +kernel)) <|
  nv_oc (n_icmp_ge (off := 111) (tgt := 144) (by decide +kernel) (by decide)) <|
  nv_oc (n_aload_n (k := 0) (by decide +kernel)) <|
  nv_oc (n_virtual (M' := M_X6_note) (idx := 131) (n := 0) (ci := 6) (N := 16) (D := RX6) (T := TX6) (by decide +kernel) fn_X6_note fv_X6_note rfl rfl l_X6_131 ⟨by decide, by decide⟩) <|
  nv_oc (n_aload_n (k := 0) (by decide +kernel)) <|
  nv_oc (n_getfield (idx := 23) (ci := 6) (k := 7) (N := 16) (D := RX6) (T := TX6) (by decide +kernel) rfl i_X6 (by decide) (by decide) f_X6_23) <|
  nv_oc (n_iconst (z := 1) (by decide +kernel)) <|
  nv_oc (n_aload_n (k := 0) (by decide +kernel)) <|
  nv_oc (n_getfield (idx := 23) (ci := 6) (k := 7) (N := 16) (D := RX6) (T := TX6) (by decide +kernel) rfl i_X6 (by decide) (by decide) f_X6_23) <|
  nv_oc (n_iconst (z := 1) (by decide +kernel)) <|
  nv_oc (n_iaload (by decide +kernel)) <|
  nv_oc (n_i2l (by decide +kernel)) <|
  nv_oc (n_ldc2 (i := 138) (z := 1103515245) (by decide +kernel) k_X6_138) <|
  nv_oc (n_lmul (by decide +kernel)) <|
  nv_oc (n_ldc2 (i := 140) (z := 12345) (by decide +kernel) k_X6_140) <|
  nv_oc (n_ladd (by decide +kernel)) <|
  nv_oc (n_ldc2 (i := 142) (z := 2147483648) (by decide +kernel) k_X6_142) <|
  nv_oc (n_lrem (by decide +kernel)) <|
  nv_oc (n_l2i (by decide +kernel)) <|
  nv_oc (n_iastore (by decide +kernel)) <|
  nv_oc (n_aload_n (k := 0) (by decide +kernel)) <|
  nv_oc (n_getfield (idx := 23) (ci := 6) (k := 7) (N := 16) (D := RX6) (T := TX6) (by decide +kernel) rfl i_X6 (by decide) (by decide) f_X6_23) <|
  nv_oc (n_bipush (z := 28) (by decide +kernel) (by decide)) <|
  nv_oc (n_iaload (by decide +kernel)) <|
  nv_oc (n_if_le (off := 56) (tgt := 129) (by decide +kernel) (by decide)) <|
  nv_oc (n_aload_n (k := 0) (by decide +kernel)) <|
  nv_oc (n_getfield (idx := 23) (ci := 6) (k := 7) (N := 16) (D := RX6) (T := TX6) (by decide +kernel) rfl i_X6 (by decide) (by decide) f_X6_23) <|
  nv_oc (n_bipush (z := 17) (by decide +kernel) (by decide)) <|
  nv_oc (n_iaload (by decide +kernel)) <|
  nv_oc (n_if_le (off := 46) (tgt := 129) (by decide +kernel) (by decide)) <|
  nv_oc (n_aload_n (k := 0) (by decide +kernel)) <|
  nv_oc (n_getfield (idx := 23) (ci := 6) (k := 7) (N := 16) (D := RX6) (T := TX6) (by decide +kernel) rfl i_X6 (by decide) (by decide) f_X6_23) <|
  nv_oc (n_bipush (z := 12) (by decide +kernel) (by decide)) <|
  nv_oc (n_aload_n (k := 0) (by decide +kernel)) <|
  nv_oc (n_getfield (idx := 23) (ci := 6) (k := 7) (N := 16) (D := RX6) (T := TX6) (by decide +kernel) rfl i_X6 (by decide) (by decide) f_X6_23) <|
  nv_oc (n_iconst (z := 1) (by decide +kernel)) <|
  nv_oc (n_iaload (by decide +kernel)) <|
  nv_oc (n_ldc (i := 144) (z := 65536) (by decide +kernel) k_X6_144) <|
  nv_oc (n_idiv (by decide +kernel)) <|
  nv_oc (n_aload_n (k := 0) (by decide +kernel)) <|
  nv_oc (n_getfield (idx := 23) (ci := 6) (k := 7) (N := 16) (D := RX6) (T := TX6) (by decide +kernel) rfl i_X6 (by decide) (by decide) f_X6_23) <|
  nv_oc (n_bipush (z := 28) (by decide +kernel) (by decide)) <|
  nv_oc (n_iaload (by decide +kernel)) <|
  nv_oc (n_irem (by decide +kernel)) <|
  nv_oc (n_iadd (by decide +kernel)) <|
  nv_oc (n_aload_n (k := 0) (by decide +kernel)) <|
  nv_oc (n_getfield (idx := 23) (ci := 6) (k := 7) (N := 16) (D := RX6) (T := TX6) (by decide +kernel) rfl i_X6 (by decide) (by decide) f_X6_23) <|
  nv_oc (n_iconst (z := 1) (by decide +kernel)) <|
  nv_oc (n_iaload (by decide +kernel)) <|
  nv_oc (n_sipush (z := 128) (by decide +kernel) (by decide)) <|
  nv_oc (n_idiv (by decide +kernel)) <|
  nv_oc (n_aload_n (k := 0) (by decide +kernel)) <|
  nv_oc (n_getfield (idx := 23) (ci := 6) (k := 7) (N := 16) (D := RX6) (T := TX6) (by decide +kernel) rfl i_X6 (by decide) (by decide) f_X6_23) <|
  nv_oc (n_bipush (z := 17) (by decide +kernel) (by decide)) <|
  nv_oc (n_iaload (by decide +kernel)) <|
  nv_oc (n_irem (by decide +kernel)) <|
  nv_oc (n_iastore (by decide +kernel)) <|
  nv_oc (n_aload_n (k := 0) (by decide +kernel)) <|
  nv_oc (n_aload_n (k := 0) (by decide +kernel)) <|
  nv_oc (n_getfield (idx := 23) (ci := 6) (k := 7) (N := 16) (D := RX6) (T := TX6) (by decide +kernel) rfl i_X6 (by decide) (by decide) f_X6_23) <|
  nv_oc (n_iconst (z := 0) (by decide +kernel)) <|
  nv_oc (n_virtual (M' := M_X6_hourIn) (idx := 134) (n := 2) (ci := 6) (N := 16) (D := RX6) (T := TX6) (by decide +kernel) fn_X6_hourIn fv_X6_hourIn rfl rfl l_X6_134 ⟨by decide, by decide⟩) <|
  nv_oc (n_iinc (k := 2) (d := 1) (by decide +kernel) (by decide)) <|
  nv_oc (n_goto (off := -110) (tgt := 31) (by decide +kernel) (by decide)) <|
  nv_oc (n_aload_n (k := 0) (by decide +kernel)) <|
  nv_oc (n_getfield (idx := 23) (ci := 6) (k := 7) (N := 16) (D := RX6) (T := TX6) (by decide +kernel) rfl i_X6 (by decide) (by decide) f_X6_23) <|
  nv_oc (n_static (M' := M_X6_fallen) (idx := 111) (n := 1) (by decide +kernel) fn_X6_fallen st_X6_fallen l_X6_111 ⟨by decide, by decide⟩) <|
  nv_oc (n_iret (by decide +kernel) rfl) <|
  nv_on
