def M_X4_tellPlank : nv_MD := (RX4, yX4_tellPlank, cX4_tellPlank, 5, (some .boolean), 3, 65)
theorem fn_X4_tellPlank : nv_fn M_X4_tellPlank 1 := ⟨List.mem_of_getElem? (i := 330) (by decide +kernel), List.mem_of_getElem? (i := 48) (by decide +kernel), by decide +kernel⟩
theorem fv_X4_tellPlank : nv_fnV M_X4_tellPlank := ⟨List.mem_of_getElem? (i := 329) (by decide +kernel), List.mem_of_getElem? (i := 4) (by decide +kernel)⟩
def P_X4_tellPlank : nv_Pg := [(0, s_al 0 1), (1, s_ki (1) 2), (2, s_ki (99) 4), (4, s_cv 4 M_X4_takeNumber 2 7), (7, s_is 2 8), (8, s_il 2 9), (9, s_if c_ge 14 12), (12, s_ki (0) 13), (13, s_zr), (14, s_al 0 15), (15, s_ki (37) 17), (17, s_cv 4 M_X4_takes 1 20), (20, s_if c_eq 32 23), (23, s_al 0 24), (24, s_ki (9) 26), (26, s_cv 4 M_X4_takeDigit 1 29), (29, s_go 33), (32, s_ki (0) 33), (33, s_is 3 34), (34, s_il 3 35), (35, s_if c_ge 40 38), (38, s_ki (0) 39), (39, s_zr), (40, s_al 0 41), (41, s_ki (45) 43), (43, s_cv 4 M_X4_takes 1 46), (46, s_if c_eq 58 49), (49, s_al 0 50), (50, s_ki (0) 51), (51, s_il 2 52), (52, s_cv 4 M_X4_takeNumber 2 55), (55, s_go 59), (58, s_ki (0) 59), (59, s_is 4 61), (61, s_il 4 63), (63, s_if c_lt 83 66), (66, s_al 1 67), (67, s_il 2 68), (68, s_il 3 69), (69, s_il 2 70), (70, s_il 4 72), (72, s_sub 73), (73, s_cv 0 M_X0_addPlank 3 76), (76, s_if c_lt 83 79), (79, s_ki (1) 80), (80, s_go 84), (83, s_ki (0) 84), (84, s_zr)]
set_option maxRecDepth 100000 in
set_option maxHeartbeats 4000000 in
theorem ok_X4_tellPlank : nv_ok_P M_X4_tellPlank P_X4_tellPlank :=
  nv_oc (n_aload_n (k := 0) (by decide +kernel)) <|
  nv_oc (n_iconst (z := 1) (by decide +kernel)) <|
  nv_oc (n_bipush (z := 99) (by decide +kernel) (by decide)) <|
  nv_oc (n_virtual (M' := M_X4_takeNumber) (idx := 48) (n := 2) (ci := 4) (N := 3) (D := RX4) (T := TX4) (by decide +kernel) fn_X4_takeNumber fv_X4_takeNumber rfl rfl l_X4_48 ⟨by decide, by decide⟩) <|
  nv_oc (n_istore_n (k := 2) (by decide +kernel) (by decide)) <|
  nv_oc (n_iload_n (k := 2) (by decide +kernel)) <|
  nv_oc (n_if_ge (off := 5) (tgt := 14) (by decide +kernel) (by decide)) <|
  nv_oc (n_iconst (z := 0) (by decide +kernel)) <|
  nv_oc (n_zret (by decide +kernel) rfl) <|
  nv_oc (n_aload_n (k := 0) (by decide +kernel)) <|
  nv_oc (n_bipush (z := 37) (by decide +kernel) (by decide)) <|
  nv_oc (n_virtual (M' := M_X4_takes) (idx := 31) (n := 1) (ci := 4) (N := 3) (D := RX4) (T := TX4) (by decide +kernel) fn_X4_takes fv_X4_takes rfl rfl l_X4_31 ⟨by decide, by decide⟩) <|
  nv_oc (n_if_eq (off := 12) (tgt := 32) (by decide +kernel) (by decide)) <|
  nv_oc (n_aload_n (k := 0) (by decide +kernel)) <|
  nv_oc (n_bipush (z := 9) (by decide +kernel) (by decide)) <|
  nv_oc (n_virtual (M' := M_X4_takeDigit) (idx := 52) (n := 1) (ci := 4) (N := 3) (D := RX4) (T := TX4) (by decide +kernel) fn_X4_takeDigit fv_X4_takeDigit rfl rfl l_X4_52 ⟨by decide, by decide⟩) <|
  nv_oc (n_goto (off := 4) (tgt := 33) (by decide +kernel) (by decide)) <|
  nv_oc (n_iconst (z := 0) (by decide +kernel)) <|
  nv_oc (n_istore_n (k := 3) (by decide +kernel) (by decide)) <|
  nv_oc (n_iload_n (k := 3) (by decide +kernel)) <|
  nv_oc (n_if_ge (off := 5) (tgt := 40) (by decide +kernel) (by decide)) <|
  nv_oc (n_iconst (z := 0) (by decide +kernel)) <|
  nv_oc (n_zret (by decide +kernel) rfl) <|
  nv_oc (n_aload_n (k := 0) (by decide +kernel)) <|
  nv_oc (n_bipush (z := 45) (by decide +kernel) (by decide)) <|
  nv_oc (n_virtual (M' := M_X4_takes) (idx := 31) (n := 1) (ci := 4) (N := 3) (D := RX4) (T := TX4) (by decide +kernel) fn_X4_takes fv_X4_takes rfl rfl l_X4_31 ⟨by decide, by decide⟩) <|
  nv_oc (n_if_eq (off := 12) (tgt := 58) (by decide +kernel) (by decide)) <|
  nv_oc (n_aload_n (k := 0) (by decide +kernel)) <|
  nv_oc (n_iconst (z := 0) (by decide +kernel)) <|
  nv_oc (n_iload_n (k := 2) (by decide +kernel)) <|
  nv_oc (n_virtual (M' := M_X4_takeNumber) (idx := 48) (n := 2) (ci := 4) (N := 3) (D := RX4) (T := TX4) (by decide +kernel) fn_X4_takeNumber fv_X4_takeNumber rfl rfl l_X4_48 ⟨by decide, by decide⟩) <|
  nv_oc (n_goto (off := 4) (tgt := 59) (by decide +kernel) (by decide)) <|
  nv_oc (n_iconst (z := 0) (by decide +kernel)) <|
  nv_oc (n_istore (k := 4) (by decide +kernel) (by decide)) <|
  nv_oc (n_iload (k := 4) (by decide +kernel)) <|
  nv_oc (n_if_lt (off := 20) (tgt := 83) (by decide +kernel) (by decide)) <|
  nv_oc (n_aload_n (k := 1) (by decide +kernel)) <|
  nv_oc (n_iload_n (k := 2) (by decide +kernel)) <|
  nv_oc (n_iload_n (k := 3) (by decide +kernel)) <|
  nv_oc (n_iload_n (k := 2) (by decide +kernel)) <|
  nv_oc (n_iload (k := 4) (by decide +kernel)) <|
  nv_oc (n_isub (by decide +kernel)) <|
  nv_oc (n_virtual (M' := M_X0_addPlank) (idx := 56) (n := 3) (ci := 0) (N := 11) (D := RX0) (T := TX0) (by decide +kernel) fn_X0_addPlank fv_X0_addPlank rfl rfl l_X4_56 ⟨by decide, by decide⟩) <|
  nv_oc (n_if_lt (off := 7) (tgt := 83) (by decide +kernel) (by decide)) <|
  nv_oc (n_iconst (z := 1) (by decide +kernel)) <|
  nv_oc (n_goto (off := 4) (tgt := 84) (by decide +kernel) (by decide)) <|
  nv_oc (n_iconst (z := 0) (by decide +kernel)) <|
  nv_oc (n_zret (by decide +kernel) rfl) <|
  nv_on
def M_X4_tellPlanks : nv_MD := (RX4, yX4_tellPlanks, cX4_tellPlanks, 3, (some .boolean), 4, 89)
theorem fn_X4_tellPlanks : nv_fn M_X4_tellPlanks 1 := ⟨List.mem_of_getElem? (i := 326) (by decide +kernel), List.mem_of_getElem? (i := 48) (by decide +kernel), by decide +kernel⟩
theorem fv_X4_tellPlanks : nv_fnV M_X4_tellPlanks := ⟨List.mem_of_getElem? (i := 325) (by decide +kernel), List.mem_of_getElem? (i := 3) (by decide +kernel)⟩
def P_X4_tellPlanks : nv_Pg := [(0, s_ki (0) 1), (1, s_is 2 2), (2, s_il 2 3), (3, s_ki (5) 4), (4, s_ic c_ge 39 7), (7, s_al 0 8), (8, s_al 1 9), (9, s_cv 4 M_X4_tellPlank 1 12), (12, s_if c_eq 15 17), (15, s_ki (0) 16), (16, s_zr), (17, s_il 2 18), (18, s_ki (4) 19), (19, s_ic c_eq 31 22), (22, s_al 0 23), (23, s_ki (44) 25), (25, s_cv 4 M_X4_takes 1 28), (28, s_if c_eq 31 33), (31, s_ki (1) 32), (32, s_zr), (33, s_inc 2 (1) 36), (36, s_go 2), (39, s_ki (1) 40), (40, s_zr)]
set_option maxRecDepth 100000 in
set_option maxHeartbeats 4000000 in
theorem ok_X4_tellPlanks : nv_ok_P M_X4_tellPlanks P_X4_tellPlanks :=
  nv_oc (n_iconst (z := 0) (by decide +kernel)) <|
  nv_oc (n_istore_n (k := 2) (by decide +kernel) (by decide)) <|
  nv_oc (n_iload_n (k := 2) (by decide +kernel)) <|
  nv_oc (n_iconst (z := 5) (by decide +kernel)) <|
  nv_oc (n_icmp_ge (off := 35) (tgt := 39) (by decide +kernel) (by decide)) <|
  nv_oc (n_aload_n (k := 0) (by decide +kernel)) <|
  nv_oc (n_aload_n (k := 1) (by decide +kernel)) <|
  nv_oc (n_virtual (M' := M_X4_tellPlank) (idx := 45) (n := 1) (ci := 4) (N := 3) (D := RX4) (T := TX4) (by decide +kernel) fn_X4_tellPlank fv_X4_tellPlank rfl rfl l_X4_45 ⟨by decide, by decide⟩) <|
  nv_oc (n_if_ne (off := 5) (tgt := 17) (by decide +kernel) (by decide)) <|
  nv_oc (n_iconst (z := 0) (by decide +kernel)) <|
  nv_oc (n_zret (by decide +kernel) rfl) <|
  nv_oc (n_iload_n (k := 2) (by decide +kernel)) <|
  nv_oc (n_iconst (z := 4) (by decide +kernel)) <|
  nv_oc (n_icmp_eq (off := 12) (tgt := 31) (by decide +kernel) (by decide)) <|
  nv_oc (n_aload_n (k := 0) (by decide +kernel)) <|
  nv_oc (n_bipush (z := 44) (by decide +kernel) (by decide)) <|
  nv_oc (n_virtual (M' := M_X4_takes) (idx := 31) (n := 1) (ci := 4) (N := 3) (D := RX4) (T := TX4) (by decide +kernel) fn_X4_takes fv_X4_takes rfl rfl l_X4_31 ⟨by decide, by decide⟩) <|
  nv_oc (n_if_ne (off := 5) (tgt := 33) (by decide +kernel) (by decide)) <|
  nv_oc (n_iconst (z := 1) (by decide +kernel)) <|
  nv_oc (n_zret (by decide +kernel) rfl) <|
  nv_oc (n_iinc (k := 2) (d := 1) (by decide +kernel) (by decide)) <|
  nv_oc (n_goto (off := -34) (tgt := 2) (by decide +kernel) (by decide)) <|
  nv_oc (n_iconst (z := 1) (by decide +kernel)) <|
  nv_oc (n_zret (by decide +kernel) rfl) <|
  nv_on
def M_X4_tellSawyer : nv_MD := (RX4, yX4_tellSawyer, cX4_tellSawyer, 5, (some .boolean), 7, 221)
theorem fn_X4_tellSawyer : nv_fn M_X4_tellSawyer 1 := ⟨List.mem_of_getElem? (i := 363) (by decide +kernel), List.mem_of_getElem? (i := 48) (by decide +kernel), by decide +kernel⟩
theorem fv_X4_tellSawyer : nv_fnV M_X4_tellSawyer := ⟨List.mem_of_getElem? (i := 362) (by decide +kernel), List.mem_of_getElem? (i := 11) (by decide +kernel)⟩
def P_X4_tellSawyer : nv_Pg := [(0, s_str 2), (2, s_al 0 3), (3, s_cv 4 M_X4_nextLetter 0 6), (6, s_cS M_J0_indexOf_0f7a4 1 9), (9, s_is 2 10), (10, s_il 2 11), (11, s_if c_ge 16 14), (14, s_ki (0) 15), (15, s_zr), (16, s_al 0 17), (17, s_dup 18), (18, s_gf 4 2 21), (21, s_ki (1) 22), (22, s_add 23), (23, s_pf 4 2 26), (26, s_al 0 27), (27, s_ki (9) 29), (29, s_cv 4 M_X4_takeDigit 1 32), (32, s_is 3 33), (33, s_il 3 34), (34, s_if c_ge 39 37), (37, s_ki (0) 38), (38, s_zr), (39, s_al 0 40), (40, s_ki (64) 42), (42, s_cv 4 M_X4_takes 1 45), (45, s_if c_eq 48 65), (48, s_al 1 49), (49, s_il 2 50), (50, s_il 3 51), (51, s_ki (-4) 53), (53, s_cv 0 M_X0_addSawyer 3 56), (56, s_if c_lt 63 59), (59, s_ki (1) 60), (60, s_go 64), (63, s_ki (0) 64), (64, s_zr), (65, s_al 0 66), (66, s_al 1 67), (67, s_gf 0 0 70), (70, s_ki (1) 71), (71, s_sub 72), (72, s_cv 4 M_X4_takeDigit 1 75), (75, s_is 4 77), (77, s_il 4 79), (79, s_if c_lt 97 82), (82, s_al 1 83), (83, s_il 2 84), (84, s_il 3 85), (85, s_il 4 87), (87, s_cv 0 M_X0_addSawyer 3 90), (90, s_if c_lt 97 93), (93, s_ki (1) 94), (94, s_go 98), (97, s_ki (0) 98), (98, s_zr)]
set_option maxRecDepth 100000 in
set_option maxHeartbeats 4000000 in
theorem ok_X4_tellSawyer : nv_ok_P M_X4_tellSawyer P_X4_tellSawyer :=
  nv_oc (n_ldcS (by decide +kernel) rfl) <|
  nv_oc (n_aload_n (k := 0) (by decide +kernel)) <|
  nv_oc (n_virtual (M' := M_X4_nextLetter) (idx := 38) (n := 0) (ci := 4) (N := 3) (D := RX4) (T := TX4) (by decide +kernel) fn_X4_nextLetter fv_X4_nextLetter rfl rfl l_X4_38 ⟨by decide, by decide⟩) <|
  nv_oc (n_virtualS (M' := M_J0_indexOf_0f7a4) (idx := 65) (n := 1) (by decide +kernel) fn_J0_indexOf_0f7a4 fv_J0_indexOf_0f7a4 rfl l_X4_65 ⟨by decide, by decide⟩) <|
  nv_oc (n_istore_n (k := 2) (by decide +kernel) (by decide)) <|
  nv_oc (n_iload_n (k := 2) (by decide +kernel)) <|
  nv_oc (n_if_ge (off := 5) (tgt := 16) (by decide +kernel) (by decide)) <|
  nv_oc (n_iconst (z := 0) (by decide +kernel)) <|
  nv_oc (n_zret (by decide +kernel) rfl) <|
  nv_oc (n_aload_n (k := 0) (by decide +kernel)) <|
  nv_oc (n_dup (by decide +kernel)) <|
  nv_oc (n_getfield (idx := 24) (ci := 4) (k := 2) (N := 3) (D := RX4) (T := TX4) (by decide +kernel) rfl i_X4 (by decide) (by decide) f_X4_24) <|
  nv_oc (n_iconst (z := 1) (by decide +kernel)) <|
  nv_oc (n_iadd (by decide +kernel)) <|
  nv_oc (n_putfield (idx := 24) (ci := 4) (k := 2) (N := 3) (D := RX4) (T := TX4) tyX4 tyX4_ok nmX4 (by decide +kernel) rfl i_X4 (by decide) (by decide) rfl f_X4_24 rfl) <|
  nv_oc (n_aload_n (k := 0) (by decide +kernel)) <|
  nv_oc (n_bipush (z := 9) (by decide +kernel) (by decide)) <|
  nv_oc (n_virtual (M' := M_X4_takeDigit) (idx := 52) (n := 1) (ci := 4) (N := 3) (D := RX4) (T := TX4) (by decide +kernel) fn_X4_takeDigit fv_X4_takeDigit rfl rfl l_X4_52 ⟨by decide, by decide⟩) <|
  nv_oc (n_istore_n (k := 3) (by decide +kernel) (by decide)) <|
  nv_oc (n_iload_n (k := 3) (by decide +kernel)) <|
  nv_oc (n_if_ge (off := 5) (tgt := 39) (by decide +kernel) (by decide)) <|
  nv_oc (n_iconst (z := 0) (by decide +kernel)) <|
  nv_oc (n_zret (by decide +kernel) rfl) <|
  nv_oc (n_aload_n (k := 0) (by decide +kernel)) <|
  nv_oc (n_bipush (z := 64) (by decide +kernel) (by decide)) <|
  nv_oc (n_virtual (M' := M_X4_takes) (idx := 31) (n := 1) (ci := 4) (N := 3) (D := RX4) (T := TX4) (by decide +kernel) fn_X4_takes fv_X4_takes rfl rfl l_X4_31 ⟨by decide, by decide⟩) <|
  nv_oc (n_if_ne (off := 20) (tgt := 65) (by decide +kernel) (by decide)) <|
  nv_oc (n_aload_n (k := 1) (by decide +kernel)) <|
  nv_oc (n_iload_n (k := 2) (by decide +kernel)) <|
  nv_oc (n_iload_n (k := 3) (by decide +kernel)) <|
  nv_oc (n_bipush (z := -4) (by decide +kernel) (by decide)) <|
  nv_oc (n_virtual (M' := M_X0_addSawyer) (idx := 70) (n := 3) (ci := 0) (N := 11) (D := RX0) (T := TX0) (by decide +kernel) fn_X0_addSawyer fv_X0_addSawyer rfl rfl l_X4_70 ⟨by decide, by decide⟩) <|
  nv_oc (n_if_lt (off := 7) (tgt := 63) (by decide +kernel) (by decide)) <|
  nv_oc (n_iconst (z := 1) (by decide +kernel)) <|
  nv_oc (n_goto (off := 4) (tgt := 64) (by decide +kernel) (by decide)) <|
  nv_oc (n_iconst (z := 0) (by decide +kernel)) <|
  nv_oc (n_zret (by decide +kernel) rfl) <|
  nv_oc (n_aload_n (k := 0) (by decide +kernel)) <|
  nv_oc (n_aload_n (k := 1) (by decide +kernel)) <|
  nv_oc (n_getfield (idx := 42) (ci := 0) (k := 0) (N := 11) (D := RX0) (T := TX0) (by decide +kernel) rfl i_X0 (by decide) (by decide) f_X4_42) <|
  nv_oc (n_iconst (z := 1) (by decide +kernel)) <|
  nv_oc (n_isub (by decide +kernel)) <|
  nv_oc (n_virtual (M' := M_X4_takeDigit) (idx := 52) (n := 1) (ci := 4) (N := 3) (D := RX4) (T := TX4) (by decide +kernel) fn_X4_takeDigit fv_X4_takeDigit rfl rfl l_X4_52 ⟨by decide, by decide⟩) <|
  nv_oc (n_istore (k := 4) (by decide +kernel) (by decide)) <|
  nv_oc (n_iload (k := 4) (by decide +kernel)) <|
  nv_oc (n_if_lt (off := 18) (tgt := 97) (by decide +kernel) (by decide)) <|
  nv_oc (n_aload_n (k := 1) (by decide +kernel)) <|
  nv_oc (n_iload_n (k := 2) (by decide +kernel)) <|
  nv_oc (n_iload_n (k := 3) (by decide +kernel)) <|
  nv_oc (n_iload (k := 4) (by decide +kernel)) <|
  nv_oc (n_virtual (M' := M_X0_addSawyer) (idx := 70) (n := 3) (ci := 0) (N := 11) (D := RX0) (T := TX0) (by decide +kernel) fn_X0_addSawyer fv_X0_addSawyer rfl rfl l_X4_70 ⟨by decide, by decide⟩) <|
  nv_oc (n_if_lt (off := 7) (tgt := 97) (by decide +kernel) (by decide)) <|
  nv_oc (n_iconst (z := 1) (by decide +kernel)) <|
  nv_oc (n_goto (off := 4) (tgt := 98) (by decide +kernel) (by decide)) <|
  nv_oc (n_iconst (z := 0) (by decide +kernel)) <|
  nv_oc (n_zret (by decide +kernel) rfl) <|
  nv_on
def M_X4_tellSawyers : nv_MD := (RX4, yX4_tellSawyers, cX4_tellSawyers, 3, (some .boolean), 8, 245)
theorem fn_X4_tellSawyers : nv_fn M_X4_tellSawyers 1 := ⟨List.mem_of_getElem? (i := 359) (by decide +kernel), List.mem_of_getElem? (i := 48) (by decide +kernel), by decide +kernel⟩
theorem fv_X4_tellSawyers : nv_fnV M_X4_tellSawyers := ⟨List.mem_of_getElem? (i := 358) (by decide +kernel), List.mem_of_getElem? (i := 10) (by decide +kernel)⟩
def P_X4_tellSawyers : nv_Pg := [(0, s_ki (0) 1), (1, s_is 2 2), (2, s_il 2 3), (3, s_ki (5) 4), (4, s_ic c_ge 39 7), (7, s_al 0 8), (8, s_al 1 9), (9, s_cv 4 M_X4_tellSawyer 1 12), (12, s_if c_eq 15 17), (15, s_ki (0) 16), (16, s_zr), (17, s_il 2 18), (18, s_ki (4) 19), (19, s_ic c_eq 31 22), (22, s_al 0 23), (23, s_ki (44) 25), (25, s_cv 4 M_X4_takes 1 28), (28, s_if c_eq 31 33), (31, s_ki (1) 32), (32, s_zr), (33, s_inc 2 (1) 36), (36, s_go 2), (39, s_ki (1) 40), (40, s_zr)]
set_option maxRecDepth 100000 in
set_option maxHeartbeats 4000000 in
theorem ok_X4_tellSawyers : nv_ok_P M_X4_tellSawyers P_X4_tellSawyers :=
  nv_oc (n_iconst (z := 0) (by decide +kernel)) <|
  nv_oc (n_istore_n (k := 2) (by decide +kernel) (by decide)) <|
  nv_oc (n_iload_n (k := 2) (by decide +kernel)) <|
  nv_oc (n_iconst (z := 5) (by decide +kernel)) <|
  nv_oc (n_icmp_ge (off := 35) (tgt := 39) (by decide +kernel) (by decide)) <|
  nv_oc (n_aload_n (k := 0) (by decide +kernel)) <|
  nv_oc (n_aload_n (k := 1) (by decide +kernel)) <|
  nv_oc (n_virtual (M' := M_X4_tellSawyer) (idx := 60) (n := 1) (ci := 4) (N := 3) (D := RX4) (T := TX4) (by decide +kernel) fn_X4_tellSawyer fv_X4_tellSawyer rfl rfl l_X4_60 ⟨by decide, by decide⟩) <|
  nv_oc (n_if_ne (off := 5) (tgt := 17) (by decide +kernel) (by decide)) <|
  nv_oc (n_iconst (z := 0) (by decide +kernel)) <|
  nv_oc (n_zret (by decide +kernel) rfl) <|
  nv_oc (n_iload_n (k := 2) (by decide +kernel)) <|
  nv_oc (n_iconst (z := 4) (by decide +kernel)) <|
  nv_oc (n_icmp_eq (off := 12) (tgt := 31) (by decide +kernel) (by decide)) <|
  nv_oc (n_aload_n (k := 0) (by decide +kernel)) <|
  nv_oc (n_bipush (z := 44) (by decide +kernel) (by decide)) <|
  nv_oc (n_virtual (M' := M_X4_takes) (idx := 31) (n := 1) (ci := 4) (N := 3) (D := RX4) (T := TX4) (by decide +kernel) fn_X4_takes fv_X4_takes rfl rfl l_X4_31 ⟨by decide, by decide⟩) <|
  nv_oc (n_if_ne (off := 5) (tgt := 33) (by decide +kernel) (by decide)) <|
  nv_oc (n_iconst (z := 1) (by decide +kernel)) <|
  nv_oc (n_zret (by decide +kernel) rfl) <|
  nv_oc (n_iinc (k := 2) (d := 1) (by decide +kernel) (by decide)) <|
  nv_oc (n_goto (off := -34) (tgt := 2) (by decide +kernel) (by decide)) <|
  nv_oc (n_iconst (z := 1) (by decide +kernel)) <|
  nv_oc (n_zret (by decide +kernel) rfl) <|
  nv_on
def M_X4_tellNoon : nv_MD := (RX4, yX4_tellNoon, cX4_tellNoon, 3, (some .int), 9, 267)
theorem fn_X4_tellNoon : nv_fn M_X4_tellNoon 1 := ⟨List.mem_of_getElem? (i := 318) (by decide +kernel), List.mem_of_getElem? (i := 48) (by decide +kernel), by decide +kernel⟩
theorem fv_X4_tellNoon : nv_fnV M_X4_tellNoon := ⟨List.mem_of_getElem? (i := 316) (by decide +kernel), List.mem_of_getElem? (i := 317) (by decide +kernel)⟩
def P_X4_tellNoon : nv_Pg := [(0, s_al 1 1), (1, s_cv 0 M_X0_empty 0 4), (4, s_al 0 5), (5, s_ki (0) 6), (6, s_pf 4 2 9), (9, s_al 0 10), (10, s_al 1 11), (11, s_cv 4 M_X4_tellPlanks 1 14), (14, s_if c_eq 45 17), (17, s_al 0 18), (18, s_ki (59) 20), (20, s_cv 4 M_X4_takes 1 23), (23, s_if c_eq 34 26), (26, s_al 0 27), (27, s_al 1 28), (28, s_cv 4 M_X4_tellSawyers 1 31), (31, s_if c_eq 45 34), (34, s_al 0 35), (35, s_cv 4 M_X4_nextLetter 0 38), (38, s_if c_eq 41 45), (41, s_ki (1) 42), (42, s_go 46), (45, s_ki (0) 46), (46, s_is 2 47), (47, s_il 2 48), (48, s_if c_eq 58 51), (51, s_al 1 52), (52, s_gf 0 0 55), (55, s_go 65), (58, s_ki (-20) 60), (60, s_al 0 61), (61, s_gf 4 2 64), (64, s_sub 65), (65, s_ir)]
set_option maxRecDepth 100000 in
set_option maxHeartbeats 4000000 in
theorem ok_X4_tellNoon : nv_ok_P M_X4_tellNoon P_X4_tellNoon :=
  nv_oc (n_aload_n (k := 1) (by decide +kernel)) <|
  nv_oc (n_virtual (M' := M_X0_empty) (idx := 19) (n := 0) (ci := 0) (N := 11) (D := RX0) (T := TX0) (by decide +kernel) fn_X0_empty fv_X0_empty rfl rfl l_X4_19 ⟨by decide, by decide⟩) <|
  nv_oc (n_aload_n (k := 0) (by decide +kernel)) <|
  nv_oc (n_iconst (z := 0) (by decide +kernel)) <|
  nv_oc (n_putfield (idx := 24) (ci := 4) (k := 2) (N := 3) (D := RX4) (T := TX4) tyX4 tyX4_ok nmX4 (by decide +kernel) rfl i_X4 (by decide) (by decide) rfl f_X4_24 rfl) <|
  nv_oc (n_aload_n (k := 0) (by decide +kernel)) <|
  nv_oc (n_aload_n (k := 1) (by decide +kernel)) <|
  nv_oc (n_virtual (M' := M_X4_tellPlanks) (idx := 27) (n := 1) (ci := 4) (N := 3) (D := RX4) (T := TX4) (by decide +kernel) fn_X4_tellPlanks fv_X4_tellPlanks rfl rfl l_X4_27 ⟨by decide, by decide⟩) <|
  nv_oc (n_if_eq (off := 31) (tgt := 45) (by decide +kernel) (by decide)) <|
  nv_oc (n_aload_n (k := 0) (by decide +kernel)) <|
  nv_oc (n_bipush (z := 59) (by decide +kernel) (by decide)) <|
  nv_oc (n_virtual (M' := M_X4_takes) (idx := 31) (n := 1) (ci := 4) (N := 3) (D := RX4) (T := TX4) (by decide +kernel) fn_X4_takes fv_X4_takes rfl rfl l_X4_31 ⟨by decide, by decide⟩) <|
  nv_oc (n_if_eq (off := 11) (tgt := 34) (by decide +kernel) (by decide)) <|
  nv_oc (n_aload_n (k := 0) (by decide +kernel)) <|
  nv_oc (n_aload_n (k := 1) (by decide +kernel)) <|
  nv_oc (n_virtual (M' := M_X4_tellSawyers) (idx := 35) (n := 1) (ci := 4) (N := 3) (D := RX4) (T := TX4) (by decide +kernel) fn_X4_tellSawyers fv_X4_tellSawyers rfl rfl l_X4_35 ⟨by decide, by decide⟩) <|
  nv_oc (n_if_eq (off := 14) (tgt := 45) (by decide +kernel) (by decide)) <|
  nv_oc (n_aload_n (k := 0) (by decide +kernel)) <|
  nv_oc (n_virtual (M' := M_X4_nextLetter) (idx := 38) (n := 0) (ci := 4) (N := 3) (D := RX4) (T := TX4) (by decide +kernel) fn_X4_nextLetter fv_X4_nextLetter rfl rfl l_X4_38 ⟨by decide, by decide⟩) <|
  nv_oc (n_if_ne (off := 7) (tgt := 45) (by decide +kernel) (by decide)) <|
  nv_oc (n_iconst (z := 1) (by decide +kernel)) <|
  nv_oc (n_goto (off := 4) (tgt := 46) (by decide +kernel) (by decide)) <|
  nv_oc (n_iconst (z := 0) (by decide +kernel)) <|
  nv_oc (n_istore_n (k := 2) (by decide +kernel) (by decide)) <|
  nv_oc (n_iload_n (k := 2) (by decide +kernel)) <|
  nv_oc (n_if_eq (off := 10) (tgt := 58) (by decide +kernel) (by decide)) <|
  nv_oc (n_aload_n (k := 1) (by decide +kernel)) <|
  nv_oc (n_getfield (idx := 42) (ci := 0) (k := 0) (N := 11) (D := RX0) (T := TX0) (by decide +kernel) rfl i_X0 (by decide) (by decide) f_X4_42) <|
  nv_oc (n_goto (off := 10) (tgt := 65) (by decide +kernel) (by decide)) <|
  nv_oc (n_bipush (z := -20) (by decide +kernel) (by decide)) <|
  nv_oc (n_aload_n (k := 0) (by decide +kernel)) <|
  nv_oc (n_getfield (idx := 24) (ci := 4) (k := 2) (N := 3) (D := RX4) (T := TX4) (by decide +kernel) rfl i_X4 (by decide) (by decide) f_X4_24) <|
  nv_oc (n_isub (by decide +kernel)) <|
  nv_oc (n_iret (by decide +kernel) rfl) <|
  nv_on
def M_X5_plank : nv_MD := (RX5, yX5_plank, cX5_plank, 4, (some .int), 1, 23)
theorem fn_X5_plank : nv_fn M_X5_plank 2 := ⟨List.mem_of_getElem? (i := 247) (by decide +kernel), List.mem_of_getElem? (i := 44) (by decide +kernel), by decide +kernel⟩
theorem fv_X5_plank : nv_fnV M_X5_plank := ⟨List.mem_of_getElem? (i := 245) (by decide +kernel), List.mem_of_getElem? (i := 246) (by decide +kernel)⟩
def P_X5_plank : nv_Pg := [(0, s_il 1 1), (1, s_ki (1) 2), (2, s_ki (99) 4), (4, s_cs M_X5_outside 3 7), (7, s_if c_eq 10 20), (10, s_il 2 11), (11, s_ki (0) 12), (12, s_ki (9) 14), (14, s_cs M_X5_outside 3 17), (17, s_if c_eq 22 20), (20, s_ki (-1) 21), (21, s_ir), (22, s_al 0 23), (23, s_gf 5 0 26), (26, s_il 1 27), (27, s_il 2 28), (28, s_il 1 29), (29, s_cv 0 M_X0_addPlank 3 32), (32, s_is 3 33), (33, s_il 3 34), (34, s_if c_lt 44 37), (37, s_al 0 38), (38, s_gf 5 1 41), (41, s_cv 1 M_X1_forget 0 44), (44, s_il 3 45), (45, s_ir)]
set_option maxRecDepth 100000 in
set_option maxHeartbeats 4000000 in
theorem ok_X5_plank : nv_ok_P M_X5_plank P_X5_plank :=
  nv_oc (n_iload_n (k := 1) (by decide +kernel)) <|
  nv_oc (n_iconst (z := 1) (by decide +kernel)) <|
  nv_oc (n_bipush (z := 99) (by decide +kernel) (by decide)) <|
  nv_oc (n_static (M' := M_X5_outside) (idx := 56) (n := 3) (by decide +kernel) fn_X5_outside st_X5_outside l_X5_56 ⟨by decide, by decide⟩) <|
  nv_oc (n_if_ne (off := 13) (tgt := 20) (by decide +kernel) (by decide)) <|
  nv_oc (n_iload_n (k := 2) (by decide +kernel)) <|
  nv_oc (n_iconst (z := 0) (by decide +kernel)) <|
  nv_oc (n_bipush (z := 9) (by decide +kernel) (by decide)) <|
  nv_oc (n_static (M' := M_X5_outside) (idx := 56) (n := 3) (by decide +kernel) fn_X5_outside st_X5_outside l_X5_56 ⟨by decide, by decide⟩) <|
  nv_oc (n_if_eq (off := 5) (tgt := 22) (by decide +kernel) (by decide)) <|
  nv_oc (n_iconst (z := -1) (by decide +kernel)) <|
  nv_oc (n_iret (by decide +kernel) rfl) <|
  nv_oc (n_aload_n (k := 0) (by decide +kernel)) <|
  nv_oc (n_getfield (idx := 12) (ci := 5) (k := 0) (N := 10) (D := RX5) (T := TX5) (by decide +kernel) rfl i_X5 (by decide) (by decide) f_X5_12) <|
  nv_oc (n_iload_n (k := 1) (by decide +kernel)) <|
  nv_oc (n_iload_n (k := 2) (by decide +kernel)) <|
  nv_oc (n_iload_n (k := 1) (by decide +kernel)) <|
  nv_oc (n_virtual (M' := M_X0_addPlank) (idx := 60) (n := 3) (ci := 0) (N := 11) (D := RX0) (T := TX0) (by decide +kernel) fn_X0_addPlank fv_X0_addPlank rfl rfl l_X5_60 ⟨by decide, by decide⟩) <|
  nv_oc (n_istore_n (k := 3) (by decide +kernel) (by decide)) <|
  nv_oc (n_iload_n (k := 3) (by decide +kernel)) <|
  nv_oc (n_if_lt (off := 10) (tgt := 44) (by decide +kernel) (by decide)) <|
  nv_oc (n_aload_n (k := 0) (by decide +kernel)) <|
  nv_oc (n_getfield (idx := 19) (ci := 5) (k := 1) (N := 10) (D := RX5) (T := TX5) (by decide +kernel) rfl i_X5 (by decide) (by decide) f_X5_19) <|
  nv_oc (n_virtual (M' := M_X1_forget) (idx := 64) (n := 0) (ci := 1) (N := 3) (D := RX1) (T := TX1) (by decide +kernel) fn_X1_forget fv_X1_forget rfl rfl l_X5_64 ⟨by decide, by decide⟩) <|
  nv_oc (n_iload_n (k := 3) (by decide +kernel)) <|
  nv_oc (n_iret (by decide +kernel) rfl) <|
  nv_on
def M_X5_sawyer : nv_MD := (RX5, yX5_sawyer, cX5_sawyer, 4, (some .int), 1, 23)
theorem fn_X5_sawyer : nv_fn M_X5_sawyer 2 := ⟨List.mem_of_getElem? (i := 262) (by decide +kernel), List.mem_of_getElem? (i := 44) (by decide +kernel), by decide +kernel⟩
theorem fv_X5_sawyer : nv_fnV M_X5_sawyer := ⟨List.mem_of_getElem? (i := 260) (by decide +kernel), List.mem_of_getElem? (i := 261) (by decide +kernel)⟩
def P_X5_sawyer : nv_Pg := [(0, s_il 1 1), (1, s_ki (0) 2), (2, s_ki (4) 3), (3, s_cs M_X5_outside 3 6), (6, s_if c_eq 9 19), (9, s_il 2 10), (10, s_ki (0) 11), (11, s_ki (9) 13), (13, s_cs M_X5_outside 3 16), (16, s_if c_eq 21 19), (19, s_ki (-1) 20), (20, s_ir), (21, s_al 0 22), (22, s_gf 5 0 25), (25, s_il 1 26), (26, s_il 2 27), (27, s_ki (-4) 29), (29, s_cv 0 M_X0_addSawyer 3 32), (32, s_is 3 33), (33, s_il 3 34), (34, s_if c_lt 44 37), (37, s_al 0 38), (38, s_gf 5 1 41), (41, s_cv 1 M_X1_forget 0 44), (44, s_il 3 45), (45, s_ir)]
set_option maxRecDepth 100000 in
set_option maxHeartbeats 4000000 in
theorem ok_X5_sawyer : nv_ok_P M_X5_sawyer P_X5_sawyer :=
  nv_oc (n_iload_n (k := 1) (by decide +kernel)) <|
  nv_oc (n_iconst (z := 0) (by decide +kernel)) <|
  nv_oc (n_iconst (z := 4) (by decide +kernel)) <|
  nv_oc (n_static (M' := M_X5_outside) (idx := 56) (n := 3) (by decide +kernel) fn_X5_outside st_X5_outside l_X5_56 ⟨by decide, by decide⟩) <|
  nv_oc (n_if_ne (off := 13) (tgt := 19) (by decide +kernel) (by decide)) <|
  nv_oc (n_iload_n (k := 2) (by decide +kernel)) <|
  nv_oc (n_iconst (z := 0) (by decide +kernel)) <|
  nv_oc (n_bipush (z := 9) (by decide +kernel) (by decide)) <|
  nv_oc (n_static (M' := M_X5_outside) (idx := 56) (n := 3) (by decide +kernel) fn_X5_outside st_X5_outside l_X5_56 ⟨by decide, by decide⟩) <|
  nv_oc (n_if_eq (off := 5) (tgt := 21) (by decide +kernel) (by decide)) <|
  nv_oc (n_iconst (z := -1) (by decide +kernel)) <|
  nv_oc (n_iret (by decide +kernel) rfl) <|
  nv_oc (n_aload_n (k := 0) (by decide +kernel)) <|
  nv_oc (n_getfield (idx := 12) (ci := 5) (k := 0) (N := 10) (D := RX5) (T := TX5) (by decide +kernel) rfl i_X5 (by decide) (by decide) f_X5_12) <|
  nv_oc (n_iload_n (k := 1) (by decide +kernel)) <|
  nv_oc (n_iload_n (k := 2) (by decide +kernel)) <|
  nv_oc (n_bipush (z := -4) (by decide +kernel) (by decide)) <|
  nv_oc (n_virtual (M' := M_X0_addSawyer) (idx := 67) (n := 3) (ci := 0) (N := 11) (D := RX0) (T := TX0) (by decide +kernel) fn_X0_addSawyer fv_X0_addSawyer rfl rfl l_X5_67 ⟨by decide, by decide⟩) <|
  nv_oc (n_istore_n (k := 3) (by decide +kernel) (by decide)) <|
  nv_oc (n_iload_n (k := 3) (by decide +kernel)) <|
  nv_oc (n_if_lt (off := 10) (tgt := 44) (by decide +kernel) (by decide)) <|
  nv_oc (n_aload_n (k := 0) (by decide +kernel)) <|
  nv_oc (n_getfield (idx := 19) (ci := 5) (k := 1) (N := 10) (D := RX5) (T := TX5) (by decide +kernel) rfl i_X5 (by decide) (by decide) f_X5_19) <|
  nv_oc (n_virtual (M' := M_X1_forget) (idx := 64) (n := 0) (ci := 1) (N := 3) (D := RX1) (T := TX1) (by decide +kernel) fn_X1_forget fv_X1_forget rfl rfl l_X5_64 ⟨by decide, by decide⟩) <|
  nv_oc (n_iload_n (k := 3) (by decide +kernel)) <|
  nv_oc (n_iret (by decide +kernel) rfl) <|
  nv_on
def M_X5_noPlank : nv_MD := (RX5, yX5_noPlank, cX5_noPlank, 2, (some .boolean), 0, 0)
theorem fn_X5_noPlank : nv_fn M_X5_noPlank 1 := ⟨List.mem_of_getElem? (i := 274) (by decide +kernel), List.mem_of_getElem? (i := 44) (by decide +kernel), by decide +kernel⟩
theorem fv_X5_noPlank : nv_fnV M_X5_noPlank := ⟨List.mem_of_getElem? (i := 273) (by decide +kernel), List.mem_of_getElem? (i := 0) (by decide +kernel)⟩
def P_X5_noPlank : nv_Pg := [(0, s_il 1 1), (1, s_if c_lt 15 4), (4, s_il 1 5), (5, s_al 0 6), (6, s_gf 5 0 9), (9, s_gf 0 0 12), (12, s_ic c_lt 19 15), (15, s_ki (1) 16), (16, s_go 20), (19, s_ki (0) 20), (20, s_zr)]
set_option maxRecDepth 100000 in
set_option maxHeartbeats 4000000 in
theorem ok_X5_noPlank : nv_ok_P M_X5_noPlank P_X5_noPlank :=
  nv_oc (n_iload_n (k := 1) (by decide +kernel)) <|
  nv_oc (n_if_lt (off := 14) (tgt := 15) (by decide +kernel) (by decide)) <|
  nv_oc (n_iload_n (k := 1) (by decide +kernel)) <|
  nv_oc (n_aload_n (k := 0) (by decide +kernel)) <|
  nv_oc (n_getfield (idx := 12) (ci := 5) (k := 0) (N := 10) (D := RX5) (T := TX5) (by decide +kernel) rfl i_X5 (by decide) (by decide) f_X5_12) <|
  nv_oc (n_getfield (idx := 125) (ci := 0) (k := 0) (N := 11) (D := RX0) (T := TX0) (by decide +kernel) rfl i_X0 (by decide) (by decide) f_X5_125) <|
  nv_oc (n_icmp_lt (off := 7) (tgt := 19) (by decide +kernel) (by decide)) <|
  nv_oc (n_iconst (z := 1) (by decide +kernel)) <|
  nv_oc (n_goto (off := 4) (tgt := 20) (by decide +kernel) (by decide)) <|
  nv_oc (n_iconst (z := 0) (by decide +kernel)) <|
  nv_oc (n_zret (by decide +kernel) rfl) <|
  nv_on
def M_X5_of : nv_MD := (RX5, yX5_of, cX5_of, 3, (some .int), 3, 73)
theorem fn_X5_of : nv_fn M_X5_of 2 := ⟨List.mem_of_getElem? (i := 270) (by decide +kernel), List.mem_of_getElem? (i := 44) (by decide +kernel), by decide +kernel⟩
theorem fv_X5_of : nv_fnV M_X5_of := ⟨List.mem_of_getElem? (i := 268) (by decide +kernel), List.mem_of_getElem? (i := 269) (by decide +kernel)⟩
def P_X5_of : nv_Pg := [(0, s_al 0 1), (1, s_il 1 2), (2, s_cv 5 M_X5_noPlank 1 5), (5, s_if c_eq 10 8), (8, s_ki (-1) 9), (9, s_ir), (10, s_il 2 11), (11, s_sw 0 99 [44, 54, 64, 74, 83]), (44, s_al 0 45), (45, s_gf 5 0 48), (48, s_gf 0 4 51), (51, s_il 1 52), (52, s_ia 53), (53, s_ir), (54, s_al 0 55), (55, s_gf 5 0 58), (58, s_gf 0 5 61), (61, s_il 1 62), (62, s_ia 63), (63, s_ir), (64, s_al 0 65), (65, s_gf 5 0 68), (68, s_gf 0 6 71), (71, s_il 1 72), (72, s_ia 73), (73, s_ir), (74, s_al 0 75), (75, s_gf 5 0 78), (78, s_il 1 79), (79, s_cv 0 M_X0_sittersOn 1 82), (82, s_ir), (83, s_al 0 84), (84, s_gf 5 0 87), (87, s_al 0 88), (88, s_gf 5 0 91), (91, s_il 1 92), (92, s_cv 0 M_X0_sittersOn 1 95), (95, s_cv 0 M_X0_cutByAll 1 98), (98, s_ir), (99, s_ki (-1) 100), (100, s_ir)]
set_option maxRecDepth 100000 in
set_option maxHeartbeats 4000000 in
theorem ok_X5_of : nv_ok_P M_X5_of P_X5_of :=
  nv_oc (n_aload_n (k := 0) (by decide +kernel)) <|
  nv_oc (n_iload_n (k := 1) (by decide +kernel)) <|
  nv_oc (n_virtual (M' := M_X5_noPlank) (idx := 70) (n := 1) (ci := 5) (N := 10) (D := RX5) (T := TX5) (by decide +kernel) fn_X5_noPlank fv_X5_noPlank rfl rfl l_X5_70 ⟨by decide, by decide⟩) <|
  nv_oc (n_if_eq (off := 5) (tgt := 10) (by decide +kernel) (by decide)) <|
  nv_oc (n_iconst (z := -1) (by decide +kernel)) <|
  nv_oc (n_iret (by decide +kernel) rfl) <|
  nv_oc (n_iload_n (k := 2) (by decide +kernel)) <|
  nv_oc (n_tableswitch (dflt := 88) (lo := 0) (hi := 4) (offs := #[33, 43, 53, 63, 72]) (len := 33) (df := 99) (ts := [44, 54, 64, 74, 83]) (by decide +kernel) (by decide) (by decide) (by decide)) <|
  nv_oc (n_aload_n (k := 0) (by decide +kernel)) <|
  nv_oc (n_getfield (idx := 12) (ci := 5) (k := 0) (N := 10) (D := RX5) (T := TX5) (by decide +kernel) rfl i_X5 (by decide) (by decide) f_X5_12) <|
  nv_oc (n_getfield (idx := 74) (ci := 0) (k := 4) (N := 11) (D := RX0) (T := TX0) (by decide +kernel) rfl i_X0 (by decide) (by decide) f_X5_74) <|
  nv_oc (n_iload_n (k := 1) (by decide +kernel)) <|
  nv_oc (n_iaload (by decide +kernel)) <|
  nv_oc (n_iret (by decide +kernel) rfl) <|
  nv_oc (n_aload_n (k := 0) (by decide +kernel)) <|
  nv_oc (n_getfield (idx := 12) (ci := 5) (k := 0) (N := 10) (D := RX5) (T := TX5) (by decide +kernel) rfl i_X5 (by decide) (by decide) f_X5_12) <|
  nv_oc (n_getfield (idx := 78) (ci := 0) (k := 5) (N := 11) (D := RX0) (T := TX0) (by decide +kernel) rfl i_X0 (by decide) (by decide) f_X5_78) <|
  nv_oc (n_iload_n (k := 1) (by decide +kernel)) <|
  nv_oc (n_iaload (by decide +kernel)) <|
  nv_oc (n_iret (by decide +kernel) rfl) <|
  nv_oc (n_aload_n (k := 0) (by decide +kernel)) <|
  nv_oc (n_getfield (idx := 12) (ci := 5) (k := 0) (N := 10) (D := RX5) (T := TX5) (by decide +kernel) rfl i_X5 (by decide) (by decide) f_X5_12) <|
  nv_oc (n_getfield (idx := 81) (ci := 0) (k := 6) (N := 11) (D := RX0) (T := TX0) (by decide +kernel) rfl i_X0 (by decide) (by decide) f_X5_81) <|
  nv_oc (n_iload_n (k := 1) (by decide +kernel)) <|
  nv_oc (n_iaload (by decide +kernel)) <|
  nv_oc (n_iret (by decide +kernel) rfl) <|
  nv_oc (n_aload_n (k := 0) (by decide +kernel)) <|
  nv_oc (n_getfield (idx := 12) (ci := 5) (k := 0) (N := 10) (D := RX5) (T := TX5) (by decide +kernel) rfl i_X5 (by decide) (by decide) f_X5_12) <|
  nv_oc (n_iload_n (k := 1) (by decide +kernel)) <|
  nv_oc (n_virtual (M' := M_X0_sittersOn) (idx := 84) (n := 1) (ci := 0) (N := 11) (D := RX0) (T := TX0) (by decide +kernel) fn_X0_sittersOn fv_X0_sittersOn rfl rfl l_X5_84 ⟨by decide, by decide⟩) <|
  nv_oc (n_iret (by decide +kernel) rfl) <|
  nv_oc (n_aload_n (k := 0) (by decide +kernel)) <|
  nv_oc (n_getfield (idx := 12) (ci := 5) (k := 0) (N := 10) (D := RX5) (T := TX5) (by decide +kernel) rfl i_X5 (by decide) (by decide) f_X5_12) <|
  nv_oc (n_aload_n (k := 0) (by decide +kernel)) <|
  nv_oc (n_getfield (idx := 12) (ci := 5) (k := 0) (N := 10) (D := RX5) (T := TX5) (by decide +kernel) rfl i_X5 (by decide) (by decide) f_X5_12) <|
  nv_oc (n_iload_n (k := 1) (by decide +kernel)) <|
  nv_oc (n_virtual (M' := M_X0_sittersOn) (idx := 84) (n := 1) (ci := 0) (N := 11) (D := RX0) (T := TX0) (by decide +kernel) fn_X0_sittersOn fv_X0_sittersOn rfl rfl l_X5_84 ⟨by decide, by decide⟩) <|
  nv_oc (n_virtual (M' := M_X0_cutByAll) (idx := 88) (n := 1) (ci := 0) (N := 11) (D := RX0) (T := TX0) (by decide +kernel) fn_X0_cutByAll fv_X0_cutByAll rfl rfl l_X5_88 ⟨by decide, by decide⟩) <|
  nv_oc (n_iret (by decide +kernel) rfl) <|
  nv_oc (n_iconst (z := -1) (by decide +kernel)) <|
  nv_oc (n_iret (by decide +kernel) rfl) <|
  nv_on
def M_X5_noSawyer : nv_MD := (RX5, yX5_noSawyer, cX5_noSawyer, 2, (some .boolean), 0, 0)
theorem fn_X5_noSawyer : nv_fn M_X5_noSawyer 1 := ⟨List.mem_of_getElem? (i := 301) (by decide +kernel), List.mem_of_getElem? (i := 44) (by decide +kernel), by decide +kernel⟩
theorem fv_X5_noSawyer : nv_fnV M_X5_noSawyer := ⟨List.mem_of_getElem? (i := 300) (by decide +kernel), List.mem_of_getElem? (i := 2) (by decide +kernel)⟩
def P_X5_noSawyer : nv_Pg := [(0, s_il 1 1), (1, s_if c_lt 15 4), (4, s_il 1 5), (5, s_al 0 6), (6, s_gf 5 0 9), (9, s_gf 0 1 12), (12, s_ic c_lt 19 15), (15, s_ki (1) 16), (16, s_go 20), (19, s_ki (0) 20), (20, s_zr)]
set_option maxRecDepth 100000 in
set_option maxHeartbeats 4000000 in
theorem ok_X5_noSawyer : nv_ok_P M_X5_noSawyer P_X5_noSawyer :=
  nv_oc (n_iload_n (k := 1) (by decide +kernel)) <|
  nv_oc (n_if_lt (off := 14) (tgt := 15) (by decide +kernel) (by decide)) <|
  nv_oc (n_iload_n (k := 1) (by decide +kernel)) <|
  nv_oc (n_aload_n (k := 0) (by decide +kernel)) <|
  nv_oc (n_getfield (idx := 12) (ci := 5) (k := 0) (N := 10) (D := RX5) (T := TX5) (by decide +kernel) rfl i_X5 (by decide) (by decide) f_X5_12) <|
  nv_oc (n_getfield (idx := 128) (ci := 0) (k := 1) (N := 11) (D := RX0) (T := TX0) (by decide +kernel) rfl i_X0 (by decide) (by decide) f_X5_128) <|
  nv_oc (n_icmp_lt (off := 7) (tgt := 19) (by decide +kernel) (by decide)) <|
  nv_oc (n_iconst (z := 1) (by decide +kernel)) <|
  nv_oc (n_goto (off := 4) (tgt := 20) (by decide +kernel) (by decide)) <|
  nv_oc (n_iconst (z := 0) (by decide +kernel)) <|
  nv_oc (n_zret (by decide +kernel) rfl) <|
  nv_on
def M_X5_at : nv_MD := (RX5, yX5_at, cX5_at, 3, (some .int), 2, 50)
theorem fn_X5_at : nv_fn M_X5_at 2 := ⟨List.mem_of_getElem? (i := 297) (by decide +kernel), List.mem_of_getElem? (i := 44) (by decide +kernel), by decide +kernel⟩
theorem fv_X5_at : nv_fnV M_X5_at := ⟨List.mem_of_getElem? (i := 295) (by decide +kernel), List.mem_of_getElem? (i := 296) (by decide +kernel)⟩
def P_X5_at : nv_Pg := [(0, s_al 0 1), (1, s_il 1 2), (2, s_cv 5 M_X5_noSawyer 1 5), (5, s_if c_eq 10 8), (8, s_ki (-1) 9), (9, s_ir), (10, s_il 2 11), (11, s_sw 0 79 [40, 50, 60, 70]), (40, s_al 0 41), (41, s_gf 5 0 44), (44, s_gf 0 7 47), (47, s_il 1 48), (48, s_ia 49), (49, s_ir), (50, s_al 0 51), (51, s_gf 5 0 54), (54, s_gf 0 8 57), (57, s_il 1 58), (58, s_ia 59), (59, s_ir), (60, s_al 0 61), (61, s_gf 5 0 64), (64, s_gf 0 9 67), (67, s_il 1 68), (68, s_ia 69), (69, s_ir), (70, s_al 0 71), (71, s_gf 5 0 74), (74, s_il 1 75), (75, s_cv 0 M_X0_cutOf 1 78), (78, s_ir), (79, s_ki (-1) 80), (80, s_ir)]
set_option maxRecDepth 100000 in
set_option maxHeartbeats 4000000 in
theorem ok_X5_at : nv_ok_P M_X5_at P_X5_at :=
  nv_oc (n_aload_n (k := 0) (by decide +kernel)) <|
  nv_oc (n_iload_n (k := 1) (by decide +kernel)) <|
  nv_oc (n_virtual (M' := M_X5_noSawyer) (idx := 91) (n := 1) (ci := 5) (N := 10) (D := RX5) (T := TX5) (by decide +kernel) fn_X5_noSawyer fv_X5_noSawyer rfl rfl l_X5_91 ⟨by decide, by decide⟩) <|
  nv_oc (n_if_eq (off := 5) (tgt := 10) (by decide +kernel) (by decide)) <|
  nv_oc (n_iconst (z := -1) (by decide +kernel)) <|
  nv_oc (n_iret (by decide +kernel) rfl) <|
  nv_oc (n_iload_n (k := 2) (by decide +kernel)) <|
  nv_oc (n_tableswitch (dflt := 68) (lo := 0) (hi := 3) (offs := #[29, 39, 49, 59]) (len := 29) (df := 79) (ts := [40, 50, 60, 70]) (by decide +kernel) (by decide) (by decide) (by decide)) <|
  nv_oc (n_aload_n (k := 0) (by decide +kernel)) <|
  nv_oc (n_getfield (idx := 12) (ci := 5) (k := 0) (N := 10) (D := RX5) (T := TX5) (by decide +kernel) rfl i_X5 (by decide) (by decide) f_X5_12) <|
  nv_oc (n_getfield (idx := 94) (ci := 0) (k := 7) (N := 11) (D := RX0) (T := TX0) (by decide +kernel) rfl i_X0 (by decide) (by decide) f_X5_94) <|
  nv_oc (n_iload_n (k := 1) (by decide +kernel)) <|
  nv_oc (n_iaload (by decide +kernel)) <|
  nv_oc (n_iret (by decide +kernel) rfl) <|
  nv_oc (n_aload_n (k := 0) (by decide +kernel)) <|
  nv_oc (n_getfield (idx := 12) (ci := 5) (k := 0) (N := 10) (D := RX5) (T := TX5) (by decide +kernel) rfl i_X5 (by decide) (by decide) f_X5_12) <|
  nv_oc (n_getfield (idx := 97) (ci := 0) (k := 8) (N := 11) (D := RX0) (T := TX0) (by decide +kernel) rfl i_X0 (by decide) (by decide) f_X5_97) <|
  nv_oc (n_iload_n (k := 1) (by decide +kernel)) <|
  nv_oc (n_iaload (by decide +kernel)) <|
  nv_oc (n_iret (by decide +kernel) rfl) <|
  nv_oc (n_aload_n (k := 0) (by decide +kernel)) <|
  nv_oc (n_getfield (idx := 12) (ci := 5) (k := 0) (N := 10) (D := RX5) (T := TX5) (by decide +kernel) rfl i_X5 (by decide) (by decide) f_X5_12) <|
  nv_oc (n_getfield (idx := 100) (ci := 0) (k := 9) (N := 11) (D := RX0) (T := TX0) (by decide +kernel) rfl i_X0 (by decide) (by decide) f_X5_100) <|
  nv_oc (n_iload_n (k := 1) (by decide +kernel)) <|
  nv_oc (n_iaload (by decide +kernel)) <|
  nv_oc (n_iret (by decide +kernel) rfl) <|
  nv_oc (n_aload_n (k := 0) (by decide +kernel)) <|
  nv_oc (n_getfield (idx := 12) (ci := 5) (k := 0) (N := 10) (D := RX5) (T := TX5) (by decide +kernel) rfl i_X5 (by decide) (by decide) f_X5_12) <|
  nv_oc (n_iload_n (k := 1) (by decide +kernel)) <|
  nv_oc (n_virtual (M' := M_X0_cutOf) (idx := 103) (n := 1) (ci := 0) (N := 11) (D := RX0) (T := TX0) (by decide +kernel) fn_X0_cutOf fv_X0_cutOf rfl rfl l_X5_103 ⟨by decide, by decide⟩) <|
  nv_oc (n_iret (by decide +kernel) rfl) <|
  nv_oc (n_iconst (z := -1) (by decide +kernel)) <|
  nv_oc (n_iret (by decide +kernel) rfl) <|
  nv_on
def M_X5_type : nv_MD := (RX5, yX5_type, cX5_type, 2, (some .int), 1, 22)
theorem fn_X5_type : nv_fn M_X5_type 1 := ⟨List.mem_of_getElem? (i := 306) (by decide +kernel), List.mem_of_getElem? (i := 44) (by decide +kernel), by decide +kernel⟩
theorem fv_X5_type : nv_fnV M_X5_type := ⟨List.mem_of_getElem? (i := 304) (by decide +kernel), List.mem_of_getElem? (i := 305) (by decide +kernel)⟩
def P_X5_type : nv_Pg := [(0, s_il 1 1), (1, s_ki (32) 3), (3, s_ki (126) 5), (5, s_cs M_X5_outside 3 8), (8, s_if c_eq 13 11), (11, s_ki (-1) 12), (12, s_ir), (13, s_al 0 14), (14, s_gf 5 8 17), (17, s_il 1 18), (18, s_i2c 19), (19, s_cv 4 M_X4_addLetter 1 22), (22, s_ir)]
set_option maxRecDepth 100000 in
set_option maxHeartbeats 4000000 in
theorem ok_X5_type : nv_ok_P M_X5_type P_X5_type :=
  nv_oc (n_iload_n (k := 1) (by decide +kernel)) <|
  nv_oc (n_bipush (z := 32) (by decide +kernel) (by decide)) <|
  nv_oc (n_bipush (z := 126) (by decide +kernel) (by decide)) <|
  nv_oc (n_static (M' := M_X5_outside) (idx := 56) (n := 3) (by decide +kernel) fn_X5_outside st_X5_outside l_X5_56 ⟨by decide, by decide⟩) <|
  nv_oc (n_if_eq (off := 5) (tgt := 13) (by decide +kernel) (by decide)) <|
  nv_oc (n_iconst (z := -1) (by decide +kernel)) <|
  nv_oc (n_iret (by decide +kernel) rfl) <|
  nv_oc (n_aload_n (k := 0) (by decide +kernel)) <|
  nv_oc (n_getfield (idx := 45) (ci := 5) (k := 8) (N := 10) (D := RX5) (T := TX5) (by decide +kernel) rfl i_X5 (by decide) (by decide) f_X5_45) <|
  nv_oc (n_iload_n (k := 1) (by decide +kernel)) <|
  nv_oc (n_i2c (by decide +kernel)) <|
  nv_oc (n_virtual (M' := M_X4_addLetter) (idx := 106) (n := 1) (ci := 4) (N := 3) (D := RX4) (T := TX4) (by decide +kernel) fn_X4_addLetter fv_X4_addLetter rfl rfl l_X5_106 ⟨by decide, by decide⟩) <|
  nv_oc (n_iret (by decide +kernel) rfl) <|
  nv_on
def M_X5_read : nv_MD := (RX5, yX5_read, cX5_read, 2, (some .int), 10, 289)
theorem fn_X5_read : nv_fn M_X5_read 0 := ⟨List.mem_of_getElem? (i := 314) (by decide +kernel), List.mem_of_getElem? (i := 44) (by decide +kernel), by decide +kernel⟩
theorem fv_X5_read : nv_fnV M_X5_read := ⟨List.mem_of_getElem? (i := 312) (by decide +kernel), List.mem_of_getElem? (i := 313) (by decide +kernel)⟩
def P_X5_read : nv_Pg := [(0, s_al 0 1), (1, s_gf 5 8 4), (4, s_al 0 5), (5, s_gf 5 5 8), (8, s_cv 4 M_X4_tellNoon 1 11), (11, s_is 1 12), (12, s_al 0 13), (13, s_gf 5 8 16), (16, s_cv 4 M_X4_wipe 0 19), (19, s_il 1 20), (20, s_if c_lt 55 23), (23, s_al 0 24), (24, s_gf 5 5 27), (27, s_al 0 28), (28, s_gf 5 0 31), (31, s_gf 0 3 34), (34, s_pf 0 3 37), (37, s_al 0 38), (38, s_gf 5 0 41), (41, s_al 0 42), (42, s_gf 5 5 45), (45, s_cv 0 M_X0_takeAll 1 48), (48, s_al 0 49), (49, s_gf 5 1 52), (52, s_cv 1 M_X1_forget 0 55), (55, s_il 1 56), (56, s_ir)]
set_option maxRecDepth 100000 in
set_option maxHeartbeats 4000000 in
theorem ok_X5_read : nv_ok_P M_X5_read P_X5_read :=
  nv_oc (n_aload_n (k := 0) (by decide +kernel)) <|
  nv_oc (n_getfield (idx := 45) (ci := 5) (k := 8) (N := 10) (D := RX5) (T := TX5) (by decide +kernel) rfl i_X5 (by decide) (by decide) f_X5_45) <|
  nv_oc (n_aload_n (k := 0) (by decide +kernel)) <|
  nv_oc (n_getfield (idx := 29) (ci := 5) (k := 5) (N := 10) (D := RX5) (T := TX5) (by decide +kernel) rfl i_X5 (by decide) (by decide) f_X5_29) <|
  nv_oc (n_virtual (M' := M_X4_tellNoon) (idx := 110) (n := 1) (ci := 4) (N := 3) (D := RX4) (T := TX4) (by decide +kernel) fn_X4_tellNoon fv_X4_tellNoon rfl rfl l_X5_110 ⟨by decide, by decide⟩) <|
  nv_oc (n_istore_n (k := 1) (by decide +kernel) (by decide)) <|
  nv_oc (n_aload_n (k := 0) (by decide +kernel)) <|
  nv_oc (n_getfield (idx := 45) (ci := 5) (k := 8) (N := 10) (D := RX5) (T := TX5) (by decide +kernel) rfl i_X5 (by decide) (by decide) f_X5_45) <|
  nv_oc (n_virtual (M' := M_X4_wipe) (idx := 114) (n := 0) (ci := 4) (N := 3) (D := RX4) (T := TX4) (by decide +kernel) fn_X4_wipe fv_X4_wipe rfl rfl l_X5_114 ⟨by decide, by decide⟩) <|
  nv_oc (n_iload_n (k := 1) (by decide +kernel)) <|
  nv_oc (n_if_lt (off := 35) (tgt := 55) (by decide +kernel) (by decide)) <|
  nv_oc (n_aload_n (k := 0) (by decide +kernel)) <|
  nv_oc (n_getfield (idx := 29) (ci := 5) (k := 5) (N := 10) (D := RX5) (T := TX5) (by decide +kernel) rfl i_X5 (by decide) (by decide) f_X5_29) <|
  nv_oc (n_aload_n (k := 0) (by decide +kernel)) <|
  nv_oc (n_getfield (idx := 12) (ci := 5) (k := 0) (N := 10) (D := RX5) (T := TX5) (by decide +kernel) rfl i_X5 (by decide) (by decide) f_X5_12) <|
  nv_oc (n_getfield (idx := 117) (ci := 0) (k := 3) (N := 11) (D := RX0) (T := TX0) (by decide +kernel) rfl i_X0 (by decide) (by decide) f_X5_117) <|
  nv_oc (n_putfield (idx := 117) (ci := 0) (k := 3) (N := 11) (D := RX0) (T := TX0) tyX0 tyX0_ok nmX0 (by decide +kernel) rfl i_X0 (by decide) (by decide) rfl f_X5_117 rfl) <|
  nv_oc (n_aload_n (k := 0) (by decide +kernel)) <|
  nv_oc (n_getfield (idx := 12) (ci := 5) (k := 0) (N := 10) (D := RX5) (T := TX5) (by decide +kernel) rfl i_X5 (by decide) (by decide) f_X5_12) <|
  nv_oc (n_aload_n (k := 0) (by decide +kernel)) <|
  nv_oc (n_getfield (idx := 29) (ci := 5) (k := 5) (N := 10) (D := RX5) (T := TX5) (by decide +kernel) rfl i_X5 (by decide) (by decide) f_X5_29) <|
  nv_oc (n_virtual (M' := M_X0_takeAll) (idx := 121) (n := 1) (ci := 0) (N := 11) (D := RX0) (T := TX0) (by decide +kernel) fn_X0_takeAll fv_X0_takeAll rfl rfl l_X5_121 ⟨by decide, by decide⟩) <|
  nv_oc (n_aload_n (k := 0) (by decide +kernel)) <|
  nv_oc (n_getfield (idx := 19) (ci := 5) (k := 1) (N := 10) (D := RX5) (T := TX5) (by decide +kernel) rfl i_X5 (by decide) (by decide) f_X5_19) <|
  nv_oc (n_virtual (M' := M_X1_forget) (idx := 64) (n := 0) (ci := 1) (N := 3) (D := RX1) (T := TX1) (by decide +kernel) fn_X1_forget fv_X1_forget rfl rfl l_X5_64 ⟨by decide, by decide⟩) <|
  nv_oc (n_iload_n (k := 1) (by decide +kernel)) <|
  nv_oc (n_iret (by decide +kernel) rfl) <|
  nv_on
def M_X5_count : nv_MD := (RX5, yX5_count, cX5_count, 2, (some .int), 1, 23)
theorem fn_X5_count : nv_fn M_X5_count 1 := ⟨List.mem_of_getElem? (i := 471) (by decide +kernel), List.mem_of_getElem? (i := 44) (by decide +kernel), by decide +kernel⟩
theorem fv_X5_count : nv_fnV M_X5_count := ⟨List.mem_of_getElem? (i := 469) (by decide +kernel), List.mem_of_getElem? (i := 470) (by decide +kernel)⟩
def P_X5_count : nv_Pg := [(0, s_il 1 1), (1, s_sw 0 114 [48, 56, 64, 72, 80, 88, 96, 106]), (48, s_al 0 49), (49, s_gf 5 0 52), (52, s_gf 0 0 55), (55, s_ir), (56, s_al 0 57), (57, s_gf 5 0 60), (60, s_gf 0 1 63), (63, s_ir), (64, s_al 0 65), (65, s_gf 5 0 68), (68, s_gf 0 2 71), (71, s_ir), (72, s_al 0 73), (73, s_gf 5 0 76), (76, s_cv 0 M_X0_fallenSet 0 79), (79, s_ir), (80, s_al 0 81), (81, s_gf 5 0 84), (84, s_cv 0 M_X0_leftOfAll 0 87), (87, s_ir), (88, s_al 0 89), (89, s_gf 5 0 92), (92, s_cv 0 M_X0_teethOfAll 0 95), (95, s_ir), (96, s_al 0 97), (97, s_gf 5 0 100), (100, s_ki (-4) 102), (102, s_cv 0 M_X0_sittersOn 1 105), (105, s_ir), (106, s_al 0 107), (107, s_gf 5 1 110), (110, s_gf 1 1 113), (113, s_ir), (114, s_ki (-1) 115), (115, s_ir)]
set_option maxRecDepth 100000 in
set_option maxHeartbeats 4000000 in
theorem ok_X5_count : nv_ok_P M_X5_count P_X5_count :=
  nv_oc (n_iload_n (k := 1) (by decide +kernel)) <|
  nv_oc (n_tableswitch (dflt := 113) (lo := 0) (hi := 7) (offs := #[47, 55, 63, 71, 79, 87, 95, 105]) (len := 47) (df := 114) (ts := [48, 56, 64, 72, 80, 88, 96, 106]) (by decide +kernel) (by decide) (by decide) (by decide)) <|
  nv_oc (n_aload_n (k := 0) (by decide +kernel)) <|
  nv_oc (n_getfield (idx := 12) (ci := 5) (k := 0) (N := 10) (D := RX5) (T := TX5) (by decide +kernel) rfl i_X5 (by decide) (by decide) f_X5_12) <|
  nv_oc (n_getfield (idx := 125) (ci := 0) (k := 0) (N := 11) (D := RX0) (T := TX0) (by decide +kernel) rfl i_X0 (by decide) (by decide) f_X5_125) <|
  nv_oc (n_iret (by decide +kernel) rfl) <|
  nv_oc (n_aload_n (k := 0) (by decide +kernel)) <|
  nv_oc (n_getfield (idx := 12) (ci := 5) (k := 0) (N := 10) (D := RX5) (T := TX5) (by decide +kernel) rfl i_X5 (by decide) (by decide) f_X5_12) <|
  nv_oc (n_getfield (idx := 128) (ci := 0) (k := 1) (N := 11) (D := RX0) (T := TX0) (by decide +kernel) rfl i_X0 (by decide) (by decide) f_X5_128) <|
  nv_oc (n_iret (by decide +kernel) rfl) <|
  nv_oc (n_aload_n (k := 0) (by decide +kernel)) <|
  nv_oc (n_getfield (idx := 12) (ci := 5) (k := 0) (N := 10) (D := RX5) (T := TX5) (by decide +kernel) rfl i_X5 (by decide) (by decide) f_X5_12) <|
  nv_oc (n_getfield (idx := 131) (ci := 0) (k := 2) (N := 11) (D := RX0) (T := TX0) (by decide +kernel) rfl i_X0 (by decide) (by decide) f_X5_131) <|
  nv_oc (n_iret (by decide +kernel) rfl) <|
  nv_oc (n_aload_n (k := 0) (by decide +kernel)) <|
  nv_oc (n_getfield (idx := 12) (ci := 5) (k := 0) (N := 10) (D := RX5) (T := TX5) (by decide +kernel) rfl i_X5 (by decide) (by decide) f_X5_12) <|
  nv_oc (n_virtual (M' := M_X0_fallenSet) (idx := 134) (n := 0) (ci := 0) (N := 11) (D := RX0) (T := TX0) (by decide +kernel) fn_X0_fallenSet fv_X0_fallenSet rfl rfl l_X5_134 ⟨by decide, by decide⟩) <|
  nv_oc (n_iret (by decide +kernel) rfl) <|
  nv_oc (n_aload_n (k := 0) (by decide +kernel)) <|
  nv_oc (n_getfield (idx := 12) (ci := 5) (k := 0) (N := 10) (D := RX5) (T := TX5) (by decide +kernel) rfl i_X5 (by decide) (by decide) f_X5_12) <|
  nv_oc (n_virtual (M' := M_X0_leftOfAll) (idx := 138) (n := 0) (ci := 0) (N := 11) (D := RX0) (T := TX0) (by decide +kernel) fn_X0_leftOfAll fv_X0_leftOfAll rfl rfl l_X5_138 ⟨by decide, by decide⟩) <|
  nv_oc (n_iret (by decide +kernel) rfl) <|
  nv_oc (n_aload_n (k := 0) (by decide +kernel)) <|
  nv_oc (n_getfield (idx := 12) (ci := 5) (k := 0) (N := 10) (D := RX5) (T := TX5) (by decide +kernel) rfl i_X5 (by decide) (by decide) f_X5_12) <|
  nv_oc (n_virtual (M' := M_X0_teethOfAll) (idx := 141) (n := 0) (ci := 0) (N := 11) (D := RX0) (T := TX0) (by decide +kernel) fn_X0_teethOfAll fv_X0_teethOfAll rfl rfl l_X5_141 ⟨by decide, by decide⟩) <|
  nv_oc (n_iret (by decide +kernel) rfl) <|
  nv_oc (n_aload_n (k := 0) (by decide +kernel)) <|
  nv_oc (n_getfield (idx := 12) (ci := 5) (k := 0) (N := 10) (D := RX5) (T := TX5) (by decide +kernel) rfl i_X5 (by decide) (by decide) f_X5_12) <|
  nv_oc (n_bipush (z := -4) (by decide +kernel) (by decide)) <|
  nv_oc (n_virtual (M' := M_X0_sittersOn) (idx := 84) (n := 1) (ci := 0) (N := 11) (D := RX0) (T := TX0) (by decide +kernel) fn_X0_sittersOn fv_X0_sittersOn rfl rfl l_X5_84 ⟨by decide, by decide⟩) <|
  nv_oc (n_iret (by decide +kernel) rfl) <|
  nv_oc (n_aload_n (k := 0) (by decide +kernel)) <|
  nv_oc (n_getfield (idx := 19) (ci := 5) (k := 1) (N := 10) (D := RX5) (T := TX5) (by decide +kernel) rfl i_X5 (by decide) (by decide) f_X5_19) <|
  nv_oc (n_getfield (idx := 144) (ci := 1) (k := 1) (N := 3) (D := RX1) (T := TX1) (by decide +kernel) rfl i_X1 (by decide) (by decide) f_X5_144) <|
  nv_oc (n_iret (by decide +kernel) rfl) <|
  nv_oc (n_iconst (z := -1) (by decide +kernel)) <|
  nv_oc (n_iret (by decide +kernel) rfl) <|
  nv_on
def M_X5_hours : nv_MD := (RX5, yX5_hours, cX5_hours, 3, (some .int), 3, 82)
theorem fn_X5_hours : nv_fn M_X5_hours 1 := ⟨List.mem_of_getElem? (i := 487) (by decide +kernel), List.mem_of_getElem? (i := 44) (by decide +kernel), by decide +kernel⟩
theorem fv_X5_hours : nv_fnV M_X5_hours := ⟨List.mem_of_getElem? (i := 485) (by decide +kernel), List.mem_of_getElem? (i := 486) (by decide +kernel)⟩
def P_X5_hours : nv_Pg := [(0, s_il 1 1), (1, s_ki (1) 2), (2, s_ki (40) 4), (4, s_cs M_X5_outside 3 7), (7, s_if c_eq 12 10), (10, s_ki (-1) 11), (11, s_ir), (12, s_al 0 13), (13, s_gf 5 0 16), (16, s_gf 0 2 19), (19, s_il 1 20), (20, s_add 21), (21, s_ki (9999) 24), (24, s_ic c_le 30 27), (27, s_ki (-3) 29), (29, s_ir), (30, s_ki (0) 31), (31, s_is 2 32), (32, s_il 2 33), (33, s_il 1 34), (34, s_ic c_ge 62 37), (37, s_al 0 38), (38, s_gf 5 1 41), (41, s_al 0 42), (42, s_gf 5 0 45), (45, s_cv 1 M_X1_keep 1 48), (48, s_al 0 49), (49, s_gf 5 0 52), (52, s_cv 0 M_X0_passHour 0 55), (55, s_pop 56), (56, s_inc 2 (1) 59), (59, s_go 32), (62, s_al 0 63), (63, s_gf 5 0 66), (66, s_cv 0 M_X0_fallenSet 0 69), (69, s_ir)]
set_option maxRecDepth 100000 in
set_option maxHeartbeats 4000000 in
theorem ok_X5_hours : nv_ok_P M_X5_hours P_X5_hours :=
  nv_oc (n_iload_n (k := 1) (by decide +kernel)) <|
  nv_oc (n_iconst (z := 1) (by decide +kernel)) <|
  nv_oc (n_bipush (z := 40) (by decide +kernel) (by decide)) <|
  nv_oc (n_static (M' := M_X5_outside) (idx := 56) (n := 3) (by decide +kernel) fn_X5_outside st_X5_outside l_X5_56 ⟨by decide, by decide⟩) <|
  nv_oc (n_if_eq (off := 5) (tgt := 12) (by decide +kernel) (by decide)) <|
  nv_oc (n_iconst (z := -1) (by decide +kernel)) <|
  nv_oc (n_iret (by decide +kernel) rfl) <|
  nv_oc (n_aload_n (k := 0) (by decide +kernel)) <|
  nv_oc (n_getfield (idx := 12) (ci := 5) (k := 0) (N := 10) (D := RX5) (T := TX5) (by decide +kernel) rfl i_X5 (by decide) (by decide) f_X5_12) <|
  nv_oc (n_getfield (idx := 131) (ci := 0) (k := 2) (N := 11) (D := RX0) (T := TX0) (by decide +kernel) rfl i_X0 (by decide) (by decide) f_X5_131) <|
  nv_oc (n_iload_n (k := 1) (by decide +kernel)) <|
  nv_oc (n_iadd (by decide +kernel)) <|
  nv_oc (n_sipush (z := 9999) (by decide +kernel) (by decide)) <|
  nv_oc (n_icmp_le (off := 6) (tgt := 30) (by decide +kernel) (by decide)) <|
  nv_oc (n_bipush (z := -3) (by decide +kernel) (by decide)) <|
  nv_oc (n_iret (by decide +kernel) rfl) <|
  nv_oc (n_iconst (z := 0) (by decide +kernel)) <|
  nv_oc (n_istore_n (k := 2) (by decide +kernel) (by decide)) <|
  nv_oc (n_iload_n (k := 2) (by decide +kernel)) <|
  nv_oc (n_iload_n (k := 1) (by decide +kernel)) <|
  nv_oc (n_icmp_ge (off := 28) (tgt := 62) (by decide +kernel) (by decide)) <|
  nv_oc (n_aload_n (k := 0) (by decide +kernel)) <|
  nv_oc (n_getfield (idx := 19) (ci := 5) (k := 1) (N := 10) (D := RX5) (T := TX5) (by decide +kernel) rfl i_X5 (by decide) (by decide) f_X5_19) <|
  nv_oc (n_aload_n (k := 0) (by decide +kernel)) <|
  nv_oc (n_getfield (idx := 12) (ci := 5) (k := 0) (N := 10) (D := RX5) (T := TX5) (by decide +kernel) rfl i_X5 (by decide) (by decide) f_X5_12) <|
  nv_oc (n_virtual (M' := M_X1_keep) (idx := 147) (n := 1) (ci := 1) (N := 3) (D := RX1) (T := TX1) (by decide +kernel) fn_X1_keep fv_X1_keep rfl rfl l_X5_147 ⟨by decide, by decide⟩) <|
  nv_oc (n_aload_n (k := 0) (by decide +kernel)) <|
  nv_oc (n_getfield (idx := 12) (ci := 5) (k := 0) (N := 10) (D := RX5) (T := TX5) (by decide +kernel) rfl i_X5 (by decide) (by decide) f_X5_12) <|
  nv_oc (n_virtual (M' := M_X0_passHour) (idx := 150) (n := 0) (ci := 0) (N := 11) (D := RX0) (T := TX0) (by decide +kernel) fn_X0_passHour fv_X0_passHour rfl rfl l_X5_150 ⟨by decide, by decide⟩) <|
  nv_oc (n_pop (by decide +kernel)) <|
  nv_oc (n_iinc (k := 2) (d := 1) (by decide +kernel) (by decide)) <|
  nv_oc (n_goto (off := -27) (tgt := 32) (by decide +kernel) (by decide)) <|
  nv_oc (n_aload_n (k := 0) (by decide +kernel)) <|
  nv_oc (n_getfield (idx := 12) (ci := 5) (k := 0) (N := 10) (D := RX5) (T := TX5) (by decide +kernel) rfl i_X5 (by decide) (by decide) f_X5_12) <|
  nv_oc (n_virtual (M' := M_X0_fallenSet) (idx := 134) (n := 0) (ci := 0) (N := 11) (D := RX0) (T := TX0) (by decide +kernel) fn_X0_fallenSet fv_X0_fallenSet rfl rfl l_X5_134 ⟨by decide, by decide⟩) <|
  nv_oc (n_iret (by decide +kernel) rfl) <|
  nv_on
def M_X5_set : nv_MD := (RX5, yX5_set, cX5_set, 4, (some .int), 3, 82)
theorem fn_X5_set : nv_fn M_X5_set 2 := ⟨List.mem_of_getElem? (i := 514) (by decide +kernel), List.mem_of_getElem? (i := 44) (by decide +kernel), by decide +kernel⟩
theorem fv_X5_set : nv_fnV M_X5_set := ⟨List.mem_of_getElem? (i := 512) (by decide +kernel), List.mem_of_getElem? (i := 513) (by decide +kernel)⟩
def P_X5_set : nv_Pg := [(0, s_al 0 1), (1, s_il 1 2), (2, s_cv 5 M_X5_noSawyer 1 5), (5, s_if c_eq 8 22), (8, s_il 2 9), (9, s_ki (-4) 11), (11, s_ic c_eq 24 14), (14, s_al 0 15), (15, s_il 2 16), (16, s_cv 5 M_X5_noPlank 1 19), (19, s_if c_eq 24 22), (22, s_ki (-1) 23), (23, s_ir), (24, s_al 0 25), (25, s_gf 5 0 28), (28, s_gf 0 9 31), (31, s_il 1 32), (32, s_ia 33), (33, s_is 3 34), (34, s_il 3 35), (35, s_il 2 36), (36, s_ic c_eq 39 42), (39, s_ki (-2) 41), (41, s_ir), (42, s_al 0 43), (43, s_gf 5 1 46), (46, s_al 0 47), (47, s_gf 5 0 50), (50, s_cv 1 M_X1_keep 1 53), (53, s_al 0 54), (54, s_gf 5 0 57), (57, s_gf 0 9 60), (60, s_il 1 61), (61, s_il 2 62), (62, s_iw 63), (63, s_il 3 64), (64, s_ir)]
set_option maxRecDepth 100000 in
set_option maxHeartbeats 4000000 in
theorem ok_X5_set : nv_ok_P M_X5_set P_X5_set :=
  nv_oc (n_aload_n (k := 0) (by decide +kernel)) <|
  nv_oc (n_iload_n (k := 1) (by decide +kernel)) <|
  nv_oc (n_virtual (M' := M_X5_noSawyer) (idx := 91) (n := 1) (ci := 5) (N := 10) (D := RX5) (T := TX5) (by decide +kernel) fn_X5_noSawyer fv_X5_noSawyer rfl rfl l_X5_91 ⟨by decide, by decide⟩) <|
  nv_oc (n_if_ne (off := 17) (tgt := 22) (by decide +kernel) (by decide)) <|
  nv_oc (n_iload_n (k := 2) (by decide +kernel)) <|
  nv_oc (n_bipush (z := -4) (by decide +kernel) (by decide)) <|
  nv_oc (n_icmp_eq (off := 13) (tgt := 24) (by decide +kernel) (by decide)) <|
  nv_oc (n_aload_n (k := 0) (by decide +kernel)) <|
  nv_oc (n_iload_n (k := 2) (by decide +kernel)) <|
  nv_oc (n_virtual (M' := M_X5_noPlank) (idx := 70) (n := 1) (ci := 5) (N := 10) (D := RX5) (T := TX5) (by decide +kernel) fn_X5_noPlank fv_X5_noPlank rfl rfl l_X5_70 ⟨by decide, by decide⟩) <|
  nv_oc (n_if_eq (off := 5) (tgt := 24) (by decide +kernel) (by decide)) <|
  nv_oc (n_iconst (z := -1) (by decide +kernel)) <|
  nv_oc (n_iret (by decide +kernel) rfl) <|
  nv_oc (n_aload_n (k := 0) (by decide +kernel)) <|
  nv_oc (n_getfield (idx := 12) (ci := 5) (k := 0) (N := 10) (D := RX5) (T := TX5) (by decide +kernel) rfl i_X5 (by decide) (by decide) f_X5_12) <|
  nv_oc (n_getfield (idx := 100) (ci := 0) (k := 9) (N := 11) (D := RX0) (T := TX0) (by decide +kernel) rfl i_X0 (by decide) (by decide) f_X5_100) <|
  nv_oc (n_iload_n (k := 1) (by decide +kernel)) <|
  nv_oc (n_iaload (by decide +kernel)) <|
  nv_oc (n_istore_n (k := 3) (by decide +kernel) (by decide)) <|
  nv_oc (n_iload_n (k := 3) (by decide +kernel)) <|
  nv_oc (n_iload_n (k := 2) (by decide +kernel)) <|
  nv_oc (n_icmp_ne (off := 6) (tgt := 42) (by decide +kernel) (by decide)) <|
  nv_oc (n_bipush (z := -2) (by decide +kernel) (by decide)) <|
  nv_oc (n_iret (by decide +kernel) rfl) <|
  nv_oc (n_aload_n (k := 0) (by decide +kernel)) <|
  nv_oc (n_getfield (idx := 19) (ci := 5) (k := 1) (N := 10) (D := RX5) (T := TX5) (by decide +kernel) rfl i_X5 (by decide) (by decide) f_X5_19) <|
  nv_oc (n_aload_n (k := 0) (by decide +kernel)) <|
  nv_oc (n_getfield (idx := 12) (ci := 5) (k := 0) (N := 10) (D := RX5) (T := TX5) (by decide +kernel) rfl i_X5 (by decide) (by decide) f_X5_12) <|
  nv_oc (n_virtual (M' := M_X1_keep) (idx := 147) (n := 1) (ci := 1) (N := 3) (D := RX1) (T := TX1) (by decide +kernel) fn_X1_keep fv_X1_keep rfl rfl l_X5_147 ⟨by decide, by decide⟩) <|
  nv_oc (n_aload_n (k := 0) (by decide +kernel)) <|
  nv_oc (n_getfield (idx := 12) (ci := 5) (k := 0) (N := 10) (D := RX5) (T := TX5) (by decide +kernel) rfl i_X5 (by decide) (by decide) f_X5_12) <|
  nv_oc (n_getfield (idx := 100) (ci := 0) (k := 9) (N := 11) (D := RX0) (T := TX0) (by decide +kernel) rfl i_X0 (by decide) (by decide) f_X5_100) <|
  nv_oc (n_iload_n (k := 1) (by decide +kernel)) <|
  nv_oc (n_iload_n (k := 2) (by decide +kernel)) <|
  nv_oc (n_iastore (by decide +kernel)) <|
  nv_oc (n_iload_n (k := 3) (by decide +kernel)) <|
  nv_oc (n_iret (by decide +kernel) rfl) <|
  nv_on
def M_X5_sharpen : nv_MD := (RX5, yX5_sharpen, cX5_sharpen, 3, (some .int), 3, 82)
theorem fn_X5_sharpen : nv_fn M_X5_sharpen 2 := ⟨List.mem_of_getElem? (i := 518) (by decide +kernel), List.mem_of_getElem? (i := 44) (by decide +kernel), by decide +kernel⟩
theorem fv_X5_sharpen : nv_fnV M_X5_sharpen := ⟨List.mem_of_getElem? (i := 516) (by decide +kernel), List.mem_of_getElem? (i := 517) (by decide +kernel)⟩
def P_X5_sharpen : nv_Pg := [(0, s_al 0 1), (1, s_il 1 2), (2, s_cv 5 M_X5_noSawyer 1 5), (5, s_if c_eq 8 18), (8, s_il 2 9), (9, s_ki (1) 10), (10, s_ki (9) 12), (12, s_cs M_X5_outside 3 15), (15, s_if c_eq 20 18), (18, s_ki (-1) 19), (19, s_ir), (20, s_al 0 21), (21, s_gf 5 0 24), (24, s_gf 0 8 27), (27, s_il 1 28), (28, s_ia 29), (29, s_ki (9) 31), (31, s_ic c_eq 34 37), (34, s_ki (-2) 36), (36, s_ir), (37, s_al 0 38), (38, s_gf 5 1 41), (41, s_al 0 42), (42, s_gf 5 0 45), (45, s_cv 1 M_X1_keep 1 48), (48, s_al 0 49), (49, s_gf 5 0 52), (52, s_il 1 53), (53, s_il 2 54), (54, s_cv 0 M_X0_addTeeth 2 57), (57, s_al 0 58), (58, s_gf 5 0 61), (61, s_gf 0 8 64), (64, s_il 1 65), (65, s_ia 66), (66, s_ir)]
set_option maxRecDepth 100000 in
set_option maxHeartbeats 4000000 in
theorem ok_X5_sharpen : nv_ok_P M_X5_sharpen P_X5_sharpen :=
  nv_oc (n_aload_n (k := 0) (by decide +kernel)) <|
  nv_oc (n_iload_n (k := 1) (by decide +kernel)) <|
  nv_oc (n_virtual (M' := M_X5_noSawyer) (idx := 91) (n := 1) (ci := 5) (N := 10) (D := RX5) (T := TX5) (by decide +kernel) fn_X5_noSawyer fv_X5_noSawyer rfl rfl l_X5_91 ⟨by decide, by decide⟩) <|
  nv_oc (n_if_ne (off := 13) (tgt := 18) (by decide +kernel) (by decide)) <|
  nv_oc (n_iload_n (k := 2) (by decide +kernel)) <|
  nv_oc (n_iconst (z := 1) (by decide +kernel)) <|
  nv_oc (n_bipush (z := 9) (by decide +kernel) (by decide)) <|
  nv_oc (n_static (M' := M_X5_outside) (idx := 56) (n := 3) (by decide +kernel) fn_X5_outside st_X5_outside l_X5_56 ⟨by decide, by decide⟩) <|
  nv_oc (n_if_eq (off := 5) (tgt := 20) (by decide +kernel) (by decide)) <|
  nv_oc (n_iconst (z := -1) (by decide +kernel)) <|
  nv_oc (n_iret (by decide +kernel) rfl) <|
  nv_oc (n_aload_n (k := 0) (by decide +kernel)) <|
  nv_oc (n_getfield (idx := 12) (ci := 5) (k := 0) (N := 10) (D := RX5) (T := TX5) (by decide +kernel) rfl i_X5 (by decide) (by decide) f_X5_12) <|
  nv_oc (n_getfield (idx := 97) (ci := 0) (k := 8) (N := 11) (D := RX0) (T := TX0) (by decide +kernel) rfl i_X0 (by decide) (by decide) f_X5_97) <|
  nv_oc (n_iload_n (k := 1) (by decide +kernel)) <|
  nv_oc (n_iaload (by decide +kernel)) <|
  nv_oc (n_bipush (z := 9) (by decide +kernel) (by decide)) <|
  nv_oc (n_icmp_ne (off := 6) (tgt := 37) (by decide +kernel) (by decide)) <|
  nv_oc (n_bipush (z := -2) (by decide +kernel) (by decide)) <|
  nv_oc (n_iret (by decide +kernel) rfl) <|
  nv_oc (n_aload_n (k := 0) (by decide +kernel)) <|
  nv_oc (n_getfield (idx := 19) (ci := 5) (k := 1) (N := 10) (D := RX5) (T := TX5) (by decide +kernel) rfl i_X5 (by decide) (by decide) f_X5_19) <|
  nv_oc (n_aload_n (k := 0) (by decide +kernel)) <|
  nv_oc (n_getfield (idx := 12) (ci := 5) (k := 0) (N := 10) (D := RX5) (T := TX5) (by decide +kernel) rfl i_X5 (by decide) (by decide) f_X5_12) <|
  nv_oc (n_virtual (M' := M_X1_keep) (idx := 147) (n := 1) (ci := 1) (N := 3) (D := RX1) (T := TX1) (by decide +kernel) fn_X1_keep fv_X1_keep rfl rfl l_X5_147 ⟨by decide, by decide⟩) <|
  nv_oc (n_aload_n (k := 0) (by decide +kernel)) <|
  nv_oc (n_getfield (idx := 12) (ci := 5) (k := 0) (N := 10) (D := RX5) (T := TX5) (by decide +kernel) rfl i_X5 (by decide) (by decide) f_X5_12) <|
  nv_oc (n_iload_n (k := 1) (by decide +kernel)) <|
  nv_oc (n_iload_n (k := 2) (by decide +kernel)) <|
  nv_oc (n_virtual (M' := M_X0_addTeeth) (idx := 154) (n := 2) (ci := 0) (N := 11) (D := RX0) (T := TX0) (by decide +kernel) fn_X0_addTeeth fv_X0_addTeeth rfl rfl l_X5_154 ⟨by decide, by decide⟩) <|
  nv_oc (n_aload_n (k := 0) (by decide +kernel)) <|
  nv_oc (n_getfield (idx := 12) (ci := 5) (k := 0) (N := 10) (D := RX5) (T := TX5) (by decide +kernel) rfl i_X5 (by decide) (by decide) f_X5_12) <|
  nv_oc (n_getfield (idx := 97) (ci := 0) (k := 8) (N := 11) (D := RX0) (T := TX0) (by decide +kernel) rfl i_X0 (by decide) (by decide) f_X5_97) <|
  nv_oc (n_iload_n (k := 1) (by decide +kernel)) <|
  nv_oc (n_iaload (by decide +kernel)) <|
  nv_oc (n_iret (by decide +kernel) rfl) <|
  nv_on
def M_X5_soak : nv_MD := (RX5, yX5_soak, cX5_soak, 3, (some .int), 3, 82)
theorem fn_X5_soak : nv_fn M_X5_soak 2 := ⟨List.mem_of_getElem? (i := 527) (by decide +kernel), List.mem_of_getElem? (i := 44) (by decide +kernel), by decide +kernel⟩
theorem fv_X5_soak : nv_fnV M_X5_soak := ⟨List.mem_of_getElem? (i := 525) (by decide +kernel), List.mem_of_getElem? (i := 526) (by decide +kernel)⟩
def P_X5_soak : nv_Pg := [(0, s_al 0 1), (1, s_il 1 2), (2, s_cv 5 M_X5_noPlank 1 5), (5, s_if c_eq 8 18), (8, s_il 2 9), (9, s_ki (1) 10), (10, s_ki (99) 12), (12, s_cs M_X5_outside 3 15), (15, s_if c_eq 20 18), (18, s_ki (-1) 19), (19, s_ir), (20, s_al 0 21), (21, s_gf 5 0 24), (24, s_gf 0 6 27), (27, s_il 1 28), (28, s_ia 29), (29, s_if c_eq 46 32), (32, s_al 0 33), (33, s_gf 5 0 36), (36, s_gf 0 6 39), (39, s_il 1 40), (40, s_ia 41), (41, s_ki (99) 43), (43, s_ic c_eq 46 49), (46, s_ki (-2) 48), (48, s_ir), (49, s_al 0 50), (50, s_gf 5 1 53), (53, s_al 0 54), (54, s_gf 5 0 57), (57, s_cv 1 M_X1_keep 1 60), (60, s_al 0 61), (61, s_gf 5 0 64), (64, s_gf 0 6 67), (67, s_il 1 68), (68, s_ki (99) 70), (70, s_al 0 71), (71, s_gf 5 0 74), (74, s_gf 0 6 77), (77, s_il 1 78), (78, s_ia 79), (79, s_il 2 80), (80, s_add 81), (81, s_min 84), (84, s_iw 85), (85, s_al 0 86), (86, s_gf 5 0 89), (89, s_gf 0 6 92), (92, s_il 1 93), (93, s_ia 94), (94, s_ir)]
set_option maxRecDepth 100000 in
set_option maxHeartbeats 4000000 in
theorem ok_X5_soak : nv_ok_P M_X5_soak P_X5_soak :=
  nv_oc (n_aload_n (k := 0) (by decide +kernel)) <|
  nv_oc (n_iload_n (k := 1) (by decide +kernel)) <|
  nv_oc (n_virtual (M' := M_X5_noPlank) (idx := 70) (n := 1) (ci := 5) (N := 10) (D := RX5) (T := TX5) (by decide +kernel) fn_X5_noPlank fv_X5_noPlank rfl rfl l_X5_70 ⟨by decide, by decide⟩) <|
  nv_oc (n_if_ne (off := 13) (tgt := 18) (by decide +kernel) (by decide)) <|
  nv_oc (n_iload_n (k := 2) (by decide +kernel)) <|
  nv_oc (n_iconst (z := 1) (by decide +kernel)) <|
  nv_oc (n_bipush (z := 99) (by decide +kernel) (by decide)) <|
  nv_oc (n_static (M' := M_X5_outside) (idx := 56) (n := 3) (by decide +kernel) fn_X5_outside st_X5_outside l_X5_56 ⟨by decide, by decide⟩) <|
  nv_oc (n_if_eq (off := 5) (tgt := 20) (by decide +kernel) (by decide)) <|
  nv_oc (n_iconst (z := -1) (by decide +kernel)) <|
  nv_oc (n_iret (by decide +kernel) rfl) <|
  nv_oc (n_aload_n (k := 0) (by decide +kernel)) <|
  nv_oc (n_getfield (idx := 12) (ci := 5) (k := 0) (N := 10) (D := RX5) (T := TX5) (by decide +kernel) rfl i_X5 (by decide) (by decide) f_X5_12) <|
  nv_oc (n_getfield (idx := 81) (ci := 0) (k := 6) (N := 11) (D := RX0) (T := TX0) (by decide +kernel) rfl i_X0 (by decide) (by decide) f_X5_81) <|
  nv_oc (n_iload_n (k := 1) (by decide +kernel)) <|
  nv_oc (n_iaload (by decide +kernel)) <|
  nv_oc (n_if_eq (off := 17) (tgt := 46) (by decide +kernel) (by decide)) <|
  nv_oc (n_aload_n (k := 0) (by decide +kernel)) <|
  nv_oc (n_getfield (idx := 12) (ci := 5) (k := 0) (N := 10) (D := RX5) (T := TX5) (by decide +kernel) rfl i_X5 (by decide) (by decide) f_X5_12) <|
  nv_oc (n_getfield (idx := 81) (ci := 0) (k := 6) (N := 11) (D := RX0) (T := TX0) (by decide +kernel) rfl i_X0 (by decide) (by decide) f_X5_81) <|
  nv_oc (n_iload_n (k := 1) (by decide +kernel)) <|
  nv_oc (n_iaload (by decide +kernel)) <|
  nv_oc (n_bipush (z := 99) (by decide +kernel) (by decide)) <|
  nv_oc (n_icmp_ne (off := 6) (tgt := 49) (by decide +kernel) (by decide)) <|
  nv_oc (n_bipush (z := -2) (by decide +kernel) (by decide)) <|
  nv_oc (n_iret (by decide +kernel) rfl) <|
  nv_oc (n_aload_n (k := 0) (by decide +kernel)) <|
  nv_oc (n_getfield (idx := 19) (ci := 5) (k := 1) (N := 10) (D := RX5) (T := TX5) (by decide +kernel) rfl i_X5 (by decide) (by decide) f_X5_19) <|
  nv_oc (n_aload_n (k := 0) (by decide +kernel)) <|
  nv_oc (n_getfield (idx := 12) (ci := 5) (k := 0) (N := 10) (D := RX5) (T := TX5) (by decide +kernel) rfl i_X5 (by decide) (by decide) f_X5_12) <|
  nv_oc (n_virtual (M' := M_X1_keep) (idx := 147) (n := 1) (ci := 1) (N := 3) (D := RX1) (T := TX1) (by decide +kernel) fn_X1_keep fv_X1_keep rfl rfl l_X5_147 ⟨by decide, by decide⟩) <|
  nv_oc (n_aload_n (k := 0) (by decide +kernel)) <|
  nv_oc (n_getfield (idx := 12) (ci := 5) (k := 0) (N := 10) (D := RX5) (T := TX5) (by decide +kernel) rfl i_X5 (by decide) (by decide) f_X5_12) <|
  nv_oc (n_getfield (idx := 81) (ci := 0) (k := 6) (N := 11) (D := RX0) (T := TX0) (by decide +kernel) rfl i_X0 (by decide) (by decide) f_X5_81) <|
  nv_oc (n_iload_n (k := 1) (by decide +kernel)) <|
  nv_oc (n_bipush (z := 99) (by decide +kernel) (by decide)) <|
  nv_oc (n_aload_n (k := 0) (by decide +kernel)) <|
  nv_oc (n_getfield (idx := 12) (ci := 5) (k := 0) (N := 10) (D := RX5) (T := TX5) (by decide +kernel) rfl i_X5 (by decide) (by decide) f_X5_12) <|
  nv_oc (n_getfield (idx := 81) (ci := 0) (k := 6) (N := 11) (D := RX0) (T := TX0) (by decide +kernel) rfl i_X0 (by decide) (by decide) f_X5_81) <|
  nv_oc (n_iload_n (k := 1) (by decide +kernel)) <|
  nv_oc (n_iaload (by decide +kernel)) <|
  nv_oc (n_iload_n (k := 2) (by decide +kernel)) <|
  nv_oc (n_iadd (by decide +kernel)) <|
  nv_oc (n_min (idx := 158) (by decide +kernel) l_X5_158 (by decide) (by decide)) <|
  nv_oc (n_iastore (by decide +kernel)) <|
  nv_oc (n_aload_n (k := 0) (by decide +kernel)) <|
  nv_oc (n_getfield (idx := 12) (ci := 5) (k := 0) (N := 10) (D := RX5) (T := TX5) (by decide +kernel) rfl i_X5 (by decide) (by decide) f_X5_12) <|
  nv_oc (n_getfield (idx := 81) (ci := 0) (k := 6) (N := 11) (D := RX0) (T := TX0) (by decide +kernel) rfl i_X0 (by decide) (by decide) f_X5_81) <|
  nv_oc (n_iload_n (k := 1) (by decide +kernel)) <|
  nv_oc (n_iaload (by decide +kernel)) <|
  nv_oc (n_iret (by decide +kernel) rfl) <|
  nv_on
def M_X5_drift : nv_MD := (RX5, yX5_drift, cX5_drift, 3, (some .int), 3, 82)
theorem fn_X5_drift : nv_fn M_X5_drift 1 := ⟨List.mem_of_getElem? (i := 532) (by decide +kernel), List.mem_of_getElem? (i := 44) (by decide +kernel), by decide +kernel⟩
theorem fv_X5_drift : nv_fnV M_X5_drift := ⟨List.mem_of_getElem? (i := 530) (by decide +kernel), List.mem_of_getElem? (i := 531) (by decide +kernel)⟩
def P_X5_drift : nv_Pg := [(0, s_il 1 1), (1, s_ki (1) 2), (2, s_ki (40) 4), (4, s_cs M_X5_outside 3 7), (7, s_if c_eq 12 10), (10, s_ki (-1) 11), (11, s_ir), (12, s_al 0 13), (13, s_gf 5 0 16), (16, s_gf 0 2 19), (19, s_il 1 20), (20, s_add 21), (21, s_ki (9999) 24), (24, s_ic c_le 30 27), (27, s_ki (-3) 29), (29, s_ir), (30, s_ki (0) 31), (31, s_is 2 32), (32, s_il 2 33), (33, s_il 1 34), (34, s_ic c_ge 69 37), (37, s_al 0 38), (38, s_gf 5 1 41), (41, s_al 0 42), (42, s_gf 5 0 45), (45, s_cv 1 M_X1_keep 1 48), (48, s_al 0 49), (49, s_gf 5 0 52), (52, s_cv 0 M_X0_drawAndSet 0 55), (55, s_al 0 56), (56, s_gf 5 0 59), (59, s_cv 0 M_X0_passHour 0 62), (62, s_pop 63), (63, s_inc 2 (1) 66), (66, s_go 32), (69, s_al 0 70), (70, s_gf 5 0 73), (73, s_cv 0 M_X0_fallenSet 0 76), (76, s_ir)]
set_option maxRecDepth 100000 in
set_option maxHeartbeats 4000000 in
theorem ok_X5_drift : nv_ok_P M_X5_drift P_X5_drift :=
  nv_oc (n_iload_n (k := 1) (by decide +kernel)) <|
  nv_oc (n_iconst (z := 1) (by decide +kernel)) <|
  nv_oc (n_bipush (z := 40) (by decide +kernel) (by decide)) <|
  nv_oc (n_static (M' := M_X5_outside) (idx := 56) (n := 3) (by decide +kernel) fn_X5_outside st_X5_outside l_X5_56 ⟨by decide, by decide⟩) <|
  nv_oc (n_if_eq (off := 5) (tgt := 12) (by decide +kernel) (by decide)) <|
  nv_oc (n_iconst (z := -1) (by decide +kernel)) <|
  nv_oc (n_iret (by decide +kernel) rfl) <|
  nv_oc (n_aload_n (k := 0) (by decide +kernel)) <|
  nv_oc (n_getfield (idx := 12) (ci := 5) (k := 0) (N := 10) (D := RX5) (T := TX5) (by decide +kernel) rfl i_X5 (by decide) (by decide) f_X5_12) <|
  nv_oc (n_getfield (idx := 131) (ci := 0) (k := 2) (N := 11) (D := RX0) (T := TX0) (by decide +kernel) rfl i_X0 (by decide) (by decide) f_X5_131) <|
  nv_oc (n_iload_n (k := 1) (by decide +kernel)) <|
  nv_oc (n_iadd (by decide +kernel)) <|
  nv_oc (n_sipush (z := 9999) (by decide +kernel) (by decide)) <|
  nv_oc (n_icmp_le (off := 6) (tgt := 30) (by decide +kernel) (by decide)) <|
  nv_oc (n_bipush (z := -3) (by decide +kernel) (by decide)) <|
  nv_oc (n_iret (by decide +kernel) rfl) <|
  nv_oc (n_iconst (z := 0) (by decide +kernel)) <|
  nv_oc (n_istore_n (k := 2) (by decide +kernel) (by decide)) <|
  nv_oc (n_iload_n (k := 2) (by decide +kernel)) <|
  nv_oc (n_iload_n (k := 1) (by decide +kernel)) <|
  nv_oc (n_icmp_ge (off := 35) (tgt := 69) (by decide +kernel) (by decide)) <|
  nv_oc (n_aload_n (k := 0) (by decide +kernel)) <|
  nv_oc (n_getfield (idx := 19) (ci := 5) (k := 1) (N := 10) (D := RX5) (T := TX5) (by decide +kernel) rfl i_X5 (by decide) (by decide) f_X5_19) <|
  nv_oc (n_aload_n (k := 0) (by decide +kernel)) <|
  nv_oc (n_getfield (idx := 12) (ci := 5) (k := 0) (N := 10) (D := RX5) (T := TX5) (by decide +kernel) rfl i_X5 (by decide) (by decide) f_X5_12) <|
  nv_oc (n_virtual (M' := M_X1_keep) (idx := 147) (n := 1) (ci := 1) (N := 3) (D := RX1) (T := TX1) (by decide +kernel) fn_X1_keep fv_X1_keep rfl rfl l_X5_147 ⟨by decide, by decide⟩) <|
  nv_oc (n_aload_n (k := 0) (by decide +kernel)) <|
  nv_oc (n_getfield (idx := 12) (ci := 5) (k := 0) (N := 10) (D := RX5) (T := TX5) (by decide +kernel) rfl i_X5 (by decide) (by decide) f_X5_12) <|
  nv_oc (n_virtual (M' := M_X0_drawAndSet) (idx := 164) (n := 0) (ci := 0) (N := 11) (D := RX0) (T := TX0) (by decide +kernel) fn_X0_drawAndSet fv_X0_drawAndSet rfl rfl l_X5_164 ⟨by decide, by decide⟩) <|
  nv_oc (n_aload_n (k := 0) (by decide +kernel)) <|
  nv_oc (n_getfield (idx := 12) (ci := 5) (k := 0) (N := 10) (D := RX5) (T := TX5) (by decide +kernel) rfl i_X5 (by decide) (by decide) f_X5_12) <|
  nv_oc (n_virtual (M' := M_X0_passHour) (idx := 150) (n := 0) (ci := 0) (N := 11) (D := RX0) (T := TX0) (by decide +kernel) fn_X0_passHour fv_X0_passHour rfl rfl l_X5_150 ⟨by decide, by decide⟩) <|
  nv_oc (n_pop (by decide +kernel)) <|
  nv_oc (n_iinc (k := 2) (d := 1) (by decide +kernel) (by decide)) <|
  nv_oc (n_goto (off := -34) (tgt := 32) (by decide +kernel) (by decide)) <|
  nv_oc (n_aload_n (k := 0) (by decide +kernel)) <|
  nv_oc (n_getfield (idx := 12) (ci := 5) (k := 0) (N := 10) (D := RX5) (T := TX5) (by decide +kernel) rfl i_X5 (by decide) (by decide) f_X5_12) <|
  nv_oc (n_virtual (M' := M_X0_fallenSet) (idx := 134) (n := 0) (ci := 0) (N := 11) (D := RX0) (T := TX0) (by decide +kernel) fn_X0_fallenSet fv_X0_fallenSet rfl rfl l_X5_134 ⟨by decide, by decide⟩) <|
  nv_oc (n_iret (by decide +kernel) rfl) <|
  nv_on
def M_X5_undo : nv_MD := (RX5, yX5_undo, cX5_undo, 1, (some .int), 3, 82)
theorem fn_X5_undo : nv_fn M_X5_undo 0 := ⟨List.mem_of_getElem? (i := 543) (by decide +kernel), List.mem_of_getElem? (i := 44) (by decide +kernel), by decide +kernel⟩
theorem fv_X5_undo : nv_fnV M_X5_undo := ⟨List.mem_of_getElem? (i := 541) (by decide +kernel), List.mem_of_getElem? (i := 542) (by decide +kernel)⟩
def P_X5_undo : nv_Pg := [(0, s_al 0 1), (1, s_gf 5 1 4), (4, s_al 0 5), (5, s_gf 5 0 8), (8, s_cv 1 M_X1_giveBack 1 11), (11, s_if c_eq 24 14), (14, s_al 0 15), (15, s_gf 5 1 18), (18, s_gf 1 1 21), (21, s_go 26), (24, s_ki (-4) 26), (26, s_ir)]
set_option maxRecDepth 100000 in
set_option maxHeartbeats 4000000 in
theorem ok_X5_undo : nv_ok_P M_X5_undo P_X5_undo :=
  nv_oc (n_aload_n (k := 0) (by decide +kernel)) <|
  nv_oc (n_getfield (idx := 19) (ci := 5) (k := 1) (N := 10) (D := RX5) (T := TX5) (by decide +kernel) rfl i_X5 (by decide) (by decide) f_X5_19) <|
  nv_oc (n_aload_n (k := 0) (by decide +kernel)) <|
  nv_oc (n_getfield (idx := 12) (ci := 5) (k := 0) (N := 10) (D := RX5) (T := TX5) (by decide +kernel) rfl i_X5 (by decide) (by decide) f_X5_12) <|
  nv_oc (n_virtual (M' := M_X1_giveBack) (idx := 167) (n := 1) (ci := 1) (N := 3) (D := RX1) (T := TX1) (by decide +kernel) fn_X1_giveBack fv_X1_giveBack rfl rfl l_X5_167 ⟨by decide, by decide⟩) <|
  nv_oc (n_if_eq (off := 13) (tgt := 24) (by decide +kernel) (by decide)) <|
  nv_oc (n_aload_n (k := 0) (by decide +kernel)) <|
  nv_oc (n_getfield (idx := 19) (ci := 5) (k := 1) (N := 10) (D := RX5) (T := TX5) (by decide +kernel) rfl i_X5 (by decide) (by decide) f_X5_19) <|
  nv_oc (n_getfield (idx := 144) (ci := 1) (k := 1) (N := 3) (D := RX1) (T := TX1) (by decide +kernel) rfl i_X1 (by decide) (by decide) f_X5_144) <|
  nv_oc (n_goto (off := 5) (tgt := 26) (by decide +kernel) (by decide)) <|
  nv_oc (n_bipush (z := -4) (by decide +kernel) (by decide)) <|
  nv_oc (n_iret (by decide +kernel) rfl) <|
  nv_on
def M_X5_seed : nv_MD := (RX5, yX5_seed, cX5_seed, 3, (some .int), 0, 0)
theorem fn_X5_seed : nv_fn M_X5_seed 1 := ⟨List.mem_of_getElem? (i := 551) (by decide +kernel), List.mem_of_getElem? (i := 44) (by decide +kernel), by decide +kernel⟩
theorem fv_X5_seed : nv_fnV M_X5_seed := ⟨List.mem_of_getElem? (i := 549) (by decide +kernel), List.mem_of_getElem? (i := 550) (by decide +kernel)⟩
def P_X5_seed : nv_Pg := [(0, s_il 1 1), (1, s_if c_ge 6 4), (4, s_ki (-1) 5), (5, s_ir), (6, s_al 0 7), (7, s_gf 5 0 10), (10, s_gf 0 3 13), (13, s_is 2 14), (14, s_al 0 15), (15, s_gf 5 0 18), (18, s_il 1 19), (19, s_pf 0 3 22), (22, s_il 2 23), (23, s_ir)]
set_option maxRecDepth 100000 in
set_option maxHeartbeats 4000000 in
theorem ok_X5_seed : nv_ok_P M_X5_seed P_X5_seed :=
  nv_oc (n_iload_n (k := 1) (by decide +kernel)) <|
  nv_oc (n_if_ge (off := 5) (tgt := 6) (by decide +kernel) (by decide)) <|
  nv_oc (n_iconst (z := -1) (by decide +kernel)) <|
  nv_oc (n_iret (by decide +kernel) rfl) <|
  nv_oc (n_aload_n (k := 0) (by decide +kernel)) <|
  nv_oc (n_getfield (idx := 12) (ci := 5) (k := 0) (N := 10) (D := RX5) (T := TX5) (by decide +kernel) rfl i_X5 (by decide) (by decide) f_X5_12) <|
  nv_oc (n_getfield (idx := 117) (ci := 0) (k := 3) (N := 11) (D := RX0) (T := TX0) (by decide +kernel) rfl i_X0 (by decide) (by decide) f_X5_117) <|
  nv_oc (n_istore_n (k := 2) (by decide +kernel) (by decide)) <|
  nv_oc (n_aload_n (k := 0) (by decide +kernel)) <|
  nv_oc (n_getfield (idx := 12) (ci := 5) (k := 0) (N := 10) (D := RX5) (T := TX5) (by decide +kernel) rfl i_X5 (by decide) (by decide) f_X5_12) <|
  nv_oc (n_iload_n (k := 1) (by decide +kernel)) <|
  nv_oc (n_putfield (idx := 117) (ci := 0) (k := 3) (N := 11) (D := RX0) (T := TX0) tyX0 tyX0_ok nmX0 (by decide +kernel) rfl i_X0 (by decide) (by decide) rfl f_X5_117 rfl) <|
  nv_oc (n_iload_n (k := 2) (by decide +kernel)) <|
  nv_oc (n_iret (by decide +kernel) rfl) <|
  nv_on
def M_X5_foretell : nv_MD := (RX5, yX5_foretell, cX5_foretell, 2, none, 4, 94)
theorem fn_X5_foretell : nv_fn M_X5_foretell 1 := ⟨List.mem_of_getElem? (i := 559) (by decide +kernel), List.mem_of_getElem? (i := 44) (by decide +kernel), by decide +kernel⟩
theorem fv_X5_foretell : nv_fnV M_X5_foretell := ⟨List.mem_of_getElem? (i := 558) (by decide +kernel), List.mem_of_getElem? (i := 15) (by decide +kernel)⟩
def P_X5_foretell : nv_Pg := [(0, s_al 0 1), (1, s_gf 5 5 4), (4, s_al 0 5), (5, s_gf 5 0 8), (8, s_cv 0 M_X0_takeAll 1 11), (11, s_al 0 12), (12, s_gf 5 5 15), (15, s_il 1 16), (16, s_cv 0 M_X0_passHours 1 19), (19, s_vr)]
set_option maxRecDepth 100000 in
set_option maxHeartbeats 4000000 in
theorem ok_X5_foretell : nv_ok_P M_X5_foretell P_X5_foretell :=
  nv_oc (n_aload_n (k := 0) (by decide +kernel)) <|
  nv_oc (n_getfield (idx := 29) (ci := 5) (k := 5) (N := 10) (D := RX5) (T := TX5) (by decide +kernel) rfl i_X5 (by decide) (by decide) f_X5_29) <|
  nv_oc (n_aload_n (k := 0) (by decide +kernel)) <|
  nv_oc (n_getfield (idx := 12) (ci := 5) (k := 0) (N := 10) (D := RX5) (T := TX5) (by decide +kernel) rfl i_X5 (by decide) (by decide) f_X5_12) <|
  nv_oc (n_virtual (M' := M_X0_takeAll) (idx := 121) (n := 1) (ci := 0) (N := 11) (D := RX0) (T := TX0) (by decide +kernel) fn_X0_takeAll fv_X0_takeAll rfl rfl l_X5_121 ⟨by decide, by decide⟩) <|
  nv_oc (n_aload_n (k := 0) (by decide +kernel)) <|
  nv_oc (n_getfield (idx := 29) (ci := 5) (k := 5) (N := 10) (D := RX5) (T := TX5) (by decide +kernel) rfl i_X5 (by decide) (by decide) f_X5_29) <|
  nv_oc (n_iload_n (k := 1) (by decide +kernel)) <|
  nv_oc (n_virtual (M' := M_X0_passHours) (idx := 194) (n := 1) (ci := 0) (N := 11) (D := RX0) (T := TX0) (by decide +kernel) fn_X0_passHours fv_X0_passHours rfl rfl l_X5_194 ⟨by decide, by decide⟩) <|
  nv_oc (n_vret (by decide +kernel) rfl) <|
  nv_on
def M_X5_left : nv_MD := (RX5, yX5_left, cX5_left, 3, (some .int), 5, 115)
theorem fn_X5_left : nv_fn M_X5_left 2 := ⟨List.mem_of_getElem? (i := 555) (by decide +kernel), List.mem_of_getElem? (i := 44) (by decide +kernel), by decide +kernel⟩
theorem fv_X5_left : nv_fnV M_X5_left := ⟨List.mem_of_getElem? (i := 553) (by decide +kernel), List.mem_of_getElem? (i := 554) (by decide +kernel)⟩
def P_X5_left : nv_Pg := [(0, s_al 0 1), (1, s_il 1 2), (2, s_cv 5 M_X5_noPlank 1 5), (5, s_if c_eq 8 18), (8, s_il 2 9), (9, s_ki (0) 10), (10, s_ki (60) 12), (12, s_cs M_X5_outside 3 15), (15, s_if c_eq 20 18), (18, s_ki (-1) 19), (19, s_ir), (20, s_al 0 21), (21, s_il 2 22), (22, s_cv 5 M_X5_foretell 1 25), (25, s_al 0 26), (26, s_gf 5 5 29), (29, s_gf 0 6 32), (32, s_il 1 33), (33, s_ia 34), (34, s_ir)]
set_option maxRecDepth 100000 in
set_option maxHeartbeats 4000000 in
theorem ok_X5_left : nv_ok_P M_X5_left P_X5_left :=
  nv_oc (n_aload_n (k := 0) (by decide +kernel)) <|
  nv_oc (n_iload_n (k := 1) (by decide +kernel)) <|
  nv_oc (n_virtual (M' := M_X5_noPlank) (idx := 70) (n := 1) (ci := 5) (N := 10) (D := RX5) (T := TX5) (by decide +kernel) fn_X5_noPlank fv_X5_noPlank rfl rfl l_X5_70 ⟨by decide, by decide⟩) <|
  nv_oc (n_if_ne (off := 13) (tgt := 18) (by decide +kernel) (by decide)) <|
  nv_oc (n_iload_n (k := 2) (by decide +kernel)) <|
  nv_oc (n_iconst (z := 0) (by decide +kernel)) <|
  nv_oc (n_bipush (z := 60) (by decide +kernel) (by decide)) <|
  nv_oc (n_static (M' := M_X5_outside) (idx := 56) (n := 3) (by decide +kernel) fn_X5_outside st_X5_outside l_X5_56 ⟨by decide, by decide⟩) <|
  nv_oc (n_if_eq (off := 5) (tgt := 20) (by decide +kernel) (by decide)) <|
  nv_oc (n_iconst (z := -1) (by decide +kernel)) <|
  nv_oc (n_iret (by decide +kernel) rfl) <|
  nv_oc (n_aload_n (k := 0) (by decide +kernel)) <|
  nv_oc (n_iload_n (k := 2) (by decide +kernel)) <|
  nv_oc (n_virtual (M' := M_X5_foretell) (idx := 171) (n := 1) (ci := 5) (N := 10) (D := RX5) (T := TX5) (by decide +kernel) fn_X5_foretell fv_X5_foretell rfl rfl l_X5_171 ⟨by decide, by decide⟩) <|
  nv_oc (n_aload_n (k := 0) (by decide +kernel)) <|
  nv_oc (n_getfield (idx := 29) (ci := 5) (k := 5) (N := 10) (D := RX5) (T := TX5) (by decide +kernel) rfl i_X5 (by decide) (by decide) f_X5_29) <|
  nv_oc (n_getfield (idx := 81) (ci := 0) (k := 6) (N := 11) (D := RX0) (T := TX0) (by decide +kernel) rfl i_X0 (by decide) (by decide) f_X5_81) <|
  nv_oc (n_iload_n (k := 1) (by decide +kernel)) <|
  nv_oc (n_iaload (by decide +kernel)) <|
  nv_oc (n_iret (by decide +kernel) rfl) <|
  nv_on
def M_X5_ahead : nv_MD := (RX5, yX5_ahead, cX5_ahead, 4, (some .int), 5, 115)
theorem fn_X5_ahead : nv_fn M_X5_ahead 3 := ⟨List.mem_of_getElem? (i := 568) (by decide +kernel), List.mem_of_getElem? (i := 44) (by decide +kernel), by decide +kernel⟩
theorem fv_X5_ahead : nv_fnV M_X5_ahead := ⟨List.mem_of_getElem? (i := 566) (by decide +kernel), List.mem_of_getElem? (i := 567) (by decide +kernel)⟩
def P_X5_ahead : nv_Pg := [(0, s_al 0 1), (1, s_il 1 2), (2, s_cv 5 M_X5_noSawyer 1 5), (5, s_if c_eq 8 27), (8, s_il 2 9), (9, s_ki (0) 10), (10, s_ki (60) 12), (12, s_cs M_X5_outside 3 15), (15, s_if c_eq 18 27), (18, s_il 3 19), (19, s_ki (0) 20), (20, s_ki (1) 21), (21, s_cs M_X5_outside 3 24), (24, s_if c_eq 29 27), (27, s_ki (-1) 28), (28, s_ir), (29, s_al 0 30), (30, s_il 2 31), (31, s_cv 5 M_X5_foretell 1 34), (34, s_il 3 35), (35, s_if c_eq 38 50), (38, s_al 0 39), (39, s_gf 5 5 42), (42, s_gf 0 8 45), (45, s_il 1 46), (46, s_ia 47), (47, s_go 59), (50, s_al 0 51), (51, s_gf 5 5 54), (54, s_gf 0 9 57), (57, s_il 1 58), (58, s_ia 59), (59, s_ir)]
set_option maxRecDepth 100000 in
set_option maxHeartbeats 4000000 in
theorem ok_X5_ahead : nv_ok_P M_X5_ahead P_X5_ahead :=
  nv_oc (n_aload_n (k := 0) (by decide +kernel)) <|
  nv_oc (n_iload_n (k := 1) (by decide +kernel)) <|
  nv_oc (n_virtual (M' := M_X5_noSawyer) (idx := 91) (n := 1) (ci := 5) (N := 10) (D := RX5) (T := TX5) (by decide +kernel) fn_X5_noSawyer fv_X5_noSawyer rfl rfl l_X5_91 ⟨by decide, by decide⟩) <|
  nv_oc (n_if_ne (off := 22) (tgt := 27) (by decide +kernel) (by decide)) <|
  nv_oc (n_iload_n (k := 2) (by decide +kernel)) <|
  nv_oc (n_iconst (z := 0) (by decide +kernel)) <|
  nv_oc (n_bipush (z := 60) (by decide +kernel) (by decide)) <|
  nv_oc (n_static (M' := M_X5_outside) (idx := 56) (n := 3) (by decide +kernel) fn_X5_outside st_X5_outside l_X5_56 ⟨by decide, by decide⟩) <|
  nv_oc (n_if_ne (off := 12) (tgt := 27) (by decide +kernel) (by decide)) <|
  nv_oc (n_iload_n (k := 3) (by decide +kernel)) <|
  nv_oc (n_iconst (z := 0) (by decide +kernel)) <|
  nv_oc (n_iconst (z := 1) (by decide +kernel)) <|
  nv_oc (n_static (M' := M_X5_outside) (idx := 56) (n := 3) (by decide +kernel) fn_X5_outside st_X5_outside l_X5_56 ⟨by decide, by decide⟩) <|
  nv_oc (n_if_eq (off := 5) (tgt := 29) (by decide +kernel) (by decide)) <|
  nv_oc (n_iconst (z := -1) (by decide +kernel)) <|
  nv_oc (n_iret (by decide +kernel) rfl) <|
  nv_oc (n_aload_n (k := 0) (by decide +kernel)) <|
  nv_oc (n_iload_n (k := 2) (by decide +kernel)) <|
  nv_oc (n_virtual (M' := M_X5_foretell) (idx := 171) (n := 1) (ci := 5) (N := 10) (D := RX5) (T := TX5) (by decide +kernel) fn_X5_foretell fv_X5_foretell rfl rfl l_X5_171 ⟨by decide, by decide⟩) <|
  nv_oc (n_iload_n (k := 3) (by decide +kernel)) <|
  nv_oc (n_if_ne (off := 15) (tgt := 50) (by decide +kernel) (by decide)) <|
  nv_oc (n_aload_n (k := 0) (by decide +kernel)) <|
  nv_oc (n_getfield (idx := 29) (ci := 5) (k := 5) (N := 10) (D := RX5) (T := TX5) (by decide +kernel) rfl i_X5 (by decide) (by decide) f_X5_29) <|
  nv_oc (n_getfield (idx := 97) (ci := 0) (k := 8) (N := 11) (D := RX0) (T := TX0) (by decide +kernel) rfl i_X0 (by decide) (by decide) f_X5_97) <|
  nv_oc (n_iload_n (k := 1) (by decide +kernel)) <|
  nv_oc (n_iaload (by decide +kernel)) <|
  nv_oc (n_goto (off := 12) (tgt := 59) (by decide +kernel) (by decide)) <|
  nv_oc (n_aload_n (k := 0) (by decide +kernel)) <|
  nv_oc (n_getfield (idx := 29) (ci := 5) (k := 5) (N := 10) (D := RX5) (T := TX5) (by decide +kernel) rfl i_X5 (by decide) (by decide) f_X5_29) <|
  nv_oc (n_getfield (idx := 100) (ci := 0) (k := 9) (N := 11) (D := RX0) (T := TX0) (by decide +kernel) rfl i_X0 (by decide) (by decide) f_X5_100) <|
  nv_oc (n_iload_n (k := 1) (by decide +kernel)) <|
  nv_oc (n_iaload (by decide +kernel)) <|
  nv_oc (n_iret (by decide +kernel) rfl) <|
  nv_on
def M_X5_then : nv_MD := (RX5, yX5_then, cX5_then, 2, (some .int), 5, 115)
theorem fn_X5_then : nv_fn M_X5_then 1 := ⟨List.mem_of_getElem? (i := 572) (by decide +kernel), List.mem_of_getElem? (i := 44) (by decide +kernel), by decide +kernel⟩
theorem fv_X5_then : nv_fnV M_X5_then := ⟨List.mem_of_getElem? (i := 570) (by decide +kernel), List.mem_of_getElem? (i := 571) (by decide +kernel)⟩
def P_X5_then : nv_Pg := [(0, s_il 1 1), (1, s_ki (0) 2), (2, s_ki (60) 4), (4, s_cs M_X5_outside 3 7), (7, s_if c_eq 12 10), (10, s_ki (-1) 11), (11, s_ir), (12, s_al 0 13), (13, s_il 1 14), (14, s_cv 5 M_X5_foretell 1 17), (17, s_al 0 18), (18, s_gf 5 5 21), (21, s_cv 0 M_X0_fallenSet 0 24), (24, s_ir)]
set_option maxRecDepth 100000 in
set_option maxHeartbeats 4000000 in
theorem ok_X5_then : nv_ok_P M_X5_then P_X5_then :=
  nv_oc (n_iload_n (k := 1) (by decide +kernel)) <|
  nv_oc (n_iconst (z := 0) (by decide +kernel)) <|
  nv_oc (n_bipush (z := 60) (by decide +kernel) (by decide)) <|
  nv_oc (n_static (M' := M_X5_outside) (idx := 56) (n := 3) (by decide +kernel) fn_X5_outside st_X5_outside l_X5_56 ⟨by decide, by decide⟩) <|
  nv_oc (n_if_eq (off := 5) (tgt := 12) (by decide +kernel) (by decide)) <|
  nv_oc (n_iconst (z := -1) (by decide +kernel)) <|
  nv_oc (n_iret (by decide +kernel) rfl) <|
  nv_oc (n_aload_n (k := 0) (by decide +kernel)) <|
  nv_oc (n_iload_n (k := 1) (by decide +kernel)) <|
  nv_oc (n_virtual (M' := M_X5_foretell) (idx := 171) (n := 1) (ci := 5) (N := 10) (D := RX5) (T := TX5) (by decide +kernel) fn_X5_foretell fv_X5_foretell rfl rfl l_X5_171 ⟨by decide, by decide⟩) <|
  nv_oc (n_aload_n (k := 0) (by decide +kernel)) <|
  nv_oc (n_getfield (idx := 29) (ci := 5) (k := 5) (N := 10) (D := RX5) (T := TX5) (by decide +kernel) rfl i_X5 (by decide) (by decide) f_X5_29) <|
  nv_oc (n_virtual (M' := M_X0_fallenSet) (idx := 134) (n := 0) (ci := 0) (N := 11) (D := RX0) (T := TX0) (by decide +kernel) fn_X0_fallenSet fv_X0_fallenSet rfl rfl l_X5_134 ⟨by decide, by decide⟩) <|
  nv_oc (n_iret (by decide +kernel) rfl) <|
  nv_on
