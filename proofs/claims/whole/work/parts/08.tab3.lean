def M_X5_falls : nv_MD := (RX5, yX5_falls, cX5_falls, 3, (some .int), 3, 82)
theorem fn_X5_falls : nv_fn M_X5_falls 1 := ⟨List.mem_of_getElem? (i := 576) (by decide +kernel), List.mem_of_getElem? (i := 44) (by decide +kernel), by decide +kernel⟩
theorem fv_X5_falls : nv_fnV M_X5_falls := ⟨List.mem_of_getElem? (i := 574) (by decide +kernel), List.mem_of_getElem? (i := 575) (by decide +kernel)⟩
def P_X5_falls : nv_Pg := [(0, s_al 0 1), (1, s_il 1 2), (2, s_cv 5 M_X5_noPlank 1 5), (5, s_if c_eq 10 8), (8, s_ki (-1) 9), (9, s_ir), (10, s_al 0 11), (11, s_gf 5 5 14), (14, s_al 0 15), (15, s_gf 5 0 18), (18, s_cv 0 M_X0_takeAll 1 21), (21, s_ki (0) 22), (22, s_is 2 23), (23, s_il 2 24), (24, s_ki (60) 26), (26, s_ic c_gt 57 29), (29, s_al 0 30), (30, s_gf 5 5 33), (33, s_gf 0 6 36), (36, s_il 1 37), (37, s_ia 38), (38, s_if c_eq 41 43), (41, s_il 2 42), (42, s_ir), (43, s_al 0 44), (44, s_gf 5 5 47), (47, s_cv 0 M_X0_passHour 0 50), (50, s_pop 51), (51, s_inc 2 (1) 54), (54, s_go 23), (57, s_ki (-4) 59), (59, s_ir)]
set_option maxRecDepth 100000 in
set_option maxHeartbeats 4000000 in
theorem ok_X5_falls : nv_ok_P M_X5_falls P_X5_falls :=
  nv_oc (n_aload_n (k := 0) (by decide +kernel)) <|
  nv_oc (n_iload_n (k := 1) (by decide +kernel)) <|
  nv_oc (n_virtual (M' := M_X5_noPlank) (idx := 70) (n := 1) (ci := 5) (N := 10) (D := RX5) (T := TX5) (by decide +kernel) fn_X5_noPlank fv_X5_noPlank rfl rfl l_X5_70 ⟨by decide, by decide⟩) <|
  nv_oc (n_if_eq (off := 5) (tgt := 10) (by decide +kernel) (by decide)) <|
  nv_oc (n_iconst (z := -1) (by decide +kernel)) <|
  nv_oc (n_iret (by decide +kernel) rfl) <|
  nv_oc (n_aload_n (k := 0) (by decide +kernel)) <|
  nv_oc (n_getfield (idx := 29) (ci := 5) (k := 5) (N := 10) (D := RX5) (T := TX5) (by decide +kernel) rfl i_X5 (by decide) (by decide) f_X5_29) <|
  nv_oc (n_aload_n (k := 0) (by decide +kernel)) <|
  nv_oc (n_getfield (idx := 12) (ci := 5) (k := 0) (N := 10) (D := RX5) (T := TX5) (by decide +kernel) rfl i_X5 (by decide) (by decide) f_X5_12) <|
  nv_oc (n_virtual (M' := M_X0_takeAll) (idx := 121) (n := 1) (ci := 0) (N := 11) (D := RX0) (T := TX0) (by decide +kernel) fn_X0_takeAll fv_X0_takeAll rfl rfl l_X5_121 ⟨by decide, by decide⟩) <|
  nv_oc (n_iconst (z := 0) (by decide +kernel)) <|
  nv_oc (n_istore_n (k := 2) (by decide +kernel) (by decide)) <|
  nv_oc (n_iload_n (k := 2) (by decide +kernel)) <|
  nv_oc (n_bipush (z := 60) (by decide +kernel) (by decide)) <|
  nv_oc (n_icmp_gt (off := 31) (tgt := 57) (by decide +kernel) (by decide)) <|
  nv_oc (n_aload_n (k := 0) (by decide +kernel)) <|
  nv_oc (n_getfield (idx := 29) (ci := 5) (k := 5) (N := 10) (D := RX5) (T := TX5) (by decide +kernel) rfl i_X5 (by decide) (by decide) f_X5_29) <|
  nv_oc (n_getfield (idx := 81) (ci := 0) (k := 6) (N := 11) (D := RX0) (T := TX0) (by decide +kernel) rfl i_X0 (by decide) (by decide) f_X5_81) <|
  nv_oc (n_iload_n (k := 1) (by decide +kernel)) <|
  nv_oc (n_iaload (by decide +kernel)) <|
  nv_oc (n_if_ne (off := 5) (tgt := 43) (by decide +kernel) (by decide)) <|
  nv_oc (n_iload_n (k := 2) (by decide +kernel)) <|
  nv_oc (n_iret (by decide +kernel) rfl) <|
  nv_oc (n_aload_n (k := 0) (by decide +kernel)) <|
  nv_oc (n_getfield (idx := 29) (ci := 5) (k := 5) (N := 10) (D := RX5) (T := TX5) (by decide +kernel) rfl i_X5 (by decide) (by decide) f_X5_29) <|
  nv_oc (n_virtual (M' := M_X0_passHour) (idx := 150) (n := 0) (ci := 0) (N := 11) (D := RX0) (T := TX0) (by decide +kernel) fn_X0_passHour fv_X0_passHour rfl rfl l_X5_150 ⟨by decide, by decide⟩) <|
  nv_oc (n_pop (by decide +kernel)) <|
  nv_oc (n_iinc (k := 2) (d := 1) (by decide +kernel) (by decide)) <|
  nv_oc (n_goto (off := -31) (tgt := 23) (by decide +kernel) (by decide)) <|
  nv_oc (n_bipush (z := -4) (by decide +kernel) (by decide)) <|
  nv_oc (n_iret (by decide +kernel) rfl) <|
  nv_on
def M_X5_orNone : nv_MD := (RX5, yX5_orNone, cX5_orNone, 1, (some .int), 0, 0)
theorem fn_X5_orNone : nv_fn M_X5_orNone 1 := ⟨List.mem_of_getElem? (i := 596) (by decide +kernel), List.mem_of_getElem? (i := 44) (by decide +kernel), by decide +kernel⟩
theorem st_X5_orNone : Cond.static (nv_y M_X5_orNone) ∈ lw_tbl := List.mem_of_getElem? (i := 595) (by decide +kernel)
def P_X5_orNone : nv_Pg := [(0, s_il 0 1), (1, s_ki (61) 3), (3, s_ic c_eq 6 11), (6, s_ki (-4) 8), (8, s_go 12), (11, s_il 0 12), (12, s_ir)]
set_option maxRecDepth 100000 in
set_option maxHeartbeats 4000000 in
theorem ok_X5_orNone : nv_ok_P M_X5_orNone P_X5_orNone :=
  nv_oc (n_iload_n (k := 0) (by decide +kernel)) <|
  nv_oc (n_bipush (z := 61) (by decide +kernel) (by decide)) <|
  nv_oc (n_icmp_ne (off := 8) (tgt := 11) (by decide +kernel) (by decide)) <|
  nv_oc (n_bipush (z := -4) (by decide +kernel) (by decide)) <|
  nv_oc (n_goto (off := 4) (tgt := 12) (by decide +kernel) (by decide)) <|
  nv_oc (n_iload_n (k := 0) (by decide +kernel)) <|
  nv_oc (n_iret (by decide +kernel) rfl) <|
  nv_on
def M_X5_noonOfTrial : nv_MD := (RX5, yX5_noonOfTrial, cX5_noonOfTrial, 1, (some .int), 4, 96)
theorem fn_X5_noonOfTrial : nv_fn M_X5_noonOfTrial 0 := ⟨List.mem_of_getElem? (i := 584) (by decide +kernel), List.mem_of_getElem? (i := 44) (by decide +kernel), by decide +kernel⟩
theorem fv_X5_noonOfTrial : nv_fnV M_X5_noonOfTrial := ⟨List.mem_of_getElem? (i := 583) (by decide +kernel), List.mem_of_getElem? (i := 16) (by decide +kernel)⟩
def P_X5_noonOfTrial : nv_Pg := [(0, s_al 0 1), (1, s_gf 5 5 4), (4, s_ki (60) 6), (6, s_al 0 7), (7, s_gf 5 5 10), (10, s_cv 0 M_X0_mostCut 0 13), (13, s_cv 0 M_X0_noonWithin 2 16), (16, s_cs M_X5_orNone 1 19), (19, s_ir)]
set_option maxRecDepth 100000 in
set_option maxHeartbeats 4000000 in
theorem ok_X5_noonOfTrial : nv_ok_P M_X5_noonOfTrial P_X5_noonOfTrial :=
  nv_oc (n_aload_n (k := 0) (by decide +kernel)) <|
  nv_oc (n_getfield (idx := 29) (ci := 5) (k := 5) (N := 10) (D := RX5) (T := TX5) (by decide +kernel) rfl i_X5 (by decide) (by decide) f_X5_29) <|
  nv_oc (n_bipush (z := 60) (by decide +kernel) (by decide)) <|
  nv_oc (n_aload_n (k := 0) (by decide +kernel)) <|
  nv_oc (n_getfield (idx := 29) (ci := 5) (k := 5) (N := 10) (D := RX5) (T := TX5) (by decide +kernel) rfl i_X5 (by decide) (by decide) f_X5_29) <|
  nv_oc (n_virtual (M' := M_X0_mostCut) (idx := 263) (n := 0) (ci := 0) (N := 11) (D := RX0) (T := TX0) (by decide +kernel) fn_X0_mostCut fv_X0_mostCut rfl rfl l_X5_263 ⟨by decide, by decide⟩) <|
  nv_oc (n_virtual (M' := M_X0_noonWithin) (idx := 266) (n := 2) (ci := 0) (N := 11) (D := RX0) (T := TX0) (by decide +kernel) fn_X0_noonWithin fv_X0_noonWithin rfl rfl l_X5_266 ⟨by decide, by decide⟩) <|
  nv_oc (n_static (M' := M_X5_orNone) (idx := 188) (n := 1) (by decide +kernel) fn_X5_orNone st_X5_orNone l_X5_188 ⟨by decide, by decide⟩) <|
  nv_oc (n_iret (by decide +kernel) rfl) <|
  nv_on
def M_X5_noon : nv_MD := (RX5, yX5_noon, cX5_noon, 1, (some .int), 5, 116)
theorem fn_X5_noon : nv_fn M_X5_noon 0 := ⟨List.mem_of_getElem? (i := 580) (by decide +kernel), List.mem_of_getElem? (i := 44) (by decide +kernel), by decide +kernel⟩
theorem fv_X5_noon : nv_fnV M_X5_noon := ⟨List.mem_of_getElem? (i := 578) (by decide +kernel), List.mem_of_getElem? (i := 579) (by decide +kernel)⟩
def P_X5_noon : nv_Pg := [(0, s_al 0 1), (1, s_gf 5 5 4), (4, s_al 0 5), (5, s_gf 5 0 8), (8, s_cv 0 M_X0_takeAll 1 11), (11, s_al 0 12), (12, s_cv 5 M_X5_noonOfTrial 0 15), (15, s_ir)]
set_option maxRecDepth 100000 in
set_option maxHeartbeats 4000000 in
theorem ok_X5_noon : nv_ok_P M_X5_noon P_X5_noon :=
  nv_oc (n_aload_n (k := 0) (by decide +kernel)) <|
  nv_oc (n_getfield (idx := 29) (ci := 5) (k := 5) (N := 10) (D := RX5) (T := TX5) (by decide +kernel) rfl i_X5 (by decide) (by decide) f_X5_29) <|
  nv_oc (n_aload_n (k := 0) (by decide +kernel)) <|
  nv_oc (n_getfield (idx := 12) (ci := 5) (k := 0) (N := 10) (D := RX5) (T := TX5) (by decide +kernel) rfl i_X5 (by decide) (by decide) f_X5_12) <|
  nv_oc (n_virtual (M' := M_X0_takeAll) (idx := 121) (n := 1) (ci := 0) (N := 11) (D := RX0) (T := TX0) (by decide +kernel) fn_X0_takeAll fv_X0_takeAll rfl rfl l_X5_121 ⟨by decide, by decide⟩) <|
  nv_oc (n_aload_n (k := 0) (by decide +kernel)) <|
  nv_oc (n_virtual (M' := M_X5_noonOfTrial) (idx := 175) (n := 0) (ci := 5) (N := 10) (D := RX5) (T := TX5) (by decide +kernel) fn_X5_noonOfTrial fv_X5_noonOfTrial rfl rfl l_X5_175 ⟨by decide, by decide⟩) <|
  nv_oc (n_iret (by decide +kernel) rfl) <|
  nv_on
def M_X5_nothingToSet : nv_MD := (RX5, yX5_nothingToSet, cX5_nothingToSet, 1, (some .boolean), 0, 0)
theorem fn_X5_nothingToSet : nv_fn M_X5_nothingToSet 0 := ⟨List.mem_of_getElem? (i := 604) (by decide +kernel), List.mem_of_getElem? (i := 44) (by decide +kernel), by decide +kernel⟩
theorem fv_X5_nothingToSet : nv_fnV M_X5_nothingToSet := ⟨List.mem_of_getElem? (i := 603) (by decide +kernel), List.mem_of_getElem? (i := 17) (by decide +kernel)⟩
def P_X5_nothingToSet : nv_Pg := [(0, s_al 0 1), (1, s_gf 5 0 4), (4, s_gf 0 0 7), (7, s_if c_eq 20 10), (10, s_al 0 11), (11, s_gf 5 0 14), (14, s_gf 0 1 17), (17, s_if c_eq 20 24), (20, s_ki (1) 21), (21, s_go 25), (24, s_ki (0) 25), (25, s_zr)]
set_option maxRecDepth 100000 in
set_option maxHeartbeats 4000000 in
theorem ok_X5_nothingToSet : nv_ok_P M_X5_nothingToSet P_X5_nothingToSet :=
  nv_oc (n_aload_n (k := 0) (by decide +kernel)) <|
  nv_oc (n_getfield (idx := 12) (ci := 5) (k := 0) (N := 10) (D := RX5) (T := TX5) (by decide +kernel) rfl i_X5 (by decide) (by decide) f_X5_12) <|
  nv_oc (n_getfield (idx := 125) (ci := 0) (k := 0) (N := 11) (D := RX0) (T := TX0) (by decide +kernel) rfl i_X0 (by decide) (by decide) f_X5_125) <|
  nv_oc (n_if_eq (off := 13) (tgt := 20) (by decide +kernel) (by decide)) <|
  nv_oc (n_aload_n (k := 0) (by decide +kernel)) <|
  nv_oc (n_getfield (idx := 12) (ci := 5) (k := 0) (N := 10) (D := RX5) (T := TX5) (by decide +kernel) rfl i_X5 (by decide) (by decide) f_X5_12) <|
  nv_oc (n_getfield (idx := 128) (ci := 0) (k := 1) (N := 11) (D := RX0) (T := TX0) (by decide +kernel) rfl i_X0 (by decide) (by decide) f_X5_128) <|
  nv_oc (n_if_ne (off := 7) (tgt := 24) (by decide +kernel) (by decide)) <|
  nv_oc (n_iconst (z := 1) (by decide +kernel)) <|
  nv_oc (n_goto (off := 4) (tgt := 25) (by decide +kernel) (by decide)) <|
  nv_oc (n_iconst (z := 0) (by decide +kernel)) <|
  nv_oc (n_zret (by decide +kernel) rfl) <|
  nv_on
def M_X5_best : nv_MD := (RX5, yX5_best, cX5_best, 2, (some .int), 6, 145)
theorem fn_X5_best : nv_fn M_X5_best 1 := ⟨List.mem_of_getElem? (i := 600) (by decide +kernel), List.mem_of_getElem? (i := 44) (by decide +kernel), by decide +kernel⟩
theorem fv_X5_best : nv_fnV M_X5_best := ⟨List.mem_of_getElem? (i := 598) (by decide +kernel), List.mem_of_getElem? (i := 599) (by decide +kernel)⟩
def P_X5_best : nv_Pg := [(0, s_il 1 1), (1, s_ki (-2) 3), (3, s_al 0 4), (4, s_gf 5 0 7), (7, s_gf 0 1 10), (10, s_ki (1) 11), (11, s_sub 12), (12, s_cs M_X5_outside 3 15), (15, s_if c_eq 20 18), (18, s_ki (-1) 19), (19, s_ir), (20, s_al 0 21), (21, s_cv 5 M_X5_nothingToSet 0 24), (24, s_if c_eq 30 27), (27, s_ki (-4) 29), (29, s_ir), (30, s_al 0 31), (31, s_gf 5 6 34), (34, s_al 0 35), (35, s_gf 5 0 38), (38, s_ki (0) 39), (39, s_al 0 40), (40, s_gf 5 5 43), (43, s_cv 2 M_X2_make 3 46), (46, s_il 1 47), (47, s_ki (-1) 48), (48, s_ic c_eq 51 64), (51, s_al 0 52), (52, s_gf 5 6 55), (55, s_gf 2 5 58), (58, s_cs M_X5_orNone 1 61), (61, s_go 72), (64, s_al 0 65), (65, s_gf 5 6 68), (68, s_il 1 69), (69, s_cv 2 M_X2_told 1 72), (72, s_ir)]
set_option maxRecDepth 100000 in
set_option maxHeartbeats 4000000 in
theorem ok_X5_best : nv_ok_P M_X5_best P_X5_best :=
  nv_oc (n_iload_n (k := 1) (by decide +kernel)) <|
  nv_oc (n_bipush (z := -2) (by decide +kernel) (by decide)) <|
  nv_oc (n_aload_n (k := 0) (by decide +kernel)) <|
  nv_oc (n_getfield (idx := 12) (ci := 5) (k := 0) (N := 10) (D := RX5) (T := TX5) (by decide +kernel) rfl i_X5 (by decide) (by decide) f_X5_12) <|
  nv_oc (n_getfield (idx := 128) (ci := 0) (k := 1) (N := 11) (D := RX0) (T := TX0) (by decide +kernel) rfl i_X0 (by decide) (by decide) f_X5_128) <|
  nv_oc (n_iconst (z := 1) (by decide +kernel)) <|
  nv_oc (n_isub (by decide +kernel)) <|
  nv_oc (n_static (M' := M_X5_outside) (idx := 56) (n := 3) (by decide +kernel) fn_X5_outside st_X5_outside l_X5_56 ⟨by decide, by decide⟩) <|
  nv_oc (n_if_eq (off := 5) (tgt := 20) (by decide +kernel) (by decide)) <|
  nv_oc (n_iconst (z := -1) (by decide +kernel)) <|
  nv_oc (n_iret (by decide +kernel) rfl) <|
  nv_oc (n_aload_n (k := 0) (by decide +kernel)) <|
  nv_oc (n_virtual (M' := M_X5_nothingToSet) (idx := 178) (n := 0) (ci := 5) (N := 10) (D := RX5) (T := TX5) (by decide +kernel) fn_X5_nothingToSet fv_X5_nothingToSet rfl rfl l_X5_178 ⟨by decide, by decide⟩) <|
  nv_oc (n_if_eq (off := 6) (tgt := 30) (by decide +kernel) (by decide)) <|
  nv_oc (n_bipush (z := -4) (by decide +kernel) (by decide)) <|
  nv_oc (n_iret (by decide +kernel) rfl) <|
  nv_oc (n_aload_n (k := 0) (by decide +kernel)) <|
  nv_oc (n_getfield (idx := 35) (ci := 5) (k := 6) (N := 10) (D := RX5) (T := TX5) (by decide +kernel) rfl i_X5 (by decide) (by decide) f_X5_35) <|
  nv_oc (n_aload_n (k := 0) (by decide +kernel)) <|
  nv_oc (n_getfield (idx := 12) (ci := 5) (k := 0) (N := 10) (D := RX5) (T := TX5) (by decide +kernel) rfl i_X5 (by decide) (by decide) f_X5_12) <|
  nv_oc (n_iconst (z := 0) (by decide +kernel)) <|
  nv_oc (n_aload_n (k := 0) (by decide +kernel)) <|
  nv_oc (n_getfield (idx := 29) (ci := 5) (k := 5) (N := 10) (D := RX5) (T := TX5) (by decide +kernel) rfl i_X5 (by decide) (by decide) f_X5_29) <|
  nv_oc (n_virtual (M' := M_X2_make) (idx := 181) (n := 3) (ci := 2) (N := 8) (D := RX2) (T := TX2) (by decide +kernel) fn_X2_make fv_X2_make rfl rfl l_X5_181 ⟨by decide, by decide⟩) <|
  nv_oc (n_iload_n (k := 1) (by decide +kernel)) <|
  nv_oc (n_iconst (z := -1) (by decide +kernel)) <|
  nv_oc (n_icmp_ne (off := 16) (tgt := 64) (by decide +kernel) (by decide)) <|
  nv_oc (n_aload_n (k := 0) (by decide +kernel)) <|
  nv_oc (n_getfield (idx := 35) (ci := 5) (k := 6) (N := 10) (D := RX5) (T := TX5) (by decide +kernel) rfl i_X5 (by decide) (by decide) f_X5_35) <|
  nv_oc (n_getfield (idx := 185) (ci := 2) (k := 5) (N := 8) (D := RX2) (T := TX2) (by decide +kernel) rfl i_X2 (by decide) (by decide) f_X5_185) <|
  nv_oc (n_static (M' := M_X5_orNone) (idx := 188) (n := 1) (by decide +kernel) fn_X5_orNone st_X5_orNone l_X5_188 ⟨by decide, by decide⟩) <|
  nv_oc (n_goto (off := 11) (tgt := 72) (by decide +kernel) (by decide)) <|
  nv_oc (n_aload_n (k := 0) (by decide +kernel)) <|
  nv_oc (n_getfield (idx := 35) (ci := 5) (k := 6) (N := 10) (D := RX5) (T := TX5) (by decide +kernel) rfl i_X5 (by decide) (by decide) f_X5_35) <|
  nv_oc (n_iload_n (k := 1) (by decide +kernel)) <|
  nv_oc (n_virtual (M' := M_X2_told) (idx := 191) (n := 1) (ci := 2) (N := 8) (D := RX2) (T := TX2) (by decide +kernel) fn_X2_told fv_X2_told rfl rfl l_X5_191 ⟨by decide, by decide⟩) <|
  nv_oc (n_iret (by decide +kernel) rfl) <|
  nv_on
def M_X5_most : nv_MD := (RX5, yX5_most, cX5_most, 3, (some .int), 6, 145)
theorem fn_X5_most : nv_fn M_X5_most 2 := ⟨List.mem_of_getElem? (i := 652) (by decide +kernel), List.mem_of_getElem? (i := 44) (by decide +kernel), by decide +kernel⟩
theorem fv_X5_most : nv_fnV M_X5_most := ⟨List.mem_of_getElem? (i := 650) (by decide +kernel), List.mem_of_getElem? (i := 651) (by decide +kernel)⟩
def P_X5_most : nv_Pg := [(0, s_il 1 1), (1, s_ki (1) 2), (2, s_ki (30) 4), (4, s_cs M_X5_outside 3 7), (7, s_if c_eq 10 28), (10, s_il 2 11), (11, s_ki (-2) 13), (13, s_al 0 14), (14, s_gf 5 0 17), (17, s_gf 0 1 20), (20, s_ki (1) 21), (21, s_sub 22), (22, s_cs M_X5_outside 3 25), (25, s_if c_eq 30 28), (28, s_ki (-1) 29), (29, s_ir), (30, s_al 0 31), (31, s_cv 5 M_X5_nothingToSet 0 34), (34, s_if c_eq 40 37), (37, s_ki (-4) 39), (39, s_ir), (40, s_al 0 41), (41, s_gf 5 7 44), (44, s_al 0 45), (45, s_gf 5 0 48), (48, s_il 1 49), (49, s_al 0 50), (50, s_gf 5 5 53), (53, s_cv 2 M_X2_make 3 56), (56, s_il 2 57), (57, s_ki (-1) 58), (58, s_ic c_eq 61 79), (61, s_al 0 62), (62, s_gf 5 0 65), (65, s_gf 0 0 68), (68, s_al 0 69), (69, s_gf 5 7 72), (72, s_gf 2 5 75), (75, s_sub 76), (76, s_go 87), (79, s_al 0 80), (80, s_gf 5 7 83), (83, s_il 2 84), (84, s_cv 2 M_X2_told 1 87), (87, s_ir)]
set_option maxRecDepth 100000 in
set_option maxHeartbeats 4000000 in
theorem ok_X5_most : nv_ok_P M_X5_most P_X5_most :=
  nv_oc (n_iload_n (k := 1) (by decide +kernel)) <|
  nv_oc (n_iconst (z := 1) (by decide +kernel)) <|
  nv_oc (n_bipush (z := 30) (by decide +kernel) (by decide)) <|
  nv_oc (n_static (M' := M_X5_outside) (idx := 56) (n := 3) (by decide +kernel) fn_X5_outside st_X5_outside l_X5_56 ⟨by decide, by decide⟩) <|
  nv_oc (n_if_ne (off := 21) (tgt := 28) (by decide +kernel) (by decide)) <|
  nv_oc (n_iload_n (k := 2) (by decide +kernel)) <|
  nv_oc (n_bipush (z := -2) (by decide +kernel) (by decide)) <|
  nv_oc (n_aload_n (k := 0) (by decide +kernel)) <|
  nv_oc (n_getfield (idx := 12) (ci := 5) (k := 0) (N := 10) (D := RX5) (T := TX5) (by decide +kernel) rfl i_X5 (by decide) (by decide) f_X5_12) <|
  nv_oc (n_getfield (idx := 128) (ci := 0) (k := 1) (N := 11) (D := RX0) (T := TX0) (by decide +kernel) rfl i_X0 (by decide) (by decide) f_X5_128) <|
  nv_oc (n_iconst (z := 1) (by decide +kernel)) <|
  nv_oc (n_isub (by decide +kernel)) <|
  nv_oc (n_static (M' := M_X5_outside) (idx := 56) (n := 3) (by decide +kernel) fn_X5_outside st_X5_outside l_X5_56 ⟨by decide, by decide⟩) <|
  nv_oc (n_if_eq (off := 5) (tgt := 30) (by decide +kernel) (by decide)) <|
  nv_oc (n_iconst (z := -1) (by decide +kernel)) <|
  nv_oc (n_iret (by decide +kernel) rfl) <|
  nv_oc (n_aload_n (k := 0) (by decide +kernel)) <|
  nv_oc (n_virtual (M' := M_X5_nothingToSet) (idx := 178) (n := 0) (ci := 5) (N := 10) (D := RX5) (T := TX5) (by decide +kernel) fn_X5_nothingToSet fv_X5_nothingToSet rfl rfl l_X5_178 ⟨by decide, by decide⟩) <|
  nv_oc (n_if_eq (off := 6) (tgt := 40) (by decide +kernel) (by decide)) <|
  nv_oc (n_bipush (z := -4) (by decide +kernel) (by decide)) <|
  nv_oc (n_iret (by decide +kernel) rfl) <|
  nv_oc (n_aload_n (k := 0) (by decide +kernel)) <|
  nv_oc (n_getfield (idx := 39) (ci := 5) (k := 7) (N := 10) (D := RX5) (T := TX5) (by decide +kernel) rfl i_X5 (by decide) (by decide) f_X5_39) <|
  nv_oc (n_aload_n (k := 0) (by decide +kernel)) <|
  nv_oc (n_getfield (idx := 12) (ci := 5) (k := 0) (N := 10) (D := RX5) (T := TX5) (by decide +kernel) rfl i_X5 (by decide) (by decide) f_X5_12) <|
  nv_oc (n_iload_n (k := 1) (by decide +kernel)) <|
  nv_oc (n_aload_n (k := 0) (by decide +kernel)) <|
  nv_oc (n_getfield (idx := 29) (ci := 5) (k := 5) (N := 10) (D := RX5) (T := TX5) (by decide +kernel) rfl i_X5 (by decide) (by decide) f_X5_29) <|
  nv_oc (n_virtual (M' := M_X2_make) (idx := 181) (n := 3) (ci := 2) (N := 8) (D := RX2) (T := TX2) (by decide +kernel) fn_X2_make fv_X2_make rfl rfl l_X5_181 ⟨by decide, by decide⟩) <|
  nv_oc (n_iload_n (k := 2) (by decide +kernel)) <|
  nv_oc (n_iconst (z := -1) (by decide +kernel)) <|
  nv_oc (n_icmp_ne (off := 21) (tgt := 79) (by decide +kernel) (by decide)) <|
  nv_oc (n_aload_n (k := 0) (by decide +kernel)) <|
  nv_oc (n_getfield (idx := 12) (ci := 5) (k := 0) (N := 10) (D := RX5) (T := TX5) (by decide +kernel) rfl i_X5 (by decide) (by decide) f_X5_12) <|
  nv_oc (n_getfield (idx := 125) (ci := 0) (k := 0) (N := 11) (D := RX0) (T := TX0) (by decide +kernel) rfl i_X0 (by decide) (by decide) f_X5_125) <|
  nv_oc (n_aload_n (k := 0) (by decide +kernel)) <|
  nv_oc (n_getfield (idx := 39) (ci := 5) (k := 7) (N := 10) (D := RX5) (T := TX5) (by decide +kernel) rfl i_X5 (by decide) (by decide) f_X5_39) <|
  nv_oc (n_getfield (idx := 185) (ci := 2) (k := 5) (N := 8) (D := RX2) (T := TX2) (by decide +kernel) rfl i_X2 (by decide) (by decide) f_X5_185) <|
  nv_oc (n_isub (by decide +kernel)) <|
  nv_oc (n_goto (off := 11) (tgt := 87) (by decide +kernel) (by decide)) <|
  nv_oc (n_aload_n (k := 0) (by decide +kernel)) <|
  nv_oc (n_getfield (idx := 39) (ci := 5) (k := 7) (N := 10) (D := RX5) (T := TX5) (by decide +kernel) rfl i_X5 (by decide) (by decide) f_X5_39) <|
  nv_oc (n_iload_n (k := 2) (by decide +kernel)) <|
  nv_oc (n_virtual (M' := M_X2_told) (idx := 191) (n := 1) (ci := 2) (N := 8) (D := RX2) (T := TX2) (by decide +kernel) fn_X2_told fv_X2_told rfl rfl l_X5_191 ⟨by decide, by decide⟩) <|
  nv_oc (n_iret (by decide +kernel) rfl) <|
  nv_on
def M_X5_sharp : nv_MD := (RX5, yX5_sharp, cX5_sharp, 7, (some .int), 4, 94)
theorem fn_X5_sharp : nv_fn M_X5_sharp 2 := ⟨List.mem_of_getElem? (i := 656) (by decide +kernel), List.mem_of_getElem? (i := 44) (by decide +kernel), by decide +kernel⟩
theorem fv_X5_sharp : nv_fnV M_X5_sharp := ⟨List.mem_of_getElem? (i := 654) (by decide +kernel), List.mem_of_getElem? (i := 655) (by decide +kernel)⟩
def P_X5_sharp : nv_Pg := [(0, s_il 1 1), (1, s_ki (1) 2), (2, s_ki (40) 4), (4, s_cs M_X5_outside 3 7), (7, s_if c_eq 10 19), (10, s_il 2 11), (11, s_ki (0) 12), (12, s_ki (1) 13), (13, s_cs M_X5_outside 3 16), (16, s_if c_eq 21 19), (19, s_ki (-1) 20), (20, s_ir), (21, s_ki (-4) 23), (23, s_is 3 24), (24, s_ki (-4) 26), (26, s_is 4 28), (28, s_ki (0) 29), (29, s_is 5 31), (31, s_il 5 33), (33, s_al 0 34), (34, s_gf 5 0 37), (37, s_gf 0 1 40), (40, s_ic c_ge 107 43), (43, s_al 0 44), (44, s_gf 5 5 47), (47, s_al 0 48), (48, s_gf 5 0 51), (51, s_cv 0 M_X0_takeAll 1 54), (54, s_al 0 55), (55, s_gf 5 5 58), (58, s_il 5 60), (60, s_ki (3) 61), (61, s_cv 0 M_X0_addTeeth 2 64), (64, s_al 0 65), (65, s_gf 5 5 68), (68, s_il 1 69), (69, s_cv 0 M_X0_passHours 1 72), (72, s_al 0 73), (73, s_gf 5 5 76), (76, s_cv 0 M_X0_leftOfAll 0 79), (79, s_is 6 81), (81, s_il 3 82), (82, s_ki (-4) 84), (84, s_ic c_eq 94 87), (87, s_il 6 89), (89, s_il 4 91), (91, s_ic c_ge 101 94), (94, s_il 5 96), (96, s_is 3 97), (97, s_il 6 99), (99, s_is 4 101), (101, s_inc 5 (1) 104), (104, s_go 31), (107, s_il 2 108), (108, s_if c_eq 111 115), (111, s_il 3 112), (112, s_go 117), (115, s_il 4 117), (117, s_ir)]
set_option maxRecDepth 100000 in
set_option maxHeartbeats 4000000 in
theorem ok_X5_sharp : nv_ok_P M_X5_sharp P_X5_sharp :=
  nv_oc (n_iload_n (k := 1) (by decide +kernel)) <|
  nv_oc (n_iconst (z := 1) (by decide +kernel)) <|
  nv_oc (n_bipush (z := 40) (by decide +kernel) (by decide)) <|
  nv_oc (n_static (M' := M_X5_outside) (idx := 56) (n := 3) (by decide +kernel) fn_X5_outside st_X5_outside l_X5_56 ⟨by decide, by decide⟩) <|
  nv_oc (n_if_ne (off := 12) (tgt := 19) (by decide +kernel) (by decide)) <|
  nv_oc (n_iload_n (k := 2) (by decide +kernel)) <|
  nv_oc (n_iconst (z := 0) (by decide +kernel)) <|
  nv_oc (n_iconst (z := 1) (by decide +kernel)) <|
  nv_oc (n_static (M' := M_X5_outside) (idx := 56) (n := 3) (by decide +kernel) fn_X5_outside st_X5_outside l_X5_56 ⟨by decide, by decide⟩) <|
  nv_oc (n_if_eq (off := 5) (tgt := 21) (by decide +kernel) (by decide)) <|
  nv_oc (n_iconst (z := -1) (by decide +kernel)) <|
  nv_oc (n_iret (by decide +kernel) rfl) <|
  nv_oc (n_bipush (z := -4) (by decide +kernel) (by decide)) <|
  nv_oc (n_istore_n (k := 3) (by decide +kernel) (by decide)) <|
  nv_oc (n_bipush (z := -4) (by decide +kernel) (by decide)) <|
  nv_oc (n_istore (k := 4) (by decide +kernel) (by decide)) <|
  nv_oc (n_iconst (z := 0) (by decide +kernel)) <|
  nv_oc (n_istore (k := 5) (by decide +kernel) (by decide)) <|
  nv_oc (n_iload (k := 5) (by decide +kernel)) <|
  nv_oc (n_aload_n (k := 0) (by decide +kernel)) <|
  nv_oc (n_getfield (idx := 12) (ci := 5) (k := 0) (N := 10) (D := RX5) (T := TX5) (by decide +kernel) rfl i_X5 (by decide) (by decide) f_X5_12) <|
  nv_oc (n_getfield (idx := 128) (ci := 0) (k := 1) (N := 11) (D := RX0) (T := TX0) (by decide +kernel) rfl i_X0 (by decide) (by decide) f_X5_128) <|
  nv_oc (n_icmp_ge (off := 67) (tgt := 107) (by decide +kernel) (by decide)) <|
  nv_oc (n_aload_n (k := 0) (by decide +kernel)) <|
  nv_oc (n_getfield (idx := 29) (ci := 5) (k := 5) (N := 10) (D := RX5) (T := TX5) (by decide +kernel) rfl i_X5 (by decide) (by decide) f_X5_29) <|
  nv_oc (n_aload_n (k := 0) (by decide +kernel)) <|
  nv_oc (n_getfield (idx := 12) (ci := 5) (k := 0) (N := 10) (D := RX5) (T := TX5) (by decide +kernel) rfl i_X5 (by decide) (by decide) f_X5_12) <|
  nv_oc (n_virtual (M' := M_X0_takeAll) (idx := 121) (n := 1) (ci := 0) (N := 11) (D := RX0) (T := TX0) (by decide +kernel) fn_X0_takeAll fv_X0_takeAll rfl rfl l_X5_121 ⟨by decide, by decide⟩) <|
  nv_oc (n_aload_n (k := 0) (by decide +kernel)) <|
  nv_oc (n_getfield (idx := 29) (ci := 5) (k := 5) (N := 10) (D := RX5) (T := TX5) (by decide +kernel) rfl i_X5 (by decide) (by decide) f_X5_29) <|
  nv_oc (n_iload (k := 5) (by decide +kernel)) <|
  nv_oc (n_iconst (z := 3) (by decide +kernel)) <|
  nv_oc (n_virtual (M' := M_X0_addTeeth) (idx := 154) (n := 2) (ci := 0) (N := 11) (D := RX0) (T := TX0) (by decide +kernel) fn_X0_addTeeth fv_X0_addTeeth rfl rfl l_X5_154 ⟨by decide, by decide⟩) <|
  nv_oc (n_aload_n (k := 0) (by decide +kernel)) <|
  nv_oc (n_getfield (idx := 29) (ci := 5) (k := 5) (N := 10) (D := RX5) (T := TX5) (by decide +kernel) rfl i_X5 (by decide) (by decide) f_X5_29) <|
  nv_oc (n_iload_n (k := 1) (by decide +kernel)) <|
  nv_oc (n_virtual (M' := M_X0_passHours) (idx := 194) (n := 1) (ci := 0) (N := 11) (D := RX0) (T := TX0) (by decide +kernel) fn_X0_passHours fv_X0_passHours rfl rfl l_X5_194 ⟨by decide, by decide⟩) <|
  nv_oc (n_aload_n (k := 0) (by decide +kernel)) <|
  nv_oc (n_getfield (idx := 29) (ci := 5) (k := 5) (N := 10) (D := RX5) (T := TX5) (by decide +kernel) rfl i_X5 (by decide) (by decide) f_X5_29) <|
  nv_oc (n_virtual (M' := M_X0_leftOfAll) (idx := 138) (n := 0) (ci := 0) (N := 11) (D := RX0) (T := TX0) (by decide +kernel) fn_X0_leftOfAll fv_X0_leftOfAll rfl rfl l_X5_138 ⟨by decide, by decide⟩) <|
  nv_oc (n_istore (k := 6) (by decide +kernel) (by decide)) <|
  nv_oc (n_iload_n (k := 3) (by decide +kernel)) <|
  nv_oc (n_bipush (z := -4) (by decide +kernel) (by decide)) <|
  nv_oc (n_icmp_eq (off := 10) (tgt := 94) (by decide +kernel) (by decide)) <|
  nv_oc (n_iload (k := 6) (by decide +kernel)) <|
  nv_oc (n_iload (k := 4) (by decide +kernel)) <|
  nv_oc (n_icmp_ge (off := 10) (tgt := 101) (by decide +kernel) (by decide)) <|
  nv_oc (n_iload (k := 5) (by decide +kernel)) <|
  nv_oc (n_istore_n (k := 3) (by decide +kernel) (by decide)) <|
  nv_oc (n_iload (k := 6) (by decide +kernel)) <|
  nv_oc (n_istore (k := 4) (by decide +kernel) (by decide)) <|
  nv_oc (n_iinc (k := 5) (d := 1) (by decide +kernel) (by decide)) <|
  nv_oc (n_goto (off := -73) (tgt := 31) (by decide +kernel) (by decide)) <|
  nv_oc (n_iload_n (k := 2) (by decide +kernel)) <|
  nv_oc (n_if_ne (off := 7) (tgt := 115) (by decide +kernel) (by decide)) <|
  nv_oc (n_iload_n (k := 3) (by decide +kernel)) <|
  nv_oc (n_goto (off := 5) (tgt := 117) (by decide +kernel) (by decide)) <|
  nv_oc (n_iload (k := 4) (by decide +kernel)) <|
  nv_oc (n_iret (by decide +kernel) rfl) <|
  nv_on
def M_X5_without : nv_MD := (RX5, yX5_without, cX5_without, 2, (some .int), 5, 116)
theorem fn_X5_without : nv_fn M_X5_without 1 := ⟨List.mem_of_getElem? (i := 660) (by decide +kernel), List.mem_of_getElem? (i := 44) (by decide +kernel), by decide +kernel⟩
theorem fv_X5_without : nv_fnV M_X5_without := ⟨List.mem_of_getElem? (i := 658) (by decide +kernel), List.mem_of_getElem? (i := 659) (by decide +kernel)⟩
def P_X5_without : nv_Pg := [(0, s_al 0 1), (1, s_il 1 2), (2, s_cv 5 M_X5_noSawyer 1 5), (5, s_if c_eq 10 8), (8, s_ki (-1) 9), (9, s_ir), (10, s_al 0 11), (11, s_gf 5 5 14), (14, s_al 0 15), (15, s_gf 5 0 18), (18, s_cv 0 M_X0_takeAll 1 21), (21, s_al 0 22), (22, s_gf 5 5 25), (25, s_gf 0 9 28), (28, s_il 1 29), (29, s_ki (-4) 31), (31, s_iw 32), (32, s_al 0 33), (33, s_cv 5 M_X5_noonOfTrial 0 36), (36, s_ir)]
set_option maxRecDepth 100000 in
set_option maxHeartbeats 4000000 in
theorem ok_X5_without : nv_ok_P M_X5_without P_X5_without :=
  nv_oc (n_aload_n (k := 0) (by decide +kernel)) <|
  nv_oc (n_iload_n (k := 1) (by decide +kernel)) <|
  nv_oc (n_virtual (M' := M_X5_noSawyer) (idx := 91) (n := 1) (ci := 5) (N := 10) (D := RX5) (T := TX5) (by decide +kernel) fn_X5_noSawyer fv_X5_noSawyer rfl rfl l_X5_91 ⟨by decide, by decide⟩) <|
  nv_oc (n_if_eq (off := 5) (tgt := 10) (by decide +kernel) (by decide)) <|
  nv_oc (n_iconst (z := -1) (by decide +kernel)) <|
  nv_oc (n_iret (by decide +kernel) rfl) <|
  nv_oc (n_aload_n (k := 0) (by decide +kernel)) <|
  nv_oc (n_getfield (idx := 29) (ci := 5) (k := 5) (N := 10) (D := RX5) (T := TX5) (by decide +kernel) rfl i_X5 (by decide) (by decide) f_X5_29) <|
  nv_oc (n_aload_n (k := 0) (by decide +kernel)) <|
  nv_oc (n_getfield (idx := 12) (ci := 5) (k := 0) (N := 10) (D := RX5) (T := TX5) (by decide +kernel) rfl i_X5 (by decide) (by decide) f_X5_12) <|
  nv_oc (n_virtual (M' := M_X0_takeAll) (idx := 121) (n := 1) (ci := 0) (N := 11) (D := RX0) (T := TX0) (by decide +kernel) fn_X0_takeAll fv_X0_takeAll rfl rfl l_X5_121 ⟨by decide, by decide⟩) <|
  nv_oc (n_aload_n (k := 0) (by decide +kernel)) <|
  nv_oc (n_getfield (idx := 29) (ci := 5) (k := 5) (N := 10) (D := RX5) (T := TX5) (by decide +kernel) rfl i_X5 (by decide) (by decide) f_X5_29) <|
  nv_oc (n_getfield (idx := 100) (ci := 0) (k := 9) (N := 11) (D := RX0) (T := TX0) (by decide +kernel) rfl i_X0 (by decide) (by decide) f_X5_100) <|
  nv_oc (n_iload_n (k := 1) (by decide +kernel)) <|
  nv_oc (n_bipush (z := -4) (by decide +kernel) (by decide)) <|
  nv_oc (n_iastore (by decide +kernel)) <|
  nv_oc (n_aload_n (k := 0) (by decide +kernel)) <|
  nv_oc (n_virtual (M' := M_X5_noonOfTrial) (idx := 175) (n := 0) (ci := 5) (N := 10) (D := RX5) (T := TX5) (by decide +kernel) fn_X5_noonOfTrial fv_X5_noonOfTrial rfl rfl l_X5_175 ⟨by decide, by decide⟩) <|
  nv_oc (n_iret (by decide +kernel) rfl) <|
  nv_on
def M_X5_thickest : nv_MD := (RX5, yX5_thickest, cX5_thickest, 4, (some .int), 4, 94)
theorem fn_X5_thickest : nv_fn M_X5_thickest 2 := ⟨List.mem_of_getElem? (i := 664) (by decide +kernel), List.mem_of_getElem? (i := 44) (by decide +kernel), by decide +kernel⟩
theorem fv_X5_thickest : nv_fnV M_X5_thickest := ⟨List.mem_of_getElem? (i := 662) (by decide +kernel), List.mem_of_getElem? (i := 663) (by decide +kernel)⟩
def P_X5_thickest : nv_Pg := [(0, s_al 0 1), (1, s_il 1 2), (2, s_cv 5 M_X5_noPlank 1 5), (5, s_if c_eq 8 18), (8, s_il 2 9), (9, s_ki (1) 10), (10, s_ki (40) 12), (12, s_cs M_X5_outside 3 15), (15, s_if c_eq 20 18), (18, s_ki (-1) 19), (19, s_ir), (20, s_ki (99) 22), (22, s_is 3 23), (23, s_il 3 24), (24, s_if c_le 76 27), (27, s_al 0 28), (28, s_gf 5 5 31), (31, s_al 0 32), (32, s_gf 5 0 35), (35, s_cv 0 M_X0_takeAll 1 38), (38, s_al 0 39), (39, s_gf 5 5 42), (42, s_gf 0 6 45), (45, s_il 1 46), (46, s_il 3 47), (47, s_iw 48), (48, s_al 0 49), (49, s_gf 5 5 52), (52, s_il 2 53), (53, s_cv 0 M_X0_passHours 1 56), (56, s_al 0 57), (57, s_gf 5 5 60), (60, s_gf 0 6 63), (63, s_il 1 64), (64, s_ia 65), (65, s_if c_eq 68 70), (68, s_il 3 69), (69, s_ir), (70, s_inc 3 (-1) 73), (73, s_go 23), (76, s_ki (0) 77), (77, s_ir)]
set_option maxRecDepth 100000 in
set_option maxHeartbeats 4000000 in
theorem ok_X5_thickest : nv_ok_P M_X5_thickest P_X5_thickest :=
  nv_oc (n_aload_n (k := 0) (by decide +kernel)) <|
  nv_oc (n_iload_n (k := 1) (by decide +kernel)) <|
  nv_oc (n_virtual (M' := M_X5_noPlank) (idx := 70) (n := 1) (ci := 5) (N := 10) (D := RX5) (T := TX5) (by decide +kernel) fn_X5_noPlank fv_X5_noPlank rfl rfl l_X5_70 ⟨by decide, by decide⟩) <|
  nv_oc (n_if_ne (off := 13) (tgt := 18) (by decide +kernel) (by decide)) <|
  nv_oc (n_iload_n (k := 2) (by decide +kernel)) <|
  nv_oc (n_iconst (z := 1) (by decide +kernel)) <|
  nv_oc (n_bipush (z := 40) (by decide +kernel) (by decide)) <|
  nv_oc (n_static (M' := M_X5_outside) (idx := 56) (n := 3) (by decide +kernel) fn_X5_outside st_X5_outside l_X5_56 ⟨by decide, by decide⟩) <|
  nv_oc (n_if_eq (off := 5) (tgt := 20) (by decide +kernel) (by decide)) <|
  nv_oc (n_iconst (z := -1) (by decide +kernel)) <|
  nv_oc (n_iret (by decide +kernel) rfl) <|
  nv_oc (n_bipush (z := 99) (by decide +kernel) (by decide)) <|
  nv_oc (n_istore_n (k := 3) (by decide +kernel) (by decide)) <|
  nv_oc (n_iload_n (k := 3) (by decide +kernel)) <|
  nv_oc (n_if_le (off := 52) (tgt := 76) (by decide +kernel) (by decide)) <|
  nv_oc (n_aload_n (k := 0) (by decide +kernel)) <|
  nv_oc (n_getfield (idx := 29) (ci := 5) (k := 5) (N := 10) (D := RX5) (T := TX5) (by decide +kernel) rfl i_X5 (by decide) (by decide) f_X5_29) <|
  nv_oc (n_aload_n (k := 0) (by decide +kernel)) <|
  nv_oc (n_getfield (idx := 12) (ci := 5) (k := 0) (N := 10) (D := RX5) (T := TX5) (by decide +kernel) rfl i_X5 (by decide) (by decide) f_X5_12) <|
  nv_oc (n_virtual (M' := M_X0_takeAll) (idx := 121) (n := 1) (ci := 0) (N := 11) (D := RX0) (T := TX0) (by decide +kernel) fn_X0_takeAll fv_X0_takeAll rfl rfl l_X5_121 ⟨by decide, by decide⟩) <|
  nv_oc (n_aload_n (k := 0) (by decide +kernel)) <|
  nv_oc (n_getfield (idx := 29) (ci := 5) (k := 5) (N := 10) (D := RX5) (T := TX5) (by decide +kernel) rfl i_X5 (by decide) (by decide) f_X5_29) <|
  nv_oc (n_getfield (idx := 81) (ci := 0) (k := 6) (N := 11) (D := RX0) (T := TX0) (by decide +kernel) rfl i_X0 (by decide) (by decide) f_X5_81) <|
  nv_oc (n_iload_n (k := 1) (by decide +kernel)) <|
  nv_oc (n_iload_n (k := 3) (by decide +kernel)) <|
  nv_oc (n_iastore (by decide +kernel)) <|
  nv_oc (n_aload_n (k := 0) (by decide +kernel)) <|
  nv_oc (n_getfield (idx := 29) (ci := 5) (k := 5) (N := 10) (D := RX5) (T := TX5) (by decide +kernel) rfl i_X5 (by decide) (by decide) f_X5_29) <|
  nv_oc (n_iload_n (k := 2) (by decide +kernel)) <|
  nv_oc (n_virtual (M' := M_X0_passHours) (idx := 194) (n := 1) (ci := 0) (N := 11) (D := RX0) (T := TX0) (by decide +kernel) fn_X0_passHours fv_X0_passHours rfl rfl l_X5_194 ⟨by decide, by decide⟩) <|
  nv_oc (n_aload_n (k := 0) (by decide +kernel)) <|
  nv_oc (n_getfield (idx := 29) (ci := 5) (k := 5) (N := 10) (D := RX5) (T := TX5) (by decide +kernel) rfl i_X5 (by decide) (by decide) f_X5_29) <|
  nv_oc (n_getfield (idx := 81) (ci := 0) (k := 6) (N := 11) (D := RX0) (T := TX0) (by decide +kernel) rfl i_X0 (by decide) (by decide) f_X5_81) <|
  nv_oc (n_iload_n (k := 1) (by decide +kernel)) <|
  nv_oc (n_iaload (by decide +kernel)) <|
  nv_oc (n_if_ne (off := 5) (tgt := 70) (by decide +kernel) (by decide)) <|
  nv_oc (n_iload_n (k := 3) (by decide +kernel)) <|
  nv_oc (n_iret (by decide +kernel) rfl) <|
  nv_oc (n_iinc (k := 3) (d := -1) (by decide +kernel) (by decide)) <|
  nv_oc (n_goto (off := -50) (tgt := 23) (by decide +kernel) (by decide)) <|
  nv_oc (n_iconst (z := 0) (by decide +kernel)) <|
  nv_oc (n_iret (by decide +kernel) rfl) <|
  nv_on
def M_X5_sharedDivisor : nv_MD := (RX5, yX5_sharedDivisor, cX5_sharedDivisor, 6, (some .int), 1, 21)
theorem fn_X5_sharedDivisor : nv_fn M_X5_sharedDivisor 2 := ⟨List.mem_of_getElem? (i := 673) (by decide +kernel), List.mem_of_getElem? (i := 44) (by decide +kernel), by decide +kernel⟩
theorem st_X5_sharedDivisor : Cond.static (nv_y M_X5_sharedDivisor) ∈ lw_tbl := List.mem_of_getElem? (i := 672) (by decide +kernel)
def P_X5_sharedDivisor : nv_Pg := [(0, s_il 0 1), (1, s_is 2 2), (2, s_il 1 3), (3, s_is 3 4), (4, s_ki (0) 5), (5, s_is 4 7), (7, s_il 4 9), (9, s_ki (64) 11), (11, s_ic c_ge 34 14), (14, s_il 3 15), (15, s_if c_eq 34 18), (18, s_il 2 19), (19, s_il 3 20), (20, s_rem 21), (21, s_is 5 23), (23, s_il 3 24), (24, s_is 2 25), (25, s_il 5 27), (27, s_is 3 28), (28, s_inc 4 (1) 31), (31, s_go 7), (34, s_ki (1) 35), (35, s_il 2 36), (36, s_max 39), (39, s_ir)]
set_option maxRecDepth 100000 in
set_option maxHeartbeats 4000000 in
theorem ok_X5_sharedDivisor : nv_ok_P M_X5_sharedDivisor P_X5_sharedDivisor :=
  nv_oc (n_iload_n (k := 0) (by decide +kernel)) <|
  nv_oc (n_istore_n (k := 2) (by decide +kernel) (by decide)) <|
  nv_oc (n_iload_n (k := 1) (by decide +kernel)) <|
  nv_oc (n_istore_n (k := 3) (by decide +kernel) (by decide)) <|
  nv_oc (n_iconst (z := 0) (by decide +kernel)) <|
  nv_oc (n_istore (k := 4) (by decide +kernel) (by decide)) <|
  nv_oc (n_iload (k := 4) (by decide +kernel)) <|
  nv_oc (n_bipush (z := 64) (by decide +kernel) (by decide)) <|
  nv_oc (n_icmp_ge (off := 23) (tgt := 34) (by decide +kernel) (by decide)) <|
  nv_oc (n_iload_n (k := 3) (by decide +kernel)) <|
  nv_oc (n_if_eq (off := 19) (tgt := 34) (by decide +kernel) (by decide)) <|
  nv_oc (n_iload_n (k := 2) (by decide +kernel)) <|
  nv_oc (n_iload_n (k := 3) (by decide +kernel)) <|
  nv_oc (n_irem (by decide +kernel)) <|
  nv_oc (n_istore (k := 5) (by decide +kernel) (by decide)) <|
  nv_oc (n_iload_n (k := 3) (by decide +kernel)) <|
  nv_oc (n_istore_n (k := 2) (by decide +kernel) (by decide)) <|
  nv_oc (n_iload (k := 5) (by decide +kernel)) <|
  nv_oc (n_istore_n (k := 3) (by decide +kernel) (by decide)) <|
  nv_oc (n_iinc (k := 4) (d := 1) (by decide +kernel) (by decide)) <|
  nv_oc (n_goto (off := -24) (tgt := 7) (by decide +kernel) (by decide)) <|
  nv_oc (n_iconst (z := 1) (by decide +kernel)) <|
  nv_oc (n_iload_n (k := 2) (by decide +kernel)) <|
  nv_oc (n_max (idx := 269) (by decide +kernel) l_X5_269 (by decide) (by decide)) <|
  nv_oc (n_iret (by decide +kernel) rfl) <|
  nv_on
def M_X5_hops : nv_MD := (RX5, yX5_hops, cX5_hops, 9, (some .int), 3, 73)
theorem fn_X5_hops : nv_fn M_X5_hops 3 := ⟨List.mem_of_getElem? (i := 668) (by decide +kernel), List.mem_of_getElem? (i := 44) (by decide +kernel), by decide +kernel⟩
theorem fv_X5_hops : nv_fnV M_X5_hops := ⟨List.mem_of_getElem? (i := 666) (by decide +kernel), List.mem_of_getElem? (i := 667) (by decide +kernel)⟩
def P_X5_hops : nv_Pg := [(0, s_al 0 1), (1, s_il 1 2), (2, s_cv 5 M_X5_noPlank 1 5), (5, s_if c_eq 8 27), (8, s_il 2 9), (9, s_ki (0) 10), (10, s_ki (10) 12), (12, s_cs M_X5_outside 3 15), (15, s_if c_eq 18 27), (18, s_il 3 19), (19, s_ki (0) 20), (20, s_ki (1) 21), (21, s_cs M_X5_outside 3 24), (24, s_if c_eq 29 27), (27, s_ki (-1) 28), (28, s_ir), (29, s_al 0 30), (30, s_gf 5 0 33), (33, s_il 1 34), (34, s_cv 0 M_X0_sittersOn 1 37), (37, s_is 4 39), (39, s_ki (0) 40), (40, s_is 5 42), (42, s_ki (0) 43), (43, s_is 6 45), (45, s_il 6 47), (47, s_ki (32) 49), (49, s_ic c_ge 137 52), (52, s_il 6 54), (54, s_il 4 56), (56, s_ki (-1) 57), (57, s_b nv_xor 58), (58, s_b nv_and 59), (59, s_if c_eq 62 66), (62, s_ki (1) 63), (63, s_go 67), (66, s_ki (0) 67), (67, s_is 7 69), (69, s_il 7 71), (71, s_if c_eq 131 74), (74, s_al 0 75), (75, s_gf 5 0 78), (78, s_il 6 80), (80, s_cv 0 M_X0_cutByAll 1 83), (83, s_al 0 84), (84, s_gf 5 0 87), (87, s_gf 0 6 90), (90, s_il 1 91), (91, s_ia 92), (92, s_ic c_lt 131 95), (95, s_il 4 97), (97, s_il 6 99), (99, s_ki (-1) 100), (100, s_b nv_xor 101), (101, s_b nv_and 102), (102, s_is 8 104), (104, s_il 5 106), (106, s_ki (10) 108), (108, s_il 2 109), (109, s_sub 110), (110, s_il 6 112), (112, s_cs M_J6_bitCount_0f7a4 1 115), (115, s_cs M_X5_power 2 118), (118, s_il 2 119), (119, s_il 8 121), (121, s_cs M_J6_bitCount_0f7a4 1 124), (124, s_cs M_X5_power 2 127), (127, s_mul 128), (128, s_add 129), (129, s_is 5 131), (131, s_inc 6 (1) 134), (134, s_go 45), (137, s_ki (10) 139), (139, s_il 4 141), (141, s_cs M_J6_bitCount_0f7a4 1 144), (144, s_cs M_X5_power 2 147), (147, s_is 6 149), (149, s_il 5 151), (151, s_il 6 153), (153, s_cs M_X5_sharedDivisor 2 156), (156, s_is 7 158), (158, s_il 3 159), (159, s_if c_eq 162 170), (162, s_il 5 164), (164, s_il 7 166), (166, s_div 167), (167, s_go 175), (170, s_il 6 172), (172, s_il 7 174), (174, s_div 175), (175, s_ir)]
set_option maxRecDepth 100000 in
set_option maxHeartbeats 4000000 in
theorem ok_X5_hops : nv_ok_P M_X5_hops P_X5_hops :=
  nv_oc (n_aload_n (k := 0) (by decide +kernel)) <|
  nv_oc (n_iload_n (k := 1) (by decide +kernel)) <|
  nv_oc (n_virtual (M' := M_X5_noPlank) (idx := 70) (n := 1) (ci := 5) (N := 10) (D := RX5) (T := TX5) (by decide +kernel) fn_X5_noPlank fv_X5_noPlank rfl rfl l_X5_70 ⟨by decide, by decide⟩) <|
  nv_oc (n_if_ne (off := 22) (tgt := 27) (by decide +kernel) (by decide)) <|
  nv_oc (n_iload_n (k := 2) (by decide +kernel)) <|
  nv_oc (n_iconst (z := 0) (by decide +kernel)) <|
  nv_oc (n_bipush (z := 10) (by decide +kernel) (by decide)) <|
  nv_oc (n_static (M' := M_X5_outside) (idx := 56) (n := 3) (by decide +kernel) fn_X5_outside st_X5_outside l_X5_56 ⟨by decide, by decide⟩) <|
  nv_oc (n_if_ne (off := 12) (tgt := 27) (by decide +kernel) (by decide)) <|
  nv_oc (n_iload_n (k := 3) (by decide +kernel)) <|
  nv_oc (n_iconst (z := 0) (by decide +kernel)) <|
  nv_oc (n_iconst (z := 1) (by decide +kernel)) <|
  nv_oc (n_static (M' := M_X5_outside) (idx := 56) (n := 3) (by decide +kernel) fn_X5_outside st_X5_outside l_X5_56 ⟨by decide, by decide⟩) <|
  nv_oc (n_if_eq (off := 5) (tgt := 29) (by decide +kernel) (by decide)) <|
  nv_oc (n_iconst (z := -1) (by decide +kernel)) <|
  nv_oc (n_iret (by decide +kernel) rfl) <|
  nv_oc (n_aload_n (k := 0) (by decide +kernel)) <|
  nv_oc (n_getfield (idx := 12) (ci := 5) (k := 0) (N := 10) (D := RX5) (T := TX5) (by decide +kernel) rfl i_X5 (by decide) (by decide) f_X5_12) <|
  nv_oc (n_iload_n (k := 1) (by decide +kernel)) <|
  nv_oc (n_virtual (M' := M_X0_sittersOn) (idx := 84) (n := 1) (ci := 0) (N := 11) (D := RX0) (T := TX0) (by decide +kernel) fn_X0_sittersOn fv_X0_sittersOn rfl rfl l_X5_84 ⟨by decide, by decide⟩) <|
  nv_oc (n_istore (k := 4) (by decide +kernel) (by decide)) <|
  nv_oc (n_iconst (z := 0) (by decide +kernel)) <|
  nv_oc (n_istore (k := 5) (by decide +kernel) (by decide)) <|
  nv_oc (n_iconst (z := 0) (by decide +kernel)) <|
  nv_oc (n_istore (k := 6) (by decide +kernel) (by decide)) <|
  nv_oc (n_iload (k := 6) (by decide +kernel)) <|
  nv_oc (n_bipush (z := 32) (by decide +kernel) (by decide)) <|
  nv_oc (n_icmp_ge (off := 88) (tgt := 137) (by decide +kernel) (by decide)) <|
  nv_oc (n_iload (k := 6) (by decide +kernel)) <|
  nv_oc (n_iload (k := 4) (by decide +kernel)) <|
  nv_oc (n_iconst (z := -1) (by decide +kernel)) <|
  nv_oc (n_ixor (by decide +kernel)) <|
  nv_oc (n_iand (by decide +kernel)) <|
  nv_oc (n_if_ne (off := 7) (tgt := 66) (by decide +kernel) (by decide)) <|
  nv_oc (n_iconst (z := 1) (by decide +kernel)) <|
  nv_oc (n_goto (off := 4) (tgt := 67) (by decide +kernel) (by decide)) <|
  nv_oc (n_iconst (z := 0) (by decide +kernel)) <|
  nv_oc (n_istore (k := 7) (by decide +kernel) (by decide)) <|
  nv_oc (n_iload (k := 7) (by decide +kernel)) <|
  nv_oc (n_if_eq (off := 60) (tgt := 131) (by decide +kernel) (by decide)) <|
  nv_oc (n_aload_n (k := 0) (by decide +kernel)) <|
  nv_oc (n_getfield (idx := 12) (ci := 5) (k := 0) (N := 10) (D := RX5) (T := TX5) (by decide +kernel) rfl i_X5 (by decide) (by decide) f_X5_12) <|
  nv_oc (n_iload (k := 6) (by decide +kernel)) <|
  nv_oc (n_virtual (M' := M_X0_cutByAll) (idx := 88) (n := 1) (ci := 0) (N := 11) (D := RX0) (T := TX0) (by decide +kernel) fn_X0_cutByAll fv_X0_cutByAll rfl rfl l_X5_88 ⟨by decide, by decide⟩) <|
  nv_oc (n_aload_n (k := 0) (by decide +kernel)) <|
  nv_oc (n_getfield (idx := 12) (ci := 5) (k := 0) (N := 10) (D := RX5) (T := TX5) (by decide +kernel) rfl i_X5 (by decide) (by decide) f_X5_12) <|
  nv_oc (n_getfield (idx := 81) (ci := 0) (k := 6) (N := 11) (D := RX0) (T := TX0) (by decide +kernel) rfl i_X0 (by decide) (by decide) f_X5_81) <|
  nv_oc (n_iload_n (k := 1) (by decide +kernel)) <|
  nv_oc (n_iaload (by decide +kernel)) <|
  nv_oc (n_icmp_lt (off := 39) (tgt := 131) (by decide +kernel) (by decide)) <|
  nv_oc (n_iload (k := 4) (by decide +kernel)) <|
  nv_oc (n_iload (k := 6) (by decide +kernel)) <|
  nv_oc (n_iconst (z := -1) (by decide +kernel)) <|
  nv_oc (n_ixor (by decide +kernel)) <|
  nv_oc (n_iand (by decide +kernel)) <|
  nv_oc (n_istore (k := 8) (by decide +kernel) (by decide)) <|
  nv_oc (n_iload (k := 5) (by decide +kernel)) <|
  nv_oc (n_bipush (z := 10) (by decide +kernel) (by decide)) <|
  nv_oc (n_iload_n (k := 2) (by decide +kernel)) <|
  nv_oc (n_isub (by decide +kernel)) <|
  nv_oc (n_iload (k := 6) (by decide +kernel)) <|
  nv_oc (n_static (M' := M_J6_bitCount_0f7a4) (idx := 197) (n := 1) (by decide +kernel) fn_J6_bitCount_0f7a4 st_J6_bitCount_0f7a4 l_X5_197 ⟨by decide, by decide⟩) <|
  nv_oc (n_static (M' := M_X5_power) (idx := 202) (n := 2) (by decide +kernel) fn_X5_power st_X5_power l_X5_202 ⟨by decide, by decide⟩) <|
  nv_oc (n_iload_n (k := 2) (by decide +kernel)) <|
  nv_oc (n_iload (k := 8) (by decide +kernel)) <|
  nv_oc (n_static (M' := M_J6_bitCount_0f7a4) (idx := 197) (n := 1) (by decide +kernel) fn_J6_bitCount_0f7a4 st_J6_bitCount_0f7a4 l_X5_197 ⟨by decide, by decide⟩) <|
  nv_oc (n_static (M' := M_X5_power) (idx := 202) (n := 2) (by decide +kernel) fn_X5_power st_X5_power l_X5_202 ⟨by decide, by decide⟩) <|
  nv_oc (n_imul (by decide +kernel)) <|
  nv_oc (n_iadd (by decide +kernel)) <|
  nv_oc (n_istore (k := 5) (by decide +kernel) (by decide)) <|
  nv_oc (n_iinc (k := 6) (d := 1) (by decide +kernel) (by decide)) <|
  nv_oc (n_goto (off := -89) (tgt := 45) (by decide +kernel) (by decide)) <|
  nv_oc (n_bipush (z := 10) (by decide +kernel) (by decide)) <|
  nv_oc (n_iload (k := 4) (by decide +kernel)) <|
  nv_oc (n_static (M' := M_J6_bitCount_0f7a4) (idx := 197) (n := 1) (by decide +kernel) fn_J6_bitCount_0f7a4 st_J6_bitCount_0f7a4 l_X5_197 ⟨by decide, by decide⟩) <|
  nv_oc (n_static (M' := M_X5_power) (idx := 202) (n := 2) (by decide +kernel) fn_X5_power st_X5_power l_X5_202 ⟨by decide, by decide⟩) <|
  nv_oc (n_istore (k := 6) (by decide +kernel) (by decide)) <|
  nv_oc (n_iload (k := 5) (by decide +kernel)) <|
  nv_oc (n_iload (k := 6) (by decide +kernel)) <|
  nv_oc (n_static (M' := M_X5_sharedDivisor) (idx := 205) (n := 2) (by decide +kernel) fn_X5_sharedDivisor st_X5_sharedDivisor l_X5_205 ⟨by decide, by decide⟩) <|
  nv_oc (n_istore (k := 7) (by decide +kernel) (by decide)) <|
  nv_oc (n_iload_n (k := 3) (by decide +kernel)) <|
  nv_oc (n_if_ne (off := 11) (tgt := 170) (by decide +kernel) (by decide)) <|
  nv_oc (n_iload (k := 5) (by decide +kernel)) <|
  nv_oc (n_iload (k := 7) (by decide +kernel)) <|
  nv_oc (n_idiv (by decide +kernel)) <|
  nv_oc (n_goto (off := 8) (tgt := 175) (by decide +kernel) (by decide)) <|
  nv_oc (n_iload (k := 6) (by decide +kernel)) <|
  nv_oc (n_iload (k := 7) (by decide +kernel)) <|
  nv_oc (n_idiv (by decide +kernel)) <|
  nv_oc (n_iret (by decide +kernel) rfl) <|
  nv_on
def M_X5_image : nv_MD := (RX5, yX5_image, cX5_image, 1, (some .int), 3, 83)
theorem fn_X5_image : nv_fn M_X5_image 0 := ⟨List.mem_of_getElem? (i := 678) (by decide +kernel), List.mem_of_getElem? (i := 44) (by decide +kernel), by decide +kernel⟩
theorem fv_X5_image : nv_fnV M_X5_image := ⟨List.mem_of_getElem? (i := 676) (by decide +kernel), List.mem_of_getElem? (i := 677) (by decide +kernel)⟩
def P_X5_image : nv_Pg := [(0, s_al 0 1), (1, s_gf 5 2 4), (4, s_al 0 5), (5, s_gf 5 0 8), (8, s_cv 0 M_X0_takeAll 1 11), (11, s_al 0 12), (12, s_gf 5 3 15), (15, s_al 0 16), (16, s_gf 5 1 19), (19, s_cv 1 M_X1_takePast 1 22), (22, s_al 0 23), (23, s_ki (1) 24), (24, s_pz 5 4 27), (27, s_ki (1) 28), (28, s_ir)]
set_option maxRecDepth 100000 in
set_option maxHeartbeats 4000000 in
theorem ok_X5_image : nv_ok_P M_X5_image P_X5_image :=
  nv_oc (n_aload_n (k := 0) (by decide +kernel)) <|
  nv_oc (n_getfield (idx := 23) (ci := 5) (k := 2) (N := 10) (D := RX5) (T := TX5) (by decide +kernel) rfl i_X5 (by decide) (by decide) f_X5_23) <|
  nv_oc (n_aload_n (k := 0) (by decide +kernel)) <|
  nv_oc (n_getfield (idx := 12) (ci := 5) (k := 0) (N := 10) (D := RX5) (T := TX5) (by decide +kernel) rfl i_X5 (by decide) (by decide) f_X5_12) <|
  nv_oc (n_virtual (M' := M_X0_takeAll) (idx := 121) (n := 1) (ci := 0) (N := 11) (D := RX0) (T := TX0) (by decide +kernel) fn_X0_takeAll fv_X0_takeAll rfl rfl l_X5_121 ⟨by decide, by decide⟩) <|
  nv_oc (n_aload_n (k := 0) (by decide +kernel)) <|
  nv_oc (n_getfield (idx := 26) (ci := 5) (k := 3) (N := 10) (D := RX5) (T := TX5) (by decide +kernel) rfl i_X5 (by decide) (by decide) f_X5_26) <|
  nv_oc (n_aload_n (k := 0) (by decide +kernel)) <|
  nv_oc (n_getfield (idx := 19) (ci := 5) (k := 1) (N := 10) (D := RX5) (T := TX5) (by decide +kernel) rfl i_X5 (by decide) (by decide) f_X5_19) <|
  nv_oc (n_virtual (M' := M_X1_takePast) (idx := 208) (n := 1) (ci := 1) (N := 3) (D := RX1) (T := TX1) (by decide +kernel) fn_X1_takePast fv_X1_takePast rfl rfl l_X5_208 ⟨by decide, by decide⟩) <|
  nv_oc (n_aload_n (k := 0) (by decide +kernel)) <|
  nv_oc (n_iconst (z := 1) (by decide +kernel)) <|
  nv_oc (n_putbool (idx := 212) (ci := 5) (k := 4) (N := 10) (D := RX5) (T := TX5) tyX5 tyX5_ok nmX5 (by decide +kernel) rfl i_X5 (by decide) (by decide) rfl f_X5_212 rfl) <|
  nv_oc (n_iconst (z := 1) (by decide +kernel)) <|
  nv_oc (n_iret (by decide +kernel) rfl) <|
  nv_on
def M_X5_restore : nv_MD := (RX5, yX5_restore, cX5_restore, 1, (some .int), 3, 83)
theorem fn_X5_restore : nv_fn M_X5_restore 0 := ⟨List.mem_of_getElem? (i := 686) (by decide +kernel), List.mem_of_getElem? (i := 44) (by decide +kernel), by decide +kernel⟩
theorem fv_X5_restore : nv_fnV M_X5_restore := ⟨List.mem_of_getElem? (i := 684) (by decide +kernel), List.mem_of_getElem? (i := 685) (by decide +kernel)⟩
def P_X5_restore : nv_Pg := [(0, s_al 0 1), (1, s_gf 5 4 4), (4, s_if c_eq 7 10), (7, s_ki (-4) 9), (9, s_ir), (10, s_al 0 11), (11, s_gf 5 0 14), (14, s_al 0 15), (15, s_gf 5 2 18), (18, s_cv 0 M_X0_takeAll 1 21), (21, s_al 0 22), (22, s_gf 5 1 25), (25, s_al 0 26), (26, s_gf 5 3 29), (29, s_cv 1 M_X1_takePast 1 32), (32, s_ki (1) 33), (33, s_ir)]
set_option maxRecDepth 100000 in
set_option maxHeartbeats 4000000 in
theorem ok_X5_restore : nv_ok_P M_X5_restore P_X5_restore :=
  nv_oc (n_aload_n (k := 0) (by decide +kernel)) <|
  nv_oc (n_getfield (idx := 212) (ci := 5) (k := 4) (N := 10) (D := RX5) (T := TX5) (by decide +kernel) rfl i_X5 (by decide) (by decide) f_X5_212) <|
  nv_oc (n_if_ne (off := 6) (tgt := 10) (by decide +kernel) (by decide)) <|
  nv_oc (n_bipush (z := -4) (by decide +kernel) (by decide)) <|
  nv_oc (n_iret (by decide +kernel) rfl) <|
  nv_oc (n_aload_n (k := 0) (by decide +kernel)) <|
  nv_oc (n_getfield (idx := 12) (ci := 5) (k := 0) (N := 10) (D := RX5) (T := TX5) (by decide +kernel) rfl i_X5 (by decide) (by decide) f_X5_12) <|
  nv_oc (n_aload_n (k := 0) (by decide +kernel)) <|
  nv_oc (n_getfield (idx := 23) (ci := 5) (k := 2) (N := 10) (D := RX5) (T := TX5) (by decide +kernel) rfl i_X5 (by decide) (by decide) f_X5_23) <|
  nv_oc (n_virtual (M' := M_X0_takeAll) (idx := 121) (n := 1) (ci := 0) (N := 11) (D := RX0) (T := TX0) (by decide +kernel) fn_X0_takeAll fv_X0_takeAll rfl rfl l_X5_121 ⟨by decide, by decide⟩) <|
  nv_oc (n_aload_n (k := 0) (by decide +kernel)) <|
  nv_oc (n_getfield (idx := 19) (ci := 5) (k := 1) (N := 10) (D := RX5) (T := TX5) (by decide +kernel) rfl i_X5 (by decide) (by decide) f_X5_19) <|
  nv_oc (n_aload_n (k := 0) (by decide +kernel)) <|
  nv_oc (n_getfield (idx := 26) (ci := 5) (k := 3) (N := 10) (D := RX5) (T := TX5) (by decide +kernel) rfl i_X5 (by decide) (by decide) f_X5_26) <|
  nv_oc (n_virtual (M' := M_X1_takePast) (idx := 208) (n := 1) (ci := 1) (N := 3) (D := RX1) (T := TX1) (by decide +kernel) fn_X1_takePast fv_X1_takePast rfl rfl l_X5_208 ⟨by decide, by decide⟩) <|
  nv_oc (n_iconst (z := 1) (by decide +kernel)) <|
  nv_oc (n_iret (by decide +kernel) rfl) <|
  nv_on
def M_X5_noSheet : nv_MD := (RX5, yX5_noSheet, cX5_noSheet, 1, (some .boolean), 1, 22)
theorem fn_X5_noSheet : nv_fn M_X5_noSheet 1 := ⟨List.mem_of_getElem? (i := 693) (by decide +kernel), List.mem_of_getElem? (i := 44) (by decide +kernel), by decide +kernel⟩
theorem st_X5_noSheet : Cond.static (nv_y M_X5_noSheet) ∈ lw_tbl := List.mem_of_getElem? (i := 692) (by decide +kernel)
def P_X5_noSheet : nv_Pg := [(0, s_il 0 1), (1, s_ki (0) 2), (2, s_ki (3) 3), (3, s_cs M_X5_outside 3 6), (6, s_zr)]
set_option maxRecDepth 100000 in
set_option maxHeartbeats 4000000 in
theorem ok_X5_noSheet : nv_ok_P M_X5_noSheet P_X5_noSheet :=
  nv_oc (n_iload_n (k := 0) (by decide +kernel)) <|
  nv_oc (n_iconst (z := 0) (by decide +kernel)) <|
  nv_oc (n_iconst (z := 3) (by decide +kernel)) <|
  nv_oc (n_static (M' := M_X5_outside) (idx := 56) (n := 3) (by decide +kernel) fn_X5_outside st_X5_outside l_X5_56 ⟨by decide, by decide⟩) <|
  nv_oc (n_zret (by decide +kernel) rfl) <|
  nv_on
def M_X5_noLane : nv_MD := (RX5, yX5_noLane, cX5_noLane, 1, (some .boolean), 1, 22)
theorem fn_X5_noLane : nv_fn M_X5_noLane 1 := ⟨List.mem_of_getElem? (i := 696) (by decide +kernel), List.mem_of_getElem? (i := 44) (by decide +kernel), by decide +kernel⟩
theorem st_X5_noLane : Cond.static (nv_y M_X5_noLane) ∈ lw_tbl := List.mem_of_getElem? (i := 695) (by decide +kernel)
def P_X5_noLane : nv_Pg := [(0, s_il 0 1), (1, s_ki (0) 2), (2, s_ki (3) 3), (3, s_cs M_X5_outside 3 6), (6, s_zr)]
set_option maxRecDepth 100000 in
set_option maxHeartbeats 4000000 in
theorem ok_X5_noLane : nv_ok_P M_X5_noLane P_X5_noLane :=
  nv_oc (n_iload_n (k := 0) (by decide +kernel)) <|
  nv_oc (n_iconst (z := 0) (by decide +kernel)) <|
  nv_oc (n_iconst (z := 3) (by decide +kernel)) <|
  nv_oc (n_static (M' := M_X5_outside) (idx := 56) (n := 3) (by decide +kernel) fn_X5_outside st_X5_outside l_X5_56 ⟨by decide, by decide⟩) <|
  nv_oc (n_zret (by decide +kernel) rfl) <|
  nv_on
def M_X5_trialShows : nv_MD := (RX5, yX5_trialShows, cX5_trialShows, 6, (some .boolean), 3, 72)
theorem fn_X5_trialShows : nv_fn M_X5_trialShows 4 := ⟨List.mem_of_getElem? (i := 716) (by decide +kernel), List.mem_of_getElem? (i := 44) (by decide +kernel), by decide +kernel⟩
theorem fv_X5_trialShows : nv_fnV M_X5_trialShows := ⟨List.mem_of_getElem? (i := 715) (by decide +kernel), List.mem_of_getElem? (i := 21) (by decide +kernel)⟩
def P_X5_trialShows : nv_Pg := [(0, s_ki (0) 1), (1, s_is 5 3), (3, s_il 5 5), (5, s_il 4 7), (7, s_ic c_ge 49 10), (10, s_al 0 11), (11, s_gf 5 5 14), (14, s_cv 0 M_X0_passHour 0 17), (17, s_pop 18), (18, s_al 2 19), (19, s_gf 3 0 22), (22, s_il 3 23), (23, s_il 5 25), (25, s_add 26), (26, s_la 27), (27, s_al 0 28), (28, s_gf 5 5 31), (31, s_gf 0 6 34), (34, s_il 1 35), (35, s_ia 36), (36, s_i2l 37), (37, s_lcmp 38), (38, s_if c_eq 43 41), (41, s_ki (0) 42), (42, s_zr), (43, s_inc 5 (1) 46), (46, s_go 3), (49, s_ki (1) 50), (50, s_zr)]
set_option maxRecDepth 100000 in
set_option maxHeartbeats 4000000 in
theorem ok_X5_trialShows : nv_ok_P M_X5_trialShows P_X5_trialShows :=
  nv_oc (n_iconst (z := 0) (by decide +kernel)) <|
  nv_oc (n_istore (k := 5) (by decide +kernel) (by decide)) <|
  nv_oc (n_iload (k := 5) (by decide +kernel)) <|
  nv_oc (n_iload (k := 4) (by decide +kernel)) <|
  nv_oc (n_icmp_ge (off := 42) (tgt := 49) (by decide +kernel) (by decide)) <|
  nv_oc (n_aload_n (k := 0) (by decide +kernel)) <|
  nv_oc (n_getfield (idx := 29) (ci := 5) (k := 5) (N := 10) (D := RX5) (T := TX5) (by decide +kernel) rfl i_X5 (by decide) (by decide) f_X5_29) <|
  nv_oc (n_virtual (M' := M_X0_passHour) (idx := 150) (n := 0) (ci := 0) (N := 11) (D := RX0) (T := TX0) (by decide +kernel) fn_X0_passHour fv_X0_passHour rfl rfl l_X5_150 ⟨by decide, by decide⟩) <|
  nv_oc (n_pop (by decide +kernel)) <|
  nv_oc (n_aload_n (k := 2) (by decide +kernel)) <|
  nv_oc (n_getfield (idx := 253) (ci := 3) (k := 0) (N := 3) (D := RX3) (T := TX3) (by decide +kernel) rfl i_X3 (by decide) (by decide) f_X5_253) <|
  nv_oc (n_iload_n (k := 3) (by decide +kernel)) <|
  nv_oc (n_iload (k := 5) (by decide +kernel)) <|
  nv_oc (n_iadd (by decide +kernel)) <|
  nv_oc (n_laload (by decide +kernel)) <|
  nv_oc (n_aload_n (k := 0) (by decide +kernel)) <|
  nv_oc (n_getfield (idx := 29) (ci := 5) (k := 5) (N := 10) (D := RX5) (T := TX5) (by decide +kernel) rfl i_X5 (by decide) (by decide) f_X5_29) <|
  nv_oc (n_getfield (idx := 81) (ci := 0) (k := 6) (N := 11) (D := RX0) (T := TX0) (by decide +kernel) rfl i_X0 (by decide) (by decide) f_X5_81) <|
  nv_oc (n_iload_n (k := 1) (by decide +kernel)) <|
  nv_oc (n_iaload (by decide +kernel)) <|
  nv_oc (n_i2l (by decide +kernel)) <|
  nv_oc (n_lcmp (by decide +kernel)) <|
  nv_oc (n_if_eq (off := 5) (tgt := 43) (by decide +kernel) (by decide)) <|
  nv_oc (n_iconst (z := 0) (by decide +kernel)) <|
  nv_oc (n_zret (by decide +kernel) rfl) <|
  nv_oc (n_iinc (k := 5) (d := 1) (by decide +kernel) (by decide)) <|
  nv_oc (n_goto (off := -43) (tgt := 3) (by decide +kernel) (by decide)) <|
  nv_oc (n_iconst (z := 1) (by decide +kernel)) <|
  nv_oc (n_zret (by decide +kernel) rfl) <|
  nv_on
def M_X5_dust : nv_MD := (RX5, yX5_dust, cX5_dust, 12, (some .int), 4, 97)
theorem fn_X5_dust : nv_fn M_X5_dust 7 := ⟨List.mem_of_getElem? (i := 690) (by decide +kernel), List.mem_of_getElem? (i := 44) (by decide +kernel), by decide +kernel⟩
theorem fv_X5_dust : nv_fnV M_X5_dust := ⟨List.mem_of_getElem? (i := 688) (by decide +kernel), List.mem_of_getElem? (i := 689) (by decide +kernel)⟩
def P_X5_dust : nv_Pg := [(0, s_al 0 1), (1, s_il 1 2), (2, s_cv 5 M_X5_noPlank 1 5), (5, s_if c_eq 8 52), (8, s_al 0 9), (9, s_il 2 10), (10, s_cv 5 M_X5_noSawyer 1 13), (13, s_if c_eq 16 52), (16, s_il 3 17), (17, s_cs M_X5_noSheet 1 20), (20, s_if c_eq 23 52), (23, s_il 4 25), (25, s_cs M_X5_noLane 1 28), (28, s_if c_eq 31 52), (31, s_il 6 33), (33, s_ki (1) 34), (34, s_ki (8) 36), (36, s_cs M_X5_outside 3 39), (39, s_if c_eq 42 52), (42, s_il 7 44), (44, s_ki (0) 45), (45, s_ki (2) 46), (46, s_cs M_X5_outside 3 49), (49, s_if c_eq 54 52), (52, s_ki (-1) 53), (53, s_ir), (54, s_al 0 55), (55, s_gf 5 9 58), (58, s_il 3 59), (59, s_a4 60), (60, s_il 4 62), (62, s_il 5 64), (64, s_il 6 66), (66, s_cv 3 M_X3_refusal 3 69), (69, s_is 8 71), (71, s_il 8 73), (73, s_if c_eq 79 76), (76, s_il 8 78), (78, s_ir), (79, s_il 7 81), (81, s_if c_eq 84 88), (84, s_ki (5) 85), (85, s_go 106), (88, s_il 7 90), (90, s_ki (1) 91), (91, s_ic c_eq 94 99), (94, s_ki (10) 96), (96, s_go 106), (99, s_al 0 100), (100, s_gf 5 0 103), (103, s_gf 0 0 106), (106, s_is 9 108), (108, s_ki (0) 109), (109, s_is 10 111), (111, s_ki (0) 112), (112, s_is 11 114), (114, s_il 11 116), (116, s_il 9 118), (118, s_ic c_ge 177 121), (121, s_al 0 122), (122, s_gf 5 5 125), (125, s_al 0 126), (126, s_gf 5 0 129), (129, s_cv 0 M_X0_takeAll 1 132), (132, s_al 0 133), (133, s_gf 5 5 136), (136, s_il 2 137), (137, s_il 7 139), (139, s_il 11 141), (141, s_cv 0 M_X0_suppose 3 144), (144, s_al 0 145), (145, s_il 1 146), (146, s_al 0 147), (147, s_gf 5 9 150), (150, s_il 3 151), (151, s_a4 152), (152, s_il 5 154), (154, s_il 6 156), (156, s_cv 5 M_X5_trialShows 4 159), (159, s_if c_eq 171 162), (162, s_il 10 164), (164, s_ki (1) 165), (165, s_il 11 167), (167, s_sl 168), (168, s_b nv_or 169), (169, s_is 10 171), (171, s_inc 11 (1) 174), (174, s_go 114), (177, s_il 10 179), (179, s_ir)]
set_option maxRecDepth 100000 in
set_option maxHeartbeats 4000000 in
theorem ok_X5_dust : nv_ok_P M_X5_dust P_X5_dust :=
  nv_oc (n_aload_n (k := 0) (by decide +kernel)) <|
  nv_oc (n_iload_n (k := 1) (by decide +kernel)) <|
  nv_oc (n_virtual (M' := M_X5_noPlank) (idx := 70) (n := 1) (ci := 5) (N := 10) (D := RX5) (T := TX5) (by decide +kernel) fn_X5_noPlank fv_X5_noPlank rfl rfl l_X5_70 ⟨by decide, by decide⟩) <|
  nv_oc (n_if_ne (off := 47) (tgt := 52) (by decide +kernel) (by decide)) <|
  nv_oc (n_aload_n (k := 0) (by decide +kernel)) <|
  nv_oc (n_iload_n (k := 2) (by decide +kernel)) <|
  nv_oc (n_virtual (M' := M_X5_noSawyer) (idx := 91) (n := 1) (ci := 5) (N := 10) (D := RX5) (T := TX5) (by decide +kernel) fn_X5_noSawyer fv_X5_noSawyer rfl rfl l_X5_91 ⟨by decide, by decide⟩) <|
  nv_oc (n_if_ne (off := 39) (tgt := 52) (by decide +kernel) (by decide)) <|
  nv_oc (n_iload_n (k := 3) (by decide +kernel)) <|
  nv_oc (n_static (M' := M_X5_noSheet) (idx := 216) (n := 1) (by decide +kernel) fn_X5_noSheet st_X5_noSheet l_X5_216 ⟨by decide, by decide⟩) <|
  nv_oc (n_if_ne (off := 32) (tgt := 52) (by decide +kernel) (by decide)) <|
  nv_oc (n_iload (k := 4) (by decide +kernel)) <|
  nv_oc (n_static (M' := M_X5_noLane) (idx := 219) (n := 1) (by decide +kernel) fn_X5_noLane st_X5_noLane l_X5_219 ⟨by decide, by decide⟩) <|
  nv_oc (n_if_ne (off := 24) (tgt := 52) (by decide +kernel) (by decide)) <|
  nv_oc (n_iload (k := 6) (by decide +kernel)) <|
  nv_oc (n_iconst (z := 1) (by decide +kernel)) <|
  nv_oc (n_bipush (z := 8) (by decide +kernel) (by decide)) <|
  nv_oc (n_static (M' := M_X5_outside) (idx := 56) (n := 3) (by decide +kernel) fn_X5_outside st_X5_outside l_X5_56 ⟨by decide, by decide⟩) <|
  nv_oc (n_if_ne (off := 13) (tgt := 52) (by decide +kernel) (by decide)) <|
  nv_oc (n_iload (k := 7) (by decide +kernel)) <|
  nv_oc (n_iconst (z := 0) (by decide +kernel)) <|
  nv_oc (n_iconst (z := 2) (by decide +kernel)) <|
  nv_oc (n_static (M' := M_X5_outside) (idx := 56) (n := 3) (by decide +kernel) fn_X5_outside st_X5_outside l_X5_56 ⟨by decide, by decide⟩) <|
  nv_oc (n_if_eq (off := 5) (tgt := 54) (by decide +kernel) (by decide)) <|
  nv_oc (n_iconst (z := -1) (by decide +kernel)) <|
  nv_oc (n_iret (by decide +kernel) rfl) <|
  nv_oc (n_aload_n (k := 0) (by decide +kernel)) <|
  nv_oc (n_getfield (idx := 51) (ci := 5) (k := 9) (N := 10) (D := RX5) (T := TX5) (by decide +kernel) rfl i_X5 (by decide) (by decide) f_X5_51) <|
  nv_oc (n_iload_n (k := 3) (by decide +kernel)) <|
  nv_oc (n_aaload4 (by decide +kernel)) <|
  nv_oc (n_iload (k := 4) (by decide +kernel)) <|
  nv_oc (n_iload (k := 5) (by decide +kernel)) <|
  nv_oc (n_iload (k := 6) (by decide +kernel)) <|
  nv_oc (n_virtual (M' := M_X3_refusal) (idx := 222) (n := 3) (ci := 3) (N := 3) (D := RX3) (T := TX3) (by decide +kernel) fn_X3_refusal fv_X3_refusal rfl rfl l_X5_222 ⟨by decide, by decide⟩) <|
  nv_oc (n_istore (k := 8) (by decide +kernel) (by decide)) <|
  nv_oc (n_iload (k := 8) (by decide +kernel)) <|
  nv_oc (n_if_eq (off := 6) (tgt := 79) (by decide +kernel) (by decide)) <|
  nv_oc (n_iload (k := 8) (by decide +kernel)) <|
  nv_oc (n_iret (by decide +kernel) rfl) <|
  nv_oc (n_iload (k := 7) (by decide +kernel)) <|
  nv_oc (n_if_ne (off := 7) (tgt := 88) (by decide +kernel) (by decide)) <|
  nv_oc (n_iconst (z := 5) (by decide +kernel)) <|
  nv_oc (n_goto (off := 21) (tgt := 106) (by decide +kernel) (by decide)) <|
  nv_oc (n_iload (k := 7) (by decide +kernel)) <|
  nv_oc (n_iconst (z := 1) (by decide +kernel)) <|
  nv_oc (n_icmp_ne (off := 8) (tgt := 99) (by decide +kernel) (by decide)) <|
  nv_oc (n_bipush (z := 10) (by decide +kernel) (by decide)) <|
  nv_oc (n_goto (off := 10) (tgt := 106) (by decide +kernel) (by decide)) <|
  nv_oc (n_aload_n (k := 0) (by decide +kernel)) <|
  nv_oc (n_getfield (idx := 12) (ci := 5) (k := 0) (N := 10) (D := RX5) (T := TX5) (by decide +kernel) rfl i_X5 (by decide) (by decide) f_X5_12) <|
  nv_oc (n_getfield (idx := 125) (ci := 0) (k := 0) (N := 11) (D := RX0) (T := TX0) (by decide +kernel) rfl i_X0 (by decide) (by decide) f_X5_125) <|
  nv_oc (n_istore (k := 9) (by decide +kernel) (by decide)) <|
  nv_oc (n_iconst (z := 0) (by decide +kernel)) <|
  nv_oc (n_istore (k := 10) (by decide +kernel) (by decide)) <|
  nv_oc (n_iconst (z := 0) (by decide +kernel)) <|
  nv_oc (n_istore (k := 11) (by decide +kernel) (by decide)) <|
  nv_oc (n_iload (k := 11) (by decide +kernel)) <|
  nv_oc (n_iload (k := 9) (by decide +kernel)) <|
  nv_oc (n_icmp_ge (off := 59) (tgt := 177) (by decide +kernel) (by decide)) <|
  nv_oc (n_aload_n (k := 0) (by decide +kernel)) <|
  nv_oc (n_getfield (idx := 29) (ci := 5) (k := 5) (N := 10) (D := RX5) (T := TX5) (by decide +kernel) rfl i_X5 (by decide) (by decide) f_X5_29) <|
  nv_oc (n_aload_n (k := 0) (by decide +kernel)) <|
  nv_oc (n_getfield (idx := 12) (ci := 5) (k := 0) (N := 10) (D := RX5) (T := TX5) (by decide +kernel) rfl i_X5 (by decide) (by decide) f_X5_12) <|
  nv_oc (n_virtual (M' := M_X0_takeAll) (idx := 121) (n := 1) (ci := 0) (N := 11) (D := RX0) (T := TX0) (by decide +kernel) fn_X0_takeAll fv_X0_takeAll rfl rfl l_X5_121 ⟨by decide, by decide⟩) <|
  nv_oc (n_aload_n (k := 0) (by decide +kernel)) <|
  nv_oc (n_getfield (idx := 29) (ci := 5) (k := 5) (N := 10) (D := RX5) (T := TX5) (by decide +kernel) rfl i_X5 (by decide) (by decide) f_X5_29) <|
  nv_oc (n_iload_n (k := 2) (by decide +kernel)) <|
  nv_oc (n_iload (k := 7) (by decide +kernel)) <|
  nv_oc (n_iload (k := 11) (by decide +kernel)) <|
  nv_oc (n_virtual (M' := M_X0_suppose) (idx := 225) (n := 3) (ci := 0) (N := 11) (D := RX0) (T := TX0) (by decide +kernel) fn_X0_suppose fv_X0_suppose rfl rfl l_X5_225 ⟨by decide, by decide⟩) <|
  nv_oc (n_aload_n (k := 0) (by decide +kernel)) <|
  nv_oc (n_iload_n (k := 1) (by decide +kernel)) <|
  nv_oc (n_aload_n (k := 0) (by decide +kernel)) <|
  nv_oc (n_getfield (idx := 51) (ci := 5) (k := 9) (N := 10) (D := RX5) (T := TX5) (by decide +kernel) rfl i_X5 (by decide) (by decide) f_X5_51) <|
  nv_oc (n_iload_n (k := 3) (by decide +kernel)) <|
  nv_oc (n_aaload4 (by decide +kernel)) <|
  nv_oc (n_iload (k := 5) (by decide +kernel)) <|
  nv_oc (n_iload (k := 6) (by decide +kernel)) <|
  nv_oc (n_virtual (M' := M_X5_trialShows) (idx := 229) (n := 4) (ci := 5) (N := 10) (D := RX5) (T := TX5) (by decide +kernel) fn_X5_trialShows fv_X5_trialShows rfl rfl l_X5_229 ⟨by decide, by decide⟩) <|
  nv_oc (n_if_eq (off := 12) (tgt := 171) (by decide +kernel) (by decide)) <|
  nv_oc (n_iload (k := 10) (by decide +kernel)) <|
  nv_oc (n_iconst (z := 1) (by decide +kernel)) <|
  nv_oc (n_iload (k := 11) (by decide +kernel)) <|
  nv_oc (n_ishl (by decide +kernel)) <|
  nv_oc (n_ior (by decide +kernel)) <|
  nv_oc (n_istore (k := 10) (by decide +kernel) (by decide)) <|
  nv_oc (n_iinc (k := 11) (d := 1) (by decide +kernel) (by decide)) <|
  nv_oc (n_goto (off := -60) (tgt := 114) (by decide +kernel) (by decide)) <|
  nv_oc (n_iload (k := 10) (by decide +kernel)) <|
  nv_oc (n_iret (by decide +kernel) rfl) <|
  nv_on
def M_X5_film : nv_MD := (RX5, yX5_film, cX5_film, 8, (some .int), 3, 82)
theorem fn_X5_film : nv_fn M_X5_film 5 := ⟨List.mem_of_getElem? (i := 720) (by decide +kernel), List.mem_of_getElem? (i := 44) (by decide +kernel), by decide +kernel⟩
theorem fv_X5_film : nv_fnV M_X5_film := ⟨List.mem_of_getElem? (i := 718) (by decide +kernel), List.mem_of_getElem? (i := 719) (by decide +kernel)⟩
def P_X5_film : nv_Pg := [(0, s_al 0 1), (1, s_il 1 2), (2, s_cv 5 M_X5_noPlank 1 5), (5, s_if c_eq 8 33), (8, s_il 2 9), (9, s_ki (1) 10), (10, s_ki (24) 12), (12, s_cs M_X5_outside 3 15), (15, s_if c_eq 18 33), (18, s_il 3 19), (19, s_cs M_X5_noSheet 1 22), (22, s_if c_eq 25 33), (25, s_il 4 27), (27, s_cs M_X5_noLane 1 30), (30, s_if c_eq 35 33), (33, s_ki (-1) 34), (34, s_ir), (35, s_al 0 36), (36, s_gf 5 9 39), (39, s_il 3 40), (40, s_a4 41), (41, s_il 4 43), (43, s_il 5 45), (45, s_il 2 46), (46, s_cv 3 M_X3_refusal 3 49), (49, s_is 6 51), (51, s_il 6 53), (53, s_if c_eq 59 56), (56, s_il 6 58), (58, s_ir), (59, s_al 0 60), (60, s_gf 5 5 63), (63, s_al 0 64), (64, s_gf 5 0 67), (67, s_cv 0 M_X0_takeAll 1 70), (70, s_ki (0) 71), (71, s_is 7 73), (73, s_il 7 75), (75, s_il 2 76), (76, s_ic c_ge 117 79), (79, s_al 0 80), (80, s_gf 5 5 83), (83, s_cv 0 M_X0_passHour 0 86), (86, s_pop 87), (87, s_al 0 88), (88, s_gf 5 9 91), (91, s_il 3 92), (92, s_a4 93), (93, s_il 5 95), (95, s_il 7 97), (97, s_add 98), (98, s_al 0 99), (99, s_gf 5 5 102), (102, s_gf 0 6 105), (105, s_il 1 106), (106, s_ia 107), (107, s_i2l 108), (108, s_cv 3 M_X3_put 2 111), (111, s_inc 7 (1) 114), (114, s_go 73), (117, s_il 2 118), (118, s_ir)]
set_option maxRecDepth 100000 in
set_option maxHeartbeats 4000000 in
theorem ok_X5_film : nv_ok_P M_X5_film P_X5_film :=
  nv_oc (n_aload_n (k := 0) (by decide +kernel)) <|
  nv_oc (n_iload_n (k := 1) (by decide +kernel)) <|
  nv_oc (n_virtual (M' := M_X5_noPlank) (idx := 70) (n := 1) (ci := 5) (N := 10) (D := RX5) (T := TX5) (by decide +kernel) fn_X5_noPlank fv_X5_noPlank rfl rfl l_X5_70 ⟨by decide, by decide⟩) <|
  nv_oc (n_if_ne (off := 28) (tgt := 33) (by decide +kernel) (by decide)) <|
  nv_oc (n_iload_n (k := 2) (by decide +kernel)) <|
  nv_oc (n_iconst (z := 1) (by decide +kernel)) <|
  nv_oc (n_bipush (z := 24) (by decide +kernel) (by decide)) <|
  nv_oc (n_static (M' := M_X5_outside) (idx := 56) (n := 3) (by decide +kernel) fn_X5_outside st_X5_outside l_X5_56 ⟨by decide, by decide⟩) <|
  nv_oc (n_if_ne (off := 18) (tgt := 33) (by decide +kernel) (by decide)) <|
  nv_oc (n_iload_n (k := 3) (by decide +kernel)) <|
  nv_oc (n_static (M' := M_X5_noSheet) (idx := 216) (n := 1) (by decide +kernel) fn_X5_noSheet st_X5_noSheet l_X5_216 ⟨by decide, by decide⟩) <|
  nv_oc (n_if_ne (off := 11) (tgt := 33) (by decide +kernel) (by decide)) <|
  nv_oc (n_iload (k := 4) (by decide +kernel)) <|
  nv_oc (n_static (M' := M_X5_noLane) (idx := 219) (n := 1) (by decide +kernel) fn_X5_noLane st_X5_noLane l_X5_219 ⟨by decide, by decide⟩) <|
  nv_oc (n_if_eq (off := 5) (tgt := 35) (by decide +kernel) (by decide)) <|
  nv_oc (n_iconst (z := -1) (by decide +kernel)) <|
  nv_oc (n_iret (by decide +kernel) rfl) <|
  nv_oc (n_aload_n (k := 0) (by decide +kernel)) <|
  nv_oc (n_getfield (idx := 51) (ci := 5) (k := 9) (N := 10) (D := RX5) (T := TX5) (by decide +kernel) rfl i_X5 (by decide) (by decide) f_X5_51) <|
  nv_oc (n_iload_n (k := 3) (by decide +kernel)) <|
  nv_oc (n_aaload4 (by decide +kernel)) <|
  nv_oc (n_iload (k := 4) (by decide +kernel)) <|
  nv_oc (n_iload (k := 5) (by decide +kernel)) <|
  nv_oc (n_iload_n (k := 2) (by decide +kernel)) <|
  nv_oc (n_virtual (M' := M_X3_refusal) (idx := 222) (n := 3) (ci := 3) (N := 3) (D := RX3) (T := TX3) (by decide +kernel) fn_X3_refusal fv_X3_refusal rfl rfl l_X5_222 ⟨by decide, by decide⟩) <|
  nv_oc (n_istore (k := 6) (by decide +kernel) (by decide)) <|
  nv_oc (n_iload (k := 6) (by decide +kernel)) <|
  nv_oc (n_if_eq (off := 6) (tgt := 59) (by decide +kernel) (by decide)) <|
  nv_oc (n_iload (k := 6) (by decide +kernel)) <|
  nv_oc (n_iret (by decide +kernel) rfl) <|
  nv_oc (n_aload_n (k := 0) (by decide +kernel)) <|
  nv_oc (n_getfield (idx := 29) (ci := 5) (k := 5) (N := 10) (D := RX5) (T := TX5) (by decide +kernel) rfl i_X5 (by decide) (by decide) f_X5_29) <|
  nv_oc (n_aload_n (k := 0) (by decide +kernel)) <|
  nv_oc (n_getfield (idx := 12) (ci := 5) (k := 0) (N := 10) (D := RX5) (T := TX5) (by decide +kernel) rfl i_X5 (by decide) (by decide) f_X5_12) <|
  nv_oc (n_virtual (M' := M_X0_takeAll) (idx := 121) (n := 1) (ci := 0) (N := 11) (D := RX0) (T := TX0) (by decide +kernel) fn_X0_takeAll fv_X0_takeAll rfl rfl l_X5_121 ⟨by decide, by decide⟩) <|
  nv_oc (n_iconst (z := 0) (by decide +kernel)) <|
  nv_oc (n_istore (k := 7) (by decide +kernel) (by decide)) <|
  nv_oc (n_iload (k := 7) (by decide +kernel)) <|
  nv_oc (n_iload_n (k := 2) (by decide +kernel)) <|
  nv_oc (n_icmp_ge (off := 41) (tgt := 117) (by decide +kernel) (by decide)) <|
  nv_oc (n_aload_n (k := 0) (by decide +kernel)) <|
  nv_oc (n_getfield (idx := 29) (ci := 5) (k := 5) (N := 10) (D := RX5) (T := TX5) (by decide +kernel) rfl i_X5 (by decide) (by decide) f_X5_29) <|
  nv_oc (n_virtual (M' := M_X0_passHour) (idx := 150) (n := 0) (ci := 0) (N := 11) (D := RX0) (T := TX0) (by decide +kernel) fn_X0_passHour fv_X0_passHour rfl rfl l_X5_150 ⟨by decide, by decide⟩) <|
  nv_oc (n_pop (by decide +kernel)) <|
  nv_oc (n_aload_n (k := 0) (by decide +kernel)) <|
  nv_oc (n_getfield (idx := 51) (ci := 5) (k := 9) (N := 10) (D := RX5) (T := TX5) (by decide +kernel) rfl i_X5 (by decide) (by decide) f_X5_51) <|
  nv_oc (n_iload_n (k := 3) (by decide +kernel)) <|
  nv_oc (n_aaload4 (by decide +kernel)) <|
  nv_oc (n_iload (k := 5) (by decide +kernel)) <|
  nv_oc (n_iload (k := 7) (by decide +kernel)) <|
  nv_oc (n_iadd (by decide +kernel)) <|
  nv_oc (n_aload_n (k := 0) (by decide +kernel)) <|
  nv_oc (n_getfield (idx := 29) (ci := 5) (k := 5) (N := 10) (D := RX5) (T := TX5) (by decide +kernel) rfl i_X5 (by decide) (by decide) f_X5_29) <|
  nv_oc (n_getfield (idx := 81) (ci := 0) (k := 6) (N := 11) (D := RX0) (T := TX0) (by decide +kernel) rfl i_X0 (by decide) (by decide) f_X5_81) <|
  nv_oc (n_iload_n (k := 1) (by decide +kernel)) <|
  nv_oc (n_iaload (by decide +kernel)) <|
  nv_oc (n_i2l (by decide +kernel)) <|
  nv_oc (n_virtual (M' := M_X3_put) (idx := 233) (n := 2) (ci := 3) (N := 3) (D := RX3) (T := TX3) (by decide +kernel) fn_X3_put fv_X3_put rfl rfl l_X5_233 ⟨by decide, by decide⟩) <|
  nv_oc (n_iinc (k := 7) (d := 1) (by decide +kernel) (by decide)) <|
  nv_oc (n_goto (off := -41) (tgt := 73) (by decide +kernel) (by decide)) <|
  nv_oc (n_iload_n (k := 2) (by decide +kernel)) <|
  nv_oc (n_iret (by decide +kernel) rfl) <|
  nv_on
def M_X5_sheet : nv_MD := (RX5, yX5_sheet, cX5_sheet, 4, (some .int), 2, 42)
theorem fn_X5_sheet : nv_fn M_X5_sheet 3 := ⟨List.mem_of_getElem? (i := 728) (by decide +kernel), List.mem_of_getElem? (i := 44) (by decide +kernel), by decide +kernel⟩
theorem fv_X5_sheet : nv_fnV M_X5_sheet := ⟨List.mem_of_getElem? (i := 726) (by decide +kernel), List.mem_of_getElem? (i := 727) (by decide +kernel)⟩
def P_X5_sheet : nv_Pg := [(0, s_il 1 1), (1, s_cs M_X5_noSheet 1 4), (4, s_if c_eq 7 20), (7, s_il 2 8), (8, s_cs M_X5_noLane 1 11), (11, s_if c_eq 14 20), (14, s_il 3 15), (15, s_ki (24) 17), (17, s_ic c_le 22 20), (20, s_ki (-1) 21), (21, s_ir), (22, s_il 3 23), (23, s_if c_ge 29 26), (26, s_ki (-14) 28), (28, s_ir), (29, s_al 0 30), (30, s_gf 5 9 33), (33, s_il 1 34), (34, s_a4 35), (35, s_il 2 36), (36, s_il 3 37), (37, s_cv 3 M_X3_begin 2 40), (40, s_il 3 41), (41, s_ir)]
set_option maxRecDepth 100000 in
set_option maxHeartbeats 4000000 in
theorem ok_X5_sheet : nv_ok_P M_X5_sheet P_X5_sheet :=
  nv_oc (n_iload_n (k := 1) (by decide +kernel)) <|
  nv_oc (n_static (M' := M_X5_noSheet) (idx := 216) (n := 1) (by decide +kernel) fn_X5_noSheet st_X5_noSheet l_X5_216 ⟨by decide, by decide⟩) <|
  nv_oc (n_if_ne (off := 16) (tgt := 20) (by decide +kernel) (by decide)) <|
  nv_oc (n_iload_n (k := 2) (by decide +kernel)) <|
  nv_oc (n_static (M' := M_X5_noLane) (idx := 219) (n := 1) (by decide +kernel) fn_X5_noLane st_X5_noLane l_X5_219 ⟨by decide, by decide⟩) <|
  nv_oc (n_if_ne (off := 9) (tgt := 20) (by decide +kernel) (by decide)) <|
  nv_oc (n_iload_n (k := 3) (by decide +kernel)) <|
  nv_oc (n_bipush (z := 24) (by decide +kernel) (by decide)) <|
  nv_oc (n_icmp_le (off := 5) (tgt := 22) (by decide +kernel) (by decide)) <|
  nv_oc (n_iconst (z := -1) (by decide +kernel)) <|
  nv_oc (n_iret (by decide +kernel) rfl) <|
  nv_oc (n_iload_n (k := 3) (by decide +kernel)) <|
  nv_oc (n_if_ge (off := 6) (tgt := 29) (by decide +kernel) (by decide)) <|
  nv_oc (n_bipush (z := -14) (by decide +kernel) (by decide)) <|
  nv_oc (n_iret (by decide +kernel) rfl) <|
  nv_oc (n_aload_n (k := 0) (by decide +kernel)) <|
  nv_oc (n_getfield (idx := 51) (ci := 5) (k := 9) (N := 10) (D := RX5) (T := TX5) (by decide +kernel) rfl i_X5 (by decide) (by decide) f_X5_51) <|
  nv_oc (n_iload_n (k := 1) (by decide +kernel)) <|
  nv_oc (n_aaload4 (by decide +kernel)) <|
  nv_oc (n_iload_n (k := 2) (by decide +kernel)) <|
  nv_oc (n_iload_n (k := 3) (by decide +kernel)) <|
  nv_oc (n_virtual (M' := M_X3_begin) (idx := 237) (n := 2) (ci := 3) (N := 3) (D := RX3) (T := TX3) (by decide +kernel) fn_X3_begin fv_X3_begin rfl rfl l_X5_237 ⟨by decide, by decide⟩) <|
  nv_oc (n_iload_n (k := 3) (by decide +kernel)) <|
  nv_oc (n_iret (by decide +kernel) rfl) <|
  nv_on
def M_X5_drop : nv_MD := (RX5, yX5_drop, cX5_drop, 2, (some .int), 2, 42)
theorem fn_X5_drop : nv_fn M_X5_drop 1 := ⟨List.mem_of_getElem? (i := 736) (by decide +kernel), List.mem_of_getElem? (i := 44) (by decide +kernel), by decide +kernel⟩
theorem fv_X5_drop : nv_fnV M_X5_drop := ⟨List.mem_of_getElem? (i := 734) (by decide +kernel), List.mem_of_getElem? (i := 735) (by decide +kernel)⟩
def P_X5_drop : nv_Pg := [(0, s_il 1 1), (1, s_cs M_X5_noSheet 1 4), (4, s_if c_eq 9 7), (7, s_ki (-1) 8), (8, s_ir), (9, s_al 0 10), (10, s_gf 5 9 13), (13, s_il 1 14), (14, s_a4 15), (15, s_cv 3 M_X3_clear 0 18), (18, s_ir)]
set_option maxRecDepth 100000 in
set_option maxHeartbeats 4000000 in
theorem ok_X5_drop : nv_ok_P M_X5_drop P_X5_drop :=
  nv_oc (n_iload_n (k := 1) (by decide +kernel)) <|
  nv_oc (n_static (M' := M_X5_noSheet) (idx := 216) (n := 1) (by decide +kernel) fn_X5_noSheet st_X5_noSheet l_X5_216 ⟨by decide, by decide⟩) <|
  nv_oc (n_if_eq (off := 5) (tgt := 9) (by decide +kernel) (by decide)) <|
  nv_oc (n_iconst (z := -1) (by decide +kernel)) <|
  nv_oc (n_iret (by decide +kernel) rfl) <|
  nv_oc (n_aload_n (k := 0) (by decide +kernel)) <|
  nv_oc (n_getfield (idx := 51) (ci := 5) (k := 9) (N := 10) (D := RX5) (T := TX5) (by decide +kernel) rfl i_X5 (by decide) (by decide) f_X5_51) <|
  nv_oc (n_iload_n (k := 1) (by decide +kernel)) <|
  nv_oc (n_aaload4 (by decide +kernel)) <|
  nv_oc (n_virtual (M' := M_X3_clear) (idx := 240) (n := 0) (ci := 3) (N := 3) (D := RX3) (T := TX3) (by decide +kernel) fn_X3_clear fv_X3_clear rfl rfl l_X5_240 ⟨by decide, by decide⟩) <|
  nv_oc (n_iret (by decide +kernel) rfl) <|
  nv_on
def M_X5_item : nv_MD := (RX5, yX5_item, cX5_item, 7, (some .int), 2, 45)
theorem fn_X5_item : nv_fn M_X5_item 4 := ⟨List.mem_of_getElem? (i := 744) (by decide +kernel), List.mem_of_getElem? (i := 44) (by decide +kernel), by decide +kernel⟩
theorem fv_X5_item : nv_fnV M_X5_item := ⟨List.mem_of_getElem? (i := 742) (by decide +kernel), List.mem_of_getElem? (i := 743) (by decide +kernel)⟩
def P_X5_item : nv_Pg := [(0, s_il 1 1), (1, s_cs M_X5_noSheet 1 4), (4, s_if c_eq 7 14), (7, s_il 2 8), (8, s_cs M_X5_noLane 1 11), (11, s_if c_eq 16 14), (14, s_ki (-1) 15), (15, s_ir), (16, s_al 0 17), (17, s_gf 5 9 20), (20, s_il 1 21), (21, s_a4 22), (22, s_il 2 23), (23, s_il 3 24), (24, s_ki (1) 25), (25, s_cv 3 M_X3_refusal 3 28), (28, s_is 6 30), (30, s_il 6 32), (32, s_if c_eq 38 35), (35, s_il 6 37), (37, s_ir), (38, s_al 0 39), (39, s_gf 5 9 42), (42, s_il 1 43), (43, s_a4 44), (44, s_il 3 45), (45, s_ll 4 47), (47, s_cv 3 M_X3_put 2 50), (50, s_ki (1) 51), (51, s_ir)]
set_option maxRecDepth 100000 in
set_option maxHeartbeats 4000000 in
theorem ok_X5_item : nv_ok_P M_X5_item P_X5_item :=
  nv_oc (n_iload_n (k := 1) (by decide +kernel)) <|
  nv_oc (n_static (M' := M_X5_noSheet) (idx := 216) (n := 1) (by decide +kernel) fn_X5_noSheet st_X5_noSheet l_X5_216 ⟨by decide, by decide⟩) <|
  nv_oc (n_if_ne (off := 10) (tgt := 14) (by decide +kernel) (by decide)) <|
  nv_oc (n_iload_n (k := 2) (by decide +kernel)) <|
  nv_oc (n_static (M' := M_X5_noLane) (idx := 219) (n := 1) (by decide +kernel) fn_X5_noLane st_X5_noLane l_X5_219 ⟨by decide, by decide⟩) <|
  nv_oc (n_if_eq (off := 5) (tgt := 16) (by decide +kernel) (by decide)) <|
  nv_oc (n_iconst (z := -1) (by decide +kernel)) <|
  nv_oc (n_iret (by decide +kernel) rfl) <|
  nv_oc (n_aload_n (k := 0) (by decide +kernel)) <|
  nv_oc (n_getfield (idx := 51) (ci := 5) (k := 9) (N := 10) (D := RX5) (T := TX5) (by decide +kernel) rfl i_X5 (by decide) (by decide) f_X5_51) <|
  nv_oc (n_iload_n (k := 1) (by decide +kernel)) <|
  nv_oc (n_aaload4 (by decide +kernel)) <|
  nv_oc (n_iload_n (k := 2) (by decide +kernel)) <|
  nv_oc (n_iload_n (k := 3) (by decide +kernel)) <|
  nv_oc (n_iconst (z := 1) (by decide +kernel)) <|
  nv_oc (n_virtual (M' := M_X3_refusal) (idx := 222) (n := 3) (ci := 3) (N := 3) (D := RX3) (T := TX3) (by decide +kernel) fn_X3_refusal fv_X3_refusal rfl rfl l_X5_222 ⟨by decide, by decide⟩) <|
  nv_oc (n_istore (k := 6) (by decide +kernel) (by decide)) <|
  nv_oc (n_iload (k := 6) (by decide +kernel)) <|
  nv_oc (n_if_eq (off := 6) (tgt := 38) (by decide +kernel) (by decide)) <|
  nv_oc (n_iload (k := 6) (by decide +kernel)) <|
  nv_oc (n_iret (by decide +kernel) rfl) <|
  nv_oc (n_aload_n (k := 0) (by decide +kernel)) <|
  nv_oc (n_getfield (idx := 51) (ci := 5) (k := 9) (N := 10) (D := RX5) (T := TX5) (by decide +kernel) rfl i_X5 (by decide) (by decide) f_X5_51) <|
  nv_oc (n_iload_n (k := 1) (by decide +kernel)) <|
  nv_oc (n_aaload4 (by decide +kernel)) <|
  nv_oc (n_iload_n (k := 3) (by decide +kernel)) <|
  nv_oc (n_lload (k := 4) (by decide +kernel)) <|
  nv_oc (n_virtual (M' := M_X3_put) (idx := 233) (n := 2) (ci := 3) (N := 3) (D := RX3) (T := TX3) (by decide +kernel) fn_X3_put fv_X3_put rfl rfl l_X5_233 ⟨by decide, by decide⟩) <|
  nv_oc (n_iconst (z := 1) (by decide +kernel)) <|
  nv_oc (n_iret (by decide +kernel) rfl) <|
  nv_on
def M_X5_copy : nv_MD := (RX5, yX5_copy, cX5_copy, 8, (some .int), 2, 42)
theorem fn_X5_copy : nv_fn M_X5_copy 5 := ⟨List.mem_of_getElem? (i := 748) (by decide +kernel), List.mem_of_getElem? (i := 44) (by decide +kernel), by decide +kernel⟩
theorem fv_X5_copy : nv_fnV M_X5_copy := ⟨List.mem_of_getElem? (i := 746) (by decide +kernel), List.mem_of_getElem? (i := 747) (by decide +kernel)⟩
def P_X5_copy : nv_Pg := [(0, s_il 1 1), (1, s_cs M_X5_noSheet 1 4), (4, s_if c_eq 7 14), (7, s_il 3 8), (8, s_cs M_X5_noSheet 1 11), (11, s_if c_eq 16 14), (14, s_ki (-1) 15), (15, s_ir), (16, s_al 0 17), (17, s_gf 5 9 20), (20, s_il 1 21), (21, s_a4 22), (22, s_as 6 24), (24, s_al 0 25), (25, s_gf 5 9 28), (28, s_il 3 29), (29, s_a4 30), (30, s_as 7 32), (32, s_al 6 34), (34, s_cv 3 M_X3_isNothing 0 37), (37, s_if c_eq 40 48), (40, s_al 7 42), (42, s_cv 3 M_X3_isNothing 0 45), (45, s_if c_eq 51 48), (48, s_ki (-11) 50), (50, s_ir), (51, s_al 6 53), (53, s_gf 3 1 56), (56, s_al 7 58), (58, s_gf 3 1 61), (61, s_ic c_eq 67 64), (64, s_ki (-12) 66), (66, s_ir), (67, s_al 6 69), (69, s_il 2 70), (70, s_il 5 72), (72, s_cv 3 M_X3_lacks 2 75), (75, s_if c_eq 78 90), (78, s_al 7 80), (80, s_il 4 82), (82, s_il 5 84), (84, s_cv 3 M_X3_lacks 2 87), (87, s_if c_eq 93 90), (90, s_ki (-13) 92), (92, s_ir), (93, s_al 6 95), (95, s_gf 3 0 98), (98, s_il 2 99), (99, s_al 7 101), (101, s_gf 3 0 104), (104, s_il 4 106), (106, s_il 5 108), (108, s_cpl 111), (111, s_il 5 113), (113, s_ir)]
set_option maxRecDepth 100000 in
set_option maxHeartbeats 4000000 in
theorem ok_X5_copy : nv_ok_P M_X5_copy P_X5_copy :=
  nv_oc (n_iload_n (k := 1) (by decide +kernel)) <|
  nv_oc (n_static (M' := M_X5_noSheet) (idx := 216) (n := 1) (by decide +kernel) fn_X5_noSheet st_X5_noSheet l_X5_216 ⟨by decide, by decide⟩) <|
  nv_oc (n_if_ne (off := 10) (tgt := 14) (by decide +kernel) (by decide)) <|
  nv_oc (n_iload_n (k := 3) (by decide +kernel)) <|
  nv_oc (n_static (M' := M_X5_noSheet) (idx := 216) (n := 1) (by decide +kernel) fn_X5_noSheet st_X5_noSheet l_X5_216 ⟨by decide, by decide⟩) <|
  nv_oc (n_if_eq (off := 5) (tgt := 16) (by decide +kernel) (by decide)) <|
  nv_oc (n_iconst (z := -1) (by decide +kernel)) <|
  nv_oc (n_iret (by decide +kernel) rfl) <|
  nv_oc (n_aload_n (k := 0) (by decide +kernel)) <|
  nv_oc (n_getfield (idx := 51) (ci := 5) (k := 9) (N := 10) (D := RX5) (T := TX5) (by decide +kernel) rfl i_X5 (by decide) (by decide) f_X5_51) <|
  nv_oc (n_iload_n (k := 1) (by decide +kernel)) <|
  nv_oc (n_aaload4 (by decide +kernel)) <|
  nv_oc (n_astore (k := 6) (by decide +kernel) (by decide)) <|
  nv_oc (n_aload_n (k := 0) (by decide +kernel)) <|
  nv_oc (n_getfield (idx := 51) (ci := 5) (k := 9) (N := 10) (D := RX5) (T := TX5) (by decide +kernel) rfl i_X5 (by decide) (by decide) f_X5_51) <|
  nv_oc (n_iload_n (k := 3) (by decide +kernel)) <|
  nv_oc (n_aaload4 (by decide +kernel)) <|
  nv_oc (n_astore (k := 7) (by decide +kernel) (by decide)) <|
  nv_oc (n_aload (k := 6) (by decide +kernel)) <|
  nv_oc (n_virtual (M' := M_X3_isNothing) (idx := 243) (n := 0) (ci := 3) (N := 3) (D := RX3) (T := TX3) (by decide +kernel) fn_X3_isNothing fv_X3_isNothing rfl rfl l_X5_243 ⟨by decide, by decide⟩) <|
  nv_oc (n_if_ne (off := 11) (tgt := 48) (by decide +kernel) (by decide)) <|
  nv_oc (n_aload (k := 7) (by decide +kernel)) <|
  nv_oc (n_virtual (M' := M_X3_isNothing) (idx := 243) (n := 0) (ci := 3) (N := 3) (D := RX3) (T := TX3) (by decide +kernel) fn_X3_isNothing fv_X3_isNothing rfl rfl l_X5_243 ⟨by decide, by decide⟩) <|
  nv_oc (n_if_eq (off := 6) (tgt := 51) (by decide +kernel) (by decide)) <|
  nv_oc (n_bipush (z := -11) (by decide +kernel) (by decide)) <|
  nv_oc (n_iret (by decide +kernel) rfl) <|
  nv_oc (n_aload (k := 6) (by decide +kernel)) <|
  nv_oc (n_getfield (idx := 246) (ci := 3) (k := 1) (N := 3) (D := RX3) (T := TX3) (by decide +kernel) rfl i_X3 (by decide) (by decide) f_X5_246) <|
  nv_oc (n_aload (k := 7) (by decide +kernel)) <|
  nv_oc (n_getfield (idx := 246) (ci := 3) (k := 1) (N := 3) (D := RX3) (T := TX3) (by decide +kernel) rfl i_X3 (by decide) (by decide) f_X5_246) <|
  nv_oc (n_icmp_eq (off := 6) (tgt := 67) (by decide +kernel) (by decide)) <|
  nv_oc (n_bipush (z := -12) (by decide +kernel) (by decide)) <|
  nv_oc (n_iret (by decide +kernel) rfl) <|
  nv_oc (n_aload (k := 6) (by decide +kernel)) <|
  nv_oc (n_iload_n (k := 2) (by decide +kernel)) <|
  nv_oc (n_iload (k := 5) (by decide +kernel)) <|
  nv_oc (n_virtual (M' := M_X3_lacks) (idx := 249) (n := 2) (ci := 3) (N := 3) (D := RX3) (T := TX3) (by decide +kernel) fn_X3_lacks fv_X3_lacks rfl rfl l_X5_249 ⟨by decide, by decide⟩) <|
  nv_oc (n_if_ne (off := 15) (tgt := 90) (by decide +kernel) (by decide)) <|
  nv_oc (n_aload (k := 7) (by decide +kernel)) <|
  nv_oc (n_iload (k := 4) (by decide +kernel)) <|
  nv_oc (n_iload (k := 5) (by decide +kernel)) <|
  nv_oc (n_virtual (M' := M_X3_lacks) (idx := 249) (n := 2) (ci := 3) (N := 3) (D := RX3) (T := TX3) (by decide +kernel) fn_X3_lacks fv_X3_lacks rfl rfl l_X5_249 ⟨by decide, by decide⟩) <|
  nv_oc (n_if_eq (off := 6) (tgt := 93) (by decide +kernel) (by decide)) <|
  nv_oc (n_bipush (z := -13) (by decide +kernel) (by decide)) <|
  nv_oc (n_iret (by decide +kernel) rfl) <|
  nv_oc (n_aload (k := 6) (by decide +kernel)) <|
  nv_oc (n_getfield (idx := 253) (ci := 3) (k := 0) (N := 3) (D := RX3) (T := TX3) (by decide +kernel) rfl i_X3 (by decide) (by decide) f_X5_253) <|
  nv_oc (n_iload_n (k := 2) (by decide +kernel)) <|
  nv_oc (n_aload (k := 7) (by decide +kernel)) <|
  nv_oc (n_getfield (idx := 253) (ci := 3) (k := 0) (N := 3) (D := RX3) (T := TX3) (by decide +kernel) rfl i_X3 (by decide) (by decide) f_X5_253) <|
  nv_oc (n_iload (k := 4) (by decide +kernel)) <|
  nv_oc (n_iload (k := 5) (by decide +kernel)) <|
  nv_oc (n_cpl (idx := 257) (by decide +kernel) l_X5_257 w_nat w_natst w_natin (by decide) (by decide)) <|
  nv_oc (n_iload (k := 5) (by decide +kernel)) <|
  nv_oc (n_iret (by decide +kernel) rfl) <|
  nv_on
