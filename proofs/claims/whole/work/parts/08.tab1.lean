def M_X0_passHours : nv_MD := (RX0, yX0_passHours, cX0_passHours, 3, none, 3, 72)
theorem fn_X0_passHours : nv_fn M_X0_passHours 1 := ⟨List.mem_of_getElem? (i := 563) (by decide +kernel), List.mem_of_getElem? (i := 45) (by decide +kernel), by decide +kernel⟩
theorem fv_X0_passHours : nv_fnV M_X0_passHours := ⟨List.mem_of_getElem? (i := 561) (by decide +kernel), List.mem_of_getElem? (i := 562) (by decide +kernel)⟩
def P_X0_passHours : nv_Pg := [(0, s_ki (0) 1), (1, s_is 2 2), (2, s_il 2 3), (3, s_il 1 4), (4, s_ic c_ge 18 7), (7, s_al 0 8), (8, s_cv 0 M_X0_passHour 0 11), (11, s_pop 12), (12, s_inc 2 (1) 15), (15, s_go 2), (18, s_vr)]
set_option maxRecDepth 100000 in
set_option maxHeartbeats 4000000 in
theorem ok_X0_passHours : nv_ok_P M_X0_passHours P_X0_passHours :=
  nv_oc (n_iconst (z := 0) (by decide +kernel)) <|
  nv_oc (n_istore_n (k := 2) (by decide +kernel) (by decide)) <|
  nv_oc (n_iload_n (k := 2) (by decide +kernel)) <|
  nv_oc (n_iload_n (k := 1) (by decide +kernel)) <|
  nv_oc (n_icmp_ge (off := 14) (tgt := 18) (by decide +kernel) (by decide)) <|
  nv_oc (n_aload_n (k := 0) (by decide +kernel)) <|
  nv_oc (n_virtual (M' := M_X0_passHour) (idx := 87) (n := 0) (ci := 0) (N := 11) (D := RX0) (T := TX0) (by decide +kernel) fn_X0_passHour fv_X0_passHour rfl rfl l_X0_87 ⟨by decide, by decide⟩) <|
  nv_oc (n_pop (by decide +kernel)) <|
  nv_oc (n_iinc (k := 2) (d := 1) (by decide +kernel) (by decide)) <|
  nv_oc (n_goto (off := -13) (tgt := 2) (by decide +kernel) (by decide)) <|
  nv_oc (n_vret (by decide +kernel) rfl) <|
  nv_on
def M_X0_drawAndSet : nv_MD := (RX0, yX0_drawAndSet, cX0_drawAndSet, 1, none, 0, 0)
theorem fn_X0_drawAndSet : nv_fn M_X0_drawAndSet 0 := ⟨List.mem_of_getElem? (i := 536) (by decide +kernel), List.mem_of_getElem? (i := 45) (by decide +kernel), by decide +kernel⟩
theorem fv_X0_drawAndSet : nv_fnV M_X0_drawAndSet := ⟨List.mem_of_getElem? (i := 534) (by decide +kernel), List.mem_of_getElem? (i := 535) (by decide +kernel)⟩
def P_X0_drawAndSet : nv_Pg := [(0, s_al 0 1), (1, s_al 0 2), (2, s_gf 0 3 5), (5, s_ki 1103515245 7), (7, s_mul 8), (8, s_ki (12345) 11), (11, s_add 12), (12, s_ki 2147483647 14), (14, s_b nv_and 15), (15, s_pf 0 3 18), (18, s_al 0 19), (19, s_gf 0 0 22), (22, s_if c_le 62 25), (25, s_al 0 26), (26, s_gf 0 1 29), (29, s_if c_le 62 32), (32, s_al 0 33), (33, s_gf 0 9 36), (36, s_al 0 37), (37, s_gf 0 3 40), (40, s_ki 65536 42), (42, s_div 43), (43, s_al 0 44), (44, s_gf 0 1 47), (47, s_rem 48), (48, s_al 0 49), (49, s_gf 0 3 52), (52, s_ki (128) 55), (55, s_div 56), (56, s_al 0 57), (57, s_gf 0 0 60), (60, s_rem 61), (61, s_iw 62), (62, s_vr)]
set_option maxRecDepth 100000 in
set_option maxHeartbeats 4000000 in
theorem ok_X0_drawAndSet : nv_ok_P M_X0_drawAndSet P_X0_drawAndSet :=
  nv_oc (n_aload_n (k := 0) (by decide +kernel)) <|
  nv_oc (n_aload_n (k := 0) (by decide +kernel)) <|
  nv_oc (n_getfield (idx := 9) (ci := 0) (k := 3) (N := 11) (D := RX0) (T := TX0) (by decide +kernel) rfl i_X0 (by decide) (by decide) f_X0_9) <|
  nv_oc (n_ldc (i := 90) (z := 1103515245) (by decide +kernel) k_X0_90) <|
  nv_oc (n_imul (by decide +kernel)) <|
  nv_oc (n_sipush (z := 12345) (by decide +kernel) (by decide)) <|
  nv_oc (n_iadd (by decide +kernel)) <|
  nv_oc (n_ldc (i := 91) (z := 2147483647) (by decide +kernel) k_X0_91) <|
  nv_oc (n_iand (by decide +kernel)) <|
  nv_oc (n_putfield (idx := 9) (ci := 0) (k := 3) (N := 11) (D := RX0) (T := TX0) tyX0 tyX0_ok nmX0 (by decide +kernel) rfl i_X0 (by decide) (by decide) rfl f_X0_9 rfl) <|
  nv_oc (n_aload_n (k := 0) (by decide +kernel)) <|
  nv_oc (n_getfield (idx := 37) (ci := 0) (k := 0) (N := 11) (D := RX0) (T := TX0) (by decide +kernel) rfl i_X0 (by decide) (by decide) f_X0_37) <|
  nv_oc (n_if_le (off := 40) (tgt := 62) (by decide +kernel) (by decide)) <|
  nv_oc (n_aload_n (k := 0) (by decide +kernel)) <|
  nv_oc (n_getfield (idx := 40) (ci := 0) (k := 1) (N := 11) (D := RX0) (T := TX0) (by decide +kernel) rfl i_X0 (by decide) (by decide) f_X0_40) <|
  nv_oc (n_if_le (off := 33) (tgt := 62) (by decide +kernel) (by decide)) <|
  nv_oc (n_aload_n (k := 0) (by decide +kernel)) <|
  nv_oc (n_getfield (idx := 31) (ci := 0) (k := 9) (N := 11) (D := RX0) (T := TX0) (by decide +kernel) rfl i_X0 (by decide) (by decide) f_X0_31) <|
  nv_oc (n_aload_n (k := 0) (by decide +kernel)) <|
  nv_oc (n_getfield (idx := 9) (ci := 0) (k := 3) (N := 11) (D := RX0) (T := TX0) (by decide +kernel) rfl i_X0 (by decide) (by decide) f_X0_9) <|
  nv_oc (n_ldc (i := 92) (z := 65536) (by decide +kernel) k_X0_92) <|
  nv_oc (n_idiv (by decide +kernel)) <|
  nv_oc (n_aload_n (k := 0) (by decide +kernel)) <|
  nv_oc (n_getfield (idx := 40) (ci := 0) (k := 1) (N := 11) (D := RX0) (T := TX0) (by decide +kernel) rfl i_X0 (by decide) (by decide) f_X0_40) <|
  nv_oc (n_irem (by decide +kernel)) <|
  nv_oc (n_aload_n (k := 0) (by decide +kernel)) <|
  nv_oc (n_getfield (idx := 9) (ci := 0) (k := 3) (N := 11) (D := RX0) (T := TX0) (by decide +kernel) rfl i_X0 (by decide) (by decide) f_X0_9) <|
  nv_oc (n_sipush (z := 128) (by decide +kernel) (by decide)) <|
  nv_oc (n_idiv (by decide +kernel)) <|
  nv_oc (n_aload_n (k := 0) (by decide +kernel)) <|
  nv_oc (n_getfield (idx := 37) (ci := 0) (k := 0) (N := 11) (D := RX0) (T := TX0) (by decide +kernel) rfl i_X0 (by decide) (by decide) f_X0_37) <|
  nv_oc (n_irem (by decide +kernel)) <|
  nv_oc (n_iastore (by decide +kernel)) <|
  nv_oc (n_vret (by decide +kernel) rfl) <|
  nv_on
def M_X0_noonWithin : nv_MD := (RX0, yX0_noonWithin, cX0_noonWithin, 5, (some .int), 3, 72)
theorem fn_X0_noonWithin : nv_fn M_X0_noonWithin 2 := ⟨List.mem_of_getElem? (i := 592) (by decide +kernel), List.mem_of_getElem? (i := 45) (by decide +kernel), by decide +kernel⟩
theorem fv_X0_noonWithin : nv_fnV M_X0_noonWithin := ⟨List.mem_of_getElem? (i := 590) (by decide +kernel), List.mem_of_getElem? (i := 591) (by decide +kernel)⟩
def P_X0_noonWithin : nv_Pg := [(0, s_ki (0) 1), (1, s_is 3 2), (2, s_il 3 3), (3, s_il 1 4), (4, s_ic c_gt 46 7), (7, s_al 0 8), (8, s_cv 0 M_X0_leftOfAll 0 11), (11, s_is 4 13), (13, s_il 4 15), (15, s_if c_eq 18 20), (18, s_il 3 19), (19, s_ir), (20, s_il 4 22), (22, s_il 2 23), (23, s_il 1 24), (24, s_il 3 25), (25, s_sub 26), (26, s_mul 27), (27, s_ic c_gt 37 30), (30, s_al 0 31), (31, s_cv 0 M_X0_passHour 0 34), (34, s_if c_eq 37 40), (37, s_ki (61) 39), (39, s_ir), (40, s_inc 3 (1) 43), (43, s_go 2), (46, s_ki (61) 48), (48, s_ir)]
set_option maxRecDepth 100000 in
set_option maxHeartbeats 4000000 in
theorem ok_X0_noonWithin : nv_ok_P M_X0_noonWithin P_X0_noonWithin :=
  nv_oc (n_iconst (z := 0) (by decide +kernel)) <|
  nv_oc (n_istore_n (k := 3) (by decide +kernel) (by decide)) <|
  nv_oc (n_iload_n (k := 3) (by decide +kernel)) <|
  nv_oc (n_iload_n (k := 1) (by decide +kernel)) <|
  nv_oc (n_icmp_gt (off := 42) (tgt := 46) (by decide +kernel) (by decide)) <|
  nv_oc (n_aload_n (k := 0) (by decide +kernel)) <|
  nv_oc (n_virtual (M' := M_X0_leftOfAll) (idx := 93) (n := 0) (ci := 0) (N := 11) (D := RX0) (T := TX0) (by decide +kernel) fn_X0_leftOfAll fv_X0_leftOfAll rfl rfl l_X0_93 ⟨by decide, by decide⟩) <|
  nv_oc (n_istore (k := 4) (by decide +kernel) (by decide)) <|
  nv_oc (n_iload (k := 4) (by decide +kernel)) <|
  nv_oc (n_if_ne (off := 5) (tgt := 20) (by decide +kernel) (by decide)) <|
  nv_oc (n_iload_n (k := 3) (by decide +kernel)) <|
  nv_oc (n_iret (by decide +kernel) rfl) <|
  nv_oc (n_iload (k := 4) (by decide +kernel)) <|
  nv_oc (n_iload_n (k := 2) (by decide +kernel)) <|
  nv_oc (n_iload_n (k := 1) (by decide +kernel)) <|
  nv_oc (n_iload_n (k := 3) (by decide +kernel)) <|
  nv_oc (n_isub (by decide +kernel)) <|
  nv_oc (n_imul (by decide +kernel)) <|
  nv_oc (n_icmp_gt (off := 10) (tgt := 37) (by decide +kernel) (by decide)) <|
  nv_oc (n_aload_n (k := 0) (by decide +kernel)) <|
  nv_oc (n_virtual (M' := M_X0_passHour) (idx := 87) (n := 0) (ci := 0) (N := 11) (D := RX0) (T := TX0) (by decide +kernel) fn_X0_passHour fv_X0_passHour rfl rfl l_X0_87 ⟨by decide, by decide⟩) <|
  nv_oc (n_if_ne (off := 6) (tgt := 40) (by decide +kernel) (by decide)) <|
  nv_oc (n_bipush (z := 61) (by decide +kernel) (by decide)) <|
  nv_oc (n_iret (by decide +kernel) rfl) <|
  nv_oc (n_iinc (k := 3) (d := 1) (by decide +kernel) (by decide)) <|
  nv_oc (n_goto (off := -41) (tgt := 2) (by decide +kernel) (by decide)) <|
  nv_oc (n_bipush (z := 61) (by decide +kernel) (by decide)) <|
  nv_oc (n_iret (by decide +kernel) rfl) <|
  nv_on
def M_J6_bitCount_0f7a4 : nv_MD := (RJ6, yJ6_bitCount_0f7a4, cJ6_bitCount_0f7a4, 1, (some .int), 0, 0)
theorem fn_J6_bitCount_0f7a4 : nv_fn M_J6_bitCount_0f7a4 1 := ⟨List.mem_of_getElem? (i := 635) (by decide +kernel), List.mem_of_getElem? (i := 58) (by decide +kernel), by decide +kernel⟩
theorem st_J6_bitCount_0f7a4 : Cond.static (nv_y M_J6_bitCount_0f7a4) ∈ lw_tbl := List.mem_of_getElem? (i := 634) (by decide +kernel)
def P_J6_bitCount_0f7a4 : nv_Pg := [(0, s_il 0 1), (1, s_il 0 2), (2, s_ki (1) 3), (3, s_su 4), (4, s_ki 1431655765 7), (7, s_b nv_and 8), (8, s_sub 9), (9, s_is 0 10), (10, s_il 0 11), (11, s_ki 858993459 14), (14, s_b nv_and 15), (15, s_il 0 16), (16, s_ki (2) 17), (17, s_su 18), (18, s_ki 858993459 21), (21, s_b nv_and 22), (22, s_add 23), (23, s_is 0 24), (24, s_il 0 25), (25, s_il 0 26), (26, s_ki (4) 27), (27, s_su 28), (28, s_add 29), (29, s_ki 252645135 32), (32, s_b nv_and 33), (33, s_is 0 34), (34, s_il 0 35), (35, s_il 0 36), (36, s_ki (8) 38), (38, s_su 39), (39, s_add 40), (40, s_is 0 41), (41, s_il 0 42), (42, s_il 0 43), (43, s_ki (16) 45), (45, s_su 46), (46, s_add 47), (47, s_is 0 48), (48, s_il 0 49), (49, s_ki (63) 51), (51, s_b nv_and 52), (52, s_ir)]
set_option maxRecDepth 100000 in
set_option maxHeartbeats 4000000 in
theorem ok_J6_bitCount_0f7a4 : nv_ok_P M_J6_bitCount_0f7a4 P_J6_bitCount_0f7a4 :=
  nv_oc (n_iload_n (k := 0) (by decide +kernel)) <|
  nv_oc (n_iload_n (k := 0) (by decide +kernel)) <|
  nv_oc (n_iconst (z := 1) (by decide +kernel)) <|
  nv_oc (n_iushr (by decide +kernel)) <|
  nv_oc (n_ldc_w (i := 265) (z := 1431655765) (by decide +kernel) k_J6_265) <|
  nv_oc (n_iand (by decide +kernel)) <|
  nv_oc (n_isub (by decide +kernel)) <|
  nv_oc (n_istore_n (k := 0) (by decide +kernel) (by decide)) <|
  nv_oc (n_iload_n (k := 0) (by decide +kernel)) <|
  nv_oc (n_ldc_w (i := 266) (z := 858993459) (by decide +kernel) k_J6_266) <|
  nv_oc (n_iand (by decide +kernel)) <|
  nv_oc (n_iload_n (k := 0) (by decide +kernel)) <|
  nv_oc (n_iconst (z := 2) (by decide +kernel)) <|
  nv_oc (n_iushr (by decide +kernel)) <|
  nv_oc (n_ldc_w (i := 266) (z := 858993459) (by decide +kernel) k_J6_266) <|
  nv_oc (n_iand (by decide +kernel)) <|
  nv_oc (n_iadd (by decide +kernel)) <|
  nv_oc (n_istore_n (k := 0) (by decide +kernel) (by decide)) <|
  nv_oc (n_iload_n (k := 0) (by decide +kernel)) <|
  nv_oc (n_iload_n (k := 0) (by decide +kernel)) <|
  nv_oc (n_iconst (z := 4) (by decide +kernel)) <|
  nv_oc (n_iushr (by decide +kernel)) <|
  nv_oc (n_iadd (by decide +kernel)) <|
  nv_oc (n_ldc_w (i := 267) (z := 252645135) (by decide +kernel) k_J6_267) <|
  nv_oc (n_iand (by decide +kernel)) <|
  nv_oc (n_istore_n (k := 0) (by decide +kernel) (by decide)) <|
  nv_oc (n_iload_n (k := 0) (by decide +kernel)) <|
  nv_oc (n_iload_n (k := 0) (by decide +kernel)) <|
  nv_oc (n_bipush (z := 8) (by decide +kernel) (by decide)) <|
  nv_oc (n_iushr (by decide +kernel)) <|
  nv_oc (n_iadd (by decide +kernel)) <|
  nv_oc (n_istore_n (k := 0) (by decide +kernel) (by decide)) <|
  nv_oc (n_iload_n (k := 0) (by decide +kernel)) <|
  nv_oc (n_iload_n (k := 0) (by decide +kernel)) <|
  nv_oc (n_bipush (z := 16) (by decide +kernel) (by decide)) <|
  nv_oc (n_iushr (by decide +kernel)) <|
  nv_oc (n_iadd (by decide +kernel)) <|
  nv_oc (n_istore_n (k := 0) (by decide +kernel) (by decide)) <|
  nv_oc (n_iload_n (k := 0) (by decide +kernel)) <|
  nv_oc (n_bipush (z := 63) (by decide +kernel) (by decide)) <|
  nv_oc (n_iand (by decide +kernel)) <|
  nv_oc (n_iret (by decide +kernel) rfl) <|
  nv_on
def M_X0_standingBehind : nv_MD := (RX0, yX0_standingBehind, cX0_standingBehind, 4, (some .int), 3, 72)
theorem fn_X0_standingBehind : nv_fn M_X0_standingBehind 1 := ⟨List.mem_of_getElem? (i := 631) (by decide +kernel), List.mem_of_getElem? (i := 45) (by decide +kernel), by decide +kernel⟩
theorem fv_X0_standingBehind : nv_fnV M_X0_standingBehind := ⟨List.mem_of_getElem? (i := 629) (by decide +kernel), List.mem_of_getElem? (i := 630) (by decide +kernel)⟩
def P_X0_standingBehind : nv_Pg := [(0, s_ki (1) 1), (1, s_is 2 2), (2, s_ki (0) 3), (3, s_is 3 4), (4, s_il 3 5), (5, s_il 1 6), (6, s_ic c_ge 24 9), (9, s_il 2 10), (10, s_if c_eq 24 13), (13, s_al 0 14), (14, s_cv 0 M_X0_passHour 0 17), (17, s_is 2 18), (18, s_inc 3 (1) 21), (21, s_go 4), (24, s_al 0 25), (25, s_gf 0 0 28), (28, s_al 0 29), (29, s_cv 0 M_X0_fallenSet 0 32), (32, s_cs M_J6_bitCount_0f7a4 1 35), (35, s_sub 36), (36, s_ir)]
set_option maxRecDepth 100000 in
set_option maxHeartbeats 4000000 in
theorem ok_X0_standingBehind : nv_ok_P M_X0_standingBehind P_X0_standingBehind :=
  nv_oc (n_iconst (z := 1) (by decide +kernel)) <|
  nv_oc (n_istore_n (k := 2) (by decide +kernel) (by decide)) <|
  nv_oc (n_iconst (z := 0) (by decide +kernel)) <|
  nv_oc (n_istore_n (k := 3) (by decide +kernel) (by decide)) <|
  nv_oc (n_iload_n (k := 3) (by decide +kernel)) <|
  nv_oc (n_iload_n (k := 1) (by decide +kernel)) <|
  nv_oc (n_icmp_ge (off := 18) (tgt := 24) (by decide +kernel) (by decide)) <|
  nv_oc (n_iload_n (k := 2) (by decide +kernel)) <|
  nv_oc (n_if_eq (off := 14) (tgt := 24) (by decide +kernel) (by decide)) <|
  nv_oc (n_aload_n (k := 0) (by decide +kernel)) <|
  nv_oc (n_virtual (M' := M_X0_passHour) (idx := 87) (n := 0) (ci := 0) (N := 11) (D := RX0) (T := TX0) (by decide +kernel) fn_X0_passHour fv_X0_passHour rfl rfl l_X0_87 ⟨by decide, by decide⟩) <|
  nv_oc (n_istore_n (k := 2) (by decide +kernel) (by decide)) <|
  nv_oc (n_iinc (k := 3) (d := 1) (by decide +kernel) (by decide)) <|
  nv_oc (n_goto (off := -17) (tgt := 4) (by decide +kernel) (by decide)) <|
  nv_oc (n_aload_n (k := 0) (by decide +kernel)) <|
  nv_oc (n_getfield (idx := 37) (ci := 0) (k := 0) (N := 11) (D := RX0) (T := TX0) (by decide +kernel) rfl i_X0 (by decide) (by decide) f_X0_37) <|
  nv_oc (n_aload_n (k := 0) (by decide +kernel)) <|
  nv_oc (n_virtual (M' := M_X0_fallenSet) (idx := 96) (n := 0) (ci := 0) (N := 11) (D := RX0) (T := TX0) (by decide +kernel) fn_X0_fallenSet fv_X0_fallenSet rfl rfl l_X0_96 ⟨by decide, by decide⟩) <|
  nv_oc (n_static (M' := M_J6_bitCount_0f7a4) (idx := 99) (n := 1) (by decide +kernel) fn_J6_bitCount_0f7a4 st_J6_bitCount_0f7a4 l_X0_99 ⟨by decide, by decide⟩) <|
  nv_oc (n_isub (by decide +kernel)) <|
  nv_oc (n_iret (by decide +kernel) rfl) <|
  nv_on
def M_X1_forget : nv_MD := (RX1, yX1_forget, cX1_forget, 1, none, 0, 0)
theorem fn_X1_forget : nv_fn M_X1_forget 0 := ⟨List.mem_of_getElem? (i := 258) (by decide +kernel), List.mem_of_getElem? (i := 46) (by decide +kernel), by decide +kernel⟩
theorem fv_X1_forget : nv_fnV M_X1_forget := ⟨List.mem_of_getElem? (i := 256) (by decide +kernel), List.mem_of_getElem? (i := 257) (by decide +kernel)⟩
def P_X1_forget : nv_Pg := [(0, s_al 0 1), (1, s_ki (0) 2), (2, s_pf 1 1 5), (5, s_vr)]
set_option maxRecDepth 100000 in
set_option maxHeartbeats 4000000 in
theorem ok_X1_forget : nv_ok_P M_X1_forget P_X1_forget :=
  nv_oc (n_aload_n (k := 0) (by decide +kernel)) <|
  nv_oc (n_iconst (z := 0) (by decide +kernel)) <|
  nv_oc (n_putfield (idx := 16) (ci := 1) (k := 1) (N := 3) (D := RX1) (T := TX1) tyX1 tyX1_ok nmX1 (by decide +kernel) rfl i_X1 (by decide) (by decide) rfl f_X1_16 rfl) <|
  nv_oc (n_vret (by decide +kernel) rfl) <|
  nv_on
def M_X1_keep : nv_MD := (RX1, yX1_keep, cX1_keep, 2, none, 2, 61)
theorem fn_X1_keep : nv_fn M_X1_keep 1 := ⟨List.mem_of_getElem? (i := 491) (by decide +kernel), List.mem_of_getElem? (i := 46) (by decide +kernel), by decide +kernel⟩
theorem fv_X1_keep : nv_fnV M_X1_keep := ⟨List.mem_of_getElem? (i := 489) (by decide +kernel), List.mem_of_getElem? (i := 490) (by decide +kernel)⟩
def P_X1_keep : nv_Pg := [(0, s_al 0 1), (1, s_gf 1 0 4), (4, s_al 0 5), (5, s_gf 1 2 8), (8, s_a3 9), (9, s_al 1 10), (10, s_cv 0 M_X0_takeMoment 1 13), (13, s_al 0 14), (14, s_al 0 15), (15, s_gf 1 2 18), (18, s_ki (1) 19), (19, s_add 20), (20, s_ki (8) 22), (22, s_rem 23), (23, s_pf 1 2 26), (26, s_al 0 27), (27, s_ki (8) 29), (29, s_al 0 30), (30, s_gf 1 1 33), (33, s_ki (1) 34), (34, s_add 35), (35, s_min 38), (38, s_pf 1 1 41), (41, s_vr)]
set_option maxRecDepth 100000 in
set_option maxHeartbeats 4000000 in
theorem ok_X1_keep : nv_ok_P M_X1_keep P_X1_keep :=
  nv_oc (n_aload_n (k := 0) (by decide +kernel)) <|
  nv_oc (n_getfield (idx := 11) (ci := 1) (k := 0) (N := 3) (D := RX1) (T := TX1) (by decide +kernel) rfl i_X1 (by decide) (by decide) f_X1_11) <|
  nv_oc (n_aload_n (k := 0) (by decide +kernel)) <|
  nv_oc (n_getfield (idx := 20) (ci := 1) (k := 2) (N := 3) (D := RX1) (T := TX1) (by decide +kernel) rfl i_X1 (by decide) (by decide) f_X1_20) <|
  nv_oc (n_aaload3 (by decide +kernel)) <|
  nv_oc (n_aload_n (k := 1) (by decide +kernel)) <|
  nv_oc (n_virtual (M' := M_X0_takeMoment) (idx := 23) (n := 1) (ci := 0) (N := 11) (D := RX0) (T := TX0) (by decide +kernel) fn_X0_takeMoment fv_X0_takeMoment rfl rfl l_X1_23 ⟨by decide, by decide⟩) <|
  nv_oc (n_aload_n (k := 0) (by decide +kernel)) <|
  nv_oc (n_aload_n (k := 0) (by decide +kernel)) <|
  nv_oc (n_getfield (idx := 20) (ci := 1) (k := 2) (N := 3) (D := RX1) (T := TX1) (by decide +kernel) rfl i_X1 (by decide) (by decide) f_X1_20) <|
  nv_oc (n_iconst (z := 1) (by decide +kernel)) <|
  nv_oc (n_iadd (by decide +kernel)) <|
  nv_oc (n_bipush (z := 8) (by decide +kernel) (by decide)) <|
  nv_oc (n_irem (by decide +kernel)) <|
  nv_oc (n_putfield (idx := 20) (ci := 1) (k := 2) (N := 3) (D := RX1) (T := TX1) tyX1 tyX1_ok nmX1 (by decide +kernel) rfl i_X1 (by decide) (by decide) rfl f_X1_20 rfl) <|
  nv_oc (n_aload_n (k := 0) (by decide +kernel)) <|
  nv_oc (n_bipush (z := 8) (by decide +kernel) (by decide)) <|
  nv_oc (n_aload_n (k := 0) (by decide +kernel)) <|
  nv_oc (n_getfield (idx := 16) (ci := 1) (k := 1) (N := 3) (D := RX1) (T := TX1) (by decide +kernel) rfl i_X1 (by decide) (by decide) f_X1_16) <|
  nv_oc (n_iconst (z := 1) (by decide +kernel)) <|
  nv_oc (n_iadd (by decide +kernel)) <|
  nv_oc (n_min (idx := 27) (by decide +kernel) l_X1_27 (by decide) (by decide)) <|
  nv_oc (n_putfield (idx := 16) (ci := 1) (k := 1) (N := 3) (D := RX1) (T := TX1) tyX1 tyX1_ok nmX1 (by decide +kernel) rfl i_X1 (by decide) (by decide) rfl f_X1_16 rfl) <|
  nv_oc (n_vret (by decide +kernel) rfl) <|
  nv_on
def M_X1_giveBack : nv_MD := (RX1, yX1_giveBack, cX1_giveBack, 2, (some .boolean), 2, 61)
theorem fn_X1_giveBack : nv_fn M_X1_giveBack 1 := ⟨List.mem_of_getElem? (i := 547) (by decide +kernel), List.mem_of_getElem? (i := 46) (by decide +kernel), by decide +kernel⟩
theorem fv_X1_giveBack : nv_fnV M_X1_giveBack := ⟨List.mem_of_getElem? (i := 545) (by decide +kernel), List.mem_of_getElem? (i := 546) (by decide +kernel)⟩
def P_X1_giveBack : nv_Pg := [(0, s_al 0 1), (1, s_gf 1 1 4), (4, s_if c_eq 7 9), (7, s_ki (0) 8), (8, s_zr), (9, s_al 0 10), (10, s_dup 11), (11, s_gf 1 1 14), (14, s_ki (1) 15), (15, s_sub 16), (16, s_pf 1 1 19), (19, s_al 0 20), (20, s_al 0 21), (21, s_gf 1 2 24), (24, s_ki (8) 26), (26, s_add 27), (27, s_ki (1) 28), (28, s_sub 29), (29, s_ki (8) 31), (31, s_rem 32), (32, s_pf 1 2 35), (35, s_al 1 36), (36, s_al 0 37), (37, s_gf 1 0 40), (40, s_al 0 41), (41, s_gf 1 2 44), (44, s_a3 45), (45, s_cv 0 M_X0_takeMoment 1 48), (48, s_ki (1) 49), (49, s_zr)]
set_option maxRecDepth 100000 in
set_option maxHeartbeats 4000000 in
theorem ok_X1_giveBack : nv_ok_P M_X1_giveBack P_X1_giveBack :=
  nv_oc (n_aload_n (k := 0) (by decide +kernel)) <|
  nv_oc (n_getfield (idx := 16) (ci := 1) (k := 1) (N := 3) (D := RX1) (T := TX1) (by decide +kernel) rfl i_X1 (by decide) (by decide) f_X1_16) <|
  nv_oc (n_if_ne (off := 5) (tgt := 9) (by decide +kernel) (by decide)) <|
  nv_oc (n_iconst (z := 0) (by decide +kernel)) <|
  nv_oc (n_zret (by decide +kernel) rfl) <|
  nv_oc (n_aload_n (k := 0) (by decide +kernel)) <|
  nv_oc (n_dup (by decide +kernel)) <|
  nv_oc (n_getfield (idx := 16) (ci := 1) (k := 1) (N := 3) (D := RX1) (T := TX1) (by decide +kernel) rfl i_X1 (by decide) (by decide) f_X1_16) <|
  nv_oc (n_iconst (z := 1) (by decide +kernel)) <|
  nv_oc (n_isub (by decide +kernel)) <|
  nv_oc (n_putfield (idx := 16) (ci := 1) (k := 1) (N := 3) (D := RX1) (T := TX1) tyX1 tyX1_ok nmX1 (by decide +kernel) rfl i_X1 (by decide) (by decide) rfl f_X1_16 rfl) <|
  nv_oc (n_aload_n (k := 0) (by decide +kernel)) <|
  nv_oc (n_aload_n (k := 0) (by decide +kernel)) <|
  nv_oc (n_getfield (idx := 20) (ci := 1) (k := 2) (N := 3) (D := RX1) (T := TX1) (by decide +kernel) rfl i_X1 (by decide) (by decide) f_X1_20) <|
  nv_oc (n_bipush (z := 8) (by decide +kernel) (by decide)) <|
  nv_oc (n_iadd (by decide +kernel)) <|
  nv_oc (n_iconst (z := 1) (by decide +kernel)) <|
  nv_oc (n_isub (by decide +kernel)) <|
  nv_oc (n_bipush (z := 8) (by decide +kernel) (by decide)) <|
  nv_oc (n_irem (by decide +kernel)) <|
  nv_oc (n_putfield (idx := 20) (ci := 1) (k := 2) (N := 3) (D := RX1) (T := TX1) tyX1 tyX1_ok nmX1 (by decide +kernel) rfl i_X1 (by decide) (by decide) rfl f_X1_20 rfl) <|
  nv_oc (n_aload_n (k := 1) (by decide +kernel)) <|
  nv_oc (n_aload_n (k := 0) (by decide +kernel)) <|
  nv_oc (n_getfield (idx := 11) (ci := 1) (k := 0) (N := 3) (D := RX1) (T := TX1) (by decide +kernel) rfl i_X1 (by decide) (by decide) f_X1_11) <|
  nv_oc (n_aload_n (k := 0) (by decide +kernel)) <|
  nv_oc (n_getfield (idx := 20) (ci := 1) (k := 2) (N := 3) (D := RX1) (T := TX1) (by decide +kernel) rfl i_X1 (by decide) (by decide) f_X1_20) <|
  nv_oc (n_aaload3 (by decide +kernel)) <|
  nv_oc (n_virtual (M' := M_X0_takeMoment) (idx := 23) (n := 1) (ci := 0) (N := 11) (D := RX0) (T := TX0) (by decide +kernel) fn_X0_takeMoment fv_X0_takeMoment rfl rfl l_X1_23 ⟨by decide, by decide⟩) <|
  nv_oc (n_iconst (z := 1) (by decide +kernel)) <|
  nv_oc (n_zret (by decide +kernel) rfl) <|
  nv_on
def M_X1_takePast : nv_MD := (RX1, yX1_takePast, cX1_takePast, 3, none, 2, 61)
theorem fn_X1_takePast : nv_fn M_X1_takePast 1 := ⟨List.mem_of_getElem? (i := 682) (by decide +kernel), List.mem_of_getElem? (i := 46) (by decide +kernel), by decide +kernel⟩
theorem fv_X1_takePast : nv_fnV M_X1_takePast := ⟨List.mem_of_getElem? (i := 680) (by decide +kernel), List.mem_of_getElem? (i := 681) (by decide +kernel)⟩
def P_X1_takePast : nv_Pg := [(0, s_al 0 1), (1, s_al 1 2), (2, s_gf 1 1 5), (5, s_pf 1 1 8), (8, s_al 0 9), (9, s_al 1 10), (10, s_gf 1 2 13), (13, s_pf 1 2 16), (16, s_ki (0) 17), (17, s_is 2 18), (18, s_il 2 19), (19, s_ki (8) 21), (21, s_ic c_ge 45 24), (24, s_al 0 25), (25, s_gf 1 0 28), (28, s_il 2 29), (29, s_a3 30), (30, s_al 1 31), (31, s_gf 1 0 34), (34, s_il 2 35), (35, s_a3 36), (36, s_cv 0 M_X0_takeMoment 1 39), (39, s_inc 2 (1) 42), (42, s_go 18), (45, s_vr)]
set_option maxRecDepth 100000 in
set_option maxHeartbeats 4000000 in
theorem ok_X1_takePast : nv_ok_P M_X1_takePast P_X1_takePast :=
  nv_oc (n_aload_n (k := 0) (by decide +kernel)) <|
  nv_oc (n_aload_n (k := 1) (by decide +kernel)) <|
  nv_oc (n_getfield (idx := 16) (ci := 1) (k := 1) (N := 3) (D := RX1) (T := TX1) (by decide +kernel) rfl i_X1 (by decide) (by decide) f_X1_16) <|
  nv_oc (n_putfield (idx := 16) (ci := 1) (k := 1) (N := 3) (D := RX1) (T := TX1) tyX1 tyX1_ok nmX1 (by decide +kernel) rfl i_X1 (by decide) (by decide) rfl f_X1_16 rfl) <|
  nv_oc (n_aload_n (k := 0) (by decide +kernel)) <|
  nv_oc (n_aload_n (k := 1) (by decide +kernel)) <|
  nv_oc (n_getfield (idx := 20) (ci := 1) (k := 2) (N := 3) (D := RX1) (T := TX1) (by decide +kernel) rfl i_X1 (by decide) (by decide) f_X1_20) <|
  nv_oc (n_putfield (idx := 20) (ci := 1) (k := 2) (N := 3) (D := RX1) (T := TX1) tyX1 tyX1_ok nmX1 (by decide +kernel) rfl i_X1 (by decide) (by decide) rfl f_X1_20 rfl) <|
  nv_oc (n_iconst (z := 0) (by decide +kernel)) <|
  nv_oc (n_istore_n (k := 2) (by decide +kernel) (by decide)) <|
  nv_oc (n_iload_n (k := 2) (by decide +kernel)) <|
  nv_oc (n_bipush (z := 8) (by decide +kernel) (by decide)) <|
  nv_oc (n_icmp_ge (off := 24) (tgt := 45) (by decide +kernel) (by decide)) <|
  nv_oc (n_aload_n (k := 0) (by decide +kernel)) <|
  nv_oc (n_getfield (idx := 11) (ci := 1) (k := 0) (N := 3) (D := RX1) (T := TX1) (by decide +kernel) rfl i_X1 (by decide) (by decide) f_X1_11) <|
  nv_oc (n_iload_n (k := 2) (by decide +kernel)) <|
  nv_oc (n_aaload3 (by decide +kernel)) <|
  nv_oc (n_aload_n (k := 1) (by decide +kernel)) <|
  nv_oc (n_getfield (idx := 11) (ci := 1) (k := 0) (N := 3) (D := RX1) (T := TX1) (by decide +kernel) rfl i_X1 (by decide) (by decide) f_X1_11) <|
  nv_oc (n_iload_n (k := 2) (by decide +kernel)) <|
  nv_oc (n_aaload3 (by decide +kernel)) <|
  nv_oc (n_virtual (M' := M_X0_takeMoment) (idx := 23) (n := 1) (ci := 0) (N := 11) (D := RX0) (T := TX0) (by decide +kernel) fn_X0_takeMoment fv_X0_takeMoment rfl rfl l_X1_23 ⟨by decide, by decide⟩) <|
  nv_oc (n_iinc (k := 2) (d := 1) (by decide +kernel) (by decide)) <|
  nv_oc (n_goto (off := -24) (tgt := 18) (by decide +kernel) (by decide)) <|
  nv_oc (n_vret (by decide +kernel) rfl) <|
  nv_on
def M_X2_told : nv_MD := (RX2, yX2_told, cX2_told, 2, (some .int), 0, 0)
theorem fn_X2_told : nv_fn M_X2_told 1 := ⟨List.mem_of_getElem? (i := 648) (by decide +kernel), List.mem_of_getElem? (i := 47) (by decide +kernel), by decide +kernel⟩
theorem fv_X2_told : nv_fnV M_X2_told := ⟨List.mem_of_getElem? (i := 646) (by decide +kernel), List.mem_of_getElem? (i := 647) (by decide +kernel)⟩
def P_X2_told : nv_Pg := [(0, s_il 1 1), (1, s_if c_ge 11 4), (4, s_al 0 5), (5, s_gf 2 6 8), (8, s_go 17), (11, s_al 0 12), (12, s_gf 2 2 15), (15, s_il 1 16), (16, s_ia 17), (17, s_ir)]
set_option maxRecDepth 100000 in
set_option maxHeartbeats 4000000 in
theorem ok_X2_told : nv_ok_P M_X2_told P_X2_told :=
  nv_oc (n_iload_n (k := 1) (by decide +kernel)) <|
  nv_oc (n_if_ge (off := 10) (tgt := 11) (by decide +kernel) (by decide)) <|
  nv_oc (n_aload_n (k := 0) (by decide +kernel)) <|
  nv_oc (n_getfield (idx := 25) (ci := 2) (k := 6) (N := 8) (D := RX2) (T := TX2) (by decide +kernel) rfl i_X2 (by decide) (by decide) f_X2_25) <|
  nv_oc (n_goto (off := 9) (tgt := 17) (by decide +kernel) (by decide)) <|
  nv_oc (n_aload_n (k := 0) (by decide +kernel)) <|
  nv_oc (n_getfield (idx := 22) (ci := 2) (k := 2) (N := 8) (D := RX2) (T := TX2) (by decide +kernel) rfl i_X2 (by decide) (by decide) f_X2_22) <|
  nv_oc (n_iload_n (k := 1) (by decide +kernel)) <|
  nv_oc (n_iaload (by decide +kernel)) <|
  nv_oc (n_iret (by decide +kernel) rfl) <|
  nv_on
def M_X5_power : nv_MD := (RX5, yX5_power, cX5_power, 4, (some .int), 0, 0)
theorem fn_X5_power : nv_fn M_X5_power 2 := ⟨List.mem_of_getElem? (i := 617) (by decide +kernel), List.mem_of_getElem? (i := 44) (by decide +kernel), by decide +kernel⟩
theorem st_X5_power : Cond.static (nv_y M_X5_power) ∈ lw_tbl := List.mem_of_getElem? (i := 616) (by decide +kernel)
def P_X5_power : nv_Pg := [(0, s_ki (1) 1), (1, s_is 2 2), (2, s_ki (0) 3), (3, s_is 3 4), (4, s_il 3 5), (5, s_il 1 6), (6, s_ic c_ge 19 9), (9, s_il 2 10), (10, s_il 0 11), (11, s_mul 12), (12, s_is 2 13), (13, s_inc 3 (1) 16), (16, s_go 4), (19, s_il 2 20), (20, s_ir)]
set_option maxRecDepth 100000 in
set_option maxHeartbeats 4000000 in
theorem ok_X5_power : nv_ok_P M_X5_power P_X5_power :=
  nv_oc (n_iconst (z := 1) (by decide +kernel)) <|
  nv_oc (n_istore_n (k := 2) (by decide +kernel) (by decide)) <|
  nv_oc (n_iconst (z := 0) (by decide +kernel)) <|
  nv_oc (n_istore_n (k := 3) (by decide +kernel) (by decide)) <|
  nv_oc (n_iload_n (k := 3) (by decide +kernel)) <|
  nv_oc (n_iload_n (k := 1) (by decide +kernel)) <|
  nv_oc (n_icmp_ge (off := 13) (tgt := 19) (by decide +kernel) (by decide)) <|
  nv_oc (n_iload_n (k := 2) (by decide +kernel)) <|
  nv_oc (n_iload_n (k := 0) (by decide +kernel)) <|
  nv_oc (n_imul (by decide +kernel)) <|
  nv_oc (n_istore_n (k := 2) (by decide +kernel) (by decide)) <|
  nv_oc (n_iinc (k := 3) (d := 1) (by decide +kernel) (by decide)) <|
  nv_oc (n_goto (off := -12) (tgt := 4) (by decide +kernel) (by decide)) <|
  nv_oc (n_iload_n (k := 2) (by decide +kernel)) <|
  nv_oc (n_iret (by decide +kernel) rfl) <|
  nv_on
def M_X2_movesNow : nv_MD := (RX2, yX2_movesNow, cX2_movesNow, 3, (some .int), 0, 0)
theorem fn_X2_movesNow : nv_fn M_X2_movesNow 0 := ⟨List.mem_of_getElem? (i := 625) (by decide +kernel), List.mem_of_getElem? (i := 47) (by decide +kernel), by decide +kernel⟩
theorem fv_X2_movesNow : nv_fnV M_X2_movesNow := ⟨List.mem_of_getElem? (i := 624) (by decide +kernel), List.mem_of_getElem? (i := 19) (by decide +kernel)⟩
def P_X2_movesNow : nv_Pg := [(0, s_ki (0) 1), (1, s_is 1 2), (2, s_ki (0) 3), (3, s_is 2 4), (4, s_il 2 5), (5, s_al 0 6), (6, s_gf 2 0 9), (9, s_gf 0 1 12), (12, s_ic c_ge 42 15), (15, s_al 0 16), (16, s_gf 2 1 19), (19, s_il 2 20), (20, s_ia 21), (21, s_al 0 22), (22, s_gf 2 0 25), (25, s_gf 0 9 28), (28, s_il 2 29), (29, s_ia 30), (30, s_ic c_eq 36 33), (33, s_inc 1 (1) 36), (36, s_inc 2 (1) 39), (39, s_go 4), (42, s_il 1 43), (43, s_ir)]
set_option maxRecDepth 100000 in
set_option maxHeartbeats 4000000 in
theorem ok_X2_movesNow : nv_ok_P M_X2_movesNow P_X2_movesNow :=
  nv_oc (n_iconst (z := 0) (by decide +kernel)) <|
  nv_oc (n_istore_n (k := 1) (by decide +kernel) (by decide)) <|
  nv_oc (n_iconst (z := 0) (by decide +kernel)) <|
  nv_oc (n_istore_n (k := 2) (by decide +kernel) (by decide)) <|
  nv_oc (n_iload_n (k := 2) (by decide +kernel)) <|
  nv_oc (n_aload_n (k := 0) (by decide +kernel)) <|
  nv_oc (n_getfield (idx := 12) (ci := 2) (k := 0) (N := 8) (D := RX2) (T := TX2) (by decide +kernel) rfl i_X2 (by decide) (by decide) f_X2_12) <|
  nv_oc (n_getfield (idx := 56) (ci := 0) (k := 1) (N := 11) (D := RX0) (T := TX0) (by decide +kernel) rfl i_X0 (by decide) (by decide) f_X2_56) <|
  nv_oc (n_icmp_ge (off := 30) (tgt := 42) (by decide +kernel) (by decide)) <|
  nv_oc (n_aload_n (k := 0) (by decide +kernel)) <|
  nv_oc (n_getfield (idx := 18) (ci := 2) (k := 1) (N := 8) (D := RX2) (T := TX2) (by decide +kernel) rfl i_X2 (by decide) (by decide) f_X2_18) <|
  nv_oc (n_iload_n (k := 2) (by decide +kernel)) <|
  nv_oc (n_iaload (by decide +kernel)) <|
  nv_oc (n_aload_n (k := 0) (by decide +kernel)) <|
  nv_oc (n_getfield (idx := 12) (ci := 2) (k := 0) (N := 8) (D := RX2) (T := TX2) (by decide +kernel) rfl i_X2 (by decide) (by decide) f_X2_12) <|
  nv_oc (n_getfield (idx := 75) (ci := 0) (k := 9) (N := 11) (D := RX0) (T := TX0) (by decide +kernel) rfl i_X0 (by decide) (by decide) f_X2_75) <|
  nv_oc (n_iload_n (k := 2) (by decide +kernel)) <|
  nv_oc (n_iaload (by decide +kernel)) <|
  nv_oc (n_icmp_eq (off := 6) (tgt := 36) (by decide +kernel) (by decide)) <|
  nv_oc (n_iinc (k := 1) (d := 1) (by decide +kernel) (by decide)) <|
  nv_oc (n_iinc (k := 2) (d := 1) (by decide +kernel) (by decide)) <|
  nv_oc (n_goto (off := -35) (tgt := 4) (by decide +kernel) (by decide)) <|
  nv_oc (n_iload_n (k := 1) (by decide +kernel)) <|
  nv_oc (n_iret (by decide +kernel) rfl) <|
  nv_on
def M_X2_weigh : nv_MD := (RX2, yX2_weigh, cX2_weigh, 5, none, 4, 96)
theorem fn_X2_weigh : nv_fn M_X2_weigh 1 := ⟨List.mem_of_getElem? (i := 621) (by decide +kernel), List.mem_of_getElem? (i := 47) (by decide +kernel), by decide +kernel⟩
theorem fv_X2_weigh : nv_fnV M_X2_weigh := ⟨List.mem_of_getElem? (i := 620) (by decide +kernel), List.mem_of_getElem? (i := 18) (by decide +kernel)⟩
def P_X2_weigh : nv_Pg := [(0, s_al 0 1), (1, s_cv 2 M_X2_movesNow 0 4), (4, s_is 2 5), (5, s_il 2 6), (6, s_al 0 7), (7, s_gf 2 6 10), (10, s_ic c_ge 20 13), (13, s_al 0 14), (14, s_gf 2 5 17), (17, s_go 26), (20, s_al 0 21), (21, s_gf 2 5 24), (24, s_ki (1) 25), (25, s_sub 26), (26, s_is 3 27), (27, s_il 3 28), (28, s_if c_ge 32 31), (31, s_vr), (32, s_al 1 33), (33, s_al 0 34), (34, s_gf 2 0 37), (37, s_cv 0 M_X0_takeMoment 1 40), (40, s_al 0 41), (41, s_gf 2 1 44), (44, s_ki (0) 45), (45, s_al 1 46), (46, s_gf 0 9 49), (49, s_ki (0) 50), (50, s_ki (5) 51), (51, s_cpi 54), (54, s_al 0 55), (55, s_gf 2 4 58), (58, s_if c_le 72 61), (61, s_al 1 62), (62, s_al 0 63), (63, s_gf 2 4 66), (66, s_cv 0 M_X0_standingBehind 1 69), (69, s_go 86), (72, s_al 1 73), (73, s_ki (60) 75), (75, s_il 3 76), (76, s_min 79), (79, s_al 0 80), (80, s_gf 2 7 83), (83, s_cv 0 M_X0_noonWithin 2 86), (86, s_is 4 88), (88, s_il 4 90), (90, s_il 3 91), (91, s_ic c_gt 119 94), (94, s_al 0 95), (95, s_il 4 97), (97, s_pf 2 5 100), (100, s_al 0 101), (101, s_il 2 102), (102, s_pf 2 6 105), (105, s_al 0 106), (106, s_gf 2 1 109), (109, s_ki (0) 110), (110, s_al 0 111), (111, s_gf 2 2 114), (114, s_ki (0) 115), (115, s_ki (5) 116), (116, s_cpi 119), (119, s_vr)]
set_option maxRecDepth 100000 in
set_option maxHeartbeats 4000000 in
theorem ok_X2_weigh : nv_ok_P M_X2_weigh P_X2_weigh :=
  nv_oc (n_aload_n (k := 0) (by decide +kernel)) <|
  nv_oc (n_virtual (M' := M_X2_movesNow) (idx := 69) (n := 0) (ci := 2) (N := 8) (D := RX2) (T := TX2) (by decide +kernel) fn_X2_movesNow fv_X2_movesNow rfl rfl l_X2_69 ⟨by decide, by decide⟩) <|
  nv_oc (n_istore_n (k := 2) (by decide +kernel) (by decide)) <|
  nv_oc (n_iload_n (k := 2) (by decide +kernel)) <|
  nv_oc (n_aload_n (k := 0) (by decide +kernel)) <|
  nv_oc (n_getfield (idx := 25) (ci := 2) (k := 6) (N := 8) (D := RX2) (T := TX2) (by decide +kernel) rfl i_X2 (by decide) (by decide) f_X2_25) <|
  nv_oc (n_icmp_ge (off := 10) (tgt := 20) (by decide +kernel) (by decide)) <|
  nv_oc (n_aload_n (k := 0) (by decide +kernel)) <|
  nv_oc (n_getfield (idx := 44) (ci := 2) (k := 5) (N := 8) (D := RX2) (T := TX2) (by decide +kernel) rfl i_X2 (by decide) (by decide) f_X2_44) <|
  nv_oc (n_goto (off := 9) (tgt := 26) (by decide +kernel) (by decide)) <|
  nv_oc (n_aload_n (k := 0) (by decide +kernel)) <|
  nv_oc (n_getfield (idx := 44) (ci := 2) (k := 5) (N := 8) (D := RX2) (T := TX2) (by decide +kernel) rfl i_X2 (by decide) (by decide) f_X2_44) <|
  nv_oc (n_iconst (z := 1) (by decide +kernel)) <|
  nv_oc (n_isub (by decide +kernel)) <|
  nv_oc (n_istore_n (k := 3) (by decide +kernel) (by decide)) <|
  nv_oc (n_iload_n (k := 3) (by decide +kernel)) <|
  nv_oc (n_if_ge (off := 4) (tgt := 32) (by decide +kernel) (by decide)) <|
  nv_oc (n_vret (by decide +kernel) rfl) <|
  nv_oc (n_aload_n (k := 1) (by decide +kernel)) <|
  nv_oc (n_aload_n (k := 0) (by decide +kernel)) <|
  nv_oc (n_getfield (idx := 12) (ci := 2) (k := 0) (N := 8) (D := RX2) (T := TX2) (by decide +kernel) rfl i_X2 (by decide) (by decide) f_X2_12) <|
  nv_oc (n_virtual (M' := M_X0_takeMoment) (idx := 72) (n := 1) (ci := 0) (N := 11) (D := RX0) (T := TX0) (by decide +kernel) fn_X0_takeMoment fv_X0_takeMoment rfl rfl l_X2_72 ⟨by decide, by decide⟩) <|
  nv_oc (n_aload_n (k := 0) (by decide +kernel)) <|
  nv_oc (n_getfield (idx := 18) (ci := 2) (k := 1) (N := 8) (D := RX2) (T := TX2) (by decide +kernel) rfl i_X2 (by decide) (by decide) f_X2_18) <|
  nv_oc (n_iconst (z := 0) (by decide +kernel)) <|
  nv_oc (n_aload_n (k := 1) (by decide +kernel)) <|
  nv_oc (n_getfield (idx := 75) (ci := 0) (k := 9) (N := 11) (D := RX0) (T := TX0) (by decide +kernel) rfl i_X0 (by decide) (by decide) f_X2_75) <|
  nv_oc (n_iconst (z := 0) (by decide +kernel)) <|
  nv_oc (n_iconst (z := 5) (by decide +kernel)) <|
  nv_oc (n_cpi (idx := 78) (by decide +kernel) l_X2_78 w_nat w_natst w_natin (by decide) (by decide)) <|
  nv_oc (n_aload_n (k := 0) (by decide +kernel)) <|
  nv_oc (n_getfield (idx := 33) (ci := 2) (k := 4) (N := 8) (D := RX2) (T := TX2) (by decide +kernel) rfl i_X2 (by decide) (by decide) f_X2_33) <|
  nv_oc (n_if_le (off := 14) (tgt := 72) (by decide +kernel) (by decide)) <|
  nv_oc (n_aload_n (k := 1) (by decide +kernel)) <|
  nv_oc (n_aload_n (k := 0) (by decide +kernel)) <|
  nv_oc (n_getfield (idx := 33) (ci := 2) (k := 4) (N := 8) (D := RX2) (T := TX2) (by decide +kernel) rfl i_X2 (by decide) (by decide) f_X2_33) <|
  nv_oc (n_virtual (M' := M_X0_standingBehind) (idx := 84) (n := 1) (ci := 0) (N := 11) (D := RX0) (T := TX0) (by decide +kernel) fn_X0_standingBehind fv_X0_standingBehind rfl rfl l_X2_84 ⟨by decide, by decide⟩) <|
  nv_oc (n_goto (off := 17) (tgt := 86) (by decide +kernel) (by decide)) <|
  nv_oc (n_aload_n (k := 1) (by decide +kernel)) <|
  nv_oc (n_bipush (z := 60) (by decide +kernel) (by decide)) <|
  nv_oc (n_iload_n (k := 3) (by decide +kernel)) <|
  nv_oc (n_min (idx := 88) (by decide +kernel) l_X2_88 (by decide) (by decide)) <|
  nv_oc (n_aload_n (k := 0) (by decide +kernel)) <|
  nv_oc (n_getfield (idx := 51) (ci := 2) (k := 7) (N := 8) (D := RX2) (T := TX2) (by decide +kernel) rfl i_X2 (by decide) (by decide) f_X2_51) <|
  nv_oc (n_virtual (M' := M_X0_noonWithin) (idx := 93) (n := 2) (ci := 0) (N := 11) (D := RX0) (T := TX0) (by decide +kernel) fn_X0_noonWithin fv_X0_noonWithin rfl rfl l_X2_93 ⟨by decide, by decide⟩) <|
  nv_oc (n_istore (k := 4) (by decide +kernel) (by decide)) <|
  nv_oc (n_iload (k := 4) (by decide +kernel)) <|
  nv_oc (n_iload_n (k := 3) (by decide +kernel)) <|
  nv_oc (n_icmp_gt (off := 28) (tgt := 119) (by decide +kernel) (by decide)) <|
  nv_oc (n_aload_n (k := 0) (by decide +kernel)) <|
  nv_oc (n_iload (k := 4) (by decide +kernel)) <|
  nv_oc (n_putfield (idx := 44) (ci := 2) (k := 5) (N := 8) (D := RX2) (T := TX2) tyX2 tyX2_ok nmX2 (by decide +kernel) rfl i_X2 (by decide) (by decide) rfl f_X2_44 rfl) <|
  nv_oc (n_aload_n (k := 0) (by decide +kernel)) <|
  nv_oc (n_iload_n (k := 2) (by decide +kernel)) <|
  nv_oc (n_putfield (idx := 25) (ci := 2) (k := 6) (N := 8) (D := RX2) (T := TX2) tyX2 tyX2_ok nmX2 (by decide +kernel) rfl i_X2 (by decide) (by decide) rfl f_X2_25 rfl) <|
  nv_oc (n_aload_n (k := 0) (by decide +kernel)) <|
  nv_oc (n_getfield (idx := 18) (ci := 2) (k := 1) (N := 8) (D := RX2) (T := TX2) (by decide +kernel) rfl i_X2 (by decide) (by decide) f_X2_18) <|
  nv_oc (n_iconst (z := 0) (by decide +kernel)) <|
  nv_oc (n_aload_n (k := 0) (by decide +kernel)) <|
  nv_oc (n_getfield (idx := 22) (ci := 2) (k := 2) (N := 8) (D := RX2) (T := TX2) (by decide +kernel) rfl i_X2 (by decide) (by decide) f_X2_22) <|
  nv_oc (n_iconst (z := 0) (by decide +kernel)) <|
  nv_oc (n_iconst (z := 5) (by decide +kernel)) <|
  nv_oc (n_cpi (idx := 78) (by decide +kernel) l_X2_78 w_nat w_natst w_natin (by decide) (by decide)) <|
  nv_oc (n_vret (by decide +kernel) rfl) <|
  nv_on
def M_X2_toNextWay : nv_MD := (RX2, yX2_toNextWay, cX2_toNextWay, 2, none, 0, 0)
theorem fn_X2_toNextWay : nv_fn M_X2_toNextWay 0 := ⟨List.mem_of_getElem? (i := 644) (by decide +kernel), List.mem_of_getElem? (i := 47) (by decide +kernel), by decide +kernel⟩
theorem fv_X2_toNextWay : nv_fnV M_X2_toNextWay := ⟨List.mem_of_getElem? (i := 643) (by decide +kernel), List.mem_of_getElem? (i := 20) (by decide +kernel)⟩
def P_X2_toNextWay : nv_Pg := [(0, s_al 0 1), (1, s_gf 2 0 4), (4, s_gf 0 1 7), (7, s_ki (1) 8), (8, s_sub 9), (9, s_is 1 10), (10, s_il 1 11), (11, s_if c_lt 54 14), (14, s_al 0 15), (15, s_gf 2 1 18), (18, s_il 1 19), (19, s_dup2 20), (20, s_ia 21), (21, s_ki (1) 22), (22, s_add 23), (23, s_iw 24), (24, s_al 0 25), (25, s_gf 2 1 28), (28, s_il 1 29), (29, s_ia 30), (30, s_al 0 31), (31, s_gf 2 0 34), (34, s_gf 0 0 37), (37, s_ic c_ge 41 40), (40, s_vr), (41, s_al 0 42), (42, s_gf 2 1 45), (45, s_il 1 46), (46, s_ki (0) 47), (47, s_iw 48), (48, s_inc 1 (-1) 51), (51, s_go 10), (54, s_vr)]
set_option maxRecDepth 100000 in
set_option maxHeartbeats 4000000 in
theorem ok_X2_toNextWay : nv_ok_P M_X2_toNextWay P_X2_toNextWay :=
  nv_oc (n_aload_n (k := 0) (by decide +kernel)) <|
  nv_oc (n_getfield (idx := 12) (ci := 2) (k := 0) (N := 8) (D := RX2) (T := TX2) (by decide +kernel) rfl i_X2 (by decide) (by decide) f_X2_12) <|
  nv_oc (n_getfield (idx := 56) (ci := 0) (k := 1) (N := 11) (D := RX0) (T := TX0) (by decide +kernel) rfl i_X0 (by decide) (by decide) f_X2_56) <|
  nv_oc (n_iconst (z := 1) (by decide +kernel)) <|
  nv_oc (n_isub (by decide +kernel)) <|
  nv_oc (n_istore_n (k := 1) (by decide +kernel) (by decide)) <|
  nv_oc (n_iload_n (k := 1) (by decide +kernel)) <|
  nv_oc (n_if_lt (off := 43) (tgt := 54) (by decide +kernel) (by decide)) <|
  nv_oc (n_aload_n (k := 0) (by decide +kernel)) <|
  nv_oc (n_getfield (idx := 18) (ci := 2) (k := 1) (N := 8) (D := RX2) (T := TX2) (by decide +kernel) rfl i_X2 (by decide) (by decide) f_X2_18) <|
  nv_oc (n_iload_n (k := 1) (by decide +kernel)) <|
  nv_oc (n_dup2 (by decide +kernel)) <|
  nv_oc (n_iaload (by decide +kernel)) <|
  nv_oc (n_iconst (z := 1) (by decide +kernel)) <|
  nv_oc (n_iadd (by decide +kernel)) <|
  nv_oc (n_iastore (by decide +kernel)) <|
  nv_oc (n_aload_n (k := 0) (by decide +kernel)) <|
  nv_oc (n_getfield (idx := 18) (ci := 2) (k := 1) (N := 8) (D := RX2) (T := TX2) (by decide +kernel) rfl i_X2 (by decide) (by decide) f_X2_18) <|
  nv_oc (n_iload_n (k := 1) (by decide +kernel)) <|
  nv_oc (n_iaload (by decide +kernel)) <|
  nv_oc (n_aload_n (k := 0) (by decide +kernel)) <|
  nv_oc (n_getfield (idx := 12) (ci := 2) (k := 0) (N := 8) (D := RX2) (T := TX2) (by decide +kernel) rfl i_X2 (by decide) (by decide) f_X2_12) <|
  nv_oc (n_getfield (idx := 53) (ci := 0) (k := 0) (N := 11) (D := RX0) (T := TX0) (by decide +kernel) rfl i_X0 (by decide) (by decide) f_X2_53) <|
  nv_oc (n_icmp_ge (off := 4) (tgt := 41) (by decide +kernel) (by decide)) <|
  nv_oc (n_vret (by decide +kernel) rfl) <|
  nv_oc (n_aload_n (k := 0) (by decide +kernel)) <|
  nv_oc (n_getfield (idx := 18) (ci := 2) (k := 1) (N := 8) (D := RX2) (T := TX2) (by decide +kernel) rfl i_X2 (by decide) (by decide) f_X2_18) <|
  nv_oc (n_iload_n (k := 1) (by decide +kernel)) <|
  nv_oc (n_iconst (z := 0) (by decide +kernel)) <|
  nv_oc (n_iastore (by decide +kernel)) <|
  nv_oc (n_iinc (k := 1) (d := -1) (by decide +kernel) (by decide)) <|
  nv_oc (n_goto (off := -41) (tgt := 10) (by decide +kernel) (by decide)) <|
  nv_oc (n_vret (by decide +kernel) rfl) <|
  nv_on
def M_X2_make : nv_MD := (RX2, yX2_make, cX2_make, 6, none, 5, 120)
theorem fn_X2_make : nv_fn M_X2_make 3 := ⟨List.mem_of_getElem? (i := 608) (by decide +kernel), List.mem_of_getElem? (i := 47) (by decide +kernel), by decide +kernel⟩
theorem fv_X2_make : nv_fnV M_X2_make := ⟨List.mem_of_getElem? (i := 606) (by decide +kernel), List.mem_of_getElem? (i := 607) (by decide +kernel)⟩
def P_X2_make : nv_Pg := [(0, s_al 0 1), (1, s_gf 2 3 4), (4, s_if c_eq 27 7), (7, s_al 0 8), (8, s_gf 2 4 11), (11, s_il 2 12), (12, s_ic c_eq 15 27), (15, s_al 0 16), (16, s_gf 2 0 19), (19, s_al 1 20), (20, s_cv 0 M_X0_isLike 1 23), (23, s_if c_eq 27 26), (26, s_vr), (27, s_al 0 28), (28, s_ki (1) 29), (29, s_pz 2 3 32), (32, s_al 0 33), (33, s_il 2 34), (34, s_pf 2 4 37), (37, s_al 0 38), (38, s_gf 2 0 41), (41, s_al 1 42), (42, s_cv 0 M_X0_takeAll 1 45), (45, s_al 3 46), (46, s_al 1 47), (47, s_cv 0 M_X0_takeAll 1 50), (50, s_al 0 51), (51, s_ki (62) 53), (53, s_pf 2 5 56), (56, s_al 0 57), (57, s_ki (6) 59), (59, s_pf 2 6 62), (62, s_al 0 63), (63, s_al 1 64), (64, s_cv 0 M_X0_mostCut 0 67), (67, s_pf 2 7 70), (70, s_ki (0) 71), (71, s_is 4 73), (73, s_il 4 75), (75, s_ki (5) 76), (76, s_ic c_ge 93 79), (79, s_al 0 80), (80, s_gf 2 1 83), (83, s_il 4 85), (85, s_ki (0) 86), (86, s_iw 87), (87, s_inc 4 (1) 90), (90, s_go 73), (93, s_al 1 94), (94, s_gf 0 0 97), (97, s_al 1 98), (98, s_gf 0 1 101), (101, s_cs M_X5_power 2 104), (104, s_is 4 106), (106, s_ki (0) 107), (107, s_is 5 109), (109, s_il 5 111), (111, s_il 4 113), (113, s_ic c_ge 131 116), (116, s_al 0 117), (117, s_al 3 118), (118, s_cv 2 M_X2_weigh 1 121), (121, s_al 0 122), (122, s_cv 2 M_X2_toNextWay 0 125), (125, s_inc 5 (1) 128), (128, s_go 109), (131, s_vr)]
set_option maxRecDepth 100000 in
set_option maxHeartbeats 4000000 in
theorem ok_X2_make : nv_ok_P M_X2_make P_X2_make :=
  nv_oc (n_aload_n (k := 0) (by decide +kernel)) <|
  nv_oc (n_getfield (idx := 29) (ci := 2) (k := 3) (N := 8) (D := RX2) (T := TX2) (by decide +kernel) rfl i_X2 (by decide) (by decide) f_X2_29) <|
  nv_oc (n_if_eq (off := 23) (tgt := 27) (by decide +kernel) (by decide)) <|
  nv_oc (n_aload_n (k := 0) (by decide +kernel)) <|
  nv_oc (n_getfield (idx := 33) (ci := 2) (k := 4) (N := 8) (D := RX2) (T := TX2) (by decide +kernel) rfl i_X2 (by decide) (by decide) f_X2_33) <|
  nv_oc (n_iload_n (k := 2) (by decide +kernel)) <|
  nv_oc (n_icmp_ne (off := 15) (tgt := 27) (by decide +kernel) (by decide)) <|
  nv_oc (n_aload_n (k := 0) (by decide +kernel)) <|
  nv_oc (n_getfield (idx := 12) (ci := 2) (k := 0) (N := 8) (D := RX2) (T := TX2) (by decide +kernel) rfl i_X2 (by decide) (by decide) f_X2_12) <|
  nv_oc (n_aload_n (k := 1) (by decide +kernel)) <|
  nv_oc (n_virtual (M' := M_X0_isLike) (idx := 36) (n := 1) (ci := 0) (N := 11) (D := RX0) (T := TX0) (by decide +kernel) fn_X0_isLike fv_X0_isLike rfl rfl l_X2_36 ⟨by decide, by decide⟩) <|
  nv_oc (n_if_eq (off := 4) (tgt := 27) (by decide +kernel) (by decide)) <|
  nv_oc (n_vret (by decide +kernel) rfl) <|
  nv_oc (n_aload_n (k := 0) (by decide +kernel)) <|
  nv_oc (n_iconst (z := 1) (by decide +kernel)) <|
  nv_oc (n_putbool (idx := 29) (ci := 2) (k := 3) (N := 8) (D := RX2) (T := TX2) tyX2 tyX2_ok nmX2 (by decide +kernel) rfl i_X2 (by decide) (by decide) rfl f_X2_29 rfl) <|
  nv_oc (n_aload_n (k := 0) (by decide +kernel)) <|
  nv_oc (n_iload_n (k := 2) (by decide +kernel)) <|
  nv_oc (n_putfield (idx := 33) (ci := 2) (k := 4) (N := 8) (D := RX2) (T := TX2) tyX2 tyX2_ok nmX2 (by decide +kernel) rfl i_X2 (by decide) (by decide) rfl f_X2_33 rfl) <|
  nv_oc (n_aload_n (k := 0) (by decide +kernel)) <|
  nv_oc (n_getfield (idx := 12) (ci := 2) (k := 0) (N := 8) (D := RX2) (T := TX2) (by decide +kernel) rfl i_X2 (by decide) (by decide) f_X2_12) <|
  nv_oc (n_aload_n (k := 1) (by decide +kernel)) <|
  nv_oc (n_virtual (M' := M_X0_takeAll) (idx := 40) (n := 1) (ci := 0) (N := 11) (D := RX0) (T := TX0) (by decide +kernel) fn_X0_takeAll fv_X0_takeAll rfl rfl l_X2_40 ⟨by decide, by decide⟩) <|
  nv_oc (n_aload_n (k := 3) (by decide +kernel)) <|
  nv_oc (n_aload_n (k := 1) (by decide +kernel)) <|
  nv_oc (n_virtual (M' := M_X0_takeAll) (idx := 40) (n := 1) (ci := 0) (N := 11) (D := RX0) (T := TX0) (by decide +kernel) fn_X0_takeAll fv_X0_takeAll rfl rfl l_X2_40 ⟨by decide, by decide⟩) <|
  nv_oc (n_aload_n (k := 0) (by decide +kernel)) <|
  nv_oc (n_bipush (z := 62) (by decide +kernel) (by decide)) <|
  nv_oc (n_putfield (idx := 44) (ci := 2) (k := 5) (N := 8) (D := RX2) (T := TX2) tyX2 tyX2_ok nmX2 (by decide +kernel) rfl i_X2 (by decide) (by decide) rfl f_X2_44 rfl) <|
  nv_oc (n_aload_n (k := 0) (by decide +kernel)) <|
  nv_oc (n_bipush (z := 6) (by decide +kernel) (by decide)) <|
  nv_oc (n_putfield (idx := 25) (ci := 2) (k := 6) (N := 8) (D := RX2) (T := TX2) tyX2 tyX2_ok nmX2 (by decide +kernel) rfl i_X2 (by decide) (by decide) rfl f_X2_25 rfl) <|
  nv_oc (n_aload_n (k := 0) (by decide +kernel)) <|
  nv_oc (n_aload_n (k := 1) (by decide +kernel)) <|
  nv_oc (n_virtual (M' := M_X0_mostCut) (idx := 47) (n := 0) (ci := 0) (N := 11) (D := RX0) (T := TX0) (by decide +kernel) fn_X0_mostCut fv_X0_mostCut rfl rfl l_X2_47 ⟨by decide, by decide⟩) <|
  nv_oc (n_putfield (idx := 51) (ci := 2) (k := 7) (N := 8) (D := RX2) (T := TX2) tyX2 tyX2_ok nmX2 (by decide +kernel) rfl i_X2 (by decide) (by decide) rfl f_X2_51 rfl) <|
  nv_oc (n_iconst (z := 0) (by decide +kernel)) <|
  nv_oc (n_istore (k := 4) (by decide +kernel) (by decide)) <|
  nv_oc (n_iload (k := 4) (by decide +kernel)) <|
  nv_oc (n_iconst (z := 5) (by decide +kernel)) <|
  nv_oc (n_icmp_ge (off := 17) (tgt := 93) (by decide +kernel) (by decide)) <|
  nv_oc (n_aload_n (k := 0) (by decide +kernel)) <|
  nv_oc (n_getfield (idx := 18) (ci := 2) (k := 1) (N := 8) (D := RX2) (T := TX2) (by decide +kernel) rfl i_X2 (by decide) (by decide) f_X2_18) <|
  nv_oc (n_iload (k := 4) (by decide +kernel)) <|
  nv_oc (n_iconst (z := 0) (by decide +kernel)) <|
  nv_oc (n_iastore (by decide +kernel)) <|
  nv_oc (n_iinc (k := 4) (d := 1) (by decide +kernel) (by decide)) <|
  nv_oc (n_goto (off := -17) (tgt := 73) (by decide +kernel) (by decide)) <|
  nv_oc (n_aload_n (k := 1) (by decide +kernel)) <|
  nv_oc (n_getfield (idx := 53) (ci := 0) (k := 0) (N := 11) (D := RX0) (T := TX0) (by decide +kernel) rfl i_X0 (by decide) (by decide) f_X2_53) <|
  nv_oc (n_aload_n (k := 1) (by decide +kernel)) <|
  nv_oc (n_getfield (idx := 56) (ci := 0) (k := 1) (N := 11) (D := RX0) (T := TX0) (by decide +kernel) rfl i_X0 (by decide) (by decide) f_X2_56) <|
  nv_oc (n_staticN (M' := M_X5_power) (idx := 59) (n := 2) (host := "NoonSaws") (by decide +kernel) fn_X5_power st_X5_power (fun _ _ h => h.2.2.1) ⟨by decide, by decide⟩) <|
  nv_oc (n_istore (k := 4) (by decide +kernel) (by decide)) <|
  nv_oc (n_iconst (z := 0) (by decide +kernel)) <|
  nv_oc (n_istore (k := 5) (by decide +kernel) (by decide)) <|
  nv_oc (n_iload (k := 5) (by decide +kernel)) <|
  nv_oc (n_iload (k := 4) (by decide +kernel)) <|
  nv_oc (n_icmp_ge (off := 18) (tgt := 131) (by decide +kernel) (by decide)) <|
  nv_oc (n_aload_n (k := 0) (by decide +kernel)) <|
  nv_oc (n_aload_n (k := 3) (by decide +kernel)) <|
  nv_oc (n_virtual (M' := M_X2_weigh) (idx := 63) (n := 1) (ci := 2) (N := 8) (D := RX2) (T := TX2) (by decide +kernel) fn_X2_weigh fv_X2_weigh rfl rfl l_X2_63 ⟨by decide, by decide⟩) <|
  nv_oc (n_aload_n (k := 0) (by decide +kernel)) <|
  nv_oc (n_virtual (M' := M_X2_toNextWay) (idx := 66) (n := 0) (ci := 2) (N := 8) (D := RX2) (T := TX2) (by decide +kernel) fn_X2_toNextWay fv_X2_toNextWay rfl rfl l_X2_66 ⟨by decide, by decide⟩) <|
  nv_oc (n_iinc (k := 5) (d := 1) (by decide +kernel) (by decide)) <|
  nv_oc (n_goto (off := -19) (tgt := 109) (by decide +kernel) (by decide)) <|
  nv_oc (n_vret (by decide +kernel) rfl) <|
  nv_on
def M_X3_isNothing : nv_MD := (RX3, yX3_isNothing, cX3_isNothing, 1, (some .boolean), 0, 0)
theorem fn_X3_isNothing : nv_fn M_X3_isNothing 0 := ⟨List.mem_of_getElem? (i := 704) (by decide +kernel), List.mem_of_getElem? (i := 49) (by decide +kernel), by decide +kernel⟩
theorem fv_X3_isNothing : nv_fnV M_X3_isNothing := ⟨List.mem_of_getElem? (i := 702) (by decide +kernel), List.mem_of_getElem? (i := 703) (by decide +kernel)⟩
def P_X3_isNothing : nv_Pg := [(0, s_al 0 1), (1, s_gf 3 1 4), (4, s_ki (-1) 5), (5, s_ic c_eq 8 12), (8, s_ki (1) 9), (9, s_go 13), (12, s_ki (0) 13), (13, s_zr)]
set_option maxRecDepth 100000 in
set_option maxHeartbeats 4000000 in
theorem ok_X3_isNothing : nv_ok_P M_X3_isNothing P_X3_isNothing :=
  nv_oc (n_aload_n (k := 0) (by decide +kernel)) <|
  nv_oc (n_getfield (idx := 15) (ci := 3) (k := 1) (N := 3) (D := RX3) (T := TX3) (by decide +kernel) rfl i_X3 (by decide) (by decide) f_X3_15) <|
  nv_oc (n_iconst (z := -1) (by decide +kernel)) <|
  nv_oc (n_icmp_ne (off := 7) (tgt := 12) (by decide +kernel) (by decide)) <|
  nv_oc (n_iconst (z := 1) (by decide +kernel)) <|
  nv_oc (n_goto (off := 4) (tgt := 13) (by decide +kernel) (by decide)) <|
  nv_oc (n_iconst (z := 0) (by decide +kernel)) <|
  nv_oc (n_zret (by decide +kernel) rfl) <|
  nv_on
def M_X3_begin : nv_MD := (RX3, yX3_begin, cX3_begin, 4, none, 0, 0)
theorem fn_X3_begin : nv_fn M_X3_begin 2 := ⟨List.mem_of_getElem? (i := 732) (by decide +kernel), List.mem_of_getElem? (i := 49) (by decide +kernel), by decide +kernel⟩
theorem fv_X3_begin : nv_fnV M_X3_begin := ⟨List.mem_of_getElem? (i := 730) (by decide +kernel), List.mem_of_getElem? (i := 731) (by decide +kernel)⟩
def P_X3_begin : nv_Pg := [(0, s_al 0 1), (1, s_il 1 2), (2, s_pf 3 1 5), (5, s_al 0 6), (6, s_il 2 7), (7, s_pf 3 2 10), (10, s_ki (0) 11), (11, s_is 3 12), (12, s_il 3 13), (13, s_ki (24) 15), (15, s_ic c_ge 31 18), (18, s_al 0 19), (19, s_gf 3 0 22), (22, s_il 3 23), (23, s_kl 0 24), (24, s_lw 25), (25, s_inc 3 (1) 28), (28, s_go 12), (31, s_vr)]
set_option maxRecDepth 100000 in
set_option maxHeartbeats 4000000 in
theorem ok_X3_begin : nv_ok_P M_X3_begin P_X3_begin :=
  nv_oc (n_aload_n (k := 0) (by decide +kernel)) <|
  nv_oc (n_iload_n (k := 1) (by decide +kernel)) <|
  nv_oc (n_putfield (idx := 15) (ci := 3) (k := 1) (N := 3) (D := RX3) (T := TX3) tyX3 tyX3_ok nmX3 (by decide +kernel) rfl i_X3 (by decide) (by decide) rfl f_X3_15 rfl) <|
  nv_oc (n_aload_n (k := 0) (by decide +kernel)) <|
  nv_oc (n_iload_n (k := 2) (by decide +kernel)) <|
  nv_oc (n_putfield (idx := 19) (ci := 3) (k := 2) (N := 3) (D := RX3) (T := TX3) tyX3 tyX3_ok nmX3 (by decide +kernel) rfl i_X3 (by decide) (by decide) rfl f_X3_19 rfl) <|
  nv_oc (n_iconst (z := 0) (by decide +kernel)) <|
  nv_oc (n_istore_n (k := 3) (by decide +kernel) (by decide)) <|
  nv_oc (n_iload_n (k := 3) (by decide +kernel)) <|
  nv_oc (n_bipush (z := 24) (by decide +kernel) (by decide)) <|
  nv_oc (n_icmp_ge (off := 16) (tgt := 31) (by decide +kernel) (by decide)) <|
  nv_oc (n_aload_n (k := 0) (by decide +kernel)) <|
  nv_oc (n_getfield (idx := 9) (ci := 3) (k := 0) (N := 3) (D := RX3) (T := TX3) (by decide +kernel) rfl i_X3 (by decide) (by decide) f_X3_9) <|
  nv_oc (n_iload_n (k := 3) (by decide +kernel)) <|
  nv_oc (n_lconst (z := 0) (v := 0) (by decide +kernel) (by decide)) <|
  nv_oc (n_lastore (by decide +kernel)) <|
  nv_oc (n_iinc (k := 3) (d := 1) (by decide +kernel) (by decide)) <|
  nv_oc (n_goto (off := -16) (tgt := 12) (by decide +kernel) (by decide)) <|
  nv_oc (n_vret (by decide +kernel) rfl) <|
  nv_on
def M_X3_clear : nv_MD := (RX3, yX3_clear, cX3_clear, 1, (some .int), 1, 20)
theorem fn_X3_clear : nv_fn M_X3_clear 0 := ⟨List.mem_of_getElem? (i := 740) (by decide +kernel), List.mem_of_getElem? (i := 49) (by decide +kernel), by decide +kernel⟩
theorem fv_X3_clear : nv_fnV M_X3_clear := ⟨List.mem_of_getElem? (i := 738) (by decide +kernel), List.mem_of_getElem? (i := 739) (by decide +kernel)⟩
def P_X3_clear : nv_Pg := [(0, s_al 0 1), (1, s_cv 3 M_X3_isNothing 0 4), (4, s_if c_eq 10 7), (7, s_ki (-11) 9), (9, s_ir), (10, s_al 0 11), (11, s_ki (-1) 12), (12, s_pf 3 1 15), (15, s_al 0 16), (16, s_gf 3 2 19), (19, s_ir)]
set_option maxRecDepth 100000 in
set_option maxHeartbeats 4000000 in
theorem ok_X3_clear : nv_ok_P M_X3_clear P_X3_clear :=
  nv_oc (n_aload_n (k := 0) (by decide +kernel)) <|
  nv_oc (n_virtual (M' := M_X3_isNothing) (idx := 22) (n := 0) (ci := 3) (N := 3) (D := RX3) (T := TX3) (by decide +kernel) fn_X3_isNothing fv_X3_isNothing rfl rfl l_X3_22 ⟨by decide, by decide⟩) <|
  nv_oc (n_if_eq (off := 6) (tgt := 10) (by decide +kernel) (by decide)) <|
  nv_oc (n_bipush (z := -11) (by decide +kernel) (by decide)) <|
  nv_oc (n_iret (by decide +kernel) rfl) <|
  nv_oc (n_aload_n (k := 0) (by decide +kernel)) <|
  nv_oc (n_iconst (z := -1) (by decide +kernel)) <|
  nv_oc (n_putfield (idx := 15) (ci := 3) (k := 1) (N := 3) (D := RX3) (T := TX3) tyX3 tyX3_ok nmX3 (by decide +kernel) rfl i_X3 (by decide) (by decide) rfl f_X3_15 rfl) <|
  nv_oc (n_aload_n (k := 0) (by decide +kernel)) <|
  nv_oc (n_getfield (idx := 19) (ci := 3) (k := 2) (N := 3) (D := RX3) (T := TX3) (by decide +kernel) rfl i_X3 (by decide) (by decide) f_X3_19) <|
  nv_oc (n_iret (by decide +kernel) rfl) <|
  nv_on
def M_X3_lacks : nv_MD := (RX3, yX3_lacks, cX3_lacks, 3, (some .boolean), 0, 0)
theorem fn_X3_lacks : nv_fn M_X3_lacks 2 := ⟨List.mem_of_getElem? (i := 708) (by decide +kernel), List.mem_of_getElem? (i := 49) (by decide +kernel), by decide +kernel⟩
theorem fv_X3_lacks : nv_fnV M_X3_lacks := ⟨List.mem_of_getElem? (i := 706) (by decide +kernel), List.mem_of_getElem? (i := 707) (by decide +kernel)⟩
def P_X3_lacks : nv_Pg := [(0, s_il 2 1), (1, s_if c_lt 18 4), (4, s_il 1 5), (5, s_if c_lt 18 8), (8, s_il 1 9), (9, s_al 0 10), (10, s_gf 3 2 13), (13, s_il 2 14), (14, s_sub 15), (15, s_ic c_le 22 18), (18, s_ki (1) 19), (19, s_go 23), (22, s_ki (0) 23), (23, s_zr)]
set_option maxRecDepth 100000 in
set_option maxHeartbeats 4000000 in
theorem ok_X3_lacks : nv_ok_P M_X3_lacks P_X3_lacks :=
  nv_oc (n_iload_n (k := 2) (by decide +kernel)) <|
  nv_oc (n_if_lt (off := 17) (tgt := 18) (by decide +kernel) (by decide)) <|
  nv_oc (n_iload_n (k := 1) (by decide +kernel)) <|
  nv_oc (n_if_lt (off := 13) (tgt := 18) (by decide +kernel) (by decide)) <|
  nv_oc (n_iload_n (k := 1) (by decide +kernel)) <|
  nv_oc (n_aload_n (k := 0) (by decide +kernel)) <|
  nv_oc (n_getfield (idx := 19) (ci := 3) (k := 2) (N := 3) (D := RX3) (T := TX3) (by decide +kernel) rfl i_X3 (by decide) (by decide) f_X3_19) <|
  nv_oc (n_iload_n (k := 2) (by decide +kernel)) <|
  nv_oc (n_isub (by decide +kernel)) <|
  nv_oc (n_icmp_le (off := 7) (tgt := 22) (by decide +kernel) (by decide)) <|
  nv_oc (n_iconst (z := 1) (by decide +kernel)) <|
  nv_oc (n_goto (off := 4) (tgt := 23) (by decide +kernel) (by decide)) <|
  nv_oc (n_iconst (z := 0) (by decide +kernel)) <|
  nv_oc (n_zret (by decide +kernel) rfl) <|
  nv_on
def M_X3_refusal : nv_MD := (RX3, yX3_refusal, cX3_refusal, 4, (some .int), 1, 22)
theorem fn_X3_refusal : nv_fn M_X3_refusal 3 := ⟨List.mem_of_getElem? (i := 700) (by decide +kernel), List.mem_of_getElem? (i := 49) (by decide +kernel), by decide +kernel⟩
theorem fv_X3_refusal : nv_fnV M_X3_refusal := ⟨List.mem_of_getElem? (i := 698) (by decide +kernel), List.mem_of_getElem? (i := 699) (by decide +kernel)⟩
def P_X3_refusal : nv_Pg := [(0, s_al 0 1), (1, s_cv 3 M_X3_isNothing 0 4), (4, s_if c_eq 10 7), (7, s_ki (-11) 9), (9, s_ir), (10, s_al 0 11), (11, s_gf 3 1 14), (14, s_il 1 15), (15, s_ic c_eq 21 18), (18, s_ki (-12) 20), (20, s_ir), (21, s_al 0 22), (22, s_il 2 23), (23, s_il 3 24), (24, s_cv 3 M_X3_lacks 2 27), (27, s_if c_eq 35 30), (30, s_ki (-13) 32), (32, s_go 36), (35, s_ki (0) 36), (36, s_ir)]
set_option maxRecDepth 100000 in
set_option maxHeartbeats 4000000 in
theorem ok_X3_refusal : nv_ok_P M_X3_refusal P_X3_refusal :=
  nv_oc (n_aload_n (k := 0) (by decide +kernel)) <|
  nv_oc (n_virtual (M' := M_X3_isNothing) (idx := 22) (n := 0) (ci := 3) (N := 3) (D := RX3) (T := TX3) (by decide +kernel) fn_X3_isNothing fv_X3_isNothing rfl rfl l_X3_22 ⟨by decide, by decide⟩) <|
  nv_oc (n_if_eq (off := 6) (tgt := 10) (by decide +kernel) (by decide)) <|
  nv_oc (n_bipush (z := -11) (by decide +kernel) (by decide)) <|
  nv_oc (n_iret (by decide +kernel) rfl) <|
  nv_oc (n_aload_n (k := 0) (by decide +kernel)) <|
  nv_oc (n_getfield (idx := 15) (ci := 3) (k := 1) (N := 3) (D := RX3) (T := TX3) (by decide +kernel) rfl i_X3 (by decide) (by decide) f_X3_15) <|
  nv_oc (n_iload_n (k := 1) (by decide +kernel)) <|
  nv_oc (n_icmp_eq (off := 6) (tgt := 21) (by decide +kernel) (by decide)) <|
  nv_oc (n_bipush (z := -12) (by decide +kernel) (by decide)) <|
  nv_oc (n_iret (by decide +kernel) rfl) <|
  nv_oc (n_aload_n (k := 0) (by decide +kernel)) <|
  nv_oc (n_iload_n (k := 2) (by decide +kernel)) <|
  nv_oc (n_iload_n (k := 3) (by decide +kernel)) <|
  nv_oc (n_virtual (M' := M_X3_lacks) (idx := 26) (n := 2) (ci := 3) (N := 3) (D := RX3) (T := TX3) (by decide +kernel) fn_X3_lacks fv_X3_lacks rfl rfl l_X3_26 ⟨by decide, by decide⟩) <|
  nv_oc (n_if_eq (off := 8) (tgt := 35) (by decide +kernel) (by decide)) <|
  nv_oc (n_bipush (z := -13) (by decide +kernel) (by decide)) <|
  nv_oc (n_goto (off := 4) (tgt := 36) (by decide +kernel) (by decide)) <|
  nv_oc (n_iconst (z := 0) (by decide +kernel)) <|
  nv_oc (n_iret (by decide +kernel) rfl) <|
  nv_on
def M_X3_put : nv_MD := (RX3, yX3_put, cX3_put, 4, none, 0, 0)
theorem fn_X3_put : nv_fn M_X3_put 2 := ⟨List.mem_of_getElem? (i := 724) (by decide +kernel), List.mem_of_getElem? (i := 49) (by decide +kernel), by decide +kernel⟩
theorem fv_X3_put : nv_fnV M_X3_put := ⟨List.mem_of_getElem? (i := 722) (by decide +kernel), List.mem_of_getElem? (i := 723) (by decide +kernel)⟩
def P_X3_put : nv_Pg := [(0, s_al 0 1), (1, s_gf 3 1 4), (4, s_sw 0 70 [32, 45, 58]), (32, s_al 0 33), (33, s_gf 3 0 36), (36, s_il 1 37), (37, s_ll 2 38), (38, s_l2i 39), (39, s_u1 nv_b8 40), (40, s_i2l 41), (41, s_lw 42), (42, s_go 77), (45, s_al 0 46), (46, s_gf 3 0 49), (49, s_il 1 50), (50, s_ll 2 51), (51, s_l2i 52), (52, s_u1 nv_s16 53), (53, s_i2l 54), (54, s_lw 55), (55, s_go 77), (58, s_al 0 59), (59, s_gf 3 0 62), (62, s_il 1 63), (63, s_ll 2 64), (64, s_l2i 65), (65, s_i2l 66), (66, s_lw 67), (67, s_go 77), (70, s_al 0 71), (71, s_gf 3 0 74), (74, s_il 1 75), (75, s_ll 2 76), (76, s_lw 77), (77, s_vr)]
set_option maxRecDepth 100000 in
set_option maxHeartbeats 4000000 in
theorem ok_X3_put : nv_ok_P M_X3_put P_X3_put :=
  nv_oc (n_aload_n (k := 0) (by decide +kernel)) <|
  nv_oc (n_getfield (idx := 15) (ci := 3) (k := 1) (N := 3) (D := RX3) (T := TX3) (by decide +kernel) rfl i_X3 (by decide) (by decide) f_X3_15) <|
  nv_oc (n_tableswitch (dflt := 66) (lo := 0) (hi := 2) (offs := #[28, 41, 54]) (len := 28) (df := 70) (ts := [32, 45, 58]) (by decide +kernel) (by decide) (by decide) (by decide)) <|
  nv_oc (n_aload_n (k := 0) (by decide +kernel)) <|
  nv_oc (n_getfield (idx := 9) (ci := 3) (k := 0) (N := 3) (D := RX3) (T := TX3) (by decide +kernel) rfl i_X3 (by decide) (by decide) f_X3_9) <|
  nv_oc (n_iload_n (k := 1) (by decide +kernel)) <|
  nv_oc (n_lload_n (k := 2) (by decide +kernel)) <|
  nv_oc (n_l2i (by decide +kernel)) <|
  nv_oc (n_i2b (by decide +kernel)) <|
  nv_oc (n_i2l (by decide +kernel)) <|
  nv_oc (n_lastore (by decide +kernel)) <|
  nv_oc (n_goto (off := 35) (tgt := 77) (by decide +kernel) (by decide)) <|
  nv_oc (n_aload_n (k := 0) (by decide +kernel)) <|
  nv_oc (n_getfield (idx := 9) (ci := 3) (k := 0) (N := 3) (D := RX3) (T := TX3) (by decide +kernel) rfl i_X3 (by decide) (by decide) f_X3_9) <|
  nv_oc (n_iload_n (k := 1) (by decide +kernel)) <|
  nv_oc (n_lload_n (k := 2) (by decide +kernel)) <|
  nv_oc (n_l2i (by decide +kernel)) <|
  nv_oc (n_i2s (by decide +kernel)) <|
  nv_oc (n_i2l (by decide +kernel)) <|
  nv_oc (n_lastore (by decide +kernel)) <|
  nv_oc (n_goto (off := 22) (tgt := 77) (by decide +kernel) (by decide)) <|
  nv_oc (n_aload_n (k := 0) (by decide +kernel)) <|
  nv_oc (n_getfield (idx := 9) (ci := 3) (k := 0) (N := 3) (D := RX3) (T := TX3) (by decide +kernel) rfl i_X3 (by decide) (by decide) f_X3_9) <|
  nv_oc (n_iload_n (k := 1) (by decide +kernel)) <|
  nv_oc (n_lload_n (k := 2) (by decide +kernel)) <|
  nv_oc (n_l2i (by decide +kernel)) <|
  nv_oc (n_i2l (by decide +kernel)) <|
  nv_oc (n_lastore (by decide +kernel)) <|
  nv_oc (n_goto (off := 10) (tgt := 77) (by decide +kernel) (by decide)) <|
  nv_oc (n_aload_n (k := 0) (by decide +kernel)) <|
  nv_oc (n_getfield (idx := 9) (ci := 3) (k := 0) (N := 3) (D := RX3) (T := TX3) (by decide +kernel) rfl i_X3 (by decide) (by decide) f_X3_9) <|
  nv_oc (n_iload_n (k := 1) (by decide +kernel)) <|
  nv_oc (n_lload_n (k := 2) (by decide +kernel)) <|
  nv_oc (n_lastore (by decide +kernel)) <|
  nv_oc (n_vret (by decide +kernel) rfl) <|
  nv_on
def M_X4_addLetter : nv_MD := (RX4, yX4_addLetter, cX4_addLetter, 2, (some .int), 0, 0)
theorem fn_X4_addLetter : nv_fn M_X4_addLetter 1 := ⟨List.mem_of_getElem? (i := 310) (by decide +kernel), List.mem_of_getElem? (i := 48) (by decide +kernel), by decide +kernel⟩
theorem fv_X4_addLetter : nv_fnV M_X4_addLetter := ⟨List.mem_of_getElem? (i := 308) (by decide +kernel), List.mem_of_getElem? (i := 309) (by decide +kernel)⟩
def P_X4_addLetter : nv_Pg := [(0, s_al 0 1), (1, s_gf 4 1 4), (4, s_ki (80) 6), (6, s_ic c_lt 12 9), (9, s_ki (-3) 11), (11, s_ir), (12, s_al 0 13), (13, s_gf 4 0 16), (16, s_al 0 17), (17, s_gf 4 1 20), (20, s_il 1 21), (21, s_cw 22), (22, s_al 0 23), (23, s_dup 24), (24, s_gf 4 1 27), (27, s_ki (1) 28), (28, s_add 29), (29, s_pf 4 1 32), (32, s_al 0 33), (33, s_gf 4 1 36), (36, s_ir)]
set_option maxRecDepth 100000 in
set_option maxHeartbeats 4000000 in
theorem ok_X4_addLetter : nv_ok_P M_X4_addLetter P_X4_addLetter :=
  nv_oc (n_aload_n (k := 0) (by decide +kernel)) <|
  nv_oc (n_getfield (idx := 15) (ci := 4) (k := 1) (N := 3) (D := RX4) (T := TX4) (by decide +kernel) rfl i_X4 (by decide) (by decide) f_X4_15) <|
  nv_oc (n_bipush (z := 80) (by decide +kernel) (by decide)) <|
  nv_oc (n_icmp_lt (off := 6) (tgt := 12) (by decide +kernel) (by decide)) <|
  nv_oc (n_bipush (z := -3) (by decide +kernel) (by decide)) <|
  nv_oc (n_iret (by decide +kernel) rfl) <|
  nv_oc (n_aload_n (k := 0) (by decide +kernel)) <|
  nv_oc (n_getfield (idx := 11) (ci := 4) (k := 0) (N := 3) (D := RX4) (T := TX4) (by decide +kernel) rfl i_X4 (by decide) (by decide) f_X4_11) <|
  nv_oc (n_aload_n (k := 0) (by decide +kernel)) <|
  nv_oc (n_getfield (idx := 15) (ci := 4) (k := 1) (N := 3) (D := RX4) (T := TX4) (by decide +kernel) rfl i_X4 (by decide) (by decide) f_X4_15) <|
  nv_oc (n_iload_n (k := 1) (by decide +kernel)) <|
  nv_oc (n_castore (by decide +kernel)) <|
  nv_oc (n_aload_n (k := 0) (by decide +kernel)) <|
  nv_oc (n_dup (by decide +kernel)) <|
  nv_oc (n_getfield (idx := 15) (ci := 4) (k := 1) (N := 3) (D := RX4) (T := TX4) (by decide +kernel) rfl i_X4 (by decide) (by decide) f_X4_15) <|
  nv_oc (n_iconst (z := 1) (by decide +kernel)) <|
  nv_oc (n_iadd (by decide +kernel)) <|
  nv_oc (n_putfield (idx := 15) (ci := 4) (k := 1) (N := 3) (D := RX4) (T := TX4) tyX4 tyX4_ok nmX4 (by decide +kernel) rfl i_X4 (by decide) (by decide) rfl f_X4_15 rfl) <|
  nv_oc (n_aload_n (k := 0) (by decide +kernel)) <|
  nv_oc (n_getfield (idx := 15) (ci := 4) (k := 1) (N := 3) (D := RX4) (T := TX4) (by decide +kernel) rfl i_X4 (by decide) (by decide) f_X4_15) <|
  nv_oc (n_iret (by decide +kernel) rfl) <|
  nv_on
def M_X4_wipe : nv_MD := (RX4, yX4_wipe, cX4_wipe, 1, none, 0, 0)
theorem fn_X4_wipe : nv_fn M_X4_wipe 0 := ⟨List.mem_of_getElem? (i := 455) (by decide +kernel), List.mem_of_getElem? (i := 48) (by decide +kernel), by decide +kernel⟩
theorem fv_X4_wipe : nv_fnV M_X4_wipe := ⟨List.mem_of_getElem? (i := 453) (by decide +kernel), List.mem_of_getElem? (i := 454) (by decide +kernel)⟩
def P_X4_wipe : nv_Pg := [(0, s_al 0 1), (1, s_ki (0) 2), (2, s_pf 4 1 5), (5, s_vr)]
set_option maxRecDepth 100000 in
set_option maxHeartbeats 4000000 in
theorem ok_X4_wipe : nv_ok_P M_X4_wipe P_X4_wipe :=
  nv_oc (n_aload_n (k := 0) (by decide +kernel)) <|
  nv_oc (n_iconst (z := 0) (by decide +kernel)) <|
  nv_oc (n_putfield (idx := 15) (ci := 4) (k := 1) (N := 3) (D := RX4) (T := TX4) tyX4 tyX4_ok nmX4 (by decide +kernel) rfl i_X4 (by decide) (by decide) rfl f_X4_15 rfl) <|
  nv_oc (n_vret (by decide +kernel) rfl) <|
  nv_on
def M_X4_letterHere : nv_MD := (RX4, yX4_letterHere, cX4_letterHere, 1, (some .char), 0, 0)
theorem fn_X4_letterHere : nv_fn M_X4_letterHere 0 := ⟨List.mem_of_getElem? (i := 342) (by decide +kernel), List.mem_of_getElem? (i := 48) (by decide +kernel), by decide +kernel⟩
theorem fv_X4_letterHere : nv_fnV M_X4_letterHere := ⟨List.mem_of_getElem? (i := 341) (by decide +kernel), List.mem_of_getElem? (i := 7) (by decide +kernel)⟩
def P_X4_letterHere : nv_Pg := [(0, s_al 0 1), (1, s_gf 4 2 4), (4, s_al 0 5), (5, s_gf 4 1 8), (8, s_ic c_ge 23 11), (11, s_al 0 12), (12, s_gf 4 0 15), (15, s_al 0 16), (16, s_gf 4 2 19), (19, s_ca 20), (20, s_go 24), (23, s_ki (0) 24), (24, s_cr)]
set_option maxRecDepth 100000 in
set_option maxHeartbeats 4000000 in
theorem ok_X4_letterHere : nv_ok_P M_X4_letterHere P_X4_letterHere :=
  nv_oc (n_aload_n (k := 0) (by decide +kernel)) <|
  nv_oc (n_getfield (idx := 24) (ci := 4) (k := 2) (N := 3) (D := RX4) (T := TX4) (by decide +kernel) rfl i_X4 (by decide) (by decide) f_X4_24) <|
  nv_oc (n_aload_n (k := 0) (by decide +kernel)) <|
  nv_oc (n_getfield (idx := 15) (ci := 4) (k := 1) (N := 3) (D := RX4) (T := TX4) (by decide +kernel) rfl i_X4 (by decide) (by decide) f_X4_15) <|
  nv_oc (n_icmp_ge (off := 15) (tgt := 23) (by decide +kernel) (by decide)) <|
  nv_oc (n_aload_n (k := 0) (by decide +kernel)) <|
  nv_oc (n_getfield (idx := 11) (ci := 4) (k := 0) (N := 3) (D := RX4) (T := TX4) (by decide +kernel) rfl i_X4 (by decide) (by decide) f_X4_11) <|
  nv_oc (n_aload_n (k := 0) (by decide +kernel)) <|
  nv_oc (n_getfield (idx := 24) (ci := 4) (k := 2) (N := 3) (D := RX4) (T := TX4) (by decide +kernel) rfl i_X4 (by decide) (by decide) f_X4_24) <|
  nv_oc (n_caload (by decide +kernel)) <|
  nv_oc (n_goto (off := 4) (tgt := 24) (by decide +kernel) (by decide)) <|
  nv_oc (n_iconst (z := 0) (by decide +kernel)) <|
  nv_oc (n_cret (by decide +kernel) rfl) <|
  nv_on
def M_X4_nextLetter : nv_MD := (RX4, yX4_nextLetter, cX4_nextLetter, 1, (some .char), 1, 20)
theorem fn_X4_nextLetter : nv_fn M_X4_nextLetter 0 := ⟨List.mem_of_getElem? (i := 338) (by decide +kernel), List.mem_of_getElem? (i := 48) (by decide +kernel), by decide +kernel⟩
theorem fv_X4_nextLetter : nv_fnV M_X4_nextLetter := ⟨List.mem_of_getElem? (i := 337) (by decide +kernel), List.mem_of_getElem? (i := 6) (by decide +kernel)⟩
def P_X4_nextLetter : nv_Pg := [(0, s_al 0 1), (1, s_gf 4 2 4), (4, s_al 0 5), (5, s_gf 4 1 8), (8, s_ic c_ge 38 11), (11, s_al 0 12), (12, s_gf 4 0 15), (15, s_al 0 16), (16, s_gf 4 2 19), (19, s_ca 20), (20, s_ki (32) 22), (22, s_ic c_eq 25 38), (25, s_al 0 26), (26, s_dup 27), (27, s_gf 4 2 30), (30, s_ki (1) 31), (31, s_add 32), (32, s_pf 4 2 35), (35, s_go 0), (38, s_al 0 39), (39, s_cv 4 M_X4_letterHere 0 42), (42, s_cr)]
set_option maxRecDepth 100000 in
set_option maxHeartbeats 4000000 in
theorem ok_X4_nextLetter : nv_ok_P M_X4_nextLetter P_X4_nextLetter :=
  nv_oc (n_aload_n (k := 0) (by decide +kernel)) <|
  nv_oc (n_getfield (idx := 24) (ci := 4) (k := 2) (N := 3) (D := RX4) (T := TX4) (by decide +kernel) rfl i_X4 (by decide) (by decide) f_X4_24) <|
  nv_oc (n_aload_n (k := 0) (by decide +kernel)) <|
  nv_oc (n_getfield (idx := 15) (ci := 4) (k := 1) (N := 3) (D := RX4) (T := TX4) (by decide +kernel) rfl i_X4 (by decide) (by decide) f_X4_15) <|
  nv_oc (n_icmp_ge (off := 30) (tgt := 38) (by decide +kernel) (by decide)) <|
  nv_oc (n_aload_n (k := 0) (by decide +kernel)) <|
  nv_oc (n_getfield (idx := 11) (ci := 4) (k := 0) (N := 3) (D := RX4) (T := TX4) (by decide +kernel) rfl i_X4 (by decide) (by decide) f_X4_11) <|
  nv_oc (n_aload_n (k := 0) (by decide +kernel)) <|
  nv_oc (n_getfield (idx := 24) (ci := 4) (k := 2) (N := 3) (D := RX4) (T := TX4) (by decide +kernel) rfl i_X4 (by decide) (by decide) f_X4_24) <|
  nv_oc (n_caload (by decide +kernel)) <|
  nv_oc (n_bipush (z := 32) (by decide +kernel) (by decide)) <|
  nv_oc (n_icmp_ne (off := 16) (tgt := 38) (by decide +kernel) (by decide)) <|
  nv_oc (n_aload_n (k := 0) (by decide +kernel)) <|
  nv_oc (n_dup (by decide +kernel)) <|
  nv_oc (n_getfield (idx := 24) (ci := 4) (k := 2) (N := 3) (D := RX4) (T := TX4) (by decide +kernel) rfl i_X4 (by decide) (by decide) f_X4_24) <|
  nv_oc (n_iconst (z := 1) (by decide +kernel)) <|
  nv_oc (n_iadd (by decide +kernel)) <|
  nv_oc (n_putfield (idx := 24) (ci := 4) (k := 2) (N := 3) (D := RX4) (T := TX4) tyX4 tyX4_ok nmX4 (by decide +kernel) rfl i_X4 (by decide) (by decide) rfl f_X4_24 rfl) <|
  nv_oc (n_goto (off := -35) (tgt := 0) (by decide +kernel) (by decide)) <|
  nv_oc (n_aload_n (k := 0) (by decide +kernel)) <|
  nv_oc (n_virtual (M' := M_X4_letterHere) (idx := 73) (n := 0) (ci := 4) (N := 3) (D := RX4) (T := TX4) (by decide +kernel) fn_X4_letterHere fv_X4_letterHere rfl rfl l_X4_73 ⟨by decide, by decide⟩) <|
  nv_oc (n_cret (by decide +kernel) rfl) <|
  nv_on
def M_X4_valueOf : nv_MD := (RX4, yX4_valueOf, cX4_valueOf, 1, (some .int), 0, 0)
theorem fn_X4_valueOf : nv_fn M_X4_valueOf 1 := ⟨List.mem_of_getElem? (i := 345) (by decide +kernel), List.mem_of_getElem? (i := 48) (by decide +kernel), by decide +kernel⟩
theorem st_X4_valueOf : Cond.static (nv_y M_X4_valueOf) ∈ lw_tbl := List.mem_of_getElem? (i := 344) (by decide +kernel)
def P_X4_valueOf : nv_Pg := [(0, s_il 0 1), (1, s_ki (48) 3), (3, s_ic c_lt 19 6), (6, s_il 0 7), (7, s_ki (57) 9), (9, s_ic c_gt 19 12), (12, s_il 0 13), (13, s_ki (48) 15), (15, s_sub 16), (16, s_go 20), (19, s_ki (-1) 20), (20, s_ir)]
set_option maxRecDepth 100000 in
set_option maxHeartbeats 4000000 in
theorem ok_X4_valueOf : nv_ok_P M_X4_valueOf P_X4_valueOf :=
  nv_oc (n_iload_n (k := 0) (by decide +kernel)) <|
  nv_oc (n_bipush (z := 48) (by decide +kernel) (by decide)) <|
  nv_oc (n_icmp_lt (off := 16) (tgt := 19) (by decide +kernel) (by decide)) <|
  nv_oc (n_iload_n (k := 0) (by decide +kernel)) <|
  nv_oc (n_bipush (z := 57) (by decide +kernel) (by decide)) <|
  nv_oc (n_icmp_gt (off := 10) (tgt := 19) (by decide +kernel) (by decide)) <|
  nv_oc (n_iload_n (k := 0) (by decide +kernel)) <|
  nv_oc (n_bipush (z := 48) (by decide +kernel) (by decide)) <|
  nv_oc (n_isub (by decide +kernel)) <|
  nv_oc (n_goto (off := 4) (tgt := 20) (by decide +kernel) (by decide)) <|
  nv_oc (n_iconst (z := -1) (by decide +kernel)) <|
  nv_oc (n_iret (by decide +kernel) rfl) <|
  nv_on
def M_X5_outside : nv_MD := (RX5, yX5_outside, cX5_outside, 3, (some .boolean), 0, 0)
theorem fn_X5_outside : nv_fn M_X5_outside 3 := ⟨List.mem_of_getElem? (i := 250) (by decide +kernel), List.mem_of_getElem? (i := 44) (by decide +kernel), by decide +kernel⟩
theorem st_X5_outside : Cond.static (nv_y M_X5_outside) ∈ lw_tbl := List.mem_of_getElem? (i := 249) (by decide +kernel)
def P_X5_outside : nv_Pg := [(0, s_il 0 1), (1, s_il 1 2), (2, s_ic c_lt 10 5), (5, s_il 0 6), (6, s_il 2 7), (7, s_ic c_le 14 10), (10, s_ki (1) 11), (11, s_go 15), (14, s_ki (0) 15), (15, s_zr)]
set_option maxRecDepth 100000 in
set_option maxHeartbeats 4000000 in
theorem ok_X5_outside : nv_ok_P M_X5_outside P_X5_outside :=
  nv_oc (n_iload_n (k := 0) (by decide +kernel)) <|
  nv_oc (n_iload_n (k := 1) (by decide +kernel)) <|
  nv_oc (n_icmp_lt (off := 8) (tgt := 10) (by decide +kernel) (by decide)) <|
  nv_oc (n_iload_n (k := 0) (by decide +kernel)) <|
  nv_oc (n_iload_n (k := 2) (by decide +kernel)) <|
  nv_oc (n_icmp_le (off := 7) (tgt := 14) (by decide +kernel) (by decide)) <|
  nv_oc (n_iconst (z := 1) (by decide +kernel)) <|
  nv_oc (n_goto (off := 4) (tgt := 15) (by decide +kernel) (by decide)) <|
  nv_oc (n_iconst (z := 0) (by decide +kernel)) <|
  nv_oc (n_zret (by decide +kernel) rfl) <|
  nv_on
def M_X4_takeNumber : nv_MD := (RX4, yX4_takeNumber, cX4_takeNumber, 6, (some .int), 2, 40)
theorem fn_X4_takeNumber : nv_fn M_X4_takeNumber 2 := ⟨List.mem_of_getElem? (i := 334) (by decide +kernel), List.mem_of_getElem? (i := 48) (by decide +kernel), by decide +kernel⟩
theorem fv_X4_takeNumber : nv_fnV M_X4_takeNumber := ⟨List.mem_of_getElem? (i := 333) (by decide +kernel), List.mem_of_getElem? (i := 5) (by decide +kernel)⟩
def P_X4_takeNumber : nv_Pg := [(0, s_al 0 1), (1, s_cv 4 M_X4_nextLetter 0 4), (4, s_cs M_X4_valueOf 1 7), (7, s_is 3 8), (8, s_il 3 9), (9, s_if c_ge 14 12), (12, s_ki (-1) 13), (13, s_ir), (14, s_al 0 15), (15, s_gf 4 2 18), (18, s_is 4 20), (20, s_al 0 21), (21, s_dup 22), (22, s_gf 4 2 25), (25, s_ki (1) 26), (26, s_add 27), (27, s_pf 4 2 30), (30, s_al 0 31), (31, s_cv 4 M_X4_letterHere 0 34), (34, s_cs M_X4_valueOf 1 37), (37, s_is 5 39), (39, s_il 5 41), (41, s_if c_lt 62 44), (44, s_al 0 45), (45, s_dup 46), (46, s_gf 4 2 49), (49, s_ki (1) 50), (50, s_add 51), (51, s_pf 4 2 54), (54, s_ki (10) 56), (56, s_il 3 57), (57, s_mul 58), (58, s_il 5 60), (60, s_add 61), (61, s_is 3 62), (62, s_il 3 63), (63, s_il 1 64), (64, s_il 2 65), (65, s_cs M_X5_outside 3 68), (68, s_if c_eq 79 71), (71, s_al 0 72), (72, s_il 4 74), (74, s_pf 4 2 77), (77, s_ki (-1) 78), (78, s_ir), (79, s_il 3 80), (80, s_ir)]
set_option maxRecDepth 100000 in
set_option maxHeartbeats 4000000 in
theorem ok_X4_takeNumber : nv_ok_P M_X4_takeNumber P_X4_takeNumber :=
  nv_oc (n_aload_n (k := 0) (by decide +kernel)) <|
  nv_oc (n_virtual (M' := M_X4_nextLetter) (idx := 38) (n := 0) (ci := 4) (N := 3) (D := RX4) (T := TX4) (by decide +kernel) fn_X4_nextLetter fv_X4_nextLetter rfl rfl l_X4_38 ⟨by decide, by decide⟩) <|
  nv_oc (n_static (M' := M_X4_valueOf) (idx := 76) (n := 1) (by decide +kernel) fn_X4_valueOf st_X4_valueOf l_X4_76 ⟨by decide, by decide⟩) <|
  nv_oc (n_istore_n (k := 3) (by decide +kernel) (by decide)) <|
  nv_oc (n_iload_n (k := 3) (by decide +kernel)) <|
  nv_oc (n_if_ge (off := 5) (tgt := 14) (by decide +kernel) (by decide)) <|
  nv_oc (n_iconst (z := -1) (by decide +kernel)) <|
  nv_oc (n_iret (by decide +kernel) rfl) <|
  nv_oc (n_aload_n (k := 0) (by decide +kernel)) <|
  nv_oc (n_getfield (idx := 24) (ci := 4) (k := 2) (N := 3) (D := RX4) (T := TX4) (by decide +kernel) rfl i_X4 (by decide) (by decide) f_X4_24) <|
  nv_oc (n_istore (k := 4) (by decide +kernel) (by decide)) <|
  nv_oc (n_aload_n (k := 0) (by decide +kernel)) <|
  nv_oc (n_dup (by decide +kernel)) <|
  nv_oc (n_getfield (idx := 24) (ci := 4) (k := 2) (N := 3) (D := RX4) (T := TX4) (by decide +kernel) rfl i_X4 (by decide) (by decide) f_X4_24) <|
  nv_oc (n_iconst (z := 1) (by decide +kernel)) <|
  nv_oc (n_iadd (by decide +kernel)) <|
  nv_oc (n_putfield (idx := 24) (ci := 4) (k := 2) (N := 3) (D := RX4) (T := TX4) tyX4 tyX4_ok nmX4 (by decide +kernel) rfl i_X4 (by decide) (by decide) rfl f_X4_24 rfl) <|
  nv_oc (n_aload_n (k := 0) (by decide +kernel)) <|
  nv_oc (n_virtual (M' := M_X4_letterHere) (idx := 73) (n := 0) (ci := 4) (N := 3) (D := RX4) (T := TX4) (by decide +kernel) fn_X4_letterHere fv_X4_letterHere rfl rfl l_X4_73 ⟨by decide, by decide⟩) <|
  nv_oc (n_static (M' := M_X4_valueOf) (idx := 76) (n := 1) (by decide +kernel) fn_X4_valueOf st_X4_valueOf l_X4_76 ⟨by decide, by decide⟩) <|
  nv_oc (n_istore (k := 5) (by decide +kernel) (by decide)) <|
  nv_oc (n_iload (k := 5) (by decide +kernel)) <|
  nv_oc (n_if_lt (off := 21) (tgt := 62) (by decide +kernel) (by decide)) <|
  nv_oc (n_aload_n (k := 0) (by decide +kernel)) <|
  nv_oc (n_dup (by decide +kernel)) <|
  nv_oc (n_getfield (idx := 24) (ci := 4) (k := 2) (N := 3) (D := RX4) (T := TX4) (by decide +kernel) rfl i_X4 (by decide) (by decide) f_X4_24) <|
  nv_oc (n_iconst (z := 1) (by decide +kernel)) <|
  nv_oc (n_iadd (by decide +kernel)) <|
  nv_oc (n_putfield (idx := 24) (ci := 4) (k := 2) (N := 3) (D := RX4) (T := TX4) tyX4 tyX4_ok nmX4 (by decide +kernel) rfl i_X4 (by decide) (by decide) rfl f_X4_24 rfl) <|
  nv_oc (n_bipush (z := 10) (by decide +kernel) (by decide)) <|
  nv_oc (n_iload_n (k := 3) (by decide +kernel)) <|
  nv_oc (n_imul (by decide +kernel)) <|
  nv_oc (n_iload (k := 5) (by decide +kernel)) <|
  nv_oc (n_iadd (by decide +kernel)) <|
  nv_oc (n_istore_n (k := 3) (by decide +kernel) (by decide)) <|
  nv_oc (n_iload_n (k := 3) (by decide +kernel)) <|
  nv_oc (n_iload_n (k := 1) (by decide +kernel)) <|
  nv_oc (n_iload_n (k := 2) (by decide +kernel)) <|
  nv_oc (n_staticN (M' := M_X5_outside) (idx := 80) (n := 3) (host := "NoonSaws") (by decide +kernel) fn_X5_outside st_X5_outside (fun _ _ h => h.2.1) ⟨by decide, by decide⟩) <|
  nv_oc (n_if_eq (off := 11) (tgt := 79) (by decide +kernel) (by decide)) <|
  nv_oc (n_aload_n (k := 0) (by decide +kernel)) <|
  nv_oc (n_iload (k := 4) (by decide +kernel)) <|
  nv_oc (n_putfield (idx := 24) (ci := 4) (k := 2) (N := 3) (D := RX4) (T := TX4) tyX4 tyX4_ok nmX4 (by decide +kernel) rfl i_X4 (by decide) (by decide) rfl f_X4_24 rfl) <|
  nv_oc (n_iconst (z := -1) (by decide +kernel)) <|
  nv_oc (n_iret (by decide +kernel) rfl) <|
  nv_oc (n_iload_n (k := 3) (by decide +kernel)) <|
  nv_oc (n_iret (by decide +kernel) rfl) <|
  nv_on
def M_X4_takes : nv_MD := (RX4, yX4_takes, cX4_takes, 2, (some .boolean), 2, 40)
theorem fn_X4_takes : nv_fn M_X4_takes 1 := ⟨List.mem_of_getElem? (i := 350) (by decide +kernel), List.mem_of_getElem? (i := 48) (by decide +kernel), by decide +kernel⟩
theorem fv_X4_takes : nv_fnV M_X4_takes := ⟨List.mem_of_getElem? (i := 349) (by decide +kernel), List.mem_of_getElem? (i := 8) (by decide +kernel)⟩
def P_X4_takes : nv_Pg := [(0, s_al 0 1), (1, s_cv 4 M_X4_nextLetter 0 4), (4, s_il 1 5), (5, s_ic c_eq 10 8), (8, s_ki (0) 9), (9, s_zr), (10, s_al 0 11), (11, s_dup 12), (12, s_gf 4 2 15), (15, s_ki (1) 16), (16, s_add 17), (17, s_pf 4 2 20), (20, s_ki (1) 21), (21, s_zr)]
set_option maxRecDepth 100000 in
set_option maxHeartbeats 4000000 in
theorem ok_X4_takes : nv_ok_P M_X4_takes P_X4_takes :=
  nv_oc (n_aload_n (k := 0) (by decide +kernel)) <|
  nv_oc (n_virtual (M' := M_X4_nextLetter) (idx := 38) (n := 0) (ci := 4) (N := 3) (D := RX4) (T := TX4) (by decide +kernel) fn_X4_nextLetter fv_X4_nextLetter rfl rfl l_X4_38 ⟨by decide, by decide⟩) <|
  nv_oc (n_iload_n (k := 1) (by decide +kernel)) <|
  nv_oc (n_icmp_eq (off := 5) (tgt := 10) (by decide +kernel) (by decide)) <|
  nv_oc (n_iconst (z := 0) (by decide +kernel)) <|
  nv_oc (n_zret (by decide +kernel) rfl) <|
  nv_oc (n_aload_n (k := 0) (by decide +kernel)) <|
  nv_oc (n_dup (by decide +kernel)) <|
  nv_oc (n_getfield (idx := 24) (ci := 4) (k := 2) (N := 3) (D := RX4) (T := TX4) (by decide +kernel) rfl i_X4 (by decide) (by decide) f_X4_24) <|
  nv_oc (n_iconst (z := 1) (by decide +kernel)) <|
  nv_oc (n_iadd (by decide +kernel)) <|
  nv_oc (n_putfield (idx := 24) (ci := 4) (k := 2) (N := 3) (D := RX4) (T := TX4) tyX4 tyX4_ok nmX4 (by decide +kernel) rfl i_X4 (by decide) (by decide) rfl f_X4_24 rfl) <|
  nv_oc (n_iconst (z := 1) (by decide +kernel)) <|
  nv_oc (n_zret (by decide +kernel) rfl) <|
  nv_on
def M_X4_takeDigit : nv_MD := (RX4, yX4_takeDigit, cX4_takeDigit, 3, (some .int), 2, 40)
theorem fn_X4_takeDigit : nv_fn M_X4_takeDigit 1 := ⟨List.mem_of_getElem? (i := 354) (by decide +kernel), List.mem_of_getElem? (i := 48) (by decide +kernel), by decide +kernel⟩
theorem fv_X4_takeDigit : nv_fnV M_X4_takeDigit := ⟨List.mem_of_getElem? (i := 353) (by decide +kernel), List.mem_of_getElem? (i := 9) (by decide +kernel)⟩
def P_X4_takeDigit : nv_Pg := [(0, s_al 0 1), (1, s_cv 4 M_X4_nextLetter 0 4), (4, s_cs M_X4_valueOf 1 7), (7, s_is 2 8), (8, s_il 2 9), (9, s_if c_lt 17 12), (12, s_il 2 13), (13, s_il 1 14), (14, s_ic c_le 19 17), (17, s_ki (-1) 18), (18, s_ir), (19, s_al 0 20), (20, s_dup 21), (21, s_gf 4 2 24), (24, s_ki (1) 25), (25, s_add 26), (26, s_pf 4 2 29), (29, s_il 2 30), (30, s_ir)]
set_option maxRecDepth 100000 in
set_option maxHeartbeats 4000000 in
theorem ok_X4_takeDigit : nv_ok_P M_X4_takeDigit P_X4_takeDigit :=
  nv_oc (n_aload_n (k := 0) (by decide +kernel)) <|
  nv_oc (n_virtual (M' := M_X4_nextLetter) (idx := 38) (n := 0) (ci := 4) (N := 3) (D := RX4) (T := TX4) (by decide +kernel) fn_X4_nextLetter fv_X4_nextLetter rfl rfl l_X4_38 ⟨by decide, by decide⟩) <|
  nv_oc (n_static (M' := M_X4_valueOf) (idx := 76) (n := 1) (by decide +kernel) fn_X4_valueOf st_X4_valueOf l_X4_76 ⟨by decide, by decide⟩) <|
  nv_oc (n_istore_n (k := 2) (by decide +kernel) (by decide)) <|
  nv_oc (n_iload_n (k := 2) (by decide +kernel)) <|
  nv_oc (n_if_lt (off := 8) (tgt := 17) (by decide +kernel) (by decide)) <|
  nv_oc (n_iload_n (k := 2) (by decide +kernel)) <|
  nv_oc (n_iload_n (k := 1) (by decide +kernel)) <|
  nv_oc (n_icmp_le (off := 5) (tgt := 19) (by decide +kernel) (by decide)) <|
  nv_oc (n_iconst (z := -1) (by decide +kernel)) <|
  nv_oc (n_iret (by decide +kernel) rfl) <|
  nv_oc (n_aload_n (k := 0) (by decide +kernel)) <|
  nv_oc (n_dup (by decide +kernel)) <|
  nv_oc (n_getfield (idx := 24) (ci := 4) (k := 2) (N := 3) (D := RX4) (T := TX4) (by decide +kernel) rfl i_X4 (by decide) (by decide) f_X4_24) <|
  nv_oc (n_iconst (z := 1) (by decide +kernel)) <|
  nv_oc (n_iadd (by decide +kernel)) <|
  nv_oc (n_putfield (idx := 24) (ci := 4) (k := 2) (N := 3) (D := RX4) (T := TX4) tyX4 tyX4_ok nmX4 (by decide +kernel) rfl i_X4 (by decide) (by decide) rfl f_X4_24 rfl) <|
  nv_oc (n_iload_n (k := 2) (by decide +kernel)) <|
  nv_oc (n_iret (by decide +kernel) rfl) <|
  nv_on
