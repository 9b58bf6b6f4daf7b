def M_X0_empty : nv_MD := (RX0, yX0_empty, cX0_empty, 1, none, 0, 0)
theorem fn_X0_empty : nv_fn M_X0_empty 0 := ⟨List.mem_of_getElem? (i := 322) (by decide +kernel), List.mem_of_getElem? (i := 45) (by decide +kernel), by decide +kernel⟩
theorem fv_X0_empty : nv_fnV M_X0_empty := ⟨List.mem_of_getElem? (i := 320) (by decide +kernel), List.mem_of_getElem? (i := 321) (by decide +kernel)⟩
def P_X0_empty : nv_Pg := [(0, s_al 0 1), (1, s_ki (0) 2), (2, s_pf 0 0 5), (5, s_al 0 6), (6, s_ki (0) 7), (7, s_pf 0 1 10), (10, s_al 0 11), (11, s_ki (0) 12), (12, s_pf 0 2 15), (15, s_vr)]
set_option maxRecDepth 100000 in
set_option maxHeartbeats 4000000 in
theorem ok_X0_empty : nv_ok_P M_X0_empty P_X0_empty :=
  nv_oc (n_aload_n (k := 0) (by decide +kernel)) <|
  nv_oc (n_iconst (z := 0) (by decide +kernel)) <|
  nv_oc (n_putfield (idx := 37) (ci := 0) (k := 0) (N := 11) (D := RX0) (T := TX0) tyX0 tyX0_ok nmX0 (by decide +kernel) rfl i_X0 (by decide) (by decide) rfl f_X0_37 rfl) <|
  nv_oc (n_aload_n (k := 0) (by decide +kernel)) <|
  nv_oc (n_iconst (z := 0) (by decide +kernel)) <|
  nv_oc (n_putfield (idx := 40) (ci := 0) (k := 1) (N := 11) (D := RX0) (T := TX0) tyX0 tyX0_ok nmX0 (by decide +kernel) rfl i_X0 (by decide) (by decide) rfl f_X0_40 rfl) <|
  nv_oc (n_aload_n (k := 0) (by decide +kernel)) <|
  nv_oc (n_iconst (z := 0) (by decide +kernel)) <|
  nv_oc (n_putfield (idx := 43) (ci := 0) (k := 2) (N := 11) (D := RX0) (T := TX0) tyX0 tyX0_ok nmX0 (by decide +kernel) rfl i_X0 (by decide) (by decide) rfl f_X0_43 rfl) <|
  nv_oc (n_vret (by decide +kernel) rfl) <|
  nv_on
def M_X0_takeMoment : nv_MD := (RX0, yX0_takeMoment, cX0_takeMoment, 2, none, 1, 40)
theorem fn_X0_takeMoment : nv_fn M_X0_takeMoment 1 := ⟨List.mem_of_getElem? (i := 466) (by decide +kernel), List.mem_of_getElem? (i := 45) (by decide +kernel), by decide +kernel⟩
theorem fv_X0_takeMoment : nv_fnV M_X0_takeMoment := ⟨List.mem_of_getElem? (i := 464) (by decide +kernel), List.mem_of_getElem? (i := 465) (by decide +kernel)⟩
def P_X0_takeMoment : nv_Pg := [(0, s_al 0 1), (1, s_al 1 2), (2, s_gf 0 2 5), (5, s_pf 0 2 8), (8, s_al 0 9), (9, s_al 1 10), (10, s_gf 0 3 13), (13, s_pf 0 3 16), (16, s_al 1 17), (17, s_gf 0 6 20), (20, s_ki (0) 21), (21, s_al 0 22), (22, s_gf 0 6 25), (25, s_ki (0) 26), (26, s_ki (5) 27), (27, s_cpi 30), (30, s_al 1 31), (31, s_gf 0 8 34), (34, s_ki (0) 35), (35, s_al 0 36), (36, s_gf 0 8 39), (39, s_ki (0) 40), (40, s_ki (5) 41), (41, s_cpi 44), (44, s_al 1 45), (45, s_gf 0 9 48), (48, s_ki (0) 49), (49, s_al 0 50), (50, s_gf 0 9 53), (53, s_ki (0) 54), (54, s_ki (5) 55), (55, s_cpi 58), (58, s_vr)]
set_option maxRecDepth 100000 in
set_option maxHeartbeats 4000000 in
theorem ok_X0_takeMoment : nv_ok_P M_X0_takeMoment P_X0_takeMoment :=
  nv_oc (n_aload_n (k := 0) (by decide +kernel)) <|
  nv_oc (n_aload_n (k := 1) (by decide +kernel)) <|
  nv_oc (n_getfield (idx := 43) (ci := 0) (k := 2) (N := 11) (D := RX0) (T := TX0) (by decide +kernel) rfl i_X0 (by decide) (by decide) f_X0_43) <|
  nv_oc (n_putfield (idx := 43) (ci := 0) (k := 2) (N := 11) (D := RX0) (T := TX0) tyX0 tyX0_ok nmX0 (by decide +kernel) rfl i_X0 (by decide) (by decide) rfl f_X0_43 rfl) <|
  nv_oc (n_aload_n (k := 0) (by decide +kernel)) <|
  nv_oc (n_aload_n (k := 1) (by decide +kernel)) <|
  nv_oc (n_getfield (idx := 9) (ci := 0) (k := 3) (N := 11) (D := RX0) (T := TX0) (by decide +kernel) rfl i_X0 (by decide) (by decide) f_X0_9) <|
  nv_oc (n_putfield (idx := 9) (ci := 0) (k := 3) (N := 11) (D := RX0) (T := TX0) tyX0 tyX0_ok nmX0 (by decide +kernel) rfl i_X0 (by decide) (by decide) rfl f_X0_9 rfl) <|
  nv_oc (n_aload_n (k := 1) (by decide +kernel)) <|
  nv_oc (n_getfield (idx := 22) (ci := 0) (k := 6) (N := 11) (D := RX0) (T := TX0) (by decide +kernel) rfl i_X0 (by decide) (by decide) f_X0_22) <|
  nv_oc (n_iconst (z := 0) (by decide +kernel)) <|
  nv_oc (n_aload_n (k := 0) (by decide +kernel)) <|
  nv_oc (n_getfield (idx := 22) (ci := 0) (k := 6) (N := 11) (D := RX0) (T := TX0) (by decide +kernel) rfl i_X0 (by decide) (by decide) f_X0_22) <|
  nv_oc (n_iconst (z := 0) (by decide +kernel)) <|
  nv_oc (n_iconst (z := 5) (by decide +kernel)) <|
  nv_oc (n_cpi (idx := 46) (by decide +kernel) l_X0_46 w_nat w_natst w_natin (by decide) (by decide)) <|
  nv_oc (n_aload_n (k := 1) (by decide +kernel)) <|
  nv_oc (n_getfield (idx := 28) (ci := 0) (k := 8) (N := 11) (D := RX0) (T := TX0) (by decide +kernel) rfl i_X0 (by decide) (by decide) f_X0_28) <|
  nv_oc (n_iconst (z := 0) (by decide +kernel)) <|
  nv_oc (n_aload_n (k := 0) (by decide +kernel)) <|
  nv_oc (n_getfield (idx := 28) (ci := 0) (k := 8) (N := 11) (D := RX0) (T := TX0) (by decide +kernel) rfl i_X0 (by decide) (by decide) f_X0_28) <|
  nv_oc (n_iconst (z := 0) (by decide +kernel)) <|
  nv_oc (n_iconst (z := 5) (by decide +kernel)) <|
  nv_oc (n_cpi (idx := 46) (by decide +kernel) l_X0_46 w_nat w_natst w_natin (by decide) (by decide)) <|
  nv_oc (n_aload_n (k := 1) (by decide +kernel)) <|
  nv_oc (n_getfield (idx := 31) (ci := 0) (k := 9) (N := 11) (D := RX0) (T := TX0) (by decide +kernel) rfl i_X0 (by decide) (by decide) f_X0_31) <|
  nv_oc (n_iconst (z := 0) (by decide +kernel)) <|
  nv_oc (n_aload_n (k := 0) (by decide +kernel)) <|
  nv_oc (n_getfield (idx := 31) (ci := 0) (k := 9) (N := 11) (D := RX0) (T := TX0) (by decide +kernel) rfl i_X0 (by decide) (by decide) f_X0_31) <|
  nv_oc (n_iconst (z := 0) (by decide +kernel)) <|
  nv_oc (n_iconst (z := 5) (by decide +kernel)) <|
  nv_oc (n_cpi (idx := 46) (by decide +kernel) l_X0_46 w_nat w_natst w_natin (by decide) (by decide)) <|
  nv_oc (n_vret (by decide +kernel) rfl) <|
  nv_on
def M_X0_takeAll : nv_MD := (RX0, yX0_takeAll, cX0_takeAll, 2, none, 2, 61)
theorem fn_X0_takeAll : nv_fn M_X0_takeAll 1 := ⟨List.mem_of_getElem? (i := 459) (by decide +kernel), List.mem_of_getElem? (i := 45) (by decide +kernel), by decide +kernel⟩
theorem fv_X0_takeAll : nv_fnV M_X0_takeAll := ⟨List.mem_of_getElem? (i := 457) (by decide +kernel), List.mem_of_getElem? (i := 458) (by decide +kernel)⟩
def P_X0_takeAll : nv_Pg := [(0, s_al 0 1), (1, s_al 1 2), (2, s_gf 0 0 5), (5, s_pf 0 0 8), (8, s_al 0 9), (9, s_al 1 10), (10, s_gf 0 1 13), (13, s_pf 0 1 16), (16, s_al 1 17), (17, s_gf 0 4 20), (20, s_ki (0) 21), (21, s_al 0 22), (22, s_gf 0 4 25), (25, s_ki (0) 26), (26, s_ki (5) 27), (27, s_cpi 30), (30, s_al 1 31), (31, s_gf 0 5 34), (34, s_ki (0) 35), (35, s_al 0 36), (36, s_gf 0 5 39), (39, s_ki (0) 40), (40, s_ki (5) 41), (41, s_cpi 44), (44, s_al 1 45), (45, s_gf 0 7 48), (48, s_ki (0) 49), (49, s_al 0 50), (50, s_gf 0 7 53), (53, s_ki (0) 54), (54, s_ki (5) 55), (55, s_cpi 58), (58, s_al 0 59), (59, s_al 1 60), (60, s_cv 0 M_X0_takeMoment 1 63), (63, s_vr)]
set_option maxRecDepth 100000 in
set_option maxHeartbeats 4000000 in
theorem ok_X0_takeAll : nv_ok_P M_X0_takeAll P_X0_takeAll :=
  nv_oc (n_aload_n (k := 0) (by decide +kernel)) <|
  nv_oc (n_aload_n (k := 1) (by decide +kernel)) <|
  nv_oc (n_getfield (idx := 37) (ci := 0) (k := 0) (N := 11) (D := RX0) (T := TX0) (by decide +kernel) rfl i_X0 (by decide) (by decide) f_X0_37) <|
  nv_oc (n_putfield (idx := 37) (ci := 0) (k := 0) (N := 11) (D := RX0) (T := TX0) tyX0 tyX0_ok nmX0 (by decide +kernel) rfl i_X0 (by decide) (by decide) rfl f_X0_37 rfl) <|
  nv_oc (n_aload_n (k := 0) (by decide +kernel)) <|
  nv_oc (n_aload_n (k := 1) (by decide +kernel)) <|
  nv_oc (n_getfield (idx := 40) (ci := 0) (k := 1) (N := 11) (D := RX0) (T := TX0) (by decide +kernel) rfl i_X0 (by decide) (by decide) f_X0_40) <|
  nv_oc (n_putfield (idx := 40) (ci := 0) (k := 1) (N := 11) (D := RX0) (T := TX0) tyX0 tyX0_ok nmX0 (by decide +kernel) rfl i_X0 (by decide) (by decide) rfl f_X0_40 rfl) <|
  nv_oc (n_aload_n (k := 1) (by decide +kernel)) <|
  nv_oc (n_getfield (idx := 15) (ci := 0) (k := 4) (N := 11) (D := RX0) (T := TX0) (by decide +kernel) rfl i_X0 (by decide) (by decide) f_X0_15) <|
  nv_oc (n_iconst (z := 0) (by decide +kernel)) <|
  nv_oc (n_aload_n (k := 0) (by decide +kernel)) <|
  nv_oc (n_getfield (idx := 15) (ci := 0) (k := 4) (N := 11) (D := RX0) (T := TX0) (by decide +kernel) rfl i_X0 (by decide) (by decide) f_X0_15) <|
  nv_oc (n_iconst (z := 0) (by decide +kernel)) <|
  nv_oc (n_iconst (z := 5) (by decide +kernel)) <|
  nv_oc (n_cpi (idx := 46) (by decide +kernel) l_X0_46 w_nat w_natst w_natin (by decide) (by decide)) <|
  nv_oc (n_aload_n (k := 1) (by decide +kernel)) <|
  nv_oc (n_getfield (idx := 19) (ci := 0) (k := 5) (N := 11) (D := RX0) (T := TX0) (by decide +kernel) rfl i_X0 (by decide) (by decide) f_X0_19) <|
  nv_oc (n_iconst (z := 0) (by decide +kernel)) <|
  nv_oc (n_aload_n (k := 0) (by decide +kernel)) <|
  nv_oc (n_getfield (idx := 19) (ci := 0) (k := 5) (N := 11) (D := RX0) (T := TX0) (by decide +kernel) rfl i_X0 (by decide) (by decide) f_X0_19) <|
  nv_oc (n_iconst (z := 0) (by decide +kernel)) <|
  nv_oc (n_iconst (z := 5) (by decide +kernel)) <|
  nv_oc (n_cpi (idx := 46) (by decide +kernel) l_X0_46 w_nat w_natst w_natin (by decide) (by decide)) <|
  nv_oc (n_aload_n (k := 1) (by decide +kernel)) <|
  nv_oc (n_getfield (idx := 25) (ci := 0) (k := 7) (N := 11) (D := RX0) (T := TX0) (by decide +kernel) rfl i_X0 (by decide) (by decide) f_X0_25) <|
  nv_oc (n_iconst (z := 0) (by decide +kernel)) <|
  nv_oc (n_aload_n (k := 0) (by decide +kernel)) <|
  nv_oc (n_getfield (idx := 25) (ci := 0) (k := 7) (N := 11) (D := RX0) (T := TX0) (by decide +kernel) rfl i_X0 (by decide) (by decide) f_X0_25) <|
  nv_oc (n_iconst (z := 0) (by decide +kernel)) <|
  nv_oc (n_iconst (z := 5) (by decide +kernel)) <|
  nv_oc (n_cpi (idx := 46) (by decide +kernel) l_X0_46 w_nat w_natst w_natin (by decide) (by decide)) <|
  nv_oc (n_aload_n (k := 0) (by decide +kernel)) <|
  nv_oc (n_aload_n (k := 1) (by decide +kernel)) <|
  nv_oc (n_virtual (M' := M_X0_takeMoment) (idx := 52) (n := 1) (ci := 0) (N := 11) (D := RX0) (T := TX0) (by decide +kernel) fn_X0_takeMoment fv_X0_takeMoment rfl rfl l_X0_52 ⟨by decide, by decide⟩) <|
  nv_oc (n_vret (by decide +kernel) rfl) <|
  nv_on
def M_X0_isLike : nv_MD := (RX0, yX0_isLike, cX0_isLike, 4, (some .boolean), 0, 0)
theorem fn_X0_isLike : nv_fn M_X0_isLike 1 := ⟨List.mem_of_getElem? (i := 612) (by decide +kernel), List.mem_of_getElem? (i := 45) (by decide +kernel), by decide +kernel⟩
theorem fv_X0_isLike : nv_fnV M_X0_isLike := ⟨List.mem_of_getElem? (i := 610) (by decide +kernel), List.mem_of_getElem? (i := 611) (by decide +kernel)⟩
def P_X0_isLike : nv_Pg := [(0, s_al 0 1), (1, s_gf 0 0 4), (4, s_al 1 5), (5, s_gf 0 0 8), (8, s_ic c_eq 11 37), (11, s_al 0 12), (12, s_gf 0 1 15), (15, s_al 1 16), (16, s_gf 0 1 19), (19, s_ic c_eq 22 37), (22, s_al 0 23), (23, s_gf 0 2 26), (26, s_al 1 27), (27, s_gf 0 2 30), (30, s_ic c_eq 33 37), (33, s_ki (1) 34), (34, s_go 38), (37, s_ki (0) 38), (38, s_is 2 39), (39, s_ki (0) 40), (40, s_is 3 41), (41, s_il 2 42), (42, s_if c_eq 110 45), (45, s_il 3 46), (46, s_al 0 47), (47, s_gf 0 0 50), (50, s_ic c_ge 110 53), (53, s_al 0 54), (54, s_gf 0 4 57), (57, s_il 3 58), (58, s_ia 59), (59, s_al 1 60), (60, s_gf 0 4 63), (63, s_il 3 64), (64, s_ia 65), (65, s_ic c_eq 68 102), (68, s_al 0 69), (69, s_gf 0 5 72), (72, s_il 3 73), (73, s_ia 74), (74, s_al 1 75), (75, s_gf 0 5 78), (78, s_il 3 79), (79, s_ia 80), (80, s_ic c_eq 83 102), (83, s_al 0 84), (84, s_gf 0 6 87), (87, s_il 3 88), (88, s_ia 89), (89, s_al 1 90), (90, s_gf 0 6 93), (93, s_il 3 94), (94, s_ia 95), (95, s_ic c_eq 98 102), (98, s_ki (1) 99), (99, s_go 103), (102, s_ki (0) 103), (103, s_is 2 104), (104, s_inc 3 (1) 107), (107, s_go 41), (110, s_ki (0) 111), (111, s_is 3 112), (112, s_il 2 113), (113, s_if c_eq 181 116), (116, s_il 3 117), (117, s_al 0 118), (118, s_gf 0 1 121), (121, s_ic c_ge 181 124), (124, s_al 0 125), (125, s_gf 0 7 128), (128, s_il 3 129), (129, s_ia 130), (130, s_al 1 131), (131, s_gf 0 7 134), (134, s_il 3 135), (135, s_ia 136), (136, s_ic c_eq 139 173), (139, s_al 0 140), (140, s_gf 0 8 143), (143, s_il 3 144), (144, s_ia 145), (145, s_al 1 146), (146, s_gf 0 8 149), (149, s_il 3 150), (150, s_ia 151), (151, s_ic c_eq 154 173), (154, s_al 0 155), (155, s_gf 0 9 158), (158, s_il 3 159), (159, s_ia 160), (160, s_al 1 161), (161, s_gf 0 9 164), (164, s_il 3 165), (165, s_ia 166), (166, s_ic c_eq 169 173), (169, s_ki (1) 170), (170, s_go 174), (173, s_ki (0) 174), (174, s_is 2 175), (175, s_inc 3 (1) 178), (178, s_go 112), (181, s_il 2 182), (182, s_zr)]
set_option maxRecDepth 100000 in
set_option maxHeartbeats 4000000 in
theorem ok_X0_isLike : nv_ok_P M_X0_isLike P_X0_isLike :=
  nv_oc (n_aload_n (k := 0) (by decide +kernel)) <|
  nv_oc (n_getfield (idx := 37) (ci := 0) (k := 0) (N := 11) (D := RX0) (T := TX0) (by decide +kernel) rfl i_X0 (by decide) (by decide) f_X0_37) <|
  nv_oc (n_aload_n (k := 1) (by decide +kernel)) <|
  nv_oc (n_getfield (idx := 37) (ci := 0) (k := 0) (N := 11) (D := RX0) (T := TX0) (by decide +kernel) rfl i_X0 (by decide) (by decide) f_X0_37) <|
  nv_oc (n_icmp_ne (off := 29) (tgt := 37) (by decide +kernel) (by decide)) <|
  nv_oc (n_aload_n (k := 0) (by decide +kernel)) <|
  nv_oc (n_getfield (idx := 40) (ci := 0) (k := 1) (N := 11) (D := RX0) (T := TX0) (by decide +kernel) rfl i_X0 (by decide) (by decide) f_X0_40) <|
  nv_oc (n_aload_n (k := 1) (by decide +kernel)) <|
  nv_oc (n_getfield (idx := 40) (ci := 0) (k := 1) (N := 11) (D := RX0) (T := TX0) (by decide +kernel) rfl i_X0 (by decide) (by decide) f_X0_40) <|
  nv_oc (n_icmp_ne (off := 18) (tgt := 37) (by decide +kernel) (by decide)) <|
  nv_oc (n_aload_n (k := 0) (by decide +kernel)) <|
  nv_oc (n_getfield (idx := 43) (ci := 0) (k := 2) (N := 11) (D := RX0) (T := TX0) (by decide +kernel) rfl i_X0 (by decide) (by decide) f_X0_43) <|
  nv_oc (n_aload_n (k := 1) (by decide +kernel)) <|
  nv_oc (n_getfield (idx := 43) (ci := 0) (k := 2) (N := 11) (D := RX0) (T := TX0) (by decide +kernel) rfl i_X0 (by decide) (by decide) f_X0_43) <|
  nv_oc (n_icmp_ne (off := 7) (tgt := 37) (by decide +kernel) (by decide)) <|
  nv_oc (n_iconst (z := 1) (by decide +kernel)) <|
  nv_oc (n_goto (off := 4) (tgt := 38) (by decide +kernel) (by decide)) <|
  nv_oc (n_iconst (z := 0) (by decide +kernel)) <|
  nv_oc (n_istore_n (k := 2) (by decide +kernel) (by decide)) <|
  nv_oc (n_iconst (z := 0) (by decide +kernel)) <|
  nv_oc (n_istore_n (k := 3) (by decide +kernel) (by decide)) <|
  nv_oc (n_iload_n (k := 2) (by decide +kernel)) <|
  nv_oc (n_if_eq (off := 68) (tgt := 110) (by decide +kernel) (by decide)) <|
  nv_oc (n_iload_n (k := 3) (by decide +kernel)) <|
  nv_oc (n_aload_n (k := 0) (by decide +kernel)) <|
  nv_oc (n_getfield (idx := 37) (ci := 0) (k := 0) (N := 11) (D := RX0) (T := TX0) (by decide +kernel) rfl i_X0 (by decide) (by decide) f_X0_37) <|
  nv_oc (n_icmp_ge (off := 60) (tgt := 110) (by decide +kernel) (by decide)) <|
  nv_oc (n_aload_n (k := 0) (by decide +kernel)) <|
  nv_oc (n_getfield (idx := 15) (ci := 0) (k := 4) (N := 11) (D := RX0) (T := TX0) (by decide +kernel) rfl i_X0 (by decide) (by decide) f_X0_15) <|
  nv_oc (n_iload_n (k := 3) (by decide +kernel)) <|
  nv_oc (n_iaload (by decide +kernel)) <|
  nv_oc (n_aload_n (k := 1) (by decide +kernel)) <|
  nv_oc (n_getfield (idx := 15) (ci := 0) (k := 4) (N := 11) (D := RX0) (T := TX0) (by decide +kernel) rfl i_X0 (by decide) (by decide) f_X0_15) <|
  nv_oc (n_iload_n (k := 3) (by decide +kernel)) <|
  nv_oc (n_iaload (by decide +kernel)) <|
  nv_oc (n_icmp_ne (off := 37) (tgt := 102) (by decide +kernel) (by decide)) <|
  nv_oc (n_aload_n (k := 0) (by decide +kernel)) <|
  nv_oc (n_getfield (idx := 19) (ci := 0) (k := 5) (N := 11) (D := RX0) (T := TX0) (by decide +kernel) rfl i_X0 (by decide) (by decide) f_X0_19) <|
  nv_oc (n_iload_n (k := 3) (by decide +kernel)) <|
  nv_oc (n_iaload (by decide +kernel)) <|
  nv_oc (n_aload_n (k := 1) (by decide +kernel)) <|
  nv_oc (n_getfield (idx := 19) (ci := 0) (k := 5) (N := 11) (D := RX0) (T := TX0) (by decide +kernel) rfl i_X0 (by decide) (by decide) f_X0_19) <|
  nv_oc (n_iload_n (k := 3) (by decide +kernel)) <|
  nv_oc (n_iaload (by decide +kernel)) <|
  nv_oc (n_icmp_ne (off := 22) (tgt := 102) (by decide +kernel) (by decide)) <|
  nv_oc (n_aload_n (k := 0) (by decide +kernel)) <|
  nv_oc (n_getfield (idx := 22) (ci := 0) (k := 6) (N := 11) (D := RX0) (T := TX0) (by decide +kernel) rfl i_X0 (by decide) (by decide) f_X0_22) <|
  nv_oc (n_iload_n (k := 3) (by decide +kernel)) <|
  nv_oc (n_iaload (by decide +kernel)) <|
  nv_oc (n_aload_n (k := 1) (by decide +kernel)) <|
  nv_oc (n_getfield (idx := 22) (ci := 0) (k := 6) (N := 11) (D := RX0) (T := TX0) (by decide +kernel) rfl i_X0 (by decide) (by decide) f_X0_22) <|
  nv_oc (n_iload_n (k := 3) (by decide +kernel)) <|
  nv_oc (n_iaload (by decide +kernel)) <|
  nv_oc (n_icmp_ne (off := 7) (tgt := 102) (by decide +kernel) (by decide)) <|
  nv_oc (n_iconst (z := 1) (by decide +kernel)) <|
  nv_oc (n_goto (off := 4) (tgt := 103) (by decide +kernel) (by decide)) <|
  nv_oc (n_iconst (z := 0) (by decide +kernel)) <|
  nv_oc (n_istore_n (k := 2) (by decide +kernel) (by decide)) <|
  nv_oc (n_iinc (k := 3) (d := 1) (by decide +kernel) (by decide)) <|
  nv_oc (n_goto (off := -66) (tgt := 41) (by decide +kernel) (by decide)) <|
  nv_oc (n_iconst (z := 0) (by decide +kernel)) <|
  nv_oc (n_istore_n (k := 3) (by decide +kernel) (by decide)) <|
  nv_oc (n_iload_n (k := 2) (by decide +kernel)) <|
  nv_oc (n_if_eq (off := 68) (tgt := 181) (by decide +kernel) (by decide)) <|
  nv_oc (n_iload_n (k := 3) (by decide +kernel)) <|
  nv_oc (n_aload_n (k := 0) (by decide +kernel)) <|
  nv_oc (n_getfield (idx := 40) (ci := 0) (k := 1) (N := 11) (D := RX0) (T := TX0) (by decide +kernel) rfl i_X0 (by decide) (by decide) f_X0_40) <|
  nv_oc (n_icmp_ge (off := 60) (tgt := 181) (by decide +kernel) (by decide)) <|
  nv_oc (n_aload_n (k := 0) (by decide +kernel)) <|
  nv_oc (n_getfield (idx := 25) (ci := 0) (k := 7) (N := 11) (D := RX0) (T := TX0) (by decide +kernel) rfl i_X0 (by decide) (by decide) f_X0_25) <|
  nv_oc (n_iload_n (k := 3) (by decide +kernel)) <|
  nv_oc (n_iaload (by decide +kernel)) <|
  nv_oc (n_aload_n (k := 1) (by decide +kernel)) <|
  nv_oc (n_getfield (idx := 25) (ci := 0) (k := 7) (N := 11) (D := RX0) (T := TX0) (by decide +kernel) rfl i_X0 (by decide) (by decide) f_X0_25) <|
  nv_oc (n_iload_n (k := 3) (by decide +kernel)) <|
  nv_oc (n_iaload (by decide +kernel)) <|
  nv_oc (n_icmp_ne (off := 37) (tgt := 173) (by decide +kernel) (by decide)) <|
  nv_oc (n_aload_n (k := 0) (by decide +kernel)) <|
  nv_oc (n_getfield (idx := 28) (ci := 0) (k := 8) (N := 11) (D := RX0) (T := TX0) (by decide +kernel) rfl i_X0 (by decide) (by decide) f_X0_28) <|
  nv_oc (n_iload_n (k := 3) (by decide +kernel)) <|
  nv_oc (n_iaload (by decide +kernel)) <|
  nv_oc (n_aload_n (k := 1) (by decide +kernel)) <|
  nv_oc (n_getfield (idx := 28) (ci := 0) (k := 8) (N := 11) (D := RX0) (T := TX0) (by decide +kernel) rfl i_X0 (by decide) (by decide) f_X0_28) <|
  nv_oc (n_iload_n (k := 3) (by decide +kernel)) <|
  nv_oc (n_iaload (by decide +kernel)) <|
  nv_oc (n_icmp_ne (off := 22) (tgt := 173) (by decide +kernel) (by decide)) <|
  nv_oc (n_aload_n (k := 0) (by decide +kernel)) <|
  nv_oc (n_getfield (idx := 31) (ci := 0) (k := 9) (N := 11) (D := RX0) (T := TX0) (by decide +kernel) rfl i_X0 (by decide) (by decide) f_X0_31) <|
  nv_oc (n_iload_n (k := 3) (by decide +kernel)) <|
  nv_oc (n_iaload (by decide +kernel)) <|
  nv_oc (n_aload_n (k := 1) (by decide +kernel)) <|
  nv_oc (n_getfield (idx := 31) (ci := 0) (k := 9) (N := 11) (D := RX0) (T := TX0) (by decide +kernel) rfl i_X0 (by decide) (by decide) f_X0_31) <|
  nv_oc (n_iload_n (k := 3) (by decide +kernel)) <|
  nv_oc (n_iaload (by decide +kernel)) <|
  nv_oc (n_icmp_ne (off := 7) (tgt := 173) (by decide +kernel) (by decide)) <|
  nv_oc (n_iconst (z := 1) (by decide +kernel)) <|
  nv_oc (n_goto (off := 4) (tgt := 174) (by decide +kernel) (by decide)) <|
  nv_oc (n_iconst (z := 0) (by decide +kernel)) <|
  nv_oc (n_istore_n (k := 2) (by decide +kernel) (by decide)) <|
  nv_oc (n_iinc (k := 3) (d := 1) (by decide +kernel) (by decide)) <|
  nv_oc (n_goto (off := -66) (tgt := 112) (by decide +kernel) (by decide)) <|
  nv_oc (n_iload_n (k := 2) (by decide +kernel)) <|
  nv_oc (n_zret (by decide +kernel) rfl) <|
  nv_on
def M_X0_addPlank : nv_MD := (RX0, yX0_addPlank, cX0_addPlank, 4, (some .int), 0, 0)
theorem fn_X0_addPlank : nv_fn M_X0_addPlank 3 := ⟨List.mem_of_getElem? (i := 254) (by decide +kernel), List.mem_of_getElem? (i := 45) (by decide +kernel), by decide +kernel⟩
theorem fv_X0_addPlank : nv_fnV M_X0_addPlank := ⟨List.mem_of_getElem? (i := 252) (by decide +kernel), List.mem_of_getElem? (i := 253) (by decide +kernel)⟩
def P_X0_addPlank : nv_Pg := [(0, s_al 0 1), (1, s_gf 0 0 4), (4, s_ki (5) 5), (5, s_ic c_lt 11 8), (8, s_ki (-3) 10), (10, s_ir), (11, s_al 0 12), (12, s_gf 0 4 15), (15, s_al 0 16), (16, s_gf 0 0 19), (19, s_il 1 20), (20, s_iw 21), (21, s_al 0 22), (22, s_gf 0 5 25), (25, s_al 0 26), (26, s_gf 0 0 29), (29, s_il 2 30), (30, s_iw 31), (31, s_al 0 32), (32, s_gf 0 6 35), (35, s_al 0 36), (36, s_gf 0 0 39), (39, s_il 3 40), (40, s_iw 41), (41, s_al 0 42), (42, s_dup 43), (43, s_gf 0 0 46), (46, s_ki (1) 47), (47, s_add 48), (48, s_pf 0 0 51), (51, s_al 0 52), (52, s_gf 0 0 55), (55, s_ki (1) 56), (56, s_sub 57), (57, s_ir)]
set_option maxRecDepth 100000 in
set_option maxHeartbeats 4000000 in
theorem ok_X0_addPlank : nv_ok_P M_X0_addPlank P_X0_addPlank :=
  nv_oc (n_aload_n (k := 0) (by decide +kernel)) <|
  nv_oc (n_getfield (idx := 37) (ci := 0) (k := 0) (N := 11) (D := RX0) (T := TX0) (by decide +kernel) rfl i_X0 (by decide) (by decide) f_X0_37) <|
  nv_oc (n_iconst (z := 5) (by decide +kernel)) <|
  nv_oc (n_icmp_lt (off := 6) (tgt := 11) (by decide +kernel) (by decide)) <|
  nv_oc (n_bipush (z := -3) (by decide +kernel) (by decide)) <|
  nv_oc (n_iret (by decide +kernel) rfl) <|
  nv_oc (n_aload_n (k := 0) (by decide +kernel)) <|
  nv_oc (n_getfield (idx := 15) (ci := 0) (k := 4) (N := 11) (D := RX0) (T := TX0) (by decide +kernel) rfl i_X0 (by decide) (by decide) f_X0_15) <|
  nv_oc (n_aload_n (k := 0) (by decide +kernel)) <|
  nv_oc (n_getfield (idx := 37) (ci := 0) (k := 0) (N := 11) (D := RX0) (T := TX0) (by decide +kernel) rfl i_X0 (by decide) (by decide) f_X0_37) <|
  nv_oc (n_iload_n (k := 1) (by decide +kernel)) <|
  nv_oc (n_iastore (by decide +kernel)) <|
  nv_oc (n_aload_n (k := 0) (by decide +kernel)) <|
  nv_oc (n_getfield (idx := 19) (ci := 0) (k := 5) (N := 11) (D := RX0) (T := TX0) (by decide +kernel) rfl i_X0 (by decide) (by decide) f_X0_19) <|
  nv_oc (n_aload_n (k := 0) (by decide +kernel)) <|
  nv_oc (n_getfield (idx := 37) (ci := 0) (k := 0) (N := 11) (D := RX0) (T := TX0) (by decide +kernel) rfl i_X0 (by decide) (by decide) f_X0_37) <|
  nv_oc (n_iload_n (k := 2) (by decide +kernel)) <|
  nv_oc (n_iastore (by decide +kernel)) <|
  nv_oc (n_aload_n (k := 0) (by decide +kernel)) <|
  nv_oc (n_getfield (idx := 22) (ci := 0) (k := 6) (N := 11) (D := RX0) (T := TX0) (by decide +kernel) rfl i_X0 (by decide) (by decide) f_X0_22) <|
  nv_oc (n_aload_n (k := 0) (by decide +kernel)) <|
  nv_oc (n_getfield (idx := 37) (ci := 0) (k := 0) (N := 11) (D := RX0) (T := TX0) (by decide +kernel) rfl i_X0 (by decide) (by decide) f_X0_37) <|
  nv_oc (n_iload_n (k := 3) (by decide +kernel)) <|
  nv_oc (n_iastore (by decide +kernel)) <|
  nv_oc (n_aload_n (k := 0) (by decide +kernel)) <|
  nv_oc (n_dup (by decide +kernel)) <|
  nv_oc (n_getfield (idx := 37) (ci := 0) (k := 0) (N := 11) (D := RX0) (T := TX0) (by decide +kernel) rfl i_X0 (by decide) (by decide) f_X0_37) <|
  nv_oc (n_iconst (z := 1) (by decide +kernel)) <|
  nv_oc (n_iadd (by decide +kernel)) <|
  nv_oc (n_putfield (idx := 37) (ci := 0) (k := 0) (N := 11) (D := RX0) (T := TX0) tyX0 tyX0_ok nmX0 (by decide +kernel) rfl i_X0 (by decide) (by decide) rfl f_X0_37 rfl) <|
  nv_oc (n_aload_n (k := 0) (by decide +kernel)) <|
  nv_oc (n_getfield (idx := 37) (ci := 0) (k := 0) (N := 11) (D := RX0) (T := TX0) (by decide +kernel) rfl i_X0 (by decide) (by decide) f_X0_37) <|
  nv_oc (n_iconst (z := 1) (by decide +kernel)) <|
  nv_oc (n_isub (by decide +kernel)) <|
  nv_oc (n_iret (by decide +kernel) rfl) <|
  nv_on
def M_X0_addSawyer : nv_MD := (RX0, yX0_addSawyer, cX0_addSawyer, 4, (some .int), 0, 0)
theorem fn_X0_addSawyer : nv_fn M_X0_addSawyer 3 := ⟨List.mem_of_getElem? (i := 266) (by decide +kernel), List.mem_of_getElem? (i := 45) (by decide +kernel), by decide +kernel⟩
theorem fv_X0_addSawyer : nv_fnV M_X0_addSawyer := ⟨List.mem_of_getElem? (i := 264) (by decide +kernel), List.mem_of_getElem? (i := 265) (by decide +kernel)⟩
def P_X0_addSawyer : nv_Pg := [(0, s_al 0 1), (1, s_gf 0 1 4), (4, s_ki (5) 5), (5, s_ic c_lt 11 8), (8, s_ki (-3) 10), (10, s_ir), (11, s_al 0 12), (12, s_gf 0 7 15), (15, s_al 0 16), (16, s_gf 0 1 19), (19, s_il 1 20), (20, s_iw 21), (21, s_al 0 22), (22, s_gf 0 8 25), (25, s_al 0 26), (26, s_gf 0 1 29), (29, s_il 2 30), (30, s_iw 31), (31, s_al 0 32), (32, s_gf 0 9 35), (35, s_al 0 36), (36, s_gf 0 1 39), (39, s_il 3 40), (40, s_iw 41), (41, s_al 0 42), (42, s_dup 43), (43, s_gf 0 1 46), (46, s_ki (1) 47), (47, s_add 48), (48, s_pf 0 1 51), (51, s_al 0 52), (52, s_gf 0 1 55), (55, s_ki (1) 56), (56, s_sub 57), (57, s_ir)]
set_option maxRecDepth 100000 in
set_option maxHeartbeats 4000000 in
theorem ok_X0_addSawyer : nv_ok_P M_X0_addSawyer P_X0_addSawyer :=
  nv_oc (n_aload_n (k := 0) (by decide +kernel)) <|
  nv_oc (n_getfield (idx := 40) (ci := 0) (k := 1) (N := 11) (D := RX0) (T := TX0) (by decide +kernel) rfl i_X0 (by decide) (by decide) f_X0_40) <|
  nv_oc (n_iconst (z := 5) (by decide +kernel)) <|
  nv_oc (n_icmp_lt (off := 6) (tgt := 11) (by decide +kernel) (by decide)) <|
  nv_oc (n_bipush (z := -3) (by decide +kernel) (by decide)) <|
  nv_oc (n_iret (by decide +kernel) rfl) <|
  nv_oc (n_aload_n (k := 0) (by decide +kernel)) <|
  nv_oc (n_getfield (idx := 25) (ci := 0) (k := 7) (N := 11) (D := RX0) (T := TX0) (by decide +kernel) rfl i_X0 (by decide) (by decide) f_X0_25) <|
  nv_oc (n_aload_n (k := 0) (by decide +kernel)) <|
  nv_oc (n_getfield (idx := 40) (ci := 0) (k := 1) (N := 11) (D := RX0) (T := TX0) (by decide +kernel) rfl i_X0 (by decide) (by decide) f_X0_40) <|
  nv_oc (n_iload_n (k := 1) (by decide +kernel)) <|
  nv_oc (n_iastore (by decide +kernel)) <|
  nv_oc (n_aload_n (k := 0) (by decide +kernel)) <|
  nv_oc (n_getfield (idx := 28) (ci := 0) (k := 8) (N := 11) (D := RX0) (T := TX0) (by decide +kernel) rfl i_X0 (by decide) (by decide) f_X0_28) <|
  nv_oc (n_aload_n (k := 0) (by decide +kernel)) <|
  nv_oc (n_getfield (idx := 40) (ci := 0) (k := 1) (N := 11) (D := RX0) (T := TX0) (by decide +kernel) rfl i_X0 (by decide) (by decide) f_X0_40) <|
  nv_oc (n_iload_n (k := 2) (by decide +kernel)) <|
  nv_oc (n_iastore (by decide +kernel)) <|
  nv_oc (n_aload_n (k := 0) (by decide +kernel)) <|
  nv_oc (n_getfield (idx := 31) (ci := 0) (k := 9) (N := 11) (D := RX0) (T := TX0) (by decide +kernel) rfl i_X0 (by decide) (by decide) f_X0_31) <|
  nv_oc (n_aload_n (k := 0) (by decide +kernel)) <|
  nv_oc (n_getfield (idx := 40) (ci := 0) (k := 1) (N := 11) (D := RX0) (T := TX0) (by decide +kernel) rfl i_X0 (by decide) (by decide) f_X0_40) <|
  nv_oc (n_iload_n (k := 3) (by decide +kernel)) <|
  nv_oc (n_iastore (by decide +kernel)) <|
  nv_oc (n_aload_n (k := 0) (by decide +kernel)) <|
  nv_oc (n_dup (by decide +kernel)) <|
  nv_oc (n_getfield (idx := 40) (ci := 0) (k := 1) (N := 11) (D := RX0) (T := TX0) (by decide +kernel) rfl i_X0 (by decide) (by decide) f_X0_40) <|
  nv_oc (n_iconst (z := 1) (by decide +kernel)) <|
  nv_oc (n_iadd (by decide +kernel)) <|
  nv_oc (n_putfield (idx := 40) (ci := 0) (k := 1) (N := 11) (D := RX0) (T := TX0) tyX0 tyX0_ok nmX0 (by decide +kernel) rfl i_X0 (by decide) (by decide) rfl f_X0_40 rfl) <|
  nv_oc (n_aload_n (k := 0) (by decide +kernel)) <|
  nv_oc (n_getfield (idx := 40) (ci := 0) (k := 1) (N := 11) (D := RX0) (T := TX0) (by decide +kernel) rfl i_X0 (by decide) (by decide) f_X0_40) <|
  nv_oc (n_iconst (z := 1) (by decide +kernel)) <|
  nv_oc (n_isub (by decide +kernel)) <|
  nv_oc (n_iret (by decide +kernel) rfl) <|
  nv_on
def M_X0_addTeeth : nv_MD := (RX0, yX0_addTeeth, cX0_addTeeth, 3, none, 1, 21)
theorem fn_X0_addTeeth : nv_fn M_X0_addTeeth 2 := ⟨List.mem_of_getElem? (i := 522) (by decide +kernel), List.mem_of_getElem? (i := 45) (by decide +kernel), by decide +kernel⟩
theorem fv_X0_addTeeth : nv_fnV M_X0_addTeeth := ⟨List.mem_of_getElem? (i := 520) (by decide +kernel), List.mem_of_getElem? (i := 521) (by decide +kernel)⟩
def P_X0_addTeeth : nv_Pg := [(0, s_al 0 1), (1, s_gf 0 8 4), (4, s_il 1 5), (5, s_ki (9) 7), (7, s_al 0 8), (8, s_gf 0 8 11), (11, s_il 1 12), (12, s_ia 13), (13, s_il 2 14), (14, s_add 15), (15, s_min 18), (18, s_iw 19), (19, s_vr)]
set_option maxRecDepth 100000 in
set_option maxHeartbeats 4000000 in
theorem ok_X0_addTeeth : nv_ok_P M_X0_addTeeth P_X0_addTeeth :=
  nv_oc (n_aload_n (k := 0) (by decide +kernel)) <|
  nv_oc (n_getfield (idx := 28) (ci := 0) (k := 8) (N := 11) (D := RX0) (T := TX0) (by decide +kernel) rfl i_X0 (by decide) (by decide) f_X0_28) <|
  nv_oc (n_iload_n (k := 1) (by decide +kernel)) <|
  nv_oc (n_bipush (z := 9) (by decide +kernel) (by decide)) <|
  nv_oc (n_aload_n (k := 0) (by decide +kernel)) <|
  nv_oc (n_getfield (idx := 28) (ci := 0) (k := 8) (N := 11) (D := RX0) (T := TX0) (by decide +kernel) rfl i_X0 (by decide) (by decide) f_X0_28) <|
  nv_oc (n_iload_n (k := 1) (by decide +kernel)) <|
  nv_oc (n_iaload (by decide +kernel)) <|
  nv_oc (n_iload_n (k := 2) (by decide +kernel)) <|
  nv_oc (n_iadd (by decide +kernel)) <|
  nv_oc (n_min (idx := 56) (by decide +kernel) l_X0_56 (by decide) (by decide)) <|
  nv_oc (n_iastore (by decide +kernel)) <|
  nv_oc (n_vret (by decide +kernel) rfl) <|
  nv_on
def M_X0_suppose : nv_MD := (RX0, yX0_suppose, cX0_suppose, 4, none, 0, 0)
theorem fn_X0_suppose : nv_fn M_X0_suppose 3 := ⟨List.mem_of_getElem? (i := 712) (by decide +kernel), List.mem_of_getElem? (i := 45) (by decide +kernel), by decide +kernel⟩
theorem fv_X0_suppose : nv_fnV M_X0_suppose := ⟨List.mem_of_getElem? (i := 710) (by decide +kernel), List.mem_of_getElem? (i := 711) (by decide +kernel)⟩
def P_X0_suppose : nv_Pg := [(0, s_il 2 1), (1, s_if c_eq 4 14), (4, s_al 0 5), (5, s_gf 0 7 8), (8, s_il 1 9), (9, s_il 3 10), (10, s_iw 11), (11, s_go 36), (14, s_il 2 15), (15, s_ki (1) 16), (16, s_ic c_eq 19 29), (19, s_al 0 20), (20, s_gf 0 8 23), (23, s_il 1 24), (24, s_il 3 25), (25, s_iw 26), (26, s_go 36), (29, s_al 0 30), (30, s_gf 0 9 33), (33, s_il 1 34), (34, s_il 3 35), (35, s_iw 36), (36, s_vr)]
set_option maxRecDepth 100000 in
set_option maxHeartbeats 4000000 in
theorem ok_X0_suppose : nv_ok_P M_X0_suppose P_X0_suppose :=
  nv_oc (n_iload_n (k := 2) (by decide +kernel)) <|
  nv_oc (n_if_ne (off := 13) (tgt := 14) (by decide +kernel) (by decide)) <|
  nv_oc (n_aload_n (k := 0) (by decide +kernel)) <|
  nv_oc (n_getfield (idx := 25) (ci := 0) (k := 7) (N := 11) (D := RX0) (T := TX0) (by decide +kernel) rfl i_X0 (by decide) (by decide) f_X0_25) <|
  nv_oc (n_iload_n (k := 1) (by decide +kernel)) <|
  nv_oc (n_iload_n (k := 3) (by decide +kernel)) <|
  nv_oc (n_iastore (by decide +kernel)) <|
  nv_oc (n_goto (off := 25) (tgt := 36) (by decide +kernel) (by decide)) <|
  nv_oc (n_iload_n (k := 2) (by decide +kernel)) <|
  nv_oc (n_iconst (z := 1) (by decide +kernel)) <|
  nv_oc (n_icmp_ne (off := 13) (tgt := 29) (by decide +kernel) (by decide)) <|
  nv_oc (n_aload_n (k := 0) (by decide +kernel)) <|
  nv_oc (n_getfield (idx := 28) (ci := 0) (k := 8) (N := 11) (D := RX0) (T := TX0) (by decide +kernel) rfl i_X0 (by decide) (by decide) f_X0_28) <|
  nv_oc (n_iload_n (k := 1) (by decide +kernel)) <|
  nv_oc (n_iload_n (k := 3) (by decide +kernel)) <|
  nv_oc (n_iastore (by decide +kernel)) <|
  nv_oc (n_goto (off := 10) (tgt := 36) (by decide +kernel) (by decide)) <|
  nv_oc (n_aload_n (k := 0) (by decide +kernel)) <|
  nv_oc (n_getfield (idx := 31) (ci := 0) (k := 9) (N := 11) (D := RX0) (T := TX0) (by decide +kernel) rfl i_X0 (by decide) (by decide) f_X0_31) <|
  nv_oc (n_iload_n (k := 1) (by decide +kernel)) <|
  nv_oc (n_iload_n (k := 3) (by decide +kernel)) <|
  nv_oc (n_iastore (by decide +kernel)) <|
  nv_oc (n_vret (by decide +kernel) rfl) <|
  nv_on
def M_X0_fallenSet : nv_MD := (RX0, yX0_fallenSet, cX0_fallenSet, 3, (some .int), 0, 0)
theorem fn_X0_fallenSet : nv_fn M_X0_fallenSet 0 := ⟨List.mem_of_getElem? (i := 475) (by decide +kernel), List.mem_of_getElem? (i := 45) (by decide +kernel), by decide +kernel⟩
theorem fv_X0_fallenSet : nv_fnV M_X0_fallenSet := ⟨List.mem_of_getElem? (i := 473) (by decide +kernel), List.mem_of_getElem? (i := 474) (by decide +kernel)⟩
def P_X0_fallenSet : nv_Pg := [(0, s_ki (0) 1), (1, s_is 1 2), (2, s_ki (0) 3), (3, s_is 2 4), (4, s_il 2 5), (5, s_al 0 6), (6, s_gf 0 0 9), (9, s_ic c_ge 33 12), (12, s_al 0 13), (13, s_gf 0 6 16), (16, s_il 2 17), (17, s_ia 18), (18, s_if c_eq 21 27), (21, s_il 1 22), (22, s_ki (1) 23), (23, s_il 2 24), (24, s_sl 25), (25, s_b nv_or 26), (26, s_is 1 27), (27, s_inc 2 (1) 30), (30, s_go 4), (33, s_il 1 34), (34, s_ir)]
set_option maxRecDepth 100000 in
set_option maxHeartbeats 4000000 in
theorem ok_X0_fallenSet : nv_ok_P M_X0_fallenSet P_X0_fallenSet :=
  nv_oc (n_iconst (z := 0) (by decide +kernel)) <|
  nv_oc (n_istore_n (k := 1) (by decide +kernel) (by decide)) <|
  nv_oc (n_iconst (z := 0) (by decide +kernel)) <|
  nv_oc (n_istore_n (k := 2) (by decide +kernel) (by decide)) <|
  nv_oc (n_iload_n (k := 2) (by decide +kernel)) <|
  nv_oc (n_aload_n (k := 0) (by decide +kernel)) <|
  nv_oc (n_getfield (idx := 37) (ci := 0) (k := 0) (N := 11) (D := RX0) (T := TX0) (by decide +kernel) rfl i_X0 (by decide) (by decide) f_X0_37) <|
  nv_oc (n_icmp_ge (off := 24) (tgt := 33) (by decide +kernel) (by decide)) <|
  nv_oc (n_aload_n (k := 0) (by decide +kernel)) <|
  nv_oc (n_getfield (idx := 22) (ci := 0) (k := 6) (N := 11) (D := RX0) (T := TX0) (by decide +kernel) rfl i_X0 (by decide) (by decide) f_X0_22) <|
  nv_oc (n_iload_n (k := 2) (by decide +kernel)) <|
  nv_oc (n_iaload (by decide +kernel)) <|
  nv_oc (n_if_ne (off := 9) (tgt := 27) (by decide +kernel) (by decide)) <|
  nv_oc (n_iload_n (k := 1) (by decide +kernel)) <|
  nv_oc (n_iconst (z := 1) (by decide +kernel)) <|
  nv_oc (n_iload_n (k := 2) (by decide +kernel)) <|
  nv_oc (n_ishl (by decide +kernel)) <|
  nv_oc (n_ior (by decide +kernel)) <|
  nv_oc (n_istore_n (k := 1) (by decide +kernel) (by decide)) <|
  nv_oc (n_iinc (k := 2) (d := 1) (by decide +kernel) (by decide)) <|
  nv_oc (n_goto (off := -26) (tgt := 4) (by decide +kernel) (by decide)) <|
  nv_oc (n_iload_n (k := 1) (by decide +kernel)) <|
  nv_oc (n_iret (by decide +kernel) rfl) <|
  nv_on
def M_X0_leftOfAll : nv_MD := (RX0, yX0_leftOfAll, cX0_leftOfAll, 3, (some .int), 0, 0)
theorem fn_X0_leftOfAll : nv_fn M_X0_leftOfAll 0 := ⟨List.mem_of_getElem? (i := 479) (by decide +kernel), List.mem_of_getElem? (i := 45) (by decide +kernel), by decide +kernel⟩
theorem fv_X0_leftOfAll : nv_fnV M_X0_leftOfAll := ⟨List.mem_of_getElem? (i := 477) (by decide +kernel), List.mem_of_getElem? (i := 478) (by decide +kernel)⟩
def P_X0_leftOfAll : nv_Pg := [(0, s_ki (0) 1), (1, s_is 1 2), (2, s_ki (0) 3), (3, s_is 2 4), (4, s_il 2 5), (5, s_al 0 6), (6, s_gf 0 0 9), (9, s_ic c_ge 27 12), (12, s_il 1 13), (13, s_al 0 14), (14, s_gf 0 6 17), (17, s_il 2 18), (18, s_ia 19), (19, s_add 20), (20, s_is 1 21), (21, s_inc 2 (1) 24), (24, s_go 4), (27, s_il 1 28), (28, s_ir)]
set_option maxRecDepth 100000 in
set_option maxHeartbeats 4000000 in
theorem ok_X0_leftOfAll : nv_ok_P M_X0_leftOfAll P_X0_leftOfAll :=
  nv_oc (n_iconst (z := 0) (by decide +kernel)) <|
  nv_oc (n_istore_n (k := 1) (by decide +kernel) (by decide)) <|
  nv_oc (n_iconst (z := 0) (by decide +kernel)) <|
  nv_oc (n_istore_n (k := 2) (by decide +kernel) (by decide)) <|
  nv_oc (n_iload_n (k := 2) (by decide +kernel)) <|
  nv_oc (n_aload_n (k := 0) (by decide +kernel)) <|
  nv_oc (n_getfield (idx := 37) (ci := 0) (k := 0) (N := 11) (D := RX0) (T := TX0) (by decide +kernel) rfl i_X0 (by decide) (by decide) f_X0_37) <|
  nv_oc (n_icmp_ge (off := 18) (tgt := 27) (by decide +kernel) (by decide)) <|
  nv_oc (n_iload_n (k := 1) (by decide +kernel)) <|
  nv_oc (n_aload_n (k := 0) (by decide +kernel)) <|
  nv_oc (n_getfield (idx := 22) (ci := 0) (k := 6) (N := 11) (D := RX0) (T := TX0) (by decide +kernel) rfl i_X0 (by decide) (by decide) f_X0_22) <|
  nv_oc (n_iload_n (k := 2) (by decide +kernel)) <|
  nv_oc (n_iaload (by decide +kernel)) <|
  nv_oc (n_iadd (by decide +kernel)) <|
  nv_oc (n_istore_n (k := 1) (by decide +kernel) (by decide)) <|
  nv_oc (n_iinc (k := 2) (d := 1) (by decide +kernel) (by decide)) <|
  nv_oc (n_goto (off := -20) (tgt := 4) (by decide +kernel) (by decide)) <|
  nv_oc (n_iload_n (k := 1) (by decide +kernel)) <|
  nv_oc (n_iret (by decide +kernel) rfl) <|
  nv_on
def M_X0_teethOfAll : nv_MD := (RX0, yX0_teethOfAll, cX0_teethOfAll, 3, (some .int), 0, 0)
theorem fn_X0_teethOfAll : nv_fn M_X0_teethOfAll 0 := ⟨List.mem_of_getElem? (i := 483) (by decide +kernel), List.mem_of_getElem? (i := 45) (by decide +kernel), by decide +kernel⟩
theorem fv_X0_teethOfAll : nv_fnV M_X0_teethOfAll := ⟨List.mem_of_getElem? (i := 481) (by decide +kernel), List.mem_of_getElem? (i := 482) (by decide +kernel)⟩
def P_X0_teethOfAll : nv_Pg := [(0, s_ki (0) 1), (1, s_is 1 2), (2, s_ki (0) 3), (3, s_is 2 4), (4, s_il 2 5), (5, s_al 0 6), (6, s_gf 0 1 9), (9, s_ic c_ge 27 12), (12, s_il 1 13), (13, s_al 0 14), (14, s_gf 0 8 17), (17, s_il 2 18), (18, s_ia 19), (19, s_add 20), (20, s_is 1 21), (21, s_inc 2 (1) 24), (24, s_go 4), (27, s_il 1 28), (28, s_ir)]
set_option maxRecDepth 100000 in
set_option maxHeartbeats 4000000 in
theorem ok_X0_teethOfAll : nv_ok_P M_X0_teethOfAll P_X0_teethOfAll :=
  nv_oc (n_iconst (z := 0) (by decide +kernel)) <|
  nv_oc (n_istore_n (k := 1) (by decide +kernel) (by decide)) <|
  nv_oc (n_iconst (z := 0) (by decide +kernel)) <|
  nv_oc (n_istore_n (k := 2) (by decide +kernel) (by decide)) <|
  nv_oc (n_iload_n (k := 2) (by decide +kernel)) <|
  nv_oc (n_aload_n (k := 0) (by decide +kernel)) <|
  nv_oc (n_getfield (idx := 40) (ci := 0) (k := 1) (N := 11) (D := RX0) (T := TX0) (by decide +kernel) rfl i_X0 (by decide) (by decide) f_X0_40) <|
  nv_oc (n_icmp_ge (off := 18) (tgt := 27) (by decide +kernel) (by decide)) <|
  nv_oc (n_iload_n (k := 1) (by decide +kernel)) <|
  nv_oc (n_aload_n (k := 0) (by decide +kernel)) <|
  nv_oc (n_getfield (idx := 28) (ci := 0) (k := 8) (N := 11) (D := RX0) (T := TX0) (by decide +kernel) rfl i_X0 (by decide) (by decide) f_X0_28) <|
  nv_oc (n_iload_n (k := 2) (by decide +kernel)) <|
  nv_oc (n_iaload (by decide +kernel)) <|
  nv_oc (n_iadd (by decide +kernel)) <|
  nv_oc (n_istore_n (k := 1) (by decide +kernel) (by decide)) <|
  nv_oc (n_iinc (k := 2) (d := 1) (by decide +kernel) (by decide)) <|
  nv_oc (n_goto (off := -20) (tgt := 4) (by decide +kernel) (by decide)) <|
  nv_oc (n_iload_n (k := 1) (by decide +kernel)) <|
  nv_oc (n_iret (by decide +kernel) rfl) <|
  nv_on
def M_X0_sittersOn : nv_MD := (RX0, yX0_sittersOn, cX0_sittersOn, 4, (some .int), 0, 0)
theorem fn_X0_sittersOn : nv_fn M_X0_sittersOn 1 := ⟨List.mem_of_getElem? (i := 278) (by decide +kernel), List.mem_of_getElem? (i := 45) (by decide +kernel), by decide +kernel⟩
theorem fv_X0_sittersOn : nv_fnV M_X0_sittersOn := ⟨List.mem_of_getElem? (i := 276) (by decide +kernel), List.mem_of_getElem? (i := 277) (by decide +kernel)⟩
def P_X0_sittersOn : nv_Pg := [(0, s_ki (0) 1), (1, s_is 2 2), (2, s_ki (0) 3), (3, s_is 3 4), (4, s_il 3 5), (5, s_al 0 6), (6, s_gf 0 1 9), (9, s_ic c_ge 34 12), (12, s_al 0 13), (13, s_gf 0 9 16), (16, s_il 3 17), (17, s_ia 18), (18, s_il 1 19), (19, s_ic c_eq 22 28), (22, s_il 2 23), (23, s_ki (1) 24), (24, s_il 3 25), (25, s_sl 26), (26, s_b nv_or 27), (27, s_is 2 28), (28, s_inc 3 (1) 31), (31, s_go 4), (34, s_il 2 35), (35, s_ir)]
set_option maxRecDepth 100000 in
set_option maxHeartbeats 4000000 in
theorem ok_X0_sittersOn : nv_ok_P M_X0_sittersOn P_X0_sittersOn :=
  nv_oc (n_iconst (z := 0) (by decide +kernel)) <|
  nv_oc (n_istore_n (k := 2) (by decide +kernel) (by decide)) <|
  nv_oc (n_iconst (z := 0) (by decide +kernel)) <|
  nv_oc (n_istore_n (k := 3) (by decide +kernel) (by decide)) <|
  nv_oc (n_iload_n (k := 3) (by decide +kernel)) <|
  nv_oc (n_aload_n (k := 0) (by decide +kernel)) <|
  nv_oc (n_getfield (idx := 40) (ci := 0) (k := 1) (N := 11) (D := RX0) (T := TX0) (by decide +kernel) rfl i_X0 (by decide) (by decide) f_X0_40) <|
  nv_oc (n_icmp_ge (off := 25) (tgt := 34) (by decide +kernel) (by decide)) <|
  nv_oc (n_aload_n (k := 0) (by decide +kernel)) <|
  nv_oc (n_getfield (idx := 31) (ci := 0) (k := 9) (N := 11) (D := RX0) (T := TX0) (by decide +kernel) rfl i_X0 (by decide) (by decide) f_X0_31) <|
  nv_oc (n_iload_n (k := 3) (by decide +kernel)) <|
  nv_oc (n_iaload (by decide +kernel)) <|
  nv_oc (n_iload_n (k := 1) (by decide +kernel)) <|
  nv_oc (n_icmp_ne (off := 9) (tgt := 28) (by decide +kernel) (by decide)) <|
  nv_oc (n_iload_n (k := 2) (by decide +kernel)) <|
  nv_oc (n_iconst (z := 1) (by decide +kernel)) <|
  nv_oc (n_iload_n (k := 3) (by decide +kernel)) <|
  nv_oc (n_ishl (by decide +kernel)) <|
  nv_oc (n_ior (by decide +kernel)) <|
  nv_oc (n_istore_n (k := 2) (by decide +kernel) (by decide)) <|
  nv_oc (n_iinc (k := 3) (d := 1) (by decide +kernel) (by decide)) <|
  nv_oc (n_goto (off := -27) (tgt := 4) (by decide +kernel) (by decide)) <|
  nv_oc (n_iload_n (k := 2) (by decide +kernel)) <|
  nv_oc (n_iret (by decide +kernel) rfl) <|
  nv_on
def M_X0_hoppersRest : nv_MD := (RX0, yX0_hoppersRest, cX0_hoppersRest, 1, (some .boolean), 0, 0)
theorem fn_X0_hoppersRest : nv_fn M_X0_hoppersRest 0 := ⟨List.mem_of_getElem? (i := 290) (by decide +kernel), List.mem_of_getElem? (i := 45) (by decide +kernel), by decide +kernel⟩
theorem fv_X0_hoppersRest : nv_fnV M_X0_hoppersRest := ⟨List.mem_of_getElem? (i := 289) (by decide +kernel), List.mem_of_getElem? (i := 1) (by decide +kernel)⟩
def P_X0_hoppersRest : nv_Pg := [(0, s_al 0 1), (1, s_gf 0 2 4), (4, s_ki (4) 5), (5, s_rem 6), (6, s_if c_eq 9 13), (9, s_ki (1) 10), (10, s_go 14), (13, s_ki (0) 14), (14, s_zr)]
set_option maxRecDepth 100000 in
set_option maxHeartbeats 4000000 in
theorem ok_X0_hoppersRest : nv_ok_P M_X0_hoppersRest P_X0_hoppersRest :=
  nv_oc (n_aload_n (k := 0) (by decide +kernel)) <|
  nv_oc (n_getfield (idx := 43) (ci := 0) (k := 2) (N := 11) (D := RX0) (T := TX0) (by decide +kernel) rfl i_X0 (by decide) (by decide) f_X0_43) <|
  nv_oc (n_iconst (z := 4) (by decide +kernel)) <|
  nv_oc (n_irem (by decide +kernel)) <|
  nv_oc (n_if_ne (off := 7) (tgt := 13) (by decide +kernel) (by decide)) <|
  nv_oc (n_iconst (z := 1) (by decide +kernel)) <|
  nv_oc (n_goto (off := 4) (tgt := 14) (by decide +kernel) (by decide)) <|
  nv_oc (n_iconst (z := 0) (by decide +kernel)) <|
  nv_oc (n_zret (by decide +kernel) rfl) <|
  nv_on
def M_X0_cutBy : nv_MD := (RX0, yX0_cutBy, cX0_cutBy, 8, (some .int), 0, 0)
theorem fn_X0_cutBy : nv_fn M_X0_cutBy 5 := ⟨List.mem_of_getElem? (i := 293) (by decide +kernel), List.mem_of_getElem? (i := 45) (by decide +kernel), by decide +kernel⟩
theorem st_X0_cutBy : Cond.static (nv_y M_X0_cutBy) ∈ lw_tbl := List.mem_of_getElem? (i := 292) (by decide +kernel)
def P_X0_cutBy : nv_Pg := [(0, s_il 1 1), (1, s_il 2 2), (2, s_ki (2) 3), (3, s_div 4), (4, s_ic c_le 15 7), (7, s_il 1 8), (8, s_il 2 9), (9, s_ki (2) 10), (10, s_div 11), (11, s_sub 12), (12, s_go 16), (15, s_ki (0) 16), (16, s_is 5 18), (18, s_il 5 20), (20, s_il 2 21), (21, s_ki (3) 22), (22, s_ic c_ge 29 25), (25, s_il 2 26), (26, s_go 30), (29, s_ki (3) 30), (30, s_add 31), (31, s_is 6 33), (33, s_il 3 34), (34, s_if c_eq 44 37), (37, s_ki (2) 38), (38, s_il 5 40), (40, s_mul 41), (41, s_go 46), (44, s_il 5 46), (46, s_is 7 48), (48, s_il 0 49), (49, s_sw 1 113 [80, 83, 86, 98]), (80, s_il 6 82), (82, s_ir), (83, s_il 7 85), (85, s_ir), (86, s_il 4 88), (88, s_if c_eq 95 91), (91, s_ki (0) 92), (92, s_go 97), (95, s_il 6 97), (97, s_ir), (98, s_il 7 100), (100, s_ki (1) 101), (101, s_ic c_eq 104 108), (104, s_ki (1) 105), (105, s_go 112), (108, s_il 7 110), (110, s_ki (2) 111), (111, s_div 112), (112, s_ir), (113, s_il 5 115), (115, s_ir)]
set_option maxRecDepth 100000 in
set_option maxHeartbeats 4000000 in
theorem ok_X0_cutBy : nv_ok_P M_X0_cutBy P_X0_cutBy :=
  nv_oc (n_iload_n (k := 1) (by decide +kernel)) <|
  nv_oc (n_iload_n (k := 2) (by decide +kernel)) <|
  nv_oc (n_iconst (z := 2) (by decide +kernel)) <|
  nv_oc (n_idiv (by decide +kernel)) <|
  nv_oc (n_icmp_le (off := 11) (tgt := 15) (by decide +kernel) (by decide)) <|
  nv_oc (n_iload_n (k := 1) (by decide +kernel)) <|
  nv_oc (n_iload_n (k := 2) (by decide +kernel)) <|
  nv_oc (n_iconst (z := 2) (by decide +kernel)) <|
  nv_oc (n_idiv (by decide +kernel)) <|
  nv_oc (n_isub (by decide +kernel)) <|
  nv_oc (n_goto (off := 4) (tgt := 16) (by decide +kernel) (by decide)) <|
  nv_oc (n_iconst (z := 0) (by decide +kernel)) <|
  nv_oc (n_istore (k := 5) (by decide +kernel) (by decide)) <|
  nv_oc (n_iload (k := 5) (by decide +kernel)) <|
  nv_oc (n_iload_n (k := 2) (by decide +kernel)) <|
  nv_oc (n_iconst (z := 3) (by decide +kernel)) <|
  nv_oc (n_icmp_ge (off := 7) (tgt := 29) (by decide +kernel) (by decide)) <|
  nv_oc (n_iload_n (k := 2) (by decide +kernel)) <|
  nv_oc (n_goto (off := 4) (tgt := 30) (by decide +kernel) (by decide)) <|
  nv_oc (n_iconst (z := 3) (by decide +kernel)) <|
  nv_oc (n_iadd (by decide +kernel)) <|
  nv_oc (n_istore (k := 6) (by decide +kernel) (by decide)) <|
  nv_oc (n_iload_n (k := 3) (by decide +kernel)) <|
  nv_oc (n_if_eq (off := 10) (tgt := 44) (by decide +kernel) (by decide)) <|
  nv_oc (n_iconst (z := 2) (by decide +kernel)) <|
  nv_oc (n_iload (k := 5) (by decide +kernel)) <|
  nv_oc (n_imul (by decide +kernel)) <|
  nv_oc (n_goto (off := 5) (tgt := 46) (by decide +kernel) (by decide)) <|
  nv_oc (n_iload (k := 5) (by decide +kernel)) <|
  nv_oc (n_istore (k := 7) (by decide +kernel) (by decide)) <|
  nv_oc (n_iload_n (k := 0) (by decide +kernel)) <|
  nv_oc (n_tableswitch (dflt := 64) (lo := 1) (hi := 4) (offs := #[31, 34, 37, 49]) (len := 31) (df := 113) (ts := [80, 83, 86, 98]) (by decide +kernel) (by decide) (by decide) (by decide)) <|
  nv_oc (n_iload (k := 6) (by decide +kernel)) <|
  nv_oc (n_iret (by decide +kernel) rfl) <|
  nv_oc (n_iload (k := 7) (by decide +kernel)) <|
  nv_oc (n_iret (by decide +kernel) rfl) <|
  nv_oc (n_iload (k := 4) (by decide +kernel)) <|
  nv_oc (n_if_eq (off := 7) (tgt := 95) (by decide +kernel) (by decide)) <|
  nv_oc (n_iconst (z := 0) (by decide +kernel)) <|
  nv_oc (n_goto (off := 5) (tgt := 97) (by decide +kernel) (by decide)) <|
  nv_oc (n_iload (k := 6) (by decide +kernel)) <|
  nv_oc (n_iret (by decide +kernel) rfl) <|
  nv_oc (n_iload (k := 7) (by decide +kernel)) <|
  nv_oc (n_iconst (z := 1) (by decide +kernel)) <|
  nv_oc (n_icmp_ne (off := 7) (tgt := 108) (by decide +kernel) (by decide)) <|
  nv_oc (n_iconst (z := 1) (by decide +kernel)) <|
  nv_oc (n_goto (off := 7) (tgt := 112) (by decide +kernel) (by decide)) <|
  nv_oc (n_iload (k := 7) (by decide +kernel)) <|
  nv_oc (n_iconst (z := 2) (by decide +kernel)) <|
  nv_oc (n_idiv (by decide +kernel)) <|
  nv_oc (n_iret (by decide +kernel) rfl) <|
  nv_oc (n_iload (k := 5) (by decide +kernel)) <|
  nv_oc (n_iret (by decide +kernel) rfl) <|
  nv_on
def M_X0_cutOf : nv_MD := (RX0, yX0_cutOf, cX0_cutOf, 4, (some .int), 1, 27)
theorem fn_X0_cutOf : nv_fn M_X0_cutOf 1 := ⟨List.mem_of_getElem? (i := 286) (by decide +kernel), List.mem_of_getElem? (i := 45) (by decide +kernel), by decide +kernel⟩
theorem fv_X0_cutOf : nv_fnV M_X0_cutOf := ⟨List.mem_of_getElem? (i := 284) (by decide +kernel), List.mem_of_getElem? (i := 285) (by decide +kernel)⟩
def P_X0_cutOf : nv_Pg := [(0, s_al 0 1), (1, s_gf 0 9 4), (4, s_il 1 5), (5, s_ia 6), (6, s_is 2 7), (7, s_il 2 8), (8, s_if c_lt 20 11), (11, s_al 0 12), (12, s_gf 0 6 15), (15, s_il 2 16), (16, s_ia 17), (17, s_if c_eq 20 22), (20, s_ki (0) 21), (21, s_ir), (22, s_al 0 23), (23, s_gf 0 6 26), (26, s_il 2 27), (27, s_ia 28), (28, s_al 0 29), (29, s_gf 0 4 32), (32, s_il 2 33), (33, s_ia 34), (34, s_ic c_eq 48 37), (37, s_al 0 38), (38, s_gf 0 6 41), (41, s_il 2 42), (42, s_ia 43), (43, s_ki (10) 45), (45, s_ic c_ge 52 48), (48, s_ki (1) 49), (49, s_go 53), (52, s_ki (0) 53), (53, s_is 3 54), (54, s_al 0 55), (55, s_gf 0 7 58), (58, s_il 1 59), (59, s_ia 60), (60, s_al 0 61), (61, s_gf 0 8 64), (64, s_il 1 65), (65, s_ia 66), (66, s_al 0 67), (67, s_gf 0 5 70), (70, s_il 2 71), (71, s_ia 72), (72, s_il 3 73), (73, s_al 0 74), (74, s_cv 0 M_X0_hoppersRest 0 77), (77, s_cs M_X0_cutBy 5 80), (80, s_ir)]
set_option maxRecDepth 100000 in
set_option maxHeartbeats 4000000 in
theorem ok_X0_cutOf : nv_ok_P M_X0_cutOf P_X0_cutOf :=
  nv_oc (n_aload_n (k := 0) (by decide +kernel)) <|
  nv_oc (n_getfield (idx := 31) (ci := 0) (k := 9) (N := 11) (D := RX0) (T := TX0) (by decide +kernel) rfl i_X0 (by decide) (by decide) f_X0_31) <|
  nv_oc (n_iload_n (k := 1) (by decide +kernel)) <|
  nv_oc (n_iaload (by decide +kernel)) <|
  nv_oc (n_istore_n (k := 2) (by decide +kernel) (by decide)) <|
  nv_oc (n_iload_n (k := 2) (by decide +kernel)) <|
  nv_oc (n_if_lt (off := 12) (tgt := 20) (by decide +kernel) (by decide)) <|
  nv_oc (n_aload_n (k := 0) (by decide +kernel)) <|
  nv_oc (n_getfield (idx := 22) (ci := 0) (k := 6) (N := 11) (D := RX0) (T := TX0) (by decide +kernel) rfl i_X0 (by decide) (by decide) f_X0_22) <|
  nv_oc (n_iload_n (k := 2) (by decide +kernel)) <|
  nv_oc (n_iaload (by decide +kernel)) <|
  nv_oc (n_if_ne (off := 5) (tgt := 22) (by decide +kernel) (by decide)) <|
  nv_oc (n_iconst (z := 0) (by decide +kernel)) <|
  nv_oc (n_iret (by decide +kernel) rfl) <|
  nv_oc (n_aload_n (k := 0) (by decide +kernel)) <|
  nv_oc (n_getfield (idx := 22) (ci := 0) (k := 6) (N := 11) (D := RX0) (T := TX0) (by decide +kernel) rfl i_X0 (by decide) (by decide) f_X0_22) <|
  nv_oc (n_iload_n (k := 2) (by decide +kernel)) <|
  nv_oc (n_iaload (by decide +kernel)) <|
  nv_oc (n_aload_n (k := 0) (by decide +kernel)) <|
  nv_oc (n_getfield (idx := 15) (ci := 0) (k := 4) (N := 11) (D := RX0) (T := TX0) (by decide +kernel) rfl i_X0 (by decide) (by decide) f_X0_15) <|
  nv_oc (n_iload_n (k := 2) (by decide +kernel)) <|
  nv_oc (n_iaload (by decide +kernel)) <|
  nv_oc (n_icmp_eq (off := 14) (tgt := 48) (by decide +kernel) (by decide)) <|
  nv_oc (n_aload_n (k := 0) (by decide +kernel)) <|
  nv_oc (n_getfield (idx := 22) (ci := 0) (k := 6) (N := 11) (D := RX0) (T := TX0) (by decide +kernel) rfl i_X0 (by decide) (by decide) f_X0_22) <|
  nv_oc (n_iload_n (k := 2) (by decide +kernel)) <|
  nv_oc (n_iaload (by decide +kernel)) <|
  nv_oc (n_bipush (z := 10) (by decide +kernel) (by decide)) <|
  nv_oc (n_icmp_ge (off := 7) (tgt := 52) (by decide +kernel) (by decide)) <|
  nv_oc (n_iconst (z := 1) (by decide +kernel)) <|
  nv_oc (n_goto (off := 4) (tgt := 53) (by decide +kernel) (by decide)) <|
  nv_oc (n_iconst (z := 0) (by decide +kernel)) <|
  nv_oc (n_istore_n (k := 3) (by decide +kernel) (by decide)) <|
  nv_oc (n_aload_n (k := 0) (by decide +kernel)) <|
  nv_oc (n_getfield (idx := 25) (ci := 0) (k := 7) (N := 11) (D := RX0) (T := TX0) (by decide +kernel) rfl i_X0 (by decide) (by decide) f_X0_25) <|
  nv_oc (n_iload_n (k := 1) (by decide +kernel)) <|
  nv_oc (n_iaload (by decide +kernel)) <|
  nv_oc (n_aload_n (k := 0) (by decide +kernel)) <|
  nv_oc (n_getfield (idx := 28) (ci := 0) (k := 8) (N := 11) (D := RX0) (T := TX0) (by decide +kernel) rfl i_X0 (by decide) (by decide) f_X0_28) <|
  nv_oc (n_iload_n (k := 1) (by decide +kernel)) <|
  nv_oc (n_iaload (by decide +kernel)) <|
  nv_oc (n_aload_n (k := 0) (by decide +kernel)) <|
  nv_oc (n_getfield (idx := 19) (ci := 0) (k := 5) (N := 11) (D := RX0) (T := TX0) (by decide +kernel) rfl i_X0 (by decide) (by decide) f_X0_19) <|
  nv_oc (n_iload_n (k := 2) (by decide +kernel)) <|
  nv_oc (n_iaload (by decide +kernel)) <|
  nv_oc (n_iload_n (k := 3) (by decide +kernel)) <|
  nv_oc (n_aload_n (k := 0) (by decide +kernel)) <|
  nv_oc (n_virtual (M' := M_X0_hoppersRest) (idx := 66) (n := 0) (ci := 0) (N := 11) (D := RX0) (T := TX0) (by decide +kernel) fn_X0_hoppersRest fv_X0_hoppersRest rfl rfl l_X0_66 ⟨by decide, by decide⟩) <|
  nv_oc (n_static (M' := M_X0_cutBy) (idx := 70) (n := 5) (by decide +kernel) fn_X0_cutBy st_X0_cutBy l_X0_70 ⟨by decide, by decide⟩) <|
  nv_oc (n_iret (by decide +kernel) rfl) <|
  nv_on
def M_X0_cutByAll : nv_MD := (RX0, yX0_cutByAll, cX0_cutByAll, 4, (some .int), 2, 50)
theorem fn_X0_cutByAll : nv_fn M_X0_cutByAll 1 := ⟨List.mem_of_getElem? (i := 282) (by decide +kernel), List.mem_of_getElem? (i := 45) (by decide +kernel), by decide +kernel⟩
theorem fv_X0_cutByAll : nv_fnV M_X0_cutByAll := ⟨List.mem_of_getElem? (i := 280) (by decide +kernel), List.mem_of_getElem? (i := 281) (by decide +kernel)⟩
def P_X0_cutByAll : nv_Pg := [(0, s_ki (0) 1), (1, s_is 2 2), (2, s_ki (0) 3), (3, s_is 3 4), (4, s_il 3 5), (5, s_al 0 6), (6, s_gf 0 1 9), (9, s_ic c_ge 35 12), (12, s_il 1 13), (13, s_il 3 14), (14, s_sr 15), (15, s_ki (1) 16), (16, s_b nv_and 17), (17, s_ki (1) 18), (18, s_ic c_eq 21 29), (21, s_il 2 22), (22, s_al 0 23), (23, s_il 3 24), (24, s_cv 0 M_X0_cutOf 1 27), (27, s_add 28), (28, s_is 2 29), (29, s_inc 3 (1) 32), (32, s_go 4), (35, s_il 2 36), (36, s_ir)]
set_option maxRecDepth 100000 in
set_option maxHeartbeats 4000000 in
theorem ok_X0_cutByAll : nv_ok_P M_X0_cutByAll P_X0_cutByAll :=
  nv_oc (n_iconst (z := 0) (by decide +kernel)) <|
  nv_oc (n_istore_n (k := 2) (by decide +kernel) (by decide)) <|
  nv_oc (n_iconst (z := 0) (by decide +kernel)) <|
  nv_oc (n_istore_n (k := 3) (by decide +kernel) (by decide)) <|
  nv_oc (n_iload_n (k := 3) (by decide +kernel)) <|
  nv_oc (n_aload_n (k := 0) (by decide +kernel)) <|
  nv_oc (n_getfield (idx := 40) (ci := 0) (k := 1) (N := 11) (D := RX0) (T := TX0) (by decide +kernel) rfl i_X0 (by decide) (by decide) f_X0_40) <|
  nv_oc (n_icmp_ge (off := 26) (tgt := 35) (by decide +kernel) (by decide)) <|
  nv_oc (n_iload_n (k := 1) (by decide +kernel)) <|
  nv_oc (n_iload_n (k := 3) (by decide +kernel)) <|
  nv_oc (n_ishr (by decide +kernel)) <|
  nv_oc (n_iconst (z := 1) (by decide +kernel)) <|
  nv_oc (n_iand (by decide +kernel)) <|
  nv_oc (n_iconst (z := 1) (by decide +kernel)) <|
  nv_oc (n_icmp_ne (off := 11) (tgt := 29) (by decide +kernel) (by decide)) <|
  nv_oc (n_iload_n (k := 2) (by decide +kernel)) <|
  nv_oc (n_aload_n (k := 0) (by decide +kernel)) <|
  nv_oc (n_iload_n (k := 3) (by decide +kernel)) <|
  nv_oc (n_virtual (M' := M_X0_cutOf) (idx := 62) (n := 1) (ci := 0) (N := 11) (D := RX0) (T := TX0) (by decide +kernel) fn_X0_cutOf fv_X0_cutOf rfl rfl l_X0_62 ⟨by decide, by decide⟩) <|
  nv_oc (n_iadd (by decide +kernel)) <|
  nv_oc (n_istore_n (k := 2) (by decide +kernel) (by decide)) <|
  nv_oc (n_iinc (k := 3) (d := 1) (by decide +kernel) (by decide)) <|
  nv_oc (n_goto (off := -28) (tgt := 4) (by decide +kernel) (by decide)) <|
  nv_oc (n_iload_n (k := 2) (by decide +kernel)) <|
  nv_oc (n_iret (by decide +kernel) rfl) <|
  nv_on
def M_X0_mostCut : nv_MD := (RX0, yX0_mostCut, cX0_mostCut, 5, (some .int), 1, 27)
theorem fn_X0_mostCut : nv_fn M_X0_mostCut 0 := ⟨List.mem_of_getElem? (i := 588) (by decide +kernel), List.mem_of_getElem? (i := 45) (by decide +kernel), by decide +kernel⟩
theorem fv_X0_mostCut : nv_fnV M_X0_mostCut := ⟨List.mem_of_getElem? (i := 586) (by decide +kernel), List.mem_of_getElem? (i := 587) (by decide +kernel)⟩
def P_X0_mostCut : nv_Pg := [(0, s_ki (0) 1), (1, s_is 1 2), (2, s_ki (0) 3), (3, s_is 2 4), (4, s_il 2 5), (5, s_al 0 6), (6, s_gf 0 1 9), (9, s_ic c_ge 71 12), (12, s_ki (0) 13), (13, s_is 3 14), (14, s_ki (0) 15), (15, s_is 4 17), (17, s_il 4 19), (19, s_al 0 20), (20, s_gf 0 0 23), (23, s_ic c_ge 61 26), (26, s_il 3 27), (27, s_al 0 28), (28, s_gf 0 7 31), (31, s_il 2 32), (32, s_ia 33), (33, s_al 0 34), (34, s_gf 0 8 37), (37, s_il 2 38), (38, s_ia 39), (39, s_al 0 40), (40, s_gf 0 5 43), (43, s_il 4 45), (45, s_ia 46), (46, s_ki (1) 47), (47, s_ki (0) 48), (48, s_cs M_X0_cutBy 5 51), (51, s_max 54), (54, s_is 3 55), (55, s_inc 4 (1) 58), (58, s_go 17), (61, s_il 1 62), (62, s_il 3 63), (63, s_add 64), (64, s_is 1 65), (65, s_inc 2 (1) 68), (68, s_go 4), (71, s_il 1 72), (72, s_ir)]
set_option maxRecDepth 100000 in
set_option maxHeartbeats 4000000 in
theorem ok_X0_mostCut : nv_ok_P M_X0_mostCut P_X0_mostCut :=
  nv_oc (n_iconst (z := 0) (by decide +kernel)) <|
  nv_oc (n_istore_n (k := 1) (by decide +kernel) (by decide)) <|
  nv_oc (n_iconst (z := 0) (by decide +kernel)) <|
  nv_oc (n_istore_n (k := 2) (by decide +kernel) (by decide)) <|
  nv_oc (n_iload_n (k := 2) (by decide +kernel)) <|
  nv_oc (n_aload_n (k := 0) (by decide +kernel)) <|
  nv_oc (n_getfield (idx := 40) (ci := 0) (k := 1) (N := 11) (D := RX0) (T := TX0) (by decide +kernel) rfl i_X0 (by decide) (by decide) f_X0_40) <|
  nv_oc (n_icmp_ge (off := 62) (tgt := 71) (by decide +kernel) (by decide)) <|
  nv_oc (n_iconst (z := 0) (by decide +kernel)) <|
  nv_oc (n_istore_n (k := 3) (by decide +kernel) (by decide)) <|
  nv_oc (n_iconst (z := 0) (by decide +kernel)) <|
  nv_oc (n_istore (k := 4) (by decide +kernel) (by decide)) <|
  nv_oc (n_iload (k := 4) (by decide +kernel)) <|
  nv_oc (n_aload_n (k := 0) (by decide +kernel)) <|
  nv_oc (n_getfield (idx := 37) (ci := 0) (k := 0) (N := 11) (D := RX0) (T := TX0) (by decide +kernel) rfl i_X0 (by decide) (by decide) f_X0_37) <|
  nv_oc (n_icmp_ge (off := 38) (tgt := 61) (by decide +kernel) (by decide)) <|
  nv_oc (n_iload_n (k := 3) (by decide +kernel)) <|
  nv_oc (n_aload_n (k := 0) (by decide +kernel)) <|
  nv_oc (n_getfield (idx := 25) (ci := 0) (k := 7) (N := 11) (D := RX0) (T := TX0) (by decide +kernel) rfl i_X0 (by decide) (by decide) f_X0_25) <|
  nv_oc (n_iload_n (k := 2) (by decide +kernel)) <|
  nv_oc (n_iaload (by decide +kernel)) <|
  nv_oc (n_aload_n (k := 0) (by decide +kernel)) <|
  nv_oc (n_getfield (idx := 28) (ci := 0) (k := 8) (N := 11) (D := RX0) (T := TX0) (by decide +kernel) rfl i_X0 (by decide) (by decide) f_X0_28) <|
  nv_oc (n_iload_n (k := 2) (by decide +kernel)) <|
  nv_oc (n_iaload (by decide +kernel)) <|
  nv_oc (n_aload_n (k := 0) (by decide +kernel)) <|
  nv_oc (n_getfield (idx := 19) (ci := 0) (k := 5) (N := 11) (D := RX0) (T := TX0) (by decide +kernel) rfl i_X0 (by decide) (by decide) f_X0_19) <|
  nv_oc (n_iload (k := 4) (by decide +kernel)) <|
  nv_oc (n_iaload (by decide +kernel)) <|
  nv_oc (n_iconst (z := 1) (by decide +kernel)) <|
  nv_oc (n_iconst (z := 0) (by decide +kernel)) <|
  nv_oc (n_static (M' := M_X0_cutBy) (idx := 70) (n := 5) (by decide +kernel) fn_X0_cutBy st_X0_cutBy l_X0_70 ⟨by decide, by decide⟩) <|
  nv_oc (n_max (idx := 74) (by decide +kernel) l_X0_74 (by decide) (by decide)) <|
  nv_oc (n_istore_n (k := 3) (by decide +kernel) (by decide)) <|
  nv_oc (n_iinc (k := 4) (d := 1) (by decide +kernel) (by decide)) <|
  nv_oc (n_goto (off := -41) (tgt := 17) (by decide +kernel) (by decide)) <|
  nv_oc (n_iload_n (k := 1) (by decide +kernel)) <|
  nv_oc (n_iload_n (k := 3) (by decide +kernel)) <|
  nv_oc (n_iadd (by decide +kernel)) <|
  nv_oc (n_istore_n (k := 1) (by decide +kernel) (by decide)) <|
  nv_oc (n_iinc (k := 2) (d := 1) (by decide +kernel) (by decide)) <|
  nv_oc (n_goto (off := -64) (tgt := 4) (by decide +kernel) (by decide)) <|
  nv_oc (n_iload_n (k := 1) (by decide +kernel)) <|
  nv_oc (n_iret (by decide +kernel) rfl) <|
  nv_on
def M_X0_growBlunt : nv_MD := (RX0, yX0_growBlunt, cX0_growBlunt, 2, none, 0, 0)
theorem fn_X0_growBlunt : nv_fn M_X0_growBlunt 0 := ⟨List.mem_of_getElem? (i := 502) (by decide +kernel), List.mem_of_getElem? (i := 45) (by decide +kernel), by decide +kernel⟩
theorem fv_X0_growBlunt : nv_fnV M_X0_growBlunt := ⟨List.mem_of_getElem? (i := 501) (by decide +kernel), List.mem_of_getElem? (i := 12) (by decide +kernel)⟩
def P_X0_growBlunt : nv_Pg := [(0, s_ki (0) 1), (1, s_is 1 2), (2, s_il 1 3), (3, s_al 0 4), (4, s_gf 0 1 7), (7, s_ic c_ge 44 10), (10, s_al 0 11), (11, s_gf 0 10 14), (14, s_il 1 15), (15, s_ia 16), (16, s_if c_le 38 19), (19, s_al 0 20), (20, s_gf 0 8 23), (23, s_il 1 24), (24, s_ia 25), (25, s_if c_le 38 28), (28, s_al 0 29), (29, s_gf 0 8 32), (32, s_il 1 33), (33, s_dup2 34), (34, s_ia 35), (35, s_ki (1) 36), (36, s_sub 37), (37, s_iw 38), (38, s_inc 1 (1) 41), (41, s_go 2), (44, s_vr)]
set_option maxRecDepth 100000 in
set_option maxHeartbeats 4000000 in
theorem ok_X0_growBlunt : nv_ok_P M_X0_growBlunt P_X0_growBlunt :=
  nv_oc (n_iconst (z := 0) (by decide +kernel)) <|
  nv_oc (n_istore_n (k := 1) (by decide +kernel) (by decide)) <|
  nv_oc (n_iload_n (k := 1) (by decide +kernel)) <|
  nv_oc (n_aload_n (k := 0) (by decide +kernel)) <|
  nv_oc (n_getfield (idx := 40) (ci := 0) (k := 1) (N := 11) (D := RX0) (T := TX0) (by decide +kernel) rfl i_X0 (by decide) (by decide) f_X0_40) <|
  nv_oc (n_icmp_ge (off := 37) (tgt := 44) (by decide +kernel) (by decide)) <|
  nv_oc (n_aload_n (k := 0) (by decide +kernel)) <|
  nv_oc (n_getfield (idx := 34) (ci := 0) (k := 10) (N := 11) (D := RX0) (T := TX0) (by decide +kernel) rfl i_X0 (by decide) (by decide) f_X0_34) <|
  nv_oc (n_iload_n (k := 1) (by decide +kernel)) <|
  nv_oc (n_iaload (by decide +kernel)) <|
  nv_oc (n_if_le (off := 22) (tgt := 38) (by decide +kernel) (by decide)) <|
  nv_oc (n_aload_n (k := 0) (by decide +kernel)) <|
  nv_oc (n_getfield (idx := 28) (ci := 0) (k := 8) (N := 11) (D := RX0) (T := TX0) (by decide +kernel) rfl i_X0 (by decide) (by decide) f_X0_28) <|
  nv_oc (n_iload_n (k := 1) (by decide +kernel)) <|
  nv_oc (n_iaload (by decide +kernel)) <|
  nv_oc (n_if_le (off := 13) (tgt := 38) (by decide +kernel) (by decide)) <|
  nv_oc (n_aload_n (k := 0) (by decide +kernel)) <|
  nv_oc (n_getfield (idx := 28) (ci := 0) (k := 8) (N := 11) (D := RX0) (T := TX0) (by decide +kernel) rfl i_X0 (by decide) (by decide) f_X0_28) <|
  nv_oc (n_iload_n (k := 1) (by decide +kernel)) <|
  nv_oc (n_dup2 (by decide +kernel)) <|
  nv_oc (n_iaload (by decide +kernel)) <|
  nv_oc (n_iconst (z := 1) (by decide +kernel)) <|
  nv_oc (n_isub (by decide +kernel)) <|
  nv_oc (n_iastore (by decide +kernel)) <|
  nv_oc (n_iinc (k := 1) (d := 1) (by decide +kernel) (by decide)) <|
  nv_oc (n_goto (off := -39) (tgt := 2) (by decide +kernel) (by decide)) <|
  nv_oc (n_vret (by decide +kernel) rfl) <|
  nv_on
def M_X0_plankMostLeft : nv_MD := (RX0, yX0_plankMostLeft, cX0_plankMostLeft, 3, (some .int), 0, 0)
theorem fn_X0_plankMostLeft : nv_fn M_X0_plankMostLeft 0 := ⟨List.mem_of_getElem? (i := 510) (by decide +kernel), List.mem_of_getElem? (i := 45) (by decide +kernel), by decide +kernel⟩
theorem fv_X0_plankMostLeft : nv_fnV M_X0_plankMostLeft := ⟨List.mem_of_getElem? (i := 509) (by decide +kernel), List.mem_of_getElem? (i := 14) (by decide +kernel)⟩
def P_X0_plankMostLeft : nv_Pg := [(0, s_ki (-4) 2), (2, s_is 1 3), (3, s_ki (0) 4), (4, s_is 2 5), (5, s_il 2 6), (6, s_al 0 7), (7, s_gf 0 0 10), (10, s_ic c_ge 51 13), (13, s_al 0 14), (14, s_gf 0 6 17), (17, s_il 2 18), (18, s_ia 19), (19, s_if c_le 45 22), (22, s_il 1 23), (23, s_ki (-4) 25), (25, s_ic c_eq 43 28), (28, s_al 0 29), (29, s_gf 0 6 32), (32, s_il 2 33), (33, s_ia 34), (34, s_al 0 35), (35, s_gf 0 6 38), (38, s_il 1 39), (39, s_ia 40), (40, s_ic c_le 45 43), (43, s_il 2 44), (44, s_is 1 45), (45, s_inc 2 (1) 48), (48, s_go 5), (51, s_il 1 52), (52, s_ir)]
set_option maxRecDepth 100000 in
set_option maxHeartbeats 4000000 in
theorem ok_X0_plankMostLeft : nv_ok_P M_X0_plankMostLeft P_X0_plankMostLeft :=
  nv_oc (n_bipush (z := -4) (by decide +kernel) (by decide)) <|
  nv_oc (n_istore_n (k := 1) (by decide +kernel) (by decide)) <|
  nv_oc (n_iconst (z := 0) (by decide +kernel)) <|
  nv_oc (n_istore_n (k := 2) (by decide +kernel) (by decide)) <|
  nv_oc (n_iload_n (k := 2) (by decide +kernel)) <|
  nv_oc (n_aload_n (k := 0) (by decide +kernel)) <|
  nv_oc (n_getfield (idx := 37) (ci := 0) (k := 0) (N := 11) (D := RX0) (T := TX0) (by decide +kernel) rfl i_X0 (by decide) (by decide) f_X0_37) <|
  nv_oc (n_icmp_ge (off := 41) (tgt := 51) (by decide +kernel) (by decide)) <|
  nv_oc (n_aload_n (k := 0) (by decide +kernel)) <|
  nv_oc (n_getfield (idx := 22) (ci := 0) (k := 6) (N := 11) (D := RX0) (T := TX0) (by decide +kernel) rfl i_X0 (by decide) (by decide) f_X0_22) <|
  nv_oc (n_iload_n (k := 2) (by decide +kernel)) <|
  nv_oc (n_iaload (by decide +kernel)) <|
  nv_oc (n_if_le (off := 26) (tgt := 45) (by decide +kernel) (by decide)) <|
  nv_oc (n_iload_n (k := 1) (by decide +kernel)) <|
  nv_oc (n_bipush (z := -4) (by decide +kernel) (by decide)) <|
  nv_oc (n_icmp_eq (off := 18) (tgt := 43) (by decide +kernel) (by decide)) <|
  nv_oc (n_aload_n (k := 0) (by decide +kernel)) <|
  nv_oc (n_getfield (idx := 22) (ci := 0) (k := 6) (N := 11) (D := RX0) (T := TX0) (by decide +kernel) rfl i_X0 (by decide) (by decide) f_X0_22) <|
  nv_oc (n_iload_n (k := 2) (by decide +kernel)) <|
  nv_oc (n_iaload (by decide +kernel)) <|
  nv_oc (n_aload_n (k := 0) (by decide +kernel)) <|
  nv_oc (n_getfield (idx := 22) (ci := 0) (k := 6) (N := 11) (D := RX0) (T := TX0) (by decide +kernel) rfl i_X0 (by decide) (by decide) f_X0_22) <|
  nv_oc (n_iload_n (k := 1) (by decide +kernel)) <|
  nv_oc (n_iaload (by decide +kernel)) <|
  nv_oc (n_icmp_le (off := 5) (tgt := 45) (by decide +kernel) (by decide)) <|
  nv_oc (n_iload_n (k := 2) (by decide +kernel)) <|
  nv_oc (n_istore_n (k := 1) (by decide +kernel) (by decide)) <|
  nv_oc (n_iinc (k := 2) (d := 1) (by decide +kernel) (by decide)) <|
  nv_oc (n_goto (off := -43) (tgt := 5) (by decide +kernel) (by decide)) <|
  nv_oc (n_iload_n (k := 1) (by decide +kernel)) <|
  nv_oc (n_iret (by decide +kernel) rfl) <|
  nv_on
def M_X0_leaveFallen : nv_MD := (RX0, yX0_leaveFallen, cX0_leaveFallen, 3, (some .boolean), 1, 22)
theorem fn_X0_leaveFallen : nv_fn M_X0_leaveFallen 0 := ⟨List.mem_of_getElem? (i := 506) (by decide +kernel), List.mem_of_getElem? (i := 45) (by decide +kernel), by decide +kernel⟩
theorem fv_X0_leaveFallen : nv_fnV M_X0_leaveFallen := ⟨List.mem_of_getElem? (i := 505) (by decide +kernel), List.mem_of_getElem? (i := 13) (by decide +kernel)⟩
def P_X0_leaveFallen : nv_Pg := [(0, s_ki (-4) 2), (2, s_is 1 3), (3, s_ki (0) 4), (4, s_is 2 5), (5, s_il 2 6), (6, s_al 0 7), (7, s_gf 0 1 10), (10, s_ic c_ge 72 13), (13, s_al 0 14), (14, s_gf 0 9 17), (17, s_il 2 18), (18, s_ia 19), (19, s_if c_lt 66 22), (22, s_al 0 23), (23, s_gf 0 6 26), (26, s_al 0 27), (27, s_gf 0 9 30), (30, s_il 2 31), (31, s_ia 32), (32, s_ia 33), (33, s_if c_eq 36 66), (36, s_il 1 37), (37, s_ki (-4) 39), (39, s_ic c_eq 42 49), (42, s_al 0 43), (43, s_cv 0 M_X0_plankMostLeft 0 46), (46, s_go 50), (49, s_il 1 50), (50, s_is 1 51), (51, s_il 1 52), (52, s_ki (-4) 54), (54, s_ic c_eq 57 59), (57, s_ki (0) 58), (58, s_zr), (59, s_al 0 60), (60, s_gf 0 9 63), (63, s_il 2 64), (64, s_il 1 65), (65, s_iw 66), (66, s_inc 2 (1) 69), (69, s_go 5), (72, s_il 1 73), (73, s_ki (-4) 75), (75, s_ic c_eq 82 78), (78, s_ki (1) 79), (79, s_go 83), (82, s_ki (0) 83), (83, s_zr)]
set_option maxRecDepth 100000 in
set_option maxHeartbeats 4000000 in
theorem ok_X0_leaveFallen : nv_ok_P M_X0_leaveFallen P_X0_leaveFallen :=
  nv_oc (n_bipush (z := -4) (by decide +kernel) (by decide)) <|
  nv_oc (n_istore_n (k := 1) (by decide +kernel) (by decide)) <|
  nv_oc (n_iconst (z := 0) (by decide +kernel)) <|
  nv_oc (n_istore_n (k := 2) (by decide +kernel) (by decide)) <|
  nv_oc (n_iload_n (k := 2) (by decide +kernel)) <|
  nv_oc (n_aload_n (k := 0) (by decide +kernel)) <|
  nv_oc (n_getfield (idx := 40) (ci := 0) (k := 1) (N := 11) (D := RX0) (T := TX0) (by decide +kernel) rfl i_X0 (by decide) (by decide) f_X0_40) <|
  nv_oc (n_icmp_ge (off := 62) (tgt := 72) (by decide +kernel) (by decide)) <|
  nv_oc (n_aload_n (k := 0) (by decide +kernel)) <|
  nv_oc (n_getfield (idx := 31) (ci := 0) (k := 9) (N := 11) (D := RX0) (T := TX0) (by decide +kernel) rfl i_X0 (by decide) (by decide) f_X0_31) <|
  nv_oc (n_iload_n (k := 2) (by decide +kernel)) <|
  nv_oc (n_iaload (by decide +kernel)) <|
  nv_oc (n_if_lt (off := 47) (tgt := 66) (by decide +kernel) (by decide)) <|
  nv_oc (n_aload_n (k := 0) (by decide +kernel)) <|
  nv_oc (n_getfield (idx := 22) (ci := 0) (k := 6) (N := 11) (D := RX0) (T := TX0) (by decide +kernel) rfl i_X0 (by decide) (by decide) f_X0_22) <|
  nv_oc (n_aload_n (k := 0) (by decide +kernel)) <|
  nv_oc (n_getfield (idx := 31) (ci := 0) (k := 9) (N := 11) (D := RX0) (T := TX0) (by decide +kernel) rfl i_X0 (by decide) (by decide) f_X0_31) <|
  nv_oc (n_iload_n (k := 2) (by decide +kernel)) <|
  nv_oc (n_iaload (by decide +kernel)) <|
  nv_oc (n_iaload (by decide +kernel)) <|
  nv_oc (n_if_ne (off := 33) (tgt := 66) (by decide +kernel) (by decide)) <|
  nv_oc (n_iload_n (k := 1) (by decide +kernel)) <|
  nv_oc (n_bipush (z := -4) (by decide +kernel) (by decide)) <|
  nv_oc (n_icmp_ne (off := 10) (tgt := 49) (by decide +kernel) (by decide)) <|
  nv_oc (n_aload_n (k := 0) (by decide +kernel)) <|
  nv_oc (n_virtual (M' := M_X0_plankMostLeft) (idx := 83) (n := 0) (ci := 0) (N := 11) (D := RX0) (T := TX0) (by decide +kernel) fn_X0_plankMostLeft fv_X0_plankMostLeft rfl rfl l_X0_83 ⟨by decide, by decide⟩) <|
  nv_oc (n_goto (off := 4) (tgt := 50) (by decide +kernel) (by decide)) <|
  nv_oc (n_iload_n (k := 1) (by decide +kernel)) <|
  nv_oc (n_istore_n (k := 1) (by decide +kernel) (by decide)) <|
  nv_oc (n_iload_n (k := 1) (by decide +kernel)) <|
  nv_oc (n_bipush (z := -4) (by decide +kernel) (by decide)) <|
  nv_oc (n_icmp_ne (off := 5) (tgt := 59) (by decide +kernel) (by decide)) <|
  nv_oc (n_iconst (z := 0) (by decide +kernel)) <|
  nv_oc (n_zret (by decide +kernel) rfl) <|
  nv_oc (n_aload_n (k := 0) (by decide +kernel)) <|
  nv_oc (n_getfield (idx := 31) (ci := 0) (k := 9) (N := 11) (D := RX0) (T := TX0) (by decide +kernel) rfl i_X0 (by decide) (by decide) f_X0_31) <|
  nv_oc (n_iload_n (k := 2) (by decide +kernel)) <|
  nv_oc (n_iload_n (k := 1) (by decide +kernel)) <|
  nv_oc (n_iastore (by decide +kernel)) <|
  nv_oc (n_iinc (k := 2) (d := 1) (by decide +kernel) (by decide)) <|
  nv_oc (n_goto (off := -64) (tgt := 5) (by decide +kernel) (by decide)) <|
  nv_oc (n_iload_n (k := 1) (by decide +kernel)) <|
  nv_oc (n_bipush (z := -4) (by decide +kernel) (by decide)) <|
  nv_oc (n_icmp_eq (off := 7) (tgt := 82) (by decide +kernel) (by decide)) <|
  nv_oc (n_iconst (z := 1) (by decide +kernel)) <|
  nv_oc (n_goto (off := 4) (tgt := 83) (by decide +kernel) (by decide)) <|
  nv_oc (n_iconst (z := 0) (by decide +kernel)) <|
  nv_oc (n_zret (by decide +kernel) rfl) <|
  nv_on
def M_X0_passHour : nv_MD := (RX0, yX0_passHour, cX0_passHour, 3, (some .boolean), 2, 50)
theorem fn_X0_passHour : nv_fn M_X0_passHour 0 := ⟨List.mem_of_getElem? (i := 497) (by decide +kernel), List.mem_of_getElem? (i := 45) (by decide +kernel), by decide +kernel⟩
theorem fv_X0_passHour : nv_fnV M_X0_passHour := ⟨List.mem_of_getElem? (i := 495) (by decide +kernel), List.mem_of_getElem? (i := 496) (by decide +kernel)⟩
def P_X0_passHour : nv_Pg := [(0, s_al 0 1), (1, s_cv 0 M_X0_hoppersRest 0 4), (4, s_is 1 5), (5, s_ki (0) 6), (6, s_is 2 7), (7, s_il 2 8), (8, s_al 0 9), (9, s_gf 0 1 12), (12, s_ic c_ge 32 15), (15, s_al 0 16), (16, s_gf 0 10 19), (19, s_il 2 20), (20, s_al 0 21), (21, s_il 2 22), (22, s_cv 0 M_X0_cutOf 1 25), (25, s_iw 26), (26, s_inc 2 (1) 29), (29, s_go 7), (32, s_ki (0) 33), (33, s_is 2 34), (34, s_il 2 35), (35, s_al 0 36), (36, s_gf 0 1 39), (39, s_ic c_ge 92 42), (42, s_al 0 43), (43, s_gf 0 10 46), (46, s_il 2 47), (47, s_ia 48), (48, s_if c_le 86 51), (51, s_al 0 52), (52, s_gf 0 6 55), (55, s_al 0 56), (56, s_gf 0 9 59), (59, s_il 2 60), (60, s_ia 61), (61, s_ki (0) 62), (62, s_al 0 63), (63, s_gf 0 6 66), (66, s_al 0 67), (67, s_gf 0 9 70), (70, s_il 2 71), (71, s_ia 72), (72, s_ia 73), (73, s_al 0 74), (74, s_gf 0 10 77), (77, s_il 2 78), (78, s_ia 79), (79, s_sub 80), (80, s_max 83), (83, s_iw 84), (84, s_ki (1) 85), (85, s_is 1 86), (86, s_inc 2 (1) 89), (89, s_go 34), (92, s_al 0 93), (93, s_gf 0 2 96), (96, s_ki (3) 97), (97, s_rem 98), (98, s_ki (2) 99), (99, s_ic c_eq 102 106), (102, s_al 0 103), (103, s_cv 0 M_X0_growBlunt 0 106), (106, s_al 0 107), (107, s_cv 0 M_X0_leaveFallen 0 110), (110, s_is 2 111), (111, s_al 0 112), (112, s_dup 113), (113, s_gf 0 2 116), (116, s_ki (1) 117), (117, s_add 118), (118, s_pf 0 2 121), (121, s_il 1 122), (122, s_if c_eq 125 129), (125, s_il 2 126), (126, s_if c_eq 133 129), (129, s_ki (1) 130), (130, s_go 134), (133, s_ki (0) 134), (134, s_zr)]
set_option maxRecDepth 100000 in
set_option maxHeartbeats 4000000 in
theorem ok_X0_passHour : nv_ok_P M_X0_passHour P_X0_passHour :=
  nv_oc (n_aload_n (k := 0) (by decide +kernel)) <|
  nv_oc (n_virtual (M' := M_X0_hoppersRest) (idx := 66) (n := 0) (ci := 0) (N := 11) (D := RX0) (T := TX0) (by decide +kernel) fn_X0_hoppersRest fv_X0_hoppersRest rfl rfl l_X0_66 ⟨by decide, by decide⟩) <|
  nv_oc (n_istore_n (k := 1) (by decide +kernel) (by decide)) <|
  nv_oc (n_iconst (z := 0) (by decide +kernel)) <|
  nv_oc (n_istore_n (k := 2) (by decide +kernel) (by decide)) <|
  nv_oc (n_iload_n (k := 2) (by decide +kernel)) <|
  nv_oc (n_aload_n (k := 0) (by decide +kernel)) <|
  nv_oc (n_getfield (idx := 40) (ci := 0) (k := 1) (N := 11) (D := RX0) (T := TX0) (by decide +kernel) rfl i_X0 (by decide) (by decide) f_X0_40) <|
  nv_oc (n_icmp_ge (off := 20) (tgt := 32) (by decide +kernel) (by decide)) <|
  nv_oc (n_aload_n (k := 0) (by decide +kernel)) <|
  nv_oc (n_getfield (idx := 34) (ci := 0) (k := 10) (N := 11) (D := RX0) (T := TX0) (by decide +kernel) rfl i_X0 (by decide) (by decide) f_X0_34) <|
  nv_oc (n_iload_n (k := 2) (by decide +kernel)) <|
  nv_oc (n_aload_n (k := 0) (by decide +kernel)) <|
  nv_oc (n_iload_n (k := 2) (by decide +kernel)) <|
  nv_oc (n_virtual (M' := M_X0_cutOf) (idx := 62) (n := 1) (ci := 0) (N := 11) (D := RX0) (T := TX0) (by decide +kernel) fn_X0_cutOf fv_X0_cutOf rfl rfl l_X0_62 ⟨by decide, by decide⟩) <|
  nv_oc (n_iastore (by decide +kernel)) <|
  nv_oc (n_iinc (k := 2) (d := 1) (by decide +kernel) (by decide)) <|
  nv_oc (n_goto (off := -22) (tgt := 7) (by decide +kernel) (by decide)) <|
  nv_oc (n_iconst (z := 0) (by decide +kernel)) <|
  nv_oc (n_istore_n (k := 2) (by decide +kernel) (by decide)) <|
  nv_oc (n_iload_n (k := 2) (by decide +kernel)) <|
  nv_oc (n_aload_n (k := 0) (by decide +kernel)) <|
  nv_oc (n_getfield (idx := 40) (ci := 0) (k := 1) (N := 11) (D := RX0) (T := TX0) (by decide +kernel) rfl i_X0 (by decide) (by decide) f_X0_40) <|
  nv_oc (n_icmp_ge (off := 53) (tgt := 92) (by decide +kernel) (by decide)) <|
  nv_oc (n_aload_n (k := 0) (by decide +kernel)) <|
  nv_oc (n_getfield (idx := 34) (ci := 0) (k := 10) (N := 11) (D := RX0) (T := TX0) (by decide +kernel) rfl i_X0 (by decide) (by decide) f_X0_34) <|
  nv_oc (n_iload_n (k := 2) (by decide +kernel)) <|
  nv_oc (n_iaload (by decide +kernel)) <|
  nv_oc (n_if_le (off := 38) (tgt := 86) (by decide +kernel) (by decide)) <|
  nv_oc (n_aload_n (k := 0) (by decide +kernel)) <|
  nv_oc (n_getfield (idx := 22) (ci := 0) (k := 6) (N := 11) (D := RX0) (T := TX0) (by decide +kernel) rfl i_X0 (by decide) (by decide) f_X0_22) <|
  nv_oc (n_aload_n (k := 0) (by decide +kernel)) <|
  nv_oc (n_getfield (idx := 31) (ci := 0) (k := 9) (N := 11) (D := RX0) (T := TX0) (by decide +kernel) rfl i_X0 (by decide) (by decide) f_X0_31) <|
  nv_oc (n_iload_n (k := 2) (by decide +kernel)) <|
  nv_oc (n_iaload (by decide +kernel)) <|
  nv_oc (n_iconst (z := 0) (by decide +kernel)) <|
  nv_oc (n_aload_n (k := 0) (by decide +kernel)) <|
  nv_oc (n_getfield (idx := 22) (ci := 0) (k := 6) (N := 11) (D := RX0) (T := TX0) (by decide +kernel) rfl i_X0 (by decide) (by decide) f_X0_22) <|
  nv_oc (n_aload_n (k := 0) (by decide +kernel)) <|
  nv_oc (n_getfield (idx := 31) (ci := 0) (k := 9) (N := 11) (D := RX0) (T := TX0) (by decide +kernel) rfl i_X0 (by decide) (by decide) f_X0_31) <|
  nv_oc (n_iload_n (k := 2) (by decide +kernel)) <|
  nv_oc (n_iaload (by decide +kernel)) <|
  nv_oc (n_iaload (by decide +kernel)) <|
  nv_oc (n_aload_n (k := 0) (by decide +kernel)) <|
  nv_oc (n_getfield (idx := 34) (ci := 0) (k := 10) (N := 11) (D := RX0) (T := TX0) (by decide +kernel) rfl i_X0 (by decide) (by decide) f_X0_34) <|
  nv_oc (n_iload_n (k := 2) (by decide +kernel)) <|
  nv_oc (n_iaload (by decide +kernel)) <|
  nv_oc (n_isub (by decide +kernel)) <|
  nv_oc (n_max (idx := 74) (by decide +kernel) l_X0_74 (by decide) (by decide)) <|
  nv_oc (n_iastore (by decide +kernel)) <|
  nv_oc (n_iconst (z := 1) (by decide +kernel)) <|
  nv_oc (n_istore_n (k := 1) (by decide +kernel) (by decide)) <|
  nv_oc (n_iinc (k := 2) (d := 1) (by decide +kernel) (by decide)) <|
  nv_oc (n_goto (off := -55) (tgt := 34) (by decide +kernel) (by decide)) <|
  nv_oc (n_aload_n (k := 0) (by decide +kernel)) <|
  nv_oc (n_getfield (idx := 43) (ci := 0) (k := 2) (N := 11) (D := RX0) (T := TX0) (by decide +kernel) rfl i_X0 (by decide) (by decide) f_X0_43) <|
  nv_oc (n_iconst (z := 3) (by decide +kernel)) <|
  nv_oc (n_irem (by decide +kernel)) <|
  nv_oc (n_iconst (z := 2) (by decide +kernel)) <|
  nv_oc (n_icmp_ne (off := 7) (tgt := 106) (by decide +kernel) (by decide)) <|
  nv_oc (n_aload_n (k := 0) (by decide +kernel)) <|
  nv_oc (n_virtual (M' := M_X0_growBlunt) (idx := 77) (n := 0) (ci := 0) (N := 11) (D := RX0) (T := TX0) (by decide +kernel) fn_X0_growBlunt fv_X0_growBlunt rfl rfl l_X0_77 ⟨by decide, by decide⟩) <|
  nv_oc (n_aload_n (k := 0) (by decide +kernel)) <|
  nv_oc (n_virtual (M' := M_X0_leaveFallen) (idx := 80) (n := 0) (ci := 0) (N := 11) (D := RX0) (T := TX0) (by decide +kernel) fn_X0_leaveFallen fv_X0_leaveFallen rfl rfl l_X0_80 ⟨by decide, by decide⟩) <|
  nv_oc (n_istore_n (k := 2) (by decide +kernel) (by decide)) <|
  nv_oc (n_aload_n (k := 0) (by decide +kernel)) <|
  nv_oc (n_dup (by decide +kernel)) <|
  nv_oc (n_getfield (idx := 43) (ci := 0) (k := 2) (N := 11) (D := RX0) (T := TX0) (by decide +kernel) rfl i_X0 (by decide) (by decide) f_X0_43) <|
  nv_oc (n_iconst (z := 1) (by decide +kernel)) <|
  nv_oc (n_iadd (by decide +kernel)) <|
  nv_oc (n_putfield (idx := 43) (ci := 0) (k := 2) (N := 11) (D := RX0) (T := TX0) tyX0 tyX0_ok nmX0 (by decide +kernel) rfl i_X0 (by decide) (by decide) rfl f_X0_43 rfl) <|
  nv_oc (n_iload_n (k := 1) (by decide +kernel)) <|
  nv_oc (n_if_ne (off := 7) (tgt := 129) (by decide +kernel) (by decide)) <|
  nv_oc (n_iload_n (k := 2) (by decide +kernel)) <|
  nv_oc (n_if_eq (off := 7) (tgt := 133) (by decide +kernel) (by decide)) <|
  nv_oc (n_iconst (z := 1) (by decide +kernel)) <|
  nv_oc (n_goto (off := 4) (tgt := 134) (by decide +kernel) (by decide)) <|
  nv_oc (n_iconst (z := 0) (by decide +kernel)) <|
  nv_oc (n_zret (by decide +kernel) rfl) <|
  nv_on
