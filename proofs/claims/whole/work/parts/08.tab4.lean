def M_X6_in : nv_MD := (RX6, yX6_in, cX6_in, 3, (some .boolean), 0, 0)
theorem fn_X6_in : nv_fn M_X6_in 3 := ⟨List.mem_of_getElem? (i := 813) (by decide +kernel), List.mem_of_getElem? (i := 50) (by decide +kernel), by decide +kernel⟩
theorem st_X6_in : Cond.static (nv_y M_X6_in) ∈ lw_tbl := List.mem_of_getElem? (i := 812) (by decide +kernel)
def P_X6_in : nv_Pg := [(0, s_il 0 1), (1, s_il 1 2), (2, s_ic c_lt 14 5), (5, s_il 0 6), (6, s_il 2 7), (7, s_ic c_gt 14 10), (10, s_ki (1) 11), (11, s_go 15), (14, s_ki (0) 15), (15, s_zr)]
set_option maxRecDepth 100000 in
set_option maxHeartbeats 4000000 in
theorem ok_X6_in : nv_ok_P M_X6_in P_X6_in :=
  nv_oc (n_iload_n (k := 0) (by decide +kernel)) <|
  nv_oc (n_iload_n (k := 1) (by decide +kernel)) <|
  nv_oc (n_icmp_lt (off := 12) (tgt := 14) (by decide +kernel) (by decide)) <|
  nv_oc (n_iload_n (k := 0) (by decide +kernel)) <|
  nv_oc (n_iload_n (k := 2) (by decide +kernel)) <|
  nv_oc (n_icmp_gt (off := 7) (tgt := 14) (by decide +kernel) (by decide)) <|
  nv_oc (n_iconst (z := 1) (by decide +kernel)) <|
  nv_oc (n_goto (off := 4) (tgt := 15) (by decide +kernel) (by decide)) <|
  nv_oc (n_iconst (z := 0) (by decide +kernel)) <|
  nv_oc (n_zret (by decide +kernel) rfl) <|
  nv_on
def M_X6_has : nv_MD := (RX6, yX6_has, cX6_has, 2, (some .boolean), 0, 0)
theorem fn_X6_has : nv_fn M_X6_has 2 := ⟨List.mem_of_getElem? (i := 920) (by decide +kernel), List.mem_of_getElem? (i := 50) (by decide +kernel), by decide +kernel⟩
theorem st_X6_has : Cond.static (nv_y M_X6_has) ∈ lw_tbl := List.mem_of_getElem? (i := 919) (by decide +kernel)
def P_X6_has : nv_Pg := [(0, s_il 0 1), (1, s_il 1 2), (2, s_sr 3), (3, s_ki (1) 4), (4, s_b nv_and 5), (5, s_ki (1) 6), (6, s_ic c_eq 9 13), (9, s_ki (1) 10), (10, s_go 14), (13, s_ki (0) 14), (14, s_zr)]
set_option maxRecDepth 100000 in
set_option maxHeartbeats 4000000 in
theorem ok_X6_has : nv_ok_P M_X6_has P_X6_has :=
  nv_oc (n_iload_n (k := 0) (by decide +kernel)) <|
  nv_oc (n_iload_n (k := 1) (by decide +kernel)) <|
  nv_oc (n_ishr (by decide +kernel)) <|
  nv_oc (n_iconst (z := 1) (by decide +kernel)) <|
  nv_oc (n_iand (by decide +kernel)) <|
  nv_oc (n_iconst (z := 1) (by decide +kernel)) <|
  nv_oc (n_icmp_ne (off := 7) (tgt := 13) (by decide +kernel) (by decide)) <|
  nv_oc (n_iconst (z := 1) (by decide +kernel)) <|
  nv_oc (n_goto (off := 4) (tgt := 14) (by decide +kernel) (by decide)) <|
  nv_oc (n_iconst (z := 0) (by decide +kernel)) <|
  nv_oc (n_zret (by decide +kernel) rfl) <|
  nv_on
def M_X6_bits : nv_MD := (RX6, yX6_bits, cX6_bits, 3, (some .int), 0, 0)
theorem fn_X6_bits : nv_fn M_X6_bits 1 := ⟨List.mem_of_getElem? (i := 1005) (by decide +kernel), List.mem_of_getElem? (i := 50) (by decide +kernel), by decide +kernel⟩
theorem st_X6_bits : Cond.static (nv_y M_X6_bits) ∈ lw_tbl := List.mem_of_getElem? (i := 1004) (by decide +kernel)
def P_X6_bits : nv_Pg := [(0, s_ki (0) 1), (1, s_is 1 2), (2, s_ki (0) 3), (3, s_is 2 4), (4, s_il 2 5), (5, s_ki (5) 6), (6, s_ic c_ge 23 9), (9, s_il 1 10), (10, s_il 0 11), (11, s_il 2 12), (12, s_sr 13), (13, s_ki (1) 14), (14, s_b nv_and 15), (15, s_add 16), (16, s_is 1 17), (17, s_inc 2 (1) 20), (20, s_go 4), (23, s_il 1 24), (24, s_ir)]
set_option maxRecDepth 100000 in
set_option maxHeartbeats 4000000 in
theorem ok_X6_bits : nv_ok_P M_X6_bits P_X6_bits :=
  nv_oc (n_iconst (z := 0) (by decide +kernel)) <|
  nv_oc (n_istore_n (k := 1) (by decide +kernel) (by decide)) <|
  nv_oc (n_iconst (z := 0) (by decide +kernel)) <|
  nv_oc (n_istore_n (k := 2) (by decide +kernel) (by decide)) <|
  nv_oc (n_iload_n (k := 2) (by decide +kernel)) <|
  nv_oc (n_iconst (z := 5) (by decide +kernel)) <|
  nv_oc (n_icmp_ge (off := 17) (tgt := 23) (by decide +kernel) (by decide)) <|
  nv_oc (n_iload_n (k := 1) (by decide +kernel)) <|
  nv_oc (n_iload_n (k := 0) (by decide +kernel)) <|
  nv_oc (n_iload_n (k := 2) (by decide +kernel)) <|
  nv_oc (n_ishr (by decide +kernel)) <|
  nv_oc (n_iconst (z := 1) (by decide +kernel)) <|
  nv_oc (n_iand (by decide +kernel)) <|
  nv_oc (n_iadd (by decide +kernel)) <|
  nv_oc (n_istore_n (k := 1) (by decide +kernel) (by decide)) <|
  nv_oc (n_iinc (k := 2) (d := 1) (by decide +kernel) (by decide)) <|
  nv_oc (n_goto (off := -16) (tgt := 4) (by decide +kernel) (by decide)) <|
  nv_oc (n_iload_n (k := 1) (by decide +kernel)) <|
  nv_oc (n_iret (by decide +kernel) rfl) <|
  nv_on
def M_X6_bring : nv_MD := (RX6, yX6_bring, cX6_bring, 6, none, 0, 0)
theorem fn_X6_bring : nv_fn M_X6_bring 5 := ⟨List.mem_of_getElem? (i := 891) (by decide +kernel), List.mem_of_getElem? (i := 50) (by decide +kernel), by decide +kernel⟩
theorem st_X6_bring : Cond.static (nv_y M_X6_bring) ∈ lw_tbl := List.mem_of_getElem? (i := 890) (by decide +kernel)
def P_X6_bring : nv_Pg := [(0, s_ki (0) 1), (1, s_is 5 3), (3, s_il 5 5), (5, s_il 4 7), (7, s_ic c_ge 28 10), (10, s_al 2 11), (11, s_il 3 12), (12, s_il 5 14), (14, s_add 15), (15, s_al 0 16), (16, s_il 1 17), (17, s_il 5 19), (19, s_add 20), (20, s_ia 21), (21, s_iw 22), (22, s_inc 5 (1) 25), (25, s_go 3), (28, s_vr)]
set_option maxRecDepth 100000 in
set_option maxHeartbeats 4000000 in
theorem ok_X6_bring : nv_ok_P M_X6_bring P_X6_bring :=
  nv_oc (n_iconst (z := 0) (by decide +kernel)) <|
  nv_oc (n_istore (k := 5) (by decide +kernel) (by decide)) <|
  nv_oc (n_iload (k := 5) (by decide +kernel)) <|
  nv_oc (n_iload (k := 4) (by decide +kernel)) <|
  nv_oc (n_icmp_ge (off := 21) (tgt := 28) (by decide +kernel) (by decide)) <|
  nv_oc (n_aload_n (k := 2) (by decide +kernel)) <|
  nv_oc (n_iload_n (k := 3) (by decide +kernel)) <|
  nv_oc (n_iload (k := 5) (by decide +kernel)) <|
  nv_oc (n_iadd (by decide +kernel)) <|
  nv_oc (n_aload_n (k := 0) (by decide +kernel)) <|
  nv_oc (n_iload_n (k := 1) (by decide +kernel)) <|
  nv_oc (n_iload (k := 5) (by decide +kernel)) <|
  nv_oc (n_iadd (by decide +kernel)) <|
  nv_oc (n_iaload (by decide +kernel)) <|
  nv_oc (n_iastore (by decide +kernel)) <|
  nv_oc (n_iinc (k := 5) (d := 1) (by decide +kernel) (by decide)) <|
  nv_oc (n_goto (off := -22) (tgt := 3) (by decide +kernel) (by decide)) <|
  nv_oc (n_vret (by decide +kernel) rfl) <|
  nv_on
def M_X6_isPlank : nv_MD := (RX6, yX6_isPlank, cX6_isPlank, 2, (some .boolean), 1, 22)
theorem fn_X6_isPlank : nv_fn M_X6_isPlank 1 := ⟨List.mem_of_getElem? (i := 831) (by decide +kernel), List.mem_of_getElem? (i := 50) (by decide +kernel), by decide +kernel⟩
theorem fv_X6_isPlank : nv_fnV M_X6_isPlank := ⟨List.mem_of_getElem? (i := 830) (by decide +kernel), List.mem_of_getElem? (i := 22) (by decide +kernel)⟩
def P_X6_isPlank : nv_Pg := [(0, s_il 1 1), (1, s_ki (0) 2), (2, s_al 0 3), (3, s_gf 6 7 6), (6, s_ki (17) 8), (8, s_ia 9), (9, s_ki (1) 10), (10, s_sub 11), (11, s_cs M_X6_in 3 14), (14, s_zr)]
set_option maxRecDepth 100000 in
set_option maxHeartbeats 4000000 in
theorem ok_X6_isPlank : nv_ok_P M_X6_isPlank P_X6_isPlank :=
  nv_oc (n_iload_n (k := 1) (by decide +kernel)) <|
  nv_oc (n_iconst (z := 0) (by decide +kernel)) <|
  nv_oc (n_aload_n (k := 0) (by decide +kernel)) <|
  nv_oc (n_getfield (idx := 23) (ci := 6) (k := 7) (N := 16) (D := RX6) (T := TX6) (by decide +kernel) rfl i_X6 (by decide) (by decide) f_X6_23) <|
  nv_oc (n_bipush (z := 17) (by decide +kernel) (by decide)) <|
  nv_oc (n_iaload (by decide +kernel)) <|
  nv_oc (n_iconst (z := 1) (by decide +kernel)) <|
  nv_oc (n_isub (by decide +kernel)) <|
  nv_oc (n_static (M' := M_X6_in) (idx := 41) (n := 3) (by decide +kernel) fn_X6_in st_X6_in l_X6_41 ⟨by decide, by decide⟩) <|
  nv_oc (n_zret (by decide +kernel) rfl) <|
  nv_on
def M_X6_isSawyer : nv_MD := (RX6, yX6_isSawyer, cX6_isSawyer, 2, (some .boolean), 1, 22)
theorem fn_X6_isSawyer : nv_fn M_X6_isSawyer 1 := ⟨List.mem_of_getElem? (i := 849) (by decide +kernel), List.mem_of_getElem? (i := 50) (by decide +kernel), by decide +kernel⟩
theorem fv_X6_isSawyer : nv_fnV M_X6_isSawyer := ⟨List.mem_of_getElem? (i := 848) (by decide +kernel), List.mem_of_getElem? (i := 24) (by decide +kernel)⟩
def P_X6_isSawyer : nv_Pg := [(0, s_il 1 1), (1, s_ki (0) 2), (2, s_al 0 3), (3, s_gf 6 7 6), (6, s_ki (28) 8), (8, s_ia 9), (9, s_ki (1) 10), (10, s_sub 11), (11, s_cs M_X6_in 3 14), (14, s_zr)]
set_option maxRecDepth 100000 in
set_option maxHeartbeats 4000000 in
theorem ok_X6_isSawyer : nv_ok_P M_X6_isSawyer P_X6_isSawyer :=
  nv_oc (n_iload_n (k := 1) (by decide +kernel)) <|
  nv_oc (n_iconst (z := 0) (by decide +kernel)) <|
  nv_oc (n_aload_n (k := 0) (by decide +kernel)) <|
  nv_oc (n_getfield (idx := 23) (ci := 6) (k := 7) (N := 16) (D := RX6) (T := TX6) (by decide +kernel) rfl i_X6 (by decide) (by decide) f_X6_23) <|
  nv_oc (n_bipush (z := 28) (by decide +kernel) (by decide)) <|
  nv_oc (n_iaload (by decide +kernel)) <|
  nv_oc (n_iconst (z := 1) (by decide +kernel)) <|
  nv_oc (n_isub (by decide +kernel)) <|
  nv_oc (n_static (M' := M_X6_in) (idx := 41) (n := 3) (by decide +kernel) fn_X6_in st_X6_in l_X6_41 ⟨by decide, by decide⟩) <|
  nv_oc (n_zret (by decide +kernel) rfl) <|
  nv_on
def M_X6_addPlank : nv_MD := (RX6, yX6_addPlank, cX6_addPlank, 4, (some .int), 0, 0)
theorem fn_X6_addPlank : nv_fn M_X6_addPlank 3 := ⟨List.mem_of_getElem? (i := 816) (by decide +kernel), List.mem_of_getElem? (i := 50) (by decide +kernel), by decide +kernel⟩
theorem st_X6_addPlank : Cond.static (nv_y M_X6_addPlank) ∈ lw_tbl := List.mem_of_getElem? (i := 815) (by decide +kernel)
def P_X6_addPlank : nv_Pg := [(0, s_al 0 1), (1, s_ki (17) 3), (3, s_ia 4), (4, s_is 3 5), (5, s_al 0 6), (6, s_ki (18) 8), (8, s_il 3 9), (9, s_add 10), (10, s_il 1 11), (11, s_iw 12), (12, s_al 0 13), (13, s_ki (23) 15), (15, s_il 3 16), (16, s_add 17), (17, s_il 2 18), (18, s_iw 19), (19, s_al 0 20), (20, s_ki (2) 21), (21, s_il 3 22), (22, s_add 23), (23, s_il 1 24), (24, s_iw 25), (25, s_al 0 26), (26, s_ki (17) 28), (28, s_dup2 29), (29, s_ia 30), (30, s_ki (1) 31), (31, s_add 32), (32, s_iw 33), (33, s_il 3 34), (34, s_ir)]
set_option maxRecDepth 100000 in
set_option maxHeartbeats 4000000 in
theorem ok_X6_addPlank : nv_ok_P M_X6_addPlank P_X6_addPlank :=
  nv_oc (n_aload_n (k := 0) (by decide +kernel)) <|
  nv_oc (n_bipush (z := 17) (by decide +kernel) (by decide)) <|
  nv_oc (n_iaload (by decide +kernel)) <|
  nv_oc (n_istore_n (k := 3) (by decide +kernel) (by decide)) <|
  nv_oc (n_aload_n (k := 0) (by decide +kernel)) <|
  nv_oc (n_bipush (z := 18) (by decide +kernel) (by decide)) <|
  nv_oc (n_iload_n (k := 3) (by decide +kernel)) <|
  nv_oc (n_iadd (by decide +kernel)) <|
  nv_oc (n_iload_n (k := 1) (by decide +kernel)) <|
  nv_oc (n_iastore (by decide +kernel)) <|
  nv_oc (n_aload_n (k := 0) (by decide +kernel)) <|
  nv_oc (n_bipush (z := 23) (by decide +kernel) (by decide)) <|
  nv_oc (n_iload_n (k := 3) (by decide +kernel)) <|
  nv_oc (n_iadd (by decide +kernel)) <|
  nv_oc (n_iload_n (k := 2) (by decide +kernel)) <|
  nv_oc (n_iastore (by decide +kernel)) <|
  nv_oc (n_aload_n (k := 0) (by decide +kernel)) <|
  nv_oc (n_iconst (z := 2) (by decide +kernel)) <|
  nv_oc (n_iload_n (k := 3) (by decide +kernel)) <|
  nv_oc (n_iadd (by decide +kernel)) <|
  nv_oc (n_iload_n (k := 1) (by decide +kernel)) <|
  nv_oc (n_iastore (by decide +kernel)) <|
  nv_oc (n_aload_n (k := 0) (by decide +kernel)) <|
  nv_oc (n_bipush (z := 17) (by decide +kernel) (by decide)) <|
  nv_oc (n_dup2 (by decide +kernel)) <|
  nv_oc (n_iaload (by decide +kernel)) <|
  nv_oc (n_iconst (z := 1) (by decide +kernel)) <|
  nv_oc (n_iadd (by decide +kernel)) <|
  nv_oc (n_iastore (by decide +kernel)) <|
  nv_oc (n_iload_n (k := 3) (by decide +kernel)) <|
  nv_oc (n_iret (by decide +kernel) rfl) <|
  nv_on
def M_X6_addSawyer : nv_MD := (RX6, yX6_addSawyer, cX6_addSawyer, 4, (some .int), 0, 0)
theorem fn_X6_addSawyer : nv_fn M_X6_addSawyer 3 := ⟨List.mem_of_getElem? (i := 823) (by decide +kernel), List.mem_of_getElem? (i := 50) (by decide +kernel), by decide +kernel⟩
theorem st_X6_addSawyer : Cond.static (nv_y M_X6_addSawyer) ∈ lw_tbl := List.mem_of_getElem? (i := 822) (by decide +kernel)
def P_X6_addSawyer : nv_Pg := [(0, s_al 0 1), (1, s_ki (28) 3), (3, s_ia 4), (4, s_is 3 5), (5, s_al 0 6), (6, s_ki (29) 8), (8, s_il 3 9), (9, s_add 10), (10, s_il 1 11), (11, s_iw 12), (12, s_al 0 13), (13, s_ki (7) 15), (15, s_il 3 16), (16, s_add 17), (17, s_il 2 18), (18, s_iw 19), (19, s_al 0 20), (20, s_ki (12) 22), (22, s_il 3 23), (23, s_add 24), (24, s_ki (-4) 26), (26, s_iw 27), (27, s_al 0 28), (28, s_ki (28) 30), (30, s_dup2 31), (31, s_ia 32), (32, s_ki (1) 33), (33, s_add 34), (34, s_iw 35), (35, s_il 3 36), (36, s_ir)]
set_option maxRecDepth 100000 in
set_option maxHeartbeats 4000000 in
theorem ok_X6_addSawyer : nv_ok_P M_X6_addSawyer P_X6_addSawyer :=
  nv_oc (n_aload_n (k := 0) (by decide +kernel)) <|
  nv_oc (n_bipush (z := 28) (by decide +kernel) (by decide)) <|
  nv_oc (n_iaload (by decide +kernel)) <|
  nv_oc (n_istore_n (k := 3) (by decide +kernel) (by decide)) <|
  nv_oc (n_aload_n (k := 0) (by decide +kernel)) <|
  nv_oc (n_bipush (z := 29) (by decide +kernel) (by decide)) <|
  nv_oc (n_iload_n (k := 3) (by decide +kernel)) <|
  nv_oc (n_iadd (by decide +kernel)) <|
  nv_oc (n_iload_n (k := 1) (by decide +kernel)) <|
  nv_oc (n_iastore (by decide +kernel)) <|
  nv_oc (n_aload_n (k := 0) (by decide +kernel)) <|
  nv_oc (n_bipush (z := 7) (by decide +kernel) (by decide)) <|
  nv_oc (n_iload_n (k := 3) (by decide +kernel)) <|
  nv_oc (n_iadd (by decide +kernel)) <|
  nv_oc (n_iload_n (k := 2) (by decide +kernel)) <|
  nv_oc (n_iastore (by decide +kernel)) <|
  nv_oc (n_aload_n (k := 0) (by decide +kernel)) <|
  nv_oc (n_bipush (z := 12) (by decide +kernel) (by decide)) <|
  nv_oc (n_iload_n (k := 3) (by decide +kernel)) <|
  nv_oc (n_iadd (by decide +kernel)) <|
  nv_oc (n_bipush (z := -4) (by decide +kernel) (by decide)) <|
  nv_oc (n_iastore (by decide +kernel)) <|
  nv_oc (n_aload_n (k := 0) (by decide +kernel)) <|
  nv_oc (n_bipush (z := 28) (by decide +kernel) (by decide)) <|
  nv_oc (n_dup2 (by decide +kernel)) <|
  nv_oc (n_iaload (by decide +kernel)) <|
  nv_oc (n_iconst (z := 1) (by decide +kernel)) <|
  nv_oc (n_iadd (by decide +kernel)) <|
  nv_oc (n_iastore (by decide +kernel)) <|
  nv_oc (n_iload_n (k := 3) (by decide +kernel)) <|
  nv_oc (n_iret (by decide +kernel) rfl) <|
  nv_on
def M_X6_plank : nv_MD := (RX6, yX6_plank, cX6_plank, 3, (some .int), 1, 23)
theorem fn_X6_plank : nv_fn M_X6_plank 2 := ⟨List.mem_of_getElem? (i := 810) (by decide +kernel), List.mem_of_getElem? (i := 50) (by decide +kernel), by decide +kernel⟩
theorem fv_X6_plank : nv_fnV M_X6_plank := ⟨List.mem_of_getElem? (i := 808) (by decide +kernel), List.mem_of_getElem? (i := 809) (by decide +kernel)⟩
def P_X6_plank : nv_Pg := [(0, s_il 1 1), (1, s_ki (1) 2), (2, s_ki (99) 4), (4, s_cs M_X6_in 3 7), (7, s_if c_eq 20 10), (10, s_il 2 11), (11, s_ki (0) 12), (12, s_ki (9) 14), (14, s_cs M_X6_in 3 17), (17, s_if c_eq 20 22), (20, s_ki (-1) 21), (21, s_ir), (22, s_al 0 23), (23, s_gf 6 7 26), (26, s_ki (17) 28), (28, s_ia 29), (29, s_ki (5) 30), (30, s_ic c_eq 33 36), (33, s_ki (-3) 35), (35, s_ir), (36, s_al 0 37), (37, s_gf 6 7 40), (40, s_ki (34) 42), (42, s_ki (0) 43), (43, s_iw 44), (44, s_al 0 45), (45, s_gf 6 7 48), (48, s_il 1 49), (49, s_il 2 50), (50, s_cs M_X6_addPlank 3 53), (53, s_ir)]
set_option maxRecDepth 100000 in
set_option maxHeartbeats 4000000 in
theorem ok_X6_plank : nv_ok_P M_X6_plank P_X6_plank :=
  nv_oc (n_iload_n (k := 1) (by decide +kernel)) <|
  nv_oc (n_iconst (z := 1) (by decide +kernel)) <|
  nv_oc (n_bipush (z := 99) (by decide +kernel) (by decide)) <|
  nv_oc (n_static (M' := M_X6_in) (idx := 41) (n := 3) (by decide +kernel) fn_X6_in st_X6_in l_X6_41 ⟨by decide, by decide⟩) <|
  nv_oc (n_if_eq (off := 13) (tgt := 20) (by decide +kernel) (by decide)) <|
  nv_oc (n_iload_n (k := 2) (by decide +kernel)) <|
  nv_oc (n_iconst (z := 0) (by decide +kernel)) <|
  nv_oc (n_bipush (z := 9) (by decide +kernel) (by decide)) <|
  nv_oc (n_static (M' := M_X6_in) (idx := 41) (n := 3) (by decide +kernel) fn_X6_in st_X6_in l_X6_41 ⟨by decide, by decide⟩) <|
  nv_oc (n_if_ne (off := 5) (tgt := 22) (by decide +kernel) (by decide)) <|
  nv_oc (n_iconst (z := -1) (by decide +kernel)) <|
  nv_oc (n_iret (by decide +kernel) rfl) <|
  nv_oc (n_aload_n (k := 0) (by decide +kernel)) <|
  nv_oc (n_getfield (idx := 23) (ci := 6) (k := 7) (N := 16) (D := RX6) (T := TX6) (by decide +kernel) rfl i_X6 (by decide) (by decide) f_X6_23) <|
  nv_oc (n_bipush (z := 17) (by decide +kernel) (by decide)) <|
  nv_oc (n_iaload (by decide +kernel)) <|
  nv_oc (n_iconst (z := 5) (by decide +kernel)) <|
  nv_oc (n_icmp_ne (off := 6) (tgt := 36) (by decide +kernel) (by decide)) <|
  nv_oc (n_bipush (z := -3) (by decide +kernel) (by decide)) <|
  nv_oc (n_iret (by decide +kernel) rfl) <|
  nv_oc (n_aload_n (k := 0) (by decide +kernel)) <|
  nv_oc (n_getfield (idx := 23) (ci := 6) (k := 7) (N := 16) (D := RX6) (T := TX6) (by decide +kernel) rfl i_X6 (by decide) (by decide) f_X6_23) <|
  nv_oc (n_bipush (z := 34) (by decide +kernel) (by decide)) <|
  nv_oc (n_iconst (z := 0) (by decide +kernel)) <|
  nv_oc (n_iastore (by decide +kernel)) <|
  nv_oc (n_aload_n (k := 0) (by decide +kernel)) <|
  nv_oc (n_getfield (idx := 23) (ci := 6) (k := 7) (N := 16) (D := RX6) (T := TX6) (by decide +kernel) rfl i_X6 (by decide) (by decide) f_X6_23) <|
  nv_oc (n_iload_n (k := 1) (by decide +kernel)) <|
  nv_oc (n_iload_n (k := 2) (by decide +kernel)) <|
  nv_oc (n_static (M' := M_X6_addPlank) (idx := 45) (n := 3) (by decide +kernel) fn_X6_addPlank st_X6_addPlank l_X6_45 ⟨by decide, by decide⟩) <|
  nv_oc (n_iret (by decide +kernel) rfl) <|
  nv_on
def M_X6_sawyer : nv_MD := (RX6, yX6_sawyer, cX6_sawyer, 3, (some .int), 1, 23)
theorem fn_X6_sawyer : nv_fn M_X6_sawyer 2 := ⟨List.mem_of_getElem? (i := 820) (by decide +kernel), List.mem_of_getElem? (i := 50) (by decide +kernel), by decide +kernel⟩
theorem fv_X6_sawyer : nv_fnV M_X6_sawyer := ⟨List.mem_of_getElem? (i := 818) (by decide +kernel), List.mem_of_getElem? (i := 819) (by decide +kernel)⟩
def P_X6_sawyer : nv_Pg := [(0, s_il 1 1), (1, s_ki (0) 2), (2, s_ki (4) 3), (3, s_cs M_X6_in 3 6), (6, s_if c_eq 19 9), (9, s_il 2 10), (10, s_ki (0) 11), (11, s_ki (9) 13), (13, s_cs M_X6_in 3 16), (16, s_if c_eq 19 21), (19, s_ki (-1) 20), (20, s_ir), (21, s_al 0 22), (22, s_gf 6 7 25), (25, s_ki (28) 27), (27, s_ia 28), (28, s_ki (5) 29), (29, s_ic c_eq 32 35), (32, s_ki (-3) 34), (34, s_ir), (35, s_al 0 36), (36, s_gf 6 7 39), (39, s_ki (34) 41), (41, s_ki (0) 42), (42, s_iw 43), (43, s_al 0 44), (44, s_gf 6 7 47), (47, s_il 1 48), (48, s_il 2 49), (49, s_cs M_X6_addSawyer 3 52), (52, s_ir)]
set_option maxRecDepth 100000 in
set_option maxHeartbeats 4000000 in
theorem ok_X6_sawyer : nv_ok_P M_X6_sawyer P_X6_sawyer :=
  nv_oc (n_iload_n (k := 1) (by decide +kernel)) <|
  nv_oc (n_iconst (z := 0) (by decide +kernel)) <|
  nv_oc (n_iconst (z := 4) (by decide +kernel)) <|
  nv_oc (n_static (M' := M_X6_in) (idx := 41) (n := 3) (by decide +kernel) fn_X6_in st_X6_in l_X6_41 ⟨by decide, by decide⟩) <|
  nv_oc (n_if_eq (off := 13) (tgt := 19) (by decide +kernel) (by decide)) <|
  nv_oc (n_iload_n (k := 2) (by decide +kernel)) <|
  nv_oc (n_iconst (z := 0) (by decide +kernel)) <|
  nv_oc (n_bipush (z := 9) (by decide +kernel) (by decide)) <|
  nv_oc (n_static (M' := M_X6_in) (idx := 41) (n := 3) (by decide +kernel) fn_X6_in st_X6_in l_X6_41 ⟨by decide, by decide⟩) <|
  nv_oc (n_if_ne (off := 5) (tgt := 21) (by decide +kernel) (by decide)) <|
  nv_oc (n_iconst (z := -1) (by decide +kernel)) <|
  nv_oc (n_iret (by decide +kernel) rfl) <|
  nv_oc (n_aload_n (k := 0) (by decide +kernel)) <|
  nv_oc (n_getfield (idx := 23) (ci := 6) (k := 7) (N := 16) (D := RX6) (T := TX6) (by decide +kernel) rfl i_X6 (by decide) (by decide) f_X6_23) <|
  nv_oc (n_bipush (z := 28) (by decide +kernel) (by decide)) <|
  nv_oc (n_iaload (by decide +kernel)) <|
  nv_oc (n_iconst (z := 5) (by decide +kernel)) <|
  nv_oc (n_icmp_ne (off := 6) (tgt := 35) (by decide +kernel) (by decide)) <|
  nv_oc (n_bipush (z := -3) (by decide +kernel) (by decide)) <|
  nv_oc (n_iret (by decide +kernel) rfl) <|
  nv_oc (n_aload_n (k := 0) (by decide +kernel)) <|
  nv_oc (n_getfield (idx := 23) (ci := 6) (k := 7) (N := 16) (D := RX6) (T := TX6) (by decide +kernel) rfl i_X6 (by decide) (by decide) f_X6_23) <|
  nv_oc (n_bipush (z := 34) (by decide +kernel) (by decide)) <|
  nv_oc (n_iconst (z := 0) (by decide +kernel)) <|
  nv_oc (n_iastore (by decide +kernel)) <|
  nv_oc (n_aload_n (k := 0) (by decide +kernel)) <|
  nv_oc (n_getfield (idx := 23) (ci := 6) (k := 7) (N := 16) (D := RX6) (T := TX6) (by decide +kernel) rfl i_X6 (by decide) (by decide) f_X6_23) <|
  nv_oc (n_iload_n (k := 1) (by decide +kernel)) <|
  nv_oc (n_iload_n (k := 2) (by decide +kernel)) <|
  nv_oc (n_static (M' := M_X6_addSawyer) (idx := 49) (n := 3) (by decide +kernel) fn_X6_addSawyer st_X6_addSawyer l_X6_49 ⟨by decide, by decide⟩) <|
  nv_oc (n_iret (by decide +kernel) rfl) <|
  nv_on
def M_X6_cuts : nv_MD := (RX6, yX6_cuts, cX6_cuts, 7, (some .int), 0, 0)
theorem fn_X6_cuts : nv_fn M_X6_cuts 2 := ⟨List.mem_of_getElem? (i := 841) (by decide +kernel), List.mem_of_getElem? (i := 50) (by decide +kernel), by decide +kernel⟩
theorem st_X6_cuts : Cond.static (nv_y M_X6_cuts) ∈ lw_tbl := List.mem_of_getElem? (i := 840) (by decide +kernel)
def P_X6_cuts : nv_Pg := [(0, s_al 0 1), (1, s_ki (12) 3), (3, s_il 1 4), (4, s_add 5), (5, s_ia 6), (6, s_is 2 7), (7, s_il 2 8), (8, s_ki (-4) 10), (10, s_ic c_eq 21 13), (13, s_al 0 14), (14, s_ki (2) 15), (15, s_il 2 16), (16, s_add 17), (17, s_ia 18), (18, s_if c_eq 21 23), (21, s_ki (0) 22), (22, s_ir), (23, s_al 0 24), (24, s_ki (23) 26), (26, s_il 2 27), (27, s_add 28), (28, s_ia 29), (29, s_is 3 30), (30, s_al 0 31), (31, s_ki (7) 33), (33, s_il 1 34), (34, s_add 35), (35, s_ia 36), (36, s_il 3 37), (37, s_ki (2) 38), (38, s_div 39), (39, s_ic c_le 55 42), (42, s_al 0 43), (43, s_ki (7) 45), (45, s_il 1 46), (46, s_add 47), (47, s_ia 48), (48, s_il 3 49), (49, s_ki (2) 50), (50, s_div 51), (51, s_sub 52), (52, s_go 56), (55, s_ki (0) 56), (56, s_is 4 58), (58, s_il 4 60), (60, s_il 3 61), (61, s_ki (3) 62), (62, s_ic c_ge 69 65), (65, s_il 3 66), (66, s_go 70), (69, s_ki (3) 70), (70, s_add 71), (71, s_is 5 73), (73, s_al 0 74), (74, s_ki (2) 75), (75, s_il 2 76), (76, s_add 77), (77, s_ia 78), (78, s_al 0 79), (79, s_ki (18) 81), (81, s_il 2 82), (82, s_add 83), (83, s_ia 84), (84, s_ic c_eq 97 87), (87, s_al 0 88), (88, s_ki (2) 89), (89, s_il 2 90), (90, s_add 91), (91, s_ia 92), (92, s_ki (10) 94), (94, s_ic c_ge 104 97), (97, s_ki (2) 98), (98, s_il 4 100), (100, s_mul 101), (101, s_go 106), (104, s_il 4 106), (106, s_is 6 108), (108, s_al 0 109), (109, s_ki (29) 111), (111, s_il 1 112), (112, s_add 113), (113, s_ia 114), (114, s_sw 0 168 [144, 147, 150, 153]), (144, s_il 4 146), (146, s_ir), (147, s_il 5 149), (149, s_ir), (150, s_il 6 152), (152, s_ir), (153, s_al 0 154), (154, s_ki (0) 155), (155, s_ia 156), (156, s_ki (4) 157), (157, s_rem 158), (158, s_if c_eq 161 165), (161, s_ki (0) 162), (162, s_go 167), (165, s_il 5 167), (167, s_ir), (168, s_il 6 170), (170, s_ki (1) 171), (171, s_ic c_eq 174 178), (174, s_ki (1) 175), (175, s_go 182), (178, s_il 6 180), (180, s_ki (2) 181), (181, s_div 182), (182, s_ir)]
set_option maxRecDepth 100000 in
set_option maxHeartbeats 4000000 in
theorem ok_X6_cuts : nv_ok_P M_X6_cuts P_X6_cuts :=
  nv_oc (n_aload_n (k := 0) (by decide +kernel)) <|
  nv_oc (n_bipush (z := 12) (by decide +kernel) (by decide)) <|
  nv_oc (n_iload_n (k := 1) (by decide +kernel)) <|
  nv_oc (n_iadd (by decide +kernel)) <|
  nv_oc (n_iaload (by decide +kernel)) <|
  nv_oc (n_istore_n (k := 2) (by decide +kernel) (by decide)) <|
  nv_oc (n_iload_n (k := 2) (by decide +kernel)) <|
  nv_oc (n_bipush (z := -4) (by decide +kernel) (by decide)) <|
  nv_oc (n_icmp_eq (off := 11) (tgt := 21) (by decide +kernel) (by decide)) <|
  nv_oc (n_aload_n (k := 0) (by decide +kernel)) <|
  nv_oc (n_iconst (z := 2) (by decide +kernel)) <|
  nv_oc (n_iload_n (k := 2) (by decide +kernel)) <|
  nv_oc (n_iadd (by decide +kernel)) <|
  nv_oc (n_iaload (by decide +kernel)) <|
  nv_oc (n_if_ne (off := 5) (tgt := 23) (by decide +kernel) (by decide)) <|
  nv_oc (n_iconst (z := 0) (by decide +kernel)) <|
  nv_oc (n_iret (by decide +kernel) rfl) <|
  nv_oc (n_aload_n (k := 0) (by decide +kernel)) <|
  nv_oc (n_bipush (z := 23) (by decide +kernel) (by decide)) <|
  nv_oc (n_iload_n (k := 2) (by decide +kernel)) <|
  nv_oc (n_iadd (by decide +kernel)) <|
  nv_oc (n_iaload (by decide +kernel)) <|
  nv_oc (n_istore_n (k := 3) (by decide +kernel) (by decide)) <|
  nv_oc (n_aload_n (k := 0) (by decide +kernel)) <|
  nv_oc (n_bipush (z := 7) (by decide +kernel) (by decide)) <|
  nv_oc (n_iload_n (k := 1) (by decide +kernel)) <|
  nv_oc (n_iadd (by decide +kernel)) <|
  nv_oc (n_iaload (by decide +kernel)) <|
  nv_oc (n_iload_n (k := 3) (by decide +kernel)) <|
  nv_oc (n_iconst (z := 2) (by decide +kernel)) <|
  nv_oc (n_idiv (by decide +kernel)) <|
  nv_oc (n_icmp_le (off := 16) (tgt := 55) (by decide +kernel) (by decide)) <|
  nv_oc (n_aload_n (k := 0) (by decide +kernel)) <|
  nv_oc (n_bipush (z := 7) (by decide +kernel) (by decide)) <|
  nv_oc (n_iload_n (k := 1) (by decide +kernel)) <|
  nv_oc (n_iadd (by decide +kernel)) <|
  nv_oc (n_iaload (by decide +kernel)) <|
  nv_oc (n_iload_n (k := 3) (by decide +kernel)) <|
  nv_oc (n_iconst (z := 2) (by decide +kernel)) <|
  nv_oc (n_idiv (by decide +kernel)) <|
  nv_oc (n_isub (by decide +kernel)) <|
  nv_oc (n_goto (off := 4) (tgt := 56) (by decide +kernel) (by decide)) <|
  nv_oc (n_iconst (z := 0) (by decide +kernel)) <|
  nv_oc (n_istore (k := 4) (by decide +kernel) (by decide)) <|
  nv_oc (n_iload (k := 4) (by decide +kernel)) <|
  nv_oc (n_iload_n (k := 3) (by decide +kernel)) <|
  nv_oc (n_iconst (z := 3) (by decide +kernel)) <|
  nv_oc (n_icmp_ge (off := 7) (tgt := 69) (by decide +kernel) (by decide)) <|
  nv_oc (n_iload_n (k := 3) (by decide +kernel)) <|
  nv_oc (n_goto (off := 4) (tgt := 70) (by decide +kernel) (by decide)) <|
  nv_oc (n_iconst (z := 3) (by decide +kernel)) <|
  nv_oc (n_iadd (by decide +kernel)) <|
  nv_oc (n_istore (k := 5) (by decide +kernel) (by decide)) <|
  nv_oc (n_aload_n (k := 0) (by decide +kernel)) <|
  nv_oc (n_iconst (z := 2) (by decide +kernel)) <|
  nv_oc (n_iload_n (k := 2) (by decide +kernel)) <|
  nv_oc (n_iadd (by decide +kernel)) <|
  nv_oc (n_iaload (by decide +kernel)) <|
  nv_oc (n_aload_n (k := 0) (by decide +kernel)) <|
  nv_oc (n_bipush (z := 18) (by decide +kernel) (by decide)) <|
  nv_oc (n_iload_n (k := 2) (by decide +kernel)) <|
  nv_oc (n_iadd (by decide +kernel)) <|
  nv_oc (n_iaload (by decide +kernel)) <|
  nv_oc (n_icmp_eq (off := 13) (tgt := 97) (by decide +kernel) (by decide)) <|
  nv_oc (n_aload_n (k := 0) (by decide +kernel)) <|
  nv_oc (n_iconst (z := 2) (by decide +kernel)) <|
  nv_oc (n_iload_n (k := 2) (by decide +kernel)) <|
  nv_oc (n_iadd (by decide +kernel)) <|
  nv_oc (n_iaload (by decide +kernel)) <|
  nv_oc (n_bipush (z := 10) (by decide +kernel) (by decide)) <|
  nv_oc (n_icmp_ge (off := 10) (tgt := 104) (by decide +kernel) (by decide)) <|
  nv_oc (n_iconst (z := 2) (by decide +kernel)) <|
  nv_oc (n_iload (k := 4) (by decide +kernel)) <|
  nv_oc (n_imul (by decide +kernel)) <|
  nv_oc (n_goto (off := 5) (tgt := 106) (by decide +kernel) (by decide)) <|
  nv_oc (n_iload (k := 4) (by decide +kernel)) <|
  nv_oc (n_istore (k := 6) (by decide +kernel) (by decide)) <|
  nv_oc (n_aload_n (k := 0) (by decide +kernel)) <|
  nv_oc (n_bipush (z := 29) (by decide +kernel) (by decide)) <|
  nv_oc (n_iload_n (k := 1) (by decide +kernel)) <|
  nv_oc (n_iadd (by decide +kernel)) <|
  nv_oc (n_iaload (by decide +kernel)) <|
  nv_oc (n_tableswitch (dflt := 54) (lo := 0) (hi := 3) (offs := #[30, 33, 36, 39]) (len := 30) (df := 168) (ts := [144, 147, 150, 153]) (by decide +kernel) (by decide) (by decide) (by decide)) <|
  nv_oc (n_iload (k := 4) (by decide +kernel)) <|
  nv_oc (n_iret (by decide +kernel) rfl) <|
  nv_oc (n_iload (k := 5) (by decide +kernel)) <|
  nv_oc (n_iret (by decide +kernel) rfl) <|
  nv_oc (n_iload (k := 6) (by decide +kernel)) <|
  nv_oc (n_iret (by decide +kernel) rfl) <|
  nv_oc (n_aload_n (k := 0) (by decide +kernel)) <|
  nv_oc (n_iconst (z := 0) (by decide +kernel)) <|
  nv_oc (n_iaload (by decide +kernel)) <|
  nv_oc (n_iconst (z := 4) (by decide +kernel)) <|
  nv_oc (n_irem (by decide +kernel)) <|
  nv_oc (n_if_ne (off := 7) (tgt := 165) (by decide +kernel) (by decide)) <|
  nv_oc (n_iconst (z := 0) (by decide +kernel)) <|
  nv_oc (n_goto (off := 5) (tgt := 167) (by decide +kernel) (by decide)) <|
  nv_oc (n_iload (k := 5) (by decide +kernel)) <|
  nv_oc (n_iret (by decide +kernel) rfl) <|
  nv_oc (n_iload (k := 6) (by decide +kernel)) <|
  nv_oc (n_iconst (z := 1) (by decide +kernel)) <|
  nv_oc (n_icmp_ne (off := 7) (tgt := 178) (by decide +kernel) (by decide)) <|
  nv_oc (n_iconst (z := 1) (by decide +kernel)) <|
  nv_oc (n_goto (off := 7) (tgt := 182) (by decide +kernel) (by decide)) <|
  nv_oc (n_iload (k := 6) (by decide +kernel)) <|
  nv_oc (n_iconst (z := 2) (by decide +kernel)) <|
  nv_oc (n_idiv (by decide +kernel)) <|
  nv_oc (n_iret (by decide +kernel) rfl) <|
  nv_on
def M_X6_sittersOn : nv_MD := (RX6, yX6_sittersOn, cX6_sittersOn, 4, (some .int), 0, 0)
theorem fn_X6_sittersOn : nv_fn M_X6_sittersOn 2 := ⟨List.mem_of_getElem? (i := 834) (by decide +kernel), List.mem_of_getElem? (i := 50) (by decide +kernel), by decide +kernel⟩
theorem st_X6_sittersOn : Cond.static (nv_y M_X6_sittersOn) ∈ lw_tbl := List.mem_of_getElem? (i := 833) (by decide +kernel)
def P_X6_sittersOn : nv_Pg := [(0, s_ki (0) 1), (1, s_is 2 2), (2, s_ki (0) 3), (3, s_is 3 4), (4, s_il 3 5), (5, s_al 0 6), (6, s_ki (28) 8), (8, s_ia 9), (9, s_ic c_ge 38 12), (12, s_il 2 13), (13, s_al 0 14), (14, s_ki (12) 16), (16, s_il 3 17), (17, s_add 18), (18, s_ia 19), (19, s_il 1 20), (20, s_ic c_eq 23 29), (23, s_ki (1) 24), (24, s_il 3 25), (25, s_sl 26), (26, s_go 30), (29, s_ki (0) 30), (30, s_b nv_or 31), (31, s_is 2 32), (32, s_inc 3 (1) 35), (35, s_go 4), (38, s_il 2 39), (39, s_ir)]
set_option maxRecDepth 100000 in
set_option maxHeartbeats 4000000 in
theorem ok_X6_sittersOn : nv_ok_P M_X6_sittersOn P_X6_sittersOn :=
  nv_oc (n_iconst (z := 0) (by decide +kernel)) <|
  nv_oc (n_istore_n (k := 2) (by decide +kernel) (by decide)) <|
  nv_oc (n_iconst (z := 0) (by decide +kernel)) <|
  nv_oc (n_istore_n (k := 3) (by decide +kernel) (by decide)) <|
  nv_oc (n_iload_n (k := 3) (by decide +kernel)) <|
  nv_oc (n_aload_n (k := 0) (by decide +kernel)) <|
  nv_oc (n_bipush (z := 28) (by decide +kernel) (by decide)) <|
  nv_oc (n_iaload (by decide +kernel)) <|
  nv_oc (n_icmp_ge (off := 29) (tgt := 38) (by decide +kernel) (by decide)) <|
  nv_oc (n_iload_n (k := 2) (by decide +kernel)) <|
  nv_oc (n_aload_n (k := 0) (by decide +kernel)) <|
  nv_oc (n_bipush (z := 12) (by decide +kernel) (by decide)) <|
  nv_oc (n_iload_n (k := 3) (by decide +kernel)) <|
  nv_oc (n_iadd (by decide +kernel)) <|
  nv_oc (n_iaload (by decide +kernel)) <|
  nv_oc (n_iload_n (k := 1) (by decide +kernel)) <|
  nv_oc (n_icmp_ne (off := 9) (tgt := 29) (by decide +kernel) (by decide)) <|
  nv_oc (n_iconst (z := 1) (by decide +kernel)) <|
  nv_oc (n_iload_n (k := 3) (by decide +kernel)) <|
  nv_oc (n_ishl (by decide +kernel)) <|
  nv_oc (n_goto (off := 4) (tgt := 30) (by decide +kernel) (by decide)) <|
  nv_oc (n_iconst (z := 0) (by decide +kernel)) <|
  nv_oc (n_ior (by decide +kernel)) <|
  nv_oc (n_istore_n (k := 2) (by decide +kernel) (by decide)) <|
  nv_oc (n_iinc (k := 3) (d := 1) (by decide +kernel) (by decide)) <|
  nv_oc (n_goto (off := -31) (tgt := 4) (by decide +kernel) (by decide)) <|
  nv_oc (n_iload_n (k := 2) (by decide +kernel)) <|
  nv_oc (n_iret (by decide +kernel) rfl) <|
  nv_on
def M_X6_cutsOn : nv_MD := (RX6, yX6_cutsOn, cX6_cutsOn, 4, (some .int), 1, 26)
theorem fn_X6_cutsOn : nv_fn M_X6_cutsOn 1 := ⟨List.mem_of_getElem? (i := 838) (by decide +kernel), List.mem_of_getElem? (i := 50) (by decide +kernel), by decide +kernel⟩
theorem fv_X6_cutsOn : nv_fnV M_X6_cutsOn := ⟨List.mem_of_getElem? (i := 837) (by decide +kernel), List.mem_of_getElem? (i := 23) (by decide +kernel)⟩
def P_X6_cutsOn : nv_Pg := [(0, s_ki (0) 1), (1, s_is 2 2), (2, s_ki (0) 3), (3, s_is 3 4), (4, s_il 3 5), (5, s_al 0 6), (6, s_gf 6 7 9), (9, s_ki (28) 11), (11, s_ia 12), (12, s_ic c_ge 49 15), (15, s_il 2 16), (16, s_al 0 17), (17, s_gf 6 7 20), (20, s_ki (12) 22), (22, s_il 3 23), (23, s_add 24), (24, s_ia 25), (25, s_il 1 26), (26, s_ic c_eq 29 40), (29, s_al 0 30), (30, s_gf 6 7 33), (33, s_il 3 34), (34, s_cs M_X6_cuts 2 37), (37, s_go 41), (40, s_ki (0) 41), (41, s_add 42), (42, s_is 2 43), (43, s_inc 3 (1) 46), (46, s_go 4), (49, s_il 2 50), (50, s_ir)]
set_option maxRecDepth 100000 in
set_option maxHeartbeats 4000000 in
theorem ok_X6_cutsOn : nv_ok_P M_X6_cutsOn P_X6_cutsOn :=
  nv_oc (n_iconst (z := 0) (by decide +kernel)) <|
  nv_oc (n_istore_n (k := 2) (by decide +kernel) (by decide)) <|
  nv_oc (n_iconst (z := 0) (by decide +kernel)) <|
  nv_oc (n_istore_n (k := 3) (by decide +kernel) (by decide)) <|
  nv_oc (n_iload_n (k := 3) (by decide +kernel)) <|
  nv_oc (n_aload_n (k := 0) (by decide +kernel)) <|
  nv_oc (n_getfield (idx := 23) (ci := 6) (k := 7) (N := 16) (D := RX6) (T := TX6) (by decide +kernel) rfl i_X6 (by decide) (by decide) f_X6_23) <|
  nv_oc (n_bipush (z := 28) (by decide +kernel) (by decide)) <|
  nv_oc (n_iaload (by decide +kernel)) <|
  nv_oc (n_icmp_ge (off := 37) (tgt := 49) (by decide +kernel) (by decide)) <|
  nv_oc (n_iload_n (k := 2) (by decide +kernel)) <|
  nv_oc (n_aload_n (k := 0) (by decide +kernel)) <|
  nv_oc (n_getfield (idx := 23) (ci := 6) (k := 7) (N := 16) (D := RX6) (T := TX6) (by decide +kernel) rfl i_X6 (by decide) (by decide) f_X6_23) <|
  nv_oc (n_bipush (z := 12) (by decide +kernel) (by decide)) <|
  nv_oc (n_iload_n (k := 3) (by decide +kernel)) <|
  nv_oc (n_iadd (by decide +kernel)) <|
  nv_oc (n_iaload (by decide +kernel)) <|
  nv_oc (n_iload_n (k := 1) (by decide +kernel)) <|
  nv_oc (n_icmp_ne (off := 14) (tgt := 40) (by decide +kernel) (by decide)) <|
  nv_oc (n_aload_n (k := 0) (by decide +kernel)) <|
  nv_oc (n_getfield (idx := 23) (ci := 6) (k := 7) (N := 16) (D := RX6) (T := TX6) (by decide +kernel) rfl i_X6 (by decide) (by decide) f_X6_23) <|
  nv_oc (n_iload_n (k := 3) (by decide +kernel)) <|
  nv_oc (n_static (M' := M_X6_cuts) (idx := 52) (n := 2) (by decide +kernel) fn_X6_cuts st_X6_cuts l_X6_52 ⟨by decide, by decide⟩) <|
  nv_oc (n_goto (off := 4) (tgt := 41) (by decide +kernel) (by decide)) <|
  nv_oc (n_iconst (z := 0) (by decide +kernel)) <|
  nv_oc (n_iadd (by decide +kernel)) <|
  nv_oc (n_istore_n (k := 2) (by decide +kernel) (by decide)) <|
  nv_oc (n_iinc (k := 3) (d := 1) (by decide +kernel) (by decide)) <|
  nv_oc (n_goto (off := -42) (tgt := 4) (by decide +kernel) (by decide)) <|
  nv_oc (n_iload_n (k := 2) (by decide +kernel)) <|
  nv_oc (n_iret (by decide +kernel) rfl) <|
  nv_on
def M_X6_of : nv_MD := (RX6, yX6_of, cX6_of, 3, (some .int), 2, 49)
theorem fn_X6_of : nv_fn M_X6_of 2 := ⟨List.mem_of_getElem? (i := 827) (by decide +kernel), List.mem_of_getElem? (i := 50) (by decide +kernel), by decide +kernel⟩
theorem fv_X6_of : nv_fnV M_X6_of := ⟨List.mem_of_getElem? (i := 825) (by decide +kernel), List.mem_of_getElem? (i := 826) (by decide +kernel)⟩
def P_X6_of : nv_Pg := [(0, s_al 0 1), (1, s_il 1 2), (2, s_cv 6 M_X6_isPlank 1 5), (5, s_if c_eq 8 10), (8, s_ki (-1) 9), (9, s_ir), (10, s_il 2 11), (11, s_sw 0 88 [44, 54, 64, 73, 82]), (44, s_al 0 45), (45, s_gf 6 7 48), (48, s_ki (18) 50), (50, s_il 1 51), (51, s_add 52), (52, s_ia 53), (53, s_ir), (54, s_al 0 55), (55, s_gf 6 7 58), (58, s_ki (23) 60), (60, s_il 1 61), (61, s_add 62), (62, s_ia 63), (63, s_ir), (64, s_al 0 65), (65, s_gf 6 7 68), (68, s_ki (2) 69), (69, s_il 1 70), (70, s_add 71), (71, s_ia 72), (72, s_ir), (73, s_al 0 74), (74, s_gf 6 7 77), (77, s_il 1 78), (78, s_cs M_X6_sittersOn 2 81), (81, s_ir), (82, s_al 0 83), (83, s_il 1 84), (84, s_cv 6 M_X6_cutsOn 1 87), (87, s_ir), (88, s_ki (-1) 89), (89, s_ir)]
set_option maxRecDepth 100000 in
set_option maxHeartbeats 4000000 in
theorem ok_X6_of : nv_ok_P M_X6_of P_X6_of :=
  nv_oc (n_aload_n (k := 0) (by decide +kernel)) <|
  nv_oc (n_iload_n (k := 1) (by decide +kernel)) <|
  nv_oc (n_virtual (M' := M_X6_isPlank) (idx := 56) (n := 1) (ci := 6) (N := 16) (D := RX6) (T := TX6) (by decide +kernel) fn_X6_isPlank fv_X6_isPlank rfl rfl l_X6_56 ⟨by decide, by decide⟩) <|
  nv_oc (n_if_ne (off := 5) (tgt := 10) (by decide +kernel) (by decide)) <|
  nv_oc (n_iconst (z := -1) (by decide +kernel)) <|
  nv_oc (n_iret (by decide +kernel) rfl) <|
  nv_oc (n_iload_n (k := 2) (by decide +kernel)) <|
  nv_oc (n_tableswitch (dflt := 77) (lo := 0) (hi := 4) (offs := #[33, 43, 53, 62, 71]) (len := 33) (df := 88) (ts := [44, 54, 64, 73, 82]) (by decide +kernel) (by decide) (by decide) (by decide)) <|
  nv_oc (n_aload_n (k := 0) (by decide +kernel)) <|
  nv_oc (n_getfield (idx := 23) (ci := 6) (k := 7) (N := 16) (D := RX6) (T := TX6) (by decide +kernel) rfl i_X6 (by decide) (by decide) f_X6_23) <|
  nv_oc (n_bipush (z := 18) (by decide +kernel) (by decide)) <|
  nv_oc (n_iload_n (k := 1) (by decide +kernel)) <|
  nv_oc (n_iadd (by decide +kernel)) <|
  nv_oc (n_iaload (by decide +kernel)) <|
  nv_oc (n_iret (by decide +kernel) rfl) <|
  nv_oc (n_aload_n (k := 0) (by decide +kernel)) <|
  nv_oc (n_getfield (idx := 23) (ci := 6) (k := 7) (N := 16) (D := RX6) (T := TX6) (by decide +kernel) rfl i_X6 (by decide) (by decide) f_X6_23) <|
  nv_oc (n_bipush (z := 23) (by decide +kernel) (by decide)) <|
  nv_oc (n_iload_n (k := 1) (by decide +kernel)) <|
  nv_oc (n_iadd (by decide +kernel)) <|
  nv_oc (n_iaload (by decide +kernel)) <|
  nv_oc (n_iret (by decide +kernel) rfl) <|
  nv_oc (n_aload_n (k := 0) (by decide +kernel)) <|
  nv_oc (n_getfield (idx := 23) (ci := 6) (k := 7) (N := 16) (D := RX6) (T := TX6) (by decide +kernel) rfl i_X6 (by decide) (by decide) f_X6_23) <|
  nv_oc (n_iconst (z := 2) (by decide +kernel)) <|
  nv_oc (n_iload_n (k := 1) (by decide +kernel)) <|
  nv_oc (n_iadd (by decide +kernel)) <|
  nv_oc (n_iaload (by decide +kernel)) <|
  nv_oc (n_iret (by decide +kernel) rfl) <|
  nv_oc (n_aload_n (k := 0) (by decide +kernel)) <|
  nv_oc (n_getfield (idx := 23) (ci := 6) (k := 7) (N := 16) (D := RX6) (T := TX6) (by decide +kernel) rfl i_X6 (by decide) (by decide) f_X6_23) <|
  nv_oc (n_iload_n (k := 1) (by decide +kernel)) <|
  nv_oc (n_static (M' := M_X6_sittersOn) (idx := 60) (n := 2) (by decide +kernel) fn_X6_sittersOn st_X6_sittersOn l_X6_60 ⟨by decide, by decide⟩) <|
  nv_oc (n_iret (by decide +kernel) rfl) <|
  nv_oc (n_aload_n (k := 0) (by decide +kernel)) <|
  nv_oc (n_iload_n (k := 1) (by decide +kernel)) <|
  nv_oc (n_virtual (M' := M_X6_cutsOn) (idx := 63) (n := 1) (ci := 6) (N := 16) (D := RX6) (T := TX6) (by decide +kernel) fn_X6_cutsOn fv_X6_cutsOn rfl rfl l_X6_63 ⟨by decide, by decide⟩) <|
  nv_oc (n_iret (by decide +kernel) rfl) <|
  nv_oc (n_iconst (z := -1) (by decide +kernel)) <|
  nv_oc (n_iret (by decide +kernel) rfl) <|
  nv_on
def M_X6_at : nv_MD := (RX6, yX6_at, cX6_at, 3, (some .int), 2, 43)
theorem fn_X6_at : nv_fn M_X6_at 2 := ⟨List.mem_of_getElem? (i := 845) (by decide +kernel), List.mem_of_getElem? (i := 50) (by decide +kernel), by decide +kernel⟩
theorem fv_X6_at : nv_fnV M_X6_at := ⟨List.mem_of_getElem? (i := 843) (by decide +kernel), List.mem_of_getElem? (i := 844) (by decide +kernel)⟩
def P_X6_at : nv_Pg := [(0, s_al 0 1), (1, s_il 1 2), (2, s_cv 6 M_X6_isSawyer 1 5), (5, s_if c_eq 8 10), (8, s_ki (-1) 9), (9, s_ir), (10, s_il 2 11), (11, s_sw 0 79 [40, 50, 60, 70]), (40, s_al 0 41), (41, s_gf 6 7 44), (44, s_ki (29) 46), (46, s_il 1 47), (47, s_add 48), (48, s_ia 49), (49, s_ir), (50, s_al 0 51), (51, s_gf 6 7 54), (54, s_ki (7) 56), (56, s_il 1 57), (57, s_add 58), (58, s_ia 59), (59, s_ir), (60, s_al 0 61), (61, s_gf 6 7 64), (64, s_ki (12) 66), (66, s_il 1 67), (67, s_add 68), (68, s_ia 69), (69, s_ir), (70, s_al 0 71), (71, s_gf 6 7 74), (74, s_il 1 75), (75, s_cs M_X6_cuts 2 78), (78, s_ir), (79, s_ki (-1) 80), (80, s_ir)]
set_option maxRecDepth 100000 in
set_option maxHeartbeats 4000000 in
theorem ok_X6_at : nv_ok_P M_X6_at P_X6_at :=
  nv_oc (n_aload_n (k := 0) (by decide +kernel)) <|
  nv_oc (n_iload_n (k := 1) (by decide +kernel)) <|
  nv_oc (n_virtual (M' := M_X6_isSawyer) (idx := 67) (n := 1) (ci := 6) (N := 16) (D := RX6) (T := TX6) (by decide +kernel) fn_X6_isSawyer fv_X6_isSawyer rfl rfl l_X6_67 ⟨by decide, by decide⟩) <|
  nv_oc (n_if_ne (off := 5) (tgt := 10) (by decide +kernel) (by decide)) <|
  nv_oc (n_iconst (z := -1) (by decide +kernel)) <|
  nv_oc (n_iret (by decide +kernel) rfl) <|
  nv_oc (n_iload_n (k := 2) (by decide +kernel)) <|
  nv_oc (n_tableswitch (dflt := 68) (lo := 0) (hi := 3) (offs := #[29, 39, 49, 59]) (len := 29) (df := 79) (ts := [40, 50, 60, 70]) (by decide +kernel) (by decide) (by decide) (by decide)) <|
  nv_oc (n_aload_n (k := 0) (by decide +kernel)) <|
  nv_oc (n_getfield (idx := 23) (ci := 6) (k := 7) (N := 16) (D := RX6) (T := TX6) (by decide +kernel) rfl i_X6 (by decide) (by decide) f_X6_23) <|
  nv_oc (n_bipush (z := 29) (by decide +kernel) (by decide)) <|
  nv_oc (n_iload_n (k := 1) (by decide +kernel)) <|
  nv_oc (n_iadd (by decide +kernel)) <|
  nv_oc (n_iaload (by decide +kernel)) <|
  nv_oc (n_iret (by decide +kernel) rfl) <|
  nv_oc (n_aload_n (k := 0) (by decide +kernel)) <|
  nv_oc (n_getfield (idx := 23) (ci := 6) (k := 7) (N := 16) (D := RX6) (T := TX6) (by decide +kernel) rfl i_X6 (by decide) (by decide) f_X6_23) <|
  nv_oc (n_bipush (z := 7) (by decide +kernel) (by decide)) <|
  nv_oc (n_iload_n (k := 1) (by decide +kernel)) <|
  nv_oc (n_iadd (by decide +kernel)) <|
  nv_oc (n_iaload (by decide +kernel)) <|
  nv_oc (n_iret (by decide +kernel) rfl) <|
  nv_oc (n_aload_n (k := 0) (by decide +kernel)) <|
  nv_oc (n_getfield (idx := 23) (ci := 6) (k := 7) (N := 16) (D := RX6) (T := TX6) (by decide +kernel) rfl i_X6 (by decide) (by decide) f_X6_23) <|
  nv_oc (n_bipush (z := 12) (by decide +kernel) (by decide)) <|
  nv_oc (n_iload_n (k := 1) (by decide +kernel)) <|
  nv_oc (n_iadd (by decide +kernel)) <|
  nv_oc (n_iaload (by decide +kernel)) <|
  nv_oc (n_iret (by decide +kernel) rfl) <|
  nv_oc (n_aload_n (k := 0) (by decide +kernel)) <|
  nv_oc (n_getfield (idx := 23) (ci := 6) (k := 7) (N := 16) (D := RX6) (T := TX6) (by decide +kernel) rfl i_X6 (by decide) (by decide) f_X6_23) <|
  nv_oc (n_iload_n (k := 1) (by decide +kernel)) <|
  nv_oc (n_static (M' := M_X6_cuts) (idx := 52) (n := 2) (by decide +kernel) fn_X6_cuts st_X6_cuts l_X6_52 ⟨by decide, by decide⟩) <|
  nv_oc (n_iret (by decide +kernel) rfl) <|
  nv_oc (n_iconst (z := -1) (by decide +kernel)) <|
  nv_oc (n_iret (by decide +kernel) rfl) <|
  nv_on
def M_X6_type : nv_MD := (RX6, yX6_type, cX6_type, 2, (some .int), 1, 22)
theorem fn_X6_type : nv_fn M_X6_type 1 := ⟨List.mem_of_getElem? (i := 853) (by decide +kernel), List.mem_of_getElem? (i := 50) (by decide +kernel), by decide +kernel⟩
theorem fv_X6_type : nv_fnV M_X6_type := ⟨List.mem_of_getElem? (i := 851) (by decide +kernel), List.mem_of_getElem? (i := 852) (by decide +kernel)⟩
def P_X6_type : nv_Pg := [(0, s_il 1 1), (1, s_ki (32) 3), (3, s_ki (126) 5), (5, s_cs M_X6_in 3 8), (8, s_if c_eq 11 13), (11, s_ki (-1) 12), (12, s_ir), (13, s_al 0 14), (14, s_gf 6 3 17), (17, s_ki (80) 19), (19, s_ic c_eq 22 25), (22, s_ki (-3) 24), (24, s_ir), (25, s_al 0 26), (26, s_gf 6 4 29), (29, s_al 0 30), (30, s_gf 6 3 33), (33, s_il 1 34), (34, s_iw 35), (35, s_al 0 36), (36, s_dup 37), (37, s_gf 6 3 40), (40, s_ki (1) 41), (41, s_add 42), (42, s_pf 6 3 45), (45, s_al 0 46), (46, s_gf 6 3 49), (49, s_ir)]
set_option maxRecDepth 100000 in
set_option maxHeartbeats 4000000 in
theorem ok_X6_type : nv_ok_P M_X6_type P_X6_type :=
  nv_oc (n_iload_n (k := 1) (by decide +kernel)) <|
  nv_oc (n_bipush (z := 32) (by decide +kernel) (by decide)) <|
  nv_oc (n_bipush (z := 126) (by decide +kernel) (by decide)) <|
  nv_oc (n_static (M' := M_X6_in) (idx := 41) (n := 3) (by decide +kernel) fn_X6_in st_X6_in l_X6_41 ⟨by decide, by decide⟩) <|
  nv_oc (n_if_ne (off := 5) (tgt := 13) (by decide +kernel) (by decide)) <|
  nv_oc (n_iconst (z := -1) (by decide +kernel)) <|
  nv_oc (n_iret (by decide +kernel) rfl) <|
  nv_oc (n_aload_n (k := 0) (by decide +kernel)) <|
  nv_oc (n_getfield (idx := 70) (ci := 6) (k := 3) (N := 16) (D := RX6) (T := TX6) (by decide +kernel) rfl i_X6 (by decide) (by decide) f_X6_70) <|
  nv_oc (n_bipush (z := 80) (by decide +kernel) (by decide)) <|
  nv_oc (n_icmp_ne (off := 6) (tgt := 25) (by decide +kernel) (by decide)) <|
  nv_oc (n_bipush (z := -3) (by decide +kernel) (by decide)) <|
  nv_oc (n_iret (by decide +kernel) rfl) <|
  nv_oc (n_aload_n (k := 0) (by decide +kernel)) <|
  nv_oc (n_getfield (idx := 20) (ci := 6) (k := 4) (N := 16) (D := RX6) (T := TX6) (by decide +kernel) rfl i_X6 (by decide) (by decide) f_X6_20) <|
  nv_oc (n_aload_n (k := 0) (by decide +kernel)) <|
  nv_oc (n_getfield (idx := 70) (ci := 6) (k := 3) (N := 16) (D := RX6) (T := TX6) (by decide +kernel) rfl i_X6 (by decide) (by decide) f_X6_70) <|
  nv_oc (n_iload_n (k := 1) (by decide +kernel)) <|
  nv_oc (n_iastore (by decide +kernel)) <|
  nv_oc (n_aload_n (k := 0) (by decide +kernel)) <|
  nv_oc (n_dup (by decide +kernel)) <|
  nv_oc (n_getfield (idx := 70) (ci := 6) (k := 3) (N := 16) (D := RX6) (T := TX6) (by decide +kernel) rfl i_X6 (by decide) (by decide) f_X6_70) <|
  nv_oc (n_iconst (z := 1) (by decide +kernel)) <|
  nv_oc (n_iadd (by decide +kernel)) <|
  nv_oc (n_putfield (idx := 70) (ci := 6) (k := 3) (N := 16) (D := RX6) (T := TX6) tyX6 tyX6_ok nmX6 (by decide +kernel) rfl i_X6 (by decide) (by decide) rfl f_X6_70 rfl) <|
  nv_oc (n_aload_n (k := 0) (by decide +kernel)) <|
  nv_oc (n_getfield (idx := 70) (ci := 6) (k := 3) (N := 16) (D := RX6) (T := TX6) (by decide +kernel) rfl i_X6 (by decide) (by decide) f_X6_70) <|
  nv_oc (n_iret (by decide +kernel) rfl) <|
  nv_on
def M_X6_peek : nv_MD := (RX6, yX6_peek, cX6_peek, 1, (some .int), 0, 0)
theorem fn_X6_peek : nv_fn M_X6_peek 0 := ⟨List.mem_of_getElem? (i := 877) (by decide +kernel), List.mem_of_getElem? (i := 50) (by decide +kernel), by decide +kernel⟩
theorem fv_X6_peek : nv_fnV M_X6_peek := ⟨List.mem_of_getElem? (i := 876) (by decide +kernel), List.mem_of_getElem? (i := 29) (by decide +kernel)⟩
def P_X6_peek : nv_Pg := [(0, s_al 0 1), (1, s_gf 6 5 4), (4, s_al 0 5), (5, s_gf 6 3 8), (8, s_ic c_ge 38 11), (11, s_al 0 12), (12, s_gf 6 4 15), (15, s_al 0 16), (16, s_gf 6 5 19), (19, s_ia 20), (20, s_ki (32) 22), (22, s_ic c_eq 25 38), (25, s_al 0 26), (26, s_dup 27), (27, s_gf 6 5 30), (30, s_ki (1) 31), (31, s_add 32), (32, s_pf 6 5 35), (35, s_go 0), (38, s_al 0 39), (39, s_gf 6 5 42), (42, s_al 0 43), (43, s_gf 6 3 46), (46, s_ic c_ge 61 49), (49, s_al 0 50), (50, s_gf 6 4 53), (53, s_al 0 54), (54, s_gf 6 5 57), (57, s_ia 58), (58, s_go 62), (61, s_ki (0) 62), (62, s_ir)]
set_option maxRecDepth 100000 in
set_option maxHeartbeats 4000000 in
theorem ok_X6_peek : nv_ok_P M_X6_peek P_X6_peek :=
  nv_oc (n_aload_n (k := 0) (by decide +kernel)) <|
  nv_oc (n_getfield (idx := 74) (ci := 6) (k := 5) (N := 16) (D := RX6) (T := TX6) (by decide +kernel) rfl i_X6 (by decide) (by decide) f_X6_74) <|
  nv_oc (n_aload_n (k := 0) (by decide +kernel)) <|
  nv_oc (n_getfield (idx := 70) (ci := 6) (k := 3) (N := 16) (D := RX6) (T := TX6) (by decide +kernel) rfl i_X6 (by decide) (by decide) f_X6_70) <|
  nv_oc (n_icmp_ge (off := 30) (tgt := 38) (by decide +kernel) (by decide)) <|
  nv_oc (n_aload_n (k := 0) (by decide +kernel)) <|
  nv_oc (n_getfield (idx := 20) (ci := 6) (k := 4) (N := 16) (D := RX6) (T := TX6) (by decide +kernel) rfl i_X6 (by decide) (by decide) f_X6_20) <|
  nv_oc (n_aload_n (k := 0) (by decide +kernel)) <|
  nv_oc (n_getfield (idx := 74) (ci := 6) (k := 5) (N := 16) (D := RX6) (T := TX6) (by decide +kernel) rfl i_X6 (by decide) (by decide) f_X6_74) <|
  nv_oc (n_iaload (by decide +kernel)) <|
  nv_oc (n_bipush (z := 32) (by decide +kernel) (by decide)) <|
  nv_oc (n_icmp_ne (off := 16) (tgt := 38) (by decide +kernel) (by decide)) <|
  nv_oc (n_aload_n (k := 0) (by decide +kernel)) <|
  nv_oc (n_dup (by decide +kernel)) <|
  nv_oc (n_getfield (idx := 74) (ci := 6) (k := 5) (N := 16) (D := RX6) (T := TX6) (by decide +kernel) rfl i_X6 (by decide) (by decide) f_X6_74) <|
  nv_oc (n_iconst (z := 1) (by decide +kernel)) <|
  nv_oc (n_iadd (by decide +kernel)) <|
  nv_oc (n_putfield (idx := 74) (ci := 6) (k := 5) (N := 16) (D := RX6) (T := TX6) tyX6 tyX6_ok nmX6 (by decide +kernel) rfl i_X6 (by decide) (by decide) rfl f_X6_74 rfl) <|
  nv_oc (n_goto (off := -35) (tgt := 0) (by decide +kernel) (by decide)) <|
  nv_oc (n_aload_n (k := 0) (by decide +kernel)) <|
  nv_oc (n_getfield (idx := 74) (ci := 6) (k := 5) (N := 16) (D := RX6) (T := TX6) (by decide +kernel) rfl i_X6 (by decide) (by decide) f_X6_74) <|
  nv_oc (n_aload_n (k := 0) (by decide +kernel)) <|
  nv_oc (n_getfield (idx := 70) (ci := 6) (k := 3) (N := 16) (D := RX6) (T := TX6) (by decide +kernel) rfl i_X6 (by decide) (by decide) f_X6_70) <|
  nv_oc (n_icmp_ge (off := 15) (tgt := 61) (by decide +kernel) (by decide)) <|
  nv_oc (n_aload_n (k := 0) (by decide +kernel)) <|
  nv_oc (n_getfield (idx := 20) (ci := 6) (k := 4) (N := 16) (D := RX6) (T := TX6) (by decide +kernel) rfl i_X6 (by decide) (by decide) f_X6_20) <|
  nv_oc (n_aload_n (k := 0) (by decide +kernel)) <|
  nv_oc (n_getfield (idx := 74) (ci := 6) (k := 5) (N := 16) (D := RX6) (T := TX6) (by decide +kernel) rfl i_X6 (by decide) (by decide) f_X6_74) <|
  nv_oc (n_iaload (by decide +kernel)) <|
  nv_oc (n_goto (off := 4) (tgt := 62) (by decide +kernel) (by decide)) <|
  nv_oc (n_iconst (z := 0) (by decide +kernel)) <|
  nv_oc (n_iret (by decide +kernel) rfl) <|
  nv_on
def M_X6_isSign : nv_MD := (RX6, yX6_isSign, cX6_isSign, 2, (some .boolean), 1, 20)
theorem fn_X6_isSign : nv_fn M_X6_isSign 1 := ⟨List.mem_of_getElem? (i := 881) (by decide +kernel), List.mem_of_getElem? (i := 50) (by decide +kernel), by decide +kernel⟩
theorem fv_X6_isSign : nv_fnV M_X6_isSign := ⟨List.mem_of_getElem? (i := 880) (by decide +kernel), List.mem_of_getElem? (i := 30) (by decide +kernel)⟩
def P_X6_isSign : nv_Pg := [(0, s_al 0 1), (1, s_cv 6 M_X6_peek 0 4), (4, s_il 1 5), (5, s_ic c_eq 10 8), (8, s_ki (0) 9), (9, s_zr), (10, s_al 0 11), (11, s_dup 12), (12, s_gf 6 5 15), (15, s_ki (1) 16), (16, s_add 17), (17, s_pf 6 5 20), (20, s_ki (1) 21), (21, s_zr)]
set_option maxRecDepth 100000 in
set_option maxHeartbeats 4000000 in
theorem ok_X6_isSign : nv_ok_P M_X6_isSign P_X6_isSign :=
  nv_oc (n_aload_n (k := 0) (by decide +kernel)) <|
  nv_oc (n_virtual (M' := M_X6_peek) (idx := 77) (n := 0) (ci := 6) (N := 16) (D := RX6) (T := TX6) (by decide +kernel) fn_X6_peek fv_X6_peek rfl rfl l_X6_77 ⟨by decide, by decide⟩) <|
  nv_oc (n_iload_n (k := 1) (by decide +kernel)) <|
  nv_oc (n_icmp_eq (off := 5) (tgt := 10) (by decide +kernel) (by decide)) <|
  nv_oc (n_iconst (z := 0) (by decide +kernel)) <|
  nv_oc (n_zret (by decide +kernel) rfl) <|
  nv_oc (n_aload_n (k := 0) (by decide +kernel)) <|
  nv_oc (n_dup (by decide +kernel)) <|
  nv_oc (n_getfield (idx := 74) (ci := 6) (k := 5) (N := 16) (D := RX6) (T := TX6) (by decide +kernel) rfl i_X6 (by decide) (by decide) f_X6_74) <|
  nv_oc (n_iconst (z := 1) (by decide +kernel)) <|
  nv_oc (n_iadd (by decide +kernel)) <|
  nv_oc (n_putfield (idx := 74) (ci := 6) (k := 5) (N := 16) (D := RX6) (T := TX6) tyX6 tyX6_ok nmX6 (by decide +kernel) rfl i_X6 (by decide) (by decide) rfl f_X6_74 rfl) <|
  nv_oc (n_iconst (z := 1) (by decide +kernel)) <|
  nv_oc (n_zret (by decide +kernel) rfl) <|
  nv_on
def M_X6_isDigit : nv_MD := (RX6, yX6_isDigit, cX6_isDigit, 3, (some .boolean), 1, 22)
theorem fn_X6_isDigit : nv_fn M_X6_isDigit 2 := ⟨List.mem_of_getElem? (i := 873) (by decide +kernel), List.mem_of_getElem? (i := 50) (by decide +kernel), by decide +kernel⟩
theorem fv_X6_isDigit : nv_fnV M_X6_isDigit := ⟨List.mem_of_getElem? (i := 872) (by decide +kernel), List.mem_of_getElem? (i := 28) (by decide +kernel)⟩
def P_X6_isDigit : nv_Pg := [(0, s_al 0 1), (1, s_al 0 2), (2, s_cv 6 M_X6_peek 0 5), (5, s_ki (48) 7), (7, s_sub 8), (8, s_pf 6 6 11), (11, s_al 0 12), (12, s_gf 6 6 15), (15, s_il 1 16), (16, s_il 2 17), (17, s_cs M_X6_in 3 20), (20, s_if c_eq 23 25), (23, s_ki (0) 24), (24, s_zr), (25, s_al 0 26), (26, s_dup 27), (27, s_gf 6 5 30), (30, s_ki (1) 31), (31, s_add 32), (32, s_pf 6 5 35), (35, s_ki (1) 36), (36, s_zr)]
set_option maxRecDepth 100000 in
set_option maxHeartbeats 4000000 in
theorem ok_X6_isDigit : nv_ok_P M_X6_isDigit P_X6_isDigit :=
  nv_oc (n_aload_n (k := 0) (by decide +kernel)) <|
  nv_oc (n_aload_n (k := 0) (by decide +kernel)) <|
  nv_oc (n_virtual (M' := M_X6_peek) (idx := 77) (n := 0) (ci := 6) (N := 16) (D := RX6) (T := TX6) (by decide +kernel) fn_X6_peek fv_X6_peek rfl rfl l_X6_77 ⟨by decide, by decide⟩) <|
  nv_oc (n_bipush (z := 48) (by decide +kernel) (by decide)) <|
  nv_oc (n_isub (by decide +kernel)) <|
  nv_oc (n_putfield (idx := 81) (ci := 6) (k := 6) (N := 16) (D := RX6) (T := TX6) tyX6 tyX6_ok nmX6 (by decide +kernel) rfl i_X6 (by decide) (by decide) rfl f_X6_81 rfl) <|
  nv_oc (n_aload_n (k := 0) (by decide +kernel)) <|
  nv_oc (n_getfield (idx := 81) (ci := 6) (k := 6) (N := 16) (D := RX6) (T := TX6) (by decide +kernel) rfl i_X6 (by decide) (by decide) f_X6_81) <|
  nv_oc (n_iload_n (k := 1) (by decide +kernel)) <|
  nv_oc (n_iload_n (k := 2) (by decide +kernel)) <|
  nv_oc (n_static (M' := M_X6_in) (idx := 41) (n := 3) (by decide +kernel) fn_X6_in st_X6_in l_X6_41 ⟨by decide, by decide⟩) <|
  nv_oc (n_if_ne (off := 5) (tgt := 25) (by decide +kernel) (by decide)) <|
  nv_oc (n_iconst (z := 0) (by decide +kernel)) <|
  nv_oc (n_zret (by decide +kernel) rfl) <|
  nv_oc (n_aload_n (k := 0) (by decide +kernel)) <|
  nv_oc (n_dup (by decide +kernel)) <|
  nv_oc (n_getfield (idx := 74) (ci := 6) (k := 5) (N := 16) (D := RX6) (T := TX6) (by decide +kernel) rfl i_X6 (by decide) (by decide) f_X6_74) <|
  nv_oc (n_iconst (z := 1) (by decide +kernel)) <|
  nv_oc (n_iadd (by decide +kernel)) <|
  nv_oc (n_putfield (idx := 74) (ci := 6) (k := 5) (N := 16) (D := RX6) (T := TX6) tyX6 tyX6_ok nmX6 (by decide +kernel) rfl i_X6 (by decide) (by decide) rfl f_X6_74 rfl) <|
  nv_oc (n_iconst (z := 1) (by decide +kernel)) <|
  nv_oc (n_zret (by decide +kernel) rfl) <|
  nv_on
def M_X6_isNumber : nv_MD := (RX6, yX6_isNumber, cX6_isNumber, 5, (some .boolean), 2, 44)
theorem fn_X6_isNumber : nv_fn M_X6_isNumber 2 := ⟨List.mem_of_getElem? (i := 869) (by decide +kernel), List.mem_of_getElem? (i := 50) (by decide +kernel), by decide +kernel⟩
theorem fv_X6_isNumber : nv_fnV M_X6_isNumber := ⟨List.mem_of_getElem? (i := 868) (by decide +kernel), List.mem_of_getElem? (i := 27) (by decide +kernel)⟩
def P_X6_isNumber : nv_Pg := [(0, s_al 0 1), (1, s_ki (0) 2), (2, s_ki (9) 4), (4, s_cv 6 M_X6_isDigit 2 7), (7, s_if c_eq 10 12), (10, s_ki (0) 11), (11, s_zr), (12, s_al 0 13), (13, s_gf 6 5 16), (16, s_ki (1) 17), (17, s_sub 18), (18, s_is 3 19), (19, s_al 0 20), (20, s_gf 6 6 23), (23, s_is 4 25), (25, s_al 0 26), (26, s_gf 6 5 29), (29, s_al 0 30), (30, s_gf 6 3 33), (33, s_ic c_ge 85 36), (36, s_al 0 37), (37, s_gf 6 4 40), (40, s_al 0 41), (41, s_gf 6 5 44), (44, s_ia 45), (45, s_ki (48) 47), (47, s_ki (57) 49), (49, s_cs M_X6_in 3 52), (52, s_if c_eq 85 55), (55, s_ki (10) 57), (57, s_il 4 59), (59, s_mul 60), (60, s_al 0 61), (61, s_gf 6 4 64), (64, s_al 0 65), (65, s_gf 6 5 68), (68, s_ia 69), (69, s_add 70), (70, s_ki (48) 72), (72, s_sub 73), (73, s_is 4 75), (75, s_al 0 76), (76, s_dup 77), (77, s_gf 6 5 80), (80, s_ki (1) 81), (81, s_add 82), (82, s_pf 6 5 85), (85, s_al 0 86), (86, s_il 4 88), (88, s_pf 6 6 91), (91, s_il 4 93), (93, s_il 1 94), (94, s_il 2 95), (95, s_cs M_X6_in 3 98), (98, s_if c_eq 101 108), (101, s_al 0 102), (102, s_il 3 103), (103, s_pf 6 5 106), (106, s_ki (0) 107), (107, s_zr), (108, s_al 0 109), (109, s_gf 6 5 112), (112, s_al 0 113), (113, s_gf 6 3 116), (116, s_ic c_eq 138 119), (119, s_al 0 120), (120, s_gf 6 4 123), (123, s_al 0 124), (124, s_gf 6 5 127), (127, s_ia 128), (128, s_ki (48) 130), (130, s_ki (57) 132), (132, s_cs M_X6_in 3 135), (135, s_if c_eq 138 142), (138, s_ki (1) 139), (139, s_go 143), (142, s_ki (0) 143), (143, s_zr)]
set_option maxRecDepth 100000 in
set_option maxHeartbeats 4000000 in
theorem ok_X6_isNumber : nv_ok_P M_X6_isNumber P_X6_isNumber :=
  nv_oc (n_aload_n (k := 0) (by decide +kernel)) <|
  nv_oc (n_iconst (z := 0) (by decide +kernel)) <|
  nv_oc (n_bipush (z := 9) (by decide +kernel) (by decide)) <|
  nv_oc (n_virtual (M' := M_X6_isDigit) (idx := 84) (n := 2) (ci := 6) (N := 16) (D := RX6) (T := TX6) (by decide +kernel) fn_X6_isDigit fv_X6_isDigit rfl rfl l_X6_84 ⟨by decide, by decide⟩) <|
  nv_oc (n_if_ne (off := 5) (tgt := 12) (by decide +kernel) (by decide)) <|
  nv_oc (n_iconst (z := 0) (by decide +kernel)) <|
  nv_oc (n_zret (by decide +kernel) rfl) <|
  nv_oc (n_aload_n (k := 0) (by decide +kernel)) <|
  nv_oc (n_getfield (idx := 74) (ci := 6) (k := 5) (N := 16) (D := RX6) (T := TX6) (by decide +kernel) rfl i_X6 (by decide) (by decide) f_X6_74) <|
  nv_oc (n_iconst (z := 1) (by decide +kernel)) <|
  nv_oc (n_isub (by decide +kernel)) <|
  nv_oc (n_istore_n (k := 3) (by decide +kernel) (by decide)) <|
  nv_oc (n_aload_n (k := 0) (by decide +kernel)) <|
  nv_oc (n_getfield (idx := 81) (ci := 6) (k := 6) (N := 16) (D := RX6) (T := TX6) (by decide +kernel) rfl i_X6 (by decide) (by decide) f_X6_81) <|
  nv_oc (n_istore (k := 4) (by decide +kernel) (by decide)) <|
  nv_oc (n_aload_n (k := 0) (by decide +kernel)) <|
  nv_oc (n_getfield (idx := 74) (ci := 6) (k := 5) (N := 16) (D := RX6) (T := TX6) (by decide +kernel) rfl i_X6 (by decide) (by decide) f_X6_74) <|
  nv_oc (n_aload_n (k := 0) (by decide +kernel)) <|
  nv_oc (n_getfield (idx := 70) (ci := 6) (k := 3) (N := 16) (D := RX6) (T := TX6) (by decide +kernel) rfl i_X6 (by decide) (by decide) f_X6_70) <|
  nv_oc (n_icmp_ge (off := 52) (tgt := 85) (by decide +kernel) (by decide)) <|
  nv_oc (n_aload_n (k := 0) (by decide +kernel)) <|
  nv_oc (n_getfield (idx := 20) (ci := 6) (k := 4) (N := 16) (D := RX6) (T := TX6) (by decide +kernel) rfl i_X6 (by decide) (by decide) f_X6_20) <|
  nv_oc (n_aload_n (k := 0) (by decide +kernel)) <|
  nv_oc (n_getfield (idx := 74) (ci := 6) (k := 5) (N := 16) (D := RX6) (T := TX6) (by decide +kernel) rfl i_X6 (by decide) (by decide) f_X6_74) <|
  nv_oc (n_iaload (by decide +kernel)) <|
  nv_oc (n_bipush (z := 48) (by decide +kernel) (by decide)) <|
  nv_oc (n_bipush (z := 57) (by decide +kernel) (by decide)) <|
  nv_oc (n_static (M' := M_X6_in) (idx := 41) (n := 3) (by decide +kernel) fn_X6_in st_X6_in l_X6_41 ⟨by decide, by decide⟩) <|
  nv_oc (n_if_eq (off := 33) (tgt := 85) (by decide +kernel) (by decide)) <|
  nv_oc (n_bipush (z := 10) (by decide +kernel) (by decide)) <|
  nv_oc (n_iload (k := 4) (by decide +kernel)) <|
  nv_oc (n_imul (by decide +kernel)) <|
  nv_oc (n_aload_n (k := 0) (by decide +kernel)) <|
  nv_oc (n_getfield (idx := 20) (ci := 6) (k := 4) (N := 16) (D := RX6) (T := TX6) (by decide +kernel) rfl i_X6 (by decide) (by decide) f_X6_20) <|
  nv_oc (n_aload_n (k := 0) (by decide +kernel)) <|
  nv_oc (n_getfield (idx := 74) (ci := 6) (k := 5) (N := 16) (D := RX6) (T := TX6) (by decide +kernel) rfl i_X6 (by decide) (by decide) f_X6_74) <|
  nv_oc (n_iaload (by decide +kernel)) <|
  nv_oc (n_iadd (by decide +kernel)) <|
  nv_oc (n_bipush (z := 48) (by decide +kernel) (by decide)) <|
  nv_oc (n_isub (by decide +kernel)) <|
  nv_oc (n_istore (k := 4) (by decide +kernel) (by decide)) <|
  nv_oc (n_aload_n (k := 0) (by decide +kernel)) <|
  nv_oc (n_dup (by decide +kernel)) <|
  nv_oc (n_getfield (idx := 74) (ci := 6) (k := 5) (N := 16) (D := RX6) (T := TX6) (by decide +kernel) rfl i_X6 (by decide) (by decide) f_X6_74) <|
  nv_oc (n_iconst (z := 1) (by decide +kernel)) <|
  nv_oc (n_iadd (by decide +kernel)) <|
  nv_oc (n_putfield (idx := 74) (ci := 6) (k := 5) (N := 16) (D := RX6) (T := TX6) tyX6 tyX6_ok nmX6 (by decide +kernel) rfl i_X6 (by decide) (by decide) rfl f_X6_74 rfl) <|
  nv_oc (n_aload_n (k := 0) (by decide +kernel)) <|
  nv_oc (n_iload (k := 4) (by decide +kernel)) <|
  nv_oc (n_putfield (idx := 81) (ci := 6) (k := 6) (N := 16) (D := RX6) (T := TX6) tyX6 tyX6_ok nmX6 (by decide +kernel) rfl i_X6 (by decide) (by decide) rfl f_X6_81 rfl) <|
  nv_oc (n_iload (k := 4) (by decide +kernel)) <|
  nv_oc (n_iload_n (k := 1) (by decide +kernel)) <|
  nv_oc (n_iload_n (k := 2) (by decide +kernel)) <|
  nv_oc (n_static (M' := M_X6_in) (idx := 41) (n := 3) (by decide +kernel) fn_X6_in st_X6_in l_X6_41 ⟨by decide, by decide⟩) <|
  nv_oc (n_if_ne (off := 10) (tgt := 108) (by decide +kernel) (by decide)) <|
  nv_oc (n_aload_n (k := 0) (by decide +kernel)) <|
  nv_oc (n_iload_n (k := 3) (by decide +kernel)) <|
  nv_oc (n_putfield (idx := 74) (ci := 6) (k := 5) (N := 16) (D := RX6) (T := TX6) tyX6 tyX6_ok nmX6 (by decide +kernel) rfl i_X6 (by decide) (by decide) rfl f_X6_74 rfl) <|
  nv_oc (n_iconst (z := 0) (by decide +kernel)) <|
  nv_oc (n_zret (by decide +kernel) rfl) <|
  nv_oc (n_aload_n (k := 0) (by decide +kernel)) <|
  nv_oc (n_getfield (idx := 74) (ci := 6) (k := 5) (N := 16) (D := RX6) (T := TX6) (by decide +kernel) rfl i_X6 (by decide) (by decide) f_X6_74) <|
  nv_oc (n_aload_n (k := 0) (by decide +kernel)) <|
  nv_oc (n_getfield (idx := 70) (ci := 6) (k := 3) (N := 16) (D := RX6) (T := TX6) (by decide +kernel) rfl i_X6 (by decide) (by decide) f_X6_70) <|
  nv_oc (n_icmp_eq (off := 22) (tgt := 138) (by decide +kernel) (by decide)) <|
  nv_oc (n_aload_n (k := 0) (by decide +kernel)) <|
  nv_oc (n_getfield (idx := 20) (ci := 6) (k := 4) (N := 16) (D := RX6) (T := TX6) (by decide +kernel) rfl i_X6 (by decide) (by decide) f_X6_20) <|
  nv_oc (n_aload_n (k := 0) (by decide +kernel)) <|
  nv_oc (n_getfield (idx := 74) (ci := 6) (k := 5) (N := 16) (D := RX6) (T := TX6) (by decide +kernel) rfl i_X6 (by decide) (by decide) f_X6_74) <|
  nv_oc (n_iaload (by decide +kernel)) <|
  nv_oc (n_bipush (z := 48) (by decide +kernel) (by decide)) <|
  nv_oc (n_bipush (z := 57) (by decide +kernel) (by decide)) <|
  nv_oc (n_static (M' := M_X6_in) (idx := 41) (n := 3) (by decide +kernel) fn_X6_in st_X6_in l_X6_41 ⟨by decide, by decide⟩) <|
  nv_oc (n_if_ne (off := 7) (tgt := 142) (by decide +kernel) (by decide)) <|
  nv_oc (n_iconst (z := 1) (by decide +kernel)) <|
  nv_oc (n_goto (off := 4) (tgt := 143) (by decide +kernel) (by decide)) <|
  nv_oc (n_iconst (z := 0) (by decide +kernel)) <|
  nv_oc (n_zret (by decide +kernel) rfl) <|
  nv_on
def M_X6_kindBy : nv_MD := (RX6, yX6_kindBy, cX6_kindBy, 1, (some .int), 0, 0)
theorem fn_X6_kindBy : nv_fn M_X6_kindBy 1 := ⟨List.mem_of_getElem? (i := 888) (by decide +kernel), List.mem_of_getElem? (i := 50) (by decide +kernel), by decide +kernel⟩
theorem st_X6_kindBy : Cond.static (nv_y M_X6_kindBy) ∈ lw_tbl := List.mem_of_getElem? (i := 887) (by decide +kernel)
def P_X6_kindBy : nv_Pg := [(0, s_il 0 1), (1, s_ki (112) 3), (3, s_ic c_eq 6 10), (6, s_ki (0) 7), (7, s_go 51), (10, s_il 0 11), (11, s_ki (111) 13), (13, s_ic c_eq 16 20), (16, s_ki (1) 17), (17, s_go 51), (20, s_il 0 21), (21, s_ki (103) 23), (23, s_ic c_eq 26 30), (26, s_ki (2) 27), (27, s_go 51), (30, s_il 0 31), (31, s_ki (104) 33), (33, s_ic c_eq 36 40), (36, s_ki (3) 37), (37, s_go 51), (40, s_il 0 41), (41, s_ki (115) 43), (43, s_ic c_eq 46 50), (46, s_ki (4) 47), (47, s_go 51), (50, s_ki (-1) 51), (51, s_ir)]
set_option maxRecDepth 100000 in
set_option maxHeartbeats 4000000 in
theorem ok_X6_kindBy : nv_ok_P M_X6_kindBy P_X6_kindBy :=
  nv_oc (n_iload_n (k := 0) (by decide +kernel)) <|
  nv_oc (n_bipush (z := 112) (by decide +kernel) (by decide)) <|
  nv_oc (n_icmp_ne (off := 7) (tgt := 10) (by decide +kernel) (by decide)) <|
  nv_oc (n_iconst (z := 0) (by decide +kernel)) <|
  nv_oc (n_goto (off := 44) (tgt := 51) (by decide +kernel) (by decide)) <|
  nv_oc (n_iload_n (k := 0) (by decide +kernel)) <|
  nv_oc (n_bipush (z := 111) (by decide +kernel) (by decide)) <|
  nv_oc (n_icmp_ne (off := 7) (tgt := 20) (by decide +kernel) (by decide)) <|
  nv_oc (n_iconst (z := 1) (by decide +kernel)) <|
  nv_oc (n_goto (off := 34) (tgt := 51) (by decide +kernel) (by decide)) <|
  nv_oc (n_iload_n (k := 0) (by decide +kernel)) <|
  nv_oc (n_bipush (z := 103) (by decide +kernel) (by decide)) <|
  nv_oc (n_icmp_ne (off := 7) (tgt := 30) (by decide +kernel) (by decide)) <|
  nv_oc (n_iconst (z := 2) (by decide +kernel)) <|
  nv_oc (n_goto (off := 24) (tgt := 51) (by decide +kernel) (by decide)) <|
  nv_oc (n_iload_n (k := 0) (by decide +kernel)) <|
  nv_oc (n_bipush (z := 104) (by decide +kernel) (by decide)) <|
  nv_oc (n_icmp_ne (off := 7) (tgt := 40) (by decide +kernel) (by decide)) <|
  nv_oc (n_iconst (z := 3) (by decide +kernel)) <|
  nv_oc (n_goto (off := 14) (tgt := 51) (by decide +kernel) (by decide)) <|
  nv_oc (n_iload_n (k := 0) (by decide +kernel)) <|
  nv_oc (n_bipush (z := 115) (by decide +kernel) (by decide)) <|
  nv_oc (n_icmp_ne (off := 7) (tgt := 50) (by decide +kernel) (by decide)) <|
  nv_oc (n_iconst (z := 4) (by decide +kernel)) <|
  nv_oc (n_goto (off := 4) (tgt := 51) (by decide +kernel) (by decide)) <|
  nv_oc (n_iconst (z := -1) (by decide +kernel)) <|
  nv_oc (n_iret (by decide +kernel) rfl) <|
  nv_on
def M_X6_isPlankItem : nv_MD := (RX6, yX6_isPlankItem, cX6_isPlankItem, 2, (some .boolean), 3, 68)
theorem fn_X6_isPlankItem : nv_fn M_X6_isPlankItem 0 := ⟨List.mem_of_getElem? (i := 865) (by decide +kernel), List.mem_of_getElem? (i := 50) (by decide +kernel), by decide +kernel⟩
theorem fv_X6_isPlankItem : nv_fnV M_X6_isPlankItem := ⟨List.mem_of_getElem? (i := 864) (by decide +kernel), List.mem_of_getElem? (i := 26) (by decide +kernel)⟩
def P_X6_isPlankItem : nv_Pg := [(0, s_al 0 1), (1, s_ki (1) 2), (2, s_ki (99) 4), (4, s_cv 6 M_X6_isNumber 2 7), (7, s_if c_eq 10 12), (10, s_ki (0) 11), (11, s_zr), (12, s_al 0 13), (13, s_gf 6 9 16), (16, s_al 0 17), (17, s_gf 6 6 20), (20, s_ki (0) 21), (21, s_cs M_X6_addPlank 3 24), (24, s_is 1 25), (25, s_al 0 26), (26, s_ki (37) 28), (28, s_cv 6 M_X6_isSign 1 31), (31, s_if c_eq 59 34), (34, s_al 0 35), (35, s_ki (0) 36), (36, s_ki (9) 38), (38, s_cv 6 M_X6_isDigit 2 41), (41, s_if c_eq 44 46), (44, s_ki (0) 45), (45, s_zr), (46, s_al 0 47), (47, s_gf 6 9 50), (50, s_ki (23) 52), (52, s_il 1 53), (53, s_add 54), (54, s_al 0 55), (55, s_gf 6 6 58), (58, s_iw 59), (59, s_al 0 60), (60, s_ki (45) 62), (62, s_cv 6 M_X6_isSign 1 65), (65, s_if c_eq 102 68), (68, s_al 0 69), (69, s_ki (0) 70), (70, s_al 0 71), (71, s_gf 6 9 74), (74, s_ki (18) 76), (76, s_il 1 77), (77, s_add 78), (78, s_ia 79), (79, s_cv 6 M_X6_isNumber 2 82), (82, s_if c_eq 85 87), (85, s_ki (0) 86), (86, s_zr), (87, s_al 0 88), (88, s_gf 6 9 91), (91, s_ki (2) 92), (92, s_il 1 93), (93, s_add 94), (94, s_dup2 95), (95, s_ia 96), (96, s_al 0 97), (97, s_gf 6 6 100), (100, s_sub 101), (101, s_iw 102), (102, s_ki (1) 103), (103, s_zr)]
set_option maxRecDepth 100000 in
set_option maxHeartbeats 4000000 in
theorem ok_X6_isPlankItem : nv_ok_P M_X6_isPlankItem P_X6_isPlankItem :=
  nv_oc (n_aload_n (k := 0) (by decide +kernel)) <|
  nv_oc (n_iconst (z := 1) (by decide +kernel)) <|
  nv_oc (n_bipush (z := 99) (by decide +kernel) (by decide)) <|
  nv_oc (n_virtual (M' := M_X6_isNumber) (idx := 88) (n := 2) (ci := 6) (N := 16) (D := RX6) (T := TX6) (by decide +kernel) fn_X6_isNumber fv_X6_isNumber rfl rfl l_X6_88 ⟨by decide, by decide⟩) <|
  nv_oc (n_if_ne (off := 5) (tgt := 12) (by decide +kernel) (by decide)) <|
  nv_oc (n_iconst (z := 0) (by decide +kernel)) <|
  nv_oc (n_zret (by decide +kernel) rfl) <|
  nv_oc (n_aload_n (k := 0) (by decide +kernel)) <|
  nv_oc (n_getfield (idx := 29) (ci := 6) (k := 9) (N := 16) (D := RX6) (T := TX6) (by decide +kernel) rfl i_X6 (by decide) (by decide) f_X6_29) <|
  nv_oc (n_aload_n (k := 0) (by decide +kernel)) <|
  nv_oc (n_getfield (idx := 81) (ci := 6) (k := 6) (N := 16) (D := RX6) (T := TX6) (by decide +kernel) rfl i_X6 (by decide) (by decide) f_X6_81) <|
  nv_oc (n_iconst (z := 0) (by decide +kernel)) <|
  nv_oc (n_static (M' := M_X6_addPlank) (idx := 45) (n := 3) (by decide +kernel) fn_X6_addPlank st_X6_addPlank l_X6_45 ⟨by decide, by decide⟩) <|
  nv_oc (n_istore_n (k := 1) (by decide +kernel) (by decide)) <|
  nv_oc (n_aload_n (k := 0) (by decide +kernel)) <|
  nv_oc (n_bipush (z := 37) (by decide +kernel) (by decide)) <|
  nv_oc (n_virtual (M' := M_X6_isSign) (idx := 91) (n := 1) (ci := 6) (N := 16) (D := RX6) (T := TX6) (by decide +kernel) fn_X6_isSign fv_X6_isSign rfl rfl l_X6_91 ⟨by decide, by decide⟩) <|
  nv_oc (n_if_eq (off := 28) (tgt := 59) (by decide +kernel) (by decide)) <|
  nv_oc (n_aload_n (k := 0) (by decide +kernel)) <|
  nv_oc (n_iconst (z := 0) (by decide +kernel)) <|
  nv_oc (n_bipush (z := 9) (by decide +kernel) (by decide)) <|
  nv_oc (n_virtual (M' := M_X6_isDigit) (idx := 84) (n := 2) (ci := 6) (N := 16) (D := RX6) (T := TX6) (by decide +kernel) fn_X6_isDigit fv_X6_isDigit rfl rfl l_X6_84 ⟨by decide, by decide⟩) <|
  nv_oc (n_if_ne (off := 5) (tgt := 46) (by decide +kernel) (by decide)) <|
  nv_oc (n_iconst (z := 0) (by decide +kernel)) <|
  nv_oc (n_zret (by decide +kernel) rfl) <|
  nv_oc (n_aload_n (k := 0) (by decide +kernel)) <|
  nv_oc (n_getfield (idx := 29) (ci := 6) (k := 9) (N := 16) (D := RX6) (T := TX6) (by decide +kernel) rfl i_X6 (by decide) (by decide) f_X6_29) <|
  nv_oc (n_bipush (z := 23) (by decide +kernel) (by decide)) <|
  nv_oc (n_iload_n (k := 1) (by decide +kernel)) <|
  nv_oc (n_iadd (by decide +kernel)) <|
  nv_oc (n_aload_n (k := 0) (by decide +kernel)) <|
  nv_oc (n_getfield (idx := 81) (ci := 6) (k := 6) (N := 16) (D := RX6) (T := TX6) (by decide +kernel) rfl i_X6 (by decide) (by decide) f_X6_81) <|
  nv_oc (n_iastore (by decide +kernel)) <|
  nv_oc (n_aload_n (k := 0) (by decide +kernel)) <|
  nv_oc (n_bipush (z := 45) (by decide +kernel) (by decide)) <|
  nv_oc (n_virtual (M' := M_X6_isSign) (idx := 91) (n := 1) (ci := 6) (N := 16) (D := RX6) (T := TX6) (by decide +kernel) fn_X6_isSign fv_X6_isSign rfl rfl l_X6_91 ⟨by decide, by decide⟩) <|
  nv_oc (n_if_eq (off := 37) (tgt := 102) (by decide +kernel) (by decide)) <|
  nv_oc (n_aload_n (k := 0) (by decide +kernel)) <|
  nv_oc (n_iconst (z := 0) (by decide +kernel)) <|
  nv_oc (n_aload_n (k := 0) (by decide +kernel)) <|
  nv_oc (n_getfield (idx := 29) (ci := 6) (k := 9) (N := 16) (D := RX6) (T := TX6) (by decide +kernel) rfl i_X6 (by decide) (by decide) f_X6_29) <|
  nv_oc (n_bipush (z := 18) (by decide +kernel) (by decide)) <|
  nv_oc (n_iload_n (k := 1) (by decide +kernel)) <|
  nv_oc (n_iadd (by decide +kernel)) <|
  nv_oc (n_iaload (by decide +kernel)) <|
  nv_oc (n_virtual (M' := M_X6_isNumber) (idx := 88) (n := 2) (ci := 6) (N := 16) (D := RX6) (T := TX6) (by decide +kernel) fn_X6_isNumber fv_X6_isNumber rfl rfl l_X6_88 ⟨by decide, by decide⟩) <|
  nv_oc (n_if_ne (off := 5) (tgt := 87) (by decide +kernel) (by decide)) <|
  nv_oc (n_iconst (z := 0) (by decide +kernel)) <|
  nv_oc (n_zret (by decide +kernel) rfl) <|
  nv_oc (n_aload_n (k := 0) (by decide +kernel)) <|
  nv_oc (n_getfield (idx := 29) (ci := 6) (k := 9) (N := 16) (D := RX6) (T := TX6) (by decide +kernel) rfl i_X6 (by decide) (by decide) f_X6_29) <|
  nv_oc (n_iconst (z := 2) (by decide +kernel)) <|
  nv_oc (n_iload_n (k := 1) (by decide +kernel)) <|
  nv_oc (n_iadd (by decide +kernel)) <|
  nv_oc (n_dup2 (by decide +kernel)) <|
  nv_oc (n_iaload (by decide +kernel)) <|
  nv_oc (n_aload_n (k := 0) (by decide +kernel)) <|
  nv_oc (n_getfield (idx := 81) (ci := 6) (k := 6) (N := 16) (D := RX6) (T := TX6) (by decide +kernel) rfl i_X6 (by decide) (by decide) f_X6_81) <|
  nv_oc (n_isub (by decide +kernel)) <|
  nv_oc (n_iastore (by decide +kernel)) <|
  nv_oc (n_iconst (z := 1) (by decide +kernel)) <|
  nv_oc (n_zret (by decide +kernel) rfl) <|
  nv_on
