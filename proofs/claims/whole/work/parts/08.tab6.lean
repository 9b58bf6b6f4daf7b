def M_X6_undo : nv_MD := (RX6, yX6_undo, cX6_undo, 1, (some .int), 1, 25)
theorem fn_X6_undo : nv_fn M_X6_undo 0 := ⟨List.mem_of_getElem? (i := 950) (by decide +kernel), List.mem_of_getElem? (i := 50) (by decide +kernel), by decide +kernel⟩
theorem fv_X6_undo : nv_fnV M_X6_undo := ⟨List.mem_of_getElem? (i := 948) (by decide +kernel), List.mem_of_getElem? (i := 949) (by decide +kernel)⟩
def P_X6_undo : nv_Pg := [(0, s_al 0 1), (1, s_gf 6 7 4), (4, s_ki (34) 6), (6, s_ia 7), (7, s_if c_eq 10 13), (10, s_ki (-4) 12), (12, s_ir), (13, s_al 0 14), (14, s_gf 6 7 17), (17, s_ki (34) 19), (19, s_dup2 20), (20, s_ia 21), (21, s_ki (1) 22), (22, s_sub 23), (23, s_iw 24), (24, s_al 0 25), (25, s_gf 6 7 28), (28, s_ki (35) 30), (30, s_ki (17) 32), (32, s_al 0 33), (33, s_gf 6 7 36), (36, s_ki (34) 38), (38, s_ia 39), (39, s_mul 40), (40, s_add 41), (41, s_al 0 42), (42, s_gf 6 7 45), (45, s_ki (0) 46), (46, s_ki (17) 48), (48, s_cs M_X6_bring 5 51), (51, s_al 0 52), (52, s_gf 6 7 55), (55, s_ki (34) 57), (57, s_ia 58), (58, s_ir)]
set_option maxRecDepth 100000 in
set_option maxHeartbeats 4000000 in
theorem ok_X6_undo : nv_ok_P M_X6_undo P_X6_undo :=
  nv_oc (n_aload_n (k := 0) (by decide +kernel)) <|
  nv_oc (n_getfield (idx := 23) (ci := 6) (k := 7) (N := 16) (D := RX6) (T := TX6) (by decide +kernel) rfl i_X6 (by decide) (by decide) f_X6_23) <|
  nv_oc (n_bipush (z := 34) (by decide +kernel) (by decide)) <|
  nv_oc (n_iaload (by decide +kernel)) <|
  nv_oc (n_if_ne (off := 6) (tgt := 13) (by decide +kernel) (by decide)) <|
  nv_oc (n_bipush (z := -4) (by decide +kernel) (by decide)) <|
  nv_oc (n_iret (by decide +kernel) rfl) <|
  nv_oc (n_aload_n (k := 0) (by decide +kernel)) <|
  nv_oc (n_getfield (idx := 23) (ci := 6) (k := 7) (N := 16) (D := RX6) (T := TX6) (by decide +kernel) rfl i_X6 (by decide) (by decide) f_X6_23) <|
  nv_oc (n_bipush (z := 34) (by decide +kernel) (by decide)) <|
  nv_oc (n_dup2 (by decide +kernel)) <|
  nv_oc (n_iaload (by decide +kernel)) <|
  nv_oc (n_iconst (z := 1) (by decide +kernel)) <|
  nv_oc (n_isub (by decide +kernel)) <|
  nv_oc (n_iastore (by decide +kernel)) <|
  nv_oc (n_aload_n (k := 0) (by decide +kernel)) <|
  nv_oc (n_getfield (idx := 23) (ci := 6) (k := 7) (N := 16) (D := RX6) (T := TX6) (by decide +kernel) rfl i_X6 (by decide) (by decide) f_X6_23) <|
  nv_oc (n_bipush (z := 35) (by decide +kernel) (by decide)) <|
  nv_oc (n_bipush (z := 17) (by decide +kernel) (by decide)) <|
  nv_oc (n_aload_n (k := 0) (by decide +kernel)) <|
  nv_oc (n_getfield (idx := 23) (ci := 6) (k := 7) (N := 16) (D := RX6) (T := TX6) (by decide +kernel) rfl i_X6 (by decide) (by decide) f_X6_23) <|
  nv_oc (n_bipush (z := 34) (by decide +kernel) (by decide)) <|
  nv_oc (n_iaload (by decide +kernel)) <|
  nv_oc (n_imul (by decide +kernel)) <|
  nv_oc (n_iadd (by decide +kernel)) <|
  nv_oc (n_aload_n (k := 0) (by decide +kernel)) <|
  nv_oc (n_getfield (idx := 23) (ci := 6) (k := 7) (N := 16) (D := RX6) (T := TX6) (by decide +kernel) rfl i_X6 (by decide) (by decide) f_X6_23) <|
  nv_oc (n_iconst (z := 0) (by decide +kernel)) <|
  nv_oc (n_bipush (z := 17) (by decide +kernel) (by decide)) <|
  nv_oc (n_static (M' := M_X6_bring) (idx := 107) (n := 5) (by decide +kernel) fn_X6_bring st_X6_bring l_X6_107 ⟨by decide, by decide⟩) <|
  nv_oc (n_aload_n (k := 0) (by decide +kernel)) <|
  nv_oc (n_getfield (idx := 23) (ci := 6) (k := 7) (N := 16) (D := RX6) (T := TX6) (by decide +kernel) rfl i_X6 (by decide) (by decide) f_X6_23) <|
  nv_oc (n_bipush (z := 34) (by decide +kernel) (by decide)) <|
  nv_oc (n_iaload (by decide +kernel)) <|
  nv_oc (n_iret (by decide +kernel) rfl) <|
  nv_on
def M_X6_seed : nv_MD := (RX6, yX6_seed, cX6_seed, 3, (some .int), 0, 0)
theorem fn_X6_seed : nv_fn M_X6_seed 1 := ⟨List.mem_of_getElem? (i := 954) (by decide +kernel), List.mem_of_getElem? (i := 50) (by decide +kernel), by decide +kernel⟩
theorem fv_X6_seed : nv_fnV M_X6_seed := ⟨List.mem_of_getElem? (i := 952) (by decide +kernel), List.mem_of_getElem? (i := 953) (by decide +kernel)⟩
def P_X6_seed : nv_Pg := [(0, s_il 1 1), (1, s_if c_ge 6 4), (4, s_ki (-1) 5), (5, s_ir), (6, s_al 0 7), (7, s_gf 6 7 10), (10, s_ki (1) 11), (11, s_ia 12), (12, s_is 2 13), (13, s_al 0 14), (14, s_gf 6 7 17), (17, s_ki (1) 18), (18, s_il 1 19), (19, s_iw 20), (20, s_il 2 21), (21, s_ir)]
set_option maxRecDepth 100000 in
set_option maxHeartbeats 4000000 in
theorem ok_X6_seed : nv_ok_P M_X6_seed P_X6_seed :=
  nv_oc (n_iload_n (k := 1) (by decide +kernel)) <|
  nv_oc (n_if_ge (off := 5) (tgt := 6) (by decide +kernel) (by decide)) <|
  nv_oc (n_iconst (z := -1) (by decide +kernel)) <|
  nv_oc (n_iret (by decide +kernel) rfl) <|
  nv_oc (n_aload_n (k := 0) (by decide +kernel)) <|
  nv_oc (n_getfield (idx := 23) (ci := 6) (k := 7) (N := 16) (D := RX6) (T := TX6) (by decide +kernel) rfl i_X6 (by decide) (by decide) f_X6_23) <|
  nv_oc (n_iconst (z := 1) (by decide +kernel)) <|
  nv_oc (n_iaload (by decide +kernel)) <|
  nv_oc (n_istore_n (k := 2) (by decide +kernel) (by decide)) <|
  nv_oc (n_aload_n (k := 0) (by decide +kernel)) <|
  nv_oc (n_getfield (idx := 23) (ci := 6) (k := 7) (N := 16) (D := RX6) (T := TX6) (by decide +kernel) rfl i_X6 (by decide) (by decide) f_X6_23) <|
  nv_oc (n_iconst (z := 1) (by decide +kernel)) <|
  nv_oc (n_iload_n (k := 1) (by decide +kernel)) <|
  nv_oc (n_iastore (by decide +kernel)) <|
  nv_oc (n_iload_n (k := 2) (by decide +kernel)) <|
  nv_oc (n_iret (by decide +kernel) rfl) <|
  nv_on
def M_X6_begin : nv_MD := (RX6, yX6_begin, cX6_begin, 1, none, 1, 25)
theorem fn_X6_begin : nv_fn M_X6_begin 0 := ⟨List.mem_of_getElem? (i := 962) (by decide +kernel), List.mem_of_getElem? (i := 50) (by decide +kernel), by decide +kernel⟩
theorem fv_X6_begin : nv_fnV M_X6_begin := ⟨List.mem_of_getElem? (i := 961) (by decide +kernel), List.mem_of_getElem? (i := 35) (by decide +kernel)⟩
def P_X6_begin : nv_Pg := [(0, s_al 0 1), (1, s_gf 6 7 4), (4, s_ki (0) 5), (5, s_al 0 6), (6, s_gf 6 8 9), (9, s_ki (0) 10), (10, s_ki (34) 12), (12, s_cs M_X6_bring 5 15), (15, s_vr)]
set_option maxRecDepth 100000 in
set_option maxHeartbeats 4000000 in
theorem ok_X6_begin : nv_ok_P M_X6_begin P_X6_begin :=
  nv_oc (n_aload_n (k := 0) (by decide +kernel)) <|
  nv_oc (n_getfield (idx := 23) (ci := 6) (k := 7) (N := 16) (D := RX6) (T := TX6) (by decide +kernel) rfl i_X6 (by decide) (by decide) f_X6_23) <|
  nv_oc (n_iconst (z := 0) (by decide +kernel)) <|
  nv_oc (n_aload_n (k := 0) (by decide +kernel)) <|
  nv_oc (n_getfield (idx := 26) (ci := 6) (k := 8) (N := 16) (D := RX6) (T := TX6) (by decide +kernel) rfl i_X6 (by decide) (by decide) f_X6_26) <|
  nv_oc (n_iconst (z := 0) (by decide +kernel)) <|
  nv_oc (n_bipush (z := 34) (by decide +kernel) (by decide)) <|
  nv_oc (n_static (M' := M_X6_bring) (idx := 107) (n := 5) (by decide +kernel) fn_X6_bring st_X6_bring l_X6_107 ⟨by decide, by decide⟩) <|
  nv_oc (n_vret (by decide +kernel) rfl) <|
  nv_on
def M_X6_goOn : nv_MD := (RX6, yX6_goOn, cX6_goOn, 3, none, 3, 66)
theorem fn_X6_goOn : nv_fn M_X6_goOn 1 := ⟨List.mem_of_getElem? (i := 966) (by decide +kernel), List.mem_of_getElem? (i := 50) (by decide +kernel), by decide +kernel⟩
theorem fv_X6_goOn : nv_fnV M_X6_goOn := ⟨List.mem_of_getElem? (i := 965) (by decide +kernel), List.mem_of_getElem? (i := 36) (by decide +kernel)⟩
def P_X6_goOn : nv_Pg := [(0, s_ki (0) 1), (1, s_is 2 2), (2, s_il 2 3), (3, s_il 1 4), (4, s_ic c_ge 22 7), (7, s_al 0 8), (8, s_al 0 9), (9, s_gf 6 8 12), (12, s_ki (0) 13), (13, s_cv 6 M_X6_hourIn 2 16), (16, s_inc 2 (1) 19), (19, s_go 2), (22, s_vr)]
set_option maxRecDepth 100000 in
set_option maxHeartbeats 4000000 in
theorem ok_X6_goOn : nv_ok_P M_X6_goOn P_X6_goOn :=
  nv_oc (n_iconst (z := 0) (by decide +kernel)) <|
  nv_oc (n_istore_n (k := 2) (by decide +kernel) (by decide)) <|
  nv_oc (n_iload_n (k := 2) (by decide +kernel)) <|
  nv_oc (n_iload_n (k := 1) (by decide +kernel)) <|
  nv_oc (n_icmp_ge (off := 18) (tgt := 22) (by decide +kernel) (by decide)) <|
  nv_oc (n_aload_n (k := 0) (by decide +kernel)) <|
  nv_oc (n_aload_n (k := 0) (by decide +kernel)) <|
  nv_oc (n_getfield (idx := 26) (ci := 6) (k := 8) (N := 16) (D := RX6) (T := TX6) (by decide +kernel) rfl i_X6 (by decide) (by decide) f_X6_26) <|
  nv_oc (n_iconst (z := 0) (by decide +kernel)) <|
  nv_oc (n_virtual (M' := M_X6_hourIn) (idx := 134) (n := 2) (ci := 6) (N := 16) (D := RX6) (T := TX6) (by decide +kernel) fn_X6_hourIn fv_X6_hourIn rfl rfl l_X6_134 ⟨by decide, by decide⟩) <|
  nv_oc (n_iinc (k := 2) (d := 1) (by decide +kernel) (by decide)) <|
  nv_oc (n_goto (off := -17) (tgt := 2) (by decide +kernel) (by decide)) <|
  nv_oc (n_vret (by decide +kernel) rfl) <|
  nv_on
def M_X6_left : nv_MD := (RX6, yX6_left, cX6_left, 3, (some .int), 4, 88)
theorem fn_X6_left : nv_fn M_X6_left 2 := ⟨List.mem_of_getElem? (i := 958) (by decide +kernel), List.mem_of_getElem? (i := 50) (by decide +kernel), by decide +kernel⟩
theorem fv_X6_left : nv_fnV M_X6_left := ⟨List.mem_of_getElem? (i := 956) (by decide +kernel), List.mem_of_getElem? (i := 957) (by decide +kernel)⟩
def P_X6_left : nv_Pg := [(0, s_al 0 1), (1, s_il 1 2), (2, s_cv 6 M_X6_isPlank 1 5), (5, s_if c_eq 18 8), (8, s_il 2 9), (9, s_ki (0) 10), (10, s_ki (60) 12), (12, s_cs M_X6_in 3 15), (15, s_if c_eq 18 20), (18, s_ki (-1) 19), (19, s_ir), (20, s_al 0 21), (21, s_cv 6 M_X6_begin 0 24), (24, s_al 0 25), (25, s_il 2 26), (26, s_cv 6 M_X6_goOn 1 29), (29, s_al 0 30), (30, s_gf 6 8 33), (33, s_ki (2) 34), (34, s_il 1 35), (35, s_add 36), (36, s_ia 37), (37, s_ir)]
set_option maxRecDepth 100000 in
set_option maxHeartbeats 4000000 in
theorem ok_X6_left : nv_ok_P M_X6_left P_X6_left :=
  nv_oc (n_aload_n (k := 0) (by decide +kernel)) <|
  nv_oc (n_iload_n (k := 1) (by decide +kernel)) <|
  nv_oc (n_virtual (M' := M_X6_isPlank) (idx := 56) (n := 1) (ci := 6) (N := 16) (D := RX6) (T := TX6) (by decide +kernel) fn_X6_isPlank fv_X6_isPlank rfl rfl l_X6_56 ⟨by decide, by decide⟩) <|
  nv_oc (n_if_eq (off := 13) (tgt := 18) (by decide +kernel) (by decide)) <|
  nv_oc (n_iload_n (k := 2) (by decide +kernel)) <|
  nv_oc (n_iconst (z := 0) (by decide +kernel)) <|
  nv_oc (n_bipush (z := 60) (by decide +kernel) (by decide)) <|
  nv_oc (n_static (M' := M_X6_in) (idx := 41) (n := 3) (by decide +kernel) fn_X6_in st_X6_in l_X6_41 ⟨by decide, by decide⟩) <|
  nv_oc (n_if_ne (off := 5) (tgt := 20) (by decide +kernel) (by decide)) <|
  nv_oc (n_iconst (z := -1) (by decide +kernel)) <|
  nv_oc (n_iret (by decide +kernel) rfl) <|
  nv_oc (n_aload_n (k := 0) (by decide +kernel)) <|
  nv_oc (n_virtual (M' := M_X6_begin) (idx := 145) (n := 0) (ci := 6) (N := 16) (D := RX6) (T := TX6) (by decide +kernel) fn_X6_begin fv_X6_begin rfl rfl l_X6_145 ⟨by decide, by decide⟩) <|
  nv_oc (n_aload_n (k := 0) (by decide +kernel)) <|
  nv_oc (n_iload_n (k := 2) (by decide +kernel)) <|
  nv_oc (n_virtual (M' := M_X6_goOn) (idx := 148) (n := 1) (ci := 6) (N := 16) (D := RX6) (T := TX6) (by decide +kernel) fn_X6_goOn fv_X6_goOn rfl rfl l_X6_148 ⟨by decide, by decide⟩) <|
  nv_oc (n_aload_n (k := 0) (by decide +kernel)) <|
  nv_oc (n_getfield (idx := 26) (ci := 6) (k := 8) (N := 16) (D := RX6) (T := TX6) (by decide +kernel) rfl i_X6 (by decide) (by decide) f_X6_26) <|
  nv_oc (n_iconst (z := 2) (by decide +kernel)) <|
  nv_oc (n_iload_n (k := 1) (by decide +kernel)) <|
  nv_oc (n_iadd (by decide +kernel)) <|
  nv_oc (n_iaload (by decide +kernel)) <|
  nv_oc (n_iret (by decide +kernel) rfl) <|
  nv_on
def M_X6_ahead : nv_MD := (RX6, yX6_ahead, cX6_ahead, 4, (some .int), 4, 88)
theorem fn_X6_ahead : nv_fn M_X6_ahead 3 := ⟨List.mem_of_getElem? (i := 970) (by decide +kernel), List.mem_of_getElem? (i := 50) (by decide +kernel), by decide +kernel⟩
theorem fv_X6_ahead : nv_fnV M_X6_ahead := ⟨List.mem_of_getElem? (i := 968) (by decide +kernel), List.mem_of_getElem? (i := 969) (by decide +kernel)⟩
def P_X6_ahead : nv_Pg := [(0, s_al 0 1), (1, s_il 1 2), (2, s_cv 6 M_X6_isSawyer 1 5), (5, s_if c_eq 27 8), (8, s_il 2 9), (9, s_ki (0) 10), (10, s_ki (60) 12), (12, s_cs M_X6_in 3 15), (15, s_if c_eq 27 18), (18, s_il 3 19), (19, s_ki (0) 20), (20, s_ki (1) 21), (21, s_cs M_X6_in 3 24), (24, s_if c_eq 27 29), (27, s_ki (-1) 28), (28, s_ir), (29, s_al 0 30), (30, s_cv 6 M_X6_begin 0 33), (33, s_al 0 34), (34, s_il 2 35), (35, s_cv 6 M_X6_goOn 1 38), (38, s_il 3 39), (39, s_if c_eq 42 54), (42, s_al 0 43), (43, s_gf 6 8 46), (46, s_ki (7) 48), (48, s_il 1 49), (49, s_add 50), (50, s_ia 51), (51, s_go 63), (54, s_al 0 55), (55, s_gf 6 8 58), (58, s_ki (12) 60), (60, s_il 1 61), (61, s_add 62), (62, s_ia 63), (63, s_ir)]
set_option maxRecDepth 100000 in
set_option maxHeartbeats 4000000 in
theorem ok_X6_ahead : nv_ok_P M_X6_ahead P_X6_ahead :=
  nv_oc (n_aload_n (k := 0) (by decide +kernel)) <|
  nv_oc (n_iload_n (k := 1) (by decide +kernel)) <|
  nv_oc (n_virtual (M' := M_X6_isSawyer) (idx := 67) (n := 1) (ci := 6) (N := 16) (D := RX6) (T := TX6) (by decide +kernel) fn_X6_isSawyer fv_X6_isSawyer rfl rfl l_X6_67 ⟨by decide, by decide⟩) <|
  nv_oc (n_if_eq (off := 22) (tgt := 27) (by decide +kernel) (by decide)) <|
  nv_oc (n_iload_n (k := 2) (by decide +kernel)) <|
  nv_oc (n_iconst (z := 0) (by decide +kernel)) <|
  nv_oc (n_bipush (z := 60) (by decide +kernel) (by decide)) <|
  nv_oc (n_static (M' := M_X6_in) (idx := 41) (n := 3) (by decide +kernel) fn_X6_in st_X6_in l_X6_41 ⟨by decide, by decide⟩) <|
  nv_oc (n_if_eq (off := 12) (tgt := 27) (by decide +kernel) (by decide)) <|
  nv_oc (n_iload_n (k := 3) (by decide +kernel)) <|
  nv_oc (n_iconst (z := 0) (by decide +kernel)) <|
  nv_oc (n_iconst (z := 1) (by decide +kernel)) <|
  nv_oc (n_static (M' := M_X6_in) (idx := 41) (n := 3) (by decide +kernel) fn_X6_in st_X6_in l_X6_41 ⟨by decide, by decide⟩) <|
  nv_oc (n_if_ne (off := 5) (tgt := 29) (by decide +kernel) (by decide)) <|
  nv_oc (n_iconst (z := -1) (by decide +kernel)) <|
  nv_oc (n_iret (by decide +kernel) rfl) <|
  nv_oc (n_aload_n (k := 0) (by decide +kernel)) <|
  nv_oc (n_virtual (M' := M_X6_begin) (idx := 145) (n := 0) (ci := 6) (N := 16) (D := RX6) (T := TX6) (by decide +kernel) fn_X6_begin fv_X6_begin rfl rfl l_X6_145 ⟨by decide, by decide⟩) <|
  nv_oc (n_aload_n (k := 0) (by decide +kernel)) <|
  nv_oc (n_iload_n (k := 2) (by decide +kernel)) <|
  nv_oc (n_virtual (M' := M_X6_goOn) (idx := 148) (n := 1) (ci := 6) (N := 16) (D := RX6) (T := TX6) (by decide +kernel) fn_X6_goOn fv_X6_goOn rfl rfl l_X6_148 ⟨by decide, by decide⟩) <|
  nv_oc (n_iload_n (k := 3) (by decide +kernel)) <|
  nv_oc (n_if_ne (off := 15) (tgt := 54) (by decide +kernel) (by decide)) <|
  nv_oc (n_aload_n (k := 0) (by decide +kernel)) <|
  nv_oc (n_getfield (idx := 26) (ci := 6) (k := 8) (N := 16) (D := RX6) (T := TX6) (by decide +kernel) rfl i_X6 (by decide) (by decide) f_X6_26) <|
  nv_oc (n_bipush (z := 7) (by decide +kernel) (by decide)) <|
  nv_oc (n_iload_n (k := 1) (by decide +kernel)) <|
  nv_oc (n_iadd (by decide +kernel)) <|
  nv_oc (n_iaload (by decide +kernel)) <|
  nv_oc (n_goto (off := 12) (tgt := 63) (by decide +kernel) (by decide)) <|
  nv_oc (n_aload_n (k := 0) (by decide +kernel)) <|
  nv_oc (n_getfield (idx := 26) (ci := 6) (k := 8) (N := 16) (D := RX6) (T := TX6) (by decide +kernel) rfl i_X6 (by decide) (by decide) f_X6_26) <|
  nv_oc (n_bipush (z := 12) (by decide +kernel) (by decide)) <|
  nv_oc (n_iload_n (k := 1) (by decide +kernel)) <|
  nv_oc (n_iadd (by decide +kernel)) <|
  nv_oc (n_iaload (by decide +kernel)) <|
  nv_oc (n_iret (by decide +kernel) rfl) <|
  nv_on
def M_X6_then : nv_MD := (RX6, yX6_then, cX6_then, 2, (some .int), 4, 88)
theorem fn_X6_then : nv_fn M_X6_then 1 := ⟨List.mem_of_getElem? (i := 974) (by decide +kernel), List.mem_of_getElem? (i := 50) (by decide +kernel), by decide +kernel⟩
theorem fv_X6_then : nv_fnV M_X6_then := ⟨List.mem_of_getElem? (i := 972) (by decide +kernel), List.mem_of_getElem? (i := 973) (by decide +kernel)⟩
def P_X6_then : nv_Pg := [(0, s_il 1 1), (1, s_ki (0) 2), (2, s_ki (60) 4), (4, s_cs M_X6_in 3 7), (7, s_if c_eq 10 12), (10, s_ki (-1) 11), (11, s_ir), (12, s_al 0 13), (13, s_cv 6 M_X6_begin 0 16), (16, s_al 0 17), (17, s_il 1 18), (18, s_cv 6 M_X6_goOn 1 21), (21, s_al 0 22), (22, s_gf 6 8 25), (25, s_cs M_X6_fallen 1 28), (28, s_ir)]
set_option maxRecDepth 100000 in
set_option maxHeartbeats 4000000 in
theorem ok_X6_then : nv_ok_P M_X6_then P_X6_then :=
  nv_oc (n_iload_n (k := 1) (by decide +kernel)) <|
  nv_oc (n_iconst (z := 0) (by decide +kernel)) <|
  nv_oc (n_bipush (z := 60) (by decide +kernel) (by decide)) <|
  nv_oc (n_static (M' := M_X6_in) (idx := 41) (n := 3) (by decide +kernel) fn_X6_in st_X6_in l_X6_41 ⟨by decide, by decide⟩) <|
  nv_oc (n_if_ne (off := 5) (tgt := 12) (by decide +kernel) (by decide)) <|
  nv_oc (n_iconst (z := -1) (by decide +kernel)) <|
  nv_oc (n_iret (by decide +kernel) rfl) <|
  nv_oc (n_aload_n (k := 0) (by decide +kernel)) <|
  nv_oc (n_virtual (M' := M_X6_begin) (idx := 145) (n := 0) (ci := 6) (N := 16) (D := RX6) (T := TX6) (by decide +kernel) fn_X6_begin fv_X6_begin rfl rfl l_X6_145 ⟨by decide, by decide⟩) <|
  nv_oc (n_aload_n (k := 0) (by decide +kernel)) <|
  nv_oc (n_iload_n (k := 1) (by decide +kernel)) <|
  nv_oc (n_virtual (M' := M_X6_goOn) (idx := 148) (n := 1) (ci := 6) (N := 16) (D := RX6) (T := TX6) (by decide +kernel) fn_X6_goOn fv_X6_goOn rfl rfl l_X6_148 ⟨by decide, by decide⟩) <|
  nv_oc (n_aload_n (k := 0) (by decide +kernel)) <|
  nv_oc (n_getfield (idx := 26) (ci := 6) (k := 8) (N := 16) (D := RX6) (T := TX6) (by decide +kernel) rfl i_X6 (by decide) (by decide) f_X6_26) <|
  nv_oc (n_static (M' := M_X6_fallen) (idx := 111) (n := 1) (by decide +kernel) fn_X6_fallen st_X6_fallen l_X6_111 ⟨by decide, by decide⟩) <|
  nv_oc (n_iret (by decide +kernel) rfl) <|
  nv_on
def M_X6_falls : nv_MD := (RX6, yX6_falls, cX6_falls, 3, (some .int), 3, 66)
theorem fn_X6_falls : nv_fn M_X6_falls 1 := ⟨List.mem_of_getElem? (i := 978) (by decide +kernel), List.mem_of_getElem? (i := 50) (by decide +kernel), by decide +kernel⟩
theorem fv_X6_falls : nv_fnV M_X6_falls := ⟨List.mem_of_getElem? (i := 976) (by decide +kernel), List.mem_of_getElem? (i := 977) (by decide +kernel)⟩
def P_X6_falls : nv_Pg := [(0, s_al 0 1), (1, s_il 1 2), (2, s_cv 6 M_X6_isPlank 1 5), (5, s_if c_eq 8 10), (8, s_ki (-1) 9), (9, s_ir), (10, s_al 0 11), (11, s_cv 6 M_X6_begin 0 14), (14, s_ki (0) 15), (15, s_is 2 16), (16, s_il 2 17), (17, s_ki (60) 19), (19, s_ic c_gt 50 22), (22, s_al 0 23), (23, s_gf 6 8 26), (26, s_ki (2) 27), (27, s_il 1 28), (28, s_add 29), (29, s_ia 30), (30, s_if c_eq 33 35), (33, s_il 2 34), (34, s_ir), (35, s_al 0 36), (36, s_al 0 37), (37, s_gf 6 8 40), (40, s_ki (0) 41), (41, s_cv 6 M_X6_hourIn 2 44), (44, s_inc 2 (1) 47), (47, s_go 16), (50, s_ki (-4) 52), (52, s_ir)]
set_option maxRecDepth 100000 in
set_option maxHeartbeats 4000000 in
theorem ok_X6_falls : nv_ok_P M_X6_falls P_X6_falls :=
  nv_oc (n_aload_n (k := 0) (by decide +kernel)) <|
  nv_oc (n_iload_n (k := 1) (by decide +kernel)) <|
  nv_oc (n_virtual (M' := M_X6_isPlank) (idx := 56) (n := 1) (ci := 6) (N := 16) (D := RX6) (T := TX6) (by decide +kernel) fn_X6_isPlank fv_X6_isPlank rfl rfl l_X6_56 ⟨by decide, by decide⟩) <|
  nv_oc (n_if_ne (off := 5) (tgt := 10) (by decide +kernel) (by decide)) <|
  nv_oc (n_iconst (z := -1) (by decide +kernel)) <|
  nv_oc (n_iret (by decide +kernel) rfl) <|
  nv_oc (n_aload_n (k := 0) (by decide +kernel)) <|
  nv_oc (n_virtual (M' := M_X6_begin) (idx := 145) (n := 0) (ci := 6) (N := 16) (D := RX6) (T := TX6) (by decide +kernel) fn_X6_begin fv_X6_begin rfl rfl l_X6_145 ⟨by decide, by decide⟩) <|
  nv_oc (n_iconst (z := 0) (by decide +kernel)) <|
  nv_oc (n_istore_n (k := 2) (by decide +kernel) (by decide)) <|
  nv_oc (n_iload_n (k := 2) (by decide +kernel)) <|
  nv_oc (n_bipush (z := 60) (by decide +kernel) (by decide)) <|
  nv_oc (n_icmp_gt (off := 31) (tgt := 50) (by decide +kernel) (by decide)) <|
  nv_oc (n_aload_n (k := 0) (by decide +kernel)) <|
  nv_oc (n_getfield (idx := 26) (ci := 6) (k := 8) (N := 16) (D := RX6) (T := TX6) (by decide +kernel) rfl i_X6 (by decide) (by decide) f_X6_26) <|
  nv_oc (n_iconst (z := 2) (by decide +kernel)) <|
  nv_oc (n_iload_n (k := 1) (by decide +kernel)) <|
  nv_oc (n_iadd (by decide +kernel)) <|
  nv_oc (n_iaload (by decide +kernel)) <|
  nv_oc (n_if_ne (off := 5) (tgt := 35) (by decide +kernel) (by decide)) <|
  nv_oc (n_iload_n (k := 2) (by decide +kernel)) <|
  nv_oc (n_iret (by decide +kernel) rfl) <|
  nv_oc (n_aload_n (k := 0) (by decide +kernel)) <|
  nv_oc (n_aload_n (k := 0) (by decide +kernel)) <|
  nv_oc (n_getfield (idx := 26) (ci := 6) (k := 8) (N := 16) (D := RX6) (T := TX6) (by decide +kernel) rfl i_X6 (by decide) (by decide) f_X6_26) <|
  nv_oc (n_iconst (z := 0) (by decide +kernel)) <|
  nv_oc (n_virtual (M' := M_X6_hourIn) (idx := 134) (n := 2) (ci := 6) (N := 16) (D := RX6) (T := TX6) (by decide +kernel) fn_X6_hourIn fv_X6_hourIn rfl rfl l_X6_134 ⟨by decide, by decide⟩) <|
  nv_oc (n_iinc (k := 2) (d := 1) (by decide +kernel) (by decide)) <|
  nv_oc (n_goto (off := -31) (tgt := 16) (by decide +kernel) (by decide)) <|
  nv_oc (n_bipush (z := -4) (by decide +kernel) (by decide)) <|
  nv_oc (n_iret (by decide +kernel) rfl) <|
  nv_on
def M_X6_noonOf : nv_MD := (RX6, yX6_noonOf, cX6_noonOf, 2, (some .int), 3, 66)
theorem fn_X6_noonOf : nv_fn M_X6_noonOf 0 := ⟨List.mem_of_getElem? (i := 986) (by decide +kernel), List.mem_of_getElem? (i := 50) (by decide +kernel), by decide +kernel⟩
theorem fv_X6_noonOf : nv_fnV M_X6_noonOf := ⟨List.mem_of_getElem? (i := 985) (by decide +kernel), List.mem_of_getElem? (i := 37) (by decide +kernel)⟩
def P_X6_noonOf : nv_Pg := [(0, s_ki (0) 1), (1, s_is 1 2), (2, s_il 1 3), (3, s_ki (60) 5), (5, s_ic c_gt 35 8), (8, s_al 0 9), (9, s_gf 6 8 12), (12, s_cs M_X6_isAll 1 15), (15, s_if c_eq 20 18), (18, s_il 1 19), (19, s_ir), (20, s_al 0 21), (21, s_al 0 22), (22, s_gf 6 8 25), (25, s_ki (0) 26), (26, s_cv 6 M_X6_hourIn 2 29), (29, s_inc 1 (1) 32), (32, s_go 2), (35, s_ki (-4) 37), (37, s_ir)]
set_option maxRecDepth 100000 in
set_option maxHeartbeats 4000000 in
theorem ok_X6_noonOf : nv_ok_P M_X6_noonOf P_X6_noonOf :=
  nv_oc (n_iconst (z := 0) (by decide +kernel)) <|
  nv_oc (n_istore_n (k := 1) (by decide +kernel) (by decide)) <|
  nv_oc (n_iload_n (k := 1) (by decide +kernel)) <|
  nv_oc (n_bipush (z := 60) (by decide +kernel) (by decide)) <|
  nv_oc (n_icmp_gt (off := 30) (tgt := 35) (by decide +kernel) (by decide)) <|
  nv_oc (n_aload_n (k := 0) (by decide +kernel)) <|
  nv_oc (n_getfield (idx := 26) (ci := 6) (k := 8) (N := 16) (D := RX6) (T := TX6) (by decide +kernel) rfl i_X6 (by decide) (by decide) f_X6_26) <|
  nv_oc (n_static (M' := M_X6_isAll) (idx := 124) (n := 1) (by decide +kernel) fn_X6_isAll st_X6_isAll l_X6_124 ⟨by decide, by decide⟩) <|
  nv_oc (n_if_eq (off := 5) (tgt := 20) (by decide +kernel) (by decide)) <|
  nv_oc (n_iload_n (k := 1) (by decide +kernel)) <|
  nv_oc (n_iret (by decide +kernel) rfl) <|
  nv_oc (n_aload_n (k := 0) (by decide +kernel)) <|
  nv_oc (n_aload_n (k := 0) (by decide +kernel)) <|
  nv_oc (n_getfield (idx := 26) (ci := 6) (k := 8) (N := 16) (D := RX6) (T := TX6) (by decide +kernel) rfl i_X6 (by decide) (by decide) f_X6_26) <|
  nv_oc (n_iconst (z := 0) (by decide +kernel)) <|
  nv_oc (n_virtual (M' := M_X6_hourIn) (idx := 134) (n := 2) (ci := 6) (N := 16) (D := RX6) (T := TX6) (by decide +kernel) fn_X6_hourIn fv_X6_hourIn rfl rfl l_X6_134 ⟨by decide, by decide⟩) <|
  nv_oc (n_iinc (k := 1) (d := 1) (by decide +kernel) (by decide)) <|
  nv_oc (n_goto (off := -30) (tgt := 2) (by decide +kernel) (by decide)) <|
  nv_oc (n_bipush (z := -4) (by decide +kernel) (by decide)) <|
  nv_oc (n_iret (by decide +kernel) rfl) <|
  nv_on
def M_X6_noon : nv_MD := (RX6, yX6_noon, cX6_noon, 1, (some .int), 4, 87)
theorem fn_X6_noon : nv_fn M_X6_noon 0 := ⟨List.mem_of_getElem? (i := 982) (by decide +kernel), List.mem_of_getElem? (i := 50) (by decide +kernel), by decide +kernel⟩
theorem fv_X6_noon : nv_fnV M_X6_noon := ⟨List.mem_of_getElem? (i := 980) (by decide +kernel), List.mem_of_getElem? (i := 981) (by decide +kernel)⟩
def P_X6_noon : nv_Pg := [(0, s_al 0 1), (1, s_cv 6 M_X6_begin 0 4), (4, s_al 0 5), (5, s_cv 6 M_X6_noonOf 0 8), (8, s_ir)]
set_option maxRecDepth 100000 in
set_option maxHeartbeats 4000000 in
theorem ok_X6_noon : nv_ok_P M_X6_noon P_X6_noon :=
  nv_oc (n_aload_n (k := 0) (by decide +kernel)) <|
  nv_oc (n_virtual (M' := M_X6_begin) (idx := 145) (n := 0) (ci := 6) (N := 16) (D := RX6) (T := TX6) (by decide +kernel) fn_X6_begin fv_X6_begin rfl rfl l_X6_145 ⟨by decide, by decide⟩) <|
  nv_oc (n_aload_n (k := 0) (by decide +kernel)) <|
  nv_oc (n_virtual (M' := M_X6_noonOf) (idx := 152) (n := 0) (ci := 6) (N := 16) (D := RX6) (T := TX6) (by decide +kernel) fn_X6_noonOf fv_X6_noonOf rfl rfl l_X6_152 ⟨by decide, by decide⟩) <|
  nv_oc (n_iret (by decide +kernel) rfl) <|
  nv_on
def M_X6_setBy : nv_MD := (RX6, yX6_setBy, cX6_setBy, 5, (some .int), 2, 45)
theorem fn_X6_setBy : nv_fn M_X6_setBy 1 := ⟨List.mem_of_getElem? (i := 1002) (by decide +kernel), List.mem_of_getElem? (i := 50) (by decide +kernel), by decide +kernel⟩
theorem fv_X6_setBy : nv_fnV M_X6_setBy := ⟨List.mem_of_getElem? (i := 1001) (by decide +kernel), List.mem_of_getElem? (i := 40) (by decide +kernel)⟩
def P_X6_setBy : nv_Pg := [(0, s_al 0 1), (1, s_cv 6 M_X6_begin 0 4), (4, s_il 1 5), (5, s_is 2 6), (6, s_ki (0) 7), (7, s_is 3 8), (8, s_al 0 9), (9, s_gf 6 7 12), (12, s_ki (28) 14), (14, s_ia 15), (15, s_ki (1) 16), (16, s_sub 17), (17, s_is 4 19), (19, s_il 4 21), (21, s_if c_lt 90 24), (24, s_al 0 25), (25, s_gf 6 8 28), (28, s_ki (12) 30), (30, s_il 4 32), (32, s_add 33), (33, s_il 2 34), (34, s_al 0 35), (35, s_gf 6 7 38), (38, s_ki (17) 40), (40, s_ia 41), (41, s_rem 42), (42, s_iw 43), (43, s_il 2 44), (44, s_al 0 45), (45, s_gf 6 7 48), (48, s_ki (17) 50), (50, s_ia 51), (51, s_div 52), (52, s_is 2 53), (53, s_il 3 54), (54, s_al 0 55), (55, s_gf 6 8 58), (58, s_ki (12) 60), (60, s_il 4 62), (62, s_add 63), (63, s_ia 64), (64, s_al 0 65), (65, s_gf 6 7 68), (68, s_ki (12) 70), (70, s_il 4 72), (72, s_add 73), (73, s_ia 74), (74, s_ic c_eq 77 81), (77, s_ki (0) 78), (78, s_go 82), (81, s_ki (1) 82), (82, s_add 83), (83, s_is 3 84), (84, s_inc 4 (-1) 87), (87, s_go 19), (90, s_il 3 91), (91, s_ir)]
set_option maxRecDepth 100000 in
set_option maxHeartbeats 4000000 in
theorem ok_X6_setBy : nv_ok_P M_X6_setBy P_X6_setBy :=
  nv_oc (n_aload_n (k := 0) (by decide +kernel)) <|
  nv_oc (n_virtual (M' := M_X6_begin) (idx := 145) (n := 0) (ci := 6) (N := 16) (D := RX6) (T := TX6) (by decide +kernel) fn_X6_begin fv_X6_begin rfl rfl l_X6_145 ⟨by decide, by decide⟩) <|
  nv_oc (n_iload_n (k := 1) (by decide +kernel)) <|
  nv_oc (n_istore_n (k := 2) (by decide +kernel) (by decide)) <|
  nv_oc (n_iconst (z := 0) (by decide +kernel)) <|
  nv_oc (n_istore_n (k := 3) (by decide +kernel) (by decide)) <|
  nv_oc (n_aload_n (k := 0) (by decide +kernel)) <|
  nv_oc (n_getfield (idx := 23) (ci := 6) (k := 7) (N := 16) (D := RX6) (T := TX6) (by decide +kernel) rfl i_X6 (by decide) (by decide) f_X6_23) <|
  nv_oc (n_bipush (z := 28) (by decide +kernel) (by decide)) <|
  nv_oc (n_iaload (by decide +kernel)) <|
  nv_oc (n_iconst (z := 1) (by decide +kernel)) <|
  nv_oc (n_isub (by decide +kernel)) <|
  nv_oc (n_istore (k := 4) (by decide +kernel) (by decide)) <|
  nv_oc (n_iload (k := 4) (by decide +kernel)) <|
  nv_oc (n_if_lt (off := 69) (tgt := 90) (by decide +kernel) (by decide)) <|
  nv_oc (n_aload_n (k := 0) (by decide +kernel)) <|
  nv_oc (n_getfield (idx := 26) (ci := 6) (k := 8) (N := 16) (D := RX6) (T := TX6) (by decide +kernel) rfl i_X6 (by decide) (by decide) f_X6_26) <|
  nv_oc (n_bipush (z := 12) (by decide +kernel) (by decide)) <|
  nv_oc (n_iload (k := 4) (by decide +kernel)) <|
  nv_oc (n_iadd (by decide +kernel)) <|
  nv_oc (n_iload_n (k := 2) (by decide +kernel)) <|
  nv_oc (n_aload_n (k := 0) (by decide +kernel)) <|
  nv_oc (n_getfield (idx := 23) (ci := 6) (k := 7) (N := 16) (D := RX6) (T := TX6) (by decide +kernel) rfl i_X6 (by decide) (by decide) f_X6_23) <|
  nv_oc (n_bipush (z := 17) (by decide +kernel) (by decide)) <|
  nv_oc (n_iaload (by decide +kernel)) <|
  nv_oc (n_irem (by decide +kernel)) <|
  nv_oc (n_iastore (by decide +kernel)) <|
  nv_oc (n_iload_n (k := 2) (by decide +kernel)) <|
  nv_oc (n_aload_n (k := 0) (by decide +kernel)) <|
  nv_oc (n_getfield (idx := 23) (ci := 6) (k := 7) (N := 16) (D := RX6) (T := TX6) (by decide +kernel) rfl i_X6 (by decide) (by decide) f_X6_23) <|
  nv_oc (n_bipush (z := 17) (by decide +kernel) (by decide)) <|
  nv_oc (n_iaload (by decide +kernel)) <|
  nv_oc (n_idiv (by decide +kernel)) <|
  nv_oc (n_istore_n (k := 2) (by decide +kernel) (by decide)) <|
  nv_oc (n_iload_n (k := 3) (by decide +kernel)) <|
  nv_oc (n_aload_n (k := 0) (by decide +kernel)) <|
  nv_oc (n_getfield (idx := 26) (ci := 6) (k := 8) (N := 16) (D := RX6) (T := TX6) (by decide +kernel) rfl i_X6 (by decide) (by decide) f_X6_26) <|
  nv_oc (n_bipush (z := 12) (by decide +kernel) (by decide)) <|
  nv_oc (n_iload (k := 4) (by decide +kernel)) <|
  nv_oc (n_iadd (by decide +kernel)) <|
  nv_oc (n_iaload (by decide +kernel)) <|
  nv_oc (n_aload_n (k := 0) (by decide +kernel)) <|
  nv_oc (n_getfield (idx := 23) (ci := 6) (k := 7) (N := 16) (D := RX6) (T := TX6) (by decide +kernel) rfl i_X6 (by decide) (by decide) f_X6_23) <|
  nv_oc (n_bipush (z := 12) (by decide +kernel) (by decide)) <|
  nv_oc (n_iload (k := 4) (by decide +kernel)) <|
  nv_oc (n_iadd (by decide +kernel)) <|
  nv_oc (n_iaload (by decide +kernel)) <|
  nv_oc (n_icmp_ne (off := 7) (tgt := 81) (by decide +kernel) (by decide)) <|
  nv_oc (n_iconst (z := 0) (by decide +kernel)) <|
  nv_oc (n_goto (off := 4) (tgt := 82) (by decide +kernel) (by decide)) <|
  nv_oc (n_iconst (z := 1) (by decide +kernel)) <|
  nv_oc (n_iadd (by decide +kernel)) <|
  nv_oc (n_istore_n (k := 3) (by decide +kernel) (by decide)) <|
  nv_oc (n_iinc (k := 4) (d := -1) (by decide +kernel) (by decide)) <|
  nv_oc (n_goto (off := -68) (tgt := 19) (by decide +kernel) (by decide)) <|
  nv_oc (n_iload_n (k := 3) (by decide +kernel)) <|
  nv_oc (n_iret (by decide +kernel) rfl) <|
  nv_on
def M_X6_layBest : nv_MD := (RX6, yX6_layBest, cX6_layBest, 7, none, 4, 88)
theorem fn_X6_layBest : nv_fn M_X6_layBest 1 := ⟨List.mem_of_getElem? (i := 998) (by decide +kernel), List.mem_of_getElem? (i := 50) (by decide +kernel), by decide +kernel⟩
theorem fv_X6_layBest : nv_fnV M_X6_layBest := ⟨List.mem_of_getElem? (i := 997) (by decide +kernel), List.mem_of_getElem? (i := 39) (by decide +kernel)⟩
def P_X6_layBest : nv_Pg := [(0, s_ki (1) 1), (1, s_is 2 2), (2, s_ki (0) 3), (3, s_is 3 4), (4, s_il 3 5), (5, s_al 0 6), (6, s_gf 6 7 9), (9, s_ki (28) 11), (11, s_ia 12), (12, s_ic c_ge 31 15), (15, s_il 2 16), (16, s_al 0 17), (17, s_gf 6 7 20), (20, s_ki (17) 22), (22, s_ia 23), (23, s_mul 24), (24, s_is 2 25), (25, s_inc 3 (1) 28), (28, s_go 4), (31, s_al 0 32), (32, s_ki (100) 34), (34, s_pf 6 14 37), (37, s_ki (0) 38), (38, s_is 3 39), (39, s_il 3 40), (40, s_il 2 41), (41, s_ic c_ge 174 44), (44, s_al 0 45), (45, s_il 3 46), (46, s_cv 6 M_X6_setBy 1 49), (49, s_is 4 51), (51, s_ki (0) 52), (52, s_is 5 54), (54, s_il 1 55), (55, s_if c_eq 58 83), (58, s_al 0 59), (59, s_cv 6 M_X6_noonOf 0 62), (62, s_is 6 64), (64, s_il 6 66), (66, s_ki (-4) 68), (68, s_ic c_eq 71 76), (71, s_ki (99) 73), (73, s_go 78), (76, s_il 6 78), (78, s_is 5 80), (80, s_go 108), (83, s_al 0 84), (84, s_il 1 85), (85, s_cv 6 M_X6_goOn 1 88), (88, s_al 0 89), (89, s_gf 6 7 92), (92, s_ki (17) 94), (94, s_ia 95), (95, s_al 0 96), (96, s_gf 6 8 99), (99, s_cs M_X6_fallen 1 102), (102, s_cs M_X6_bits 1 105), (105, s_sub 106), (106, s_is 5 108), (108, s_il 5 110), (110, s_al 0 111), (111, s_gf 6 14 114), (114, s_ic c_lt 135 117), (117, s_il 5 119), (119, s_al 0 120), (120, s_gf 6 14 123), (123, s_ic c_eq 126 168), (126, s_il 4 128), (128, s_al 0 129), (129, s_gf 6 15 132), (132, s_ic c_ge 168 135), (135, s_al 0 136), (136, s_il 5 138), (138, s_pf 6 14 141), (141, s_al 0 142), (142, s_il 4 144), (144, s_pf 6 15 147), (147, s_al 0 148), (148, s_il 3 149), (149, s_cv 6 M_X6_setBy 1 152), (152, s_pop 153), (153, s_al 0 154), (154, s_gf 6 8 157), (157, s_ki (12) 159), (159, s_al 0 160), (160, s_gf 6 13 163), (163, s_ki (0) 164), (164, s_ki (5) 165), (165, s_cs M_X6_bring 5 168), (168, s_inc 3 (1) 171), (171, s_go 39), (174, s_vr)]
set_option maxRecDepth 100000 in
set_option maxHeartbeats 4000000 in
theorem ok_X6_layBest : nv_ok_P M_X6_layBest P_X6_layBest :=
  nv_oc (n_iconst (z := 1) (by decide +kernel)) <|
  nv_oc (n_istore_n (k := 2) (by decide +kernel) (by decide)) <|
  nv_oc (n_iconst (z := 0) (by decide +kernel)) <|
  nv_oc (n_istore_n (k := 3) (by decide +kernel) (by decide)) <|
  nv_oc (n_iload_n (k := 3) (by decide +kernel)) <|
  nv_oc (n_aload_n (k := 0) (by decide +kernel)) <|
  nv_oc (n_getfield (idx := 23) (ci := 6) (k := 7) (N := 16) (D := RX6) (T := TX6) (by decide +kernel) rfl i_X6 (by decide) (by decide) f_X6_23) <|
  nv_oc (n_bipush (z := 28) (by decide +kernel) (by decide)) <|
  nv_oc (n_iaload (by decide +kernel)) <|
  nv_oc (n_icmp_ge (off := 19) (tgt := 31) (by decide +kernel) (by decide)) <|
  nv_oc (n_iload_n (k := 2) (by decide +kernel)) <|
  nv_oc (n_aload_n (k := 0) (by decide +kernel)) <|
  nv_oc (n_getfield (idx := 23) (ci := 6) (k := 7) (N := 16) (D := RX6) (T := TX6) (by decide +kernel) rfl i_X6 (by decide) (by decide) f_X6_23) <|
  nv_oc (n_bipush (z := 17) (by decide +kernel) (by decide)) <|
  nv_oc (n_iaload (by decide +kernel)) <|
  nv_oc (n_imul (by decide +kernel)) <|
  nv_oc (n_istore_n (k := 2) (by decide +kernel) (by decide)) <|
  nv_oc (n_iinc (k := 3) (d := 1) (by decide +kernel) (by decide)) <|
  nv_oc (n_goto (off := -24) (tgt := 4) (by decide +kernel) (by decide)) <|
  nv_oc (n_aload_n (k := 0) (by decide +kernel)) <|
  nv_oc (n_bipush (z := 100) (by decide +kernel) (by decide)) <|
  nv_oc (n_putfield (idx := 155) (ci := 6) (k := 14) (N := 16) (D := RX6) (T := TX6) tyX6 tyX6_ok nmX6 (by decide +kernel) rfl i_X6 (by decide) (by decide) rfl f_X6_155 rfl) <|
  nv_oc (n_iconst (z := 0) (by decide +kernel)) <|
  nv_oc (n_istore_n (k := 3) (by decide +kernel) (by decide)) <|
  nv_oc (n_iload_n (k := 3) (by decide +kernel)) <|
  nv_oc (n_iload_n (k := 2) (by decide +kernel)) <|
  nv_oc (n_icmp_ge (off := 133) (tgt := 174) (by decide +kernel) (by decide)) <|
  nv_oc (n_aload_n (k := 0) (by decide +kernel)) <|
  nv_oc (n_iload_n (k := 3) (by decide +kernel)) <|
  nv_oc (n_virtual (M' := M_X6_setBy) (idx := 158) (n := 1) (ci := 6) (N := 16) (D := RX6) (T := TX6) (by decide +kernel) fn_X6_setBy fv_X6_setBy rfl rfl l_X6_158 ⟨by decide, by decide⟩) <|
  nv_oc (n_istore (k := 4) (by decide +kernel) (by decide)) <|
  nv_oc (n_iconst (z := 0) (by decide +kernel)) <|
  nv_oc (n_istore (k := 5) (by decide +kernel) (by decide)) <|
  nv_oc (n_iload_n (k := 1) (by decide +kernel)) <|
  nv_oc (n_if_ne (off := 28) (tgt := 83) (by decide +kernel) (by decide)) <|
  nv_oc (n_aload_n (k := 0) (by decide +kernel)) <|
  nv_oc (n_virtual (M' := M_X6_noonOf) (idx := 152) (n := 0) (ci := 6) (N := 16) (D := RX6) (T := TX6) (by decide +kernel) fn_X6_noonOf fv_X6_noonOf rfl rfl l_X6_152 ⟨by decide, by decide⟩) <|
  nv_oc (n_istore (k := 6) (by decide +kernel) (by decide)) <|
  nv_oc (n_iload (k := 6) (by decide +kernel)) <|
  nv_oc (n_bipush (z := -4) (by decide +kernel) (by decide)) <|
  nv_oc (n_icmp_ne (off := 8) (tgt := 76) (by decide +kernel) (by decide)) <|
  nv_oc (n_bipush (z := 99) (by decide +kernel) (by decide)) <|
  nv_oc (n_goto (off := 5) (tgt := 78) (by decide +kernel) (by decide)) <|
  nv_oc (n_iload (k := 6) (by decide +kernel)) <|
  nv_oc (n_istore (k := 5) (by decide +kernel) (by decide)) <|
  nv_oc (n_goto (off := 28) (tgt := 108) (by decide +kernel) (by decide)) <|
  nv_oc (n_aload_n (k := 0) (by decide +kernel)) <|
  nv_oc (n_iload_n (k := 1) (by decide +kernel)) <|
  nv_oc (n_virtual (M' := M_X6_goOn) (idx := 148) (n := 1) (ci := 6) (N := 16) (D := RX6) (T := TX6) (by decide +kernel) fn_X6_goOn fv_X6_goOn rfl rfl l_X6_148 ⟨by decide, by decide⟩) <|
  nv_oc (n_aload_n (k := 0) (by decide +kernel)) <|
  nv_oc (n_getfield (idx := 23) (ci := 6) (k := 7) (N := 16) (D := RX6) (T := TX6) (by decide +kernel) rfl i_X6 (by decide) (by decide) f_X6_23) <|
  nv_oc (n_bipush (z := 17) (by decide +kernel) (by decide)) <|
  nv_oc (n_iaload (by decide +kernel)) <|
  nv_oc (n_aload_n (k := 0) (by decide +kernel)) <|
  nv_oc (n_getfield (idx := 26) (ci := 6) (k := 8) (N := 16) (D := RX6) (T := TX6) (by decide +kernel) rfl i_X6 (by decide) (by decide) f_X6_26) <|
  nv_oc (n_static (M' := M_X6_fallen) (idx := 111) (n := 1) (by decide +kernel) fn_X6_fallen st_X6_fallen l_X6_111 ⟨by decide, by decide⟩) <|
  nv_oc (n_static (M' := M_X6_bits) (idx := 161) (n := 1) (by decide +kernel) fn_X6_bits st_X6_bits l_X6_161 ⟨by decide, by decide⟩) <|
  nv_oc (n_isub (by decide +kernel)) <|
  nv_oc (n_istore (k := 5) (by decide +kernel) (by decide)) <|
  nv_oc (n_iload (k := 5) (by decide +kernel)) <|
  nv_oc (n_aload_n (k := 0) (by decide +kernel)) <|
  nv_oc (n_getfield (idx := 155) (ci := 6) (k := 14) (N := 16) (D := RX6) (T := TX6) (by decide +kernel) rfl i_X6 (by decide) (by decide) f_X6_155) <|
  nv_oc (n_icmp_lt (off := 21) (tgt := 135) (by decide +kernel) (by decide)) <|
  nv_oc (n_iload (k := 5) (by decide +kernel)) <|
  nv_oc (n_aload_n (k := 0) (by decide +kernel)) <|
  nv_oc (n_getfield (idx := 155) (ci := 6) (k := 14) (N := 16) (D := RX6) (T := TX6) (by decide +kernel) rfl i_X6 (by decide) (by decide) f_X6_155) <|
  nv_oc (n_icmp_ne (off := 45) (tgt := 168) (by decide +kernel) (by decide)) <|
  nv_oc (n_iload (k := 4) (by decide +kernel)) <|
  nv_oc (n_aload_n (k := 0) (by decide +kernel)) <|
  nv_oc (n_getfield (idx := 164) (ci := 6) (k := 15) (N := 16) (D := RX6) (T := TX6) (by decide +kernel) rfl i_X6 (by decide) (by decide) f_X6_164) <|
  nv_oc (n_icmp_ge (off := 36) (tgt := 168) (by decide +kernel) (by decide)) <|
  nv_oc (n_aload_n (k := 0) (by decide +kernel)) <|
  nv_oc (n_iload (k := 5) (by decide +kernel)) <|
  nv_oc (n_putfield (idx := 155) (ci := 6) (k := 14) (N := 16) (D := RX6) (T := TX6) tyX6 tyX6_ok nmX6 (by decide +kernel) rfl i_X6 (by decide) (by decide) rfl f_X6_155 rfl) <|
  nv_oc (n_aload_n (k := 0) (by decide +kernel)) <|
  nv_oc (n_iload (k := 4) (by decide +kernel)) <|
  nv_oc (n_putfield (idx := 164) (ci := 6) (k := 15) (N := 16) (D := RX6) (T := TX6) tyX6 tyX6_ok nmX6 (by decide +kernel) rfl i_X6 (by decide) (by decide) rfl f_X6_164 rfl) <|
  nv_oc (n_aload_n (k := 0) (by decide +kernel)) <|
  nv_oc (n_iload_n (k := 3) (by decide +kernel)) <|
  nv_oc (n_virtual (M' := M_X6_setBy) (idx := 158) (n := 1) (ci := 6) (N := 16) (D := RX6) (T := TX6) (by decide +kernel) fn_X6_setBy fv_X6_setBy rfl rfl l_X6_158 ⟨by decide, by decide⟩) <|
  nv_oc (n_pop (by decide +kernel)) <|
  nv_oc (n_aload_n (k := 0) (by decide +kernel)) <|
  nv_oc (n_getfield (idx := 26) (ci := 6) (k := 8) (N := 16) (D := RX6) (T := TX6) (by decide +kernel) rfl i_X6 (by decide) (by decide) f_X6_26) <|
  nv_oc (n_bipush (z := 12) (by decide +kernel) (by decide)) <|
  nv_oc (n_aload_n (k := 0) (by decide +kernel)) <|
  nv_oc (n_getfield (idx := 38) (ci := 6) (k := 13) (N := 16) (D := RX6) (T := TX6) (by decide +kernel) rfl i_X6 (by decide) (by decide) f_X6_38) <|
  nv_oc (n_iconst (z := 0) (by decide +kernel)) <|
  nv_oc (n_iconst (z := 5) (by decide +kernel)) <|
  nv_oc (n_static (M' := M_X6_bring) (idx := 107) (n := 5) (by decide +kernel) fn_X6_bring st_X6_bring l_X6_107 ⟨by decide, by decide⟩) <|
  nv_oc (n_iinc (k := 3) (d := 1) (by decide +kernel) (by decide)) <|
  nv_oc (n_goto (off := -132) (tgt := 39) (by decide +kernel) (by decide)) <|
  nv_oc (n_vret (by decide +kernel) rfl) <|
  nv_on
def M_X6_noBest : nv_MD := (RX6, yX6_noBest, cX6_noBest, 2, (some .int), 2, 43)
theorem fn_X6_noBest : nv_fn M_X6_noBest 1 := ⟨List.mem_of_getElem? (i := 994) (by decide +kernel), List.mem_of_getElem? (i := 50) (by decide +kernel), by decide +kernel⟩
theorem fv_X6_noBest : nv_fnV M_X6_noBest := ⟨List.mem_of_getElem? (i := 993) (by decide +kernel), List.mem_of_getElem? (i := 38) (by decide +kernel)⟩
def P_X6_noBest : nv_Pg := [(0, s_il 1 1), (1, s_ki (-1) 2), (2, s_ic c_eq 21 5), (5, s_il 1 6), (6, s_ki (-2) 8), (8, s_ic c_eq 21 11), (11, s_al 0 12), (12, s_il 1 13), (13, s_cv 6 M_X6_isSawyer 1 16), (16, s_if c_eq 19 21), (19, s_ki (-1) 20), (20, s_ir), (21, s_al 0 22), (22, s_gf 6 7 25), (25, s_ki (28) 27), (27, s_ia 28), (28, s_if c_eq 41 31), (31, s_al 0 32), (32, s_gf 6 7 35), (35, s_ki (17) 37), (37, s_ia 38), (38, s_if c_eq 41 46), (41, s_ki (-4) 43), (43, s_go 47), (46, s_ki (0) 47), (47, s_ir)]
set_option maxRecDepth 100000 in
set_option maxHeartbeats 4000000 in
theorem ok_X6_noBest : nv_ok_P M_X6_noBest P_X6_noBest :=
  nv_oc (n_iload_n (k := 1) (by decide +kernel)) <|
  nv_oc (n_iconst (z := -1) (by decide +kernel)) <|
  nv_oc (n_icmp_eq (off := 19) (tgt := 21) (by decide +kernel) (by decide)) <|
  nv_oc (n_iload_n (k := 1) (by decide +kernel)) <|
  nv_oc (n_bipush (z := -2) (by decide +kernel) (by decide)) <|
  nv_oc (n_icmp_eq (off := 13) (tgt := 21) (by decide +kernel) (by decide)) <|
  nv_oc (n_aload_n (k := 0) (by decide +kernel)) <|
  nv_oc (n_iload_n (k := 1) (by decide +kernel)) <|
  nv_oc (n_virtual (M' := M_X6_isSawyer) (idx := 67) (n := 1) (ci := 6) (N := 16) (D := RX6) (T := TX6) (by decide +kernel) fn_X6_isSawyer fv_X6_isSawyer rfl rfl l_X6_67 ⟨by decide, by decide⟩) <|
  nv_oc (n_if_ne (off := 5) (tgt := 21) (by decide +kernel) (by decide)) <|
  nv_oc (n_iconst (z := -1) (by decide +kernel)) <|
  nv_oc (n_iret (by decide +kernel) rfl) <|
  nv_oc (n_aload_n (k := 0) (by decide +kernel)) <|
  nv_oc (n_getfield (idx := 23) (ci := 6) (k := 7) (N := 16) (D := RX6) (T := TX6) (by decide +kernel) rfl i_X6 (by decide) (by decide) f_X6_23) <|
  nv_oc (n_bipush (z := 28) (by decide +kernel) (by decide)) <|
  nv_oc (n_iaload (by decide +kernel)) <|
  nv_oc (n_if_eq (off := 13) (tgt := 41) (by decide +kernel) (by decide)) <|
  nv_oc (n_aload_n (k := 0) (by decide +kernel)) <|
  nv_oc (n_getfield (idx := 23) (ci := 6) (k := 7) (N := 16) (D := RX6) (T := TX6) (by decide +kernel) rfl i_X6 (by decide) (by decide) f_X6_23) <|
  nv_oc (n_bipush (z := 17) (by decide +kernel) (by decide)) <|
  nv_oc (n_iaload (by decide +kernel)) <|
  nv_oc (n_if_ne (off := 8) (tgt := 46) (by decide +kernel) (by decide)) <|
  nv_oc (n_bipush (z := -4) (by decide +kernel) (by decide)) <|
  nv_oc (n_goto (off := 4) (tgt := 47) (by decide +kernel) (by decide)) <|
  nv_oc (n_iconst (z := 0) (by decide +kernel)) <|
  nv_oc (n_iret (by decide +kernel) rfl) <|
  nv_on
def M_X6_best : nv_MD := (RX6, yX6_best, cX6_best, 3, (some .int), 5, 114)
theorem fn_X6_best : nv_fn M_X6_best 1 := ⟨List.mem_of_getElem? (i := 990) (by decide +kernel), List.mem_of_getElem? (i := 50) (by decide +kernel), by decide +kernel⟩
theorem fv_X6_best : nv_fnV M_X6_best := ⟨List.mem_of_getElem? (i := 988) (by decide +kernel), List.mem_of_getElem? (i := 989) (by decide +kernel)⟩
def P_X6_best : nv_Pg := [(0, s_al 0 1), (1, s_il 1 2), (2, s_cv 6 M_X6_noBest 1 5), (5, s_is 2 6), (6, s_il 2 7), (7, s_if c_eq 12 10), (10, s_il 2 11), (11, s_ir), (12, s_al 0 13), (13, s_ki (0) 14), (14, s_cv 6 M_X6_layBest 1 17), (17, s_il 1 18), (18, s_ki (-1) 19), (19, s_ic c_eq 22 43), (22, s_al 0 23), (23, s_gf 6 14 26), (26, s_ki (99) 28), (28, s_ic c_eq 31 36), (31, s_ki (-4) 33), (33, s_go 62), (36, s_al 0 37), (37, s_gf 6 14 40), (40, s_go 62), (43, s_il 1 44), (44, s_ki (-2) 46), (46, s_ic c_eq 49 56), (49, s_al 0 50), (50, s_gf 6 15 53), (53, s_go 62), (56, s_al 0 57), (57, s_gf 6 13 60), (60, s_il 1 61), (61, s_ia 62), (62, s_ir)]
set_option maxRecDepth 100000 in
set_option maxHeartbeats 4000000 in
theorem ok_X6_best : nv_ok_P M_X6_best P_X6_best :=
  nv_oc (n_aload_n (k := 0) (by decide +kernel)) <|
  nv_oc (n_iload_n (k := 1) (by decide +kernel)) <|
  nv_oc (n_virtual (M' := M_X6_noBest) (idx := 167) (n := 1) (ci := 6) (N := 16) (D := RX6) (T := TX6) (by decide +kernel) fn_X6_noBest fv_X6_noBest rfl rfl l_X6_167 ⟨by decide, by decide⟩) <|
  nv_oc (n_istore_n (k := 2) (by decide +kernel) (by decide)) <|
  nv_oc (n_iload_n (k := 2) (by decide +kernel)) <|
  nv_oc (n_if_eq (off := 5) (tgt := 12) (by decide +kernel) (by decide)) <|
  nv_oc (n_iload_n (k := 2) (by decide +kernel)) <|
  nv_oc (n_iret (by decide +kernel) rfl) <|
  nv_oc (n_aload_n (k := 0) (by decide +kernel)) <|
  nv_oc (n_iconst (z := 0) (by decide +kernel)) <|
  nv_oc (n_virtual (M' := M_X6_layBest) (idx := 170) (n := 1) (ci := 6) (N := 16) (D := RX6) (T := TX6) (by decide +kernel) fn_X6_layBest fv_X6_layBest rfl rfl l_X6_170 ⟨by decide, by decide⟩) <|
  nv_oc (n_iload_n (k := 1) (by decide +kernel)) <|
  nv_oc (n_iconst (z := -1) (by decide +kernel)) <|
  nv_oc (n_icmp_ne (off := 24) (tgt := 43) (by decide +kernel) (by decide)) <|
  nv_oc (n_aload_n (k := 0) (by decide +kernel)) <|
  nv_oc (n_getfield (idx := 155) (ci := 6) (k := 14) (N := 16) (D := RX6) (T := TX6) (by decide +kernel) rfl i_X6 (by decide) (by decide) f_X6_155) <|
  nv_oc (n_bipush (z := 99) (by decide +kernel) (by decide)) <|
  nv_oc (n_icmp_ne (off := 8) (tgt := 36) (by decide +kernel) (by decide)) <|
  nv_oc (n_bipush (z := -4) (by decide +kernel) (by decide)) <|
  nv_oc (n_goto (off := 29) (tgt := 62) (by decide +kernel) (by decide)) <|
  nv_oc (n_aload_n (k := 0) (by decide +kernel)) <|
  nv_oc (n_getfield (idx := 155) (ci := 6) (k := 14) (N := 16) (D := RX6) (T := TX6) (by decide +kernel) rfl i_X6 (by decide) (by decide) f_X6_155) <|
  nv_oc (n_goto (off := 22) (tgt := 62) (by decide +kernel) (by decide)) <|
  nv_oc (n_iload_n (k := 1) (by decide +kernel)) <|
  nv_oc (n_bipush (z := -2) (by decide +kernel) (by decide)) <|
  nv_oc (n_icmp_ne (off := 10) (tgt := 56) (by decide +kernel) (by decide)) <|
  nv_oc (n_aload_n (k := 0) (by decide +kernel)) <|
  nv_oc (n_getfield (idx := 164) (ci := 6) (k := 15) (N := 16) (D := RX6) (T := TX6) (by decide +kernel) rfl i_X6 (by decide) (by decide) f_X6_164) <|
  nv_oc (n_goto (off := 9) (tgt := 62) (by decide +kernel) (by decide)) <|
  nv_oc (n_aload_n (k := 0) (by decide +kernel)) <|
  nv_oc (n_getfield (idx := 38) (ci := 6) (k := 13) (N := 16) (D := RX6) (T := TX6) (by decide +kernel) rfl i_X6 (by decide) (by decide) f_X6_38) <|
  nv_oc (n_iload_n (k := 1) (by decide +kernel)) <|
  nv_oc (n_iaload (by decide +kernel)) <|
  nv_oc (n_iret (by decide +kernel) rfl) <|
  nv_on
def M_X6_most : nv_MD := (RX6, yX6_most, cX6_most, 4, (some .int), 5, 114)
theorem fn_X6_most : nv_fn M_X6_most 2 := ⟨List.mem_of_getElem? (i := 1009) (by decide +kernel), List.mem_of_getElem? (i := 50) (by decide +kernel), by decide +kernel⟩
theorem fv_X6_most : nv_fnV M_X6_most := ⟨List.mem_of_getElem? (i := 1007) (by decide +kernel), List.mem_of_getElem? (i := 1008) (by decide +kernel)⟩
def P_X6_most : nv_Pg := [(0, s_il 1 1), (1, s_ki (1) 2), (2, s_ki (30) 4), (4, s_cs M_X6_in 3 7), (7, s_if c_eq 10 12), (10, s_ki (-1) 11), (11, s_ir), (12, s_al 0 13), (13, s_il 2 14), (14, s_cv 6 M_X6_noBest 1 17), (17, s_is 3 18), (18, s_il 3 19), (19, s_if c_eq 24 22), (22, s_il 3 23), (23, s_ir), (24, s_al 0 25), (25, s_il 1 26), (26, s_cv 6 M_X6_layBest 1 29), (29, s_il 2 30), (30, s_ki (-1) 31), (31, s_ic c_eq 34 49), (34, s_al 0 35), (35, s_gf 6 7 38), (38, s_ki (17) 40), (40, s_ia 41), (41, s_al 0 42), (42, s_gf 6 14 45), (45, s_sub 46), (46, s_go 68), (49, s_il 2 50), (50, s_ki (-2) 52), (52, s_ic c_eq 55 62), (55, s_al 0 56), (56, s_gf 6 15 59), (59, s_go 68), (62, s_al 0 63), (63, s_gf 6 13 66), (66, s_il 2 67), (67, s_ia 68), (68, s_ir)]
set_option maxRecDepth 100000 in
set_option maxHeartbeats 4000000 in
theorem ok_X6_most : nv_ok_P M_X6_most P_X6_most :=
  nv_oc (n_iload_n (k := 1) (by decide +kernel)) <|
  nv_oc (n_iconst (z := 1) (by decide +kernel)) <|
  nv_oc (n_bipush (z := 30) (by decide +kernel) (by decide)) <|
  nv_oc (n_static (M' := M_X6_in) (idx := 41) (n := 3) (by decide +kernel) fn_X6_in st_X6_in l_X6_41 ⟨by decide, by decide⟩) <|
  nv_oc (n_if_ne (off := 5) (tgt := 12) (by decide +kernel) (by decide)) <|
  nv_oc (n_iconst (z := -1) (by decide +kernel)) <|
  nv_oc (n_iret (by decide +kernel) rfl) <|
  nv_oc (n_aload_n (k := 0) (by decide +kernel)) <|
  nv_oc (n_iload_n (k := 2) (by decide +kernel)) <|
  nv_oc (n_virtual (M' := M_X6_noBest) (idx := 167) (n := 1) (ci := 6) (N := 16) (D := RX6) (T := TX6) (by decide +kernel) fn_X6_noBest fv_X6_noBest rfl rfl l_X6_167 ⟨by decide, by decide⟩) <|
  nv_oc (n_istore_n (k := 3) (by decide +kernel) (by decide)) <|
  nv_oc (n_iload_n (k := 3) (by decide +kernel)) <|
  nv_oc (n_if_eq (off := 5) (tgt := 24) (by decide +kernel) (by decide)) <|
  nv_oc (n_iload_n (k := 3) (by decide +kernel)) <|
  nv_oc (n_iret (by decide +kernel) rfl) <|
  nv_oc (n_aload_n (k := 0) (by decide +kernel)) <|
  nv_oc (n_iload_n (k := 1) (by decide +kernel)) <|
  nv_oc (n_virtual (M' := M_X6_layBest) (idx := 170) (n := 1) (ci := 6) (N := 16) (D := RX6) (T := TX6) (by decide +kernel) fn_X6_layBest fv_X6_layBest rfl rfl l_X6_170 ⟨by decide, by decide⟩) <|
  nv_oc (n_iload_n (k := 2) (by decide +kernel)) <|
  nv_oc (n_iconst (z := -1) (by decide +kernel)) <|
  nv_oc (n_icmp_ne (off := 18) (tgt := 49) (by decide +kernel) (by decide)) <|
  nv_oc (n_aload_n (k := 0) (by decide +kernel)) <|
  nv_oc (n_getfield (idx := 23) (ci := 6) (k := 7) (N := 16) (D := RX6) (T := TX6) (by decide +kernel) rfl i_X6 (by decide) (by decide) f_X6_23) <|
  nv_oc (n_bipush (z := 17) (by decide +kernel) (by decide)) <|
  nv_oc (n_iaload (by decide +kernel)) <|
  nv_oc (n_aload_n (k := 0) (by decide +kernel)) <|
  nv_oc (n_getfield (idx := 155) (ci := 6) (k := 14) (N := 16) (D := RX6) (T := TX6) (by decide +kernel) rfl i_X6 (by decide) (by decide) f_X6_155) <|
  nv_oc (n_isub (by decide +kernel)) <|
  nv_oc (n_goto (off := 22) (tgt := 68) (by decide +kernel) (by decide)) <|
  nv_oc (n_iload_n (k := 2) (by decide +kernel)) <|
  nv_oc (n_bipush (z := -2) (by decide +kernel) (by decide)) <|
  nv_oc (n_icmp_ne (off := 10) (tgt := 62) (by decide +kernel) (by decide)) <|
  nv_oc (n_aload_n (k := 0) (by decide +kernel)) <|
  nv_oc (n_getfield (idx := 164) (ci := 6) (k := 15) (N := 16) (D := RX6) (T := TX6) (by decide +kernel) rfl i_X6 (by decide) (by decide) f_X6_164) <|
  nv_oc (n_goto (off := 9) (tgt := 68) (by decide +kernel) (by decide)) <|
  nv_oc (n_aload_n (k := 0) (by decide +kernel)) <|
  nv_oc (n_getfield (idx := 38) (ci := 6) (k := 13) (N := 16) (D := RX6) (T := TX6) (by decide +kernel) rfl i_X6 (by decide) (by decide) f_X6_38) <|
  nv_oc (n_iload_n (k := 2) (by decide +kernel)) <|
  nv_oc (n_iaload (by decide +kernel)) <|
  nv_oc (n_iret (by decide +kernel) rfl) <|
  nv_on
def M_X6_sharp : nv_MD := (RX6, yX6_sharp, cX6_sharp, 6, (some .int), 4, 88)
theorem fn_X6_sharp : nv_fn M_X6_sharp 2 := ⟨List.mem_of_getElem? (i := 1013) (by decide +kernel), List.mem_of_getElem? (i := 50) (by decide +kernel), by decide +kernel⟩
theorem fv_X6_sharp : nv_fnV M_X6_sharp := ⟨List.mem_of_getElem? (i := 1011) (by decide +kernel), List.mem_of_getElem? (i := 1012) (by decide +kernel)⟩
def P_X6_sharp : nv_Pg := [(0, s_il 1 1), (1, s_ki (1) 2), (2, s_ki (40) 4), (4, s_cs M_X6_in 3 7), (7, s_if c_eq 19 10), (10, s_il 2 11), (11, s_ki (0) 12), (12, s_ki (1) 13), (13, s_cs M_X6_in 3 16), (16, s_if c_eq 19 21), (19, s_ki (-1) 20), (20, s_ir), (21, s_ki (-4) 23), (23, s_is 3 24), (24, s_ki (-4) 26), (26, s_is 4 28), (28, s_ki (0) 29), (29, s_is 5 31), (31, s_il 5 33), (33, s_al 0 34), (34, s_gf 6 7 37), (37, s_ki (28) 39), (39, s_ia 40), (40, s_ic c_ge 132 43), (43, s_al 0 44), (44, s_cv 6 M_X6_begin 0 47), (47, s_al 0 48), (48, s_gf 6 8 51), (51, s_ki (7) 53), (53, s_il 5 55), (55, s_add 56), (56, s_al 0 57), (57, s_gf 6 8 60), (60, s_ki (7) 62), (62, s_il 5 64), (64, s_add 65), (65, s_ia 66), (66, s_ki (3) 67), (67, s_add 68), (68, s_ki (9) 70), (70, s_ic c_le 78 73), (73, s_ki (9) 75), (75, s_go 90), (78, s_al 0 79), (79, s_gf 6 8 82), (82, s_ki (7) 84), (84, s_il 5 86), (86, s_add 87), (87, s_ia 88), (88, s_ki (3) 89), (89, s_add 90), (90, s_iw 91), (91, s_al 0 92), (92, s_il 1 93), (93, s_cv 6 M_X6_goOn 1 96), (96, s_il 3 97), (97, s_ki (-4) 99), (99, s_ic c_eq 114 102), (102, s_al 0 103), (103, s_gf 6 8 106), (106, s_cs M_X6_leftOf 1 109), (109, s_il 4 111), (111, s_ic c_ge 126 114), (114, s_il 5 116), (116, s_is 3 117), (117, s_al 0 118), (118, s_gf 6 8 121), (121, s_cs M_X6_leftOf 1 124), (124, s_is 4 126), (126, s_inc 5 (1) 129), (129, s_go 31), (132, s_il 2 133), (133, s_if c_eq 136 140), (136, s_il 3 137), (137, s_go 142), (140, s_il 4 142), (142, s_ir)]
set_option maxRecDepth 100000 in
set_option maxHeartbeats 4000000 in
theorem ok_X6_sharp : nv_ok_P M_X6_sharp P_X6_sharp :=
  nv_oc (n_iload_n (k := 1) (by decide +kernel)) <|
  nv_oc (n_iconst (z := 1) (by decide +kernel)) <|
  nv_oc (n_bipush (z := 40) (by decide +kernel) (by decide)) <|
  nv_oc (n_static (M' := M_X6_in) (idx := 41) (n := 3) (by decide +kernel) fn_X6_in st_X6_in l_X6_41 ⟨by decide, by decide⟩) <|
  nv_oc (n_if_eq (off := 12) (tgt := 19) (by decide +kernel) (by decide)) <|
  nv_oc (n_iload_n (k := 2) (by decide +kernel)) <|
  nv_oc (n_iconst (z := 0) (by decide +kernel)) <|
  nv_oc (n_iconst (z := 1) (by decide +kernel)) <|
  nv_oc (n_static (M' := M_X6_in) (idx := 41) (n := 3) (by decide +kernel) fn_X6_in st_X6_in l_X6_41 ⟨by decide, by decide⟩) <|
  nv_oc (n_if_ne (off := 5) (tgt := 21) (by decide +kernel) (by decide)) <|
  nv_oc (n_iconst (z := -1) (by decide +kernel)) <|
  nv_oc (n_iret (by decide +kernel) rfl) <|
  nv_oc (n_bipush (z := -4) (by decide +kernel) (by decide)) <|
  nv_oc (n_istore_n (k := 3) (by decide +kernel) (by decide)) <|
  nv_oc (n_bipush (z := -4) (by decide +kernel) (by decide)) <|
  nv_oc (n_istore (k := 4) (by decide +kernel) (by decide)) <|
  nv_oc (n_iconst (z := 0) (by decide +kernel)) <|
  nv_oc (n_istore (k := 5) (by decide +kernel) (by decide)) <|
  nv_oc (n_iload (k := 5) (by decide +kernel)) <|
  nv_oc (n_aload_n (k := 0) (by decide +kernel)) <|
  nv_oc (n_getfield (idx := 23) (ci := 6) (k := 7) (N := 16) (D := RX6) (T := TX6) (by decide +kernel) rfl i_X6 (by decide) (by decide) f_X6_23) <|
  nv_oc (n_bipush (z := 28) (by decide +kernel) (by decide)) <|
  nv_oc (n_iaload (by decide +kernel)) <|
  nv_oc (n_icmp_ge (off := 92) (tgt := 132) (by decide +kernel) (by decide)) <|
  nv_oc (n_aload_n (k := 0) (by decide +kernel)) <|
  nv_oc (n_virtual (M' := M_X6_begin) (idx := 145) (n := 0) (ci := 6) (N := 16) (D := RX6) (T := TX6) (by decide +kernel) fn_X6_begin fv_X6_begin rfl rfl l_X6_145 ⟨by decide, by decide⟩) <|
  nv_oc (n_aload_n (k := 0) (by decide +kernel)) <|
  nv_oc (n_getfield (idx := 26) (ci := 6) (k := 8) (N := 16) (D := RX6) (T := TX6) (by decide +kernel) rfl i_X6 (by decide) (by decide) f_X6_26) <|
  nv_oc (n_bipush (z := 7) (by decide +kernel) (by decide)) <|
  nv_oc (n_iload (k := 5) (by decide +kernel)) <|
  nv_oc (n_iadd (by decide +kernel)) <|
  nv_oc (n_aload_n (k := 0) (by decide +kernel)) <|
  nv_oc (n_getfield (idx := 26) (ci := 6) (k := 8) (N := 16) (D := RX6) (T := TX6) (by decide +kernel) rfl i_X6 (by decide) (by decide) f_X6_26) <|
  nv_oc (n_bipush (z := 7) (by decide +kernel) (by decide)) <|
  nv_oc (n_iload (k := 5) (by decide +kernel)) <|
  nv_oc (n_iadd (by decide +kernel)) <|
  nv_oc (n_iaload (by decide +kernel)) <|
  nv_oc (n_iconst (z := 3) (by decide +kernel)) <|
  nv_oc (n_iadd (by decide +kernel)) <|
  nv_oc (n_bipush (z := 9) (by decide +kernel) (by decide)) <|
  nv_oc (n_icmp_le (off := 8) (tgt := 78) (by decide +kernel) (by decide)) <|
  nv_oc (n_bipush (z := 9) (by decide +kernel) (by decide)) <|
  nv_oc (n_goto (off := 15) (tgt := 90) (by decide +kernel) (by decide)) <|
  nv_oc (n_aload_n (k := 0) (by decide +kernel)) <|
  nv_oc (n_getfield (idx := 26) (ci := 6) (k := 8) (N := 16) (D := RX6) (T := TX6) (by decide +kernel) rfl i_X6 (by decide) (by decide) f_X6_26) <|
  nv_oc (n_bipush (z := 7) (by decide +kernel) (by decide)) <|
  nv_oc (n_iload (k := 5) (by decide +kernel)) <|
  nv_oc (n_iadd (by decide +kernel)) <|
  nv_oc (n_iaload (by decide +kernel)) <|
  nv_oc (n_iconst (z := 3) (by decide +kernel)) <|
  nv_oc (n_iadd (by decide +kernel)) <|
  nv_oc (n_iastore (by decide +kernel)) <|
  nv_oc (n_aload_n (k := 0) (by decide +kernel)) <|
  nv_oc (n_iload_n (k := 1) (by decide +kernel)) <|
  nv_oc (n_virtual (M' := M_X6_goOn) (idx := 148) (n := 1) (ci := 6) (N := 16) (D := RX6) (T := TX6) (by decide +kernel) fn_X6_goOn fv_X6_goOn rfl rfl l_X6_148 ⟨by decide, by decide⟩) <|
  nv_oc (n_iload_n (k := 3) (by decide +kernel)) <|
  nv_oc (n_bipush (z := -4) (by decide +kernel) (by decide)) <|
  nv_oc (n_icmp_eq (off := 15) (tgt := 114) (by decide +kernel) (by decide)) <|
  nv_oc (n_aload_n (k := 0) (by decide +kernel)) <|
  nv_oc (n_getfield (idx := 26) (ci := 6) (k := 8) (N := 16) (D := RX6) (T := TX6) (by decide +kernel) rfl i_X6 (by decide) (by decide) f_X6_26) <|
  nv_oc (n_static (M' := M_X6_leftOf) (idx := 115) (n := 1) (by decide +kernel) fn_X6_leftOf st_X6_leftOf l_X6_115 ⟨by decide, by decide⟩) <|
  nv_oc (n_iload (k := 4) (by decide +kernel)) <|
  nv_oc (n_icmp_ge (off := 15) (tgt := 126) (by decide +kernel) (by decide)) <|
  nv_oc (n_iload (k := 5) (by decide +kernel)) <|
  nv_oc (n_istore_n (k := 3) (by decide +kernel) (by decide)) <|
  nv_oc (n_aload_n (k := 0) (by decide +kernel)) <|
  nv_oc (n_getfield (idx := 26) (ci := 6) (k := 8) (N := 16) (D := RX6) (T := TX6) (by decide +kernel) rfl i_X6 (by decide) (by decide) f_X6_26) <|
  nv_oc (n_static (M' := M_X6_leftOf) (idx := 115) (n := 1) (by decide +kernel) fn_X6_leftOf st_X6_leftOf l_X6_115 ⟨by decide, by decide⟩) <|
  nv_oc (n_istore (k := 4) (by decide +kernel) (by decide)) <|
  nv_oc (n_iinc (k := 5) (d := 1) (by decide +kernel) (by decide)) <|
  nv_oc (n_goto (off := -98) (tgt := 31) (by decide +kernel) (by decide)) <|
  nv_oc (n_iload_n (k := 2) (by decide +kernel)) <|
  nv_oc (n_if_ne (off := 7) (tgt := 140) (by decide +kernel) (by decide)) <|
  nv_oc (n_iload_n (k := 3) (by decide +kernel)) <|
  nv_oc (n_goto (off := 5) (tgt := 142) (by decide +kernel) (by decide)) <|
  nv_oc (n_iload (k := 4) (by decide +kernel)) <|
  nv_oc (n_iret (by decide +kernel) rfl) <|
  nv_on
def M_X6_without : nv_MD := (RX6, yX6_without, cX6_without, 2, (some .int), 4, 87)
theorem fn_X6_without : nv_fn M_X6_without 1 := ⟨List.mem_of_getElem? (i := 1017) (by decide +kernel), List.mem_of_getElem? (i := 50) (by decide +kernel), by decide +kernel⟩
theorem fv_X6_without : nv_fnV M_X6_without := ⟨List.mem_of_getElem? (i := 1015) (by decide +kernel), List.mem_of_getElem? (i := 1016) (by decide +kernel)⟩
def P_X6_without : nv_Pg := [(0, s_al 0 1), (1, s_il 1 2), (2, s_cv 6 M_X6_isSawyer 1 5), (5, s_if c_eq 8 10), (8, s_ki (-1) 9), (9, s_ir), (10, s_al 0 11), (11, s_cv 6 M_X6_begin 0 14), (14, s_al 0 15), (15, s_gf 6 8 18), (18, s_ki (12) 20), (20, s_il 1 21), (21, s_add 22), (22, s_ki (-4) 24), (24, s_iw 25), (25, s_al 0 26), (26, s_cv 6 M_X6_noonOf 0 29), (29, s_ir)]
set_option maxRecDepth 100000 in
set_option maxHeartbeats 4000000 in
theorem ok_X6_without : nv_ok_P M_X6_without P_X6_without :=
  nv_oc (n_aload_n (k := 0) (by decide +kernel)) <|
  nv_oc (n_iload_n (k := 1) (by decide +kernel)) <|
  nv_oc (n_virtual (M' := M_X6_isSawyer) (idx := 67) (n := 1) (ci := 6) (N := 16) (D := RX6) (T := TX6) (by decide +kernel) fn_X6_isSawyer fv_X6_isSawyer rfl rfl l_X6_67 ⟨by decide, by decide⟩) <|
  nv_oc (n_if_ne (off := 5) (tgt := 10) (by decide +kernel) (by decide)) <|
  nv_oc (n_iconst (z := -1) (by decide +kernel)) <|
  nv_oc (n_iret (by decide +kernel) rfl) <|
  nv_oc (n_aload_n (k := 0) (by decide +kernel)) <|
  nv_oc (n_virtual (M' := M_X6_begin) (idx := 145) (n := 0) (ci := 6) (N := 16) (D := RX6) (T := TX6) (by decide +kernel) fn_X6_begin fv_X6_begin rfl rfl l_X6_145 ⟨by decide, by decide⟩) <|
  nv_oc (n_aload_n (k := 0) (by decide +kernel)) <|
  nv_oc (n_getfield (idx := 26) (ci := 6) (k := 8) (N := 16) (D := RX6) (T := TX6) (by decide +kernel) rfl i_X6 (by decide) (by decide) f_X6_26) <|
  nv_oc (n_bipush (z := 12) (by decide +kernel) (by decide)) <|
  nv_oc (n_iload_n (k := 1) (by decide +kernel)) <|
  nv_oc (n_iadd (by decide +kernel)) <|
  nv_oc (n_bipush (z := -4) (by decide +kernel) (by decide)) <|
  nv_oc (n_iastore (by decide +kernel)) <|
  nv_oc (n_aload_n (k := 0) (by decide +kernel)) <|
  nv_oc (n_virtual (M' := M_X6_noonOf) (idx := 152) (n := 0) (ci := 6) (N := 16) (D := RX6) (T := TX6) (by decide +kernel) fn_X6_noonOf fv_X6_noonOf rfl rfl l_X6_152 ⟨by decide, by decide⟩) <|
  nv_oc (n_iret (by decide +kernel) rfl) <|
  nv_on
def M_X6_thickest : nv_MD := (RX6, yX6_thickest, cX6_thickest, 5, (some .int), 4, 88)
theorem fn_X6_thickest : nv_fn M_X6_thickest 2 := ⟨List.mem_of_getElem? (i := 1021) (by decide +kernel), List.mem_of_getElem? (i := 50) (by decide +kernel), by decide +kernel⟩
theorem fv_X6_thickest : nv_fnV M_X6_thickest := ⟨List.mem_of_getElem? (i := 1019) (by decide +kernel), List.mem_of_getElem? (i := 1020) (by decide +kernel)⟩
def P_X6_thickest : nv_Pg := [(0, s_al 0 1), (1, s_il 1 2), (2, s_cv 6 M_X6_isPlank 1 5), (5, s_if c_eq 18 8), (8, s_il 2 9), (9, s_ki (1) 10), (10, s_ki (40) 12), (12, s_cs M_X6_in 3 15), (15, s_if c_eq 18 20), (18, s_ki (-1) 19), (19, s_ir), (20, s_ki (99) 22), (22, s_is 3 23), (23, s_ki (0) 24), (24, s_is 4 26), (26, s_il 4 28), (28, s_if c_eq 31 73), (31, s_al 0 32), (32, s_cv 6 M_X6_begin 0 35), (35, s_al 0 36), (36, s_gf 6 8 39), (39, s_ki (2) 40), (40, s_il 1 41), (41, s_add 42), (42, s_il 3 43), (43, s_iw 44), (44, s_al 0 45), (45, s_il 2 46), (46, s_cv 6 M_X6_goOn 1 49), (49, s_al 0 50), (50, s_gf 6 8 53), (53, s_ki (2) 54), (54, s_il 1 55), (55, s_add 56), (56, s_ia 57), (57, s_if c_eq 60 64), (60, s_ki (1) 61), (61, s_go 65), (64, s_ki (0) 65), (65, s_is 4 67), (67, s_inc 3 (-1) 70), (70, s_go 26), (73, s_il 3 74), (74, s_ki (1) 75), (75, s_add 76), (76, s_ir)]
set_option maxRecDepth 100000 in
set_option maxHeartbeats 4000000 in
theorem ok_X6_thickest : nv_ok_P M_X6_thickest P_X6_thickest :=
  nv_oc (n_aload_n (k := 0) (by decide +kernel)) <|
  nv_oc (n_iload_n (k := 1) (by decide +kernel)) <|
  nv_oc (n_virtual (M' := M_X6_isPlank) (idx := 56) (n := 1) (ci := 6) (N := 16) (D := RX6) (T := TX6) (by decide +kernel) fn_X6_isPlank fv_X6_isPlank rfl rfl l_X6_56 ⟨by decide, by decide⟩) <|
  nv_oc (n_if_eq (off := 13) (tgt := 18) (by decide +kernel) (by decide)) <|
  nv_oc (n_iload_n (k := 2) (by decide +kernel)) <|
  nv_oc (n_iconst (z := 1) (by decide +kernel)) <|
  nv_oc (n_bipush (z := 40) (by decide +kernel) (by decide)) <|
  nv_oc (n_static (M' := M_X6_in) (idx := 41) (n := 3) (by decide +kernel) fn_X6_in st_X6_in l_X6_41 ⟨by decide, by decide⟩) <|
  nv_oc (n_if_ne (off := 5) (tgt := 20) (by decide +kernel) (by decide)) <|
  nv_oc (n_iconst (z := -1) (by decide +kernel)) <|
  nv_oc (n_iret (by decide +kernel) rfl) <|
  nv_oc (n_bipush (z := 99) (by decide +kernel) (by decide)) <|
  nv_oc (n_istore_n (k := 3) (by decide +kernel) (by decide)) <|
  nv_oc (n_iconst (z := 0) (by decide +kernel)) <|
  nv_oc (n_istore (k := 4) (by decide +kernel) (by decide)) <|
  nv_oc (n_iload (k := 4) (by decide +kernel)) <|
  nv_oc (n_if_ne (off := 45) (tgt := 73) (by decide +kernel) (by decide)) <|
  nv_oc (n_aload_n (k := 0) (by decide +kernel)) <|
  nv_oc (n_virtual (M' := M_X6_begin) (idx := 145) (n := 0) (ci := 6) (N := 16) (D := RX6) (T := TX6) (by decide +kernel) fn_X6_begin fv_X6_begin rfl rfl l_X6_145 ⟨by decide, by decide⟩) <|
  nv_oc (n_aload_n (k := 0) (by decide +kernel)) <|
  nv_oc (n_getfield (idx := 26) (ci := 6) (k := 8) (N := 16) (D := RX6) (T := TX6) (by decide +kernel) rfl i_X6 (by decide) (by decide) f_X6_26) <|
  nv_oc (n_iconst (z := 2) (by decide +kernel)) <|
  nv_oc (n_iload_n (k := 1) (by decide +kernel)) <|
  nv_oc (n_iadd (by decide +kernel)) <|
  nv_oc (n_iload_n (k := 3) (by decide +kernel)) <|
  nv_oc (n_iastore (by decide +kernel)) <|
  nv_oc (n_aload_n (k := 0) (by decide +kernel)) <|
  nv_oc (n_iload_n (k := 2) (by decide +kernel)) <|
  nv_oc (n_virtual (M' := M_X6_goOn) (idx := 148) (n := 1) (ci := 6) (N := 16) (D := RX6) (T := TX6) (by decide +kernel) fn_X6_goOn fv_X6_goOn rfl rfl l_X6_148 ⟨by decide, by decide⟩) <|
  nv_oc (n_aload_n (k := 0) (by decide +kernel)) <|
  nv_oc (n_getfield (idx := 26) (ci := 6) (k := 8) (N := 16) (D := RX6) (T := TX6) (by decide +kernel) rfl i_X6 (by decide) (by decide) f_X6_26) <|
  nv_oc (n_iconst (z := 2) (by decide +kernel)) <|
  nv_oc (n_iload_n (k := 1) (by decide +kernel)) <|
  nv_oc (n_iadd (by decide +kernel)) <|
  nv_oc (n_iaload (by decide +kernel)) <|
  nv_oc (n_if_ne (off := 7) (tgt := 64) (by decide +kernel) (by decide)) <|
  nv_oc (n_iconst (z := 1) (by decide +kernel)) <|
  nv_oc (n_goto (off := 4) (tgt := 65) (by decide +kernel) (by decide)) <|
  nv_oc (n_iconst (z := 0) (by decide +kernel)) <|
  nv_oc (n_istore (k := 4) (by decide +kernel) (by decide)) <|
  nv_oc (n_iinc (k := 3) (d := -1) (by decide +kernel) (by decide)) <|
  nv_oc (n_goto (off := -44) (tgt := 26) (by decide +kernel) (by decide)) <|
  nv_oc (n_iload_n (k := 3) (by decide +kernel)) <|
  nv_oc (n_iconst (z := 1) (by decide +kernel)) <|
  nv_oc (n_iadd (by decide +kernel)) <|
  nv_oc (n_iret (by decide +kernel) rfl) <|
  nv_on
def M_X6_hops : nv_MD := (RX6, yX6_hops, cX6_hops, 9, (some .int), 3, 66)
theorem fn_X6_hops : nv_fn M_X6_hops 3 := ⟨List.mem_of_getElem? (i := 1025) (by decide +kernel), List.mem_of_getElem? (i := 50) (by decide +kernel), by decide +kernel⟩
theorem fv_X6_hops : nv_fnV M_X6_hops := ⟨List.mem_of_getElem? (i := 1023) (by decide +kernel), List.mem_of_getElem? (i := 1024) (by decide +kernel)⟩
def P_X6_hops : nv_Pg := [(0, s_al 0 1), (1, s_il 1 2), (2, s_cv 6 M_X6_isPlank 1 5), (5, s_if c_eq 27 8), (8, s_il 2 9), (9, s_ki (0) 10), (10, s_ki (10) 12), (12, s_cs M_X6_in 3 15), (15, s_if c_eq 27 18), (18, s_il 3 19), (19, s_ki (0) 20), (20, s_ki (1) 21), (21, s_cs M_X6_in 3 24), (24, s_if c_eq 27 29), (27, s_ki (-1) 28), (28, s_ir), (29, s_ki (0) 30), (30, s_is 4 32), (32, s_ki (1) 33), (33, s_is 5 35), (35, s_ki (0) 36), (36, s_is 6 38), (38, s_il 6 40), (40, s_al 0 41), (41, s_gf 6 7 44), (44, s_ki (28) 46), (46, s_ia 47), (47, s_ic c_ge 63 50), (50, s_il 5 52), (52, s_ki (10) 54), (54, s_mul 55), (55, s_is 5 57), (57, s_inc 6 (1) 60), (60, s_go 38), (63, s_ki (0) 64), (64, s_is 6 66), (66, s_il 6 68), (68, s_ki (1) 69), (69, s_al 0 70), (70, s_gf 6 7 73), (73, s_ki (28) 75), (75, s_ia 76), (76, s_sl 77), (77, s_ic c_ge 169 80), (80, s_ki (1) 81), (81, s_is 7 83), (83, s_ki (0) 84), (84, s_is 8 86), (86, s_il 8 88), (88, s_al 0 89), (89, s_gf 6 7 92), (92, s_ki (28) 94), (94, s_ia 95), (95, s_ic c_ge 127 98), (98, s_il 7 100), (100, s_il 6 102), (102, s_il 8 104), (104, s_cs M_X6_has 2 107), (107, s_if c_eq 114 110), (110, s_il 2 111), (111, s_go 118), (114, s_ki (10) 116), (116, s_il 2 117), (117, s_sub 118), (118, s_mul 119), (119, s_is 7 121), (121, s_inc 8 (1) 124), (124, s_go 86), (127, s_al 0 128), (128, s_cv 6 M_X6_begin 0 131), (131, s_al 0 132), (132, s_al 0 133), (133, s_gf 6 8 136), (136, s_il 6 138), (138, s_cv 6 M_X6_hourIn 2 141), (141, s_il 4 143), (143, s_al 0 144), (144, s_gf 6 8 147), (147, s_ki (2) 148), (148, s_il 1 149), (149, s_add 150), (150, s_ia 151), (151, s_if c_eq 154 159), (154, s_il 7 156), (156, s_go 160), (159, s_ki (0) 160), (160, s_add 161), (161, s_is 4 163), (163, s_inc 6 (1) 166), (166, s_go 66), (169, s_il 4 171), (171, s_is 6 173), (173, s_il 5 175), (175, s_is 7 177), (177, s_il 7 179), (179, s_if c_le 200 182), (182, s_il 6 184), (184, s_il 7 186), (186, s_rem 187), (187, s_is 8 189), (189, s_il 7 191), (191, s_is 6 193), (193, s_il 8 195), (195, s_is 7 197), (197, s_go 177), (200, s_il 3 201), (201, s_if c_eq 204 209), (204, s_il 4 206), (206, s_go 211), (209, s_il 5 211), (211, s_il 6 213), (213, s_div 214), (214, s_ir)]
set_option maxRecDepth 100000 in
set_option maxHeartbeats 4000000 in
theorem ok_X6_hops : nv_ok_P M_X6_hops P_X6_hops :=
  nv_oc (n_aload_n (k := 0) (by decide +kernel)) <|
  nv_oc (n_iload_n (k := 1) (by decide +kernel)) <|
  nv_oc (n_virtual (M' := M_X6_isPlank) (idx := 56) (n := 1) (ci := 6) (N := 16) (D := RX6) (T := TX6) (by decide +kernel) fn_X6_isPlank fv_X6_isPlank rfl rfl l_X6_56 ⟨by decide, by decide⟩) <|
  nv_oc (n_if_eq (off := 22) (tgt := 27) (by decide +kernel) (by decide)) <|
  nv_oc (n_iload_n (k := 2) (by decide +kernel)) <|
  nv_oc (n_iconst (z := 0) (by decide +kernel)) <|
  nv_oc (n_bipush (z := 10) (by decide +kernel) (by decide)) <|
  nv_oc (n_static (M' := M_X6_in) (idx := 41) (n := 3) (by decide +kernel) fn_X6_in st_X6_in l_X6_41 ⟨by decide, by decide⟩) <|
  nv_oc (n_if_eq (off := 12) (tgt := 27) (by decide +kernel) (by decide)) <|
  nv_oc (n_iload_n (k := 3) (by decide +kernel)) <|
  nv_oc (n_iconst (z := 0) (by decide +kernel)) <|
  nv_oc (n_iconst (z := 1) (by decide +kernel)) <|
  nv_oc (n_static (M' := M_X6_in) (idx := 41) (n := 3) (by decide +kernel) fn_X6_in st_X6_in l_X6_41 ⟨by decide, by decide⟩) <|
  nv_oc (n_if_ne (off := 5) (tgt := 29) (by decide +kernel) (by decide)) <|
  nv_oc (n_iconst (z := -1) (by decide +kernel)) <|
  nv_oc (n_iret (by decide +kernel) rfl) <|
  nv_oc (n_iconst (z := 0) (by decide +kernel)) <|
  nv_oc (n_istore (k := 4) (by decide +kernel) (by decide)) <|
  nv_oc (n_iconst (z := 1) (by decide +kernel)) <|
  nv_oc (n_istore (k := 5) (by decide +kernel) (by decide)) <|
  nv_oc (n_iconst (z := 0) (by decide +kernel)) <|
  nv_oc (n_istore (k := 6) (by decide +kernel) (by decide)) <|
  nv_oc (n_iload (k := 6) (by decide +kernel)) <|
  nv_oc (n_aload_n (k := 0) (by decide +kernel)) <|
  nv_oc (n_getfield (idx := 23) (ci := 6) (k := 7) (N := 16) (D := RX6) (T := TX6) (by decide +kernel) rfl i_X6 (by decide) (by decide) f_X6_23) <|
  nv_oc (n_bipush (z := 28) (by decide +kernel) (by decide)) <|
  nv_oc (n_iaload (by decide +kernel)) <|
  nv_oc (n_icmp_ge (off := 16) (tgt := 63) (by decide +kernel) (by decide)) <|
  nv_oc (n_iload (k := 5) (by decide +kernel)) <|
  nv_oc (n_bipush (z := 10) (by decide +kernel) (by decide)) <|
  nv_oc (n_imul (by decide +kernel)) <|
  nv_oc (n_istore (k := 5) (by decide +kernel) (by decide)) <|
  nv_oc (n_iinc (k := 6) (d := 1) (by decide +kernel) (by decide)) <|
  nv_oc (n_goto (off := -22) (tgt := 38) (by decide +kernel) (by decide)) <|
  nv_oc (n_iconst (z := 0) (by decide +kernel)) <|
  nv_oc (n_istore (k := 6) (by decide +kernel) (by decide)) <|
  nv_oc (n_iload (k := 6) (by decide +kernel)) <|
  nv_oc (n_iconst (z := 1) (by decide +kernel)) <|
  nv_oc (n_aload_n (k := 0) (by decide +kernel)) <|
  nv_oc (n_getfield (idx := 23) (ci := 6) (k := 7) (N := 16) (D := RX6) (T := TX6) (by decide +kernel) rfl i_X6 (by decide) (by decide) f_X6_23) <|
  nv_oc (n_bipush (z := 28) (by decide +kernel) (by decide)) <|
  nv_oc (n_iaload (by decide +kernel)) <|
  nv_oc (n_ishl (by decide +kernel)) <|
  nv_oc (n_icmp_ge (off := 92) (tgt := 169) (by decide +kernel) (by decide)) <|
  nv_oc (n_iconst (z := 1) (by decide +kernel)) <|
  nv_oc (n_istore (k := 7) (by decide +kernel) (by decide)) <|
  nv_oc (n_iconst (z := 0) (by decide +kernel)) <|
  nv_oc (n_istore (k := 8) (by decide +kernel) (by decide)) <|
  nv_oc (n_iload (k := 8) (by decide +kernel)) <|
  nv_oc (n_aload_n (k := 0) (by decide +kernel)) <|
  nv_oc (n_getfield (idx := 23) (ci := 6) (k := 7) (N := 16) (D := RX6) (T := TX6) (by decide +kernel) rfl i_X6 (by decide) (by decide) f_X6_23) <|
  nv_oc (n_bipush (z := 28) (by decide +kernel) (by decide)) <|
  nv_oc (n_iaload (by decide +kernel)) <|
  nv_oc (n_icmp_ge (off := 32) (tgt := 127) (by decide +kernel) (by decide)) <|
  nv_oc (n_iload (k := 7) (by decide +kernel)) <|
  nv_oc (n_iload (k := 6) (by decide +kernel)) <|
  nv_oc (n_iload (k := 8) (by decide +kernel)) <|
  nv_oc (n_static (M' := M_X6_has) (idx := 121) (n := 2) (by decide +kernel) fn_X6_has st_X6_has l_X6_121 ⟨by decide, by decide⟩) <|
  nv_oc (n_if_eq (off := 7) (tgt := 114) (by decide +kernel) (by decide)) <|
  nv_oc (n_iload_n (k := 2) (by decide +kernel)) <|
  nv_oc (n_goto (off := 7) (tgt := 118) (by decide +kernel) (by decide)) <|
  nv_oc (n_bipush (z := 10) (by decide +kernel) (by decide)) <|
  nv_oc (n_iload_n (k := 2) (by decide +kernel)) <|
  nv_oc (n_isub (by decide +kernel)) <|
  nv_oc (n_imul (by decide +kernel)) <|
  nv_oc (n_istore (k := 7) (by decide +kernel) (by decide)) <|
  nv_oc (n_iinc (k := 8) (d := 1) (by decide +kernel) (by decide)) <|
  nv_oc (n_goto (off := -38) (tgt := 86) (by decide +kernel) (by decide)) <|
  nv_oc (n_aload_n (k := 0) (by decide +kernel)) <|
  nv_oc (n_virtual (M' := M_X6_begin) (idx := 145) (n := 0) (ci := 6) (N := 16) (D := RX6) (T := TX6) (by decide +kernel) fn_X6_begin fv_X6_begin rfl rfl l_X6_145 ⟨by decide, by decide⟩) <|
  nv_oc (n_aload_n (k := 0) (by decide +kernel)) <|
  nv_oc (n_aload_n (k := 0) (by decide +kernel)) <|
  nv_oc (n_getfield (idx := 26) (ci := 6) (k := 8) (N := 16) (D := RX6) (T := TX6) (by decide +kernel) rfl i_X6 (by decide) (by decide) f_X6_26) <|
  nv_oc (n_iload (k := 6) (by decide +kernel)) <|
  nv_oc (n_virtual (M' := M_X6_hourIn) (idx := 134) (n := 2) (ci := 6) (N := 16) (D := RX6) (T := TX6) (by decide +kernel) fn_X6_hourIn fv_X6_hourIn rfl rfl l_X6_134 ⟨by decide, by decide⟩) <|
  nv_oc (n_iload (k := 4) (by decide +kernel)) <|
  nv_oc (n_aload_n (k := 0) (by decide +kernel)) <|
  nv_oc (n_getfield (idx := 26) (ci := 6) (k := 8) (N := 16) (D := RX6) (T := TX6) (by decide +kernel) rfl i_X6 (by decide) (by decide) f_X6_26) <|
  nv_oc (n_iconst (z := 2) (by decide +kernel)) <|
  nv_oc (n_iload_n (k := 1) (by decide +kernel)) <|
  nv_oc (n_iadd (by decide +kernel)) <|
  nv_oc (n_iaload (by decide +kernel)) <|
  nv_oc (n_if_ne (off := 8) (tgt := 159) (by decide +kernel) (by decide)) <|
  nv_oc (n_iload (k := 7) (by decide +kernel)) <|
  nv_oc (n_goto (off := 4) (tgt := 160) (by decide +kernel) (by decide)) <|
  nv_oc (n_iconst (z := 0) (by decide +kernel)) <|
  nv_oc (n_iadd (by decide +kernel)) <|
  nv_oc (n_istore (k := 4) (by decide +kernel) (by decide)) <|
  nv_oc (n_iinc (k := 6) (d := 1) (by decide +kernel) (by decide)) <|
  nv_oc (n_goto (off := -100) (tgt := 66) (by decide +kernel) (by decide)) <|
  nv_oc (n_iload (k := 4) (by decide +kernel)) <|
  nv_oc (n_istore (k := 6) (by decide +kernel) (by decide)) <|
  nv_oc (n_iload (k := 5) (by decide +kernel)) <|
  nv_oc (n_istore (k := 7) (by decide +kernel) (by decide)) <|
  nv_oc (n_iload (k := 7) (by decide +kernel)) <|
  nv_oc (n_if_le (off := 21) (tgt := 200) (by decide +kernel) (by decide)) <|
  nv_oc (n_iload (k := 6) (by decide +kernel)) <|
  nv_oc (n_iload (k := 7) (by decide +kernel)) <|
  nv_oc (n_irem (by decide +kernel)) <|
  nv_oc (n_istore (k := 8) (by decide +kernel) (by decide)) <|
  nv_oc (n_iload (k := 7) (by decide +kernel)) <|
  nv_oc (n_istore (k := 6) (by decide +kernel) (by decide)) <|
  nv_oc (n_iload (k := 8) (by decide +kernel)) <|
  nv_oc (n_istore (k := 7) (by decide +kernel) (by decide)) <|
  nv_oc (n_goto (off := -20) (tgt := 177) (by decide +kernel) (by decide)) <|
  nv_oc (n_iload_n (k := 3) (by decide +kernel)) <|
  nv_oc (n_if_ne (off := 8) (tgt := 209) (by decide +kernel) (by decide)) <|
  nv_oc (n_iload (k := 4) (by decide +kernel)) <|
  nv_oc (n_goto (off := 5) (tgt := 211) (by decide +kernel) (by decide)) <|
  nv_oc (n_iload (k := 5) (by decide +kernel)) <|
  nv_oc (n_iload (k := 6) (by decide +kernel)) <|
  nv_oc (n_idiv (by decide +kernel)) <|
  nv_oc (n_iret (by decide +kernel) rfl) <|
  nv_on
