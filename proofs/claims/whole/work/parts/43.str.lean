/-! ===== String.indexOf: printed by wip/whole/gen_tabj.py (head str_head.txt, tail str_tail.txt by hand) ===== -/
def nv_bt (q : Nat) : Int := [112, 111, 103, 104, 115].getD q 0
section nvStr
variable {M : nv_MD} {pc : Nat}
def s_gs (nx : Nat) : nv_Sem := fun lv stk h _ K => K nx lv (.inl 1 :: stk) h
theorem n_gs {idx : Nat} (hd : decode (nv_c M) pc = .ok (.getstatic idx, 3)) (hw : Cond.fieldLink (nv_own M) idx "java/lang/String" "COMPACT_STRINGS" "Z" ∈ lw_tbl) : nv_Snd M pc (s_gs (pc + 3)) := by
  intro lv stk h Q K hK hf X p l e s m args below meth c H locs ls C hP hD hS hl ho hk
  exact va_gets (C := "java/lang/String") (v := .int 1) C.1 C.2.1 C.2.2.2.2.2.2.2.2.2.2.2.2 hS C.2.2.2.2.2.1 (C.2.2.2.2.2.2.1 _ (nv_in hw rfl)) (fun _ q => q) hd (hK _ _ _ _ hf X p l e s m args below meth c H locs ls C hP hD hS hl ho (List.forall_mem_cons.mpr ⟨trivial, hk⟩))
def s_gc (nx : Nat) : nv_Sem := fun lv stk h _ K => match stk with
  | .inr (.inl (30, 0)) :: r => K nx lv (.inl 0 :: r) h
  | _ => False
theorem n_gc {idx : Nat} (hd : decode (nv_c M) pc = .ok (.getfield idx, 3)) (hw : Cond.fieldLink (nv_own M) idx "java/lang/String" "coder" "B" ∈ lw_tbl) : nv_Snd M pc (s_gc (pc + 3)) := by
  intro lv stk h Q K hK hf X p l e s m args below meth c H locs ls C hP hD hS hl ho hk
  unfold s_gc at hf
  split at hf
  · next r =>
    exact vk_getf (o := "java/lang/String") (v := .int 0) C.1 C.2.1 (C.2.2.2.2.2.2.2.2.2.2.2.1.1 0 (by decide)).2.1 hS C.2.2.2.2.2.1 (C.2.2.2.2.2.2.1 _ (nv_in hw rfl)) (fun _ q => q) hd (hK _ _ _ _ hf X p l e s m args below meth c H locs ls C hP hD hS hl ho (List.forall_mem_cons.mpr ⟨trivial, (List.forall_mem_cons.mp hk).2⟩))
  · exact hf.elim
def s_gvl (nx : Nat) : nv_Sem := fun lv stk h _ K => match stk with
  | .inr (.inl (30, 0)) :: r => K nx lv (.inr (.inl (31, 0)) :: r) h
  | _ => False
theorem n_gvl {idx : Nat} (hd : decode (nv_c M) pc = .ok (.getfield idx, 3)) (hw : Cond.fieldLink (nv_own M) idx "java/lang/String" "value" "[B" ∈ lw_tbl) : nv_Snd M pc (s_gvl (pc + 3)) := by
  intro lv stk h Q K hK hf X p l e s m args below meth c H locs ls C hP hD hS hl ho hk
  unfold s_gvl at hf
  split at hf
  · next r =>
    exact vk_getf (o := "java/lang/String") (v := .ref (X.2.1 31 0)) C.1 C.2.1 (C.2.2.2.2.2.2.2.2.2.2.2.1.1 0 (by decide)).2.2.1 hS C.2.2.2.2.2.1 (C.2.2.2.2.2.2.1 _ (nv_in hw rfl)) (fun _ q => q) hd (hK _ _ _ _ hf X p l e s m args below meth c H locs ls C hP hD hS hl ho (List.forall_mem_cons.mpr ⟨Or.inr (Or.inr rfl), (List.forall_mem_cons.mp hk).2⟩))
  · exact hf.elim
def s_bl (nx : Nat) : nv_Sem := fun lv stk h _ K => match stk with
  | .inr (.inl (31, 0)) :: r => K nx lv (.inl 5 :: r) h
  | _ => False
theorem n_bl (hd : decode (nv_c M) pc = .ok (.arraylength, 1)) : nv_Snd M pc (s_bl (pc + 1)) := by
  intro lv stk h Q K hK hf X p l e s m args below meth c H locs ls C hP hD hS hl ho hk
  unfold s_bl at hf
  split at hf
  · next r =>
    exact va_tlen (v := Int32.ofInt 5) C.1 C.2.1 (C.2.2.2.2.2.2.2.2.2.2.2.1.1 0 (by decide)).2.2.2 hS rfl hd (hK _ _ _ _ hf X p l e s m args below meth c H locs ls C hP hD hS hl ho (List.forall_mem_cons.mpr ⟨trivial, (List.forall_mem_cons.mp hk).2⟩))
  · exact hf.elim
theorem nv_bt_v {q : Nat} (hq : q < 5) : (Value.int ((([[112, 111, 103, 104, 115]] : List (List Int32)).getD 0 []).getD q 0)) = .int (Int32.ofInt (nv_bt q)) := by
  have : q = 0 ∨ q = 1 ∨ q = 2 ∨ q = 3 ∨ q = 4 := by omega
  rcases this with rfl | rfl | rfl | rfl | rfl <;> rfl
def s_ba (nx : Nat) : nv_Sem := fun lv stk h _ K => match stk with
  | .inl j :: .inr (.inl (31, 0)) :: r => ∃ q : Nat, j = (q : Int) ∧ q < 5 ∧ K nx lv (.inl (nv_bt q) :: r) h
  | _ => False
theorem n_ba (hd : decode (nv_c M) pc = .ok (.baload, 1)) : nv_Snd M pc (s_ba (pc + 1)) := by
  intro lv stk h Q K hK hf X p l e s m args below meth c H locs ls C hP hD hS hl ho hk
  unfold s_ba at hf
  split at hf
  · next j r =>
    obtain ⟨q, rfl, hqn, hf⟩ := hf
    have hk2 := (List.forall_mem_cons.mp hk).2
    refine va_tb (v := .int (Int32.ofInt (nv_bt q))) C.1 C.2.1 (C.2.2.2.2.2.2.2.2.2.2.2.1.1 0 (by decide)).2.2.2 hS (nv_vin hqn (by decide)) (by rw [nv_clamp (by omega)]; exact nv_bt_v hqn) hd ?_
    exact hK _ _ _ _ hf X p l e s m args below meth c H locs ls C hP hD hS hl ho (List.forall_mem_cons.mpr ⟨trivial, (List.forall_mem_cons.mp hk2).2⟩)
  · exact hf.elim
def s_br : nv_Sem := fun _ stk h Q _ => match stk with
  | [.inl z] => z = 0 ∧ Q (some (.inl z)) h
  | _ => False
theorem n_bret (hd : decode (nv_c M) pc = .ok (.ireturn, 1)) (hr : nv_ret M = some .byte) : nv_Snd M pc s_br := by
  intro lv stk h Q K hK hf X p l e s m args below meth c H locs ls C hP hD hS hl ho hk
  unfold s_br at hf
  split at hf
  · next z =>
    obtain ⟨hz, hf⟩ := hf
    refine W.zret C.1 C.2.1 (C.2.2.1.trans hr) ?_ (fun t ht _ => ⟨⟨some (.inl z), h, rfl, fun v hv => by cases hv; trivial, hf, by rw [ht]; exact hP, hD⟩, hS.F ht⟩) hS.2.2 hd C.2.2.2.2.1
    rw [hz]
    rfl
  · exact hf.elim
end nvStr
theorem f_J0_38 : Cond.fieldLink RJ0 38 "java/lang/String" "COMPACT_STRINGS" "Z" ∈ lw_tbl := List.mem_of_getElem? (i := 377) (by decide +kernel)
theorem f_J0_15 : Cond.fieldLink RJ0 15 "java/lang/String" "coder" "B" ∈ lw_tbl := List.mem_of_getElem? (i := 1076) (by decide +kernel)
theorem f_J0_9 : Cond.fieldLink RJ0 9 "java/lang/String" "value" "[B" ∈ lw_tbl := List.mem_of_getElem? (i := 1077) (by decide +kernel)
theorem l_J0_335 : Cond.methodLink RJ0 335 yJ0_coder_7d493 ∈ lw_tbl := List.mem_of_getElem? (i := 383) (by decide +kernel)
theorem l_J1_88 : Cond.methodLink RJ1 88 yJ1_canEncode_9a6ad ∈ lw_tbl := List.mem_of_getElem? (i := 390) (by decide +kernel)
theorem l_J1_92 : Cond.methodLink RJ1 92 Lib.Math.max.name ∈ lw_tbl := List.mem_of_getElem? (i := 393) (by decide +kernel)
theorem l_J1_38 : Cond.methodLink RJ1 38 Lib.Math.min.name ∈ lw_tbl := List.mem_of_getElem? (i := 396) (by decide +kernel)
theorem l_J1_95 : Cond.methodLink RJ1 95 yJ1_indexOfChar_4cfef ∈ lw_tbl := List.mem_of_getElem? (i := 399) (by decide +kernel)
theorem l_J0_492 : Cond.methodLink RJ0 492 yJ0_isLatin1_aae02 ∈ lw_tbl := List.mem_of_getElem? (i := 373) (by decide +kernel)
theorem l_J0_505 : Cond.methodLink RJ0 505 yJ0_length_8abf5 ∈ lw_tbl := List.mem_of_getElem? (i := 379) (by decide +kernel)
theorem l_J0_637 : Cond.methodLink RJ0 637 yJ1_indexOf_4cfef ∈ lw_tbl := List.mem_of_getElem? (i := 387) (by decide +kernel)
theorem l_J0_633 : Cond.methodLink RJ0 633 yJ0_indexOf_7cf53 ∈ lw_tbl := List.mem_of_getElem? (i := 369) (by decide +kernel)
def M_J0_coder_7d493 : nv_MD := (RJ0, yJ0_coder_7d493, cJ0_coder_7d493, 1, (some .byte), 0, 0)
theorem fn_J0_coder_7d493 : nv_fn M_J0_coder_7d493 0 := ⟨List.mem_of_getElem? (i := 386) (by decide +kernel), List.mem_of_getElem? (i := 51) (by decide +kernel), by decide +kernel⟩
theorem fv_J0_coder_7d493 : nv_fnV M_J0_coder_7d493 := ⟨List.mem_of_getElem? (i := 384) (by decide +kernel), List.mem_of_getElem? (i := 385) (by decide +kernel)⟩
def P_J0_coder_7d493 : nv_Pg := [(0, s_gs 3), (3, s_if c_eq 13 6), (6, s_al 0 7), (7, s_gc 10), (10, s_go 14), (13, s_ki (1) 14), (14, s_br)]
set_option maxRecDepth 100000 in
set_option maxHeartbeats 4000000 in
theorem ok_J0_coder_7d493 : nv_ok_P M_J0_coder_7d493 P_J0_coder_7d493 :=
  nv_oc (n_gs (idx := 38) (by decide +kernel) f_J0_38) <|
  nv_oc (n_if_eq (off := 10) (tgt := 13) (by decide +kernel) (by decide)) <|
  nv_oc (n_aload_n (k := 0) (by decide +kernel)) <|
  nv_oc (n_gc (idx := 15) (by decide +kernel) f_J0_15) <|
  nv_oc (n_goto (off := 4) (tgt := 14) (by decide +kernel) (by decide)) <|
  nv_oc (n_iconst (z := 1) (by decide +kernel)) <|
  nv_oc (n_bret (by decide +kernel) rfl) <|
  nv_on
def M_J0_length_8abf5 : nv_MD := (RJ0, yJ0_length_8abf5, cJ0_length_8abf5, 1, (some .int), 1, 20)
theorem fn_J0_length_8abf5 : nv_fn M_J0_length_8abf5 0 := ⟨List.mem_of_getElem? (i := 382) (by decide +kernel), List.mem_of_getElem? (i := 51) (by decide +kernel), by decide +kernel⟩
theorem fv_J0_length_8abf5 : nv_fnV M_J0_length_8abf5 := ⟨List.mem_of_getElem? (i := 380) (by decide +kernel), List.mem_of_getElem? (i := 381) (by decide +kernel)⟩
def P_J0_length_8abf5 : nv_Pg := [(0, s_al 0 1), (1, s_gvl 4), (4, s_bl 5), (5, s_al 0 6), (6, s_cS M_J0_coder_7d493 0 9), (9, s_sr 10), (10, s_ir)]
set_option maxRecDepth 100000 in
set_option maxHeartbeats 4000000 in
theorem ok_J0_length_8abf5 : nv_ok_P M_J0_length_8abf5 P_J0_length_8abf5 :=
  nv_oc (n_aload_n (k := 0) (by decide +kernel)) <|
  nv_oc (n_gvl (idx := 9) (by decide +kernel) f_J0_9) <|
  nv_oc (n_bl (by decide +kernel)) <|
  nv_oc (n_aload_n (k := 0) (by decide +kernel)) <|
  nv_oc (n_virtualS (M' := M_J0_coder_7d493) (idx := 335) (n := 0) (by decide +kernel) fn_J0_coder_7d493 fv_J0_coder_7d493 rfl l_J0_335 ⟨by decide, by decide⟩) <|
  nv_oc (n_ishr (by decide +kernel)) <|
  nv_oc (n_iret (by decide +kernel) rfl) <|
  nv_on
def M_J0_isLatin1_aae02 : nv_MD := (RJ0, yJ0_isLatin1_aae02, cJ0_isLatin1_aae02, 1, (some .boolean), 0, 0)
theorem fn_J0_isLatin1_aae02 : nv_fn M_J0_isLatin1_aae02 0 := ⟨List.mem_of_getElem? (i := 376) (by decide +kernel), List.mem_of_getElem? (i := 51) (by decide +kernel), by decide +kernel⟩
theorem fv_J0_isLatin1_aae02 : nv_fnV M_J0_isLatin1_aae02 := ⟨List.mem_of_getElem? (i := 374) (by decide +kernel), List.mem_of_getElem? (i := 375) (by decide +kernel)⟩
def P_J0_isLatin1_aae02 : nv_Pg := [(0, s_gs 3), (3, s_if c_eq 17 6), (6, s_al 0 7), (7, s_gc 10), (10, s_if c_eq 13 17), (13, s_ki (1) 14), (14, s_go 18), (17, s_ki (0) 18), (18, s_zr)]
set_option maxRecDepth 100000 in
set_option maxHeartbeats 4000000 in
theorem ok_J0_isLatin1_aae02 : nv_ok_P M_J0_isLatin1_aae02 P_J0_isLatin1_aae02 :=
  nv_oc (n_gs (idx := 38) (by decide +kernel) f_J0_38) <|
  nv_oc (n_if_eq (off := 14) (tgt := 17) (by decide +kernel) (by decide)) <|
  nv_oc (n_aload_n (k := 0) (by decide +kernel)) <|
  nv_oc (n_gc (idx := 15) (by decide +kernel) f_J0_15) <|
  nv_oc (n_if_ne (off := 7) (tgt := 17) (by decide +kernel) (by decide)) <|
  nv_oc (n_iconst (z := 1) (by decide +kernel)) <|
  nv_oc (n_goto (off := 4) (tgt := 18) (by decide +kernel) (by decide)) <|
  nv_oc (n_iconst (z := 0) (by decide +kernel)) <|
  nv_oc (n_zret (by decide +kernel) rfl) <|
  nv_on
def M_J1_canEncode_9a6ad : nv_MD := (RJ1, yJ1_canEncode_9a6ad, cJ1_canEncode_9a6ad, 1, (some .boolean), 0, 0)
theorem fn_J1_canEncode_9a6ad : nv_fn M_J1_canEncode_9a6ad 1 := ⟨List.mem_of_getElem? (i := 392) (by decide +kernel), List.mem_of_getElem? (i := 52) (by decide +kernel), by decide +kernel⟩
theorem st_J1_canEncode_9a6ad : Cond.static (nv_y M_J1_canEncode_9a6ad) ∈ lw_tbl := List.mem_of_getElem? (i := 391) (by decide +kernel)
def P_J1_canEncode_9a6ad : nv_Pg := [(0, s_il 0 1), (1, s_if c_lt 15 4), (4, s_il 0 5), (5, s_ki (255) 8), (8, s_ic c_gt 15 11), (11, s_ki (1) 12), (12, s_go 16), (15, s_ki (0) 16), (16, s_zr)]
set_option maxRecDepth 100000 in
set_option maxHeartbeats 4000000 in
theorem ok_J1_canEncode_9a6ad : nv_ok_P M_J1_canEncode_9a6ad P_J1_canEncode_9a6ad :=
  nv_oc (n_iload_n (k := 0) (by decide +kernel)) <|
  nv_oc (n_if_lt (off := 14) (tgt := 15) (by decide +kernel) (by decide)) <|
  nv_oc (n_iload_n (k := 0) (by decide +kernel)) <|
  nv_oc (n_sipush (z := 255) (by decide +kernel) (by decide)) <|
  nv_oc (n_icmp_gt (off := 7) (tgt := 15) (by decide +kernel) (by decide)) <|
  nv_oc (n_iconst (z := 1) (by decide +kernel)) <|
  nv_oc (n_goto (off := 4) (tgt := 16) (by decide +kernel) (by decide)) <|
  nv_oc (n_iconst (z := 0) (by decide +kernel)) <|
  nv_oc (n_zret (by decide +kernel) rfl) <|
  nv_on
def M_J1_indexOfChar_4cfef : nv_MD := (RJ1, yJ1_indexOfChar_4cfef, cJ1_indexOfChar_4cfef, 6, (some .int), 0, 0)
theorem fn_J1_indexOfChar_4cfef : nv_fn M_J1_indexOfChar_4cfef 4 := ⟨List.mem_of_getElem? (i := 401) (by decide +kernel), List.mem_of_getElem? (i := 52) (by decide +kernel), by decide +kernel⟩
theorem st_J1_indexOfChar_4cfef : Cond.static (nv_y M_J1_indexOfChar_4cfef) ∈ lw_tbl := List.mem_of_getElem? (i := 400) (by decide +kernel)
def P_J1_indexOfChar_4cfef : nv_Pg := [(0, s_il 1 1), (1, s_u1 nv_b8 2), (2, s_is 4 4), (4, s_il 2 5), (5, s_is 5 7), (7, s_il 5 9), (9, s_il 3 10), (10, s_ic c_ge 31 13), (13, s_al 0 14), (14, s_il 5 16), (16, s_ba 17), (17, s_il 4 19), (19, s_ic c_eq 22 25), (22, s_il 5 24), (24, s_ir), (25, s_inc 5 (1) 28), (28, s_go 7), (31, s_ki (-1) 32), (32, s_ir)]
set_option maxRecDepth 100000 in
set_option maxHeartbeats 4000000 in
theorem ok_J1_indexOfChar_4cfef : nv_ok_P M_J1_indexOfChar_4cfef P_J1_indexOfChar_4cfef :=
  nv_oc (n_iload_n (k := 1) (by decide +kernel)) <|
  nv_oc (n_i2b (by decide +kernel)) <|
  nv_oc (n_istore (k := 4) (by decide +kernel) (by decide)) <|
  nv_oc (n_iload_n (k := 2) (by decide +kernel)) <|
  nv_oc (n_istore (k := 5) (by decide +kernel) (by decide)) <|
  nv_oc (n_iload (k := 5) (by decide +kernel)) <|
  nv_oc (n_iload_n (k := 3) (by decide +kernel)) <|
  nv_oc (n_icmp_ge (off := 21) (tgt := 31) (by decide +kernel) (by decide)) <|
  nv_oc (n_aload_n (k := 0) (by decide +kernel)) <|
  nv_oc (n_iload (k := 5) (by decide +kernel)) <|
  nv_oc (n_ba (by decide +kernel)) <|
  nv_oc (n_iload (k := 4) (by decide +kernel)) <|
  nv_oc (n_icmp_ne (off := 6) (tgt := 25) (by decide +kernel) (by decide)) <|
  nv_oc (n_iload (k := 5) (by decide +kernel)) <|
  nv_oc (n_iret (by decide +kernel) rfl) <|
  nv_oc (n_iinc (k := 5) (d := 1) (by decide +kernel) (by decide)) <|
  nv_oc (n_goto (off := -21) (tgt := 7) (by decide +kernel) (by decide)) <|
  nv_oc (n_iconst (z := -1) (by decide +kernel)) <|
  nv_oc (n_iret (by decide +kernel) rfl) <|
  nv_on
def M_J1_indexOf_4cfef : nv_MD := (RJ1, yJ1_indexOf_4cfef, cJ1_indexOf_4cfef, 4, (some .int), 1, 25)
theorem fn_J1_indexOf_4cfef : nv_fn M_J1_indexOf_4cfef 4 := ⟨List.mem_of_getElem? (i := 389) (by decide +kernel), List.mem_of_getElem? (i := 52) (by decide +kernel), by decide +kernel⟩
theorem st_J1_indexOf_4cfef : Cond.static (nv_y M_J1_indexOf_4cfef) ∈ lw_tbl := List.mem_of_getElem? (i := 388) (by decide +kernel)
def P_J1_indexOf_4cfef : nv_Pg := [(0, s_il 1 1), (1, s_cs M_J1_canEncode_9a6ad 1 4), (4, s_if c_eq 7 9), (7, s_ki (-1) 8), (8, s_ir), (9, s_il 2 10), (10, s_ki (0) 11), (11, s_max 14), (14, s_is 2 15), (15, s_il 3 16), (16, s_al 0 17), (17, s_bl 18), (18, s_min 21), (21, s_is 3 22), (22, s_il 2 23), (23, s_il 3 24), (24, s_ic c_lt 29 27), (27, s_ki (-1) 28), (28, s_ir), (29, s_al 0 30), (30, s_il 1 31), (31, s_il 2 32), (32, s_il 3 33), (33, s_cs M_J1_indexOfChar_4cfef 4 36), (36, s_ir)]
set_option maxRecDepth 100000 in
set_option maxHeartbeats 4000000 in
theorem ok_J1_indexOf_4cfef : nv_ok_P M_J1_indexOf_4cfef P_J1_indexOf_4cfef :=
  nv_oc (n_iload_n (k := 1) (by decide +kernel)) <|
  nv_oc (n_static (M' := M_J1_canEncode_9a6ad) (idx := 88) (n := 1) (by decide +kernel) fn_J1_canEncode_9a6ad st_J1_canEncode_9a6ad l_J1_88 ⟨by decide, by decide⟩) <|
  nv_oc (n_if_ne (off := 5) (tgt := 9) (by decide +kernel) (by decide)) <|
  nv_oc (n_iconst (z := -1) (by decide +kernel)) <|
  nv_oc (n_iret (by decide +kernel) rfl) <|
  nv_oc (n_iload_n (k := 2) (by decide +kernel)) <|
  nv_oc (n_iconst (z := 0) (by decide +kernel)) <|
  nv_oc (n_max (idx := 92) (by decide +kernel) l_J1_92 (by decide) (by decide)) <|
  nv_oc (n_istore_n (k := 2) (by decide +kernel) (by decide)) <|
  nv_oc (n_iload_n (k := 3) (by decide +kernel)) <|
  nv_oc (n_aload_n (k := 0) (by decide +kernel)) <|
  nv_oc (n_bl (by decide +kernel)) <|
  nv_oc (n_min (idx := 38) (by decide +kernel) l_J1_38 (by decide) (by decide)) <|
  nv_oc (n_istore_n (k := 3) (by decide +kernel) (by decide)) <|
  nv_oc (n_iload_n (k := 2) (by decide +kernel)) <|
  nv_oc (n_iload_n (k := 3) (by decide +kernel)) <|
  nv_oc (n_icmp_lt (off := 5) (tgt := 29) (by decide +kernel) (by decide)) <|
  nv_oc (n_iconst (z := -1) (by decide +kernel)) <|
  nv_oc (n_iret (by decide +kernel) rfl) <|
  nv_oc (n_aload_n (k := 0) (by decide +kernel)) <|
  nv_oc (n_iload_n (k := 1) (by decide +kernel)) <|
  nv_oc (n_iload_n (k := 2) (by decide +kernel)) <|
  nv_oc (n_iload_n (k := 3) (by decide +kernel)) <|
  nv_oc (n_static (M' := M_J1_indexOfChar_4cfef) (idx := 95) (n := 4) (by decide +kernel) fn_J1_indexOfChar_4cfef st_J1_indexOfChar_4cfef l_J1_95 ⟨by decide, by decide⟩) <|
  nv_oc (n_iret (by decide +kernel) rfl) <|
  nv_on
def M_J0_indexOf_7cf53 : nv_MD := (RJ0, yJ0_indexOf_7cf53, cJ0_indexOf_7cf53, 3, (some .int), 2, 48)
theorem fn_J0_indexOf_7cf53 : nv_fn M_J0_indexOf_7cf53 2 := ⟨List.mem_of_getElem? (i := 372) (by decide +kernel), List.mem_of_getElem? (i := 51) (by decide +kernel), by decide +kernel⟩
theorem fv_J0_indexOf_7cf53 : nv_fnV M_J0_indexOf_7cf53 := ⟨List.mem_of_getElem? (i := 370) (by decide +kernel), List.mem_of_getElem? (i := 371) (by decide +kernel)⟩
def P_J0_indexOf_7cf53 : nv_Pg := [(0, s_al 0 1), (1, s_cS M_J0_isLatin1_aae02 0 4), (4, s_if c_eq 23 7), (7, s_al 0 8), (8, s_gvl 11), (11, s_il 1 12), (12, s_il 2 13), (13, s_al 0 14), (14, s_cS M_J0_length_8abf5 0 17), (17, s_cs M_J1_indexOf_4cfef 4 20), (20, s_go 36), (36, s_ir)]
set_option maxRecDepth 100000 in
set_option maxHeartbeats 4000000 in
theorem ok_J0_indexOf_7cf53 : nv_ok_P M_J0_indexOf_7cf53 P_J0_indexOf_7cf53 :=
  nv_oc (n_aload_n (k := 0) (by decide +kernel)) <|
  nv_oc (n_virtualS (M' := M_J0_isLatin1_aae02) (idx := 492) (n := 0) (by decide +kernel) fn_J0_isLatin1_aae02 fv_J0_isLatin1_aae02 rfl l_J0_492 ⟨by decide, by decide⟩) <|
  nv_oc (n_if_eq (off := 19) (tgt := 23) (by decide +kernel) (by decide)) <|
  nv_oc (n_aload_n (k := 0) (by decide +kernel)) <|
  nv_oc (n_gvl (idx := 9) (by decide +kernel) f_J0_9) <|
  nv_oc (n_iload_n (k := 1) (by decide +kernel)) <|
  nv_oc (n_iload_n (k := 2) (by decide +kernel)) <|
  nv_oc (n_aload_n (k := 0) (by decide +kernel)) <|
  nv_oc (n_virtualS (M' := M_J0_length_8abf5) (idx := 505) (n := 0) (by decide +kernel) fn_J0_length_8abf5 fv_J0_length_8abf5 rfl l_J0_505 ⟨by decide, by decide⟩) <|
  nv_oc (n_static (M' := M_J1_indexOf_4cfef) (idx := 637) (n := 4) (by decide +kernel) fn_J1_indexOf_4cfef st_J1_indexOf_4cfef l_J0_637 ⟨by decide, by decide⟩) <|
  nv_oc (n_goto (off := 16) (tgt := 36) (by decide +kernel) (by decide)) <|
  nv_oc (n_iret (by decide +kernel) rfl) <|
  nv_on
def P_J0_indexOf_0f7a4 : nv_Pg := [(0, s_al 0 1), (1, s_il 1 2), (2, s_ki (0) 3), (3, s_cS M_J0_indexOf_7cf53 2 6), (6, s_ir)]
set_option maxRecDepth 100000 in
set_option maxHeartbeats 4000000 in
theorem ok_J0_indexOf_0f7a4 : nv_ok_P M_J0_indexOf_0f7a4 P_J0_indexOf_0f7a4 :=
  nv_oc (n_aload_n (k := 0) (by decide +kernel)) <|
  nv_oc (n_iload_n (k := 1) (by decide +kernel)) <|
  nv_oc (n_iconst (z := 0) (by decide +kernel)) <|
  nv_oc (n_virtualS (M' := M_J0_indexOf_7cf53) (idx := 633) (n := 2) (by decide +kernel) fn_J0_indexOf_7cf53 fv_J0_indexOf_7cf53 rfl l_J0_633 ⟨by decide, by decide⟩) <|
  nv_oc (n_iret (by decide +kernel) rfl) <|
  nv_on
/-! what they do -/
def t_kind (c : Int) : Int := if c = 112 then 0 else if c = 111 then 1 else if c = 103 then 2 else if c = 104 then 3 else if c = 115 then 4 else -1
section nvStr2
variable {h : nv_St}
theorem r_coder : nv_R M_J0_coder_7d493 [vr 30 0] h (fun r h' => h' = h ∧ r = some (vi 0)) := by
  refine nv_R.of (by decide +kernel) rfl (Nat.le_of_ble_eq_true rfl) ?_
  refine nv_go ok_J0_coder_7d493 [] 30 ?_
  refine w_if (by omega) (fun c => absurd c (by decide)) (fun _ => ?_)
  exact And.intro rfl ⟨rfl, rfl⟩
theorem r_length : nv_R M_J0_length_8abf5 [vr 30 0] h (fun r h' => h' = h ∧ r = some (vi 5)) := by
  refine nv_R.of (by decide +kernel) rfl (Nat.le_of_ble_eq_true rfl) ?_
  refine nv_go ok_J0_length_8abf5 [] 30 ?_
  refine w_call r_coder (fun r h' hr => ?_)
  obtain ⟨rfl, rfl⟩ := hr
  refine w_sr (by omega) 0 rfl (by decide) ?_
  exact ⟨rfl, rfl⟩
theorem r_isLatin1 : nv_R M_J0_isLatin1_aae02 [vr 30 0] h (fun r h' => h' = h ∧ r = some (vi 1)) := by
  refine nv_R.of (by decide +kernel) rfl (Nat.le_of_ble_eq_true rfl) ?_
  refine nv_go ok_J0_isLatin1_aae02 [] 30 ?_
  refine w_if (by omega) (fun c => absurd c (by decide)) (fun _ => ?_)
  refine w_if (by omega) (fun _ => ?_) (fun c => absurd rfl c)
  exact And.intro (Or.inr rfl) ⟨rfl, rfl⟩
theorem r_canEncode {c : Int} (hc : 0 ≤ c ∧ c ≤ 126) : nv_R M_J1_canEncode_9a6ad [vi c] h (fun r h' => h' = h ∧ r = some (vi 1)) := by
  refine nv_R.of (by decide +kernel) rfl (Nat.le_of_ble_eq_true rfl) ?_
  refine nv_go ok_J1_canEncode_9a6ad [] 30 ?_
  refine w_if (by omega) (fun q => absurd q (by show ¬ c < 0; omega)) (fun _ => ?_)
  refine w_ic (by omega) (by omega) (fun q => absurd q (by show ¬ 255 < c; omega)) (fun _ => ?_)
  exact And.intro (Or.inr rfl) ⟨rfl, rfl⟩
theorem nv_b8_id {c : Int} (hc : 0 ≤ c ∧ c ≤ 126) : nv_b8 c = c := by
  unfold nv_b8
  exact Int8.toInt_ofInt_of_le (by omega) (by omega)
theorem r_indexOfChar {c : Int} (hc : 0 ≤ c ∧ c ≤ 126) : nv_R M_J1_indexOfChar_4cfef [vr 31 0, vi c, vi 0, vi 5] h (fun r h' => h' = h ∧ r = some (vi (t_kind c))) := by
  refine nv_R.of (by decide +kernel) rfl (Nat.le_of_ble_eq_true rfl) ?_
  have loop := m_down (n := 5) (G := fun k => ∀ (j z : Int), j = k → z = c → (∀ q, q < k → ¬ nv_bt q = c) → nv_V M_J1_indexOfChar_4cfef 7 [(0, vr 31 0), (1, vi c), (2, vi 0), (3, vi 5), (4, vi z), (5, vi j)] [] h (fun r h' => h' = h ∧ r = some (vi (t_kind c)))) ?_ ?_
  · refine nv_go ok_J1_indexOfChar_4cfef [7] 20 ?_
    exact loop 0 (by omega) _ _ rfl (nv_b8_id hc) (fun q hq => absurd hq (by omega))
  · intro j z hj hz hno
    refine nv_go ok_J1_indexOfChar_4cfef [7] 20 ?_
    refine w_ic (by omega) (by omega) (fun q => ?_) (fun q => absurd (by show (5 : Int) ≤ j; omega) q)
    refine ⟨rfl, ?_⟩
    have n0 : ¬ (112 : Int) = c := hno 0 (by omega)
    have n1 : ¬ (111 : Int) = c := hno 1 (by omega)
    have n2 : ¬ (103 : Int) = c := hno 2 (by omega)
    have n3 : ¬ (104 : Int) = c := hno 3 (by omega)
    have n4 : ¬ (115 : Int) = c := hno 4 (by omega)
    unfold t_kind
    rw [if_neg (by omega), if_neg (by omega), if_neg (by omega), if_neg (by omega), if_neg (by omega)]
  · intro k hk ih j z hj hz hno
    have hbr : 0 ≤ nv_bt k ∧ nv_bt k ≤ 126 := by
      have : k = 0 ∨ k = 1 ∨ k = 2 ∨ k = 3 ∨ k = 4 := by omega
      rcases this with rfl | rfl | rfl | rfl | rfl <;> decide
    refine nv_go ok_J1_indexOfChar_4cfef [7] 20 ?_
    refine w_ic (by omega) (by omega) (fun q => absurd q (by show ¬ (5 : Int) ≤ j; omega)) (fun _ => ?_)
    refine w_ix k hj hk ?_
    refine w_ic (by omega) (by omega) (fun q => ?_) (fun q => ?_)
    · have q : nv_bt k = z := q
      refine ⟨rfl, ?_⟩
      have : k = 0 ∨ k = 1 ∨ k = 2 ∨ k = 3 ∨ k = 4 := by omega
      rw [hj]
      rcases this with rfl | rfl | rfl | rfl | rfl
      · have q : (112 : Int) = z := q
        rw [← hz, ← q]; rfl
      · have q : (111 : Int) = z := q
        rw [← hz, ← q]; rfl
      · have q : (103 : Int) = z := q
        rw [← hz, ← q]; rfl
      · have q : (104 : Int) = z := q
        rw [← hz, ← q]; rfl
      · have q : (115 : Int) = z := q
        rw [← hz, ← q]; rfl
    · have q : ¬ nv_bt k = z := q
      refine ih _ _ (by omega) hz (fun x hx => ?_)
      by_cases e : x = k
      · rw [e, ← hz]; exact q
      · exact hno x (by omega)
theorem r_indexOf1 {c : Int} (hc : 0 ≤ c ∧ c ≤ 126) : nv_R M_J1_indexOf_4cfef [vr 31 0, vi c, vi 0, vi 5] h (fun r h' => h' = h ∧ r = some (vi (t_kind c))) := by
  refine nv_R.of (by decide +kernel) rfl (Nat.le_of_ble_eq_true rfl) ?_
  refine nv_go ok_J1_indexOf_4cfef [] 40 ?_
  refine w_call (r_canEncode hc) (fun r h' hr => ?_)
  obtain ⟨rfl, rfl⟩ := hr
  refine w_if (by omega) (fun q => absurd q (by decide)) (fun _ => ?_)
  refine w_mx (by omega) (by omega) ?_
  refine w_mx (by omega) (by omega) ?_
  refine w_ic (by decide) (by decide) (fun _ => ?_) (fun q => absurd (by decide) q)
  refine w_call (r_indexOfChar hc) (fun r h' hr => ?_)
  obtain ⟨rfl, rfl⟩ := hr
  exact ⟨rfl, rfl⟩
theorem r_indexOf2 {c : Int} (hc : 0 ≤ c ∧ c ≤ 126) : nv_R M_J0_indexOf_7cf53 [vr 30 0, vi c, vi 0] h (fun r h' => h' = h ∧ r = some (vi (t_kind c))) := by
  refine nv_R.of (by decide +kernel) rfl (Nat.le_of_ble_eq_true rfl) ?_
  refine nv_go ok_J0_indexOf_7cf53 [] 40 ?_
  refine w_call r_isLatin1 (fun r h' hr => ?_)
  obtain ⟨rfl, rfl⟩ := hr
  refine w_if (by omega) (fun q => absurd q (by decide)) (fun _ => ?_)
  refine w_call r_length (fun r h' hr => ?_)
  obtain ⟨rfl, rfl⟩ := hr
  refine w_call (r_indexOf1 hc) (fun r h' hr => ?_)
  obtain ⟨rfl, rfl⟩ := hr
  exact ⟨rfl, rfl⟩
theorem r_indexOf {c : Int} (hc : 0 ≤ c ∧ c ≤ 126) : nv_R M_J0_indexOf_0f7a4 [vr 30 0, vi c] h (fun r h' => h' = h ∧ r = some (vi (t_kind c))) := by
  refine nv_R.of (by decide +kernel) rfl (Nat.le_of_ble_eq_true rfl) ?_
  refine nv_go ok_J0_indexOf_0f7a4 [] 40 ?_
  refine w_call (r_indexOf2 hc) (fun r h' hr => ?_)
  obtain ⟨rfl, rfl⟩ := hr
  exact ⟨rfl, rfl⟩
end nvStr2
