/-! ===== printed by wip/whole/gen_kons.py out of konsw.txt: the constructors ===== -/
def MK_X0 : nv_MD := (RX0, yX0_init, cX0_init, 1, none, 1, 12)
theorem fnk_X0 : nv_fn (RX0, yX0_init, cX0_init, 1, none, 1, 12) 0 := ⟨List.mem_of_getElem? (i := 71) (by decide +kernel), List.mem_of_getElem? (i := 45) (by decide +kernel), by decide +kernel⟩
theorem ink_X0 : Cond.instanceMethod yX0_init ∈ lw_tbl := List.mem_of_getElem? (i := 70) (by decide +kernel)
theorem kn_X0 : Cond.instantiable RX0 11 ∈ lw_tbl := List.mem_of_getElem? (i := 68) (by decide +kernel)
theorem kj_X0 : Cond.initialized RX0 ∈ lw_tbl := List.mem_of_getElem? (i := 45) (by decide +kernel)
def MK_X1 : nv_MD := (RX1, yX1_init, cX1_init, 2, none, 2, 32)
theorem fnk_X1 : nv_fn (RX1, yX1_init, cX1_init, 2, none, 2, 32) 0 := ⟨List.mem_of_getElem? (i := 126) (by decide +kernel), List.mem_of_getElem? (i := 46) (by decide +kernel), by decide +kernel⟩
theorem ink_X1 : Cond.instanceMethod yX1_init ∈ lw_tbl := List.mem_of_getElem? (i := 125) (by decide +kernel)
theorem kn_X1 : Cond.instantiable RX1 3 ∈ lw_tbl := List.mem_of_getElem? (i := 123) (by decide +kernel)
theorem kj_X1 : Cond.initialized RX1 ∈ lw_tbl := List.mem_of_getElem? (i := 46) (by decide +kernel)
def MK_X2 : nv_MD := (RX2, yX2_init, cX2_init, 1, none, 2, 32)
theorem fnk_X2 : nv_fn (RX2, yX2_init, cX2_init, 1, none, 2, 32) 0 := ⟨List.mem_of_getElem? (i := 146) (by decide +kernel), List.mem_of_getElem? (i := 47) (by decide +kernel), by decide +kernel⟩
theorem ink_X2 : Cond.instanceMethod yX2_init ∈ lw_tbl := List.mem_of_getElem? (i := 145) (by decide +kernel)
theorem kn_X2 : Cond.instantiable RX2 8 ∈ lw_tbl := List.mem_of_getElem? (i := 143) (by decide +kernel)
theorem kj_X2 : Cond.initialized RX2 ∈ lw_tbl := List.mem_of_getElem? (i := 47) (by decide +kernel)
def MK_X3 : nv_MD := (RX3, yX3_init, cX3_init, 1, none, 1, 12)
theorem fnk_X3 : nv_fn (RX3, yX3_init, cX3_init, 1, none, 1, 12) 0 := ⟨List.mem_of_getElem? (i := 198) (by decide +kernel), List.mem_of_getElem? (i := 49) (by decide +kernel), by decide +kernel⟩
theorem ink_X3 : Cond.instanceMethod yX3_init ∈ lw_tbl := List.mem_of_getElem? (i := 197) (by decide +kernel)
theorem kn_X3 : Cond.instantiable RX3 3 ∈ lw_tbl := List.mem_of_getElem? (i := 195) (by decide +kernel)
theorem kj_X3 : Cond.initialized RX3 ∈ lw_tbl := List.mem_of_getElem? (i := 49) (by decide +kernel)
def MK_X4 : nv_MD := (RX4, yX4_init, cX4_init, 1, none, 1, 12)
theorem fnk_X4 : nv_fn (RX4, yX4_init, cX4_init, 1, none, 1, 12) 0 := ⟨List.mem_of_getElem? (i := 180) (by decide +kernel), List.mem_of_getElem? (i := 48) (by decide +kernel), by decide +kernel⟩
theorem ink_X4 : Cond.instanceMethod yX4_init ∈ lw_tbl := List.mem_of_getElem? (i := 179) (by decide +kernel)
theorem kn_X4 : Cond.instantiable RX4 3 ∈ lw_tbl := List.mem_of_getElem? (i := 177) (by decide +kernel)
theorem kj_X4 : Cond.initialized RX4 ∈ lw_tbl := List.mem_of_getElem? (i := 48) (by decide +kernel)
def MK_X5 : nv_MD := (RX5, yX5_init, cX5_init, 2, none, 3, 53)
theorem fnk_X5 : nv_fn (RX5, yX5_init, cX5_init, 2, none, 3, 53) 0 := ⟨List.mem_of_getElem? (i := 63) (by decide +kernel), List.mem_of_getElem? (i := 44) (by decide +kernel), by decide +kernel⟩
theorem ink_X5 : Cond.instanceMethod yX5_init ∈ lw_tbl := List.mem_of_getElem? (i := 62) (by decide +kernel)
theorem kn_X5 : Cond.instantiable RX5 10 ∈ lw_tbl := List.mem_of_getElem? (i := 60) (by decide +kernel)
theorem kj_X5 : Cond.initialized RX5 ∈ lw_tbl := List.mem_of_getElem? (i := 44) (by decide +kernel)
def MK_X6 : nv_MD := (RX6, yX6_init, cX6_init, 2, none, 1, 12)
theorem fnk_X6 : nv_fn (RX6, yX6_init, cX6_init, 2, none, 1, 12) 0 := ⟨List.mem_of_getElem? (i := 756) (by decide +kernel), List.mem_of_getElem? (i := 50) (by decide +kernel), by decide +kernel⟩
theorem ink_X6 : Cond.instanceMethod yX6_init ∈ lw_tbl := List.mem_of_getElem? (i := 755) (by decide +kernel)
theorem kn_X6 : Cond.instantiable RX6 16 ∈ lw_tbl := List.mem_of_getElem? (i := 753) (by decide +kernel)
theorem kj_X6 : Cond.initialized RX6 ∈ lw_tbl := List.mem_of_getElem? (i := 50) (by decide +kernel)
theorem ko_i : Cond.instanceMethod objectInit ∈ lw_tbl := List.mem_of_getElem? (i := 65) (by decide +kernel)
theorem ko_c : Cond.code objectInit ⟨#[0xb1]⟩ 1 none ∈ lw_tbl := List.mem_of_getElem? (i := 66) (by decide +kernel)
theorem kw_int : Cond.arrayClass .int ∈ lw_tbl := List.mem_of_getElem? (i := 121) (by decide +kernel)
theorem kw_long : Cond.arrayClass .long ∈ lw_tbl := List.mem_of_getElem? (i := 212) (by decide +kernel)
theorem kw_char : Cond.arrayClass .char ∈ lw_tbl := List.mem_of_getElem? (i := 192) (by decide +kernel)
theorem ko_X0 : Cond.methodLink RX0 3 objectInit ∈ lw_tbl := List.mem_of_getElem? (i := 72) (by decide +kernel)
theorem kf_X0_9 : Cond.fieldLink RX0 9 (TX0 3).1 (TX0 3).2.1 (TX0 3).2.2.1 ∈ lw_tbl := List.mem_of_getElem? (i := 82) (by decide +kernel)
theorem kf_X0_15 : Cond.fieldLink RX0 15 (TX0 4).1 (TX0 4).2.1 (TX0 4).2.2.1 ∈ lw_tbl := List.mem_of_getElem? (i := 84) (by decide +kernel)
theorem kf_X0_19 : Cond.fieldLink RX0 19 (TX0 5).1 (TX0 5).2.1 (TX0 5).2.2.1 ∈ lw_tbl := List.mem_of_getElem? (i := 86) (by decide +kernel)
theorem kf_X0_22 : Cond.fieldLink RX0 22 (TX0 6).1 (TX0 6).2.1 (TX0 6).2.2.1 ∈ lw_tbl := List.mem_of_getElem? (i := 88) (by decide +kernel)
theorem kf_X0_25 : Cond.fieldLink RX0 25 (TX0 7).1 (TX0 7).2.1 (TX0 7).2.2.1 ∈ lw_tbl := List.mem_of_getElem? (i := 90) (by decide +kernel)
theorem kf_X0_28 : Cond.fieldLink RX0 28 (TX0 8).1 (TX0 8).2.1 (TX0 8).2.2.1 ∈ lw_tbl := List.mem_of_getElem? (i := 92) (by decide +kernel)
theorem kf_X0_31 : Cond.fieldLink RX0 31 (TX0 9).1 (TX0 9).2.1 (TX0 9).2.2.1 ∈ lw_tbl := List.mem_of_getElem? (i := 94) (by decide +kernel)
theorem kf_X0_34 : Cond.fieldLink RX0 34 (TX0 10).1 (TX0 10).2.1 (TX0 10).2.2.1 ∈ lw_tbl := List.mem_of_getElem? (i := 97) (by decide +kernel)
theorem ko_X1 : Cond.methodLink RX1 1 objectInit ∈ lw_tbl := List.mem_of_getElem? (i := 127) (by decide +kernel)
theorem kc_X1_9 : Cond.classLink RX1 9 RX0 ∈ lw_tbl := List.mem_of_getElem? (i := 128) (by decide +kernel)
theorem kf_X1_11 : Cond.fieldLink RX1 11 (TX1 0).1 (TX1 0).2.1 (TX1 0).2.2.1 ∈ lw_tbl := List.mem_of_getElem? (i := 131) (by decide +kernel)
theorem ko_X2 : Cond.methodLink RX2 3 objectInit ∈ lw_tbl := List.mem_of_getElem? (i := 147) (by decide +kernel)
theorem kc_X2_9 : Cond.classLink RX2 9 RX0 ∈ lw_tbl := List.mem_of_getElem? (i := 148) (by decide +kernel)
theorem kf_X2_12 : Cond.fieldLink RX2 12 (TX2 0).1 (TX2 0).2.1 (TX2 0).2.2.1 ∈ lw_tbl := List.mem_of_getElem? (i := 150) (by decide +kernel)
theorem kf_X2_18 : Cond.fieldLink RX2 18 (TX2 1).1 (TX2 1).2.1 (TX2 1).2.2.1 ∈ lw_tbl := List.mem_of_getElem? (i := 151) (by decide +kernel)
theorem kf_X2_22 : Cond.fieldLink RX2 22 (TX2 2).1 (TX2 2).2.1 (TX2 2).2.2.1 ∈ lw_tbl := List.mem_of_getElem? (i := 152) (by decide +kernel)
theorem ko_X4 : Cond.methodLink RX4 3 objectInit ∈ lw_tbl := List.mem_of_getElem? (i := 181) (by decide +kernel)
theorem kf_X4_11 : Cond.fieldLink RX4 11 (TX4 0).1 (TX4 0).2.1 (TX4 0).2.2.1 ∈ lw_tbl := List.mem_of_getElem? (i := 182) (by decide +kernel)
theorem ko_X3 : Cond.methodLink RX3 3 objectInit ∈ lw_tbl := List.mem_of_getElem? (i := 199) (by decide +kernel)
theorem kf_X3_9 : Cond.fieldLink RX3 9 (TX3 0).1 (TX3 0).2.1 (TX3 0).2.2.1 ∈ lw_tbl := List.mem_of_getElem? (i := 200) (by decide +kernel)
theorem kf_X3_15 : Cond.fieldLink RX3 15 (TX3 1).1 (TX3 1).2.1 (TX3 1).2.2.1 ∈ lw_tbl := List.mem_of_getElem? (i := 202) (by decide +kernel)
theorem ko_X5 : Cond.methodLink RX5 3 objectInit ∈ lw_tbl := List.mem_of_getElem? (i := 64) (by decide +kernel)
theorem kc_X5_9 : Cond.classLink RX5 9 RX0 ∈ lw_tbl := List.mem_of_getElem? (i := 67) (by decide +kernel)
theorem kf_X5_12 : Cond.fieldLink RX5 12 (TX5 0).1 (TX5 0).2.1 (TX5 0).2.2.1 ∈ lw_tbl := List.mem_of_getElem? (i := 213) (by decide +kernel)
theorem kc_X5_16 : Cond.classLink RX5 16 RX1 ∈ lw_tbl := List.mem_of_getElem? (i := 122) (by decide +kernel)
theorem kl_X5_18 : Cond.methodLink RX5 18 yX1_init ∈ lw_tbl := List.mem_of_getElem? (i := 124) (by decide +kernel)
theorem kf_X5_19 : Cond.fieldLink RX5 19 (TX5 1).1 (TX5 1).2.1 (TX5 1).2.2.1 ∈ lw_tbl := List.mem_of_getElem? (i := 214) (by decide +kernel)
theorem kf_X5_23 : Cond.fieldLink RX5 23 (TX5 2).1 (TX5 2).2.1 (TX5 2).2.2.1 ∈ lw_tbl := List.mem_of_getElem? (i := 215) (by decide +kernel)
theorem kf_X5_26 : Cond.fieldLink RX5 26 (TX5 3).1 (TX5 3).2.1 (TX5 3).2.2.1 ∈ lw_tbl := List.mem_of_getElem? (i := 216) (by decide +kernel)
theorem kf_X5_29 : Cond.fieldLink RX5 29 (TX5 5).1 (TX5 5).2.1 (TX5 5).2.2.1 ∈ lw_tbl := List.mem_of_getElem? (i := 218) (by decide +kernel)
theorem kc_X5_32 : Cond.classLink RX5 32 RX2 ∈ lw_tbl := List.mem_of_getElem? (i := 142) (by decide +kernel)
theorem kf_X5_35 : Cond.fieldLink RX5 35 (TX5 6).1 (TX5 6).2.1 (TX5 6).2.2.1 ∈ lw_tbl := List.mem_of_getElem? (i := 219) (by decide +kernel)
theorem kf_X5_39 : Cond.fieldLink RX5 39 (TX5 7).1 (TX5 7).2.1 (TX5 7).2.2.1 ∈ lw_tbl := List.mem_of_getElem? (i := 220) (by decide +kernel)
theorem kc_X5_42 : Cond.classLink RX5 42 RX4 ∈ lw_tbl := List.mem_of_getElem? (i := 176) (by decide +kernel)
theorem kf_X5_45 : Cond.fieldLink RX5 45 (TX5 8).1 (TX5 8).2.1 (TX5 8).2.2.1 ∈ lw_tbl := List.mem_of_getElem? (i := 221) (by decide +kernel)
theorem kc_X5_49 : Cond.classLink RX5 49 RX3 ∈ lw_tbl := List.mem_of_getElem? (i := 193) (by decide +kernel)
theorem kf_X5_51 : Cond.fieldLink RX5 51 (TX5 9).1 (TX5 9).2.1 (TX5 9).2.2.1 ∈ lw_tbl := List.mem_of_getElem? (i := 222) (by decide +kernel)
theorem ko_X6 : Cond.methodLink RX6 1 objectInit ∈ lw_tbl := List.mem_of_getElem? (i := 757) (by decide +kernel)
theorem kf_X6_7 : Cond.fieldLink RX6 7 (TX6 0).1 (TX6 0).2.1 (TX6 0).2.2.1 ∈ lw_tbl := List.mem_of_getElem? (i := 758) (by decide +kernel)
theorem kf_X6_13 : Cond.fieldLink RX6 13 (TX6 1).1 (TX6 1).2.1 (TX6 1).2.2.1 ∈ lw_tbl := List.mem_of_getElem? (i := 759) (by decide +kernel)
theorem kf_X6_16 : Cond.fieldLink RX6 16 (TX6 2).1 (TX6 2).2.1 (TX6 2).2.2.1 ∈ lw_tbl := List.mem_of_getElem? (i := 760) (by decide +kernel)
theorem kf_X6_20 : Cond.fieldLink RX6 20 (TX6 4).1 (TX6 4).2.1 (TX6 4).2.2.1 ∈ lw_tbl := List.mem_of_getElem? (i := 762) (by decide +kernel)
theorem kf_X6_23 : Cond.fieldLink RX6 23 (TX6 7).1 (TX6 7).2.1 (TX6 7).2.2.1 ∈ lw_tbl := List.mem_of_getElem? (i := 765) (by decide +kernel)
theorem kf_X6_26 : Cond.fieldLink RX6 26 (TX6 8).1 (TX6 8).2.1 (TX6 8).2.2.1 ∈ lw_tbl := List.mem_of_getElem? (i := 766) (by decide +kernel)
theorem kf_X6_29 : Cond.fieldLink RX6 29 (TX6 9).1 (TX6 9).2.1 (TX6 9).2.2.1 ∈ lw_tbl := List.mem_of_getElem? (i := 767) (by decide +kernel)
theorem kf_X6_32 : Cond.fieldLink RX6 32 (TX6 10).1 (TX6 10).2.1 (TX6 10).2.2.1 ∈ lw_tbl := List.mem_of_getElem? (i := 768) (by decide +kernel)
theorem kf_X6_35 : Cond.fieldLink RX6 35 (TX6 12).1 (TX6 12).2.1 (TX6 12).2.2.1 ∈ lw_tbl := List.mem_of_getElem? (i := 770) (by decide +kernel)
theorem kf_X6_38 : Cond.fieldLink RX6 38 (TX6 13).1 (TX6 13).2.1 (TX6 13).2.2.1 ∈ lw_tbl := List.mem_of_getElem? (i := 771) (by decide +kernel)
abbrev k_i (cA : Nat → ClassId) (q n : Nat) : Nat × va_E := (q, .inl (cA 0, n, .inl fun _ => 0))
/-- the cells of a noon -/
def kN (cA : Nat → ClassId) (a : Nat) (f : Nat → Nat) : va_W := [(a, .inr (0, [.int 0, .int 0, .int 0, .int (Int32.ofInt 1), .ref (f 1), .ref (f 2), .ref (f 3), .ref (f 4), .ref (f 5), .ref (f 6), .ref (f 7)])), k_i cA (f 1) 5, k_i cA (f 2) 5, k_i cA (f 3) 5, k_i cA (f 4) 5, k_i cA (f 5) 5, k_i cA (f 6) 5, k_i cA (f 7) 5]
def kF0 : k_F := fun cA a T => ∃ f, T = kN cA a f
set_option maxRecDepth 100000 in
set_option maxHeartbeats 4000000 in
theorem rk_X0 : k_R MK_X0 7 35 0 [.int 0, .int 0, .int 0, .int 0, .null, .null, .null, .null, .null, .null, .null] kF0 := by
  refine k_of (by decide) rfl rfl (by decide) (fun D cA A Wd a => ?_)
  refine k_al (k := 0) 0 (by decide +kernel) rfl ?_
  refine k_obj (idx := 3) (by decide +kernel) ko_X0 ko_i ko_c (by decide) (by decide) ?_
  refine k_al (k := 0) 0 (by decide +kernel) rfl ?_
  refine k_ic (z := 1) (by decide +kernel) ?_
  refine k_put (idx := 9) (k := 3) (by decide +kernel) tyX0 tyX0_ok nmX0 rfl i_X0 (by decide) kf_X0_9 rfl rfl rfl (Nat.le_of_ble_eq_true rfl) ?_
  refine k_al (k := 0) 0 (by decide +kernel) rfl ?_
  refine k_ic (z := 5) (by decide +kernel) ?_
  refine k_newa (atype := .int) (t0 := 0) (N' := 5) (a0 := (5, .inl fun _ => 0)) (by decide +kernel) kw_int rfl rfl (fun _ => rfl) (by decide) (by decide) (by decide) (by decide) (by decide) (fun q11 => ?_)
  refine k_putF (idx := 15) (k := 4) (by decide +kernel) tyX0 tyX0_ok nmX0 rfl i_X0 (by decide) kf_X0_15 rfl rfl rfl rfl (Nat.le_of_ble_eq_true rfl) ?_
  refine k_al (k := 0) 0 (by decide +kernel) rfl ?_
  refine k_ic (z := 5) (by decide +kernel) ?_
  refine k_newa (atype := .int) (t0 := 0) (N' := 5) (a0 := (5, .inl fun _ => 0)) (by decide +kernel) kw_int rfl rfl (fun _ => rfl) (by decide) (by decide) (by decide) (by decide) (by decide) (fun q18 => ?_)
  refine k_putF (idx := 19) (k := 5) (by decide +kernel) tyX0 tyX0_ok nmX0 rfl i_X0 (by decide) kf_X0_19 rfl rfl rfl rfl (Nat.le_of_ble_eq_true rfl) ?_
  refine k_al (k := 0) 0 (by decide +kernel) rfl ?_
  refine k_ic (z := 5) (by decide +kernel) ?_
  refine k_newa (atype := .int) (t0 := 0) (N' := 5) (a0 := (5, .inl fun _ => 0)) (by decide +kernel) kw_int rfl rfl (fun _ => rfl) (by decide) (by decide) (by decide) (by decide) (by decide) (fun q25 => ?_)
  refine k_putF (idx := 22) (k := 6) (by decide +kernel) tyX0 tyX0_ok nmX0 rfl i_X0 (by decide) kf_X0_22 rfl rfl rfl rfl (Nat.le_of_ble_eq_true rfl) ?_
  refine k_al (k := 0) 0 (by decide +kernel) rfl ?_
  refine k_ic (z := 5) (by decide +kernel) ?_
  refine k_newa (atype := .int) (t0 := 0) (N' := 5) (a0 := (5, .inl fun _ => 0)) (by decide +kernel) kw_int rfl rfl (fun _ => rfl) (by decide) (by decide) (by decide) (by decide) (by decide) (fun q32 => ?_)
  refine k_putF (idx := 25) (k := 7) (by decide +kernel) tyX0 tyX0_ok nmX0 rfl i_X0 (by decide) kf_X0_25 rfl rfl rfl rfl (Nat.le_of_ble_eq_true rfl) ?_
  refine k_al (k := 0) 0 (by decide +kernel) rfl ?_
  refine k_ic (z := 5) (by decide +kernel) ?_
  refine k_newa (atype := .int) (t0 := 0) (N' := 5) (a0 := (5, .inl fun _ => 0)) (by decide +kernel) kw_int rfl rfl (fun _ => rfl) (by decide) (by decide) (by decide) (by decide) (by decide) (fun q39 => ?_)
  refine k_putF (idx := 28) (k := 8) (by decide +kernel) tyX0 tyX0_ok nmX0 rfl i_X0 (by decide) kf_X0_28 rfl rfl rfl rfl (Nat.le_of_ble_eq_true rfl) ?_
  refine k_al (k := 0) 0 (by decide +kernel) rfl ?_
  refine k_ic (z := 5) (by decide +kernel) ?_
  refine k_newa (atype := .int) (t0 := 0) (N' := 5) (a0 := (5, .inl fun _ => 0)) (by decide +kernel) kw_int rfl rfl (fun _ => rfl) (by decide) (by decide) (by decide) (by decide) (by decide) (fun q46 => ?_)
  refine k_putF (idx := 31) (k := 9) (by decide +kernel) tyX0 tyX0_ok nmX0 rfl i_X0 (by decide) kf_X0_31 rfl rfl rfl rfl (Nat.le_of_ble_eq_true rfl) ?_
  refine k_al (k := 0) 0 (by decide +kernel) rfl ?_
  refine k_ic (z := 5) (by decide +kernel) ?_
  refine k_newa (atype := .int) (t0 := 0) (N' := 5) (a0 := (5, .inl fun _ => 0)) (by decide +kernel) kw_int rfl rfl (fun _ => rfl) (by decide) (by decide) (by decide) (by decide) (by decide) (fun q53 => ?_)
  refine k_putF (idx := 34) (k := 10) (by decide +kernel) tyX0 tyX0_ok nmX0 rfl i_X0 (by decide) kf_X0_34 rfl rfl rfl rfl (Nat.le_of_ble_eq_true rfl) ?_
  exact k_ret (by decide +kernel) rfl (by decide) (by decide) ⟨fun t => match t with | 1 => q11 | 2 => q18 | 3 => q25 | 4 => q32 | 5 => q39 | 6 => q46 | _ => q53, rfl⟩
abbrev k_pf (pl : List (Nat × (Nat → Nat))) : Nat → Option Nat := fun j => (pl[j]?).map (fun x => x.1)
abbrev k_ns (cA : Nat → ClassId) (pl : List (Nat × (Nat → Nat))) : va_W := pl.flatMap (fun x => kN cA x.1 x.2)
def kP (cA : Nat → ClassId) (a q : Nat) (pl : List (Nat × (Nat → Nat))) : va_W := (a, .inr (1, [.ref q, .int 0, .int 0])) :: (q, .inl (cA 3, 8, .inr (.inr (.inr (.inr (k_pf pl)))))) :: k_ns cA pl
def kF1 : k_F := fun cA a T => ∃ q pl, pl.length = 8 ∧ T = kP cA a q pl
theorem k_pf_up {pl : List (Nat × (Nat → Nat))} {i q : Nat} {f : Nat → Nat} (hi : pl.length = i) : va_up (k_pf pl) i (some q) = k_pf (pl ++ [(q, f)]) := by
  funext j
  unfold va_up
  by_cases e : j = i
  · rw [if_pos e, e, ← hi]
    show some q = ((pl ++ [(q, f)])[pl.length]?).map (fun x => x.1)
    simp
  · rw [if_neg e]
    show (pl[j]?).map _ = ((pl ++ [(q, f)])[j]?).map _
    by_cases h : j < pl.length
    · rw [List.getElem?_append_left h]
    · rw [List.getElem?_eq_none (by omega), List.getElem?_eq_none (by simp; omega)]
theorem k_ns_ap {cA : Nat → ClassId} {pl : List (Nat × (Nat → Nat))} {q : Nat} {f : Nat → Nat} : k_ns cA (pl ++ [(q, f)]) = k_ns cA pl ++ kN cA q f := by
  simp [k_ns]
theorem k_e8 : Int32.ofInt 8 = nI 8 := by decide +kernel
theorem k_e4 : Int32.ofInt 4 = nI 4 := by decide +kernel
theorem k_e0 : Int32.ofInt 0 = nI 0 := by decide +kernel
theorem k_e1 (i : Nat) : nI i + Int32.ofInt 1 = nI (i + 1) := by rw [nI_succ]; rfl
set_option maxRecDepth 100000 in
set_option maxHeartbeats 4000000 in
theorem rk_X1 : k_R MK_X1 65 376 1 [.null, .int 0, .int 0] kF1 := by
  refine k_of (by decide) rfl rfl (by decide) (fun D cA A Wd a => ?_)
  refine k_al (k := 0) 0 (by decide +kernel) rfl ?_
  refine k_obj (idx := 1) (by decide +kernel) ko_X1 ko_i ko_c (by decide) (by decide) ?_
  refine k_al (k := 0) 0 (by decide +kernel) rfl ?_
  refine k_bi (z := 8) (by decide +kernel) (by decide) ?_
  refine k_newq (idx := 9) (t0 := 3) (N' := 8) (by decide +kernel) kc_X1_9 (fun U h => h.2.1) rfl (by decide) (by decide) (by decide) (by decide) (by decide) (fun q7 => ?_)
  refine k_putF (idx := 11) (k := 0) (by decide +kernel) tyX1 tyX1_ok nmX1 rfl i_X1 (by decide) kf_X1_11 rfl rfl rfl rfl (Nat.le_of_ble_eq_true rfl) ?_
  refine k_ic (z := 0) (by decide +kernel) ?_
  refine k_ist (k := 1) (by decide +kernel) (by decide) rfl ?_
  have loop : ∀ (d i : Nat) (pl : List (Nat × (Nat → Nat))), i + d = 8 → pl.length = i → k_V MK_X1 65 376 D cA A Wd a kF1 1 15 [(1, .int (nI i)), (0, .ref a)] [] [.ref q7, .int 0, .int 0] ((q7, .inl (cA 3, 8, .inr (.inr (.inr (.inr (k_pf pl)))))) :: k_ns cA pl) (1 + 8 * i) (8 + 46 * i) := by
    intro d
    induction d with
    | zero =>
      intro i pl hi hp
      have e : i = 8 := by omega
      subst e
      refine k_il (k := 1) 0 (by decide +kernel) rfl ?_
      refine k_bi (z := 8) (by decide +kernel) (by decide) ?_
      rw [k_e8]
      refine k_ge (off := 22) (tgt := 40) (by decide +kernel) (by decide) (fun _ => ?_) (fun c => absurd (nI_le (Nat.le_refl 8) (by decide)) c)
      exact k_ret (by decide +kernel) rfl (by decide) (by decide) ⟨q7, pl, hp, rfl⟩
    | succ d ih =>
      intro i pl hi hp
      refine k_il (k := 1) 0 (by decide +kernel) rfl ?_
      refine k_bi (z := 8) (by decide +kernel) (by decide) ?_
      rw [k_e8]
      refine k_ge (off := 22) (tgt := 40) (by decide +kernel) (by decide) (fun c => absurd c (nI_ge (by omega) (by decide))) (fun _ => ?_)
      refine k_al (k := 0) 1 (by decide +kernel) rfl ?_
      refine k_get (idx := 11) (k := 0) (by decide +kernel) rfl i_X1 (by decide) kf_X1_11 rfl ?_
      refine k_il (k := 1) 0 (by decide +kernel) rfl ?_
      refine k_new (idx := 9) (c9 := 0) (fs9 := [.int 0, .int 0, .int 0, .int 0, .null, .null, .null, .null, .null, .null, .null]) (by decide +kernel) tyX0 tyX0_ok i_X0 rfl kc_X1_9 kn_X0 kj_X0 (fun j hj => by rcases (show j = 0 ∨ j = 1 ∨ j = 2 ∨ j = 3 ∨ j = 4 ∨ j = 5 ∨ j = 6 ∨ j = 7 ∨ j = 8 ∨ j = 9 ∨ j = 10 by omega) with rfl | rfl | rfl | rfl | rfl | rfl | rfl | rfl | rfl | rfl | rfl <;> rfl) (by show _ ≤ (_ : Nat); omega) (by show _ ≤ (_ : Nat); omega) (fun q26 => ?_)
      refine k_dup (by decide +kernel) ?_
      refine k_cN (idx := 15) (host := "NoonSaws") (by decide +kernel) rk_X0 fnk_X0 ink_X0 rfl (fun U h => h.2.2.2.2.1) ⟨by decide, by decide⟩ ⟨(by show _ ≤ (_ : Nat); omega), (by show _ ≤ (_ : Nat); omega)⟩ (Nat.le_of_ble_eq_true rfl) (fun T30 hT30 => ?_)
      obtain ⟨f, rfl⟩ := hT30
      refine k_aast (t0 := 3) 0 ((q7, .inl (cA 3, 8, .inr (.inr (.inr (.inr (k_pf pl)))))) :: k_ns cA pl : va_W).length (by decide +kernel) rfl rfl k_i0 rfl (vp_in_nI (by omega) (by decide)) ?_
      rw [nI_clamp (by omega), k_pf_up (f := f) hp]
      refine k_inc (k := 1) (d := 1) 0 (by decide +kernel) rfl (k_e1 i) (by decide) rfl ?_
      refine k_go (off := -22) (tgt := 15) (by decide +kernel) (by decide) ?_
      have := ih (i + 1) (pl ++ [(q26, f)]) (by omega) (by simp [hp])
      rw [k_ns_ap] at this
      exact k_wd (by omega) (by omega) this
  exact loop 8 0 [] rfl rfl
def kS (cA : Nat → ClassId) (a n : Nat) (f : Nat → Nat) (q1 q2 : Nat) : va_W := (a, .inr (2, [.ref n, .ref q1, .ref q2, .int 0, .int 0, .int 0, .int 0, .int 0])) :: (kN cA n f ++ [k_i cA q1 5, k_i cA q2 5])
def kF2 : k_F := fun cA a T => ∃ n f q1 q2, T = kS cA a n f q1 q2
set_option maxRecDepth 100000 in
set_option maxHeartbeats 4000000 in
theorem rk_X2 : k_R MK_X2 10 56 2 [.null, .null, .null, .int 0, .int 0, .int 0, .int 0, .int 0] kF2 := by
  refine k_of (by decide) rfl rfl (by decide) (fun D cA A Wd a => ?_)
  refine k_al (k := 0) 0 (by decide +kernel) rfl ?_
  refine k_obj (idx := 3) (by decide +kernel) ko_X2 ko_i ko_c (by decide) (by decide) ?_
  refine k_al (k := 0) 0 (by decide +kernel) rfl ?_
  refine k_new (idx := 9) (c9 := 0) (fs9 := [.int 0, .int 0, .int 0, .int 0, .null, .null, .null, .null, .null, .null, .null]) (by decide +kernel) tyX0 tyX0_ok i_X0 rfl kc_X2_9 kn_X0 kj_X0 (fun j hj => by rcases (show j = 0 ∨ j = 1 ∨ j = 2 ∨ j = 3 ∨ j = 4 ∨ j = 5 ∨ j = 6 ∨ j = 7 ∨ j = 8 ∨ j = 9 ∨ j = 10 by omega) with rfl | rfl | rfl | rfl | rfl | rfl | rfl | rfl | rfl | rfl | rfl <;> rfl) (by decide) (by decide) (fun q5 => ?_)
  refine k_dup (by decide +kernel) ?_
  refine k_cN (idx := 11) (host := "NoonSaws") (by decide +kernel) rk_X0 fnk_X0 ink_X0 rfl (fun U h => h.2.2.2.2.2.2.1) ⟨by decide, by decide⟩ ⟨(by decide), (by decide)⟩ (Nat.le_of_ble_eq_true rfl) (fun T9 hT9 => ?_)
  obtain ⟨f, rfl⟩ := hT9
  refine k_putF (idx := 12) (k := 0) (by decide +kernel) tyX2 tyX2_ok nmX2 rfl i_X2 (by decide) kf_X2_12 rfl rfl rfl rfl (Nat.le_of_ble_eq_true rfl) ?_
  refine k_al (k := 0) 0 (by decide +kernel) rfl ?_
  refine k_ic (z := 5) (by decide +kernel) ?_
  refine k_newa (atype := .int) (t0 := 0) (N' := 5) (a0 := (5, .inl fun _ => 0)) (by decide +kernel) kw_int rfl rfl (fun _ => rfl) (by decide) (by decide) (by decide) (by decide) (by decide) (fun q17 => ?_)
  refine k_putF (idx := 18) (k := 1) (by decide +kernel) tyX2 tyX2_ok nmX2 rfl i_X2 (by decide) kf_X2_18 rfl rfl rfl rfl (Nat.le_of_ble_eq_true rfl) ?_
  refine k_al (k := 0) 0 (by decide +kernel) rfl ?_
  refine k_ic (z := 5) (by decide +kernel) ?_
  refine k_newa (atype := .int) (t0 := 0) (N' := 5) (a0 := (5, .inl fun _ => 0)) (by decide +kernel) kw_int rfl rfl (fun _ => rfl) (by decide) (by decide) (by decide) (by decide) (by decide) (fun q24 => ?_)
  refine k_putF (idx := 22) (k := 2) (by decide +kernel) tyX2 tyX2_ok nmX2 rfl i_X2 (by decide) kf_X2_22 rfl rfl rfl rfl (Nat.le_of_ble_eq_true rfl) ?_
  exact k_ret (by decide +kernel) rfl (by decide) (by decide) ⟨q5, f, q17, q24, rfl⟩
def kT (cA : Nat → ClassId) (a q : Nat) : va_W := [(a, .inr (4, [.ref q, .int 0, .int 0])), (q, .inl (cA 2, 80, .inl fun _ => 0))]
def kF4 : k_F := fun cA a T => ∃ q, T = kT cA a q
set_option maxRecDepth 100000 in
set_option maxHeartbeats 4000000 in
theorem rk_X4 : k_R MK_X4 1 80 4 [.null, .int 0, .int 0] kF4 := by
  refine k_of (by decide) rfl rfl (by decide) (fun D cA A Wd a => ?_)
  refine k_al (k := 0) 0 (by decide +kernel) rfl ?_
  refine k_obj (idx := 3) (by decide +kernel) ko_X4 ko_i ko_c (by decide) (by decide) ?_
  refine k_al (k := 0) 0 (by decide +kernel) rfl ?_
  refine k_bi (z := 80) (by decide +kernel) (by decide) ?_
  refine k_newa (atype := .char) (t0 := 2) (N' := 80) (a0 := (80, .inl fun _ => 0)) (by decide +kernel) kw_char rfl rfl (fun _ => rfl) (by decide) (by decide) (by decide) (by decide) (by decide) (fun q7 => ?_)
  refine k_putF (idx := 11) (k := 0) (by decide +kernel) tyX4 tyX4_ok nmX4 rfl i_X4 (by decide) kf_X4_11 rfl rfl rfl rfl (Nat.le_of_ble_eq_true rfl) ?_
  exact k_ret (by decide +kernel) rfl (by decide) (by decide) ⟨q7, rfl⟩
def kH (cA : Nat → ClassId) (a q : Nat) : va_W := [(a, .inr (3, [.ref q, .int (Int32.ofInt (-1)), .int 0])), (q, .inl (cA 1, 24, .inr (.inl fun _ => 0)))]
def kF3 : k_F := fun cA a T => ∃ q, T = kH cA a q
set_option maxRecDepth 100000 in
set_option maxHeartbeats 4000000 in
theorem rk_X3 : k_R MK_X3 1 24 3 [.null, .int 0, .int 0] kF3 := by
  refine k_of (by decide) rfl rfl (by decide) (fun D cA A Wd a => ?_)
  refine k_al (k := 0) 0 (by decide +kernel) rfl ?_
  refine k_obj (idx := 3) (by decide +kernel) ko_X3 ko_i ko_c (by decide) (by decide) ?_
  refine k_al (k := 0) 0 (by decide +kernel) rfl ?_
  refine k_bi (z := 24) (by decide +kernel) (by decide) ?_
  refine k_newa (atype := .long) (t0 := 1) (N' := 24) (a0 := (24, .inr (.inl fun _ => 0))) (by decide +kernel) kw_long rfl rfl (fun _ => rfl) (by decide) (by decide) (by decide) (by decide) (by decide) (fun q7 => ?_)
  refine k_putF (idx := 9) (k := 0) (by decide +kernel) tyX3 tyX3_ok nmX3 rfl i_X3 (by decide) kf_X3_9 rfl rfl rfl rfl (Nat.le_of_ble_eq_true rfl) ?_
  refine k_al (k := 0) 0 (by decide +kernel) rfl ?_
  refine k_ic (z := -1) (by decide +kernel) ?_
  refine k_put (idx := 15) (k := 1) (by decide +kernel) tyX3 tyX3_ok nmX3 rfl i_X3 (by decide) kf_X3_15 rfl rfl rfl (Nat.le_of_ble_eq_true rfl) ?_
  exact k_ret (by decide +kernel) rfl (by decide) (by decide) ⟨q7, rfl⟩
abbrev k_pg (pl : List (Nat × Nat)) : Nat → Option Nat := fun j => (pl[j]?).map (fun x => x.1)
abbrev k_hs (cA : Nat → ClassId) (pl : List (Nat × Nat)) : va_W := pl.flatMap (fun x => kH cA x.1 x.2)
theorem k_pg_up {pl : List (Nat × Nat)} {i q r : Nat} (hi : pl.length = i) : va_up (k_pg pl) i (some q) = k_pg (pl ++ [(q, r)]) := by
  funext j
  unfold va_up
  by_cases e : j = i
  · rw [if_pos e, e, ← hi]
    show some q = ((pl ++ [(q, r)])[pl.length]?).map (fun x => x.1)
    simp
  · rw [if_neg e]
    show (pl[j]?).map _ = ((pl ++ [(q, r)])[j]?).map _
    by_cases h : j < pl.length
    · rw [List.getElem?_append_left h]
    · rw [List.getElem?_eq_none (by omega), List.getElem?_eq_none (by simp; omega)]
theorem k_hs_ap {cA : Nat → ClassId} {pl : List (Nat × Nat)} {q r : Nat} : k_hs cA (pl ++ [(q, r)]) = k_hs cA pl ++ kH cA q r := by
  simp [k_hs]
/-- the class's cells, in the order in which they are made -/
def kX (cA : Nat → ClassId) (a n0 : Nat) (f0 : Nat → Nat) (p0 q0 : Nat) (pl0 : List (Nat × (Nat → Nat))) (n2 : Nat) (f2 : Nat → Nat) (p1 q1 : Nat) (pl1 : List (Nat × (Nat → Nat))) (n1 : Nat) (f1 : Nat → Nat) (s0 m0 : Nat) (g0 : Nat → Nat) (x0 y0 s1 m1 : Nat) (g1 : Nat → Nat) (x1 y1 tp tq sh : Nat) (hl : List (Nat × Nat)) : va_W :=
  (a, .inr (5, [.ref n0, .ref p0, .ref n2, .ref p1, .int 0, .ref n1, .ref s0, .ref s1, .ref tp, .ref sh])) :: (((((((([] ++ kN cA n0 f0) ++ kP cA p0 q0 pl0) ++ kN cA n2 f2) ++ kP cA p1 q1 pl1) ++ kN cA n1 f1) ++ kS cA s0 m0 g0 x0 y0) ++ kS cA s1 m1 g1 x1 y1) ++ kT cA tp tq) ++ (sh, .inl (cA 4, 4, .inr (.inr (.inr (.inr (k_pg hl)))))) :: k_hs cA hl
def kF5 : k_F := fun cA a T => ∃ n0 f0 p0 q0 pl0 n2 f2 p1 q1 pl1 n1 f1 s0 m0 g0 x0 y0 s1 m1 g1 x1 y1 tp tq sh hl, pl0.length = 8 ∧ pl1.length = 8 ∧ hl.length = 4 ∧ T = kX cA a n0 f0 p0 q0 pl0 n2 f2 p1 q1 pl1 n1 f1 s0 m0 g0 x0 y0 s1 m1 g1 x1 y1 tp tq sh hl
set_option maxRecDepth 100000 in
set_option maxHeartbeats 4000000 in
theorem rk_X5 : k_R MK_X5 189 1219 5 [.null, .null, .null, .null, .int 0, .null, .null, .null, .null, .null] kF5 := by
  refine k_of (by decide) rfl rfl (by decide) (fun D cA A Wd a => ?_)
  refine k_al (k := 0) 0 (by decide +kernel) rfl ?_
  refine k_obj (idx := 3) (by decide +kernel) ko_X5 ko_i ko_c (by decide) (by decide) ?_
  refine k_al (k := 0) 0 (by decide +kernel) rfl ?_
  refine k_new (idx := 9) (c9 := 0) (fs9 := [.int 0, .int 0, .int 0, .int 0, .null, .null, .null, .null, .null, .null, .null]) (by decide +kernel) tyX0 tyX0_ok i_X0 rfl kc_X5_9 kn_X0 kj_X0 (fun j hj => by rcases (show j = 0 ∨ j = 1 ∨ j = 2 ∨ j = 3 ∨ j = 4 ∨ j = 5 ∨ j = 6 ∨ j = 7 ∨ j = 8 ∨ j = 9 ∨ j = 10 by omega) with rfl | rfl | rfl | rfl | rfl | rfl | rfl | rfl | rfl | rfl | rfl <;> rfl) (by decide) (by decide) (fun q5 => ?_)
  refine k_dup (by decide +kernel) ?_
  refine k_cN (idx := 11) (host := "NoonSaws") (by decide +kernel) rk_X0 fnk_X0 ink_X0 rfl (fun U h => h.2.2.2.1) ⟨by decide, by decide⟩ ⟨(by decide), (by decide)⟩ (Nat.le_of_ble_eq_true rfl) (fun T9 hT9 => ?_)
  obtain ⟨f0, rfl⟩ := hT9
  refine k_putF (idx := 12) (k := 0) (by decide +kernel) tyX5 tyX5_ok nmX5 rfl i_X5 (by decide) kf_X5_12 rfl rfl rfl rfl (Nat.le_of_ble_eq_true rfl) ?_
  refine k_al (k := 0) 0 (by decide +kernel) rfl ?_
  refine k_new (idx := 16) (c9 := 1) (fs9 := [.null, .int 0, .int 0]) (by decide +kernel) tyX1 tyX1_ok i_X1 rfl kc_X5_16 kn_X1 kj_X1 (fun j hj => by rcases (show j = 0 ∨ j = 1 ∨ j = 2 by omega) with rfl | rfl | rfl <;> rfl) (by decide) (by decide) (fun q16 => ?_)
  refine k_dup (by decide +kernel) ?_
  refine k_cI (idx := 18) (by decide +kernel) rk_X1 fnk_X1 ink_X1 rfl kl_X5_18 ⟨by decide, by decide⟩ ⟨(by decide), (by decide)⟩ (Nat.le_of_ble_eq_true rfl) (fun T20 hT20 => ?_)
  obtain ⟨r0, pl0, hp0, rfl⟩ := hT20
  refine k_putF (idx := 19) (k := 1) (by decide +kernel) tyX5 tyX5_ok nmX5 rfl i_X5 (by decide) kf_X5_19 rfl rfl rfl rfl (Nat.le_of_ble_eq_true rfl) ?_
  refine k_al (k := 0) 0 (by decide +kernel) rfl ?_
  refine k_new (idx := 9) (c9 := 0) (fs9 := [.int 0, .int 0, .int 0, .int 0, .null, .null, .null, .null, .null, .null, .null]) (by decide +kernel) tyX0 tyX0_ok i_X0 rfl kc_X5_9 kn_X0 kj_X0 (fun j hj => by rcases (show j = 0 ∨ j = 1 ∨ j = 2 ∨ j = 3 ∨ j = 4 ∨ j = 5 ∨ j = 6 ∨ j = 7 ∨ j = 8 ∨ j = 9 ∨ j = 10 by omega) with rfl | rfl | rfl | rfl | rfl | rfl | rfl | rfl | rfl | rfl | rfl <;> rfl) (by decide) (by decide) (fun q27 => ?_)
  refine k_dup (by decide +kernel) ?_
  refine k_cN (idx := 11) (host := "NoonSaws") (by decide +kernel) rk_X0 fnk_X0 ink_X0 rfl (fun U h => h.2.2.2.1) ⟨by decide, by decide⟩ ⟨(by decide), (by decide)⟩ (Nat.le_of_ble_eq_true rfl) (fun T31 hT31 => ?_)
  obtain ⟨f2, rfl⟩ := hT31
  refine k_putF (idx := 23) (k := 2) (by decide +kernel) tyX5 tyX5_ok nmX5 rfl i_X5 (by decide) kf_X5_23 rfl rfl rfl rfl (Nat.le_of_ble_eq_true rfl) ?_
  refine k_al (k := 0) 0 (by decide +kernel) rfl ?_
  refine k_new (idx := 16) (c9 := 1) (fs9 := [.null, .int 0, .int 0]) (by decide +kernel) tyX1 tyX1_ok i_X1 rfl kc_X5_16 kn_X1 kj_X1 (fun j hj => by rcases (show j = 0 ∨ j = 1 ∨ j = 2 by omega) with rfl | rfl | rfl <;> rfl) (by decide) (by decide) (fun q38 => ?_)
  refine k_dup (by decide +kernel) ?_
  refine k_cI (idx := 18) (by decide +kernel) rk_X1 fnk_X1 ink_X1 rfl kl_X5_18 ⟨by decide, by decide⟩ ⟨(by decide), (by decide)⟩ (Nat.le_of_ble_eq_true rfl) (fun T42 hT42 => ?_)
  obtain ⟨r1, pl1, hp1, rfl⟩ := hT42
  refine k_putF (idx := 26) (k := 3) (by decide +kernel) tyX5 tyX5_ok nmX5 rfl i_X5 (by decide) kf_X5_26 rfl rfl rfl rfl (Nat.le_of_ble_eq_true rfl) ?_
  refine k_al (k := 0) 0 (by decide +kernel) rfl ?_
  refine k_new (idx := 9) (c9 := 0) (fs9 := [.int 0, .int 0, .int 0, .int 0, .null, .null, .null, .null, .null, .null, .null]) (by decide +kernel) tyX0 tyX0_ok i_X0 rfl kc_X5_9 kn_X0 kj_X0 (fun j hj => by rcases (show j = 0 ∨ j = 1 ∨ j = 2 ∨ j = 3 ∨ j = 4 ∨ j = 5 ∨ j = 6 ∨ j = 7 ∨ j = 8 ∨ j = 9 ∨ j = 10 by omega) with rfl | rfl | rfl | rfl | rfl | rfl | rfl | rfl | rfl | rfl | rfl <;> rfl) (by decide) (by decide) (fun q49 => ?_)
  refine k_dup (by decide +kernel) ?_
  refine k_cN (idx := 11) (host := "NoonSaws") (by decide +kernel) rk_X0 fnk_X0 ink_X0 rfl (fun U h => h.2.2.2.1) ⟨by decide, by decide⟩ ⟨(by decide), (by decide)⟩ (Nat.le_of_ble_eq_true rfl) (fun T53 hT53 => ?_)
  obtain ⟨f1, rfl⟩ := hT53
  refine k_putF (idx := 29) (k := 5) (by decide +kernel) tyX5 tyX5_ok nmX5 rfl i_X5 (by decide) kf_X5_29 rfl rfl rfl rfl (Nat.le_of_ble_eq_true rfl) ?_
  refine k_al (k := 0) 0 (by decide +kernel) rfl ?_
  refine k_new (idx := 32) (c9 := 2) (fs9 := [.null, .null, .null, .int 0, .int 0, .int 0, .int 0, .int 0]) (by decide +kernel) tyX2 tyX2_ok i_X2 rfl kc_X5_32 kn_X2 kj_X2 (fun j hj => by rcases (show j = 0 ∨ j = 1 ∨ j = 2 ∨ j = 3 ∨ j = 4 ∨ j = 5 ∨ j = 6 ∨ j = 7 by omega) with rfl | rfl | rfl | rfl | rfl | rfl | rfl | rfl <;> rfl) (by decide) (by decide) (fun q60 => ?_)
  refine k_dup (by decide +kernel) ?_
  refine k_cN (idx := 34) (host := "NoonSaws") (by decide +kernel) rk_X2 fnk_X2 ink_X2 rfl (fun U h => h.2.2.2.2.2.1) ⟨by decide, by decide⟩ ⟨(by decide), (by decide)⟩ (Nat.le_of_ble_eq_true rfl) (fun T64 hT64 => ?_)
  obtain ⟨m0, g0, x0, y0, rfl⟩ := hT64
  refine k_putF (idx := 35) (k := 6) (by decide +kernel) tyX5 tyX5_ok nmX5 rfl i_X5 (by decide) kf_X5_35 rfl rfl rfl rfl (Nat.le_of_ble_eq_true rfl) ?_
  refine k_al (k := 0) 0 (by decide +kernel) rfl ?_
  refine k_new (idx := 32) (c9 := 2) (fs9 := [.null, .null, .null, .int 0, .int 0, .int 0, .int 0, .int 0]) (by decide +kernel) tyX2 tyX2_ok i_X2 rfl kc_X5_32 kn_X2 kj_X2 (fun j hj => by rcases (show j = 0 ∨ j = 1 ∨ j = 2 ∨ j = 3 ∨ j = 4 ∨ j = 5 ∨ j = 6 ∨ j = 7 by omega) with rfl | rfl | rfl | rfl | rfl | rfl | rfl | rfl <;> rfl) (by decide) (by decide) (fun q71 => ?_)
  refine k_dup (by decide +kernel) ?_
  refine k_cN (idx := 34) (host := "NoonSaws") (by decide +kernel) rk_X2 fnk_X2 ink_X2 rfl (fun U h => h.2.2.2.2.2.1) ⟨by decide, by decide⟩ ⟨(by decide), (by decide)⟩ (Nat.le_of_ble_eq_true rfl) (fun T75 hT75 => ?_)
  obtain ⟨m1, g1, x1, y1, rfl⟩ := hT75
  refine k_putF (idx := 39) (k := 7) (by decide +kernel) tyX5 tyX5_ok nmX5 rfl i_X5 (by decide) kf_X5_39 rfl rfl rfl rfl (Nat.le_of_ble_eq_true rfl) ?_
  refine k_al (k := 0) 0 (by decide +kernel) rfl ?_
  refine k_new (idx := 42) (c9 := 4) (fs9 := [.null, .int 0, .int 0]) (by decide +kernel) tyX4 tyX4_ok i_X4 rfl kc_X5_42 kn_X4 kj_X4 (fun j hj => by rcases (show j = 0 ∨ j = 1 ∨ j = 2 by omega) with rfl | rfl | rfl <;> rfl) (by decide) (by decide) (fun q82 => ?_)
  refine k_dup (by decide +kernel) ?_
  refine k_cN (idx := 44) (host := "NoonSaws") (by decide +kernel) rk_X4 fnk_X4 ink_X4 rfl (fun U h => h.2.2.2.2.2.2.2.1) ⟨by decide, by decide⟩ ⟨(by decide), (by decide)⟩ (Nat.le_of_ble_eq_true rfl) (fun T86 hT86 => ?_)
  obtain ⟨tq, rfl⟩ := hT86
  refine k_putF (idx := 45) (k := 8) (by decide +kernel) tyX5 tyX5_ok nmX5 rfl i_X5 (by decide) kf_X5_45 rfl rfl rfl rfl (Nat.le_of_ble_eq_true rfl) ?_
  refine k_al (k := 0) 0 (by decide +kernel) rfl ?_
  refine k_ic (z := 4) (by decide +kernel) ?_
  refine k_newq (idx := 49) (t0 := 4) (N' := 4) (by decide +kernel) kc_X5_49 (fun U h => h.2.2.1) rfl (by decide) (by decide) (by decide) (by decide) (by decide) (fun q94 => ?_)
  refine k_putF (idx := 51) (k := 9) (by decide +kernel) tyX5 tyX5_ok nmX5 rfl i_X5 (by decide) kf_X5_51 rfl rfl rfl rfl (Nat.le_of_ble_eq_true rfl) ?_
  refine k_ic (z := 0) (by decide +kernel) ?_
  refine k_ist (k := 1) (by decide +kernel) (by decide) rfl ?_
  have loop : ∀ (T0 : va_W), (∀ hl : List (Nat × Nat), hl.length = 4 → kF5 cA a ((a, .inr (5, [.ref q5, .ref q16, .ref q27, .ref q38, .int 0, .ref q49, .ref q60, .ref q71, .ref q82, .ref q94])) :: (T0 ++ (q94, .inl (cA 4, 4, .inr (.inr (.inr (.inr (k_pg hl)))))) :: k_hs cA hl))) → ∀ (d i : Nat) (hl : List (Nat × Nat)), i + d = 4 → hl.length = i → k_V MK_X5 189 1219 D cA A Wd a kF5 5 102 [(1, .int (nI i)), (0, .ref a)] [] [.ref q5, .ref q16, .ref q27, .ref q38, .int 0, .ref q49, .ref q60, .ref q71, .ref q82, .ref q94] (T0 ++ (q94, .inl (cA 4, 4, .inr (.inr (.inr (.inr (k_pg hl)))))) :: k_hs cA hl) (181 + 2 * i) (1111 + 27 * i) := by
    intro T0 fin d
    induction d with
    | zero =>
      intro i hl hi hp
      have e : i = 4 := by omega
      subst e
      refine k_il (k := 1) 0 (by decide +kernel) rfl ?_
      refine k_ic (z := 4) (by decide +kernel) ?_
      rw [k_e4]
      refine k_ge (off := 22) (tgt := 126) (by decide +kernel) (by decide) (fun _ => ?_) (fun c => absurd (nI_le (Nat.le_refl 4) (by decide)) c)
      exact k_ret (by decide +kernel) rfl (by decide) (by decide) (fin hl hp)
    | succ d ih =>
      intro i hl hi hp
      refine k_il (k := 1) 0 (by decide +kernel) rfl ?_
      refine k_ic (z := 4) (by decide +kernel) ?_
      rw [k_e4]
      refine k_ge (off := 22) (tgt := 126) (by decide +kernel) (by decide) (fun c => absurd c (nI_ge (by omega) (by decide))) (fun _ => ?_)
      refine k_al (k := 0) 1 (by decide +kernel) rfl ?_
      refine k_get (idx := 51) (k := 9) (by decide +kernel) rfl i_X5 (by decide) kf_X5_51 rfl ?_
      refine k_il (k := 1) 0 (by decide +kernel) rfl ?_
      refine k_new (idx := 49) (c9 := 3) (fs9 := [.null, .int 0, .int 0]) (by decide +kernel) tyX3 tyX3_ok i_X3 rfl kc_X5_49 kn_X3 kj_X3 (fun j hj => by rcases (show j = 0 ∨ j = 1 ∨ j = 2 by omega) with rfl | rfl | rfl <;> rfl) (by show _ ≤ (_ : Nat); omega) (by show _ ≤ (_ : Nat); omega) (fun q112 => ?_)
      refine k_dup (by decide +kernel) ?_
      refine k_cN (idx := 55) (host := "NoonSaws") (by decide +kernel) rk_X3 fnk_X3 ink_X3 rfl (fun U h => h.2.2.2.2.2.2.2.2) ⟨by decide, by decide⟩ ⟨(by show _ ≤ (_ : Nat); omega), (by show _ ≤ (_ : Nat); omega)⟩ (Nat.le_of_ble_eq_true rfl) (fun T116 hT116 => ?_)
      obtain ⟨r, rfl⟩ := hT116
      refine k_aast (t0 := 4) T0.length (T0 ++ (q94, .inl (cA 4, 4, .inr (.inr (.inr (.inr (k_pg hl)))))) :: k_hs cA hl : va_W).length (by decide +kernel) (by rw [k_ap]; exact k_i0) rfl k_i0 rfl (vp_in_nI (by omega) (by decide)) ?_
      rw [nI_clamp (by omega), k_pg_up (r := r) hp, k_ap, k_s0]
      refine k_inc (k := 1) (d := 1) 0 (by decide +kernel) rfl (k_e1 i) (by decide) rfl ?_
      refine k_go (off := -21) (tgt := 102) (by decide +kernel) (by decide) ?_
      have := ih (i + 1) (hl ++ [(q112, r)]) (by omega) (by simp [hp])
      rw [k_hs_ap] at this
      exact k_wd (by omega) (by omega) this
  exact k_wd (by decide) (by decide) (loop _ (fun hl hh => ⟨q5, f0, q16, r0, pl0, q27, f2, q38, r1, pl1, q49, f1, q60, m0, g0, x0, y0, q71, m1, g1, x1, y1, q82, tq, q94, hl, hp0, hp1, hh, rfl⟩) 4 0 [] rfl rfl)
/-- the reference's cells -/
def kM (cA : Nat → ClassId) (a q1 q2 q3 q4 q5 q6 q7 q8 q9 q10 : Nat) (g : Nat → Int32) : va_W :=
  [(a, .inr (6, [.ref q1, .ref q2, .ref q3, .int 0, .ref q4, .int 0, .int 0, .ref q5, .ref q6, .ref q7, .ref q8, .int 0, .ref q9, .ref q10, .int 0, .int 0])), (q1, .inl (cA 0, 4, .inl g)), k_i cA q2 4, (q3, .inl (cA 1, 96, .inr (.inl fun _ => 0))), k_i cA q4 80, (q5, .inl (cA 0, 171, .inl (upd (fun _ => 0) (Int32.ofInt 1).toNatClampNeg (Int32.ofInt 1)))), k_i cA q6 171, k_i cA q7 171, k_i cA q8 171, k_i cA q9 5, k_i cA q10 5]
def kF6 : k_F := fun cA a T => ∃ q1 q2 q3 q4 q5 q6 q7 q8 q9 q10 g, (∀ j, j < 4 → g j = Int32.ofInt (-1)) ∧ T = kM cA a q1 q2 q3 q4 q5 q6 q7 q8 q9 q10 g
set_option maxRecDepth 100000 in
set_option maxHeartbeats 4000000 in
theorem rk_X6 : k_R MK_X6 10 878 6 [.null, .null, .null, .int 0, .null, .int 0, .int 0, .null, .null, .null, .null, .int 0, .null, .null, .int 0, .int 0] kF6 := by
  refine k_of (by decide) rfl rfl (by decide) (fun D cA A Wd a => ?_)
  refine k_al (k := 0) 0 (by decide +kernel) rfl ?_
  refine k_obj (idx := 1) (by decide +kernel) ko_X6 ko_i ko_c (by decide) (by decide) ?_
  refine k_al (k := 0) 0 (by decide +kernel) rfl ?_
  refine k_ic (z := 4) (by decide +kernel) ?_
  refine k_newa (atype := .int) (t0 := 0) (N' := 4) (a0 := (4, .inl fun _ => 0)) (by decide +kernel) kw_int rfl rfl (fun _ => rfl) (by decide) (by decide) (by decide) (by decide) (by decide) (fun q6 => ?_)
  refine k_putF (idx := 7) (k := 0) (by decide +kernel) tyX6 tyX6_ok nmX6 rfl i_X6 (by decide) kf_X6_7 rfl rfl rfl rfl (Nat.le_of_ble_eq_true rfl) ?_
  refine k_al (k := 0) 0 (by decide +kernel) rfl ?_
  refine k_ic (z := 4) (by decide +kernel) ?_
  refine k_newa (atype := .int) (t0 := 0) (N' := 4) (a0 := (4, .inl fun _ => 0)) (by decide +kernel) kw_int rfl rfl (fun _ => rfl) (by decide) (by decide) (by decide) (by decide) (by decide) (fun q13 => ?_)
  refine k_putF (idx := 13) (k := 1) (by decide +kernel) tyX6 tyX6_ok nmX6 rfl i_X6 (by decide) kf_X6_13 rfl rfl rfl rfl (Nat.le_of_ble_eq_true rfl) ?_
  refine k_al (k := 0) 0 (by decide +kernel) rfl ?_
  refine k_bi (z := 96) (by decide +kernel) (by decide) ?_
  refine k_newa (atype := .long) (t0 := 1) (N' := 96) (a0 := (96, .inr (.inl fun _ => 0))) (by decide +kernel) kw_long rfl rfl (fun _ => rfl) (by decide) (by decide) (by decide) (by decide) (by decide) (fun q21 => ?_)
  refine k_putF (idx := 16) (k := 2) (by decide +kernel) tyX6 tyX6_ok nmX6 rfl i_X6 (by decide) kf_X6_16 rfl rfl rfl rfl (Nat.le_of_ble_eq_true rfl) ?_
  refine k_al (k := 0) 0 (by decide +kernel) rfl ?_
  refine k_bi (z := 80) (by decide +kernel) (by decide) ?_
  refine k_newa (atype := .int) (t0 := 0) (N' := 80) (a0 := (80, .inl fun _ => 0)) (by decide +kernel) kw_int rfl rfl (fun _ => rfl) (by decide) (by decide) (by decide) (by decide) (by decide) (fun q29 => ?_)
  refine k_putF (idx := 20) (k := 4) (by decide +kernel) tyX6 tyX6_ok nmX6 rfl i_X6 (by decide) kf_X6_20 rfl rfl rfl rfl (Nat.le_of_ble_eq_true rfl) ?_
  refine k_al (k := 0) 0 (by decide +kernel) rfl ?_
  refine k_si (z := 171) (by decide +kernel) (by decide) ?_
  refine k_newa (atype := .int) (t0 := 0) (N' := 171) (a0 := (171, .inl fun _ => 0)) (by decide +kernel) kw_int rfl rfl (fun _ => rfl) (by decide) (by decide) (by decide) (by decide) (by decide) (fun q38 => ?_)
  refine k_putF (idx := 23) (k := 7) (by decide +kernel) tyX6 tyX6_ok nmX6 rfl i_X6 (by decide) kf_X6_23 rfl rfl rfl rfl (Nat.le_of_ble_eq_true rfl) ?_
  refine k_al (k := 0) 0 (by decide +kernel) rfl ?_
  refine k_si (z := 171) (by decide +kernel) (by decide) ?_
  refine k_newa (atype := .int) (t0 := 0) (N' := 171) (a0 := (171, .inl fun _ => 0)) (by decide +kernel) kw_int rfl rfl (fun _ => rfl) (by decide) (by decide) (by decide) (by decide) (by decide) (fun q47 => ?_)
  refine k_putF (idx := 26) (k := 8) (by decide +kernel) tyX6 tyX6_ok nmX6 rfl i_X6 (by decide) kf_X6_26 rfl rfl rfl rfl (Nat.le_of_ble_eq_true rfl) ?_
  refine k_al (k := 0) 0 (by decide +kernel) rfl ?_
  refine k_si (z := 171) (by decide +kernel) (by decide) ?_
  refine k_newa (atype := .int) (t0 := 0) (N' := 171) (a0 := (171, .inl fun _ => 0)) (by decide +kernel) kw_int rfl rfl (fun _ => rfl) (by decide) (by decide) (by decide) (by decide) (by decide) (fun q56 => ?_)
  refine k_putF (idx := 29) (k := 9) (by decide +kernel) tyX6 tyX6_ok nmX6 rfl i_X6 (by decide) kf_X6_29 rfl rfl rfl rfl (Nat.le_of_ble_eq_true rfl) ?_
  refine k_al (k := 0) 0 (by decide +kernel) rfl ?_
  refine k_si (z := 171) (by decide +kernel) (by decide) ?_
  refine k_newa (atype := .int) (t0 := 0) (N' := 171) (a0 := (171, .inl fun _ => 0)) (by decide +kernel) kw_int rfl rfl (fun _ => rfl) (by decide) (by decide) (by decide) (by decide) (by decide) (fun q65 => ?_)
  refine k_putF (idx := 32) (k := 10) (by decide +kernel) tyX6 tyX6_ok nmX6 rfl i_X6 (by decide) kf_X6_32 rfl rfl rfl rfl (Nat.le_of_ble_eq_true rfl) ?_
  refine k_al (k := 0) 0 (by decide +kernel) rfl ?_
  refine k_ic (z := 5) (by decide +kernel) ?_
  refine k_newa (atype := .int) (t0 := 0) (N' := 5) (a0 := (5, .inl fun _ => 0)) (by decide +kernel) kw_int rfl rfl (fun _ => rfl) (by decide) (by decide) (by decide) (by decide) (by decide) (fun q72 => ?_)
  refine k_putF (idx := 35) (k := 12) (by decide +kernel) tyX6 tyX6_ok nmX6 rfl i_X6 (by decide) kf_X6_35 rfl rfl rfl rfl (Nat.le_of_ble_eq_true rfl) ?_
  refine k_al (k := 0) 0 (by decide +kernel) rfl ?_
  refine k_ic (z := 5) (by decide +kernel) ?_
  refine k_newa (atype := .int) (t0 := 0) (N' := 5) (a0 := (5, .inl fun _ => 0)) (by decide +kernel) kw_int rfl rfl (fun _ => rfl) (by decide) (by decide) (by decide) (by decide) (by decide) (fun q79 => ?_)
  refine k_putF (idx := 38) (k := 13) (by decide +kernel) tyX6 tyX6_ok nmX6 rfl i_X6 (by decide) kf_X6_38 rfl rfl rfl rfl (Nat.le_of_ble_eq_true rfl) ?_
  refine k_ic (z := 0) (by decide +kernel) ?_
  refine k_ist (k := 1) (by decide +kernel) (by decide) rfl ?_
  have loop : ∀ (d i : Nat) (g : Nat → Int32), i + d = 4 → (∀ j, j < i → g j = Int32.ofInt (-1)) → k_V MK_X6 10 878 D cA A Wd a kF6 6 86 [(1, .int (nI i)), (0, .ref a)] [] [.ref q6, .ref q13, .ref q21, .int 0, .ref q29, .int 0, .int 0, .ref q38, .ref q47, .ref q56, .ref q65, .int 0, .ref q72, .ref q79, .int 0, .int 0] [(q6, .inl (cA 0, 4, .inl g)), k_i cA q13 4, (q21, .inl (cA 1, 96, .inr (.inl fun _ => 0))), k_i cA q29 80, k_i cA q38 171, k_i cA q47 171, k_i cA q56 171, k_i cA q65 171, k_i cA q72 5, k_i cA q79 5] 10 878 := by
    intro d
    induction d with
    | zero =>
      intro i g hi hg
      have e : i = 4 := by omega
      subst e
      refine k_il (k := 1) 0 (by decide +kernel) rfl ?_
      refine k_ic (z := 4) (by decide +kernel) ?_
      rw [k_e4]
      refine k_ge (off := 16) (tgt := 104) (by decide +kernel) (by decide) (fun _ => ?_) (fun c => absurd (nI_le (Nat.le_refl 4) (by decide)) c)
      refine k_al (k := 0) 1 (by decide +kernel) rfl ?_
      refine k_get (idx := 23) (k := 7) (by decide +kernel) rfl i_X6 (by decide) kf_X6_23 rfl ?_
      refine k_ic (z := 1) (by decide +kernel) ?_
      refine k_ic (z := 1) (by decide +kernel) ?_
      refine k_iast 4 (by decide +kernel) rfl (by unfold vp_in; decide) ?_
      exact k_ret (by decide +kernel) rfl (by decide) (by decide) ⟨q6, q13, q21, q29, q38, q47, q56, q65, q72, q79, g, hg, rfl⟩
    | succ d ih =>
      intro i g hi hg
      refine k_il (k := 1) 0 (by decide +kernel) rfl ?_
      refine k_ic (z := 4) (by decide +kernel) ?_
      rw [k_e4]
      refine k_ge (off := 16) (tgt := 104) (by decide +kernel) (by decide) (fun c => absurd c (nI_ge (by omega) (by decide))) (fun _ => ?_)
      refine k_al (k := 0) 1 (by decide +kernel) rfl ?_
      refine k_get (idx := 7) (k := 0) (by decide +kernel) rfl i_X6 (by decide) kf_X6_7 rfl ?_
      refine k_il (k := 1) 0 (by decide +kernel) rfl ?_
      refine k_ic (z := -1) (by decide +kernel) ?_
      refine k_iast 0 (by decide +kernel) rfl (vp_in_nI (by omega) (by decide)) ?_
      rw [nI_clamp (by omega)]
      refine k_inc (k := 1) (d := 1) 0 (by decide +kernel) rfl (k_e1 i) (by decide) rfl ?_
      refine k_go (off := -15) (tgt := 86) (by decide +kernel) (by decide) ?_
      refine ih (i + 1) (upd g i (Int32.ofInt (-1))) (by omega) (fun j hj => ?_)
      unfold upd
      by_cases e : j = i
      · rw [if_pos e]
      · rw [if_neg e]; exact hg j (by omega)
  exact k_wd (by decide) (by decide) (loop 4 0 (fun _ => 0) rfl (fun j hj => absurd hj (by omega)))
