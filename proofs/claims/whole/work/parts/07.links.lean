/-! ===== printed by wip/whole/gen_tab.py: the words that the methods link, then for each method its descriptor, its program, and that the program is its code ===== -/
theorem nv_oc {M : nv_MD} {pc : Nat} {f : nv_Sem} {r : nv_Pg} (h : nv_Snd M pc f) (t : nv_ok_P M r) : nv_ok_P M ((pc, f) :: r) := fun q hq => (List.mem_cons.mp hq).elim (fun e => by subst e; exact h) (t q)
theorem nv_on {M : nv_MD} : nv_ok_P M [] := fun q hq => by cases hq
section nvLdcw
variable {M : nv_MD} {pc : Nat}
theorem n_ldc_w {i : Nat} {z : Int} (hd : decode (nv_c M) pc = .ok (.ldc_w i, 3)) (hw : Cond.constant (nv_own M) i (Int32.ofInt z) ∈ lw_tbl) : nv_Snd M pc (s_ki z (pc + 3)) := by
  intro lv stk h Q K hK hf X p l e s m args below meth c H locs ls C hP hD hS hl ho hk
  exact lv_ldcw C.1 C.2.1 C.2.2.2.2.2.1 (C.2.2.2.2.2.2.1 _ (nv_in hw rfl)) hd (hK _ _ _ _ hf X p l e s m args below meth c H locs ls C hP hD hS hl ho (List.forall_mem_cons.mpr ⟨trivial, hk⟩))
end nvLdcw
theorem i_X0 : ∀ w ∈ u_ws RX0 TX0 11, w ∈ lw_tbl := by decide +kernel
theorem i_X1 : ∀ w ∈ u_ws RX1 TX1 3, w ∈ lw_tbl := by decide +kernel
theorem i_X2 : ∀ w ∈ u_ws RX2 TX2 8, w ∈ lw_tbl := by decide +kernel
theorem i_X3 : ∀ w ∈ u_ws RX3 TX3 3, w ∈ lw_tbl := by decide +kernel
theorem i_X4 : ∀ w ∈ u_ws RX4 TX4 3, w ∈ lw_tbl := by decide +kernel
theorem i_X5 : ∀ w ∈ u_ws RX5 TX5 10, w ∈ lw_tbl := by decide +kernel
theorem i_X6 : ∀ w ∈ u_ws RX6 TX6 16, w ∈ lw_tbl := by decide +kernel
theorem w_nat : Cond.native arraycopyName ∈ lw_tbl := List.mem_of_getElem? (i := 462) (by decide +kernel)
theorem w_natst : Cond.static arraycopyName ∈ lw_tbl := List.mem_of_getElem? (i := 461) (by decide +kernel)
theorem w_natin : Cond.initialized "java/lang/System" ∈ lw_tbl := List.mem_of_getElem? (i := 57) (by decide +kernel)
theorem f_X0_37 : Cond.fieldLink RX0 37 (TX0 0).1 (TX0 0).2.1 (TX0 0).2.2.1 ∈ lw_tbl := List.mem_of_getElem? (i := 73) (by decide +kernel)
theorem f_X0_40 : Cond.fieldLink RX0 40 (TX0 1).1 (TX0 1).2.1 (TX0 1).2.2.1 ∈ lw_tbl := List.mem_of_getElem? (i := 77) (by decide +kernel)
theorem f_X0_43 : Cond.fieldLink RX0 43 (TX0 2).1 (TX0 2).2.1 (TX0 2).2.2.1 ∈ lw_tbl := List.mem_of_getElem? (i := 80) (by decide +kernel)
theorem f_X0_9 : Cond.fieldLink RX0 9 (TX0 3).1 (TX0 3).2.1 (TX0 3).2.2.1 ∈ lw_tbl := List.mem_of_getElem? (i := 82) (by decide +kernel)
theorem f_X0_22 : Cond.fieldLink RX0 22 (TX0 6).1 (TX0 6).2.1 (TX0 6).2.2.1 ∈ lw_tbl := List.mem_of_getElem? (i := 88) (by decide +kernel)
theorem l_X0_46 : Cond.methodLink RX0 46 arraycopyName ∈ lw_tbl := List.mem_of_getElem? (i := 460) (by decide +kernel)
theorem f_X0_28 : Cond.fieldLink RX0 28 (TX0 8).1 (TX0 8).2.1 (TX0 8).2.2.1 ∈ lw_tbl := List.mem_of_getElem? (i := 92) (by decide +kernel)
theorem f_X0_31 : Cond.fieldLink RX0 31 (TX0 9).1 (TX0 9).2.1 (TX0 9).2.2.1 ∈ lw_tbl := List.mem_of_getElem? (i := 94) (by decide +kernel)
theorem f_X0_15 : Cond.fieldLink RX0 15 (TX0 4).1 (TX0 4).2.1 (TX0 4).2.2.1 ∈ lw_tbl := List.mem_of_getElem? (i := 84) (by decide +kernel)
theorem f_X0_19 : Cond.fieldLink RX0 19 (TX0 5).1 (TX0 5).2.1 (TX0 5).2.2.1 ∈ lw_tbl := List.mem_of_getElem? (i := 86) (by decide +kernel)
theorem f_X0_25 : Cond.fieldLink RX0 25 (TX0 7).1 (TX0 7).2.1 (TX0 7).2.2.1 ∈ lw_tbl := List.mem_of_getElem? (i := 90) (by decide +kernel)
theorem l_X0_52 : Cond.methodLink RX0 52 yX0_takeMoment ∈ lw_tbl := List.mem_of_getElem? (i := 463) (by decide +kernel)
theorem l_X0_56 : Cond.methodLink RX0 56 Lib.Math.min.name ∈ lw_tbl := List.mem_of_getElem? (i := 523) (by decide +kernel)
theorem l_X0_66 : Cond.methodLink RX0 66 yX0_hoppersRest ∈ lw_tbl := List.mem_of_getElem? (i := 287) (by decide +kernel)
theorem l_X0_70 : Cond.methodLink RX0 70 yX0_cutBy ∈ lw_tbl := List.mem_of_getElem? (i := 291) (by decide +kernel)
theorem l_X0_62 : Cond.methodLink RX0 62 yX0_cutOf ∈ lw_tbl := List.mem_of_getElem? (i := 283) (by decide +kernel)
theorem l_X0_74 : Cond.methodLink RX0 74 Lib.Math.max.name ∈ lw_tbl := List.mem_of_getElem? (i := 498) (by decide +kernel)
theorem f_X0_34 : Cond.fieldLink RX0 34 (TX0 10).1 (TX0 10).2.1 (TX0 10).2.2.1 ∈ lw_tbl := List.mem_of_getElem? (i := 97) (by decide +kernel)
theorem l_X0_83 : Cond.methodLink RX0 83 yX0_plankMostLeft ∈ lw_tbl := List.mem_of_getElem? (i := 507) (by decide +kernel)
theorem l_X0_77 : Cond.methodLink RX0 77 yX0_growBlunt ∈ lw_tbl := List.mem_of_getElem? (i := 499) (by decide +kernel)
theorem l_X0_80 : Cond.methodLink RX0 80 yX0_leaveFallen ∈ lw_tbl := List.mem_of_getElem? (i := 503) (by decide +kernel)
theorem l_X0_87 : Cond.methodLink RX0 87 yX0_passHour ∈ lw_tbl := List.mem_of_getElem? (i := 564) (by decide +kernel)
theorem k_X0_90 : Cond.constant RX0 90 (Int32.ofInt 1103515245) ∈ lw_tbl := List.mem_of_getElem? (i := 537) (by decide +kernel)
theorem k_X0_91 : Cond.constant RX0 91 (Int32.ofInt 2147483647) ∈ lw_tbl := List.mem_of_getElem? (i := 538) (by decide +kernel)
theorem k_X0_92 : Cond.constant RX0 92 (Int32.ofInt 65536) ∈ lw_tbl := List.mem_of_getElem? (i := 539) (by decide +kernel)
theorem l_X0_93 : Cond.methodLink RX0 93 yX0_leftOfAll ∈ lw_tbl := List.mem_of_getElem? (i := 593) (by decide +kernel)
theorem k_J6_265 : Cond.constant RJ6 265 (Int32.ofInt 1431655765) ∈ lw_tbl := List.mem_of_getElem? (i := 636) (by decide +kernel)
theorem k_J6_266 : Cond.constant RJ6 266 (Int32.ofInt 858993459) ∈ lw_tbl := List.mem_of_getElem? (i := 637) (by decide +kernel)
theorem k_J6_267 : Cond.constant RJ6 267 (Int32.ofInt 252645135) ∈ lw_tbl := List.mem_of_getElem? (i := 638) (by decide +kernel)
theorem l_X0_96 : Cond.methodLink RX0 96 yX0_fallenSet ∈ lw_tbl := List.mem_of_getElem? (i := 632) (by decide +kernel)
theorem l_X0_99 : Cond.methodLink RX0 99 yJ6_bitCount_0f7a4 ∈ lw_tbl := List.mem_of_getElem? (i := 633) (by decide +kernel)
theorem f_X1_16 : Cond.fieldLink RX1 16 (TX1 1).1 (TX1 1).2.1 (TX1 1).2.2.1 ∈ lw_tbl := List.mem_of_getElem? (i := 132) (by decide +kernel)
theorem f_X1_11 : Cond.fieldLink RX1 11 (TX1 0).1 (TX1 0).2.1 (TX1 0).2.2.1 ∈ lw_tbl := List.mem_of_getElem? (i := 131) (by decide +kernel)
theorem f_X1_20 : Cond.fieldLink RX1 20 (TX1 2).1 (TX1 2).2.1 (TX1 2).2.2.1 ∈ lw_tbl := List.mem_of_getElem? (i := 134) (by decide +kernel)
theorem l_X1_23 : Cond.methodLink RX1 23 yX0_takeMoment ∈ lw_tbl := List.mem_of_getElem? (i := 492) (by decide +kernel)
theorem l_X1_27 : Cond.methodLink RX1 27 Lib.Math.min.name ∈ lw_tbl := List.mem_of_getElem? (i := 493) (by decide +kernel)
theorem f_X2_25 : Cond.fieldLink RX2 25 (TX2 6).1 (TX2 6).2.1 (TX2 6).2.2.1 ∈ lw_tbl := List.mem_of_getElem? (i := 157) (by decide +kernel)
theorem f_X2_22 : Cond.fieldLink RX2 22 (TX2 2).1 (TX2 2).2.1 (TX2 2).2.2.1 ∈ lw_tbl := List.mem_of_getElem? (i := 152) (by decide +kernel)
theorem f_X2_12 : Cond.fieldLink RX2 12 (TX2 0).1 (TX2 0).2.1 (TX2 0).2.2.1 ∈ lw_tbl := List.mem_of_getElem? (i := 150) (by decide +kernel)
theorem f_X2_56 : Cond.fieldLink RX2 56 (TX0 1).1 (TX0 1).2.1 (TX0 1).2.2.1 ∈ lw_tbl := List.mem_of_getElem? (i := 78) (by decide +kernel)
theorem f_X2_18 : Cond.fieldLink RX2 18 (TX2 1).1 (TX2 1).2.1 (TX2 1).2.2.1 ∈ lw_tbl := List.mem_of_getElem? (i := 151) (by decide +kernel)
theorem f_X2_75 : Cond.fieldLink RX2 75 (TX0 9).1 (TX0 9).2.1 (TX0 9).2.2.1 ∈ lw_tbl := List.mem_of_getElem? (i := 95) (by decide +kernel)
theorem l_X2_69 : Cond.methodLink RX2 69 yX2_movesNow ∈ lw_tbl := List.mem_of_getElem? (i := 622) (by decide +kernel)
theorem f_X2_44 : Cond.fieldLink RX2 44 (TX2 5).1 (TX2 5).2.1 (TX2 5).2.2.1 ∈ lw_tbl := List.mem_of_getElem? (i := 155) (by decide +kernel)
theorem l_X2_72 : Cond.methodLink RX2 72 yX0_takeMoment ∈ lw_tbl := List.mem_of_getElem? (i := 626) (by decide +kernel)
theorem l_X2_78 : Cond.methodLink RX2 78 arraycopyName ∈ lw_tbl := List.mem_of_getElem? (i := 627) (by decide +kernel)
theorem f_X2_33 : Cond.fieldLink RX2 33 (TX2 4).1 (TX2 4).2.1 (TX2 4).2.2.1 ∈ lw_tbl := List.mem_of_getElem? (i := 154) (by decide +kernel)
theorem l_X2_84 : Cond.methodLink RX2 84 yX0_standingBehind ∈ lw_tbl := List.mem_of_getElem? (i := 628) (by decide +kernel)
theorem l_X2_88 : Cond.methodLink RX2 88 Lib.Math.min.name ∈ lw_tbl := List.mem_of_getElem? (i := 639) (by decide +kernel)
theorem f_X2_51 : Cond.fieldLink RX2 51 (TX2 7).1 (TX2 7).2.1 (TX2 7).2.2.1 ∈ lw_tbl := List.mem_of_getElem? (i := 158) (by decide +kernel)
theorem l_X2_93 : Cond.methodLink RX2 93 yX0_noonWithin ∈ lw_tbl := List.mem_of_getElem? (i := 640) (by decide +kernel)
theorem f_X2_53 : Cond.fieldLink RX2 53 (TX0 0).1 (TX0 0).2.1 (TX0 0).2.2.1 ∈ lw_tbl := List.mem_of_getElem? (i := 74) (by decide +kernel)
theorem f_X2_29 : Cond.fieldLink RX2 29 (TX2 3).1 (TX2 3).2.1 (TX2 3).2.2.1 ∈ lw_tbl := List.mem_of_getElem? (i := 153) (by decide +kernel)
theorem l_X2_36 : Cond.methodLink RX2 36 yX0_isLike ∈ lw_tbl := List.mem_of_getElem? (i := 609) (by decide +kernel)
theorem l_X2_40 : Cond.methodLink RX2 40 yX0_takeAll ∈ lw_tbl := List.mem_of_getElem? (i := 613) (by decide +kernel)
theorem l_X2_47 : Cond.methodLink RX2 47 yX0_mostCut ∈ lw_tbl := List.mem_of_getElem? (i := 614) (by decide +kernel)
theorem l_X2_63 : Cond.methodLink RX2 63 yX2_weigh ∈ lw_tbl := List.mem_of_getElem? (i := 618) (by decide +kernel)
theorem l_X2_66 : Cond.methodLink RX2 66 yX2_toNextWay ∈ lw_tbl := List.mem_of_getElem? (i := 641) (by decide +kernel)
theorem f_X3_15 : Cond.fieldLink RX3 15 (TX3 1).1 (TX3 1).2.1 (TX3 1).2.2.1 ∈ lw_tbl := List.mem_of_getElem? (i := 202) (by decide +kernel)
theorem f_X3_19 : Cond.fieldLink RX3 19 (TX3 2).1 (TX3 2).2.1 (TX3 2).2.2.1 ∈ lw_tbl := List.mem_of_getElem? (i := 204) (by decide +kernel)
theorem f_X3_9 : Cond.fieldLink RX3 9 (TX3 0).1 (TX3 0).2.1 (TX3 0).2.2.1 ∈ lw_tbl := List.mem_of_getElem? (i := 200) (by decide +kernel)
theorem l_X3_22 : Cond.methodLink RX3 22 yX3_isNothing ∈ lw_tbl := List.mem_of_getElem? (i := 701) (by decide +kernel)
theorem l_X3_26 : Cond.methodLink RX3 26 yX3_lacks ∈ lw_tbl := List.mem_of_getElem? (i := 705) (by decide +kernel)
theorem f_X4_15 : Cond.fieldLink RX4 15 (TX4 1).1 (TX4 1).2.1 (TX4 1).2.2.1 ∈ lw_tbl := List.mem_of_getElem? (i := 183) (by decide +kernel)
theorem f_X4_11 : Cond.fieldLink RX4 11 (TX4 0).1 (TX4 0).2.1 (TX4 0).2.2.1 ∈ lw_tbl := List.mem_of_getElem? (i := 182) (by decide +kernel)
theorem f_X4_24 : Cond.fieldLink RX4 24 (TX4 2).1 (TX4 2).2.1 (TX4 2).2.2.1 ∈ lw_tbl := List.mem_of_getElem? (i := 184) (by decide +kernel)
theorem l_X4_73 : Cond.methodLink RX4 73 yX4_letterHere ∈ lw_tbl := List.mem_of_getElem? (i := 339) (by decide +kernel)
theorem l_X4_38 : Cond.methodLink RX4 38 yX4_nextLetter ∈ lw_tbl := List.mem_of_getElem? (i := 335) (by decide +kernel)
theorem l_X4_76 : Cond.methodLink RX4 76 yX4_valueOf ∈ lw_tbl := List.mem_of_getElem? (i := 343) (by decide +kernel)
theorem l_X4_48 : Cond.methodLink RX4 48 yX4_takeNumber ∈ lw_tbl := List.mem_of_getElem? (i := 331) (by decide +kernel)
theorem l_X4_31 : Cond.methodLink RX4 31 yX4_takes ∈ lw_tbl := List.mem_of_getElem? (i := 347) (by decide +kernel)
theorem l_X4_52 : Cond.methodLink RX4 52 yX4_takeDigit ∈ lw_tbl := List.mem_of_getElem? (i := 351) (by decide +kernel)
theorem l_X4_56 : Cond.methodLink RX4 56 yX0_addPlank ∈ lw_tbl := List.mem_of_getElem? (i := 355) (by decide +kernel)
theorem l_X4_45 : Cond.methodLink RX4 45 yX4_tellPlank ∈ lw_tbl := List.mem_of_getElem? (i := 327) (by decide +kernel)
theorem l_X4_65 : Cond.methodLink RX4 65 yJ0_indexOf_0f7a4 ∈ lw_tbl := List.mem_of_getElem? (i := 365) (by decide +kernel)
theorem l_X4_70 : Cond.methodLink RX4 70 yX0_addSawyer ∈ lw_tbl := List.mem_of_getElem? (i := 451) (by decide +kernel)
theorem f_X4_42 : Cond.fieldLink RX4 42 (TX0 0).1 (TX0 0).2.1 (TX0 0).2.2.1 ∈ lw_tbl := List.mem_of_getElem? (i := 75) (by decide +kernel)
theorem l_X4_60 : Cond.methodLink RX4 60 yX4_tellSawyer ∈ lw_tbl := List.mem_of_getElem? (i := 360) (by decide +kernel)
theorem l_X4_19 : Cond.methodLink RX4 19 yX0_empty ∈ lw_tbl := List.mem_of_getElem? (i := 319) (by decide +kernel)
theorem l_X4_27 : Cond.methodLink RX4 27 yX4_tellPlanks ∈ lw_tbl := List.mem_of_getElem? (i := 323) (by decide +kernel)
theorem l_X4_35 : Cond.methodLink RX4 35 yX4_tellSawyers ∈ lw_tbl := List.mem_of_getElem? (i := 356) (by decide +kernel)
theorem l_X5_56 : Cond.methodLink RX5 56 yX5_outside ∈ lw_tbl := List.mem_of_getElem? (i := 248) (by decide +kernel)
theorem f_X5_12 : Cond.fieldLink RX5 12 (TX5 0).1 (TX5 0).2.1 (TX5 0).2.2.1 ∈ lw_tbl := List.mem_of_getElem? (i := 213) (by decide +kernel)
theorem l_X5_60 : Cond.methodLink RX5 60 yX0_addPlank ∈ lw_tbl := List.mem_of_getElem? (i := 251) (by decide +kernel)
theorem f_X5_19 : Cond.fieldLink RX5 19 (TX5 1).1 (TX5 1).2.1 (TX5 1).2.2.1 ∈ lw_tbl := List.mem_of_getElem? (i := 214) (by decide +kernel)
theorem l_X5_64 : Cond.methodLink RX5 64 yX1_forget ∈ lw_tbl := List.mem_of_getElem? (i := 255) (by decide +kernel)
theorem l_X5_67 : Cond.methodLink RX5 67 yX0_addSawyer ∈ lw_tbl := List.mem_of_getElem? (i := 263) (by decide +kernel)
theorem f_X5_125 : Cond.fieldLink RX5 125 (TX0 0).1 (TX0 0).2.1 (TX0 0).2.2.1 ∈ lw_tbl := List.mem_of_getElem? (i := 76) (by decide +kernel)
theorem l_X5_70 : Cond.methodLink RX5 70 yX5_noPlank ∈ lw_tbl := List.mem_of_getElem? (i := 271) (by decide +kernel)
theorem f_X5_74 : Cond.fieldLink RX5 74 (TX0 4).1 (TX0 4).2.1 (TX0 4).2.2.1 ∈ lw_tbl := List.mem_of_getElem? (i := 85) (by decide +kernel)
theorem f_X5_78 : Cond.fieldLink RX5 78 (TX0 5).1 (TX0 5).2.1 (TX0 5).2.2.1 ∈ lw_tbl := List.mem_of_getElem? (i := 87) (by decide +kernel)
theorem f_X5_81 : Cond.fieldLink RX5 81 (TX0 6).1 (TX0 6).2.1 (TX0 6).2.2.1 ∈ lw_tbl := List.mem_of_getElem? (i := 89) (by decide +kernel)
theorem l_X5_84 : Cond.methodLink RX5 84 yX0_sittersOn ∈ lw_tbl := List.mem_of_getElem? (i := 275) (by decide +kernel)
theorem l_X5_88 : Cond.methodLink RX5 88 yX0_cutByAll ∈ lw_tbl := List.mem_of_getElem? (i := 279) (by decide +kernel)
theorem f_X5_128 : Cond.fieldLink RX5 128 (TX0 1).1 (TX0 1).2.1 (TX0 1).2.2.1 ∈ lw_tbl := List.mem_of_getElem? (i := 79) (by decide +kernel)
theorem l_X5_91 : Cond.methodLink RX5 91 yX5_noSawyer ∈ lw_tbl := List.mem_of_getElem? (i := 298) (by decide +kernel)
theorem f_X5_94 : Cond.fieldLink RX5 94 (TX0 7).1 (TX0 7).2.1 (TX0 7).2.2.1 ∈ lw_tbl := List.mem_of_getElem? (i := 91) (by decide +kernel)
theorem f_X5_97 : Cond.fieldLink RX5 97 (TX0 8).1 (TX0 8).2.1 (TX0 8).2.2.1 ∈ lw_tbl := List.mem_of_getElem? (i := 93) (by decide +kernel)
theorem f_X5_100 : Cond.fieldLink RX5 100 (TX0 9).1 (TX0 9).2.1 (TX0 9).2.2.1 ∈ lw_tbl := List.mem_of_getElem? (i := 96) (by decide +kernel)
theorem l_X5_103 : Cond.methodLink RX5 103 yX0_cutOf ∈ lw_tbl := List.mem_of_getElem? (i := 302) (by decide +kernel)
theorem f_X5_45 : Cond.fieldLink RX5 45 (TX5 8).1 (TX5 8).2.1 (TX5 8).2.2.1 ∈ lw_tbl := List.mem_of_getElem? (i := 221) (by decide +kernel)
theorem l_X5_106 : Cond.methodLink RX5 106 yX4_addLetter ∈ lw_tbl := List.mem_of_getElem? (i := 307) (by decide +kernel)
theorem f_X5_29 : Cond.fieldLink RX5 29 (TX5 5).1 (TX5 5).2.1 (TX5 5).2.2.1 ∈ lw_tbl := List.mem_of_getElem? (i := 218) (by decide +kernel)
theorem l_X5_110 : Cond.methodLink RX5 110 yX4_tellNoon ∈ lw_tbl := List.mem_of_getElem? (i := 315) (by decide +kernel)
theorem l_X5_114 : Cond.methodLink RX5 114 yX4_wipe ∈ lw_tbl := List.mem_of_getElem? (i := 452) (by decide +kernel)
theorem f_X5_117 : Cond.fieldLink RX5 117 (TX0 3).1 (TX0 3).2.1 (TX0 3).2.2.1 ∈ lw_tbl := List.mem_of_getElem? (i := 83) (by decide +kernel)
theorem l_X5_121 : Cond.methodLink RX5 121 yX0_takeAll ∈ lw_tbl := List.mem_of_getElem? (i := 456) (by decide +kernel)
theorem f_X5_131 : Cond.fieldLink RX5 131 (TX0 2).1 (TX0 2).2.1 (TX0 2).2.2.1 ∈ lw_tbl := List.mem_of_getElem? (i := 81) (by decide +kernel)
theorem l_X5_134 : Cond.methodLink RX5 134 yX0_fallenSet ∈ lw_tbl := List.mem_of_getElem? (i := 472) (by decide +kernel)
theorem l_X5_138 : Cond.methodLink RX5 138 yX0_leftOfAll ∈ lw_tbl := List.mem_of_getElem? (i := 476) (by decide +kernel)
theorem l_X5_141 : Cond.methodLink RX5 141 yX0_teethOfAll ∈ lw_tbl := List.mem_of_getElem? (i := 480) (by decide +kernel)
theorem f_X5_144 : Cond.fieldLink RX5 144 (TX1 1).1 (TX1 1).2.1 (TX1 1).2.2.1 ∈ lw_tbl := List.mem_of_getElem? (i := 133) (by decide +kernel)
theorem l_X5_147 : Cond.methodLink RX5 147 yX1_keep ∈ lw_tbl := List.mem_of_getElem? (i := 488) (by decide +kernel)
theorem l_X5_150 : Cond.methodLink RX5 150 yX0_passHour ∈ lw_tbl := List.mem_of_getElem? (i := 494) (by decide +kernel)
theorem l_X5_154 : Cond.methodLink RX5 154 yX0_addTeeth ∈ lw_tbl := List.mem_of_getElem? (i := 519) (by decide +kernel)
theorem l_X5_158 : Cond.methodLink RX5 158 Lib.Math.min.name ∈ lw_tbl := List.mem_of_getElem? (i := 528) (by decide +kernel)
theorem l_X5_164 : Cond.methodLink RX5 164 yX0_drawAndSet ∈ lw_tbl := List.mem_of_getElem? (i := 533) (by decide +kernel)
theorem l_X5_167 : Cond.methodLink RX5 167 yX1_giveBack ∈ lw_tbl := List.mem_of_getElem? (i := 544) (by decide +kernel)
theorem l_X5_194 : Cond.methodLink RX5 194 yX0_passHours ∈ lw_tbl := List.mem_of_getElem? (i := 560) (by decide +kernel)
theorem l_X5_171 : Cond.methodLink RX5 171 yX5_foretell ∈ lw_tbl := List.mem_of_getElem? (i := 556) (by decide +kernel)
theorem l_X5_263 : Cond.methodLink RX5 263 yX0_mostCut ∈ lw_tbl := List.mem_of_getElem? (i := 585) (by decide +kernel)
theorem l_X5_266 : Cond.methodLink RX5 266 yX0_noonWithin ∈ lw_tbl := List.mem_of_getElem? (i := 589) (by decide +kernel)
theorem l_X5_188 : Cond.methodLink RX5 188 yX5_orNone ∈ lw_tbl := List.mem_of_getElem? (i := 594) (by decide +kernel)
theorem l_X5_175 : Cond.methodLink RX5 175 yX5_noonOfTrial ∈ lw_tbl := List.mem_of_getElem? (i := 581) (by decide +kernel)
theorem l_X5_178 : Cond.methodLink RX5 178 yX5_nothingToSet ∈ lw_tbl := List.mem_of_getElem? (i := 601) (by decide +kernel)
theorem f_X5_35 : Cond.fieldLink RX5 35 (TX5 6).1 (TX5 6).2.1 (TX5 6).2.2.1 ∈ lw_tbl := List.mem_of_getElem? (i := 219) (by decide +kernel)
theorem l_X5_181 : Cond.methodLink RX5 181 yX2_make ∈ lw_tbl := List.mem_of_getElem? (i := 605) (by decide +kernel)
theorem f_X5_185 : Cond.fieldLink RX5 185 (TX2 5).1 (TX2 5).2.1 (TX2 5).2.2.1 ∈ lw_tbl := List.mem_of_getElem? (i := 156) (by decide +kernel)
theorem l_X5_191 : Cond.methodLink RX5 191 yX2_told ∈ lw_tbl := List.mem_of_getElem? (i := 645) (by decide +kernel)
theorem f_X5_39 : Cond.fieldLink RX5 39 (TX5 7).1 (TX5 7).2.1 (TX5 7).2.2.1 ∈ lw_tbl := List.mem_of_getElem? (i := 220) (by decide +kernel)
theorem l_X5_269 : Cond.methodLink RX5 269 Lib.Math.max.name ∈ lw_tbl := List.mem_of_getElem? (i := 674) (by decide +kernel)
theorem l_X5_197 : Cond.methodLink RX5 197 yJ6_bitCount_0f7a4 ∈ lw_tbl := List.mem_of_getElem? (i := 669) (by decide +kernel)
theorem l_X5_202 : Cond.methodLink RX5 202 yX5_power ∈ lw_tbl := List.mem_of_getElem? (i := 670) (by decide +kernel)
theorem l_X5_205 : Cond.methodLink RX5 205 yX5_sharedDivisor ∈ lw_tbl := List.mem_of_getElem? (i := 671) (by decide +kernel)
theorem f_X5_23 : Cond.fieldLink RX5 23 (TX5 2).1 (TX5 2).2.1 (TX5 2).2.2.1 ∈ lw_tbl := List.mem_of_getElem? (i := 215) (by decide +kernel)
theorem f_X5_26 : Cond.fieldLink RX5 26 (TX5 3).1 (TX5 3).2.1 (TX5 3).2.2.1 ∈ lw_tbl := List.mem_of_getElem? (i := 216) (by decide +kernel)
theorem l_X5_208 : Cond.methodLink RX5 208 yX1_takePast ∈ lw_tbl := List.mem_of_getElem? (i := 679) (by decide +kernel)
theorem f_X5_212 : Cond.fieldLink RX5 212 (TX5 4).1 (TX5 4).2.1 (TX5 4).2.2.1 ∈ lw_tbl := List.mem_of_getElem? (i := 217) (by decide +kernel)
theorem f_X5_253 : Cond.fieldLink RX5 253 (TX3 0).1 (TX3 0).2.1 (TX3 0).2.2.1 ∈ lw_tbl := List.mem_of_getElem? (i := 201) (by decide +kernel)
theorem l_X5_216 : Cond.methodLink RX5 216 yX5_noSheet ∈ lw_tbl := List.mem_of_getElem? (i := 691) (by decide +kernel)
theorem l_X5_219 : Cond.methodLink RX5 219 yX5_noLane ∈ lw_tbl := List.mem_of_getElem? (i := 694) (by decide +kernel)
theorem f_X5_51 : Cond.fieldLink RX5 51 (TX5 9).1 (TX5 9).2.1 (TX5 9).2.2.1 ∈ lw_tbl := List.mem_of_getElem? (i := 222) (by decide +kernel)
theorem l_X5_222 : Cond.methodLink RX5 222 yX3_refusal ∈ lw_tbl := List.mem_of_getElem? (i := 697) (by decide +kernel)
theorem l_X5_225 : Cond.methodLink RX5 225 yX0_suppose ∈ lw_tbl := List.mem_of_getElem? (i := 709) (by decide +kernel)
theorem l_X5_229 : Cond.methodLink RX5 229 yX5_trialShows ∈ lw_tbl := List.mem_of_getElem? (i := 713) (by decide +kernel)
theorem l_X5_233 : Cond.methodLink RX5 233 yX3_put ∈ lw_tbl := List.mem_of_getElem? (i := 721) (by decide +kernel)
theorem l_X5_237 : Cond.methodLink RX5 237 yX3_begin ∈ lw_tbl := List.mem_of_getElem? (i := 729) (by decide +kernel)
theorem l_X5_240 : Cond.methodLink RX5 240 yX3_clear ∈ lw_tbl := List.mem_of_getElem? (i := 737) (by decide +kernel)
theorem l_X5_243 : Cond.methodLink RX5 243 yX3_isNothing ∈ lw_tbl := List.mem_of_getElem? (i := 749) (by decide +kernel)
theorem f_X5_246 : Cond.fieldLink RX5 246 (TX3 1).1 (TX3 1).2.1 (TX3 1).2.2.1 ∈ lw_tbl := List.mem_of_getElem? (i := 203) (by decide +kernel)
theorem l_X5_249 : Cond.methodLink RX5 249 yX3_lacks ∈ lw_tbl := List.mem_of_getElem? (i := 750) (by decide +kernel)
theorem l_X5_257 : Cond.methodLink RX5 257 arraycopyName ∈ lw_tbl := List.mem_of_getElem? (i := 751) (by decide +kernel)
theorem f_X6_23 : Cond.fieldLink RX6 23 (TX6 7).1 (TX6 7).2.1 (TX6 7).2.2.1 ∈ lw_tbl := List.mem_of_getElem? (i := 765) (by decide +kernel)
theorem l_X6_41 : Cond.methodLink RX6 41 yX6_in ∈ lw_tbl := List.mem_of_getElem? (i := 811) (by decide +kernel)
theorem l_X6_45 : Cond.methodLink RX6 45 yX6_addPlank ∈ lw_tbl := List.mem_of_getElem? (i := 814) (by decide +kernel)
theorem l_X6_49 : Cond.methodLink RX6 49 yX6_addSawyer ∈ lw_tbl := List.mem_of_getElem? (i := 821) (by decide +kernel)
theorem l_X6_52 : Cond.methodLink RX6 52 yX6_cuts ∈ lw_tbl := List.mem_of_getElem? (i := 839) (by decide +kernel)
theorem l_X6_56 : Cond.methodLink RX6 56 yX6_isPlank ∈ lw_tbl := List.mem_of_getElem? (i := 828) (by decide +kernel)
theorem l_X6_60 : Cond.methodLink RX6 60 yX6_sittersOn ∈ lw_tbl := List.mem_of_getElem? (i := 832) (by decide +kernel)
theorem l_X6_63 : Cond.methodLink RX6 63 yX6_cutsOn ∈ lw_tbl := List.mem_of_getElem? (i := 835) (by decide +kernel)
theorem l_X6_67 : Cond.methodLink RX6 67 yX6_isSawyer ∈ lw_tbl := List.mem_of_getElem? (i := 846) (by decide +kernel)
theorem f_X6_70 : Cond.fieldLink RX6 70 (TX6 3).1 (TX6 3).2.1 (TX6 3).2.2.1 ∈ lw_tbl := List.mem_of_getElem? (i := 761) (by decide +kernel)
theorem f_X6_20 : Cond.fieldLink RX6 20 (TX6 4).1 (TX6 4).2.1 (TX6 4).2.2.1 ∈ lw_tbl := List.mem_of_getElem? (i := 762) (by decide +kernel)
theorem f_X6_74 : Cond.fieldLink RX6 74 (TX6 5).1 (TX6 5).2.1 (TX6 5).2.2.1 ∈ lw_tbl := List.mem_of_getElem? (i := 763) (by decide +kernel)
theorem l_X6_77 : Cond.methodLink RX6 77 yX6_peek ∈ lw_tbl := List.mem_of_getElem? (i := 874) (by decide +kernel)
theorem f_X6_81 : Cond.fieldLink RX6 81 (TX6 6).1 (TX6 6).2.1 (TX6 6).2.2.1 ∈ lw_tbl := List.mem_of_getElem? (i := 764) (by decide +kernel)
theorem l_X6_84 : Cond.methodLink RX6 84 yX6_isDigit ∈ lw_tbl := List.mem_of_getElem? (i := 870) (by decide +kernel)
theorem l_X6_88 : Cond.methodLink RX6 88 yX6_isNumber ∈ lw_tbl := List.mem_of_getElem? (i := 866) (by decide +kernel)
theorem f_X6_29 : Cond.fieldLink RX6 29 (TX6 9).1 (TX6 9).2.1 (TX6 9).2.2.1 ∈ lw_tbl := List.mem_of_getElem? (i := 767) (by decide +kernel)
theorem l_X6_91 : Cond.methodLink RX6 91 yX6_isSign ∈ lw_tbl := List.mem_of_getElem? (i := 878) (by decide +kernel)
theorem l_X6_94 : Cond.methodLink RX6 94 yX6_kindBy ∈ lw_tbl := List.mem_of_getElem? (i := 886) (by decide +kernel)
theorem l_X6_97 : Cond.methodLink RX6 97 yX6_isPlankItem ∈ lw_tbl := List.mem_of_getElem? (i := 862) (by decide +kernel)
theorem l_X6_101 : Cond.methodLink RX6 101 yX6_isSawyerItem ∈ lw_tbl := List.mem_of_getElem? (i := 882) (by decide +kernel)
theorem l_X6_104 : Cond.methodLink RX6 104 yX6_isNoon ∈ lw_tbl := List.mem_of_getElem? (i := 858) (by decide +kernel)
theorem l_X6_107 : Cond.methodLink RX6 107 yX6_bring ∈ lw_tbl := List.mem_of_getElem? (i := 889) (by decide +kernel)
theorem l_X6_111 : Cond.methodLink RX6 111 yX6_fallen ∈ lw_tbl := List.mem_of_getElem? (i := 896) (by decide +kernel)
theorem l_X6_115 : Cond.methodLink RX6 115 yX6_leftOf ∈ lw_tbl := List.mem_of_getElem? (i := 899) (by decide +kernel)
theorem l_X6_118 : Cond.methodLink RX6 118 yX6_teeth ∈ lw_tbl := List.mem_of_getElem? (i := 902) (by decide +kernel)
theorem f_X6_35 : Cond.fieldLink RX6 35 (TX6 12).1 (TX6 12).2.1 (TX6 12).2.2.1 ∈ lw_tbl := List.mem_of_getElem? (i := 770) (by decide +kernel)
theorem l_X6_121 : Cond.methodLink RX6 121 yX6_has ∈ lw_tbl := List.mem_of_getElem? (i := 918) (by decide +kernel)
theorem l_X6_124 : Cond.methodLink RX6 124 yX6_isAll ∈ lw_tbl := List.mem_of_getElem? (i := 921) (by decide +kernel)
theorem l_X6_128 : Cond.methodLink RX6 128 yX6_thickestOf ∈ lw_tbl := List.mem_of_getElem? (i := 924) (by decide +kernel)
theorem l_X6_131 : Cond.methodLink RX6 131 yX6_note ∈ lw_tbl := List.mem_of_getElem? (i := 910) (by decide +kernel)
theorem l_X6_134 : Cond.methodLink RX6 134 yX6_hourIn ∈ lw_tbl := List.mem_of_getElem? (i := 914) (by decide +kernel)
theorem k_X6_138 : Cond.constantLong RX6 138 (Int64.ofInt 1103515245) ∈ lw_tbl := List.mem_of_getElem? (i := 943) (by decide +kernel)
theorem k_X6_140 : Cond.constantLong RX6 140 (Int64.ofInt 12345) ∈ lw_tbl := List.mem_of_getElem? (i := 944) (by decide +kernel)
theorem k_X6_142 : Cond.constantLong RX6 142 (Int64.ofInt 2147483648) ∈ lw_tbl := List.mem_of_getElem? (i := 945) (by decide +kernel)
theorem k_X6_144 : Cond.constant RX6 144 (Int32.ofInt 65536) ∈ lw_tbl := List.mem_of_getElem? (i := 946) (by decide +kernel)
theorem f_X6_26 : Cond.fieldLink RX6 26 (TX6 8).1 (TX6 8).2.1 (TX6 8).2.2.1 ∈ lw_tbl := List.mem_of_getElem? (i := 766) (by decide +kernel)
theorem l_X6_145 : Cond.methodLink RX6 145 yX6_begin ∈ lw_tbl := List.mem_of_getElem? (i := 959) (by decide +kernel)
theorem l_X6_148 : Cond.methodLink RX6 148 yX6_goOn ∈ lw_tbl := List.mem_of_getElem? (i := 963) (by decide +kernel)
theorem l_X6_152 : Cond.methodLink RX6 152 yX6_noonOf ∈ lw_tbl := List.mem_of_getElem? (i := 983) (by decide +kernel)
theorem f_X6_155 : Cond.fieldLink RX6 155 (TX6 14).1 (TX6 14).2.1 (TX6 14).2.2.1 ∈ lw_tbl := List.mem_of_getElem? (i := 772) (by decide +kernel)
theorem l_X6_158 : Cond.methodLink RX6 158 yX6_setBy ∈ lw_tbl := List.mem_of_getElem? (i := 999) (by decide +kernel)
theorem l_X6_161 : Cond.methodLink RX6 161 yX6_bits ∈ lw_tbl := List.mem_of_getElem? (i := 1003) (by decide +kernel)
theorem f_X6_164 : Cond.fieldLink RX6 164 (TX6 15).1 (TX6 15).2.1 (TX6 15).2.2.1 ∈ lw_tbl := List.mem_of_getElem? (i := 773) (by decide +kernel)
theorem f_X6_38 : Cond.fieldLink RX6 38 (TX6 13).1 (TX6 13).2.1 (TX6 13).2.2.1 ∈ lw_tbl := List.mem_of_getElem? (i := 771) (by decide +kernel)
theorem l_X6_167 : Cond.methodLink RX6 167 yX6_noBest ∈ lw_tbl := List.mem_of_getElem? (i := 991) (by decide +kernel)
theorem l_X6_170 : Cond.methodLink RX6 170 yX6_layBest ∈ lw_tbl := List.mem_of_getElem? (i := 995) (by decide +kernel)
theorem f_X6_32 : Cond.fieldLink RX6 32 (TX6 10).1 (TX6 10).2.1 (TX6 10).2.2.1 ∈ lw_tbl := List.mem_of_getElem? (i := 768) (by decide +kernel)
theorem f_X6_173 : Cond.fieldLink RX6 173 (TX6 11).1 (TX6 11).2.1 (TX6 11).2.2.1 ∈ lw_tbl := List.mem_of_getElem? (i := 769) (by decide +kernel)
theorem f_X6_7 : Cond.fieldLink RX6 7 (TX6 0).1 (TX6 0).2.1 (TX6 0).2.2.1 ∈ lw_tbl := List.mem_of_getElem? (i := 758) (by decide +kernel)
theorem f_X6_13 : Cond.fieldLink RX6 13 (TX6 1).1 (TX6 1).2.1 (TX6 1).2.2.1 ∈ lw_tbl := List.mem_of_getElem? (i := 759) (by decide +kernel)
theorem l_X6_177 : Cond.methodLink RX6 177 yX6_isPart ∈ lw_tbl := List.mem_of_getElem? (i := 1045) (by decide +kernel)
theorem f_X6_16 : Cond.fieldLink RX6 16 (TX6 2).1 (TX6 2).2.1 (TX6 2).2.2.1 ∈ lw_tbl := List.mem_of_getElem? (i := 760) (by decide +kernel)
theorem l_X6_180 : Cond.methodLink RX6 180 yX6_isSheet ∈ lw_tbl := List.mem_of_getElem? (i := 1038) (by decide +kernel)
theorem l_X6_183 : Cond.methodLink RX6 183 yX6_wrong ∈ lw_tbl := List.mem_of_getElem? (i := 1041) (by decide +kernel)
theorem l_X6_187 : Cond.methodLink RX6 187 yX6_isDust ∈ lw_tbl := List.mem_of_getElem? (i := 1048) (by decide +kernel)
theorem l_X6_191 : Cond.methodLink RX6 191 yX6_cutTo ∈ lw_tbl := List.mem_of_getElem? (i := 1056) (by decide +kernel)
theorem w_mathin : Cond.initialized "java/lang/Math" ∈ lw_tbl := List.mem_of_getElem? (i := 53) (by decide +kernel)
section nvMath
variable {M : nv_MD} {pc : Nat}
theorem w_maxs : Cond.static Lib.Math.max.name ∈ lw_tbl := List.mem_of_getElem? (i := 394) (by decide +kernel)
theorem w_maxc : Cond.code Lib.Math.max.name Lib.Math.max.code 2 (some .int) ∈ lw_tbl := List.mem_of_getElem? (i := 395) (by decide +kernel)
def s_max (nx : Nat) : nv_Sem := fun lv stk h _ K => match stk with
  | .inl y :: .inl x :: r => (match Nat.ble (nv_len r) 8 with
    | true => nv_InR x ∧ nv_InR y ∧ K nx lv (.inl (max x y) :: r) h
    | false => False)
  | _ => False
theorem n_max {idx : Nat} (hd : decode (nv_c M) pc = .ok (.invokestatic idx, 3)) (hl : Cond.methodLink (nv_own M) idx Lib.Math.max.name ∈ lw_tbl) (hfr : 1 ≤ (nv_rm M).frames) (hlo : 21 ≤ (nv_rm M).locals) : nv_Snd M pc (s_max (pc + 3)) := by
  intro lv stk h Q K hK hf X p l e s m args below meth c H locs ls C hP hD hS hl' ho hk
  unfold s_max at hf
  split at hf
  · next y x r =>
    split at hf
    · next hb =>
      obtain ⟨hx, hy, hf⟩ := hf
      have ht := C.2.2.2.2.2.2.1
      have hb := Nat.le_of_ble_eq_true hb
      refine va_mmax (rest := r.map (nv_tr X)) C.1 C.2.1 (C.2.2.2.1.trans hl'.1.symm) C.2.2.2.2.2.1 (ht _ (nv_in hl rfl)) (ht _ (nv_in w_maxs rfl)) (ht _ (nv_in w_mathin rfl)) (ht _ (nv_in w_maxc rfl)) hfr (by rw [nv_len_cat]; omega) (Nat.zero_le _) (Nat.zero_le _) hd ?_
      have e1 : (if Int32.ofInt x < Int32.ofInt y then Int32.ofInt y else Int32.ofInt x) = Int32.ofInt (max x y) := by
        by_cases hc : x < y
        · rw [if_pos ((nv_ltR hx hy).mpr hc), Int.max_eq_right (by omega)]
        · rw [if_neg (fun q => hc ((nv_ltR hx hy).mp q)), Int.max_eq_left (by omega)]
      rw [e1]
      exact hK _ _ _ _ hf X p l e s m args below meth c H locs ls C hP hD hS hl' ho (List.forall_mem_cons.mpr ⟨trivial, (List.forall_mem_cons.mp (List.forall_mem_cons.mp hk).2).2⟩)
    · exact hf.elim
  · exact hf.elim
theorem w_mins : Cond.static Lib.Math.min.name ∈ lw_tbl := List.mem_of_getElem? (i := 397) (by decide +kernel)
theorem w_minc : Cond.code Lib.Math.min.name Lib.Math.min.code 2 (some .int) ∈ lw_tbl := List.mem_of_getElem? (i := 398) (by decide +kernel)
def s_min (nx : Nat) : nv_Sem := fun lv stk h _ K => match stk with
  | .inl y :: .inl x :: r => (match Nat.ble (nv_len r) 8 with
    | true => nv_InR x ∧ nv_InR y ∧ K nx lv (.inl (min x y) :: r) h
    | false => False)
  | _ => False
theorem n_min {idx : Nat} (hd : decode (nv_c M) pc = .ok (.invokestatic idx, 3)) (hl : Cond.methodLink (nv_own M) idx Lib.Math.min.name ∈ lw_tbl) (hfr : 1 ≤ (nv_rm M).frames) (hlo : 21 ≤ (nv_rm M).locals) : nv_Snd M pc (s_min (pc + 3)) := by
  intro lv stk h Q K hK hf X p l e s m args below meth c H locs ls C hP hD hS hl' ho hk
  unfold s_min at hf
  split at hf
  · next y x r =>
    split at hf
    · next hb =>
      obtain ⟨hx, hy, hf⟩ := hf
      have ht := C.2.2.2.2.2.2.1
      have hb := Nat.le_of_ble_eq_true hb
      refine va_mmin (rest := r.map (nv_tr X)) C.1 C.2.1 (C.2.2.2.1.trans hl'.1.symm) C.2.2.2.2.2.1 (ht _ (nv_in hl rfl)) (ht _ (nv_in w_mins rfl)) (ht _ (nv_in w_mathin rfl)) (ht _ (nv_in w_minc rfl)) hfr (by rw [nv_len_cat]; omega) (Nat.zero_le _) (Nat.zero_le _) hd ?_
      have e1 : (if Int32.ofInt y < Int32.ofInt x then Int32.ofInt y else Int32.ofInt x) = Int32.ofInt (min x y) := by
        by_cases hc : y < x
        · rw [if_pos ((nv_ltR hy hx).mpr hc), Int.min_eq_right (by omega)]
        · rw [if_neg (fun q => hc ((nv_ltR hy hx).mp q)), Int.min_eq_left (by omega)]
      rw [e1]
      exact hK _ _ _ _ hf X p l e s m args below meth c H locs ls C hP hD hS hl' ho (List.forall_mem_cons.mpr ⟨trivial, (List.forall_mem_cons.mp (List.forall_mem_cons.mp hk).2).2⟩)
    · exact hf.elim
  · exact hf.elim
end nvMath
def M_J0_indexOf_0f7a4 : nv_MD := (RJ0, yJ0_indexOf_0f7a4, cJ0_indexOf_0f7a4, 2, (some .int), 6, 200)
theorem fn_J0_indexOf_0f7a4 : nv_fn M_J0_indexOf_0f7a4 1 := ⟨List.mem_of_getElem? (i := 368) (by decide +kernel), List.mem_of_getElem? (i := 51) (by decide +kernel), by decide +kernel⟩
theorem fv_J0_indexOf_0f7a4 : nv_fnV M_J0_indexOf_0f7a4 := ⟨List.mem_of_getElem? (i := 366) (by decide +kernel), List.mem_of_getElem? (i := 367) (by decide +kernel)⟩
