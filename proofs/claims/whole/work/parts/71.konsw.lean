/-! ===== printed by wip/whole/gen_kons.py out of konsw.txt: the constructors ===== -/
def MK_X0 : nv_MD := (RX0, yX0_init, cX0_init, 1, none, 1, 12)
theorem fnk_X0 : nv_fn (RX0, yX0_init, cX0_init, 1, none, 1, 12) 0 := ⟨List.mem_of_getElem? (i := 71) (by decide +kernel), List.mem_of_getElem? (i := 45) (by decide +kernel), by decide +kernel⟩
theorem ink_X0 : Cond.instanceMethod yX0_init ∈ lw_tbl := List.mem_of_getElem? (i := 70) (by decide +kernel)
theorem kn_X0 : Cond.instantiable RX0 11 ∈ lw_tbl := List.mem_of_getElem? (i := 68) (by decide +kernel)
theorem kj_X0 : Cond.initialized RX0 ∈ lw_tbl := List.mem_of_getElem? (i := 45) (by decide +kernel)
def MK_X1 : nv_MD := (RX1, yX1_init, cX1_init, 2, none, 2, 32)
theorem fnk_X1 : nv_fn (RX1, yX1_init, cX1_init, 2, none, 2, 32) 0 := ⟨List.mem_of_getElem? (i := 126) (by decide +kernel), List.mem_of_getElem? (i := 46) (by decide +kernel), by decide +kernel⟩
theorem ink_X1 : Cond.instanceMethod yX1_init ∈ lw_tbl := List.mem_of_getElem? (i := 125) (by decide +kernel)
theorem kn_X1 : Cond.instantiable RX1 3 ∈ lw_tbl := List.mem_of_getElem? (i := 123) (by decide +kernel)
theorem kj_X1 : Cond.initialized RX1 ∈ lw_tbl := List.mem_of_getElem? (i := 46) (by decide +kernel)
def MK_X2 : nv_MD := (RX2, yX2_init, cX2_init, 1, none, 2, 32)
theorem fnk_X2 : nv_fn (RX2, yX2_init, cX2_init, 1, none, 2, 32) 0 := ⟨List.mem_of_getElem? (i := 146) (by decide +kernel), List.mem_of_getElem? (i := 47) (by decide +kernel), by decide +kernel⟩
theorem ink_X2 : Cond.instanceMethod yX2_init ∈ lw_tbl := List.mem_of_getElem? (i := 145) (by decide +kernel)
theorem kn_X2 : Cond.instantiable RX2 8 ∈ lw_tbl := List.mem_of_getElem? (i := 143) (by decide +kernel)
theorem kj_X2 : Cond.initialized RX2 ∈ lw_tbl := List.mem_of_getElem? (i := 47) (by decide +kernel)
def MK_X3 : nv_MD := (RX3, yX3_init, cX3_init, 1, none, 1, 12)
theorem fnk_X3 : nv_fn (RX3, yX3_init, cX3_init, 1, none, 1, 12) 0 := ⟨List.mem_of_getElem? (i := 198) (by decide +kernel), List.mem_of_getElem? (i := 49) (by decide +kernel), by decide +kernel⟩
theorem ink_X3 : Cond.instanceMethod yX3_init ∈ lw_tbl := List.mem_of_getElem? (i := 197) (by decide +kernel)
theorem kn_X3 : Cond.instantiable RX3 3 ∈ lw_tbl := List.mem_of_getElem? (i := 195) (by decide +kernel)
theorem kj_X3 : Cond.initialized RX3 ∈ lw_tbl := List.mem_of_getElem? (i := 49) (by decide +kernel)
def MK_X4 : nv_MD := (RX4, yX4_init, cX4_init, 1, none, 1, 12)
theorem fnk_X4 : nv_fn (RX4, yX4_init, cX4_init, 1, none, 1, 12) 0 := ⟨List.mem_of_getElem? (i := 180) (by decide +kernel), List.mem_of_getElem? (i := 48) (by decide +kernel), by decide +kernel⟩
theorem ink_X4 : Cond.instanceMethod yX4_init ∈ lw_tbl := List.mem_of_getElem? (i := 179) (by decide +kernel)
theorem kn_X4 : Cond.instantiable RX4 3 ∈ lw_tbl := List.mem_of_getElem? (i := 177) (by decide +kernel)
theorem kj_X4 : Cond.initialized RX4 ∈ lw_tbl := List.mem_of_getElem? (i := 48) (by decide +kernel)
def MK_X5 : nv_MD := (RX5, yX5_init, cX5_init, 2, none, 3, 53)
theorem fnk_X5 : nv_fn (RX5, yX5_init, cX5_init, 2, none, 3, 53) 0 := ⟨List.mem_of_getElem? (i := 63) (by decide +kernel), List.mem_of_getElem? (i := 44) (by decide +kernel), by decide +kernel⟩
theorem ink_X5 : Cond.instanceMethod yX5_init ∈ lw_tbl := List.mem_of_getElem? (i := 62) (by decide +kernel)
theorem kn_X5 : Cond.instantiable RX5 10 ∈ lw_tbl := List.mem_of_getElem? (i := 60) (by decide +kernel)
theorem kj_X5 : Cond.initialized RX5 ∈ lw_tbl := List.mem_of_getElem? (i := 44) (by decide +kernel)
def MK_X6 : nv_MD := (RX6, yX6_init, cX6_init, 2, none, 1, 12)
theorem fnk_X6 : nv_fn (RX6, yX6_init, cX6_init, 2, none, 1, 12) 0 := ⟨List.mem_of_getElem? (i := 756) (by decide +kernel), List.mem_of_getElem? (i := 50) (by decide +kernel), by decide +kernel⟩
theorem ink_X6 : Cond.instanceMethod yX6_init ∈ lw_tbl := List.mem_of_getElem? (i := 755) (by decide +kernel)
theorem kn_X6 : Cond.instantiable RX6 16 ∈ lw_tbl := List.mem_of_getElem? (i := 753) (by decide +kernel)
theorem kj_X6 : Cond.initialized RX6 ∈ lw_tbl := List.mem_of_getElem? (i := 50) (by decide +kernel)
theorem ko_i : Cond.instanceMethod objectInit ∈ lw_tbl := List.mem_of_getElem? (i := 65) (by decide +kernel)
theorem ko_c : Cond.code objectInit ⟨#[0xb1]⟩ 1 none ∈ lw_tbl := List.mem_of_getElem? (i := 66) (by decide +kernel)
theorem kw_int : Cond.arrayClass .int ∈ lw_tbl := List.mem_of_getElem? (i := 121) (by decide +kernel)
theorem kw_long : Cond.arrayClass .long ∈ lw_tbl := List.mem_of_getElem? (i := 212) (by decide +kernel)
theorem kw_char : Cond.arrayClass .char ∈ lw_tbl := List.mem_of_getElem? (i := 192) (by decide +kernel)
theorem ko_X0 : Cond.methodLink RX0 3 objectInit ∈ lw_tbl := List.mem_of_getElem? (i := 72) (by decide +kernel)
theorem kf_X0_9 : Cond.fieldLink RX0 9 (TX0 3).1 (TX0 3).2.1 (TX0 3).2.2.1 ∈ lw_tbl := List.mem_of_getElem? (i := 82) (by decide +kernel)
theorem kf_X0_15 : Cond.fieldLink RX0 15 (TX0 4).1 (TX0 4).2.1 (TX0 4).2.2.1 ∈ lw_tbl := List.mem_of_getElem? (i := 84) (by decide +kernel)
theorem kf_X0_19 : Cond.fieldLink RX0 19 (TX0 5).1 (TX0 5).2.1 (TX0 5).2.2.1 ∈ lw_tbl := List.mem_of_getElem? (i := 86) (by decide +kernel)
theorem kf_X0_22 : Cond.fieldLink RX0 22 (TX0 6).1 (TX0 6).2.1 (TX0 6).2.2.1 ∈ lw_tbl := List.mem_of_getElem? (i := 88) (by decide +kernel)
theorem kf_X0_25 : Cond.fieldLink RX0 25 (TX0 7).1 (TX0 7).2.1 (TX0 7).2.2.1 ∈ lw_tbl := List.mem_of_getElem? (i := 90) (by decide +kernel)
theorem kf_X0_28 : Cond.fieldLink RX0 28 (TX0 8).1 (TX0 8).2.1 (TX0 8).2.2.1 ∈ lw_tbl := List.mem_of_getElem? (i := 92) (by decide +kernel)
theorem kf_X0_31 : Cond.fieldLink RX0 31 (TX0 9).1 (TX0 9).2.1 (TX0 9).2.2.1 ∈ lw_tbl := List.mem_of_getElem? (i := 94) (by decide +kernel)
theorem kf_X0_34 : Cond.fieldLink RX0 34 (TX0 10).1 (TX0 10).2.1 (TX0 10).2.2.1 ∈ lw_tbl := List.mem_of_getElem? (i := 97) (by decide +kernel)
theorem ko_X1 : Cond.methodLink RX1 1 objectInit ∈ lw_tbl := List.mem_of_getElem? (i := 127) (by decide +kernel)
theorem kc_X1_9 : Cond.classLink RX1 9 RX0 ∈ lw_tbl := List.mem_of_getElem? (i := 128) (by decide +kernel)
theorem kf_X1_11 : Cond.fieldLink RX1 11 (TX1 0).1 (TX1 0).2.1 (TX1 0).2.2.1 ∈ lw_tbl := List.mem_of_getElem? (i := 131) (by decide +kernel)
theorem ko_X2 : Cond.methodLink RX2 3 objectInit ∈ lw_tbl := List.mem_of_getElem? (i := 147) (by decide +kernel)
theorem kc_X2_9 : Cond.classLink RX2 9 RX0 ∈ lw_tbl := List.mem_of_getElem? (i := 148) (by decide +kernel)
theorem kf_X2_12 : Cond.fieldLink RX2 12 (TX2 0).1 (TX2 0).2.1 (TX2 0).2.2.1 ∈ lw_tbl := List.mem_of_getElem? (i := 150) (by decide +kernel)
theorem kf_X2_18 : Cond.fieldLink RX2 18 (TX2 1).1 (TX2 1).2.1 (TX2 1).2.2.1 ∈ lw_tbl := List.mem_of_getElem? (i := 151) (by decide +kernel)
theorem kf_X2_22 : Cond.fieldLink RX2 22 (TX2 2).1 (TX2 2).2.1 (TX2 2).2.2.1 ∈ lw_tbl := List.mem_of_getElem? (i := 152) (by decide +kernel)
theorem ko_X4 : Cond.methodLink RX4 3 objectInit ∈ lw_tbl := List.mem_of_getElem? (i := 181) (by decide +kernel)
theorem kf_X4_11 : Cond.fieldLink RX4 11 (TX4 0).1 (TX4 0).2.1 (TX4 0).2.2.1 ∈ lw_tbl := List.mem_of_getElem? (i := 182) (by decide +kernel)
theorem ko_X3 : Cond.methodLink RX3 3 objectInit ∈ lw_tbl := List.mem_of_getElem? (i := 199) (by decide +kernel)
theorem kf_X3_9 : Cond.fieldLink RX3 9 (TX3 0).1 (TX3 0).2.1 (TX3 0).2.2.1 ∈ lw_tbl := List.mem_of_getElem? (i := 200) (by decide +kernel)
theorem kf_X3_15 : Cond.fieldLink RX3 15 (TX3 1).1 (TX3 1).2.1 (TX3 1).2.2.1 ∈ lw_tbl := List.mem_of_getElem? (i := 202) (by decide +kernel)
abbrev k_i (cA : Nat → ClassId) (q n : Nat) : Nat × va_E := (q, .inl (cA 0, n, .inl fun _ => 0))
/-- the cells of a noon -/
def kN (cA : Nat → ClassId) (a : Nat) (f : Nat → Nat) : va_W := [(a, .inr (0, [.int 0, .int 0, .int 0, .int (Int32.ofInt 1), .ref (f 1), .ref (f 2), .ref (f 3), .ref (f 4), .ref (f 5), .ref (f 6), .ref (f 7)])), k_i cA (f 1) 5, k_i cA (f 2) 5, k_i cA (f 3) 5, k_i cA (f 4) 5, k_i cA (f 5) 5, k_i cA (f 6) 5, k_i cA (f 7) 5]
def kF0 : k_F := fun cA a T => ∃ f, T = kN cA a f
set_option maxRecDepth 100000 in
set_option maxHeartbeats 4000000 in
theorem rk_X0 : k_R MK_X0 7 35 0 [.int 0, .int 0, .int 0, .int 0, .null, .null, .null, .null, .null, .null, .null] kF0 := by
  refine k_of (by decide) rfl rfl (by decide) (fun D cA A Wd a => ?_)
  refine k_al (k := 0) 0 (by decide +kernel) rfl ?_
  refine k_obj (idx := 3) (by decide +kernel) ko_X0 ko_i ko_c (by decide) (by decide) ?_
  refine k_al (k := 0) 0 (by decide +kernel) rfl ?_
  refine k_ic (z := 1) (by decide +kernel) ?_
  refine k_put (idx := 9) (k := 3) (by decide +kernel) tyX0 tyX0_ok nmX0 rfl i_X0 (by decide) kf_X0_9 rfl rfl rfl (Nat.le_of_ble_eq_true rfl) ?_
  refine k_al (k := 0) 0 (by decide +kernel) rfl ?_
  refine k_ic (z := 5) (by decide +kernel) ?_
  refine k_newa (atype := .int) (t0 := 0) (N' := 5) (a0 := (5, .inl fun _ => 0)) (by decide +kernel) kw_int rfl rfl (fun _ => rfl) (by decide) (by decide) (by decide) (by decide) (by decide) (fun q11 => ?_)
  refine k_putF (idx := 15) (k := 4) (by decide +kernel) tyX0 tyX0_ok nmX0 rfl i_X0 (by decide) kf_X0_15 rfl rfl rfl rfl (Nat.le_of_ble_eq_true rfl) ?_
  refine k_al (k := 0) 0 (by decide +kernel) rfl ?_
  refine k_ic (z := 5) (by decide +kernel) ?_
  refine k_newa (atype := .int) (t0 := 0) (N' := 5) (a0 := (5, .inl fun _ => 0)) (by decide +kernel) kw_int rfl rfl (fun _ => rfl) (by decide) (by decide) (by decide) (by decide) (by decide) (fun q18 => ?_)
  refine k_putF (idx := 19) (k := 5) (by decide +kernel) tyX0 tyX0_ok nmX0 rfl i_X0 (by decide) kf_X0_19 rfl rfl rfl rfl (Nat.le_of_ble_eq_true rfl) ?_
  refine k_al (k := 0) 0 (by decide +kernel) rfl ?_
  refine k_ic (z := 5) (by decide +kernel) ?_
  refine k_newa (atype := .int) (t0 := 0) (N' := 5) (a0 := (5, .inl fun _ => 0)) (by decide +kernel) kw_int rfl rfl (fun _ => rfl) (by decide) (by decide) (by decide) (by decide) (by decide) (fun q25 => ?_)
  refine k_putF (idx := 22) (k := 6) (by decide +kernel) tyX0 tyX0_ok nmX0 rfl i_X0 (by decide) kf_X0_22 rfl rfl rfl rfl (Nat.le_of_ble_eq_true rfl) ?_
  refine k_al (k := 0) 0 (by decide +kernel) rfl ?_
  refine k_ic (z := 5) (by decide +kernel) ?_
  refine k_newa (atype := .int) (t0 := 0) (N' := 5) (a0 := (5, .inl fun _ => 0)) (by decide +kernel) kw_int rfl rfl (fun _ => rfl) (by decide) (by decide) (by decide) (by decide) (by decide) (fun q32 => ?_)
  refine k_putF (idx := 25) (k := 7) (by decide +kernel) tyX0 tyX0_ok nmX0 rfl i_X0 (by decide) kf_X0_25 rfl rfl rfl rfl (Nat.le_of_ble_eq_true rfl) ?_
  refine k_al (k := 0) 0 (by decide +kernel) rfl ?_
  refine k_ic (z := 5) (by decide +kernel) ?_
  refine k_newa (atype := .int) (t0 := 0) (N' := 5) (a0 := (5, .inl fun _ => 0)) (by decide +kernel) kw_int rfl rfl (fun _ => rfl) (by decide) (by decide) (by decide) (by decide) (by decide) (fun q39 => ?_)
  refine k_putF (idx := 28) (k := 8) (by decide +kernel) tyX0 tyX0_ok nmX0 rfl i_X0 (by decide) kf_X0_28 rfl rfl rfl rfl (Nat.le_of_ble_eq_true rfl) ?_
  refine k_al (k := 0) 0 (by decide +kernel) rfl ?_
  refine k_ic (z := 5) (by decide +kernel) ?_
  refine k_newa (atype := .int) (t0 := 0) (N' := 5) (a0 := (5, .inl fun _ => 0)) (by decide +kernel) kw_int rfl rfl (fun _ => rfl) (by decide) (by decide) (by decide) (by decide) (by decide) (fun q46 => ?_)
  refine k_putF (idx := 31) (k := 9) (by decide +kernel) tyX0 tyX0_ok nmX0 rfl i_X0 (by decide) kf_X0_31 rfl rfl rfl rfl (Nat.le_of_ble_eq_true rfl) ?_
  refine k_al (k := 0) 0 (by decide +kernel) rfl ?_
  refine k_ic (z := 5) (by decide +kernel) ?_
  refine k_newa (atype := .int) (t0 := 0) (N' := 5) (a0 := (5, .inl fun _ => 0)) (by decide +kernel) kw_int rfl rfl (fun _ => rfl) (by decide) (by decide) (by decide) (by decide) (by decide) (fun q53 => ?_)
  refine k_putF (idx := 34) (k := 10) (by decide +kernel) tyX0 tyX0_ok nmX0 rfl i_X0 (by decide) kf_X0_34 rfl rfl rfl rfl (Nat.le_of_ble_eq_true rfl) ?_
  exact k_ret (by decide +kernel) rfl (by decide) (by decide) ⟨fun t => match t with | 1 => q11 | 2 => q18 | 3 => q25 | 4 => q32 | 5 => q39 | 6 => q46 | _ => q53, rfl⟩
abbrev k_pf (pl : List (Nat × (Nat → Nat))) : Nat → Option Nat := fun j => (pl[j]?).map (fun x => x.1)
abbrev k_ns (cA : Nat → ClassId) (pl : List (Nat × (Nat → Nat))) : va_W := pl.flatMap (fun x => kN cA x.1 x.2)
def kP (cA : Nat → ClassId) (a q : Nat) (pl : List (Nat × (Nat → Nat))) : va_W := (a, .inr (1, [.ref q, .int 0, .int 0])) :: (q, .inl (cA 3, 8, .inr (.inr (.inr (.inr (k_pf pl)))))) :: k_ns cA pl
def kF1 : k_F := fun cA a T => ∃ q pl, pl.length = 8 ∧ T = kP cA a q pl
theorem k_pf_up {pl : List (Nat × (Nat → Nat))} {i q : Nat} {f : Nat → Nat} (hi : pl.length = i) : va_up (k_pf pl) i (some q) = k_pf (pl ++ [(q, f)]) := by
  funext j
  unfold va_up
  by_cases e : j = i
  · rw [if_pos e, e, ← hi]
    show some q = ((pl ++ [(q, f)])[pl.length]?).map (fun x => x.1)
    simp
  · rw [if_neg e]
    show (pl[j]?).map _ = ((pl ++ [(q, f)])[j]?).map _
    by_cases h : j < pl.length
    · rw [List.getElem?_append_left h]
    · rw [List.getElem?_eq_none (by omega), List.getElem?_eq_none (by simp; omega)]
theorem k_ns_ap {cA : Nat → ClassId} {pl : List (Nat × (Nat → Nat))} {q : Nat} {f : Nat → Nat} : k_ns cA (pl ++ [(q, f)]) = k_ns cA pl ++ kN cA q f := by
  simp [k_ns]
theorem k_e8 : Int32.ofInt 8 = nI 8 := by decide +kernel
theorem k_e4 : Int32.ofInt 4 = nI 4 := by decide +kernel
theorem k_e0 : Int32.ofInt 0 = nI 0 := by decide +kernel
theorem k_e1 (i : Nat) : nI i + Int32.ofInt 1 = nI (i + 1) := by rw [nI_succ]; rfl
set_option maxRecDepth 100000 in
set_option maxHeartbeats 4000000 in
theorem rk_X1 : k_R MK_X1 65 376 1 [.null, .int 0, .int 0] kF1 := by
  refine k_of (by decide) rfl rfl (by decide) (fun D cA A Wd a => ?_)
  refine k_al (k := 0) 0 (by decide +kernel) rfl ?_
  refine k_obj (idx := 1) (by decide +kernel) ko_X1 ko_i ko_c (by decide) (by decide) ?_
  refine k_al (k := 0) 0 (by decide +kernel) rfl ?_
  refine k_bi (z := 8) (by decide +kernel) (by decide) ?_
  refine k_newq (idx := 9) (t0 := 3) (N' := 8) (by decide +kernel) kc_X1_9 (fun U h => h.2.1) rfl (by decide) (by decide) (by decide) (by decide) (by decide) (fun q7 => ?_)
  refine k_putF (idx := 11) (k := 0) (by decide +kernel) tyX1 tyX1_ok nmX1 rfl i_X1 (by decide) kf_X1_11 rfl rfl rfl rfl (Nat.le_of_ble_eq_true rfl) ?_
  refine k_ic (z := 0) (by decide +kernel) ?_
  refine k_ist (k := 1) (by decide +kernel) (by decide) rfl ?_
  have loop : ∀ (d i : Nat) (pl : List (Nat × (Nat → Nat))), i + d = 8 → pl.length = i → k_V MK_X1 65 376 D cA A Wd a kF1 1 15 [(1, .int (nI i)), (0, .ref a)] [] [.ref q7, .int 0, .int 0] ((q7, .inl (cA 3, 8, .inr (.inr (.inr (.inr (k_pf pl)))))) :: k_ns cA pl) (1 + 8 * i) (8 + 46 * i) := by
    intro d
    induction d with
    | zero =>
      intro i pl hi hp
      have e : i = 8 := by omega
      subst e
      refine k_il (k := 1) 0 (by decide +kernel) rfl ?_
      refine k_bi (z := 8) (by decide +kernel) (by decide) ?_
      rw [k_e8]
      refine k_ge (off := 22) (tgt := 40) (by decide +kernel) (by decide) (fun _ => ?_) (fun c => absurd (nI_le (Nat.le_refl 8) (by decide)) c)
      exact k_ret (by decide +kernel) rfl (by decide) (by decide) ⟨q7, pl, hp, rfl⟩
    | succ d ih =>
      intro i pl hi hp
      refine k_il (k := 1) 0 (by decide +kernel) rfl ?_
      refine k_bi (z := 8) (by decide +kernel) (by decide) ?_
      rw [k_e8]
      refine k_ge (off := 22) (tgt := 40) (by decide +kernel) (by decide) (fun c => absurd c (nI_ge (by omega) (by decide))) (fun _ => ?_)
      refine k_al (k := 0) 1 (by decide +kernel) rfl ?_
      refine k_get (idx := 11) (k := 0) (by decide +kernel) rfl i_X1 (by decide) kf_X1_11 rfl ?_
      refine k_il (k := 1) 0 (by decide +kernel) rfl ?_
      refine k_new (idx := 9) (c9 := 0) (fs9 := [.int 0, .int 0, .int 0, .int 0, .null, .null, .null, .null, .null, .null, .null]) (by decide +kernel) tyX0 tyX0_ok i_X0 rfl kc_X1_9 kn_X0 kj_X0 (fun j hj => by rcases (show j = 0 ∨ j = 1 ∨ j = 2 ∨ j = 3 ∨ j = 4 ∨ j = 5 ∨ j = 6 ∨ j = 7 ∨ j = 8 ∨ j = 9 ∨ j = 10 by omega) with rfl | rfl | rfl | rfl | rfl | rfl | rfl | rfl | rfl | rfl | rfl <;> rfl) (by show _ ≤ (_ : Nat); omega) (by show _ ≤ (_ : Nat); omega) (fun q26 => ?_)
      refine k_dup (by decide +kernel) ?_
      refine k_cN (idx := 15) (host := "NoonSaws") (by decide +kernel) rk_X0 fnk_X0 ink_X0 rfl (fun U h => h.2.2.2.2.1) ⟨by decide, by decide⟩ ⟨(by show _ ≤ (_ : Nat); omega), (by show _ ≤ (_ : Nat); omega)⟩ (Nat.le_of_ble_eq_true rfl) (fun T30 hT30 => ?_)
      obtain ⟨f, rfl⟩ := hT30
      refine k_aast (t0 := 3) 0 ((q7, .inl (cA 3, 8, .inr (.inr (.inr (.inr (k_pf pl)))))) :: k_ns cA pl : va_W).length (by decide +kernel) rfl rfl k_i0 rfl (vp_in_nI (by omega) (by decide)) ?_
      rw [nI_clamp (by omega), k_pf_up (f := f) hp]
      refine k_inc (k := 1) (d := 1) 0 (by decide +kernel) rfl (k_e1 i) (by decide) rfl ?_
      refine k_go (off := -22) (tgt := 15) (by decide +kernel) (by decide) ?_
      have := ih (i + 1) (pl ++ [(q26, f)]) (by omega) (by simp [hp])
      rw [k_ns_ap] at this
      exact k_wd (by omega) (by omega) this
  exact loop 8 0 [] rfl rfl
def kS (cA : Nat → ClassId) (a n : Nat) (f : Nat → Nat) (q1 q2 : Nat) : va_W := (a, .inr (2, [.ref n, .ref q1, .ref q2, .int 0, .int 0, .int 0, .int 0, .int 0])) :: (kN cA n f ++ [k_i cA q1 5, k_i cA q2 5])
def kF2 : k_F := fun cA a T => ∃ n f q1 q2, T = kS cA a n f q1 q2
set_option maxRecDepth 100000 in
set_option maxHeartbeats 4000000 in
theorem rk_X2 : k_R MK_X2 10 56 2 [.null, .null, .null, .int 0, .int 0, .int 0, .int 0, .int 0] kF2 := by
  refine k_of (by decide) rfl rfl (by decide) (fun D cA A Wd a => ?_)
  refine k_al (k := 0) 0 (by decide +kernel) rfl ?_
  refine k_obj (idx := 3) (by decide +kernel) ko_X2 ko_i ko_c (by decide) (by decide) ?_
  refine k_al (k := 0) 0 (by decide +kernel) rfl ?_
  refine k_new (idx := 9) (c9 := 0) (fs9 := [.int 0, .int 0, .int 0, .int 0, .null, .null, .null, .null, .null, .null, .null]) (by decide +kernel) tyX0 tyX0_ok i_X0 rfl kc_X2_9 kn_X0 kj_X0 (fun j hj => by rcases (show j = 0 ∨ j = 1 ∨ j = 2 ∨ j = 3 ∨ j = 4 ∨ j = 5 ∨ j = 6 ∨ j = 7 ∨ j = 8 ∨ j = 9 ∨ j = 10 by omega) with rfl | rfl | rfl | rfl | rfl | rfl | rfl | rfl | rfl | rfl | rfl <;> rfl) (by decide) (by decide) (fun q5 => ?_)
  refine k_dup (by decide +kernel) ?_
  refine k_cN (idx := 11) (host := "NoonSaws") (by decide +kernel) rk_X0 fnk_X0 ink_X0 rfl (fun U h => h.2.2.2.2.2.2.1) ⟨by decide, by decide⟩ ⟨(by decide), (by decide)⟩ (Nat.le_of_ble_eq_true rfl) (fun T9 hT9 => ?_)
  obtain ⟨f, rfl⟩ := hT9
  refine k_putF (idx := 12) (k := 0) (by decide +kernel) tyX2 tyX2_ok nmX2 rfl i_X2 (by decide) kf_X2_12 rfl rfl rfl rfl (Nat.le_of_ble_eq_true rfl) ?_
  refine k_al (k := 0) 0 (by decide +kernel) rfl ?_
  refine k_ic (z := 5) (by decide +kernel) ?_
  refine k_newa (atype := .int) (t0 := 0) (N' := 5) (a0 := (5, .inl fun _ => 0)) (by decide +kernel) kw_int rfl rfl (fun _ => rfl) (by decide) (by decide) (by decide) (by decide) (by decide) (fun q17 => ?_)
  refine k_putF (idx := 18) (k := 1) (by decide +kernel) tyX2 tyX2_ok nmX2 rfl i_X2 (by decide) kf_X2_18 rfl rfl rfl rfl (Nat.le_of_ble_eq_true rfl) ?_
  refine k_al (k := 0) 0 (by decide +kernel) rfl ?_
  refine k_ic (z := 5) (by decide +kernel) ?_
  refine k_newa (atype := .int) (t0 := 0) (N' := 5) (a0 := (5, .inl fun _ => 0)) (by decide +kernel) kw_int rfl rfl (fun _ => rfl) (by decide) (by decide) (by decide) (by decide) (by decide) (fun q24 => ?_)
  refine k_putF (idx := 22) (k := 2) (by decide +kernel) tyX2 tyX2_ok nmX2 rfl i_X2 (by decide) kf_X2_22 rfl rfl rfl rfl (Nat.le_of_ble_eq_true rfl) ?_
  exact k_ret (by decide +kernel) rfl (by decide) (by decide) ⟨q5, f, q17, q24, rfl⟩
def kT (cA : Nat → ClassId) (a q : Nat) : va_W := [(a, .inr (4, [.ref q, .int 0, .int 0])), (q, .inl (cA 2, 80, .inl fun _ => 0))]
def kF4 : k_F := fun cA a T => ∃ q, T = kT cA a q
set_option maxRecDepth 100000 in
set_option maxHeartbeats 4000000 in
theorem rk_X4 : k_R MK_X4 1 80 4 [.null, .int 0, .int 0] kF4 := by
  refine k_of (by decide) rfl rfl (by decide) (fun D cA A Wd a => ?_)
  refine k_al (k := 0) 0 (by decide +kernel) rfl ?_
  refine k_obj (idx := 3) (by decide +kernel) ko_X4 ko_i ko_c (by decide) (by decide) ?_
  refine k_al (k := 0) 0 (by decide +kernel) rfl ?_
  refine k_bi (z := 80) (by decide +kernel) (by decide) ?_
  refine k_newa (atype := .char) (t0 := 2) (N' := 80) (a0 := (80, .inl fun _ => 0)) (by decide +kernel) kw_char rfl rfl (fun _ => rfl) (by decide) (by decide) (by decide) (by decide) (by decide) (fun q7 => ?_)
  refine k_putF (idx := 11) (k := 0) (by decide +kernel) tyX4 tyX4_ok nmX4 rfl i_X4 (by decide) kf_X4_11 rfl rfl rfl rfl (Nat.le_of_ble_eq_true rfl) ?_
  exact k_ret (by decide +kernel) rfl (by decide) (by decide) ⟨q7, rfl⟩
def kH (cA : Nat → ClassId) (a q : Nat) : va_W := [(a, .inr (3, [.ref q, .int (Int32.ofInt (-1)), .int 0])), (q, .inl (cA 1, 24, .inr (.inl fun _ => 0)))]
def kF3 : k_F := fun cA a T => ∃ q, T = kH cA a q
set_option maxRecDepth 100000 in
set_option maxHeartbeats 4000000 in
theorem rk_X3 : k_R MK_X3 1 24 3 [.null, .int 0, .int 0] kF3 := by
  refine k_of (by decide) rfl rfl (by decide) (fun D cA A Wd a => ?_)
  refine k_al (k := 0) 0 (by decide +kernel) rfl ?_
  refine k_obj (idx := 3) (by decide +kernel) ko_X3 ko_i ko_c (by decide) (by decide) ?_
  refine k_al (k := 0) 0 (by decide +kernel) rfl ?_
  refine k_bi (z := 24) (by decide +kernel) (by decide) ?_
  refine k_newa (atype := .long) (t0 := 1) (N' := 24) (a0 := (24, .inr (.inl fun _ => 0))) (by decide +kernel) kw_long rfl rfl (fun _ => rfl) (by decide) (by decide) (by decide) (by decide) (by decide) (fun q7 => ?_)
  refine k_putF (idx := 9) (k := 0) (by decide +kernel) tyX3 tyX3_ok nmX3 rfl i_X3 (by decide) kf_X3_9 rfl rfl rfl rfl (Nat.le_of_ble_eq_true rfl) ?_
  refine k_al (k := 0) 0 (by decide +kernel) rfl ?_
  refine k_ic (z := -1) (by decide +kernel) ?_
  refine k_put (idx := 15) (k := 1) (by decide +kernel) tyX3 tyX3_ok nmX3 rfl i_X3 (by decide) kf_X3_15 rfl rfl rfl (Nat.le_of_ble_eq_true rfl) ?_
  exact k_ret (by decide +kernel) rfl (by decide) (by decide) ⟨q7, rfl⟩
