/-! ===== printed by wip/whole/gen_start.py: the law from its entry ===== -/
theorem kc_L_7 : Cond.classLink RL 7 RX5 ∈ lw_tbl := List.mem_of_getElem? (i := 59) (by decide +kernel)
theorem kc_L_10 : Cond.classLink RL 10 RX6 ∈ lw_tbl := List.mem_of_getElem? (i := 752) (by decide +kernel)
theorem kl_L_9 : Cond.methodLink RL 9 yX5_init ∈ lw_tbl := List.mem_of_getElem? (i := 61) (by decide +kernel)
theorem kl_L_12 : Cond.methodLink RL 12 yX6_init ∈ lw_tbl := List.mem_of_getElem? (i := 754) (by decide +kernel)
theorem ki_k_w1 : k_w1 ∈ lw_tbl := List.mem_of_getElem? (i := 69) (by decide +kernel)
theorem ki_k_w2 : k_w2 ∈ lw_tbl := List.mem_of_getElem? (i := 130) (by decide +kernel)
theorem ki_k_w3 : k_w3 ∈ lw_tbl := List.mem_of_getElem? (i := 144) (by decide +kernel)
theorem ki_k_w4 : k_w4 ∈ lw_tbl := List.mem_of_getElem? (i := 149) (by decide +kernel)
theorem ki_k_w5 : k_w5 ∈ lw_tbl := List.mem_of_getElem? (i := 178) (by decide +kernel)
theorem ki_k_w6 : k_w6 ∈ lw_tbl := List.mem_of_getElem? (i := 196) (by decide +kernel)
theorem ki_nv_n1 : nv_n1 ∈ lw_tbl := List.mem_of_getElem? (i := 346) (by decide +kernel)
theorem ki_nv_n2 : nv_n2 ∈ lw_tbl := List.mem_of_getElem? (i := 615) (by decide +kernel)
theorem ki_ao0 : Cond.arrayOver (.object RX0) ∈ lw_tbl := List.mem_of_getElem? (i := 129) (by decide +kernel)
theorem ki_ao3 : Cond.arrayOver (.object RX3) ∈ lw_tbl := List.mem_of_getElem? (i := 194) (by decide +kernel)
theorem ki_str : Cond.stringRef "NoonSaws$Tape" 63 "poghs" ∈ lw_tbl := List.mem_of_getElem? (i := 364) (by decide +kernel)
theorem ki_lay : Cond.laysStatic "java/lang/String" "COMPACT_STRINGS" "Z" ∈ lw_tbl := List.mem_of_getElem? (i := 378) (by decide +kernel)
theorem ki_ini : Cond.initialized "java/lang/String" ∈ lw_tbl := List.mem_of_getElem? (i := 51) (by decide +kernel)
theorem k_arI {s : State} {args : Array Value} (h : (Cond.arrayClass .int).before args s = true) : ∃ c, ArrOfT s c .int ∧ va_RA s c .int := by
  obtain ⟨c, k, comp, h1, h2, h3⟩ := Cond.arrayClass_spec h
  exact ⟨c, fun n z => ⟨fun k h => (by cases h), k, h2, comp, h3⟩, h1⟩
theorem k_arL {s : State} {args : Array Value} (h : (Cond.arrayClass .long).before args s = true) : ∃ c, ArrOfT s c .long ∧ va_RA s c .long := by
  obtain ⟨c, k, comp, h1, h2, h3⟩ := Cond.arrayClass_spec h
  exact ⟨c, fun n z => ⟨fun k h => (by cases h), k, h2, comp, h3⟩, h1⟩
theorem k_arC {s : State} {args : Array Value} (h : (Cond.arrayClass .char).before args s = true) : ∃ c, ArrOfT s c .char ∧ va_RA s c .char := by
  obtain ⟨c, k, comp, h1, h2, h3⟩ := Cond.arrayClass_spec h
  exact ⟨c, fun n z => ⟨fun k h => (by cases h), k, h2, comp, h3⟩, h1⟩
theorem k_arO {s : State} {args : Array Value} {C : String} (h : (Cond.arrayOver (.object C)).before args s = true) : ∃ c, ArrOfT s c (.object C) ∧ va_RA s c (.object C) := by
  obtain ⟨comp, c, k, h1, h2, h3, h4, h5⟩ := Cond.arrayOver_spec h
  exact ⟨c, fun n z => ⟨fun k h => (by cases h), k, h3, comp, h4⟩, ⟨k, comp, h3, h4, h1, h5⟩⟩
theorem k_KK {s : State} {args : Array Value} (hts : ∀ w ∈ lw_tbl, w.before args s = true) : ∃ (D : va_G) (cA : Nat → ClassId), k_K D cA s := by
  obtain ⟨c0, i0, h0⟩ := u_known (C := RX0) (T := TX0) (N := 11) (n := 11) hts i_X0 (hts _ kn_X0)
  obtain ⟨c1, i1, h1⟩ := u_known (C := RX1) (T := TX1) (N := 3) (n := 3) hts i_X1 (hts _ kn_X1)
  obtain ⟨c2, i2, h2⟩ := u_known (C := RX2) (T := TX2) (N := 8) (n := 8) hts i_X2 (hts _ kn_X2)
  obtain ⟨c3, i3, h3⟩ := u_known (C := RX3) (T := TX3) (N := 3) (n := 3) hts i_X3 (hts _ kn_X3)
  obtain ⟨c4, i4, h4⟩ := u_known (C := RX4) (T := TX4) (N := 3) (n := 3) hts i_X4 (hts _ kn_X4)
  obtain ⟨c5, i5, h5⟩ := u_known (C := RX5) (T := TX5) (N := 10) (n := 10) hts i_X5 (hts _ kn_X5)
  obtain ⟨c6, i6, h6⟩ := u_known (C := RX6) (T := TX6) (N := 16) (n := 16) hts i_X6 (hts _ kn_X6)
  obtain ⟨a0, b0⟩ := k_arI (hts _ kw_int)
  obtain ⟨a1, b1⟩ := k_arL (hts _ kw_long)
  obtain ⟨a2, b2⟩ := k_arC (hts _ kw_char)
  obtain ⟨a3, b3⟩ := k_arO (hts _ ki_ao0)
  obtain ⟨a4, b4⟩ := k_arO (hts _ ki_ao3)
  refine ⟨(fun k => match k with | 0 => c0 | 1 => c1 | 2 => c2 | 3 => c3 | 4 => c4 | 5 => c5 | _ => c6, fun k => match k with | 0 => i0 | 1 => i1 | 2 => i2 | 3 => i3 | 4 => i4 | 5 => i5 | _ => i6), fun k => match k with | 0 => a0 | 1 => a1 | 2 => a2 | 3 => a3 | _ => a4, ⟨fun k q hq => ?_, fun k q hq => ?_⟩, va_AO.of (hts _ ki_ao0), va_AO.of (hts _ ki_ao3), va_Nw.of rfl (hts _ ki_k_w1), va_Nw.of rfl (hts _ ki_k_w2), va_Nw.of rfl (hts _ ki_k_w3), va_Nw.of rfl (hts _ ki_k_w4), va_Nw.of rfl (hts _ ki_k_w5), va_Nw.of rfl (hts _ ki_k_w6)⟩
  · match k, hq with
    | 0, hq => cases hq; exact h0
    | 1, hq => cases hq; exact h1
    | 2, hq => cases hq; exact h2
    | 3, hq => cases hq; exact h3
    | 4, hq => cases hq; exact h4
    | 5, hq => cases hq; exact h5
    | 6, hq => cases hq; exact h6
    | k + 7, hq => simp [vwCl] at hq
  · match k, hq with
    | 0, hq => cases hq; exact b0
    | 1, hq => cases hq; exact b1
    | 2, hq => cases hq; exact b2
    | 3, hq => cases hq; exact b3
    | 4, hq => cases hq; exact b4
    | k + 5, hq => simp [k_tys] at hq
theorem k_str {s : State} {args : Array Value} (hts : ∀ w ∈ lw_tbl, w.before args s = true) (hgv : (Jvm.Cond.and given_1 narrow_1).before args s = true) : ∃ st sv : Nat, vk_R "NoonSaws$Tape" 63 "poghs" st s ∧ vk_S 1 [5] [[112, 111, 103, 104, 115]] (fun _ => st) (fun _ => sv) (fun q => s.heap.size ≤ q) s s.heap ∧ va_Z "java/lang/String" "COMPACT_STRINGS" "Z" (.int 1) (fun q => s.heap.size ≤ q) s s.heap := by
  have hs := flat_of_before _ hgv
  have hA : ∀ a : Nat, a < s.heap.size → ¬ (fun q : Nat => s.heap.size ≤ q) a := fun a h1 h2 => by
    have h2 : s.heap.size ≤ a := h2
    omega
  obtain ⟨adK, adV, h1, h2⟩ := vk_Sof (args := args) (s := s) (N := 1) (tm := fun _ => Term.string "NoonSaws$Tape" 63) (len := [5]) (byt := [[112, 111, 103, 104, 115]]) (A := fun q => s.heap.size ≤ q)
    (fun i hi => by have e : i = 0 := by omega
                    subst e; decide)
    (fun i hi => hs _ (by decide +kernel)) (fun i hi => hs _ (by decide +kernel)) (fun i hi => hs _ (by decide +kernel))
    (fun i hi => by have e : i = 0 := by omega
                    subst e; exact hs _ (by decide +kernel))
    (fun i hi j hj => by
      have e : i = 0 := by omega
      subst e
      have hj : j < 5 := hj
      rcases (show j = 0 ∨ j = 1 ∨ j = 2 ∨ j = 3 ∨ j = 4 by omega) with rfl | rfl | rfl | rfl | rfl
      · exact hs _ (by decide +kernel)
      · exact hs _ (by decide +kernel)
      · exact hs _ (by decide +kernel)
      · exact hs _ (by decide +kernel)
      · exact hs _ (by decide +kernel))
    (fun i j hi hj hne => absurd (show i = j by omega) hne) hA
  refine ⟨adK 0, adV 0, vk_R.of (hts _ ki_str) (h2 0 (by omega)), ⟨fun i hi => ?_, fun i j hi hj _ => by omega⟩, va_Zof (hts _ ki_lay) (hts _ ki_ini) (va_eqt (hs _ (by decide +kernel))) hA⟩
  have e : i = 0 := by omega
  subst e
  exact h1.1 0 hi
set_option maxHeartbeats 4000000 in
set_option maxRecDepth 100000 in
/-- THE LAW, from its entry -/
theorem whole_start {p : Program} {e : Env} {s : State} {m : MethodId} {below : List Frame} {meth : Method} {c : Code} (l : Launch) {b L : Nat} {xs : Nat → Int32} (hL : L ≤ 512) (C0 : lw_At p s m meth c b L xs) : W p l e room_1 s m #[Value.ref b] below meth c s.heap [] 0 0 (lw_Z below #[Value.ref b] s) (entryFrame m ([Value.ref b] : List Value).toArray 4) := by
  obtain ⟨hx, hb, hr, hml, hown, hts, hX, hbl, hlocks, hgv⟩ := id C0
  obtain ⟨D, cA, hK⟩ := k_KK hts
  obtain ⟨st, sv, hvR, hvS, hvZ⟩ := k_str hts hgv
  have hT : ∀ w ∈ nv_T, w.before #[Value.ref b] s = true := fun w hw => hts w (List.mem_filter.mp hw).1
  have hA : ∀ q : Nat, s.heap.size ≤ q → (fun q : Nat => s.heap.size ≤ q) q := fun _ h => h
  have hS : va_S (fun q : Nat => s.heap.size ≤ q) s.heap s.heap [] := va_S.rf
  have hP : va_P D vwCl [] s.heap := fun k q h => by simp at h
  have hD : va_D (fun q : Nat => s.heap.size ≤ q) [] := ⟨fun i j p q h => by simp at h, fun k q h => by simp at h⟩
  have hl := lv_entry ([.ref b]) (n := 4) (Nat.le_of_ble_eq_true rfl)
  rw [lg_entry_eq]
  generalize (lg_sl ([.ref b]) ++ List.replicate (4 - (lg_sl ([.ref b])).length) Slot.unset).toArray = ls at hl ⊢
  have hl : lv_has ls 4 [(0, .ref b)] := hl
  refine va_new (index := 7) (ci := 5) (fs := [.null, .null, .null, .null, .int 0, .null, .null, .null, .null, .null]) (C := RX5) (T := TX5) (N := 10) hx hb hts i_X5 tyX5 tyX5_ok hown (hts _ kc_L_7) (hts _ kn_X5) (hts _ kj_X5) hK.1 hP hD hS hA rfl (fun j hj => by rcases (show j = 0 ∨ j = 1 ∨ j = 2 ∨ j = 3 ∨ j = 4 ∨ j = 5 ∨ j = 6 ∨ j = 7 ∨ j = 8 ∨ j = 9 by omega) with rfl | rfl | rfl | rfl | rfl | rfl | rfl | rfl | rfl | rfl <;> rfl) (by decide) (by decide) (by decide +kernel) (fun a H hP hD hS => ?_)
  refine lv_dup hx hb (by decide +kernel) rfl ?_
  refine k_callI (idx := 9) (Wd := []) rk_X5 ⟨hx, hb, hml, hown, hT⟩ hK hA fnk_X5 ink_X5 rfl kl_L_9 ⟨by decide, by decide⟩ ⟨by decide, by decide⟩ (by decide +kernel) hP hD hS hl.1 (Nat.le_of_ble_eq_true rfl) (fun T5 H locs h5 hP hD hS => ?_)
  refine lv_astore_n (k := 1) (lv' := [(1, .ref a), (0, .ref b)]) hx hb (by decide +kernel) rfl hl (by decide) rfl (fun ls hl => ?_)
  refine va_new (index := 10) (ci := 6) (fs := [.null, .null, .null, .int 0, .null, .int 0, .int 0, .null, .null, .null, .null, .int 0, .null, .null, .int 0, .int 0]) (C := RX6) (T := TX6) (N := 16) hx hb hts i_X6 tyX6 tyX6_ok hown (hts _ kc_L_10) (hts _ kn_X6) (hts _ kj_X6) hK.1 hP hD hS hA rfl (fun j hj => by rcases (show j = 0 ∨ j = 1 ∨ j = 2 ∨ j = 3 ∨ j = 4 ∨ j = 5 ∨ j = 6 ∨ j = 7 ∨ j = 8 ∨ j = 9 ∨ j = 10 ∨ j = 11 ∨ j = 12 ∨ j = 13 ∨ j = 14 ∨ j = 15 by omega) with rfl | rfl | rfl | rfl | rfl | rfl | rfl | rfl | rfl | rfl | rfl | rfl | rfl | rfl | rfl | rfl <;> rfl) (by decide) (by decide) (by decide +kernel) (fun mm H hP hD hS => ?_)
  refine lv_dup hx hb (by decide +kernel) rfl ?_
  refine k_callI (idx := 12) (Wd := [] ++ T5) rk_X6 ⟨hx, hb, hml, hown, hT⟩ hK hA fnk_X6 ink_X6 rfl kl_L_12 ⟨by decide, by decide⟩ ⟨by decide, by decide⟩ (by decide +kernel) hP hD hS hl.1 (Nat.le_of_ble_eq_true rfl) (fun T6 H locs h6 hP hD hS => ?_)
  refine lv_astore_n (k := 2) (lv' := [(2, .ref mm), (1, .ref a), (0, .ref b)]) hx hb (by decide +kernel) rfl hl (by decide) rfl (fun ls hl => ?_)
  refine lv_iconst (n := 0) (v := Int32.ofInt 0) hx hb (by decide +kernel) rfl ?_
  refine lv_istore_n (k := 3) (lv' := [(3, .int (Int32.ofInt 0)), (2, .ref mm), (1, .ref a), (0, .ref b)]) hx hb (by decide +kernel) rfl hl (by decide) rfl (fun ls hl => ?_)
  refine va_forget (fun q hq => hS.2.2 q hq) ?_
  refine W.widen (k := 600000) (n := 7302249) (by decide) (by decide) ?_
  obtain ⟨ad, e18, e19, e30, e31, e32, hP0, hD0, hA0⟩ := k_fin st sv b h5 h6 hP hD
  have KK : nv_KK (D, ad, cA) s := by
    refine ⟨hK.1, va_Nw.of rfl (hts _ ki_nv_n1), va_Nw.of rfl (hts _ ki_nv_n2), ?_, ?_, hvZ.narrow hA0⟩
    · show vk_R "NoonSaws$Tape" 63 "poghs" (ad 30 0) s
      rw [e30]
      exact hvR
    · show vk_S 1 [5] [[112, 111, 103, 104, 115]] (fun _ => ad 30 0) (fun _ => ad 31 0) (nv_A (D, ad, cA)) s s.heap
      rw [e30, e31]
      exact hvS.narrow hA0
  have key := lc_loop (X := (D, ad, cA)) (bb := b) (LL := L) (xx := xs) hL (L + 1) 0 k_h0 k_a0 (by omega) (by omega) k_CI k_MI
  refine key p l e s m below meth c H [] ls ⟨hx, hb, hr, hml, hlocks, hown, hT, KK, hX, hbl, e32, hL, hA0⟩ hP0 hD0 ⟨hS.1, fun q h1 h2 => hS.2.1 q h1 (fun h3 => ?_), fun _ h => by cases h⟩ ?_ ?_ ?_
  · have h3 : s.heap.size ≤ q := h3
    omega
  · have h9 := lv_sub (l' := [(0, .ref b), (1, .ref a), (2, .ref mm), (3, .int (Int32.ofInt 0))]) hl [3, 2, 1, 0] rfl
    show lv_has ls 4 [(0, .ref (ad 32 0)), (1, .ref (ad 18 0)), (2, .ref (ad 19 0)), (3, .int (Int32.ofInt 0))]
    rw [e32, e18, e19]
    exact h9
  · refine List.forall_mem_cons.mpr ⟨Or.inr rfl, List.forall_mem_cons.mpr ⟨Or.inl (Or.inl (nv_mem.mpr ⟨by decide, by decide⟩)), List.forall_mem_cons.mpr ⟨Or.inl (Or.inl (nv_mem.mpr ⟨by decide, by decide⟩)), List.forall_mem_cons.mpr ⟨Or.inl trivial, fun _ h => absurd h List.not_mem_nil⟩⟩⟩⟩
  · exact fun _ h => absurd h List.not_mem_nil
