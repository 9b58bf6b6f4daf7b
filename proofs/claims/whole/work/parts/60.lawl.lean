/-! ===== the law's own layer: its script is the cell (32, 0) ===== -/
def lq_ok (v : nv_AV) : Prop := nv_ok v ∨ v = vr 32 0
def lq_C (X : nv_X) (bb LL : Nat) (xx : Nat → Int32) (p : Program) (s : State) (m : MethodId) (meth : Method) (c : Code) : Prop :=
  p.tables.exec = Jvm.exec ∧ c.code = code ∧ meth.sig.returnType = ret ∧ c.maxLocals = 4 ∧ meth.locks = false ∧ s.vm.findClass RL = some m.cls ∧ (∀ w ∈ nv_T, w.before #[Value.ref bb] s = true) ∧ nv_KK X s ∧ va_X bb LL xx s s.heap ∧ bb < s.heap.size ∧ X.2.1 32 0 = bb ∧ LL ≤ 512 ∧ ∀ q, nv_A X q → s.heap.size ≤ q
def lq_V (X : nv_X) (bb LL : Nat) (xx : Nat → Int32) (pc : Nat) (lv : nv_LV) (stk : List nv_AV) (h : nv_St) : Prop :=
  ∀ (p : Program) (l : Launch) (e : Env) (s : State) (m : MethodId) (below : List Frame) (meth : Method) (c : Code) (H : Heap) (locs : List Loc) (ls : Array Slot),
    lq_C X bb LL xx p s m meth c → va_P X.1 vwCl (nv_ws X h) H → va_D (nv_A X) (nv_ws X h) → va_S (nv_A X) s.heap H locs → lv_has ls 4 (nv_trL X lv) → (∀ q ∈ lv, lq_ok q.2) → (∀ v ∈ stk, lq_ok v) →
    W p l e room_1 s m #[Value.ref bb] below meth c H locs 600000 7302249 (lw_Z below #[Value.ref bb] s) (F0 m pc ls (stk.map (nv_tr X)))
def lq_Q : nv_PT := fun _ _ => False
def lq_Snd (X : nv_X) (bb LL : Nat) (xx : Nat → Int32) (pc : Nat) (f : nv_Sem) : Prop := ∀ (lv : nv_LV) (stk : List nv_AV) (h : nv_St) (K : nv_K), (∀ pc' lv' stk' h', K pc' lv' stk' h' → lq_V X bb LL xx pc' lv' stk' h') → f lv stk h lq_Q K → lq_V X bb LL xx pc lv stk h
def lq_wp (X : nv_X) (bb LL : Nat) (xx : Nat → Int32) (P : nv_Pg) (stops : List Nat) : Nat → nv_K
  | 0, pc, lv, stk, h => lq_V X bb LL xx pc lv stk h
  | n + 1, pc, lv, stk, h => nv_lk P pc lv stk h lq_Q (fun pc' lv' stk' h' => match nv_el stops pc' with
    | true => lq_V X bb LL xx pc' lv' stk' h'
    | false => lq_wp X bb LL xx P stops n pc' lv' stk' h')
def lq_okX (X : nv_X) (bb LL : Nat) (xx : Nat → Int32) (P : nv_Pg) : Prop := ∀ q ∈ P, lq_Snd X bb LL xx q.1 q.2
def lq_okP (P : Nat → (Nat → Int32) → nv_Pg) : Prop := ∀ X bb LL xx, lq_okX X bb LL xx (P LL xx)
theorem lq_oc {X : nv_X} {bb LL : Nat} {xx : Nat → Int32} {pc : Nat} {f : nv_Sem} {r : nv_Pg} (h : lq_Snd X bb LL xx pc f) (t : lq_okX X bb LL xx r) : lq_okX X bb LL xx ((pc, f) :: r) := fun q hq => (List.mem_cons.mp hq).elim (fun e => by subst e; exact h) (t q)
theorem lq_on {X : nv_X} {bb LL : Nat} {xx : Nat → Int32} : lq_okX X bb LL xx [] := fun q hq => by cases hq
section lqIns
variable {X : nv_X} {bb LL : Nat} {xx : Nat → Int32} {pc : Nat}
theorem lq_lk_ok : ∀ {P : nv_Pg}, lq_okX X bb LL xx P → ∀ pc, lq_Snd X bb LL xx pc (nv_lk P pc)
  | [], _, _ => fun _ _ _ _ _ hf => hf.elim
  | q :: r, hP, pc => by
    unfold nv_lk
    split
    · next hb =>
      have e : q.1 = pc := Nat.eq_of_beq_eq_true hb
      subst e
      exact hP q List.mem_cons_self
    · exact lq_lk_ok (fun x hx => hP x (List.mem_cons_of_mem _ hx)) pc
theorem lq_go' {P : nv_Pg} (hP : lq_okX X bb LL xx P) (stops : List Nat) : ∀ (n : Nat) {pc : Nat} {lv : nv_LV} {stk : List nv_AV} {h : nv_St}, lq_wp X bb LL xx P stops n pc lv stk h → lq_V X bb LL xx pc lv stk h
  | 0, _, _, _, _, hw => hw
  | n + 1, pc, lv, stk, h, hw => by
    refine lq_lk_ok hP pc lv stk h _ ?_ hw
    intro pc' lv' stk' h' hk
    split at hk
    · exact hk
    · exact lq_go' hP stops n hk
theorem lq_go {P : Nat → (Nat → Int32) → nv_Pg} (hP : lq_okP P) (stops : List Nat) (n : Nat) {lv : nv_LV} {stk : List nv_AV} {h : nv_St} (hw : lq_wp X bb LL xx (P LL xx) stops n pc lv stk h) : lq_V X bb LL xx pc lv stk h := lq_go' (hP X bb LL xx) stops n hw
theorem lq_ls_ok {lv : nv_LV} {i : Nat} {v : nv_AV} (hv : lq_ok v) (h : ∀ q ∈ lv, lq_ok q.2) : ∀ q ∈ nv_ls lv i v, lq_ok q.2 := by
  intro q hq
  rcases nv_li_mem hq with rfl | hq
  · exact hv
  · exact h q (nv_lr_mem hq).1
theorem lq_n_iconst {z : Int} (hd : decode code pc = .ok (.iconst z, 1)) : lq_Snd X bb LL xx pc (s_ki z (pc + 1)) := by
  intro lv stk h K hK hf p l e s m below meth c H locs ls C hP hD hS hl ho hk
  exact lv_iconst C.1 C.2.1 hd rfl (hK _ _ _ _ hf p l e s m below meth c H locs ls C hP hD hS hl ho (List.forall_mem_cons.mpr ⟨Or.inl trivial, hk⟩))
theorem lq_n_bipush {z : Int} (hd : decode code pc = .ok (.bipush z, 2)) (hz : (Int8.ofInt z).toInt32 = Int32.ofInt z) : lq_Snd X bb LL xx pc (s_ki z (pc + 2)) := by
  intro lv stk h K hK hf p l e s m below meth c H locs ls C hP hD hS hl ho hk
  exact lv_bipush C.1 C.2.1 hd hz (hK _ _ _ _ hf p l e s m below meth c H locs ls C hP hD hS hl ho (List.forall_mem_cons.mpr ⟨Or.inl trivial, hk⟩))
theorem lq_n_iload_n {k : Fin 4} (hd : decode code pc = .ok (.iload_n k, 1)) : lq_Snd X bb LL xx pc (s_il k (pc + 1)) := by
  intro lv stk h K hK hf p l e s m below meth c H locs ls C hP hD hS hl ho hk
  unfold s_il at hf
  split at hf
  · next z hz => exact lv_iload_n C.1 C.2.1 hd rfl (nv_lg_at hl hz) (hK _ _ _ _ hf p l e s m below meth c H locs ls C hP hD hS hl ho (List.forall_mem_cons.mpr ⟨Or.inl trivial, hk⟩))
  · exact hf.elim
theorem lq_n_aload_n {k : Fin 4} (hd : decode code pc = .ok (.aload_n k, 1)) : lq_Snd X bb LL xx pc (s_al k (pc + 1)) := by
  intro lv stk h K hK hf p l e s m below meth c H locs ls C hP hD hS hl ho hk
  unfold s_al at hf
  split at hf
  · next z hz => exact lv_aload_n C.1 C.2.1 hd rfl (nv_lg_at hl hz) (hK _ _ _ _ hf p l e s m below meth c H locs ls C hP hD hS hl ho (List.forall_mem_cons.mpr ⟨ho _ (nv_lg_mem hz), hk⟩))
  · exact hf.elim
theorem lq_n_iinc {k : Nat} {d : Int} (hd : decode code pc = .ok (.iinc k d, 3)) (hi : k < 4) : lq_Snd X bb LL xx pc (s_inc k d (pc + 3)) := by
  intro lv stk h K hK hf p l e s m below meth c H locs ls C hP hD hS hl ho hk
  unfold s_inc at hf
  split at hf
  · next z hz =>
    obtain ⟨j, hj⟩ := List.getElem?_of_mem (nv_lg_mem hz)
    have hj' : (nv_trL X lv)[j]? = some (k, .int (Int32.ofInt z)) := by rw [List.getElem?_map, hj]; rfl
    exact lv_iinc C.1 C.2.1 hd hl hj' (v := Int32.ofInt (z + d)) (Int32.ofInt_add z d).symm hi rfl (fun ls' hl' => hK _ _ _ _ hf p l e s m below meth c H locs ls' C hP hD hS (nv_ls_has (v := .inl (z + d)) hl') (lq_ls_ok (Or.inl trivial) ho) hk)
  · exact hf.elim
theorem lq_n_iadd (hd : decode code pc = .ok (.iadd, 1)) : lq_Snd X bb LL xx pc (s_add (pc + 1)) := by
  intro lv stk h K hK hf p l e s m below meth c H locs ls C hP hD hS hl ho hk
  unfold s_add at hf
  split at hf
  · next b a r =>
    refine lv_iadd C.1 C.2.1 hd ?_
    rw [← Int32.ofInt_add]
    exact hK _ _ _ _ hf p l e s m below meth c H locs ls C hP hD hS hl ho (List.forall_mem_cons.mpr ⟨Or.inl trivial, (List.forall_mem_cons.mp (List.forall_mem_cons.mp hk).2).2⟩)
  · exact hf.elim
theorem lq_n_isub (hd : decode code pc = .ok (.isub, 1)) : lq_Snd X bb LL xx pc (s_sub (pc + 1)) := by
  intro lv stk h K hK hf p l e s m below meth c H locs ls C hP hD hS hl ho hk
  unfold s_sub at hf
  split at hf
  · next b a r =>
    refine lv_isub C.1 C.2.1 hd ?_
    rw [← Int32.ofInt_sub]
    exact hK _ _ _ _ hf p l e s m below meth c H locs ls C hP hD hS hl ho (List.forall_mem_cons.mpr ⟨Or.inl trivial, (List.forall_mem_cons.mp (List.forall_mem_cons.mp hk).2).2⟩)
  · exact hf.elim
theorem lq_n_iand (hd : decode code pc = .ok (.iand, 1)) : lq_Snd X bb LL xx pc (s_b nv_and (pc + 1)) := by
  intro lv stk h K hK hf p l e s m below meth c H locs ls C hP hD hS hl ho hk
  unfold s_b at hf
  split at hf
  · next b a r =>
    refine lv_iand C.1 C.2.1 hd ?_
    have := hK _ _ _ _ hf p l e s m below meth c H locs ls C hP hD hS hl ho (List.forall_mem_cons.mpr ⟨Or.inl trivial, (List.forall_mem_cons.mp (List.forall_mem_cons.mp hk).2).2⟩)
    rwa [List.map_cons, show nv_tr X (.inl (nv_and a b)) = .int (Int32.ofInt a &&& Int32.ofInt b) from congrArg Value.int (Int32.ofInt_toInt _)] at this
  · exact hf.elim
theorem lq_n_icmp_gt {off : Int} {tgt : Nat} (hd : decode code pc = .ok (.if_icmp .gt off, 3)) (ht : (pc : Int) + off = (tgt : Int)) : lq_Snd X bb LL xx pc (s_ic c_gt tgt (pc + 3)) := by
  intro lv stk h K hK hf p l e s m below meth c H locs ls C hP hD hS hl ho hk
  unfold s_ic at hf
  split at hf
  · next b a r =>
    obtain ⟨ha, hb, hT, hF⟩ := hf
    have hr := (List.forall_mem_cons.mp (List.forall_mem_cons.mp hk).2).2
    exact lv_icmp_gt C.1 C.2.1 hd ht (fun h0 => hK _ _ _ _ (hT ((nv_ltR hb ha).mp h0)) p l e s m below meth c H locs ls C hP hD hS hl ho hr) (fun h0 => hK _ _ _ _ (hF (fun h1 => h0 ((nv_ltR hb ha).mpr h1))) p l e s m below meth c H locs ls C hP hD hS hl ho hr)
  · exact hf.elim
theorem lq_n_goto {off : Int} {tgt : Nat} (hd : decode code pc = .ok (.goto off, 3)) (ht : (pc : Int) + off = (tgt : Int)) : lq_Snd X bb LL xx pc (s_go tgt) := by
  intro lv stk h K hK hf p l e s m below meth c H locs ls C hP hD hS hl ho hk
  exact lv_goto C.1 C.2.1 hd ht (hK _ _ _ _ hf p l e s m below meth c H locs ls C hP hD hS hl ho hk)
theorem lq_n_tableswitch {dflt lo hi : Int} {offs : Array Int} {len df : Nat} {ts : List Nat} (hd : decode code pc = .ok (.tableswitch dflt lo hi offs, len)) (hdf : (pc : Int) + dflt = (df : Int)) (hts : offs.toList.map (fun o => (pc : Int) + o) = ts.map (fun t : Nat => (t : Int))) (hhi : lo + ts.length = hi + 1) : lq_Snd X bb LL xx pc (s_sw lo df ts) := by
  intro lv stk h K hK hf p l e s m below meth c H locs ls C hP hD hS hl ho hk
  unfold s_sw at hf
  split at hf
  · next x r =>
    obtain ⟨hx, hD1, hI⟩ := hf
    have hr := (List.forall_mem_cons.mp hk).2
    by_cases h1 : x < lo ∨ hi < x
    · exact lv_tableOut C.1 C.2.1 hd (by rw [nv_toInt hx]; exact h1) hdf (hK _ _ _ _ (hD1 (by omega)) p l e s m below meth c H locs ls C hP hD hS hl ho hr)
    · have hlen : offs.toList.length = ts.length := by simpa using congrArg List.length hts
      have hj : (x - lo).toNat < ts.length := by omega
      have hjo : (x - lo).toNat < offs.toList.length := by omega
      have e1 : ts[(x - lo).toNat]? = some ts[(x - lo).toNat] := List.getElem?_eq_getElem hj
      have e2 : offs[(x - lo).toNat]? = some (offs.toList[(x - lo).toNat]) := by
        rw [← Array.getElem?_toList]; exact List.getElem?_eq_getElem hjo
      have e3 : (pc : Int) + offs.toList[(x - lo).toNat] = (ts[(x - lo).toNat] : Int) := by
        have h3 := congrArg (fun z : List Int => z[(x - lo).toNat]?) hts
        simp only [List.getElem?_map, List.getElem?_eq_getElem hj, List.getElem?_eq_getElem hjo, Option.map_some, Option.some.injEq] at h3
        exact h3
      exact lv_tableIn C.1 C.2.1 hd (by rw [nv_toInt hx]; omega) (by rw [nv_toInt hx]; omega) (by rw [nv_toInt hx]; exact e2) e3 (hK _ _ _ _ (nv_sw_at hI (j := (x - lo).toNat) (by omega) e1) p l e s m below meth c H locs ls C hP hD hS hl ho hr)
  · exact hf.elim
theorem lq_n_i2l (hd : decode code pc = .ok (.i2l, 1)) : lq_Snd X bb LL xx pc (s_i2l (pc + 1)) := by
  intro lv stk h K hK hf p l e s m below meth c H locs ls C hP hD hS hl ho hk
  unfold s_i2l at hf
  split at hf
  · next a r =>
    obtain ⟨z, ha, hf⟩ := hf
    have e1 : (Int32.ofInt a).toInt64 = Int64.ofInt z := by
      rw [← Int64.ofInt_int32ToInt, ha]
    exact lv_i2l C.1 C.2.1 hd e1 (hK _ _ _ _ hf p l e s m below meth c H locs ls C hP hD hS hl ho (List.forall_mem_cons.mpr ⟨Or.inl trivial, (List.forall_mem_cons.mp hk).2⟩))
  · exact hf.elim
theorem lq_n_ldc2 {i : Nat} {z : Int} (hd : decode code pc = .ok (.ldc2_w i, 3)) (hw : Cond.constantLong RL i (Int64.ofInt z) ∈ lw_tbl) : lq_Snd X bb LL xx pc (s_kl z (pc + 3)) := by
  intro lv stk h K hK hf p l e s m below meth c H locs ls C hP hD hS hl ho hk
  exact lv_ldc2 C.1 C.2.1 C.2.2.2.2.2.1 (C.2.2.2.2.2.2.1 _ (nv_in hw rfl)) hd (hK _ _ _ _ hf p l e s m below meth c H locs ls C hP hD hS hl ho (List.forall_mem_cons.mpr ⟨Or.inl trivial, hk⟩))
def s_ieq (tg : Nat) : nv_Sem := fun lv stk h _ K => match stk with
  | .inl b :: .inl a :: r => a = b ∧ K tg lv r h
  | _ => False
theorem lq_n_ieq {off : Int} {tgt : Nat} (hd : decode code pc = .ok (.if_icmp .eq off, 3)) (ht : (pc : Int) + off = (tgt : Int)) : lq_Snd X bb LL xx pc (s_ieq tgt) := by
  intro lv stk h K hK hf p l e s m below meth c H locs ls C hP hD hS hl ho hk
  unfold s_ieq at hf
  split at hf
  · next b a r =>
    obtain ⟨rfl, hf⟩ := hf
    have hr := (List.forall_mem_cons.mp (List.forall_mem_cons.mp hk).2).2
    exact lv_icmp_eq C.1 C.2.1 hd ht (fun _ => hK _ _ _ _ hf p l e s m below meth c H locs ls C hP hD hS hl ho hr) (fun h0 => absurd rfl h0)
  · exact hf.elim
def s_scr (LL : Nat) (xx : Nat → Int32) (nx : Nat) : nv_Sem := fun lv stk h _ K => match stk with
  | .inl j :: .inr (.inl (t, i)) :: r => (match Nat.beq t 32 with
    | true => (match Nat.beq i 0 with
      | true => ∃ q : Nat, j = (q : Int) ∧ q < LL ∧ K nx lv (vi (xx q).toInt :: r) h
      | false => False)
    | false => False)
  | _ => False
theorem lq_n_iaload (hd : decode code pc = .ok (.iaload, 1)) : lq_Snd X bb LL xx pc (s_scr LL xx (pc + 1)) := by
  intro lv stk h K hK hf p l e s m below meth c H locs ls C hP hD hS hl ho hk
  unfold s_scr at hf
  split at hf
  · next j t i r =>
    split at hf
    · next hb0 =>
      have e0 : t = 32 := Nat.eq_of_beq_eq_true hb0
      subst e0
      split at hf
      · next hb1 =>
        have e1 : i = 0 := Nat.eq_of_beq_eq_true hb1
        subst e1
        obtain ⟨q, rfl, hq, hf⟩ := hf
        obtain ⟨c1, c2, -, -, -, -, -, -, hX, hbl, hb, hL, hA⟩ := id C
        have hr := (List.forall_mem_cons.mp (List.forall_mem_cons.mp hk).2).2
        have hk2 := hK _ _ _ _ hf p l e s m below meth c H locs ls C hP hD hS hl ho (List.forall_mem_cons.mpr ⟨Or.inl trivial, hr⟩)
        rw [List.map_cons, show nv_tr X (vi (xx q).toInt) = .int (xx q) from congrArg Value.int (Int32.ofInt_toInt _)] at hk2
        show W p l e room_1 s m _ below meth c H locs _ _ _ (F0 m pc ls (.int (Int32.ofInt (q : Int)) :: .ref (X.2.1 32 0) :: r.map (nv_tr X)))
        rw [hb, nv_ofNat]
        refine va_sld c1 c2 hX hbl (fun h0 => absurd (hA _ h0) (by omega)) hS (vp_in_nI hq (by omega)) hd ?_
        rw [nI_clamp (by omega)]
        exact hk2
      · exact hf.elim
    · exact hf.elim
  · exact hf.elim
def s_sln (LL : Nat) (nx : Nat) : nv_Sem := fun lv stk h _ K => match stk with
  | .inr (.inl (t, i)) :: r => (match Nat.beq t 32 with
    | true => (match Nat.beq i 0 with
      | true => K nx lv (vi LL :: r) h
      | false => False)
    | false => False)
  | _ => False
theorem lq_n_alen (hd : decode code pc = .ok (.arraylength, 1)) : lq_Snd X bb LL xx pc (s_sln LL (pc + 1)) := by
  intro lv stk h K hK hf p l e s m below meth c H locs ls C hP hD hS hl ho hk
  unfold s_sln at hf
  split at hf
  · next t i r =>
    split at hf
    · next hb0 =>
      have e0 : t = 32 := Nat.eq_of_beq_eq_true hb0
      subst e0
      split at hf
      · next hb1 =>
        have e1 : i = 0 := Nat.eq_of_beq_eq_true hb1
        subst e1
        obtain ⟨c1, c2, -, -, -, -, -, -, hX, hbl, hb, hL, hA⟩ := id C
        have hk2 := hK _ _ _ _ hf p l e s m below meth c H locs ls C hP hD hS hl ho (List.forall_mem_cons.mpr ⟨Or.inl trivial, (List.forall_mem_cons.mp hk).2⟩)
        show W p l e room_1 s m _ below meth c H locs _ _ _ (F0 m pc ls (.ref (X.2.1 32 0) :: r.map (nv_tr X)))
        rw [hb]
        refine va_slen c1 c2 hX hbl (fun h0 => absurd (hA _ h0) (by omega)) hS hd ?_
        rw [List.map_cons, show nv_tr X (vi (LL : Int)) = .int (Int32.ofNat LL) from congrArg Value.int (nv_ofNat _)] at hk2
        exact hk2
      · exact hf.elim
    · exact hf.elim
  · exact hf.elim
def s_lsh (nx : Nat) : nv_Sem := fun lv stk h _ K => match stk with
  | .inl b :: .inr (.inr a) :: r => K nx lv (vl (Int64.ofInt a <<< ((Int32.ofInt b).toInt64 &&& 63)).toInt :: r) h
  | _ => False
theorem lq_n_lshl (hd : decode code pc = .ok (.lshl, 1)) : lq_Snd X bb LL xx pc (s_lsh (pc + 1)) := by
  intro lv stk h K hK hf p l e s m below meth c H locs ls C hP hD hS hl ho hk
  unfold s_lsh at hf
  split at hf
  · next b a r =>
    have hr := (List.forall_mem_cons.mp (List.forall_mem_cons.mp hk).2).2
    exact lv_lshl C.1 C.2.1 hd (Int64.ofInt_toInt _).symm (hK _ _ _ _ hf p l e s m below meth c H locs ls C hP hD hS hl ho (List.forall_mem_cons.mpr ⟨Or.inl trivial, hr⟩))
  · exact hf.elim
def s_lnd (nx : Nat) : nv_Sem := fun lv stk h _ K => match stk with
  | .inr (.inr b) :: .inr (.inr a) :: r => K nx lv (vl (Int64.ofInt a &&& Int64.ofInt b).toInt :: r) h
  | _ => False
theorem lq_n_land (hd : decode code pc = .ok (.land, 1)) : lq_Snd X bb LL xx pc (s_lnd (pc + 1)) := by
  intro lv stk h K hK hf p l e s m below meth c H locs ls C hP hD hS hl ho hk
  unfold s_lnd at hf
  split at hf
  · next b a r =>
    have hr := (List.forall_mem_cons.mp (List.forall_mem_cons.mp hk).2).2
    refine lv_land C.1 C.2.1 hd ?_
    have := hK _ _ _ _ hf p l e s m below meth c H locs ls C hP hD hS hl ho (List.forall_mem_cons.mpr ⟨Or.inl trivial, hr⟩)
    rwa [List.map_cons, show nv_tr X (vl (Int64.ofInt a &&& Int64.ofInt b).toInt) = .long (Int64.ofInt a &&& Int64.ofInt b) from congrArg Value.long (Int64.ofInt_toInt _)] at this
  · exact hf.elim
def s_lr (nx : Nat) : nv_Sem := fun lv stk h _ K => match stk with
  | .inr (.inr b) :: .inr (.inr a) :: r => K nx lv (vl (Int64.ofInt a ||| Int64.ofInt b).toInt :: r) h
  | _ => False
theorem lq_n_lor (hd : decode code pc = .ok (.lor, 1)) : lq_Snd X bb LL xx pc (s_lr (pc + 1)) := by
  intro lv stk h K hK hf p l e s m below meth c H locs ls C hP hD hS hl ho hk
  unfold s_lr at hf
  split at hf
  · next b a r =>
    have hr := (List.forall_mem_cons.mp (List.forall_mem_cons.mp hk).2).2
    refine lv_lor C.1 C.2.1 hd ?_
    have := hK _ _ _ _ hf p l e s m below meth c H locs ls C hP hD hS hl ho (List.forall_mem_cons.mpr ⟨Or.inl trivial, hr⟩)
    rwa [List.map_cons, show nv_tr X (vl (Int64.ofInt a ||| Int64.ofInt b).toInt) = .long (Int64.ofInt a ||| Int64.ofInt b) from congrArg Value.long (Int64.ofInt_toInt _)] at this
  · exact hf.elim
def s_one : nv_Sem := fun _ stk _ _ _ => match stk with
  | [.inl z] => z = 1
  | _ => False
theorem lq_n_ret (hd : decode code pc = .ok (.ireturn, 1)) : lq_Snd X bb LL xx pc s_one := by
  intro lv stk h K hK hf p l e s m below meth c H locs ls C hP hD hS hl ho hk
  unfold s_one at hf
  split at hf
  · next z =>
    subst hf
    obtain ⟨c1, c2, c3, -, c5, -, -, -, -, -, -, -, hA⟩ := id C
    exact va_forget (fun q hq => hA _ (hS.2.2 q hq)) (lw_ret c1 c2 c3 c5 hd)
  · exact hf.elim
def nv_nr : List nv_AV → Bool
  | [] => true
  | .inr (.inl _) :: _ => false
  | .inl _ :: r => nv_nr r
  | .inr (.inr _) :: r => nv_nr r
theorem nv_nr_ok : ∀ {l : List nv_AV}, nv_nr l = true → ∀ v ∈ l, nv_ok v
  | [], _, v, h => by cases h
  | .inr (.inl _) :: _, h, _, _ => by simp [nv_nr] at h
  | .inl _ :: r, h, v, hv => by
    rcases List.mem_cons.mp hv with rfl | hv
    · trivial
    · exact nv_nr_ok (l := r) h v hv
  | .inr (.inr _) :: r, h, v, hv => by
    rcases List.mem_cons.mp hv with rfl | hv
    · trivial
    · exact nv_nr_ok (l := r) h v hv
theorem lq_callW {p : Program} {l : Launch} {e : Env} {R : Room} {s : State} {m : MethodId} {args : Array Value} {below : List Frame} {meth : Method} {c : Code} {H : Heap} {locs : List Loc} {cells slots : Nat} {Qw : State → Prop} {ls : Array Slot} {rest st0 : List Value} {a : Array Value} {P' : nv_PT}
    (hr : va_Run p l e R s m args below meth c H locs cells slots 0 0 (F0 m pc ls st0) rest (nv_Qc X P' a) (nv_A X)) (hS : va_S (nv_A X) s.heap H locs)
    (kk : ∀ (r : Option nv_AV) (h' : nv_St) (H1 : Heap) (locs1 : List Loc), (∀ v, r = some v → nv_ok v) → P' r h' → va_P X.1 vwCl (nv_ws X h') H1 → va_D (nv_A X) (nv_ws X h') → va_S (nv_A X) s.heap H1 locs1 → W p l e R s m args below meth c H1 locs1 cells slots Qw (F0 m (pc + 3) ls ((r.map (nv_tr X)).toList ++ rest))) :
    W p l e R s m args below meth c H locs cells slots Qw (F0 m pc ls st0) := by
  intro T hT Y
  obtain ⟨v, st₀, t, T', L, h0, Y', hL, e1, e2, ⟨⟨r, h', hv, hok, hp, hP1, hD1⟩, hz, hk⟩, st⟩ := hr T hT Y
  cases hv
  rw [h0] at hz hk
  obtain ⟨t2, a1, b1⟩ := kk r h' T'.heap (locs ++ L) hok hp (by rw [e1]; exact hP1) hD1
    ⟨Nat.le_trans hS.1 (by rw [e1]; exact hz), fun q h1 h2 => by rw [e1, hk q (Nat.lt_of_lt_of_le h1 hS.1) h2]; exact hS.2.1 q h1 h2, fun q hq => by
      rcases List.mem_append.mp hq with h | h
      · exact hS.2.2 q h
      · exact hL q h⟩ T' rfl Y'
  exact ⟨t2, st t2 a1, b1⟩
def s_lcv (ci : Nat) (M' : nv_MD) (n nx : Nat) : nv_Sem := fun lv stk h _ K => match nv_take (n + 1) [] stk with
  | some (.inr (.inl (t, i)) :: as, r) => (match nv_tcl t with
    | some c => (match Nat.beq c ci with
      | true => (match Nat.ble (nv_len r) 8 with
        | true => (match nv_nr as with
          | true => ∃ P' : nv_PT, nv_R M' (.inr (.inl (t, i)) :: as) h P' ∧ ∀ v h', P' v h' → K nx lv (nv_co v r) h'
          | false => False)
        | false => False)
      | false => False)
    | none => False)
  | _ => False
theorem lq_n_virtual {M' : nv_MD} {idx n ci N : Nat} {D : String} {T : u_T} (hd : decode code pc = .ok (.invokevirtual idx, 3)) (hfn : nv_fn M' n) (hfv : nv_fnV M') (hc : vwCl[ci]? = some (D, T, N)) (hDy : D = (nv_y M').cls) (hl : Cond.methodLink RL idx (nv_y M') ∈ lw_tbl) (hfit : (nv_rm M').frames + 1 ≤ room_1.frames ∧ 8 + (nv_mL M' + 11) + (nv_rm M').locals ≤ room_1.locals) : lq_Snd X bb LL xx pc (s_lcv ci M' n (pc + 3)) := by
  intro lv stk h K hK hf p l e s m below meth c H locs ls C hP hD hS hl' ho hk
  unfold s_lcv at hf
  split at hf
  · next t i as r hta =>
    split at hf
    · next c0 hc0 =>
      split at hf
      · next hb0 =>
        have e0 : c0 = ci := Nat.eq_of_beq_eq_true hb0
        subst e0
        split at hf
        · next hb =>
          split at hf
          · next hnr =>
            obtain ⟨P', hR, hf⟩ := hf
            obtain ⟨hlen, hsk⟩ := nv_take_eq hta
            simp at hlen hsk
            have ht := C.2.2.2.2.2.2.1
            have hok0 : nv_ok (.inr (.inl (t, i))) := by
              rcases hk (.inr (.inl (t, i))) (by rw [← hsk]; simp) with q | q
              · exact q
              · exfalso
                have q1 : t = 32 := congrArg (fun v : nv_AV => match v with | .inr (.inl r) => r.1 | _ => 0) q
                rw [q1] at hc0
                simp [nv_tcl] at hc0
            have hok1 : ∀ v ∈ (.inr (.inl (t, i)) :: as : List nv_AV), nv_ok v := List.forall_mem_cons.mpr ⟨hok0, nv_nr_ok hnr⟩
            have hok2 : ∀ v ∈ r, lq_ok v := fun v hv => hk v (by rw [← hsk]; simp [hv])
            have hmem : (t, i) ∈ nv_cells := nv_okc hok0 (by rintro rfl; simp [nv_tcl] at hc0) (by rintro rfl; simp [nv_tcl] at hc0)
            obtain ⟨q, hq, hws⟩ := nv_at (X := X) hmem
            have hrec := va_recv C.2.2.2.2.2.2.2.1.1 hP hc (show (nv_ws X h)[q]? = some (X.2.1 t i, .inr (c0, nv_fs X h c0 t i)) by rw [hws h, nv_cell_obj hc0])
            refine lq_callW (rest := r.map (nv_tr X)) (va_runV (C := D) (b := X.2.1 t i) (As := as.map (nv_tr X)) (n := n) ⟨C.1, C.2.1, C.2.2.2.1, C.2.2.2.2.2.1, ht⟩ (hR l X hok1)
              ⟨callB_of n ht (nv_good hfn.1) rfl rfl rfl (ht _ (nv_in hfn.2.1 rfl)) (ht _ (nv_in hl rfl)) hfn.2.2 hfit, ht _ (nv_in hfv.1 rfl), by rw [hDy]; exact ht _ (nv_in hfv.2 rfl)⟩
              ⟨nv_pre (M' := M'), hrec, fun U hU hW => ⟨rfl, by rw [hU]; exact hP, hD, C.2.2.2.2.2.2.2.1.go hS hU hW⟩⟩ rfl (by simp; omega) hl'.1 ?_ (lv_room (by rw [nv_len_cat]; exact Nat.le_of_ble_eq_true hb)) hd ⟨by decide, by decide⟩) hS (fun r' h' H1 locs1 hok3 hp hP1 hD1 hS1 => ?_)
            · rw [← hsk]; simp [List.map_append, List.map_reverse, nv_tr]
            · rw [nv_co_tr]
              refine hK _ _ _ _ (hf r' h' hp) p l e s m below meth c H1 locs1 ls C hP1 hD1 hS1 hl' ho ?_
              cases r' with
              | none => exact hok2
              | some x => exact List.forall_mem_cons.mpr ⟨Or.inl (hok3 x rfl), hok2⟩
          · exact hf.elim
        · exact hf.elim
      · exact hf.elim
    · exact hf.elim
  · exact hf.elim
end lqIns
theorem lq_r (z : Int32) : nv_InR z.toInt := by
  have h1 := z.le_toInt
  have h2 := z.toInt_lt
  exact ⟨h1, h2⟩
theorem lq_rl (z : Int64) : nv_InL z.toInt := by
  have h1 := z.le_toInt
  have h2 := z.toInt_lt
  exact ⟨h1, h2⟩
theorem lq_and (a b : Int) : nv_InR (nv_and a b) := lq_r _
theorem w_sw {x lo : Int} {n : Nat} {A B : Prop} (hx : nv_InR x) (hA : A) (hB : B) : nv_InR x ∧ ((x < lo ∨ lo + n ≤ x) → A) ∧ B := ⟨hx, fun _ => hA, hB⟩
theorem w_sc {A B : Prop} (hA : A) (hB : B) : A ∧ B := ⟨hA, hB⟩
