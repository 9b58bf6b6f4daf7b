/-! ===== calls ===== -/
def nv_take : Nat → List nv_AV → List nv_AV → Option (List nv_AV × List nv_AV)
  | 0, acc, r => some (acc, r)
  | _ + 1, _, [] => none
  | n + 1, acc, v :: r => nv_take n (v :: acc) r
theorem nv_take_eq : ∀ {n : Nat} {acc stk as r : List nv_AV}, nv_take n acc stk = some (as, r) → as.length = n + acc.length ∧ as.reverse ++ r = acc.reverse ++ stk
  | 0, acc, stk, as, r, h => by
    simp [nv_take] at h
    obtain ⟨rfl, rfl⟩ := h
    simp
  | n + 1, acc, [], as, r, h => by simp [nv_take] at h
  | n + 1, acc, v :: stk, as, r, h => by
    obtain ⟨h1, h2⟩ := nv_take_eq (n := n) (acc := v :: acc) h
    simp at h1 h2 ⊢
    exact ⟨by omega, h2⟩
def nv_co (v : Option nv_AV) (r : List nv_AV) : List nv_AV := match v with
  | some x => x :: r
  | none => r
theorem nv_len_cat (X : nv_X) : ∀ r : List nv_AV, ((r.map (nv_tr X)).map fun v => v.category).sum = nv_len r
  | [] => rfl
  | v :: r => by
    have h := nv_len_cat X r
    simp only [List.map_cons, List.sum_cons, nv_len, nv_tr_cat] at h ⊢
    rw [h]
theorem nv_callW {p : Program} {l : Launch} {e : Env} {R : Room} {s : State} {m : MethodId} {args : Array Value} {below : List Frame} {meth : Method} {c : Code} {H : Heap} {locs : List Loc} {Qw : State → Prop} {pc : Nat} {ls : Array Slot} {rest st0 : List Value} {a : Array Value} {X : nv_X} {P' : nv_PT}
    (hr : va_Run p l e R s m args below meth c H locs 0 0 0 0 (F0 m pc ls st0) rest (nv_Qc X P' a) (nv_A X)) (hS : va_S (nv_A X) s.heap H locs)
    (kk : ∀ (r : Option nv_AV) (h' : nv_St) (H1 : Heap) (locs1 : List Loc), (∀ v, r = some v → nv_ok v) → P' r h' → va_P X.1 vwCl (nv_ws X h') H1 → va_D (nv_A X) (nv_ws X h') → va_S (nv_A X) s.heap H1 locs1 → W p l e R s m args below meth c H1 locs1 0 0 Qw (F0 m (pc + 3) ls ((r.map (nv_tr X)).toList ++ rest))) :
    W p l e R s m args below meth c H locs 0 0 Qw (F0 m pc ls st0) := by
  intro T hT Y
  obtain ⟨v, st₀, t, T', L, h0, Y', hL, e1, e2, ⟨⟨r, h', hv, hok, hp, hP1, hD1⟩, hz, hk⟩, st⟩ := hr T hT Y
  cases hv
  rw [h0] at hz hk
  obtain ⟨t2, a1, b1⟩ := kk r h' T'.heap (locs ++ L) hok hp (by rw [e1]; exact hP1) hD1
    ⟨Nat.le_trans hS.1 (by rw [e1]; exact hz), fun q h1 h2 => by rw [e1, hk q (Nat.lt_of_lt_of_le h1 hS.1) h2]; exact hS.2.1 q h1 h2, fun q hq => by
      rcases List.mem_append.mp hq with h | h
      · exact hS.2.2 q h
      · exact hL q h⟩ T' rfl Y'
  exact ⟨t2, st t2 a1, b1⟩
theorem nv_co_tr (X : nv_X) (r : Option nv_AV) (rest : List nv_AV) : (r.map (nv_tr X)).toList ++ rest.map (nv_tr X) = (nv_co r rest).map (nv_tr X) := by
  cases r <;> rfl
theorem nv_co_ok {r : Option nv_AV} {rest : List nv_AV} (h1 : ∀ v, r = some v → nv_ok v) (h2 : ∀ v ∈ rest, nv_ok v) : ∀ v ∈ nv_co r rest, nv_ok v := by
  cases r with
  | none => exact h2
  | some x => exact List.forall_mem_cons.mpr ⟨h1 x rfl, h2⟩
/-- a method that can be called: its code and class stand in the tables -/
def nv_fn (M : nv_MD) (n : Nat) : Prop := Cond.code (nv_y M) (nv_c M) (nv_mL M) (nv_ret M) ∈ lw_tbl ∧ Cond.initialized (nv_y M).cls ∈ lw_tbl ∧ ((nv_y M).cls ≠ "java/lang/invoke/MethodHandle" ∧ (nv_y M).cls ≠ "java/lang/invoke/VarHandle" ∧ (parseMethodDescriptor (nv_y M).desc).map (fun d => d.parameters.length) = some n)
def nv_fnV (M : nv_MD) : Prop := Cond.instanceMethod (nv_y M) ∈ lw_tbl ∧ Cond.selects (nv_y M).cls (nv_y M) (nv_y M) ∈ lw_tbl
def nv_fit (M M' : nv_MD) : Prop := (nv_rm M').frames + 1 ≤ (nv_rm M).frames ∧ 8 + (nv_mL M' + 11) + (nv_rm M').locals ≤ (nv_rm M).locals
theorem nv_pre {M' : nv_MD} {X : nv_X} {h : nv_St} {av : List nv_AV} : FrameBlind (va_Pc (av.map (nv_tr X)) (fun U => va_P X.1 vwCl (nv_ws X h) U.heap ∧ va_D (nv_A X) (nv_ws X h) ∧ nv_KK X U)) :=
  fun a U g mk q => by
    obtain ⟨q0, q1, q2, q3⟩ := q
    exact ⟨q0, q1, q2, q3.calling g mk a⟩
section nvCalls
variable {M : nv_MD} {pc : Nat}
def s_cs (M' : nv_MD) (n nx : Nat) : nv_Sem := fun lv stk h _ K => match nv_take n [] stk with
  | some (as, r) => (match Nat.ble (nv_len r) 8 with
    | true => ∃ P' : nv_PT, nv_R M' as h P' ∧ ∀ v h', P' v h' → K nx lv (nv_co v r) h'
    | false => False)
  | none => False
theorem n_static {M' : nv_MD} {idx n : Nat} (hd : decode (nv_c M) pc = .ok (.invokestatic idx, 3)) (hfn : nv_fn M' n) (hst : Cond.static (nv_y M') ∈ lw_tbl) (hl : Cond.methodLink (nv_own M) idx (nv_y M') ∈ lw_tbl) (hfit : nv_fit M M') : nv_Snd M pc (s_cs M' n (pc + 3)) := by
  intro lv stk h Q K hK hf X p l e s m args below meth c H locs ls C hP hD hS hl' ho hk
  unfold s_cs at hf
  split at hf
  · next as r hta =>
    split at hf
    · next hb =>
      obtain ⟨P', hR, hf⟩ := hf
      obtain ⟨hlen, hsk⟩ := nv_take_eq hta
      simp at hlen hsk
      have ht := C.2.2.2.2.2.2.1
      have hok1 : ∀ v ∈ as, nv_ok v := fun v hv => hk v (by rw [← hsk]; exact List.mem_append_left _ (List.mem_reverse.mpr hv))
      have hok2 : ∀ v ∈ r, nv_ok v := fun v hv => hk v (by rw [← hsk]; exact List.mem_append_right _ hv)
      refine nv_callW (rest := r.map (nv_tr X)) (va_runS (As := as.map (nv_tr X)) (n := n) ⟨C.1, C.2.1, C.2.2.2.1, C.2.2.2.2.2.1, ht⟩ (hR l X hok1)
        ⟨callB_of n ht (nv_good hfn.1) rfl rfl rfl (ht _ (nv_in hfn.2.1 rfl)) (ht _ (nv_in hl rfl)) hfn.2.2 hfit, ht _ (nv_in hst rfl)⟩
        ⟨nv_pre (M' := M'), fun U hU hW => ⟨rfl, by rw [hU]; exact hP, hD, C.2.2.2.2.2.2.2.go hS hU hW⟩⟩ rfl (by simp [hlen]) hl'.1 ?_ (lv_room (by rw [nv_len_cat]; exact Nat.le_of_ble_eq_true hb)) hd ⟨Nat.le_refl _, Nat.le_refl _⟩) hS (fun r' h' H1 locs1 hok3 hp hP1 hD1 hS1 => ?_)
      · rw [← hsk]; simp [List.map_append, List.map_reverse]
      · rw [nv_co_tr]
        exact hK _ _ _ _ (hf r' h' hp) X p l e s m args below meth c H1 locs1 ls C hP1 hD1 hS1 hl' ho (nv_co_ok hok3 hok2)
    · exact hf.elim
  · exact hf.elim
theorem n_staticN {M' : nv_MD} {idx n : Nat} {host : String} (hd : decode (nv_c M) pc = .ok (.invokestatic idx, 3)) (hfn : nv_fn M' n) (hst : Cond.static (nv_y M') ∈ lw_tbl) (hl : ∀ X U, nv_KK X U → va_Nw (.methodLinkNest (nv_own M) idx (nv_y M') host) U) (hfit : nv_fit M M') : nv_Snd M pc (s_cs M' n (pc + 3)) := by
  intro lv stk h Q K hK hf X p l e s m args below meth c H locs ls C hP hD hS hl' ho hk
  unfold s_cs at hf
  split at hf
  · next as r hta =>
    split at hf
    · next hb =>
      obtain ⟨P', hR, hf⟩ := hf
      obtain ⟨hlen, hsk⟩ := nv_take_eq hta
      simp at hlen hsk
      have ht := C.2.2.2.2.2.2.1
      have hok1 : ∀ v ∈ as, nv_ok v := fun v hv => hk v (by rw [← hsk]; exact List.mem_append_left _ (List.mem_reverse.mpr hv))
      have hok2 : ∀ v ∈ r, nv_ok v := fun v hv => hk v (by rw [← hsk]; exact List.mem_append_right _ hv)
      refine nv_callW (rest := r.map (nv_tr X)) (va_runSN (As := as.map (nv_tr X)) (n := n) ⟨C.1, C.2.1, C.2.2.2.1, C.2.2.2.2.2.1, ht⟩ (hR l X hok1)
        ⟨va_cnB n ht (nv_good hfn.1) rfl rfl rfl (hl X s C.2.2.2.2.2.2.2) (ht _ (nv_in hfn.2.1 rfl)) hfn.2.2 hfit, ht _ (nv_in hst rfl), trivial⟩
        ⟨nv_pre (M' := M'), fun U hU hW => ⟨rfl, by rw [hU]; exact hP, hD, C.2.2.2.2.2.2.2.go hS hU hW⟩⟩ rfl (by simp [hlen]) hl'.1 ?_ (lv_room (by rw [nv_len_cat]; exact Nat.le_of_ble_eq_true hb)) hd ⟨Nat.le_refl _, Nat.le_refl _⟩) hS (fun r' h' H1 locs1 hok3 hp hP1 hD1 hS1 => ?_)
      · rw [← hsk]; simp [List.map_append, List.map_reverse]
      · rw [nv_co_tr]
        exact hK _ _ _ _ (hf r' h' hp) X p l e s m args below meth c H1 locs1 ls C hP1 hD1 hS1 hl' ho (nv_co_ok hok3 hok2)
    · exact hf.elim
  · exact hf.elim
def s_cv (ci : Nat) (M' : nv_MD) (n nx : Nat) : nv_Sem := fun lv stk h _ K => match nv_take (n + 1) [] stk with
  | some (.inr (.inl (t, i)) :: as, r) => (match nv_tcl t with
    | some c => (match Nat.beq c ci with
      | true => (match Nat.ble (nv_len r) 8 with
        | true => ∃ P' : nv_PT, nv_R M' (.inr (.inl (t, i)) :: as) h P' ∧ ∀ v h', P' v h' → K nx lv (nv_co v r) h'
        | false => False)
      | false => False)
    | none => False)
  | _ => False
theorem n_virtual {M' : nv_MD} {idx n ci N : Nat} {D : String} {T : u_T} (hd : decode (nv_c M) pc = .ok (.invokevirtual idx, 3)) (hfn : nv_fn M' n) (hfv : nv_fnV M') (hc : vwCl[ci]? = some (D, T, N)) (hDy : D = (nv_y M').cls) (hl : Cond.methodLink (nv_own M) idx (nv_y M') ∈ lw_tbl) (hfit : nv_fit M M') : nv_Snd M pc (s_cv ci M' n (pc + 3)) := by
  intro lv stk h Q K hK hf X p l e s m args below meth c H locs ls C hP hD hS hl' ho hk
  unfold s_cv at hf
  split at hf
  · next t i as r hta =>
    split at hf
    · next c0 hc0 =>
      split at hf
      · next hb0 =>
        have e0 : c0 = ci := Nat.eq_of_beq_eq_true hb0
        subst e0
        split at hf
        · next hb =>
          obtain ⟨P', hR, hf⟩ := hf
          obtain ⟨hlen, hsk⟩ := nv_take_eq hta
          simp at hlen hsk
          have ht := C.2.2.2.2.2.2.1
          have hok1 : ∀ v ∈ (.inr (.inl (t, i)) :: as : List nv_AV), nv_ok v := fun v hv => hk v (by
            rw [← hsk]
            rcases List.mem_cons.mp hv with rfl | hv
            · simp
            · simp [hv])
          have hok2 : ∀ v ∈ r, nv_ok v := fun v hv => hk v (by rw [← hsk]; simp [hv])
          have hmem : (t, i) ∈ nv_cells := nv_okc (hok1 _ List.mem_cons_self) (by rintro rfl; simp [nv_tcl] at hc0) (by rintro rfl; simp [nv_tcl] at hc0)
          obtain ⟨q, hq, hws⟩ := nv_at (X := X) hmem
          have hrec := va_recv C.2.2.2.2.2.2.2.1 hP hc (show (nv_ws X h)[q]? = some (X.2.1 t i, .inr (c0, nv_fs X h c0 t i)) by rw [hws h, nv_cell_obj hc0])
          refine nv_callW (rest := r.map (nv_tr X)) (va_runV (C := D) (b := X.2.1 t i) (As := as.map (nv_tr X)) (n := n) ⟨C.1, C.2.1, C.2.2.2.1, C.2.2.2.2.2.1, ht⟩ (hR l X hok1)
            ⟨callB_of n ht (nv_good hfn.1) rfl rfl rfl (ht _ (nv_in hfn.2.1 rfl)) (ht _ (nv_in hl rfl)) hfn.2.2 hfit, ht _ (nv_in hfv.1 rfl), by rw [hDy]; exact ht _ (nv_in hfv.2 rfl)⟩
            ⟨nv_pre (M' := M'), hrec, fun U hU hW => ⟨rfl, by rw [hU]; exact hP, hD, C.2.2.2.2.2.2.2.go hS hU hW⟩⟩ rfl (by simp; omega) hl'.1 ?_ (lv_room (by rw [nv_len_cat]; exact Nat.le_of_ble_eq_true hb)) hd ⟨Nat.le_refl _, Nat.le_refl _⟩) hS (fun r' h' H1 locs1 hok3 hp hP1 hD1 hS1 => ?_)
          · rw [← hsk]; simp [List.map_append, List.map_reverse, nv_tr]
          · rw [nv_co_tr]
            exact hK _ _ _ _ (hf r' h' hp) X p l e s m args below meth c H1 locs1 ls C hP1 hD1 hS1 hl' ho (nv_co_ok hok3 hok2)
        · exact hf.elim
      · exact hf.elim
    · exact hf.elim
  · exact hf.elim
/-- the letters of the kinds, and the one method of String that is called -/
def s_str (nx : Nat) : nv_Sem := fun lv stk h _ K => K nx lv (.inr (.inl (30, 0)) :: stk) h
theorem n_ldcS (hd : decode (nv_c M) pc = .ok (.ldc 63, 2)) (ho' : nv_own M = "NoonSaws$Tape") : nv_Snd M pc (s_str (pc + 2)) := by
  intro lv stk h Q K hK hf X p l e s m args below meth c H locs ls C hP hD hS hl ho hk
  exact va_ldcS (own := "NoonSaws$Tape") (tx := "poghs") C.1 C.2.1 (by rw [← ho']; exact C.2.2.2.2.2.1) C.2.2.2.2.2.2.2.2.2.2.1 hd (hK _ _ _ _ hf X p l e s m args below meth c H locs ls C hP hD hS hl ho (List.forall_mem_cons.mpr ⟨Or.inr (Or.inl rfl), hk⟩))
def s_cS (M' : nv_MD) (n nx : Nat) : nv_Sem := fun lv stk h _ K => match nv_take (n + 1) [] stk with
  | some (.inr (.inl (t, i)) :: as, r) => (match Nat.beq t 30 with
    | true => (match Nat.ble (nv_len r) 8 with
      | true => ∃ P' : nv_PT, nv_R M' (.inr (.inl (t, i)) :: as) h P' ∧ ∀ v h', P' v h' → K nx lv (nv_co v r) h'
      | false => False)
    | false => False)
  | _ => False
theorem n_virtualS {M' : nv_MD} {idx n : Nat} (hd : decode (nv_c M) pc = .ok (.invokevirtual idx, 3)) (hfn : nv_fn M' n) (hfv : nv_fnV M') (hDy : (nv_y M').cls = "java/lang/String") (hl : Cond.methodLink (nv_own M) idx (nv_y M') ∈ lw_tbl) (hfit : nv_fit M M') : nv_Snd M pc (s_cS M' n (pc + 3)) := by
  intro lv stk h Q K hK hf X p l e s m args below meth c H locs ls C hP hD hS hl' ho hk
  unfold s_cS at hf
  split at hf
  · next t i as r hta =>
    split at hf
    · next hb0 =>
      have e0 : t = 30 := Nat.eq_of_beq_eq_true hb0
      subst e0
      split at hf
      · next hb =>
        obtain ⟨P', hR, hf⟩ := hf
        obtain ⟨hlen, hsk⟩ := nv_take_eq hta
        simp at hlen hsk
        have ht := C.2.2.2.2.2.2.1
        have hok1 : ∀ v ∈ (.inr (.inl (30, i)) :: as : List nv_AV), nv_ok v := fun v hv => hk v (by
          rw [← hsk]
          rcases List.mem_cons.mp hv with rfl | hv
          · simp
          · simp [hv])
        have hok2 : ∀ v ∈ r, nv_ok v := fun v hv => hk v (by rw [← hsk]; simp [hv])
        have hi : i = 0 := by
          rcases hok1 _ List.mem_cons_self with h0 | h0 | h0
          · rw [nv_mem] at h0; omega
          · exact congrArg Prod.snd h0
          · exact absurd (congrArg Prod.fst h0) (by decide : ¬ (30 : Nat) = 31)
        subst hi
        have hrec := vk_recv (i := 0) C.2.2.2.2.2.2.2.2.2.2.2.1 (by decide) hS
        refine nv_callW (rest := r.map (nv_tr X)) (va_runV (C := "java/lang/String") (b := X.2.1 30 0) (As := as.map (nv_tr X)) (n := n) ⟨C.1, C.2.1, C.2.2.2.1, C.2.2.2.2.2.1, ht⟩ (hR l X hok1)
          ⟨callB_of n ht (nv_good hfn.1) rfl rfl rfl (ht _ (nv_in hfn.2.1 rfl)) (ht _ (nv_in hl rfl)) hfn.2.2 hfit, ht _ (nv_in hfv.1 rfl), by rw [← hDy]; exact ht _ (nv_in hfv.2 rfl)⟩
          ⟨nv_pre (M' := M'), hrec, fun U hU hW => ⟨rfl, by rw [hU]; exact hP, hD, C.2.2.2.2.2.2.2.go hS hU hW⟩⟩ rfl (by simp; omega) hl'.1 ?_ (lv_room (by rw [nv_len_cat]; exact Nat.le_of_ble_eq_true hb)) hd ⟨Nat.le_refl _, Nat.le_refl _⟩) hS (fun r' h' H1 locs1 hok3 hp hP1 hD1 hS1 => ?_)
        · rw [← hsk]; simp [List.map_append, List.map_reverse, nv_tr]
        · rw [nv_co_tr]
          exact hK _ _ _ _ (hf r' h' hp) X p l e s m args below meth c H1 locs1 ls C hP1 hD1 hS1 hl' ho (nv_co_ok hok3 hok2)
      · exact hf.elim
    · exact hf.elim
  · exact hf.elim
def s_cpi (nx : Nat) : nv_Sem := fun lv stk h _ K => match stk with
  | [.inl n, .inl dp, .inr (.inl (t1, i1)), .inl sp, .inr (.inl (t0, i0))] => (match nv_tcl t0 with
    | some _ => False
    | none => (match nv_tcl t1 with
      | some _ => False
      | none => (match nv_tar t0 with
        | (0, n0) => (match nv_tar t1 with
          | (0, n1) => ∃ a b c : Nat, sp = (a : Int) ∧ dp = (b : Int) ∧ n = (c : Int) ∧ a + c ≤ n0 ∧ b + c ≤ n1 ∧ K nx lv [] (nv_row h t1 i1 (va_cpy (h t0 i0) (h t1 i1) a b c))
          | _ => False)
        | _ => False)))
  | _ => False
theorem n_cpi {idx : Nat} (hd : decode (nv_c M) pc = .ok (.invokestatic idx, 3)) (hl : Cond.methodLink (nv_own M) idx arraycopyName ∈ lw_tbl) (hna : Cond.native arraycopyName ∈ lw_tbl) (hst : Cond.static arraycopyName ∈ lw_tbl) (hin : Cond.initialized "java/lang/System" ∈ lw_tbl) (hfr : 1 ≤ (nv_rm M).frames) (hlo : nativeFrameWords "java/lang/System" "arraycopy" 5 + 11 ≤ (nv_rm M).locals) : nv_Snd M pc (s_cpi (pc + 3)) := by
  intro lv stk h Q K hK hf X p l e s m args below meth c H locs ls C hP hD hS hl' ho hk
  unfold s_cpi at hf
  split at hf
  · next n dp t1 i1 sp t0 i0 =>
    split at hf
    · exact hf.elim
    · next hcl0 =>
      split at hf
      · exact hf.elim
      · next hcl1 =>
        split at hf
        · next n0 htar0 =>
          split at hf
          · next n1 htar1 =>
            obtain ⟨a, b, c', rfl, rfl, rfl, h1, h2, hf⟩ := hf
            have ht := C.2.2.2.2.2.2.1
            have hm1 : (t1, i1) ∈ nv_cells := nv_okc (hk _ (by simp)) (by rintro rfl; simp [nv_tar] at htar1) (by rintro rfl; simp [nv_tar] at htar1)
            have hm0 : (t0, i0) ∈ nv_cells := nv_okc (hk _ (by simp)) (by rintro rfl; simp [nv_tar] at htar0) (by rintro rfl; simp [nv_tar] at htar0)
            have hn0 : n0 < 2 ^ 31 := by have h9 := nv_tar_len t0; rw [htar0] at h9; exact h9
            have hn1 : n1 < 2 ^ 31 := by have h9 := nv_tar_len t1; rw [htar1] at h9; exact h9
            obtain ⟨q0, hq0, hws0⟩ := nv_at (X := X) hm0
            obtain ⟨q1, hq1, hws1⟩ := nv_at (X := X) hm1
            have np : ∀ z : Nat, z < 2 ^ 31 → ¬ Int32.ofInt (z : Int) < 0 := fun z hz => by rw [nv_ofNat]; exact nI_pos hz
            refine va_copyi (rest := []) C.1 C.2.1 (C.2.2.2.1.trans hl'.1.symm) C.2.2.2.2.2.1 (ht _ (nv_in hl rfl)) (ht _ (nv_in hna rfl)) (ht _ (nv_in hst rfl)) (ht _ (nv_in hin rfl)) C.2.2.2.2.2.2.2.1 hP hD hS q0 q1 0 0 (n0 := n0) (n1 := n1) (f := fun j => Int32.ofInt (h t0 i0 j)) (g := fun j => Int32.ofInt (h t1 i1 j)) (by rw [hws0 h]; unfold nv_cell nv_arr; rw [hcl0]; simp only [htar0]) (by rw [hws1 h]; unfold nv_cell nv_arr; rw [hcl1]; simp only [htar1]) rfl rfl rfl (np a (by omega)) (np b (by omega)) (np c' (by omega)) (by rw [nv_clamp (by omega), nv_clamp (by omega)]; exact h1) (by rw [nv_clamp (by omega), nv_clamp (by omega)]; exact h2) (fun _ _ => rfl) hfr (by simpa using hlo) hd (fun H1 locs1 hP1 hD1 hS1 => ?_)
            rw [nv_clamp (by omega), nv_clamp (by omega), nv_clamp (by omega)] at hP1 hD1
            have he : nv_cell X (nv_row h t1 i1 (va_cpy (h t0 i0) (h t1 i1) a b c')) t1 i1 = .inl (X.2.2 0, n1, .inl (va_cpy (fun j => Int32.ofInt (h t0 i0 j)) (fun j => Int32.ofInt (h t1 i1 j)) a b c')) := by
              unfold nv_cell nv_arr
              rw [hcl1]
              simp only [htar1]
              congr 4
              funext k
              simp only [nv_row, va_cpy, and_self, if_true]
              split <;> rfl
            rw [nv_set hq1 he (fun _ _ hn => nv_cell_other (nv_row_other hn))] at hP1 hD1
            exact hK _ _ _ _ hf X p l e s m args below meth c H1 locs1 ls C hP1 hD1 hS1 hl' ho (fun v hv => by cases hv)
          · exact hf.elim
        · exact hf.elim
  · exact hf.elim
def s_cpl (nx : Nat) : nv_Sem := fun lv stk h _ K => match stk with
  | [.inl n, .inl dp, .inr (.inl (t1, i1)), .inl sp, .inr (.inl (t0, i0))] => (match nv_tcl t0 with
    | some _ => False
    | none => (match nv_tcl t1 with
      | some _ => False
      | none => (match nv_tar t0 with
        | (1, n0) => (match nv_tar t1 with
          | (1, n1) => ∃ a b c : Nat, sp = (a : Int) ∧ dp = (b : Int) ∧ n = (c : Int) ∧ a + c ≤ n0 ∧ b + c ≤ n1 ∧ K nx lv [] (nv_row h t1 i1 (va_cpy (h t0 i0) (h t1 i1) a b c))
          | _ => False)
        | _ => False)))
  | _ => False
theorem n_cpl {idx : Nat} (hd : decode (nv_c M) pc = .ok (.invokestatic idx, 3)) (hl : Cond.methodLink (nv_own M) idx arraycopyName ∈ lw_tbl) (hna : Cond.native arraycopyName ∈ lw_tbl) (hst : Cond.static arraycopyName ∈ lw_tbl) (hin : Cond.initialized "java/lang/System" ∈ lw_tbl) (hfr : 1 ≤ (nv_rm M).frames) (hlo : nativeFrameWords "java/lang/System" "arraycopy" 5 + 11 ≤ (nv_rm M).locals) : nv_Snd M pc (s_cpl (pc + 3)) := by
  intro lv stk h Q K hK hf X p l e s m args below meth c H locs ls C hP hD hS hl' ho hk
  unfold s_cpl at hf
  split at hf
  · next n dp t1 i1 sp t0 i0 =>
    split at hf
    · exact hf.elim
    · next hcl0 =>
      split at hf
      · exact hf.elim
      · next hcl1 =>
        split at hf
        · next n0 htar0 =>
          split at hf
          · next n1 htar1 =>
            obtain ⟨a, b, c', rfl, rfl, rfl, h1, h2, hf⟩ := hf
            have ht := C.2.2.2.2.2.2.1
            have hm1 : (t1, i1) ∈ nv_cells := nv_okc (hk _ (by simp)) (by rintro rfl; simp [nv_tar] at htar1) (by rintro rfl; simp [nv_tar] at htar1)
            have hm0 : (t0, i0) ∈ nv_cells := nv_okc (hk _ (by simp)) (by rintro rfl; simp [nv_tar] at htar0) (by rintro rfl; simp [nv_tar] at htar0)
            have hn0 : n0 < 2 ^ 31 := by have h9 := nv_tar_len t0; rw [htar0] at h9; exact h9
            have hn1 : n1 < 2 ^ 31 := by have h9 := nv_tar_len t1; rw [htar1] at h9; exact h9
            obtain ⟨q0, hq0, hws0⟩ := nv_at (X := X) hm0
            obtain ⟨q1, hq1, hws1⟩ := nv_at (X := X) hm1
            have np : ∀ z : Nat, z < 2 ^ 31 → ¬ Int32.ofInt (z : Int) < 0 := fun z hz => by rw [nv_ofNat]; exact nI_pos hz
            refine va_copyl (rest := []) C.1 C.2.1 (C.2.2.2.1.trans hl'.1.symm) C.2.2.2.2.2.1 (ht _ (nv_in hl rfl)) (ht _ (nv_in hna rfl)) (ht _ (nv_in hst rfl)) (ht _ (nv_in hin rfl)) C.2.2.2.2.2.2.2.1 hP hD hS q0 q1 1 1 (n0 := n0) (n1 := n1) (f := fun j => Int64.ofInt (h t0 i0 j)) (g := fun j => Int64.ofInt (h t1 i1 j)) (by rw [hws0 h]; unfold nv_cell nv_arr; rw [hcl0]; simp only [htar0]) (by rw [hws1 h]; unfold nv_cell nv_arr; rw [hcl1]; simp only [htar1]) rfl rfl rfl (np a (by omega)) (np b (by omega)) (np c' (by omega)) (by rw [nv_clamp (by omega), nv_clamp (by omega)]; exact h1) (by rw [nv_clamp (by omega), nv_clamp (by omega)]; exact h2) (fun _ _ => rfl) hfr (by simpa using hlo) hd (fun H1 locs1 hP1 hD1 hS1 => ?_)
            rw [nv_clamp (by omega), nv_clamp (by omega), nv_clamp (by omega)] at hP1 hD1
            have he : nv_cell X (nv_row h t1 i1 (va_cpy (h t0 i0) (h t1 i1) a b c')) t1 i1 = .inl (X.2.2 1, n1, .inr (.inl (va_cpy (fun j => Int64.ofInt (h t0 i0 j)) (fun j => Int64.ofInt (h t1 i1 j)) a b c'))) := by
              unfold nv_cell nv_arr
              rw [hcl1]
              simp only [htar1]
              congr 5
              funext k
              simp only [nv_row, va_cpy, and_self, if_true]
              split <;> rfl
            rw [nv_set hq1 he (fun _ _ hn => nv_cell_other (nv_row_other hn))] at hP1 hD1
            exact hK _ _ _ _ hf X p l e s m args below meth c H1 locs1 ls C hP1 hD1 hS1 hl' ho (fun v hv => by cases hv)
          · exact hf.elim
        · exact hf.elim
  · exact hf.elim
end nvCalls
