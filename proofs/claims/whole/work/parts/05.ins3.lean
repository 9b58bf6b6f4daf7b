/-! ===== fields, arrays, calls ===== -/
theorem nv_okc {t i : Nat} (h : nv_ok (.inr (.inl (t, i)))) (ht : t ≠ 30) (ht1 : t ≠ 31) : (t, i) ∈ nv_cells := by
  rcases h with h | h | h
  · exact h
  · exact absurd (congrArg Prod.fst h) ht
  · exact absurd (congrArg Prod.fst h) ht1
theorem nv_tar_len (t : Nat) : (nv_tar t).2 < 2 ^ 31 := by
  unfold nv_tar
  split <;> decide
theorem nv_rf_ok {t k i : Nat} {x : Nat × Nat} (hc : (t, i) ∈ nv_cells) (h : nv_rf t k i = some x) : x ∈ nv_cells := by
  obtain ⟨a, b⟩ := x
  rw [nv_mem] at hc ⊢
  unfold nv_rf at h
  split at h <;> (try split at h) <;> simp at h <;> (obtain ⟨rfl, rfl⟩ := h; simp [nv_cnt] at hc ⊢) <;> (try omega)
def nv_gv (h : nv_St) (t i k : Nat) : nv_AV := match nv_rf t k i with
  | some x => .inr (.inl x)
  | none => .inl (h t i k)
theorem nv_gv_tr (X : nv_X) (h : nv_St) (t i k : Nat) : nv_fv X h t i k = nv_tr X (nv_gv h t i k) := by
  unfold nv_fv nv_gv
  cases nv_rf t k i <;> rfl
theorem nv_gv_ok {h : nv_St} {t i k : Nat} (hc : (t, i) ∈ nv_cells) : nv_ok (nv_gv h t i k) := by
  unfold nv_gv
  split
  · next x hx => exact Or.inl (nv_rf_ok hc hx)
  · trivial
theorem nv_cell_obj {X : nv_X} {h : nv_St} {t i ci : Nat} (ht : nv_tcl t = some ci) : nv_cell X h t i = .inr (ci, nv_fs X h ci t i) := by
  unfold nv_cell; rw [ht]
theorem nv_fs_at {X : nv_X} {h : nv_St} {t i ci k : Nat} (hk : k < nv_nf ci) : (nv_fs X h ci t i)[k]? = some (nv_fv X h t i k) := by
  simp [nv_fs, hk]
theorem nv_fs_set {X : nv_X} {h : nv_St} {t i ci k : Nat} {x : Int} (hr : nv_rf t k i = none) : (nv_fs X h ci t i).set k (.int (Int32.ofInt x)) = nv_fs X (nv_up h t i k x) ci t i := by
  apply List.ext_getElem?
  intro j
  rw [List.getElem?_set]
  by_cases hj : k = j
  · subst hj
    rw [if_pos rfl]
    by_cases hl : k < nv_nf ci
    · rw [nv_fs_at hl]
      simp [nv_fs, hl, nv_fv, hr, nv_up]
    · simp [nv_fs, hl]
  · rw [if_neg hj]
    by_cases hl : j < nv_nf ci
    · rw [nv_fs_at hl, nv_fs_at hl]
      simp [nv_fv, nv_up, Ne.symm hj]
    · simp [nv_fs, hl]
theorem nv_set_up {X : nv_X} {h : nv_St} {q t i j : Nat} {x : Int} {e : va_E} (hq : nv_cells[q]? = some (t, i)) (he : nv_cell X (nv_up h t i j x) t i = e) : (nv_ws X h).set q (X.2.1 t i, e) = nv_ws X (nv_up h t i j x) :=
  nv_set hq he (fun _ _ hn => nv_cell_other (by rw [nv_up_row]; exact nv_row_other hn))
section nvIns3
variable {M : nv_MD} {pc : Nat}
def s_gf (ci k nx : Nat) : nv_Sem := fun lv stk h _ K => match stk with
  | .inr (.inl (t, i)) :: r => (match nv_tcl t with
    | some c => (match Nat.beq c ci with
      | true => K nx lv (nv_gv h t i k :: r) h
      | false => False)
    | none => False)
  | _ => False
theorem n_getfield {idx ci k N : Nat} {D : String} {T : u_T} (hd : decode (nv_c M) pc = .ok (.getfield idx, 3)) (hc : vwCl[ci]? = some (D, T, N)) (hin : ∀ w ∈ u_ws D T N, w ∈ lw_tbl) (hkN : k < N) (hnf : k < nv_nf ci) (hw : Cond.fieldLink (nv_own M) idx (T k).1 (T k).2.1 (T k).2.2.1 ∈ lw_tbl) : nv_Snd M pc (s_gf ci k (pc + 3)) := by
  intro lv stk h Q K hK hf X p l e s m args below meth c H locs ls C hP hD hS hl ho hk
  unfold s_gf at hf
  split at hf
  · next t i r =>
    split at hf
    · next c0 hc0 =>
      split at hf
      · next hb =>
        have e0 : c0 = ci := Nat.eq_of_beq_eq_true hb
        subst e0
        have hmem : (t, i) ∈ nv_cells := nv_okc (List.forall_mem_cons.mp hk).1 (by rintro rfl; simp [nv_tcl] at hc0) (by rintro rfl; simp [nv_tcl] at hc0)
        obtain ⟨q, hq, hws⟩ := nv_at (X := X) hmem
        refine va_get (C := D) (T := T) (N := N) (ci := c0) (v := nv_tr X (nv_gv h t i k)) C.1 C.2.1 C.2.2.2.2.2.2.1 (fun w hw => nv_in (hin w hw) ?_) C.2.2.2.2.2.1 C.2.2.2.2.2.2.2.1 hP q (by rw [hws h, nv_cell_obj hc0]) hc k hkN (C.2.2.2.2.2.2.1 _ (nv_in hw rfl)) (fun _ h9 => h9) (by rw [nv_fs_at hnf, nv_gv_tr]) hd ?_
        · obtain ⟨j, -, rfl⟩ := List.mem_map.mp hw
          unfold u_lay; split <;> rfl
        · exact hK _ _ _ _ hf X p l e s m args below meth c H locs ls C hP hD hS hl ho (List.forall_mem_cons.mpr ⟨nv_gv_ok hmem, (List.forall_mem_cons.mp hk).2⟩)
      · exact hf.elim
    · exact hf.elim
  · exact hf.elim
def s_pf (ci k nx : Nat) : nv_Sem := fun lv stk h _ K => match stk with
  | .inl x :: .inr (.inl (t, i)) :: r => (match nv_tcl t with
    | some c => (match Nat.beq c ci with
      | true => (match nv_rf t k i with
        | none => K nx lv r (nv_up h t i k x)
        | some _ => False)
      | false => False)
    | none => False)
  | _ => False
def s_pz (ci k nx : Nat) : nv_Sem := fun lv stk h Q K => match stk with
  | .inl x :: r => (x = 0 ∨ x = 1) ∧ s_pf ci k nx lv (.inl x :: r) h Q K
  | _ => False
theorem n_put0 {idx ci k N : Nat} {D : String} {T : u_T} (ty0 : Nat → FieldType) (hty : ∀ k, k < N → parseFieldDescriptor (T k).2.2.1 = some (ty0 k)) (hnm : ∀ a, a < N → ∀ b, b < N → a ≠ b → (T a).2.1 ≠ (T b).2.1) (hd : decode (nv_c M) pc = .ok (.putfield idx, 3)) (hc : vwCl[ci]? = some (D, T, N)) (hin : ∀ w ∈ u_ws D T N, w ∈ lw_tbl) (hkN : k < N) (hnf : k < nv_nf ci) (hfin : (T k).2.2.2 = false)
    (hw : Cond.fieldLink (nv_own M) idx (T k).1 (T k).2.1 (T k).2.2.1 ∈ lw_tbl) {lv : nv_LV} {stk : List nv_AV} {h : nv_St} {Q : nv_PT} {K : nv_K} {x : Int} (hK : ∀ pc' lv' stk' h', K pc' lv' stk' h' → nv_V M pc' lv' stk' h' Q) (hx : narrow (ty0 k) (.int (Int32.ofInt x)) = .int (Int32.ofInt x) ∧ fits (ty0 k) (.int (Int32.ofInt x)) = true) (hf : s_pf ci k (pc + 3) lv (.inl x :: stk) h Q K) : nv_V M pc lv (.inl x :: stk) h Q := by
  intro X p l e s m args below meth c H locs ls C hP hD hS hl ho hk
  unfold s_pf at hf
  split at hf
  · next x' t i r heq =>
    cases heq
    split at hf
    · next c0 hc0 =>
      split at hf
      · next hb =>
        split at hf
        · next hrf =>
          have e0 : c0 = ci := Nat.eq_of_beq_eq_true hb
          subst e0
          have hk2 := (List.forall_mem_cons.mp hk).2
          have hmem : (t, i) ∈ nv_cells := nv_okc (List.forall_mem_cons.mp hk2).1 (by rintro rfl; simp [nv_tcl] at hc0) (by rintro rfl; simp [nv_tcl] at hc0)
          obtain ⟨q, hq, hws⟩ := nv_at (X := X) hmem
          refine va_put (C := D) (T := T) (N := N) (ci := c0) (v := .int (Int32.ofInt x)) (ty := ty0 k) C.1 C.2.1 C.2.2.2.2.2.2.1 (fun w hw => nv_in (hin w hw) ?_) ty0 hty hnm C.2.2.2.2.2.1 C.2.2.2.2.2.2.2.1 hP hD hS q (by rw [hws h, nv_cell_obj hc0]) hc k hkN (C.2.2.2.2.2.2.1 _ (nv_in hw rfl)) (fun _ h9 => h9) hfin (hty k hkN) hx.1 hx.2 (by simp [nv_fs, hnf]) hd (fun H1 locs1 hP1 hD1 hS1 => ?_)
          · obtain ⟨j, -, rfl⟩ := List.mem_map.mp hw
            unfold u_lay; split <;> rfl
          · rw [nv_set_up (j := k) (x := x) hq (by rw [nv_cell_obj hc0, nv_fs_set hrf])] at hP1 hD1
            exact hK _ _ _ _ hf X p l e s m args below meth c H1 locs1 ls C hP1 hD1 hS1 hl ho (List.forall_mem_cons.mp hk2).2
        · exact hf.elim
      · exact hf.elim
    · exact hf.elim
  · exact hf.elim
theorem n_putfield {idx ci k N : Nat} {D : String} {T : u_T} (ty0 : Nat → FieldType) (hty : ∀ k, k < N → parseFieldDescriptor (T k).2.2.1 = some (ty0 k)) (hnm : ∀ a, a < N → ∀ b, b < N → a ≠ b → (T a).2.1 ≠ (T b).2.1) (hd : decode (nv_c M) pc = .ok (.putfield idx, 3)) (hc : vwCl[ci]? = some (D, T, N)) (hin : ∀ w ∈ u_ws D T N, w ∈ lw_tbl) (hkN : k < N) (hnf : k < nv_nf ci) (hfin : (T k).2.2.2 = false)
    (hw : Cond.fieldLink (nv_own M) idx (T k).1 (T k).2.1 (T k).2.2.1 ∈ lw_tbl) (hi : ty0 k = .int) : nv_Snd M pc (s_pf ci k (pc + 3)) := by
  intro lv stk h Q K hK hf
  match stk, hf with
  | .inl x :: r, hf => exact n_put0 ty0 hty hnm hd hc hin hkN hnf hfin hw hK (by rw [hi]; exact ⟨rfl, rfl⟩) hf
  | [], hf => exact hf.elim
  | .inr _ :: _, hf => exact hf.elim
theorem n_putbool {idx ci k N : Nat} {D : String} {T : u_T} (ty0 : Nat → FieldType) (hty : ∀ k, k < N → parseFieldDescriptor (T k).2.2.1 = some (ty0 k)) (hnm : ∀ a, a < N → ∀ b, b < N → a ≠ b → (T a).2.1 ≠ (T b).2.1) (hd : decode (nv_c M) pc = .ok (.putfield idx, 3)) (hc : vwCl[ci]? = some (D, T, N)) (hin : ∀ w ∈ u_ws D T N, w ∈ lw_tbl) (hkN : k < N) (hnf : k < nv_nf ci) (hfin : (T k).2.2.2 = false)
    (hw : Cond.fieldLink (nv_own M) idx (T k).1 (T k).2.1 (T k).2.2.1 ∈ lw_tbl) (hi : ty0 k = .boolean) : nv_Snd M pc (s_pz ci k (pc + 3)) := by
  intro lv stk h Q K hK hf
  match stk, hf with
  | .inl x :: r, hf => exact n_put0 ty0 hty hnm hd hc hin hkN hnf hfin hw hK (by rw [hi]; rcases hf.1 with rfl | rfl <;> exact ⟨rfl, rfl⟩) hf.2
  | [], hf => exact hf.elim
  | .inr _ :: _, hf => exact hf.elim
/-! arrays -/
def s_ia (nx : Nat) : nv_Sem := fun lv stk h _ K => match stk with
  | .inl j :: .inr (.inl (t, i)) :: r => (match nv_tcl t with
    | some _ => False
    | none => (match nv_tar t with
      | (0, n) => ∃ q : Nat, j = (q : Int) ∧ q < n ∧ K nx lv (.inl (h t i q) :: r) h
      | _ => False))
  | _ => False
theorem n_iaload (hd : decode (nv_c M) pc = .ok (.iaload, 1)) : nv_Snd M pc (s_ia (pc + 1)) := by
  intro lv stk h Q K hK hf X p l e s m args below meth c H locs ls C hP hD hS hl ho hk
  unfold s_ia at hf
  split at hf
  · next j t i r =>
    split at hf
    · exact hf.elim
    · next hcl =>
      split at hf
      · next n htar =>
        obtain ⟨q, rfl, hqn, hf⟩ := hf
        have hk2 := (List.forall_mem_cons.mp hk).2
        have hmem : (t, i) ∈ nv_cells := nv_okc (List.forall_mem_cons.mp hk2).1 (by rintro rfl; simp [nv_tar] at htar) (by rintro rfl; simp [nv_tar] at htar)
        have hn : n < 2 ^ 31 := by have h9 := nv_tar_len t; rw [htar] at h9; exact h9
        obtain ⟨q0, hq0, hws⟩ := nv_at (X := X) hmem
        refine va_iald C.1 C.2.1 C.2.2.2.2.2.2.2.1 hP q0 0 (f := fun j => Int32.ofInt (h t i j)) (by rw [hws h]; unfold nv_cell nv_arr; rw [hcl]; simp only [htar]) rfl (nv_vin hqn hn) hd ?_
        rw [nv_clamp (by omega)]
        exact hK _ _ _ _ hf X p l e s m args below meth c H locs ls C hP hD hS hl ho (List.forall_mem_cons.mpr ⟨trivial, (List.forall_mem_cons.mp hk2).2⟩)
      · exact hf.elim
  · exact hf.elim
def s_ca (nx : Nat) : nv_Sem := fun lv stk h _ K => match stk with
  | .inl j :: .inr (.inl (t, i)) :: r => (match nv_tcl t with
    | some _ => False
    | none => (match nv_tar t with
      | (2, n) => ∃ q : Nat, j = (q : Int) ∧ q < n ∧ K nx lv (.inl (h t i q) :: r) h
      | _ => False))
  | _ => False
theorem n_caload (hd : decode (nv_c M) pc = .ok (.caload, 1)) : nv_Snd M pc (s_ca (pc + 1)) := by
  intro lv stk h Q K hK hf X p l e s m args below meth c H locs ls C hP hD hS hl ho hk
  unfold s_ca at hf
  split at hf
  · next j t i r =>
    split at hf
    · exact hf.elim
    · next hcl =>
      split at hf
      · next n htar =>
        obtain ⟨q, rfl, hqn, hf⟩ := hf
        have hk2 := (List.forall_mem_cons.mp hk).2
        have hmem : (t, i) ∈ nv_cells := nv_okc (List.forall_mem_cons.mp hk2).1 (by rintro rfl; simp [nv_tar] at htar) (by rintro rfl; simp [nv_tar] at htar)
        have hn : n < 2 ^ 31 := by have h9 := nv_tar_len t; rw [htar] at h9; exact h9
        obtain ⟨q0, hq0, hws⟩ := nv_at (X := X) hmem
        refine va_cald C.1 C.2.1 C.2.2.2.2.2.2.2.1 hP q0 2 (f := fun j => Int32.ofInt (h t i j)) (by rw [hws h]; unfold nv_cell nv_arr; rw [hcl]; simp only [htar]) rfl (nv_vin hqn hn) hd ?_
        rw [nv_clamp (by omega)]
        exact hK _ _ _ _ hf X p l e s m args below meth c H locs ls C hP hD hS hl ho (List.forall_mem_cons.mpr ⟨trivial, (List.forall_mem_cons.mp hk2).2⟩)
      · exact hf.elim
  · exact hf.elim
def s_la (nx : Nat) : nv_Sem := fun lv stk h _ K => match stk with
  | .inl j :: .inr (.inl (t, i)) :: r => (match nv_tcl t with
    | some _ => False
    | none => (match nv_tar t with
      | (1, n) => ∃ q : Nat, j = (q : Int) ∧ q < n ∧ K nx lv (.inr (.inr (h t i q)) :: r) h
      | _ => False))
  | _ => False
theorem n_laload (hd : decode (nv_c M) pc = .ok (.laload, 1)) : nv_Snd M pc (s_la (pc + 1)) := by
  intro lv stk h Q K hK hf X p l e s m args below meth c H locs ls C hP hD hS hl ho hk
  unfold s_la at hf
  split at hf
  · next j t i r =>
    split at hf
    · exact hf.elim
    · next hcl =>
      split at hf
      · next n htar =>
        obtain ⟨q, rfl, hqn, hf⟩ := hf
        have hk2 := (List.forall_mem_cons.mp hk).2
        have hmem : (t, i) ∈ nv_cells := nv_okc (List.forall_mem_cons.mp hk2).1 (by rintro rfl; simp [nv_tar] at htar) (by rintro rfl; simp [nv_tar] at htar)
        have hn : n < 2 ^ 31 := by have h9 := nv_tar_len t; rw [htar] at h9; exact h9
        obtain ⟨q0, hq0, hws⟩ := nv_at (X := X) hmem
        refine va_lald C.1 C.2.1 C.2.2.2.2.2.2.2.1 hP q0 1 (f := fun j => Int64.ofInt (h t i j)) (by rw [hws h]; unfold nv_cell nv_arr; rw [hcl]; simp only [htar]) rfl (nv_vin hqn hn) hd ?_
        rw [nv_clamp (by omega)]
        exact hK _ _ _ _ hf X p l e s m args below meth c H locs ls C hP hD hS hl ho (List.forall_mem_cons.mpr ⟨trivial, (List.forall_mem_cons.mp hk2).2⟩)
      · exact hf.elim
  · exact hf.elim
def s_iw (nx : Nat) : nv_Sem := fun lv stk h _ K => match stk with
  | .inl x :: .inl j :: .inr (.inl (t, i)) :: r => (match nv_tcl t with
    | some _ => False
    | none => (match nv_tar t with
      | (0, n) => ∃ q : Nat, j = (q : Int) ∧ q < n ∧ K nx lv r (nv_up h t i q x)
      | _ => False))
  | _ => False
theorem n_iastore (hd : decode (nv_c M) pc = .ok (.iastore, 1)) : nv_Snd M pc (s_iw (pc + 1)) := by
  intro lv stk h Q K hK hf X p l e s m args below meth c H locs ls C hP hD hS hl ho hk
  unfold s_iw at hf
  split at hf
  · next x j t i r =>
    split at hf
    · exact hf.elim
    · next hcl =>
      split at hf
      · next n htar =>
        obtain ⟨q, rfl, hqn, hf⟩ := hf
        have hk2 := (List.forall_mem_cons.mp (List.forall_mem_cons.mp hk).2).2
        have hmem : (t, i) ∈ nv_cells := nv_okc (List.forall_mem_cons.mp hk2).1 (by rintro rfl; simp [nv_tar] at htar) (by rintro rfl; simp [nv_tar] at htar)
        have hn : n < 2 ^ 31 := by have h9 := nv_tar_len t; rw [htar] at h9; exact h9
        obtain ⟨q0, hq0, hws⟩ := nv_at (X := X) hmem
        refine va_iast C.1 C.2.1 C.2.2.2.2.2.2.2.1 hP hD hS q0 0 (f := fun j => Int32.ofInt (h t i j)) (by rw [hws h]; unfold nv_cell nv_arr; rw [hcl]; simp only [htar]) rfl (nv_vin hqn hn) hd (fun H1 locs1 hP1 hD1 hS1 => ?_)
        rw [nv_clamp (by omega)] at hP1 hD1
        rw [nv_set_up (j := q) (x := x) hq0 (by unfold nv_cell nv_arr; rw [hcl]; simp only [htar]; congr 4; funext k; simp only [nv_up, upd, true_and]; split <;> rfl)] at hP1 hD1
        exact hK _ _ _ _ hf X p l e s m args below meth c H1 locs1 ls C hP1 hD1 hS1 hl ho (List.forall_mem_cons.mp hk2).2
      · exact hf.elim
  · exact hf.elim
def s_lw (nx : Nat) : nv_Sem := fun lv stk h _ K => match stk with
  | .inr (.inr x) :: .inl j :: .inr (.inl (t, i)) :: r => (match nv_tcl t with
    | some _ => False
    | none => (match nv_tar t with
      | (1, n) => ∃ q : Nat, j = (q : Int) ∧ q < n ∧ K nx lv r (nv_up h t i q x)
      | _ => False))
  | _ => False
theorem n_lastore (hd : decode (nv_c M) pc = .ok (.lastore, 1)) : nv_Snd M pc (s_lw (pc + 1)) := by
  intro lv stk h Q K hK hf X p l e s m args below meth c H locs ls C hP hD hS hl ho hk
  unfold s_lw at hf
  split at hf
  · next x j t i r =>
    split at hf
    · exact hf.elim
    · next hcl =>
      split at hf
      · next n htar =>
        obtain ⟨q, rfl, hqn, hf⟩ := hf
        have hk2 := (List.forall_mem_cons.mp (List.forall_mem_cons.mp hk).2).2
        have hmem : (t, i) ∈ nv_cells := nv_okc (List.forall_mem_cons.mp hk2).1 (by rintro rfl; simp [nv_tar] at htar) (by rintro rfl; simp [nv_tar] at htar)
        have hn : n < 2 ^ 31 := by have h9 := nv_tar_len t; rw [htar] at h9; exact h9
        obtain ⟨q0, hq0, hws⟩ := nv_at (X := X) hmem
        refine va_last C.1 C.2.1 C.2.2.2.2.2.2.2.1 hP hD hS q0 1 (f := fun j => Int64.ofInt (h t i j)) (by rw [hws h]; unfold nv_cell nv_arr; rw [hcl]; simp only [htar]) rfl (nv_vin hqn hn) hd (fun H1 locs1 hP1 hD1 hS1 => ?_)
        rw [nv_clamp (by omega)] at hP1 hD1
        rw [nv_set_up (j := q) (x := x) hq0 (by unfold nv_cell nv_arr; rw [hcl]; simp only [htar]; congr 5; funext k; simp only [nv_up, vp_updL, true_and]; split <;> rfl)] at hP1 hD1
        exact hK _ _ _ _ hf X p l e s m args below meth c H1 locs1 ls C hP1 hD1 hS1 hl ho (List.forall_mem_cons.mp hk2).2
      · exact hf.elim
  · exact hf.elim
theorem nv_nar {x : Int} (hx : 0 ≤ x ∧ x < 65536) : vp_nar .char (Int32.ofInt x) = Int32.ofInt x := by
  obtain ⟨n, rfl, hn⟩ := nv_nat ⟨hx.1, by omega⟩
  have h := (pk_charN (q := n) (by omega)).1
  rw [nv_ofNat]
  unfold vp_nar
  rw [h]
def s_cw (nx : Nat) : nv_Sem := fun lv stk h _ K => match stk with
  | .inl x :: .inl j :: .inr (.inl (t, i)) :: r => (match nv_tcl t with
    | some _ => False
    | none => (match nv_tar t with
      | (2, n) => (0 ≤ x ∧ x < 65536) ∧ ∃ q : Nat, j = (q : Int) ∧ q < n ∧ K nx lv r (nv_up h t i q x)
      | _ => False))
  | _ => False
theorem n_castore (hd : decode (nv_c M) pc = .ok (.castore, 1)) : nv_Snd M pc (s_cw (pc + 1)) := by
  intro lv stk h Q K hK hf X p l e s m args below meth c H locs ls C hP hD hS hl ho hk
  unfold s_cw at hf
  split at hf
  · next x j t i r =>
    split at hf
    · exact hf.elim
    · next hcl =>
      split at hf
      · next n htar =>
        obtain ⟨hx, q, rfl, hqn, hf⟩ := hf
        have hk2 := (List.forall_mem_cons.mp (List.forall_mem_cons.mp hk).2).2
        have hmem : (t, i) ∈ nv_cells := nv_okc (List.forall_mem_cons.mp hk2).1 (by rintro rfl; simp [nv_tar] at htar) (by rintro rfl; simp [nv_tar] at htar)
        have hn : n < 2 ^ 31 := by have h9 := nv_tar_len t; rw [htar] at h9; exact h9
        obtain ⟨q0, hq0, hws⟩ := nv_at (X := X) hmem
        refine va_cast C.1 C.2.1 C.2.2.2.2.2.2.2.1 hP hD hS q0 2 (f := fun j => Int32.ofInt (h t i j)) (by rw [hws h]; unfold nv_cell nv_arr; rw [hcl]; simp only [htar]) rfl (nv_vin hqn hn) hd (fun H1 locs1 hP1 hD1 hS1 => ?_)
        rw [nv_clamp (by omega)] at hP1 hD1
        rw [nv_set_up (j := q) (x := x) hq0 (by unfold nv_cell nv_arr; rw [hcl]; simp only [htar]; congr 4; funext k; simp only [nv_up, upd, true_and]; rw [nv_nar hx]; split <;> rfl)] at hP1 hD1
        exact hK _ _ _ _ hf X p l e s m args below meth c H1 locs1 ls C hP1 hD1 hS1 hl ho (List.forall_mem_cons.mp hk2).2
      · exact hf.elim
  · exact hf.elim
def s_a3 (nx : Nat) : nv_Sem := fun lv stk h _ K => match stk with
  | .inl j :: .inr (.inl (t, i)) :: r => (match Nat.beq t 12 with
    | true => ∃ q : Nat, j = (q : Int) ∧ q < 8 ∧ K nx lv (.inr (.inl (nv_re 12 i q)) :: r) h
    | false => False)
  | _ => False
theorem n_aaload3 (hd : decode (nv_c M) pc = .ok (.aaload, 1)) : nv_Snd M pc (s_a3 (pc + 1)) := by
  intro lv stk h Q K hK hf X p l e s m args below meth c H locs ls C hP hD hS hl ho hk
  unfold s_a3 at hf
  split at hf
  · next j t i r =>
    split at hf
    · next hb =>
      have e0 : t = 12 := Nat.eq_of_beq_eq_true hb
      subst e0
      obtain ⟨q, rfl, hqn, hf⟩ := hf
      have hk2 := (List.forall_mem_cons.mp hk).2
      have hmem : (12, i) ∈ nv_cells := nv_okc (List.forall_mem_cons.mp hk2).1 (by decide) (by decide)
      obtain ⟨q0, hq0, hws⟩ := nv_at (X := X) hmem
      refine va_aldq (C := RX0) (n := 8) C.1 C.2.1 C.2.2.2.2.2.2.2.1 hP q0 3 (f := fun j => some (X.2.1 (nv_re 12 i j).1 (nv_re 12 i j).2)) (hws h) rfl (nv_vin hqn (by decide)) hd ?_
      rw [nv_clamp (by omega)]
      have hm2 : nv_re 12 i q ∈ nv_cells := by
        rw [nv_mem] at hmem
        show (0, 3 + 8 * i + q) ∈ nv_cells
        rw [nv_mem]
        simp [nv_cnt] at hmem ⊢
        omega
      exact hK _ _ _ _ hf X p l e s m args below meth c H locs ls C hP hD hS hl ho (List.forall_mem_cons.mpr ⟨Or.inl hm2, (List.forall_mem_cons.mp hk2).2⟩)
    · exact hf.elim
  · exact hf.elim
def s_a4 (nx : Nat) : nv_Sem := fun lv stk h _ K => match stk with
  | .inl j :: .inr (.inl (t, i)) :: r => (match Nat.beq t 15 with
    | true => ∃ q : Nat, j = (q : Int) ∧ q < 4 ∧ K nx lv (.inr (.inl (nv_re 15 i q)) :: r) h
    | false => False)
  | _ => False
theorem n_aaload4 (hd : decode (nv_c M) pc = .ok (.aaload, 1)) : nv_Snd M pc (s_a4 (pc + 1)) := by
  intro lv stk h Q K hK hf X p l e s m args below meth c H locs ls C hP hD hS hl ho hk
  unfold s_a4 at hf
  split at hf
  · next j t i r =>
    split at hf
    · next hb =>
      have e0 : t = 15 := Nat.eq_of_beq_eq_true hb
      subst e0
      obtain ⟨q, rfl, hqn, hf⟩ := hf
      have hk2 := (List.forall_mem_cons.mp hk).2
      have hmem : (15, i) ∈ nv_cells := nv_okc (List.forall_mem_cons.mp hk2).1 (by decide) (by decide)
      obtain ⟨q0, hq0, hws⟩ := nv_at (X := X) hmem
      refine va_aldq (C := RX3) (n := 4) C.1 C.2.1 C.2.2.2.2.2.2.2.1 hP q0 4 (f := fun j => some (X.2.1 (nv_re 15 i j).1 (nv_re 15 i j).2)) (hws h) rfl (nv_vin hqn (by decide)) hd ?_
      rw [nv_clamp (by omega)]
      have hm2 : nv_re 15 i q ∈ nv_cells := by
        rw [nv_mem] at hmem
        show (16, q) ∈ nv_cells
        rw [nv_mem]
        simp [nv_cnt] at hmem ⊢
        omega
      exact hK _ _ _ _ hf X p l e s m args below meth c H locs ls C hP hD hS hl ho (List.forall_mem_cons.mpr ⟨Or.inl hm2, (List.forall_mem_cons.mp hk2).2⟩)
    · exact hf.elim
  · exact hf.elim
end nvIns3
