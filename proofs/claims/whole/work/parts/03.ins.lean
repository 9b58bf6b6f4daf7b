/-! ===== the instructions: what each means in the layer, and that it does ===== -/
theorem nv_toInt {z : Int} (h : nv_InR z) : (Int32.ofInt z).toInt = z := Int32.toInt_ofInt_of_le (by have := h.1; omega) (by have := h.2; omega)
theorem nv_toIntL {z : Int} (h : nv_InL z) : (Int64.ofInt z).toInt = z := Int64.toInt_ofInt_of_le (by have := h.1; omega) (by have := h.2; omega)
theorem nv_eqR {a b : Int} (ha : nv_InR a) (hb : nv_InR b) : Int32.ofInt a = Int32.ofInt b ↔ a = b := by
  rw [← Int32.toInt_inj, nv_toInt ha, nv_toInt hb]
theorem nv_ltR {a b : Int} (ha : nv_InR a) (hb : nv_InR b) : Int32.ofInt a < Int32.ofInt b ↔ a < b := by
  rw [Int32.lt_iff_toInt_lt, nv_toInt ha, nv_toInt hb]
theorem nv_leR {a b : Int} (ha : nv_InR a) (hb : nv_InR b) : Int32.ofInt a ≤ Int32.ofInt b ↔ a ≤ b := by
  rw [Int32.le_iff_toInt_le, nv_toInt ha, nv_toInt hb]
theorem nv_0R : nv_InR 0 := ⟨by decide, by decide⟩
theorem nv_ofNat (n : Nat) : Int32.ofInt (n : Int) = nI n := Int32.ofInt_eq_ofNat
theorem nv_vin {n : Nat} {q : Nat} (h : q < n) (hn : n < 2 ^ 31) : vp_in (Int32.ofInt (q : Int)) n := by
  rw [nv_ofNat]; exact vp_in_nI h hn
theorem nv_clamp {q : Nat} (h : q < 2 ^ 31) : (Int32.ofInt (q : Int)).toNatClampNeg = q := by
  rw [nv_ofNat]; exact nI_clamp h
/-! locals -/
def nv_lg : nv_LV → Nat → Option nv_AV
  | [], _ => none
  | q :: r, i => match Nat.beq q.1 i with
    | true => some q.2
    | false => nv_lg r i
theorem nv_lg_mem : ∀ {lv : nv_LV} {i : Nat} {v : nv_AV}, nv_lg lv i = some v → (i, v) ∈ lv
  | [], _, _, h => by simp [nv_lg] at h
  | q :: r, i, v, h => by
    unfold nv_lg at h
    split at h
    · next hb =>
      have e : q.1 = i := Nat.eq_of_beq_eq_true hb
      cases h
      subst e
      exact List.mem_cons_self
    · exact List.mem_cons_of_mem _ (nv_lg_mem h)
/-- a local is set: the list stays in order -/
def nv_li : nv_LV → Nat → nv_AV → nv_LV
  | [], i, v => [(i, v)]
  | q :: r, i, v => match Nat.ble i q.1 with
    | true => (i, v) :: q :: r
    | false => q :: nv_li r i v
def nv_lr : nv_LV → Nat → nv_LV
  | [], _ => []
  | q :: r, i => match Nat.beq q.1 i with
    | true => nv_lr r i
    | false => match Nat.beq (q.1 + 1) i with
      | true => (match q.2 with
        | .inr (.inr _) => nv_lr r i
        | .inl z => (q.1, .inl z) :: nv_lr r i
        | .inr (.inl z) => (q.1, .inr (.inl z)) :: nv_lr r i)
      | false => q :: nv_lr r i
def nv_ls (lv : nv_LV) (i : Nat) (v : nv_AV) : nv_LV := nv_li (nv_lr lv i) i v
theorem nv_li_mem : ∀ {lv : nv_LV} {i : Nat} {v : nv_AV} {q : Nat × nv_AV}, q ∈ nv_li lv i v → q = (i, v) ∨ q ∈ lv
  | [], _, _, _, h => by simpa [nv_li] using h
  | x :: r, i, v, q, h => by
    unfold nv_li at h
    split at h
    · rcases List.mem_cons.mp h with h | h
      · exact Or.inl h
      · exact Or.inr h
    · rcases List.mem_cons.mp h with h | h
      · exact Or.inr (by rw [h]; exact List.mem_cons_self)
      · rcases nv_li_mem h with h | h
        · exact Or.inl h
        · exact Or.inr (List.mem_cons_of_mem _ h)
theorem nv_lr_mem : ∀ {lv : nv_LV} {i : Nat} {q : Nat × nv_AV}, q ∈ nv_lr lv i → q ∈ lv ∧ q.1 ≠ i ∧ ¬ (q.1 + 1 = i ∧ nv_cat q.2 = 2)
  | [], _, _, h => by simp [nv_lr] at h
  | x :: r, i, q, h => by
    unfold nv_lr at h
    split at h
    · obtain ⟨a, b, c⟩ := nv_lr_mem h
      exact ⟨List.mem_cons_of_mem _ a, b, c⟩
    · next hb =>
      have hb : x.1 ≠ i := Nat.ne_of_beq_eq_false hb
      split at h
      · next hb2 =>
        obtain ⟨x1, z | z | z⟩ := x
        · rcases List.mem_cons.mp h with h | h
          · subst h
            exact ⟨List.mem_cons_self, hb, fun c => by simp [nv_cat] at c⟩
          · obtain ⟨a, b, c⟩ := nv_lr_mem h
            exact ⟨List.mem_cons_of_mem _ a, b, c⟩
        · rcases List.mem_cons.mp h with h | h
          · subst h
            exact ⟨List.mem_cons_self, hb, fun c => by simp [nv_cat] at c⟩
          · obtain ⟨a, b, c⟩ := nv_lr_mem h
            exact ⟨List.mem_cons_of_mem _ a, b, c⟩
        · obtain ⟨a, b, c⟩ := nv_lr_mem h
          exact ⟨List.mem_cons_of_mem _ a, b, c⟩
      · next hb2 =>
        have hb2 : x.1 + 1 ≠ i := Nat.ne_of_beq_eq_false hb2
        rcases List.mem_cons.mp h with h | h
        · subst h
          exact ⟨List.mem_cons_self, hb, fun c => hb2 c.1⟩
        · obtain ⟨a, b, c⟩ := nv_lr_mem h
          exact ⟨List.mem_cons_of_mem _ a, b, c⟩
theorem nv_ls_has {X : nv_X} {lv : nv_LV} {i n : Nat} {v : nv_AV} {ls' : Array Slot} (h : lv_has ls' n ((i, nv_tr X v) :: (nv_trL X lv).filter (fun q => !(q.1 == i) && !(q.1 + 1 == i && q.2.category == 2)))) : lv_has ls' n (nv_trL X (nv_ls lv i v)) := by
  refine ⟨h.1, h.2.1, fun q hq => h.2.2 q ?_⟩
  obtain ⟨y, hy, rfl⟩ := List.mem_map.mp hq
  rcases nv_li_mem hy with rfl | hy
  · exact List.mem_cons_self
  · obtain ⟨a, b, c⟩ := nv_lr_mem hy
    refine List.mem_cons_of_mem _ (List.mem_filter.mpr ⟨List.mem_map.mpr ⟨y, a, rfl⟩, ?_⟩)
    simp only [nv_tr_cat]
    simp only [Bool.and_eq_true, Bool.not_eq_true', beq_eq_false_iff_ne, ne_eq, Bool.and_eq_false_iff]
    refine ⟨b, ?_⟩
    by_cases h1 : y.1 + 1 = i
    · exact Or.inr (fun h2 => c ⟨h1, h2⟩)
    · exact Or.inl h1
theorem nv_ls_ok {lv : nv_LV} {i : Nat} {v : nv_AV} (hv : nv_ok v) (h : ∀ q ∈ lv, nv_ok q.2) : ∀ q ∈ nv_ls lv i v, nv_ok q.2 := by
  intro q hq
  rcases nv_li_mem hq with rfl | hq
  · exact hv
  · exact h q (nv_lr_mem hq).1
theorem nv_lg_at {X : nv_X} {lv : nv_LV} {i n : Nat} {v : nv_AV} {ls : Array Slot} (h : lv_has ls n (nv_trL X lv)) (hv : nv_lg lv i = some v) : ls[i]? = some (.val (nv_tr X v)) :=
  h.2.2 (i, nv_tr X v) (List.mem_map.mpr ⟨(i, v), nv_lg_mem hv, rfl⟩)
section nvIns
variable {M : nv_MD} {pc : Nat}
def s_ki (z : Int) (nx : Nat) : nv_Sem := fun lv stk h _ K => K nx lv (vi z :: stk) h
def s_kl (z : Int) (nx : Nat) : nv_Sem := fun lv stk h _ K => K nx lv (vl z :: stk) h
theorem n_iconst {z : Int} (hd : decode (nv_c M) pc = .ok (.iconst z, 1)) : nv_Snd M pc (s_ki z (pc + 1)) := by
  intro lv stk h Q K hK hf X p l e s m args below meth c H locs ls C hP hD hS hl ho hk
  exact lv_iconst C.1 C.2.1 hd rfl (hK _ _ _ _ hf X p l e s m args below meth c H locs ls C hP hD hS hl ho (List.forall_mem_cons.mpr ⟨trivial, hk⟩))
theorem n_bipush {z : Int} (hd : decode (nv_c M) pc = .ok (.bipush z, 2)) (hz : (Int8.ofInt z).toInt32 = Int32.ofInt z) : nv_Snd M pc (s_ki z (pc + 2)) := by
  intro lv stk h Q K hK hf X p l e s m args below meth c H locs ls C hP hD hS hl ho hk
  exact lv_bipush C.1 C.2.1 hd hz (hK _ _ _ _ hf X p l e s m args below meth c H locs ls C hP hD hS hl ho (List.forall_mem_cons.mpr ⟨trivial, hk⟩))
theorem n_sipush {z : Int} (hd : decode (nv_c M) pc = .ok (.sipush z, 3)) (hz : (Int16.ofInt z).toInt32 = Int32.ofInt z) : nv_Snd M pc (s_ki z (pc + 3)) := by
  intro lv stk h Q K hK hf X p l e s m args below meth c H locs ls C hP hD hS hl ho hk
  exact lv_sipush C.1 C.2.1 hd hz (hK _ _ _ _ hf X p l e s m args below meth c H locs ls C hP hD hS hl ho (List.forall_mem_cons.mpr ⟨trivial, hk⟩))
theorem n_lconst {z : Fin 2} {v : Int} (hd : decode (nv_c M) pc = .ok (.lconst z, 1)) (hv : Int64.ofNat (z : Nat) = Int64.ofInt v) : nv_Snd M pc (s_kl v (pc + 1)) := by
  intro lv stk h Q K hK hf X p l e s m args below meth c H locs ls C hP hD hS hl ho hk
  exact lv_lconst C.1 C.2.1 hd hv (hK _ _ _ _ hf X p l e s m args below meth c H locs ls C hP hD hS hl ho (List.forall_mem_cons.mpr ⟨trivial, hk⟩))
theorem n_ldc {i : Nat} {z : Int} (hd : decode (nv_c M) pc = .ok (.ldc i, 2)) (hw : Cond.constant (nv_own M) i (Int32.ofInt z) ∈ lw_tbl) : nv_Snd M pc (s_ki z (pc + 2)) := by
  intro lv stk h Q K hK hf X p l e s m args below meth c H locs ls C hP hD hS hl ho hk
  exact lv_ldc C.1 C.2.1 C.2.2.2.2.2.1 (C.2.2.2.2.2.2.1 _ (nv_in hw rfl)) hd (hK _ _ _ _ hf X p l e s m args below meth c H locs ls C hP hD hS hl ho (List.forall_mem_cons.mpr ⟨trivial, hk⟩))
theorem n_ldc2 {i : Nat} {z : Int} (hd : decode (nv_c M) pc = .ok (.ldc2_w i, 3)) (hw : Cond.constantLong (nv_own M) i (Int64.ofInt z) ∈ lw_tbl) : nv_Snd M pc (s_kl z (pc + 3)) := by
  intro lv stk h Q K hK hf X p l e s m args below meth c H locs ls C hP hD hS hl ho hk
  exact lv_ldc2 C.1 C.2.1 C.2.2.2.2.2.1 (C.2.2.2.2.2.2.1 _ (nv_in hw rfl)) hd (hK _ _ _ _ hf X p l e s m args below meth c H locs ls C hP hD hS hl ho (List.forall_mem_cons.mpr ⟨trivial, hk⟩))
def s_il (i nx : Nat) : nv_Sem := fun lv stk h _ K => match nv_lg lv i with
  | some (.inl z) => K nx lv (.inl z :: stk) h
  | _ => False
def s_al (i nx : Nat) : nv_Sem := fun lv stk h _ K => match nv_lg lv i with
  | some (.inr (.inl z)) => K nx lv (.inr (.inl z) :: stk) h
  | _ => False
def s_ll (i nx : Nat) : nv_Sem := fun lv stk h _ K => match nv_lg lv i with
  | some (.inr (.inr z)) => K nx lv (.inr (.inr z) :: stk) h
  | _ => False
theorem n_iload_n {k : Fin 4} (hd : decode (nv_c M) pc = .ok (.iload_n k, 1)) : nv_Snd M pc (s_il k (pc + 1)) := by
  intro lv stk h Q K hK hf X p l e s m args below meth c H locs ls C hP hD hS hl ho hk
  unfold s_il at hf
  split at hf
  · next z hz => exact lv_iload_n C.1 C.2.1 hd rfl (nv_lg_at hl hz) (hK _ _ _ _ hf X p l e s m args below meth c H locs ls C hP hD hS hl ho (List.forall_mem_cons.mpr ⟨trivial, hk⟩))
  · exact hf.elim
theorem n_iload {k : Nat} (hd : decode (nv_c M) pc = .ok (.iload k, 2)) : nv_Snd M pc (s_il k (pc + 2)) := by
  intro lv stk h Q K hK hf X p l e s m args below meth c H locs ls C hP hD hS hl ho hk
  unfold s_il at hf
  split at hf
  · next z hz => exact lv_iload C.1 C.2.1 hd (nv_lg_at hl hz) (hK _ _ _ _ hf X p l e s m args below meth c H locs ls C hP hD hS hl ho (List.forall_mem_cons.mpr ⟨trivial, hk⟩))
  · exact hf.elim
theorem n_aload_n {k : Fin 4} (hd : decode (nv_c M) pc = .ok (.aload_n k, 1)) : nv_Snd M pc (s_al k (pc + 1)) := by
  intro lv stk h Q K hK hf X p l e s m args below meth c H locs ls C hP hD hS hl ho hk
  unfold s_al at hf
  split at hf
  · next z hz => exact lv_aload_n C.1 C.2.1 hd rfl (nv_lg_at hl hz) (hK _ _ _ _ hf X p l e s m args below meth c H locs ls C hP hD hS hl ho (List.forall_mem_cons.mpr ⟨ho _ (nv_lg_mem hz), hk⟩))
  · exact hf.elim
theorem n_aload {k : Nat} (hd : decode (nv_c M) pc = .ok (.aload k, 2)) : nv_Snd M pc (s_al k (pc + 2)) := by
  intro lv stk h Q K hK hf X p l e s m args below meth c H locs ls C hP hD hS hl ho hk
  unfold s_al at hf
  split at hf
  · next z hz => exact lv_aload C.1 C.2.1 hd (nv_lg_at hl hz) (hK _ _ _ _ hf X p l e s m args below meth c H locs ls C hP hD hS hl ho (List.forall_mem_cons.mpr ⟨ho _ (nv_lg_mem hz), hk⟩))
  · exact hf.elim
theorem n_lload_n {k : Fin 4} (hd : decode (nv_c M) pc = .ok (.lload_n k, 1)) : nv_Snd M pc (s_ll k (pc + 1)) := by
  intro lv stk h Q K hK hf X p l e s m args below meth c H locs ls C hP hD hS hl ho hk
  unfold s_ll at hf
  split at hf
  · next z hz => exact lv_lload_n C.1 C.2.1 hd rfl (nv_lg_at hl hz) (hK _ _ _ _ hf X p l e s m args below meth c H locs ls C hP hD hS hl ho (List.forall_mem_cons.mpr ⟨trivial, hk⟩))
  · exact hf.elim
theorem n_lload {k : Nat} (hd : decode (nv_c M) pc = .ok (.lload k, 2)) : nv_Snd M pc (s_ll k (pc + 2)) := by
  intro lv stk h Q K hK hf X p l e s m args below meth c H locs ls C hP hD hS hl ho hk
  unfold s_ll at hf
  split at hf
  · next z hz => exact lv_lload C.1 C.2.1 hd (nv_lg_at hl hz) (hK _ _ _ _ hf X p l e s m args below meth c H locs ls C hP hD hS hl ho (List.forall_mem_cons.mpr ⟨trivial, hk⟩))
  · exact hf.elim
def s_is (i nx : Nat) : nv_Sem := fun lv stk h _ K => match stk with
  | .inl z :: r => K nx (nv_ls lv i (.inl z)) r h
  | _ => False
def s_as (i nx : Nat) : nv_Sem := fun lv stk h _ K => match stk with
  | .inr (.inl z) :: r => K nx (nv_ls lv i (.inr (.inl z))) r h
  | _ => False
theorem n_istore_n {k : Fin 4} (hd : decode (nv_c M) pc = .ok (.istore_n k, 1)) (hi : (k : Nat) < nv_mL M) : nv_Snd M pc (s_is k (pc + 1)) := by
  intro lv stk h Q K hK hf X p l e s m args below meth c H locs ls C hP hD hS hl ho hk
  unfold s_is at hf
  split at hf
  · next z r => exact lv_istore_n C.1 C.2.1 hd rfl hl hi rfl (fun ls' hl' => hK _ _ _ _ hf X p l e s m args below meth c H locs ls' C hP hD hS (nv_ls_has (v := .inl z) hl') (nv_ls_ok trivial ho) (List.forall_mem_cons.mp hk).2)
  · exact hf.elim
theorem n_istore {k : Nat} (hd : decode (nv_c M) pc = .ok (.istore k, 2)) (hi : k < nv_mL M) : nv_Snd M pc (s_is k (pc + 2)) := by
  intro lv stk h Q K hK hf X p l e s m args below meth c H locs ls C hP hD hS hl ho hk
  unfold s_is at hf
  split at hf
  · next z r => exact lv_istore C.1 C.2.1 hd hl hi rfl (fun ls' hl' => hK _ _ _ _ hf X p l e s m args below meth c H locs ls' C hP hD hS (nv_ls_has (v := .inl z) hl') (nv_ls_ok trivial ho) (List.forall_mem_cons.mp hk).2)
  · exact hf.elim
theorem n_astore_n {k : Fin 4} (hd : decode (nv_c M) pc = .ok (.astore_n k, 1)) (hi : (k : Nat) < nv_mL M) : nv_Snd M pc (s_as k (pc + 1)) := by
  intro lv stk h Q K hK hf X p l e s m args below meth c H locs ls C hP hD hS hl ho hk
  unfold s_as at hf
  split at hf
  · next z r => exact lv_astore_n C.1 C.2.1 hd rfl hl hi rfl (fun ls' hl' => hK _ _ _ _ hf X p l e s m args below meth c H locs ls' C hP hD hS (nv_ls_has (v := .inr (.inl z)) hl') (nv_ls_ok (List.forall_mem_cons.mp hk).1 ho) (List.forall_mem_cons.mp hk).2)
  · exact hf.elim
theorem n_astore {k : Nat} (hd : decode (nv_c M) pc = .ok (.astore k, 2)) (hi : k < nv_mL M) : nv_Snd M pc (s_as k (pc + 2)) := by
  intro lv stk h Q K hK hf X p l e s m args below meth c H locs ls C hP hD hS hl ho hk
  unfold s_as at hf
  split at hf
  · next z r => exact lv_astore C.1 C.2.1 hd hl hi rfl (fun ls' hl' => hK _ _ _ _ hf X p l e s m args below meth c H locs ls' C hP hD hS (nv_ls_has (v := .inr (.inl z)) hl') (nv_ls_ok (List.forall_mem_cons.mp hk).1 ho) (List.forall_mem_cons.mp hk).2)
  · exact hf.elim
def s_inc (i : Nat) (d : Int) (nx : Nat) : nv_Sem := fun lv stk h _ K => match nv_lg lv i with
  | some (.inl z) => K nx (nv_ls lv i (.inl (z + d))) stk h
  | _ => False
theorem n_iinc {k : Nat} {d : Int} (hd : decode (nv_c M) pc = .ok (.iinc k d, 3)) (hi : k < nv_mL M) : nv_Snd M pc (s_inc k d (pc + 3)) := by
  intro lv stk h Q K hK hf X p l e s m args below meth c H locs ls C hP hD hS hl ho hk
  unfold s_inc at hf
  split at hf
  · next z hz =>
    obtain ⟨j, hj⟩ := List.getElem?_of_mem (nv_lg_mem hz)
    have hj' : (nv_trL X lv)[j]? = some (k, .int (Int32.ofInt z)) := by rw [List.getElem?_map, hj]; rfl
    exact lv_iinc C.1 C.2.1 hd hl hj' (v := Int32.ofInt (z + d)) (Int32.ofInt_add z d).symm hi rfl (fun ls' hl' => hK _ _ _ _ hf X p l e s m args below meth c H locs ls' C hP hD hS (nv_ls_has (v := .inl (z + d)) hl') (nv_ls_ok trivial ho) hk)
  · exact hf.elim
/-! arithmetic -/
def s_b (f : Int → Int → Int) (nx : Nat) : nv_Sem := fun lv stk h _ K => match stk with
  | .inl b :: .inl a :: r => K nx lv (.inl (f a b) :: r) h
  | _ => False
def s_add (nx : Nat) : nv_Sem := fun lv stk h _ K => match stk with
  | .inl b :: .inl a :: r => K nx lv (.inl (a + b) :: r) h
  | _ => False
def s_sub (nx : Nat) : nv_Sem := fun lv stk h _ K => match stk with
  | .inl b :: .inl a :: r => K nx lv (.inl (a - b) :: r) h
  | _ => False
def s_mul (nx : Nat) : nv_Sem := fun lv stk h _ K => match stk with
  | .inl b :: .inl a :: r => K nx lv (.inl (a * b) :: r) h
  | _ => False
theorem n_iadd (hd : decode (nv_c M) pc = .ok (.iadd, 1)) : nv_Snd M pc (s_add (pc + 1)) := by
  intro lv stk h Q K hK hf X p l e s m args below meth c H locs ls C hP hD hS hl ho hk
  unfold s_add at hf
  split at hf
  · next b a r =>
    refine lv_iadd C.1 C.2.1 hd ?_
    rw [← Int32.ofInt_add]
    exact hK _ _ _ _ hf X p l e s m args below meth c H locs ls C hP hD hS hl ho (List.forall_mem_cons.mpr ⟨trivial, (List.forall_mem_cons.mp (List.forall_mem_cons.mp hk).2).2⟩)
  · exact hf.elim
theorem n_isub (hd : decode (nv_c M) pc = .ok (.isub, 1)) : nv_Snd M pc (s_sub (pc + 1)) := by
  intro lv stk h Q K hK hf X p l e s m args below meth c H locs ls C hP hD hS hl ho hk
  unfold s_sub at hf
  split at hf
  · next b a r =>
    refine lv_isub C.1 C.2.1 hd ?_
    rw [← Int32.ofInt_sub]
    exact hK _ _ _ _ hf X p l e s m args below meth c H locs ls C hP hD hS hl ho (List.forall_mem_cons.mpr ⟨trivial, (List.forall_mem_cons.mp (List.forall_mem_cons.mp hk).2).2⟩)
  · exact hf.elim
theorem n_imul (hd : decode (nv_c M) pc = .ok (.imul, 1)) : nv_Snd M pc (s_mul (pc + 1)) := by
  intro lv stk h Q K hK hf X p l e s m args below meth c H locs ls C hP hD hS hl ho hk
  unfold s_mul at hf
  split at hf
  · next b a r =>
    refine lv_imul C.1 C.2.1 hd ?_
    rw [← Int32.ofInt_mul]
    exact hK _ _ _ _ hf X p l e s m args below meth c H locs ls C hP hD hS hl ho (List.forall_mem_cons.mpr ⟨trivial, (List.forall_mem_cons.mp (List.forall_mem_cons.mp hk).2).2⟩)
  · exact hf.elim
def nv_and (a b : Int) : Int := (Int32.ofInt a &&& Int32.ofInt b).toInt
def nv_or (a b : Int) : Int := (Int32.ofInt a ||| Int32.ofInt b).toInt
def nv_xor (a b : Int) : Int := (Int32.ofInt a ^^^ Int32.ofInt b).toInt
theorem n_iand (hd : decode (nv_c M) pc = .ok (.iand, 1)) : nv_Snd M pc (s_b nv_and (pc + 1)) := by
  intro lv stk h Q K hK hf X p l e s m args below meth c H locs ls C hP hD hS hl ho hk
  unfold s_b at hf
  split at hf
  · next b a r =>
    refine lv_iand C.1 C.2.1 hd ?_
    have := hK _ _ _ _ hf X p l e s m args below meth c H locs ls C hP hD hS hl ho (List.forall_mem_cons.mpr ⟨trivial, (List.forall_mem_cons.mp (List.forall_mem_cons.mp hk).2).2⟩)
    rwa [List.map_cons, show nv_tr X (.inl (nv_and a b)) = .int (Int32.ofInt a &&& Int32.ofInt b) from congrArg Value.int (Int32.ofInt_toInt _)] at this
  · exact hf.elim
theorem n_ior (hd : decode (nv_c M) pc = .ok (.ior, 1)) : nv_Snd M pc (s_b nv_or (pc + 1)) := by
  intro lv stk h Q K hK hf X p l e s m args below meth c H locs ls C hP hD hS hl ho hk
  unfold s_b at hf
  split at hf
  · next b a r =>
    refine lv_ior C.1 C.2.1 hd ?_
    have := hK _ _ _ _ hf X p l e s m args below meth c H locs ls C hP hD hS hl ho (List.forall_mem_cons.mpr ⟨trivial, (List.forall_mem_cons.mp (List.forall_mem_cons.mp hk).2).2⟩)
    rwa [List.map_cons, show nv_tr X (.inl (nv_or a b)) = .int (Int32.ofInt a ||| Int32.ofInt b) from congrArg Value.int (Int32.ofInt_toInt _)] at this
  · exact hf.elim
theorem n_ixor (hd : decode (nv_c M) pc = .ok (.ixor, 1)) : nv_Snd M pc (s_b nv_xor (pc + 1)) := by
  intro lv stk h Q K hK hf X p l e s m args below meth c H locs ls C hP hD hS hl ho hk
  unfold s_b at hf
  split at hf
  · next b a r =>
    refine lv_ixor C.1 C.2.1 hd ?_
    have := hK _ _ _ _ hf X p l e s m args below meth c H locs ls C hP hD hS hl ho (List.forall_mem_cons.mpr ⟨trivial, (List.forall_mem_cons.mp (List.forall_mem_cons.mp hk).2).2⟩)
    rwa [List.map_cons, show nv_tr X (.inl (nv_xor a b)) = .int (Int32.ofInt a ^^^ Int32.ofInt b) from congrArg Value.int (Int32.ofInt_toInt _)] at this
  · exact hf.elim
/-- of numbers that are not below 0 -/
def s_div (nx : Nat) : nv_Sem := fun lv stk h _ K => match stk with
  | .inl b :: .inl a :: r => (0 ≤ a ∧ a < 2147483648) ∧ (0 < b ∧ b < 2147483648) ∧ K nx lv (.inl (a / b) :: r) h
  | _ => False
def s_rem (nx : Nat) : nv_Sem := fun lv stk h _ K => match stk with
  | .inl b :: .inl a :: r => (0 ≤ a ∧ a < 2147483648) ∧ (0 < b ∧ b < 2147483648) ∧ K nx lv (.inl (a % b) :: r) h
  | _ => False
theorem nv_nat {a : Int} (h : 0 ≤ a ∧ a < 2147483648) : ∃ n : Nat, a = (n : Int) ∧ n < 2 ^ 31 := ⟨a.toNat, by omega, by omega⟩
theorem n_idiv (hd : decode (nv_c M) pc = .ok (.idiv, 1)) : nv_Snd M pc (s_div (pc + 1)) := by
  intro lv stk h Q K hK hf X p l e s m args below meth c H locs ls C hP hD hS hl ho hk
  unfold s_div at hf
  split at hf
  · next b a r =>
    obtain ⟨h1, h2, hf⟩ := hf
    obtain ⟨x, rfl, hx⟩ := nv_nat h1
    obtain ⟨y, rfl, hy⟩ := nv_nat ⟨by omega, h2.2⟩
    have hy0 : 0 < y := by omega
    refine lv_idiv C.1 C.2.1 hd ?_ ?_
    · rw [nv_ofNat]; exact nI_ne0 hy0 hy
    · have e1 : Int32.ofInt ((x : Int) / (y : Int)) = Int32.ofInt (x : Int) / Int32.ofInt (y : Int) := by
        rw [nv_ofNat, nv_ofNat, pk_div hx hy0 hy, ← nv_ofNat]; rfl
      rw [← e1]
      exact hK _ _ _ _ hf X p l e s m args below meth c H locs ls C hP hD hS hl ho (List.forall_mem_cons.mpr ⟨trivial, (List.forall_mem_cons.mp (List.forall_mem_cons.mp hk).2).2⟩)
  · exact hf.elim
theorem n_irem (hd : decode (nv_c M) pc = .ok (.irem, 1)) : nv_Snd M pc (s_rem (pc + 1)) := by
  intro lv stk h Q K hK hf X p l e s m args below meth c H locs ls C hP hD hS hl ho hk
  unfold s_rem at hf
  split at hf
  · next b a r =>
    obtain ⟨h1, h2, hf⟩ := hf
    obtain ⟨x, rfl, hx⟩ := nv_nat h1
    obtain ⟨y, rfl, hy⟩ := nv_nat ⟨by omega, h2.2⟩
    have hy0 : 0 < y := by omega
    refine lv_irem C.1 C.2.1 hd ?_ ?_
    · rw [nv_ofNat]; exact nI_ne0 hy0 hy
    · have e1 : Int32.ofInt ((x : Int) % (y : Int)) = Int32.ofInt (x : Int) - Int32.ofInt (x : Int) / Int32.ofInt (y : Int) * Int32.ofInt (y : Int) := by
        rw [nv_ofNat, nv_ofNat, pk_rem hx hy0 hy, ← nv_ofNat]; rfl
      rw [← e1]
      exact hK _ _ _ _ hf X p l e s m args below meth c H locs ls C hP hD hS hl ho (List.forall_mem_cons.mpr ⟨trivial, (List.forall_mem_cons.mp (List.forall_mem_cons.mp hk).2).2⟩)
  · exact hf.elim
end nvIns
