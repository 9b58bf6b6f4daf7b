/-! ===== the layer: ints are Ints, cells are (kind, number), a store is one function; what a method does is said of these alone ===== -/
abbrev nv_AV : Type := Int ⊕ ((Nat × Nat) ⊕ Int)
abbrev nv_LV : Type := List (Nat × nv_AV)
abbrev nv_St : Type := Nat → Nat → Nat → Int
abbrev nv_PT : Type := Option nv_AV → nv_St → Prop
abbrev nv_K : Type := Nat → nv_LV → List nv_AV → nv_St → Prop
abbrev nv_Sem : Type := nv_LV → List nv_AV → nv_St → nv_PT → nv_K → Prop
abbrev vi (z : Int) : nv_AV := Sum.inl z
abbrev vr (t i : Nat) : nv_AV := Sum.inr (Sum.inl (t, i))
abbrev vl (z : Int) : nv_AV := Sum.inr (Sum.inr z)
def nv_cat : nv_AV → Nat := fun v => match v with
  | .inl _ => 1
  | .inr (.inl _) => 1
  | .inr (.inr _) => 2
abbrev nv_X : Type := va_G × (Nat → Nat → Nat) × (Nat → ClassId)
def nv_tr (X : nv_X) : nv_AV → Value := fun v => match v with
  | .inl z => .int (Int32.ofInt z)
  | .inr (.inl r) => .ref (X.2.1 r.1 r.2)
  | .inr (.inr z) => .long (Int64.ofInt z)
theorem nv_tr_cat (X : nv_X) (v : nv_AV) : (nv_tr X v).category = nv_cat v := by
  rcases v with z | r | z <;> rfl
abbrev nv_InR (z : Int) : Prop := -2147483648 ≤ z ∧ z < 2147483648
abbrev nv_InL (z : Int) : Prop := -9223372036854775808 ≤ z ∧ z < 9223372036854775808
/-! the shape: which kinds of cells there are, how many of each, what they hold -/
def nv_cnt : Nat → Nat := fun t => if t < 8 then 21 else if t < 13 then 2 else if t < 16 then 1 else if t < 18 then 4 else if t < 30 then 1 else 0
def nv_cells : List (Nat × Nat) := (List.range 30).flatMap (fun t => (List.range (nv_cnt t)).map (fun i => (t, i)))
theorem nv_mem {t i : Nat} : (t, i) ∈ nv_cells ↔ t < 30 ∧ i < nv_cnt t := by
  simp [nv_cells]
theorem nv_nd : nv_cells.Nodup := by decide +kernel
/-- the class of a kind of objects -/
def nv_tcl : Nat → Option Nat := fun t => match t with
  | 0 => some 0
  | 8 => some 2
  | 11 => some 1
  | 13 => some 4
  | 16 => some 3
  | 18 => some 5
  | 19 => some 6
  | _ => none
def nv_nf : Nat → Nat := fun ci => match ci with
  | 0 => 11
  | 1 => 3
  | 2 => 8
  | 3 => 3
  | 4 => 3
  | 5 => 10
  | _ => 16
/-- a field that holds a reference: which -/
def nv_rf : Nat → Nat → Nat → Option (Nat × Nat) := fun t k i => match t with
  | 0 => (match k with | 4 => some (1, i) | 5 => some (2, i) | 6 => some (3, i) | 7 => some (4, i) | 8 => some (5, i) | 9 => some (6, i) | 10 => some (7, i) | _ => none)
  | 8 => (match k with | 0 => some (0, 19 + i) | 1 => some (9, i) | 2 => some (10, i) | _ => none)
  | 11 => (match k with | 0 => some (12, i) | _ => none)
  | 13 => (match k with | 0 => some (14, 0) | _ => none)
  | 16 => (match k with | 0 => some (17, i) | _ => none)
  | 18 => (match k with | 0 => some (0, 0) | 1 => some (11, 0) | 2 => some (0, 2) | 3 => some (11, 1) | 5 => some (0, 1) | 6 => some (8, 0) | 7 => some (8, 1) | 8 => some (13, 0) | 9 => some (15, 0) | _ => none)
  | 19 => (match k with | 0 => some (20, 0) | 1 => some (21, 0) | 2 => some (22, 0) | 4 => some (23, 0) | 7 => some (24, 0) | 8 => some (25, 0) | 9 => some (26, 0) | 10 => some (27, 0) | 12 => some (28, 0) | 13 => some (29, 0) | _ => none)
  | _ => none
/-- a kind of arrays: what they hold (0 ints, 1 longs, 2 chars, 3 noons, 4 sheets), how many -/
def nv_tar : Nat → Nat × Nat := fun t => match t with
  | 12 => (3, 8)
  | 14 => (2, 80)
  | 15 => (4, 4)
  | 17 => (1, 24)
  | 20 => (0, 4)
  | 21 => (0, 4)
  | 22 => (1, 96)
  | 23 => (0, 80)
  | 24 => (0, 171)
  | 25 => (0, 171)
  | 26 => (0, 171)
  | 27 => (0, 171)
  | 30 => (9, 0)
  | 31 => (9, 0)
  | _ => (0, 5)
def nv_re : Nat → Nat → Nat → Nat × Nat := fun t i q => match t with
  | 12 => (0, 3 + 8 * i + q)
  | _ => (16, q)
def nv_fv (X : nv_X) (h : nv_St) (t i k : Nat) : Value := match nv_rf t k i with
  | some r => .ref (X.2.1 r.1 r.2)
  | none => .int (Int32.ofInt (h t i k))
def nv_fs (X : nv_X) (h : nv_St) (ci t i : Nat) : List Value := (List.range (nv_nf ci)).map (nv_fv X h t i)
def nv_arr (X : nv_X) (h : nv_St) (t i : Nat) : va_E := match nv_tar t with
  | (1, n) => .inl (X.2.2 1, n, .inr (.inl fun j => Int64.ofInt (h t i j)))
  | (3, n) => .inl (X.2.2 3, n, .inr (.inr (.inr (.inr fun j => some (X.2.1 (nv_re t i j).1 (nv_re t i j).2)))))
  | (4, n) => .inl (X.2.2 4, n, .inr (.inr (.inr (.inr fun j => some (X.2.1 (nv_re t i j).1 (nv_re t i j).2)))))
  | (2, n) => .inl (X.2.2 2, n, .inl fun j => Int32.ofInt (h t i j))
  | (_, n) => .inl (X.2.2 0, n, .inl fun j => Int32.ofInt (h t i j))
def nv_cell (X : nv_X) (h : nv_St) (t i : Nat) : va_E := match nv_tcl t with
  | some ci => .inr (ci, nv_fs X h ci t i)
  | none => nv_arr X h t i
def nv_ws (X : nv_X) (h : nv_St) : va_W := nv_cells.map (fun c => (X.2.1 c.1 c.2, nv_cell X h c.1 c.2))
def nv_tys (X : nv_X) : List (ClassId × FieldType) := [(X.2.2 0, .int), (X.2.2 1, .long), (X.2.2 2, .char), (X.2.2 3, .object RX0), (X.2.2 4, .object RX3)]
def nv_A (X : nv_X) : Nat → Prop := fun q => ∃ c ∈ nv_cells, q = X.2.1 c.1 c.2
theorem nv_at {X : nv_X} {t i : Nat} (hc : (t, i) ∈ nv_cells) : ∃ q : Nat, nv_cells[q]? = some (t, i) ∧ ∀ h, (nv_ws X h)[q]? = some (X.2.1 t i, nv_cell X h t i) := by
  obtain ⟨q, hq⟩ := List.getElem?_of_mem hc
  exact ⟨q, hq, fun h => by simp [nv_ws, hq]⟩
theorem nv_set {X : nv_X} {h h' : nv_St} {q t i : Nat} {e : va_E} (hq : nv_cells[q]? = some (t, i)) (he : nv_cell X h' t i = e) (ho : ∀ t' i', (t', i') ≠ (t, i) → nv_cell X h' t' i' = nv_cell X h t' i') :
    (nv_ws X h).set q (X.2.1 t i, e) = nv_ws X h' := by
  apply List.ext_getElem?
  intro j
  rw [List.getElem?_set]
  by_cases hj : q = j
  · subst hj
    obtain ⟨hl, e1⟩ := List.getElem?_eq_some_iff.mp hq
    simp [nv_ws, he, hl, e1]
  · simp only [hj, if_false, nv_ws, List.getElem?_map]
    cases hc : nv_cells[j]? with
    | none => rfl
    | some c =>
      obtain ⟨t', i'⟩ := c
      have hne : (t', i') ≠ (t, i) := by
        intro heq
        rw [heq] at hc
        exact hj ((List.getElem?_inj (List.getElem?_eq_some_iff.mp hq).1 nv_nd).mp (hq.trans hc.symm))
      simp [ho t' i' hne]
def nv_up (h : nv_St) (t i j : Nat) (x : Int) : nv_St := fun t' i' j' => if t' = t ∧ i' = i ∧ j' = j then x else h t' i' j'
def nv_row (h : nv_St) (t i : Nat) (f : Nat → Int) : nv_St := fun t' i' j' => if t' = t ∧ i' = i then f j' else h t' i' j'
theorem nv_up_same (h : nv_St) (t i j : Nat) (x : Int) : nv_up h t i j x t i j = x := by simp [nv_up]
theorem nv_cell_other {X : nv_X} {h h' : nv_St} {t i : Nat} (hh : h' t i = h t i) : nv_cell X h' t i = nv_cell X h t i := by
  have : ∀ j, h' t i j = h t i j := fun j => congrFun hh j
  unfold nv_cell nv_fs nv_arr nv_fv
  simp only [this]
theorem nv_row_other {h : nv_St} {t i t' i' : Nat} {f : Nat → Int} (hn : (t', i') ≠ (t, i)) : nv_row h t i f t' i' = h t' i' := by
  funext j
  simp only [nv_row]
  rw [if_neg]
  rintro ⟨rfl, rfl⟩
  exact hn rfl
theorem nv_up_row (h : nv_St) (t i j : Nat) (x : Int) : nv_up h t i j x = nv_row h t i (fun k => if k = j then x else h t i k) := by
  funext t' i' j'
  simp only [nv_up, nv_row]
  by_cases h1 : t' = t ∧ i' = i
  · obtain ⟨rfl, rfl⟩ := h1
    by_cases h2 : j' = j <;> simp [h2]
  · rw [if_neg h1, if_neg]
    rintro ⟨a, b, -⟩
    exact h1 ⟨a, b⟩
theorem nv_set_row {X : nv_X} {h : nv_St} {q t i : Nat} {f : Nat → Int} (hq : nv_cells[q]? = some (t, i)) : (nv_ws X h).set q (X.2.1 t i, nv_cell X (nv_row h t i f) t i) = nv_ws X (nv_row h t i f) :=
  nv_set hq rfl (fun _ _ hn => nv_cell_other (nv_row_other hn))
/-! the words -/
def nv_T : List Cond := lw_tbl.filter goodWord
theorem nv_in {w : Cond} (h : w ∈ lw_tbl) (hg : goodWord w = true) : w ∈ nv_T := List.mem_filter.mpr ⟨h, hg⟩
abbrev nv_MD : Type := String × MethodName × ByteArray × Nat × Option FieldType × Nat × Nat
abbrev nv_own (M : nv_MD) : String := M.1
abbrev nv_y (M : nv_MD) : MethodName := M.2.1
abbrev nv_c (M : nv_MD) : ByteArray := M.2.2.1
abbrev nv_mL (M : nv_MD) : Nat := M.2.2.2.1
abbrev nv_ret (M : nv_MD) : Option FieldType := M.2.2.2.2.1
def nv_rm (M : nv_MD) : Room := { frames := M.2.2.2.2.2.1, cells := 0, slots := 0, locals := M.2.2.2.2.2.2 }
def nv_W (M : nv_MD) : List Cond := Cond.code (nv_y M) (nv_c M) (nv_mL M) (nv_ret M) :: nv_T
theorem nv_good {M : nv_MD} (h : Cond.code (nv_y M) (nv_c M) (nv_mL M) (nv_ret M) ∈ lw_tbl) : GoodIn nv_T (nv_W M) := by
  intro w hw
  rcases List.mem_cons.mp hw with rfl | hw
  · exact ⟨nv_in h rfl, good_of_word rfl⟩
  · exact ⟨hw, good_of_word (List.mem_filter.mp hw).2⟩
/-! what is known of the machine's tables, and of the one String -/
def nv_n1 : Cond := .methodLinkNest "NoonSaws$Tape" 80 ⟨"NoonSaws", "outside", "(III)Z"⟩ "NoonSaws"
def nv_n2 : Cond := .methodLinkNest "NoonSaws$Search" 59 ⟨"NoonSaws", "power", "(II)I"⟩ "NoonSaws"
def nv_KK (X : nv_X) (U : State) : Prop :=
  va_K X.1 vwCl (nv_tys X) U ∧ va_Nw nv_n1 U ∧ va_Nw nv_n2 U ∧ vk_R "NoonSaws$Tape" 63 "poghs" (X.2.1 30 0) U ∧
  vk_S 1 [5] [[112, 111, 103, 104, 115]] (fun _ => X.2.1 30 0) (fun _ => X.2.1 31 0) (nv_A X) U U.heap ∧ va_Z "java/lang/String" "COMPACT_STRINGS" "Z" (.int 1) (nv_A X) U U.heap
theorem nv_KK.calling {X : nv_X} {U : State} (h : nv_KK X U) (g : JFrame) (mk : MethodId) (a : Array Value) : nv_KK X (U.calling g mk a) := by
  obtain ⟨h1, h2, h3, h4, h5, h6⟩ := h
  exact ⟨va_K.moved (u := U) (U := U.calling g mk a) (Vm.Alike.refl U.vm) h1, va_Nw.same rfl (u := U) (U := U.calling g mk a) rfl h2, va_Nw.same rfl (u := U) (U := U.calling g mk a) rfl h3, vk_R.same (u := U) (U := U.calling g mk a) rfl h4,
    vk_S.moved (u := U) (U := U.calling g mk a) (Vm.Alike.refl U.vm) h5, va_Z.moved (u := U) (U := U.calling g mk a) (Vm.Alike.refl U.vm) h6⟩
theorem nv_KK.go {X : nv_X} {s U : State} {H : Heap} {locs : List Loc} (h : nv_KK X s) (hS : va_S (nv_A X) s.heap H locs) (hU : U.heap = H) (hW : s.WarmedH U.vm) : nv_KK X U := by
  obtain ⟨h1, h2, h3, h4, h5, h6⟩ := h
  refine ⟨va_K.moved hW.alike h1, va_Nw.warmM hW h2, va_Nw.warmM hW h3, vk_R.warm hW h4, ?_, ?_⟩
  · rw [hU]; exact vk_S.moved hW.alike (h5.kept hS.2.1)
  · rw [hU]; exact va_Z.moved hW.alike (h6.kept hS.2.1)
/-! the judgement inside a method, and what a method does -/
def nv_ok : nv_AV → Prop := fun v => match v with
  | .inr (.inl r) => r ∈ nv_cells ∨ r = (30, 0) ∨ r = (31, 0)
  | _ => True
def nv_Qc (X : nv_X) (Q : nv_PT) : Array Value → State → Outcome → State → Prop := fun _ st oc t =>
  (∃ (r : Option nv_AV) (h' : nv_St), oc = .returned (r.map (nv_tr X)) ∧ (∀ v, r = some v → nv_ok v) ∧ Q r h' ∧ va_P X.1 vwCl (nv_ws X h') t.heap ∧ va_D (nv_A X) (nv_ws X h')) ∧ va_F (nv_A X) st t
def nv_C (M : nv_MD) (X : nv_X) (p : Program) (s : State) (m : MethodId) (args : Array Value) (meth : Method) (c : Code) : Prop :=
  p.tables.exec = Jvm.exec ∧ c.code = nv_c M ∧ meth.sig.returnType = nv_ret M ∧ c.maxLocals = nv_mL M ∧ meth.locks = false ∧ s.vm.findClass (nv_own M) = some m.cls ∧ (∀ w ∈ nv_T, w.before args s = true) ∧ nv_KK X s
abbrev nv_trL (X : nv_X) (lv : nv_LV) : List (Nat × Value) := lv.map (fun q => (q.1, nv_tr X q.2))
def nv_V (M : nv_MD) (pc : Nat) (lv : nv_LV) (stk : List nv_AV) (h : nv_St) (Q : nv_PT) : Prop :=
  ∀ (X : nv_X) (p : Program) (l : Launch) (e : Env) (s : State) (m : MethodId) (args : Array Value) (below : List Frame) (meth : Method) (c : Code) (H : Heap) (locs : List Loc) (ls : Array Slot),
    nv_C M X p s m args meth c → va_P X.1 vwCl (nv_ws X h) H → va_D (nv_A X) (nv_ws X h) → va_S (nv_A X) s.heap H locs → lv_has ls (nv_mL M) (nv_trL X lv) → (∀ q ∈ lv, nv_ok q.2) → (∀ v ∈ stk, nv_ok v) →
    W p l e (nv_rm M) s m args below meth c H locs 0 0 (MQ below (nv_Qc X Q) args s 0 0 (nv_A X)) (F0 m pc ls (stk.map (nv_tr X)))
def nv_R (M : nv_MD) (av : List nv_AV) (h : nv_St) (Q : nv_PT) : Prop :=
  ∀ (l : Launch) (X : nv_X), (∀ v ∈ av, nv_ok v) → Met l (nv_y M) (nv_W M) (nv_rm M) (va_Pc (av.map (nv_tr X)) (fun U => va_P X.1 vwCl (nv_ws X h) U.heap ∧ va_D (nv_A X) (nv_ws X h) ∧ nv_KK X U)) (nv_Qc X Q) 0 0 (nv_A X)
def nv_lva : Nat → List nv_AV → nv_LV
  | _, [] => []
  | i, v :: vs => (i, v) :: nv_lva (i + nv_cat v) vs
def nv_len : List nv_AV → Nat
  | [] => 0
  | v :: vs => nv_cat v + nv_len vs
theorem nv_lva_tr (X : nv_X) : ∀ (av : List nv_AV) (i : Nat), lv_args i (av.map (nv_tr X)) = nv_trL X (nv_lva i av)
  | [], _ => rfl
  | v :: vs, i => by
    have h := nv_lva_tr X vs
    rcases v with z | r | z
    · exact congrArg (List.cons _) (h (i + 1))
    · exact congrArg (List.cons _) (h (i + 1))
    · exact congrArg (List.cons _) (h (i + 2))
theorem nv_len_tr (X : nv_X) : ∀ (av : List nv_AV), (lg_sl (av.map (nv_tr X))).length = nv_len av
  | [] => rfl
  | v :: vs => by
    have h := nv_len_tr X vs
    simp only [lg_sl, List.map_cons, List.flatMap_cons, List.length_append] at h ⊢
    rw [h, nv_len]
    rcases v with z | r | z <;> simp [nv_tr, Value.category, nv_cat]
theorem nv_lva_mem : ∀ (av : List nv_AV) (i : Nat) (q : Nat × nv_AV), q ∈ nv_lva i av → q.2 ∈ av
  | [], _, q, h => by simp [nv_lva] at h
  | v :: vs, i, q, h => by
    rcases List.mem_cons.mp h with rfl | h
    · exact List.mem_cons_self
    · exact List.mem_cons_of_mem _ (nv_lva_mem vs _ q h)
theorem nv_R.of {M : nv_MD} {av : List nv_AV} {h : nv_St} {Q : nv_PT} (hpl : plainName (nv_y M).cls = true) (hcl : (nv_y M).cls = nv_own M) (hlen : nv_len av ≤ nv_mL M) (hV : nv_V M 0 (nv_lva 0 av) [] h Q) : nv_R M av h Q := by
  intro l X hok
  refine Met.ofW (cc := nv_c M) (maxL := nv_mL M) (ret := nv_ret M) hpl rfl ?_
  intro p e s m args below meth c s₁ B hml hv
  obtain ⟨rfl, hP, hD, hK⟩ := hv
  have hts := atoms_spec (ws := nv_W M) B.pre
  have hown : s.vm.findClass (nv_own M) = some m.cls := by rw [← hcl]; exact findClass_of_methodNamed B.named
  have hl := lv_entry (av.map (nv_tr X)) (n := nv_mL M) (by rw [nv_len_tr]; exact hlen)
  rw [lg_entry_eq]
  rw [nv_lva_tr] at hl
  exact hV X p l e s m _ below meth c s.heap [] _ ⟨B.exec, B.bytes, B.returns, hml, B.notSynchronized, hown, fun w hw => hts w (List.mem_cons_of_mem _ hw), hK⟩ hP hD va_S.rf hl (fun q hq => hok _ (nv_lva_mem av 0 q hq)) (fun v hv => by cases hv)
/-! a program: at each place what the instruction there means -/
def nv_Snd (M : nv_MD) (pc : Nat) (f : nv_Sem) : Prop := ∀ (lv : nv_LV) (stk : List nv_AV) (h : nv_St) (Q : nv_PT) (K : nv_K), (∀ pc' lv' stk' h', K pc' lv' stk' h' → nv_V M pc' lv' stk' h' Q) → f lv stk h Q K → nv_V M pc lv stk h Q
abbrev nv_Pg : Type := List (Nat × nv_Sem)
def nv_no : nv_Sem := fun _ _ _ _ _ => False
def nv_lk : nv_Pg → Nat → nv_Sem
  | [], _ => nv_no
  | q :: r, pc => match Nat.beq q.1 pc with
    | true => q.2
    | false => nv_lk r pc
def nv_el : List Nat → Nat → Bool
  | [], _ => false
  | q :: r, pc => match Nat.beq q pc with
    | true => true
    | false => nv_el r pc
def nv_wp (M : nv_MD) (P : nv_Pg) (stops : List Nat) (Q : nv_PT) : Nat → nv_K
  | 0, pc, lv, stk, h => nv_V M pc lv stk h Q
  | n + 1, pc, lv, stk, h => nv_lk P pc lv stk h Q (fun pc' lv' stk' h' => match nv_el stops pc' with
    | true => nv_V M pc' lv' stk' h' Q
    | false => nv_wp M P stops Q n pc' lv' stk' h')
def nv_ok_P (M : nv_MD) (P : nv_Pg) : Prop := ∀ q ∈ P, nv_Snd M q.1 q.2
theorem nv_lk_ok {M : nv_MD} : ∀ {P : nv_Pg}, nv_ok_P M P → ∀ pc, nv_Snd M pc (nv_lk P pc)
  | [], _, _ => fun _ _ _ _ _ _ hf => hf.elim
  | q :: r, hP, pc => by
    unfold nv_lk
    split
    · next hb =>
      have e : q.1 = pc := Nat.eq_of_beq_eq_true hb
      subst e
      exact hP q List.mem_cons_self
    · exact nv_lk_ok (fun x hx => hP x (List.mem_cons_of_mem _ hx)) pc
theorem nv_go {M : nv_MD} {P : nv_Pg} (hP : nv_ok_P M P) (stops : List Nat) {Q : nv_PT} : ∀ (n : Nat) {pc : Nat} {lv : nv_LV} {stk : List nv_AV} {h : nv_St}, nv_wp M P stops Q n pc lv stk h → nv_V M pc lv stk h Q
  | 0, _, _, _, _, hw => hw
  | n + 1, pc, lv, stk, h, hw => by
    refine nv_lk_ok hP pc lv stk h Q _ ?_ hw
    intro pc' lv' stk' h' hk
    split at hk
    · exact hk
    · exact nv_go hP stops n hk
theorem nv_V.eq {M : nv_MD} {pc : Nat} {lv lv' : nv_LV} {stk stk' : List nv_AV} {h h' : nv_St} {Q : nv_PT} (e1 : lv = lv') (e2 : stk = stk') (e3 : h = h') (k : nv_V M pc lv' stk' h' Q) : nv_V M pc lv stk h Q := by
  subst e1; subst e2; subst e3; exact k
/-- a contract's end may be weakened -/
theorem nv_V.post {M : nv_MD} {pc : Nat} {lv : nv_LV} {stk : List nv_AV} {h : nv_St} {Q Q' : nv_PT} (k : nv_V M pc lv stk h Q) (hq : ∀ r h', Q r h' → Q' r h') : nv_V M pc lv stk h Q' := by
  intro X p l e s m args below meth c H locs ls C hP hD hS hl ho hk T hT Y
  obtain ⟨t, a1, o, b1, b2, ⟨⟨r, h', c1, c2, c3, c4⟩, c5⟩, b4⟩ := k X p l e s m args below meth c H locs ls C hP hD hS hl ho hk T hT Y
  exact ⟨t, a1, o, b1, b2, ⟨⟨r, h', c1, c2, hq r h' c3, c4⟩, c5⟩, b4⟩
