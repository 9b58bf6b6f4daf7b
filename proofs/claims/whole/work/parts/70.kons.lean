/-! ===== the constructors: a world that grows at its end ===== -/
def k_tys (cA : Nat → ClassId) : List (ClassId × FieldType) := [(cA 0, .int), (cA 1, .long), (cA 2, .char), (cA 3, .object RX0), (cA 4, .object RX3)]
def k_w1 : Cond := .methodLinkNest RX5 11 yX0_init "NoonSaws"
def k_w2 : Cond := .methodLinkNest RX1 15 yX0_init "NoonSaws"
def k_w3 : Cond := .methodLinkNest RX5 34 yX2_init "NoonSaws"
def k_w4 : Cond := .methodLinkNest RX2 11 yX0_init "NoonSaws"
def k_w5 : Cond := .methodLinkNest RX5 44 yX4_init "NoonSaws"
def k_w6 : Cond := .methodLinkNest RX5 55 yX3_init "NoonSaws"
def k_K (D : va_G) (cA : Nat → ClassId) (U : State) : Prop := va_K D vwCl (k_tys cA) U ∧ va_AO RX0 U ∧ va_AO RX3 U ∧ va_Nw k_w1 U ∧ va_Nw k_w2 U ∧ va_Nw k_w3 U ∧ va_Nw k_w4 U ∧ va_Nw k_w5 U ∧ va_Nw k_w6 U
theorem k_K.calling {D : va_G} {cA : Nat → ClassId} {U : State} (h : k_K D cA U) (g : JFrame) (mk : MethodId) (a : Array Value) : k_K D cA (U.calling g mk a) := by
  obtain ⟨h0, h1, h2, h3, h4, h5, h6, h7, h8⟩ := h
  have nw : ∀ {w : Cond}, w.onTables = true → va_Nw w U → va_Nw w (U.calling g mk a) := fun hw h => va_Nw.same hw (u := U) (U := U.calling g mk a) rfl h
  exact ⟨va_K.moved (u := U) (U := U.calling g mk a) (Vm.Alike.refl U.vm) h0, va_AO.moved (u := U) (U := U.calling g mk a) (Vm.Alike.refl U.vm) h1, va_AO.moved (u := U) (U := U.calling g mk a) (Vm.Alike.refl U.vm) h2, nw rfl h3, nw rfl h4, nw rfl h5, nw rfl h6, nw rfl h7, nw rfl h8⟩
theorem k_K.go {D : va_G} {cA : Nat → ClassId} {s U : State} (h : k_K D cA s) (hW : s.WarmedH U.vm) : k_K D cA U := by
  obtain ⟨h0, h1, h2, h3, h4, h5, h6, h7, h8⟩ := h
  exact ⟨va_K.moved hW.alike h0, va_AO.moved hW.alike h1, va_AO.moved hW.alike h2, va_Nw.warmM hW h3, va_Nw.warmM hW h4, va_Nw.warmM hW h5, va_Nw.warmM hW h6, va_Nw.warmM hW h7, va_Nw.warmM hW h8⟩
def k_Q (D : va_G) (A : Nat → Prop) (P : va_W → Prop) : Array Value → State → Outcome → State → Prop := fun _ st oc t => (oc = .returned none ∧ ∃ ws' : va_W, P ws' ∧ va_P D vwCl ws' t.heap ∧ va_D A ws') ∧ va_F A st t
def k_rm (M : nv_MD) (mc ms : Nat) : Room := { frames := M.2.2.2.2.2.1, cells := mc, slots := ms, locals := M.2.2.2.2.2.2 }
abbrev k_F : Type := (Nat → ClassId) → Nat → va_W → Prop
/-- what a constructor does: it is given a new cell at the world's end, and puts its cells in that one's place -/
def k_R (M : nv_MD) (mc ms ci : Nat) (fs0 : List Value) (F : k_F) : Prop := ∀ (l : Launch) (D : va_G) (cA : Nat → ClassId) (A : Nat → Prop) (Wd : va_W) (a : Nat),
  Met l (nv_y M) (nv_W M) (k_rm M mc ms) (va_Pc [.ref a] (fun U => va_P D vwCl (Wd ++ [(a, .inr (ci, fs0))]) U.heap ∧ va_D A (Wd ++ [(a, .inr (ci, fs0))]) ∧ k_K D cA U ∧ ∀ q, U.heap.size ≤ q → A q)) (k_Q D A (fun ws' => ∃ T, F cA a T ∧ ws' = Wd ++ T)) mc ms A
def k_C (M : nv_MD) (D : va_G) (cA : Nat → ClassId) (A : Nat → Prop) (p : Program) (s : State) (m : MethodId) (args : Array Value) (meth : Method) (c : Code) : Prop :=
  p.tables.exec = Jvm.exec ∧ c.code = nv_c M ∧ meth.sig.returnType = nv_ret M ∧ c.maxLocals = nv_mL M ∧ meth.locks = false ∧ s.vm.findClass (nv_own M) = some m.cls ∧ (∀ w ∈ nv_T, w.before args s = true) ∧ k_K D cA s ∧ (∀ q, s.heap.size ≤ q → A q) ∧ meth.name = "<init>"
def k_V (M : nv_MD) (mc ms : Nat) (D : va_G) (cA : Nat → ClassId) (A : Nat → Prop) (Wd : va_W) (a : Nat) (F : k_F) (ci pc : Nat) (lv : List (Nat × Value)) (stk fs : List Value) (T : va_W) (cells slots : Nat) : Prop :=
  ∀ (p : Program) (l : Launch) (e : Env) (s : State) (m : MethodId) (args : Array Value) (below : List Frame) (meth : Method) (c : Code) (H : Heap) (locs : List Loc) (ls : Array Slot),
    k_C M D cA A p s m args meth c → va_P D vwCl (Wd ++ (a, .inr (ci, fs)) :: T) H → va_D A (Wd ++ (a, .inr (ci, fs)) :: T) → va_S A s.heap H locs → lv_has ls (nv_mL M) lv →
    W p l e (k_rm M mc ms) s m args below meth c H locs cells slots (MQ below (k_Q D A (fun ws' => ∃ T, F cA a T ∧ ws' = Wd ++ T)) args s mc ms A) (F0 m pc ls stk)
theorem k_ix {Wd T : va_W} {x : Nat × va_E} (j : Nat) : (Wd ++ x :: T)[Wd.length + 1 + j]? = T[j]? := by
  rw [List.getElem?_append_right (by omega), show Wd.length + 1 + j - Wd.length = j + 1 by omega]
  rfl
theorem k_i0 {Wd T : va_W} {x : Nat × va_E} : (Wd ++ x :: T)[Wd.length]? = some x := by
  rw [List.getElem?_append_right (by omega), Nat.sub_self]
  rfl
theorem k_s0 {Wd T : va_W} {x y : Nat × va_E} : (Wd ++ x :: T).set Wd.length y = Wd ++ y :: T := by
  rw [List.set_append_right _ _ (by omega), Nat.sub_self]
  rfl
theorem k_sx {Wd T : va_W} {x y : Nat × va_E} (j : Nat) : (Wd ++ x :: T).set (Wd.length + 1 + j) y = Wd ++ x :: T.set j y := by
  rw [List.set_append_right _ _ (by omega), show Wd.length + 1 + j - Wd.length = j + 1 by omega]
  rfl
theorem k_ap {Wd T U : va_W} {x : Nat × va_E} : (Wd ++ x :: T) ++ U = Wd ++ x :: (T ++ U) := by simp
theorem k_lay {D : String} {T : u_T} {N : Nat} (hin : ∀ w ∈ u_ws D T N, w ∈ lw_tbl) : ∀ w ∈ u_ws D T N, w ∈ nv_T := fun w hw => nv_in (hin w hw) (by
  obtain ⟨j, -, rfl⟩ := List.mem_map.mp hw
  unfold u_lay; split <;> rfl)
theorem k_raI {U : State} {c c' : ClassId} {ty : FieldType} (h : va_RA U c ty) (h' : va_RA U c' ty) : c = c' := by
  cases ty with
  | object C =>
    obtain ⟨_, _, _, _, _, h4⟩ := h
    obtain ⟨_, _, _, _, _, k4⟩ := h'
    exact Option.some.inj (h4.symm.trans k4)
  | _ => exact Option.some.inj (Eq.trans (Eq.symm h) h')
section kCall
variable {p : Program} {l : Launch} {e : Env} {R : Room} {s : State} {m : MethodId} {args : Array Value} {below : List Frame} {meth : Method} {c : Code} {H : Heap} {locs : List Loc} {cells slots : Nat} {Qw : State → Prop} {pc : Nat} {ls : Array Slot} {rest st0 : List Value} {a : Array Value} {D : va_G} {cA : Nat → ClassId} {A : Nat → Prop} {Wd : va_W}
theorem k_callW {mc ms : Nat} {P : va_W → Prop} (hr : va_Run p l e R s m args below meth c H locs cells slots mc ms (F0 m pc ls st0) rest (k_Q D A P a) A) (hS : va_S A s.heap H locs)
    (kk : ∀ (ws' : va_W) (H1 : Heap) (locs1 : List Loc), P ws' → va_P D vwCl ws' H1 → va_D A ws' → va_S A s.heap H1 locs1 → W p l e R s m args below meth c H1 locs1 (cells + mc) (slots + ms) Qw (F0 m (pc + 3) ls rest)) :
    W p l e R s m args below meth c H locs cells slots Qw (F0 m pc ls st0) := by
  intro T hT Y
  obtain ⟨v, st₀, t, T', L, h0, Y', hL, e1, e2, ⟨⟨hv, ws', hp, hP1, hD1⟩, hz, hk⟩, st⟩ := hr T hT Y
  cases hv
  rw [h0] at hz hk
  obtain ⟨t2, a1, b1⟩ := kk ws' T'.heap (locs ++ L) hp (by rw [e1]; exact hP1) hD1
    ⟨Nat.le_trans hS.1 (by rw [e1]; exact hz), fun q h1 h2 => by rw [e1, hk q (Nat.lt_of_lt_of_le h1 hS.1) h2]; exact hS.2.1 q h1 h2, fun q hq => by
      rcases List.mem_append.mp hq with h | h
      · exact hS.2.2 q h
      · exact hL q h⟩ T' rfl Y'
  exact ⟨t2, st t2 a1, b1⟩
variable {own host o' : String} {cc c' : ByteArray} {y' : MethodName} {nL idx q mc' ms' ci' mL' fr' lo' : Nat} {fs0' : List Value} {F' : k_F}
theorem k_pre : FrameBlind (va_Pc [.ref q] (fun U => va_P D vwCl (Wd ++ [(q, .inr (ci', fs0'))]) U.heap ∧ va_D A (Wd ++ [(q, .inr (ci', fs0'))]) ∧ k_K D cA U ∧ ∀ z, U.heap.size ≤ z → A z)) :=
  fun a U g mk z => by
    obtain ⟨z0, z1, z2, z3, z4⟩ := z
    exact ⟨z0, z1, z2, z3.calling g mk a, z4⟩
theorem k_callN (hR : k_R (o', y', c', mL', none, fr', lo') mc' ms' ci' fs0' F') (S : CallFix p m c cc nL s args nv_T own) (hK : k_K D cA s) (hA : ∀ q, s.heap.size ≤ q → A q) (hfn : nv_fn (o', y', c', mL', none, fr', lo') 0) (hin : Cond.instanceMethod y' ∈ lw_tbl) (hnm : y'.name = "<init>") (hl : va_Nw (.methodLinkNest own idx y' host) s) (hfit : fr' + 1 ≤ R.frames ∧ 8 + (mL' + 11) + lo' ≤ R.locals) (hf : cells + mc' ≤ R.cells ∧ slots + ms' ≤ R.slots) (hd : decode cc pc = .ok (.invokespecial idx, 3))
    (hP : va_P D vwCl (Wd ++ [(q, .inr (ci', fs0'))]) H) (hD : va_D A (Wd ++ [(q, .inr (ci', fs0'))])) (hS : va_S A s.heap H locs) (hls : ls.size = nL) (hrest : (rest.map fun v => v.category).sum ≤ 8)
    (kk : ∀ (T : va_W) (H1 : Heap) (locs1 : List Loc), F' cA q T → va_P D vwCl (Wd ++ T) H1 → va_D A (Wd ++ T) → va_S A s.heap H1 locs1 → W p l e R s m args below meth c H1 locs1 (cells + mc') (slots + ms') Qw (F0 m (pc + 3) ls rest)) :
    W p l e R s m args below meth c H locs cells slots Qw (F0 m pc ls (.ref q :: rest)) := by
  obtain ⟨s1, s2, s3, s4, ht⟩ := S
  refine k_callW (rest := rest) (va_runIN (As := []) (n := 0) ⟨s1, s2, s3, s4, ht⟩ (hR l D cA A Wd q) ⟨va_cnB 0 ht (nv_good hfn.1) rfl rfl rfl hl (ht _ (nv_in hfn.2.1 rfl)) hfn.2.2 hfit, hnm, ht _ (nv_in hin rfl)⟩
    ⟨k_pre, fun U hU hW => ⟨rfl, by rw [hU]; exact hP, hD, hK.go hW, fun z hz => hA z (Nat.le_trans hS.1 (by rw [← hU]; exact hz))⟩⟩ rfl rfl hls rfl (lv_room hrest) hd hf) hS (fun ws' H1 locs1 hw hP1 hD1 hS1 => ?_)
  obtain ⟨T, hT, rfl⟩ := hw
  exact kk T H1 locs1 hT hP1 hD1 hS1
theorem k_callI (hR : k_R (o', y', c', mL', none, fr', lo') mc' ms' ci' fs0' F') (S : CallFix p m c cc nL s args nv_T own) (hK : k_K D cA s) (hA : ∀ q, s.heap.size ≤ q → A q) (hfn : nv_fn (o', y', c', mL', none, fr', lo') 0) (hin : Cond.instanceMethod y' ∈ lw_tbl) (hnm : y'.name = "<init>") (hl : Cond.methodLink own idx y' ∈ lw_tbl) (hfit : fr' + 1 ≤ R.frames ∧ 8 + (mL' + 11) + lo' ≤ R.locals) (hf : cells + mc' ≤ R.cells ∧ slots + ms' ≤ R.slots) (hd : decode cc pc = .ok (.invokespecial idx, 3))
    (hP : va_P D vwCl (Wd ++ [(q, .inr (ci', fs0'))]) H) (hD : va_D A (Wd ++ [(q, .inr (ci', fs0'))])) (hS : va_S A s.heap H locs) (hls : ls.size = nL) (hrest : (rest.map fun v => v.category).sum ≤ 8)
    (kk : ∀ (T : va_W) (H1 : Heap) (locs1 : List Loc), F' cA q T → va_P D vwCl (Wd ++ T) H1 → va_D A (Wd ++ T) → va_S A s.heap H1 locs1 → W p l e R s m args below meth c H1 locs1 (cells + mc') (slots + ms') Qw (F0 m (pc + 3) ls rest)) :
    W p l e R s m args below meth c H locs cells slots Qw (F0 m pc ls (.ref q :: rest)) := by
  obtain ⟨s1, s2, s3, s4, ht⟩ := S
  refine k_callW (rest := rest) (va_runI (As := []) (n := 0) ⟨s1, s2, s3, s4, ht⟩ (hR l D cA A Wd q) (cwI 0 ht (nv_good hfn.1) rfl rfl rfl (ht _ (nv_in hfn.2.1 rfl)) (ht _ (nv_in hl rfl)) (ht _ (nv_in hin rfl)) hnm hfn.2.2 hfit)
    ⟨k_pre, fun U hU hW => ⟨rfl, by rw [hU]; exact hP, hD, hK.go hW, fun z hz => hA z (Nat.le_trans hS.1 (by rw [← hU]; exact hz))⟩⟩ rfl rfl hls rfl (lv_room hrest) hd hf) hS (fun ws' H1 locs1 hw hP1 hD1 hS1 => ?_)
  obtain ⟨T, hT, rfl⟩ := hw
  exact kk T H1 locs1 hT hP1 hD1 hS1
end kCall
section kIns
variable {M : nv_MD} {mc ms : Nat} {D : va_G} {cA : Nat → ClassId} {A : Nat → Prop} {Wd : va_W} {a : Nat} {F : k_F} {ci pc : Nat} {lv : List (Nat × Value)} {stk fs : List Value} {T : va_W} {cells slots : Nat}
theorem k_of {fs0 : List Value} (hpl : plainName (nv_y M).cls = true) (hnm : (nv_y M).name = "<init>") (hcl : (nv_y M).cls = nv_own M) (hlen : 1 ≤ nv_mL M) (h : ∀ D cA A Wd a, k_V M mc ms D cA A Wd a F ci 0 [(0, .ref a)] [] fs0 [] 0 0) : k_R M mc ms ci fs0 F := by
  intro l D cA A Wd a
  refine Met.ofW (cc := nv_c M) (maxL := nv_mL M) (ret := nv_ret M) hpl rfl ?_
  intro p e s m args below meth c s₁ B hml hv
  obtain ⟨rfl, hP, hD, hK, hA⟩ := hv
  have hts := atoms_spec (ws := nv_W M) B.pre
  have hown : s.vm.findClass (nv_own M) = some m.cls := by rw [← hcl]; exact findClass_of_methodNamed B.named
  have hl := lv_entry ([.ref a]) (n := nv_mL M) hlen
  rw [lg_entry_eq]
  exact h D cA A Wd a p l e s m _ below meth c s.heap [] _ ⟨B.exec, B.bytes, B.returns, hml, B.notSynchronized, hown, fun w hw => hts w (List.mem_cons_of_mem _ hw), hK, hA, (name_of_methodNamed B.named B.method).1.trans hnm⟩ hP hD va_S.rf hl
theorem k_wd {k n : Nat} (h1 : cells ≤ k) (h2 : slots ≤ n) (h : k_V M mc ms D cA A Wd a F ci pc lv stk fs T k n) : k_V M mc ms D cA A Wd a F ci pc lv stk fs T cells slots := by
  intro p l e s m args below meth c H locs ls C hP hD hS hl
  exact W.widen h1 h2 (h p l e s m args below meth c H locs ls C hP hD hS hl)
theorem k_al {k : Fin 4} {x : Nat} (j : Nat) (hd : decode (nv_c M) pc = .ok (.aload_n k, 1)) (hj : lv[j]? = some ((k : Nat), .ref x)) (h : k_V M mc ms D cA A Wd a F ci (pc + 1) lv (.ref x :: stk) fs T cells slots) : k_V M mc ms D cA A Wd a F ci pc lv stk fs T cells slots := by
  intro p l e s m args below meth c H locs ls C hP hD hS hl
  exact lv_aload_n C.1 C.2.1 hd rfl (lv_at hl j hj) (h p l e s m args below meth c H locs ls C hP hD hS hl)
theorem k_il {k : Fin 4} {x : Int32} (j : Nat) (hd : decode (nv_c M) pc = .ok (.iload_n k, 1)) (hj : lv[j]? = some ((k : Nat), .int x)) (h : k_V M mc ms D cA A Wd a F ci (pc + 1) lv (.int x :: stk) fs T cells slots) : k_V M mc ms D cA A Wd a F ci pc lv stk fs T cells slots := by
  intro p l e s m args below meth c H locs ls C hP hD hS hl
  exact lv_iload_n C.1 C.2.1 hd rfl (lv_at hl j hj) (h p l e s m args below meth c H locs ls C hP hD hS hl)
theorem k_ist {k : Fin 4} {x : Int32} {lv' : List (Nat × Value)} (hd : decode (nv_c M) pc = .ok (.istore_n k, 1)) (hn : (k : Nat) < nv_mL M) (hl' : ((k : Nat), Value.int x) :: lv.filter (fun q => !(q.1 == (k : Nat)) && !(q.1 + 1 == (k : Nat) && q.2.category == 2)) = lv') (h : k_V M mc ms D cA A Wd a F ci (pc + 1) lv' stk fs T cells slots) : k_V M mc ms D cA A Wd a F ci pc lv (.int x :: stk) fs T cells slots := by
  intro p l e s m args below meth c H locs ls C hP hD hS hl
  exact lv_istore_n C.1 C.2.1 hd rfl hl hn hl' (fun ls' hl2 => h p l e s m args below meth c H locs ls' C hP hD hS hl2)
theorem k_inc {k : Nat} {d : Int} {x v : Int32} {lv' : List (Nat × Value)} (j : Nat) (hd : decode (nv_c M) pc = .ok (.iinc k d, 3)) (hj : lv[j]? = some (k, .int x)) (hv : x + Int32.ofInt d = v) (hn : k < nv_mL M) (hl' : (k, Value.int v) :: lv.filter (fun q => !(q.1 == k) && !(q.1 + 1 == k && q.2.category == 2)) = lv') (h : k_V M mc ms D cA A Wd a F ci (pc + 3) lv' stk fs T cells slots) : k_V M mc ms D cA A Wd a F ci pc lv stk fs T cells slots := by
  intro p l e s m args below meth c H locs ls C hP hD hS hl
  exact lv_iinc C.1 C.2.1 hd hl hj hv hn hl' (fun ls' hl2 => h p l e s m args below meth c H locs ls' C hP hD hS hl2)
theorem k_go {off : Int} {tgt : Nat} (hd : decode (nv_c M) pc = .ok (.goto off, 3)) (ht : (pc : Int) + off = (tgt : Int)) (h : k_V M mc ms D cA A Wd a F ci tgt lv stk fs T cells slots) : k_V M mc ms D cA A Wd a F ci pc lv stk fs T cells slots := by
  intro p l e s m args below meth c H locs ls C hP hD hS hl
  exact lv_goto C.1 C.2.1 hd ht (h p l e s m args below meth c H locs ls C hP hD hS hl)
theorem k_ge {x y : Int32} {off : Int} {tgt : Nat} (hd : decode (nv_c M) pc = .ok (.if_icmp .ge off, 3)) (ht : (pc : Int) + off = (tgt : Int)) (h1 : y ≤ x → k_V M mc ms D cA A Wd a F ci tgt lv stk fs T cells slots) (h2 : ¬ y ≤ x → k_V M mc ms D cA A Wd a F ci (pc + 3) lv stk fs T cells slots) : k_V M mc ms D cA A Wd a F ci pc lv (.int y :: .int x :: stk) fs T cells slots := by
  intro p l e s m args below meth c H locs ls C hP hD hS hl
  exact lv_icmp_ge C.1 C.2.1 hd ht (fun q => h1 q p l e s m args below meth c H locs ls C hP hD hS hl) (fun q => h2 q p l e s m args below meth c H locs ls C hP hD hS hl)
theorem k_ic {z : Int} (hd : decode (nv_c M) pc = .ok (.iconst z, 1)) (h : k_V M mc ms D cA A Wd a F ci (pc + 1) lv (.int (Int32.ofInt z) :: stk) fs T cells slots) : k_V M mc ms D cA A Wd a F ci pc lv stk fs T cells slots := by
  intro p l e s m args below meth c H locs ls C hP hD hS hl
  exact lv_iconst C.1 C.2.1 hd rfl (h p l e s m args below meth c H locs ls C hP hD hS hl)
theorem k_bi {z : Int} (hd : decode (nv_c M) pc = .ok (.bipush z, 2)) (hz : (Int8.ofInt z).toInt32 = Int32.ofInt z) (h : k_V M mc ms D cA A Wd a F ci (pc + 2) lv (.int (Int32.ofInt z) :: stk) fs T cells slots) : k_V M mc ms D cA A Wd a F ci pc lv stk fs T cells slots := by
  intro p l e s m args below meth c H locs ls C hP hD hS hl
  exact lv_bipush C.1 C.2.1 hd hz (h p l e s m args below meth c H locs ls C hP hD hS hl)
theorem k_si {z : Int} (hd : decode (nv_c M) pc = .ok (.sipush z, 3)) (hz : (Int16.ofInt z).toInt32 = Int32.ofInt z) (h : k_V M mc ms D cA A Wd a F ci (pc + 3) lv (.int (Int32.ofInt z) :: stk) fs T cells slots) : k_V M mc ms D cA A Wd a F ci pc lv stk fs T cells slots := by
  intro p l e s m args below meth c H locs ls C hP hD hS hl
  exact lv_sipush C.1 C.2.1 hd hz (h p l e s m args below meth c H locs ls C hP hD hS hl)
theorem k_dup {x : Nat} (hd : decode (nv_c M) pc = .ok (.dup, 1)) (h : k_V M mc ms D cA A Wd a F ci (pc + 1) lv (.ref x :: .ref x :: stk) fs T cells slots) : k_V M mc ms D cA A Wd a F ci pc lv (.ref x :: stk) fs T cells slots := by
  intro p l e s m args below meth c H locs ls C hP hD hS hl
  exact lv_dup C.1 C.2.1 hd rfl (h p l e s m args below meth c H locs ls C hP hD hS hl)
theorem k_obj {idx x : Nat} (hd : decode (nv_c M) pc = .ok (.invokespecial idx, 3)) (hlk : Cond.methodLink (nv_own M) idx objectInit ∈ lw_tbl) (hi : Cond.instanceMethod objectInit ∈ lw_tbl) (hco : Cond.code objectInit ⟨#[0xb1]⟩ 1 none ∈ lw_tbl) (hfr : 1 ≤ M.2.2.2.2.2.1) (hlo : 12 ≤ M.2.2.2.2.2.2) (h : k_V M mc ms D cA A Wd a F ci (pc + 3) lv [] fs T cells slots) : k_V M mc ms D cA A Wd a F ci pc lv [.ref x] fs T cells slots := by
  intro p l e s m args below meth c H locs ls C hP hD hS hl
  have ht := C.2.2.2.2.2.2.1
  exact W.objInit C.1 C.2.1 C.2.2.2.2.2.1 (ht _ (nv_in hlk rfl)) (ht _ (nv_in hi rfl)) (ht _ (nv_in hco rfl)) rfl (by rw [C.2.2.2.1]; exact hl.1) rfl hd hfr hlo (W.eq (g2 := F0 m (pc + 3) ls []) rfl (h p l e s m args below meth c H locs ls C hP hD hS hl))
theorem k_newa {atype : ArrayType} {ty : FieldType} {t0 N' : Nat} {n : Int32} {a0 : vp_A} (hd : decode (nv_c M) pc = .ok (.newarray atype, 2)) (harr : Cond.arrayClass (newarray.typeOf atype) ∈ lw_tbl) (hty : newarray.typeOf atype = ty) (ht0 : (k_tys cA)[t0]? = some (cA t0, ty)) (ha : ∀ c : ClassId, vp_cell c a0 = arrV c N' (fun _ => defaultValue ty)) (hn : ¬ n < 0) (hN : n.toNatClampNeg = N') (hby : N' * componentBytes ty ≤ 536870912) (hc : cells + 1 ≤ mc) (hs : slots + N' ≤ ms)
    (h : ∀ q : Nat, k_V M mc ms D cA A Wd a F ci (pc + 2) lv (.ref q :: stk) fs (T ++ [(q, .inl (cA t0, a0))]) (cells + 1) (slots + N')) : k_V M mc ms D cA A Wd a F ci pc lv (.int n :: stk) fs T cells slots := by
  intro p l e s m args below meth c H locs ls C hP hD hS hl
  have hK := C.2.2.2.2.2.2.2.1.1
  refine va_newa C.1 C.2.1 (C.2.2.2.2.2.2.1 _ (nv_in harr rfl)) hty hK hP hD hS C.2.2.2.2.2.2.2.2.1 ha hn hN hby hc hs hd (fun q c9 H1 hK1 hP1 hD1 hS1 => ?_)
  have e9 : c9 = cA t0 := k_raI (hK1.2 5 (c9, ty) rfl).2 (hK.2 t0 _ ht0).2
  subst e9
  rw [k_ap] at hP1 hD1
  exact h q p l e s m args below meth c H1 locs ls C hP1 hD1 hS1 hl
theorem k_newq {C9 : String} {idx t0 N' : Nat} {n : Int32} (hd : decode (nv_c M) pc = .ok (.anewarray idx, 3)) (hcl : Cond.classLink (nv_own M) idx C9 ∈ lw_tbl) (hov : ∀ U, k_K D cA U → va_AO C9 U) (ht0 : (k_tys cA)[t0]? = some (cA t0, .object C9)) (hn : ¬ n < 0) (hN : n.toNatClampNeg = N') (hby : N' * 4 ≤ 536870912) (hc : cells + 1 ≤ mc) (hs : slots + N' ≤ ms)
    (h : ∀ q : Nat, k_V M mc ms D cA A Wd a F ci (pc + 3) lv (.ref q :: stk) fs (T ++ [(q, .inl (cA t0, N', .inr (.inr (.inr (.inr (fun _ => none))))))]) (cells + 1) (slots + N')) : k_V M mc ms D cA A Wd a F ci pc lv (.int n :: stk) fs T cells slots := by
  intro p l e s m args below meth c H locs ls C hP hD hS hl
  have hK := C.2.2.2.2.2.2.2.1.1
  refine va_newq C.1 C.2.1 C.2.2.2.2.2.1 (C.2.2.2.2.2.2.1 _ (nv_in hcl rfl)) (hov s C.2.2.2.2.2.2.2.1) hK hP hD hS C.2.2.2.2.2.2.2.2.1 hn hN hby hc hs hd (fun q c9 H1 hK1 hP1 hD1 hS1 => ?_)
  have e9 : c9 = cA t0 := k_raI (hK1.2 5 (c9, .object C9) rfl).2 (hK.2 t0 _ ht0).2
  subst e9
  rw [k_ap] at hP1 hD1
  exact h q p l e s m args below meth c H1 locs ls C hP1 hD1 hS1 hl
theorem k_new {C9 : String} {T9 : u_T} {N9 idx c9 : Nat} {fs9 : List Value} (hd : decode (nv_c M) pc = .ok (.new idx, 3)) (ty9 : Nat → FieldType) (hty : ∀ k, k < N9 → parseFieldDescriptor (T9 k).2.2.1 = some (ty9 k)) (hin : ∀ w ∈ u_ws C9 T9 N9, w ∈ lw_tbl) (hc : vwCl[c9]? = some (C9, T9, N9)) (hcl : Cond.classLink (nv_own M) idx C9 ∈ lw_tbl) (hinst : Cond.instantiable C9 N9 ∈ lw_tbl) (hini : Cond.initialized C9 ∈ lw_tbl) (hfs : ∀ j, j < N9 → defaultValue (ty9 j) = vp_V fs9 j) (hcs : cells + 1 ≤ mc) (hss : slots + N9 ≤ ms)
    (h : ∀ q : Nat, k_V M mc ms D cA A Wd a F ci (pc + 3) lv (.ref q :: stk) fs (T ++ [(q, .inr (c9, fs9))]) (cells + 1) (slots + N9)) : k_V M mc ms D cA A Wd a F ci pc lv stk fs T cells slots := by
  intro p l e s m args below meth c H locs ls C hP hD hS hl
  have ht := C.2.2.2.2.2.2.1
  refine va_new (ci := c9) (fs := fs9) (C := C9) (T := T9) (N := N9) C.1 C.2.1 ht (k_lay hin) ty9 hty C.2.2.2.2.2.1 (ht _ (nv_in hcl rfl)) (ht _ (nv_in hinst rfl)) (ht _ (nv_in hini rfl)) C.2.2.2.2.2.2.2.1.1 hP hD hS C.2.2.2.2.2.2.2.2.1 hc hfs hcs hss hd (fun q H1 hP1 hD1 hS1 => ?_)
  rw [k_ap] at hP1 hD1
  exact h q p l e s m args below meth c H1 locs ls C hP1 hD1 hS1 hl
theorem k_get {C9 : String} {T9 : u_T} {N9 idx k : Nat} {v : Value} (hd : decode (nv_c M) pc = .ok (.getfield idx, 3)) (hc : vwCl[ci]? = some (C9, T9, N9)) (hin : ∀ w ∈ u_ws C9 T9 N9, w ∈ lw_tbl) (hk : k < N9) (hw : Cond.fieldLink (nv_own M) idx (T9 k).1 (T9 k).2.1 (T9 k).2.2.1 ∈ lw_tbl) (hv : fs[k]? = some v) (h : k_V M mc ms D cA A Wd a F ci (pc + 3) lv (v :: stk) fs T cells slots) : k_V M mc ms D cA A Wd a F ci pc lv (.ref a :: stk) fs T cells slots := by
  intro p l e s m args below meth c H locs ls C hP hD hS hl
  have ht := C.2.2.2.2.2.2.1
  exact va_get (C := C9) (T := T9) (N := N9) (ci := ci) (v := v) C.1 C.2.1 ht (k_lay hin) C.2.2.2.2.2.1 C.2.2.2.2.2.2.2.1.1 hP Wd.length k_i0 hc k hk (ht _ (nv_in hw rfl)) (fun _ h9 => h9) hv hd (h p l e s m args below meth c H locs ls C hP hD hS hl)
theorem k_put {C9 : String} {T9 : u_T} {N9 idx k : Nat} {v : Value} (hd : decode (nv_c M) pc = .ok (.putfield idx, 3)) (ty9 : Nat → FieldType) (hty : ∀ k, k < N9 → parseFieldDescriptor (T9 k).2.2.1 = some (ty9 k)) (hnm : ∀ a, a < N9 → ∀ b, b < N9 → a ≠ b → (T9 a).2.1 ≠ (T9 b).2.1) (hc : vwCl[ci]? = some (C9, T9, N9)) (hin : ∀ w ∈ u_ws C9 T9 N9, w ∈ lw_tbl) (hk : k < N9) (hw : Cond.fieldLink (nv_own M) idx (T9 k).1 (T9 k).2.1 (T9 k).2.2.1 ∈ lw_tbl) (hfin : (T9 k).2.2.2 = false) (hn : narrow (ty9 k) v = v) (hft : fits (ty9 k) v = true) (hl9 : k < fs.length)
    (h : k_V M mc ms D cA A Wd a F ci (pc + 3) lv stk (fs.set k v) T cells slots) : k_V M mc ms D cA A Wd a F ci pc lv (v :: .ref a :: stk) fs T cells slots := by
  intro p l e s m args below meth c H locs ls C hP hD hS hl
  have ht := C.2.2.2.2.2.2.1
  refine va_put (C := C9) (T := T9) (N := N9) (ci := ci) (v := v) (ty := ty9 k) C.1 C.2.1 ht (k_lay hin) ty9 hty hnm C.2.2.2.2.2.1 C.2.2.2.2.2.2.2.1.1 hP hD hS Wd.length k_i0 hc k hk (ht _ (nv_in hw rfl)) (fun _ h9 => h9) hfin (hty k hk) hn hft hl9 hd (fun H1 locs1 hP1 hD1 hS1 => ?_)
  rw [k_s0] at hP1 hD1
  exact h p l e s m args below meth c H1 locs1 ls C hP1 hD1 hS1 hl
theorem k_putF {C9 : String} {T9 : u_T} {N9 idx k : Nat} {v : Value} (hd : decode (nv_c M) pc = .ok (.putfield idx, 3)) (ty9 : Nat → FieldType) (hty : ∀ k, k < N9 → parseFieldDescriptor (T9 k).2.2.1 = some (ty9 k)) (hnm : ∀ a, a < N9 → ∀ b, b < N9 → a ≠ b → (T9 a).2.1 ≠ (T9 b).2.1) (hc : vwCl[ci]? = some (C9, T9, N9)) (hin : ∀ w ∈ u_ws C9 T9 N9, w ∈ lw_tbl) (hk : k < N9) (hw : Cond.fieldLink (nv_own M) idx (T9 k).1 (T9 k).2.1 (T9 k).2.2.1 ∈ lw_tbl) (hfin : (T9 k).2.2.2 = true) (hdc : (T9 k).1 = nv_own M) (hn : narrow (ty9 k) v = v) (hft : fits (ty9 k) v = true) (hl9 : k < fs.length)
    (h : k_V M mc ms D cA A Wd a F ci (pc + 3) lv stk (fs.set k v) T cells slots) : k_V M mc ms D cA A Wd a F ci pc lv (v :: .ref a :: stk) fs T cells slots := by
  intro p l e s m args below meth c H locs ls C hP hD hS hl
  have ht := C.2.2.2.2.2.2.1
  refine va_putF (C := C9) (T := T9) (N := N9) (ci := ci) (v := v) (ty := ty9 k) C.1 C.2.1 ht (k_lay hin) ty9 hty hnm C.2.2.2.2.2.1 C.2.2.2.2.2.2.2.1.1 hP hD hS Wd.length k_i0 hc k hk (ht _ (nv_in hw rfl)) (fun _ h9 => h9) hfin C.2.2.2.2.2.2.2.2.2 hdc (hty k hk) hn hft hl9 hd (fun H1 locs1 hP1 hD1 hS1 => ?_)
  rw [k_s0] at hP1 hD1
  exact h p l e s m args below meth c H1 locs1 ls C hP1 hD1 hS1 hl
theorem k_aast {r : vw_C} {t0 n q v c9 : Nat} {vs : List Value} {f : Nat → Option Nat} {i : Int32} (j0 jk : Nat) (hd : decode (nv_c M) pc = .ok (.aastore, 1)) (ha : T[j0]? = some (q, .inl (cA t0, n, .inr (.inr (.inr (.inr f)))))) (ht0 : (k_tys cA)[t0]? = some (cA t0, .object r.1)) (hv : T[jk]? = some (v, .inr (c9, vs))) (hc : vwCl[c9]? = some r) (hin : vp_in i n)
    (h : k_V M mc ms D cA A Wd a F ci (pc + 1) lv stk fs (T.set j0 (q, .inl (cA t0, n, .inr (.inr (.inr (.inr (va_up f i.toNatClampNeg (some v)))))))) cells slots) : k_V M mc ms D cA A Wd a F ci pc lv (.ref v :: .int i :: .ref q :: stk) fs T cells slots := by
  intro p l e s m args below meth c H locs ls C hP hD hS hl
  refine va_astq C.1 C.2.1 C.2.2.2.2.2.2.2.1.1 hP hD hS (Wd.length + 1 + j0) t0 (Wd.length + 1 + jk) c9 (by rw [k_ix]; exact ha) ht0 (by rw [k_ix]; exact hv) hc hin hd (fun H1 locs1 hP1 hD1 hS1 => ?_)
  rw [k_sx] at hP1 hD1
  exact h p l e s m args below meth c H1 locs1 ls C hP1 hD1 hS1 hl
theorem k_iast {n q : Nat} {f : Nat → Int32} {i x : Int32} (j0 : Nat) (hd : decode (nv_c M) pc = .ok (.iastore, 1)) (ha : T[j0]? = some (q, .inl (cA 0, n, .inl f))) (hin : vp_in i n)
    (h : k_V M mc ms D cA A Wd a F ci (pc + 1) lv stk fs (T.set j0 (q, .inl (cA 0, n, .inl (upd f i.toNatClampNeg x)))) cells slots) : k_V M mc ms D cA A Wd a F ci pc lv (.int x :: .int i :: .ref q :: stk) fs T cells slots := by
  intro p l e s m args below meth c H locs ls C hP hD hS hl
  refine va_iast C.1 C.2.1 C.2.2.2.2.2.2.2.1.1 hP hD hS (Wd.length + 1 + j0) 0 (by rw [k_ix]; exact ha) rfl hin hd (fun H1 locs1 hP1 hD1 hS1 => ?_)
  rw [k_sx] at hP1 hD1
  exact h p l e s m args below meth c H1 locs1 ls C hP1 hD1 hS1 hl
theorem k_ret (hd : decode (nv_c M) pc = .ok (.return_, 1)) (hr : nv_ret M = none) (hc : cells ≤ mc) (hs : slots ≤ ms) (hF : F cA a ((a, .inr (ci, fs)) :: T)) : k_V M mc ms D cA A Wd a F ci pc lv [] fs T cells slots := by
  intro p l e s m args below meth c H locs ls C hP hD hS hl
  refine W.widen hc hs ?_
  exact W.vret C.1 C.2.1 (C.2.2.1.trans hr) (fun t ht hW => ⟨⟨rfl, _, ⟨_, hF, rfl⟩, by rw [ht]; exact hP, hD⟩, hS.F ht⟩) hS.2.2 hd C.2.2.2.2.1
variable {host o' : String} {c' : ByteArray} {y' : MethodName} {idx q mc' ms' ci' mL' fr' lo' : Nat} {fs0' : List Value} {F' : k_F}
theorem k_cN (hd : decode (nv_c M) pc = .ok (.invokespecial idx, 3)) (hR : k_R (o', y', c', mL', none, fr', lo') mc' ms' ci' fs0' F') (hfn : nv_fn (o', y', c', mL', none, fr', lo') 0) (hin : Cond.instanceMethod y' ∈ lw_tbl) (hnm : y'.name = "<init>") (hl : ∀ U, k_K D cA U → va_Nw (.methodLinkNest (nv_own M) idx y' host) U) (hfit : fr' + 1 ≤ M.2.2.2.2.2.1 ∧ 8 + (mL' + 11) + lo' ≤ M.2.2.2.2.2.2) (hf : cells + mc' ≤ mc ∧ slots + ms' ≤ ms) (hrest : (stk.map fun v => v.category).sum ≤ 8)
    (h : ∀ T', F' cA q T' → k_V M mc ms D cA A Wd a F ci (pc + 3) lv stk fs (T ++ T') (cells + mc') (slots + ms')) : k_V M mc ms D cA A Wd a F ci pc lv (.ref q :: stk) fs (T ++ [(q, .inr (ci', fs0'))]) cells slots := by
  intro p l e s m args below meth c H locs ls C hP hD hS hl'
  rw [← k_ap] at hP hD
  refine k_callN hR ⟨C.1, C.2.1, C.2.2.2.1, C.2.2.2.2.2.1, C.2.2.2.2.2.2.1⟩ C.2.2.2.2.2.2.2.1 C.2.2.2.2.2.2.2.2.1 hfn hin hnm (hl s C.2.2.2.2.2.2.2.1) hfit hf hd hP hD hS hl'.1 hrest (fun T' H1 locs1 hT hP1 hD1 hS1 => ?_)
  rw [k_ap] at hP1 hD1
  exact h T' hT p l e s m args below meth c H1 locs1 ls C hP1 hD1 hS1 hl'
theorem k_cI (hd : decode (nv_c M) pc = .ok (.invokespecial idx, 3)) (hR : k_R (o', y', c', mL', none, fr', lo') mc' ms' ci' fs0' F') (hfn : nv_fn (o', y', c', mL', none, fr', lo') 0) (hin : Cond.instanceMethod y' ∈ lw_tbl) (hnm : y'.name = "<init>") (hl : Cond.methodLink (nv_own M) idx y' ∈ lw_tbl) (hfit : fr' + 1 ≤ M.2.2.2.2.2.1 ∧ 8 + (mL' + 11) + lo' ≤ M.2.2.2.2.2.2) (hf : cells + mc' ≤ mc ∧ slots + ms' ≤ ms) (hrest : (stk.map fun v => v.category).sum ≤ 8)
    (h : ∀ T', F' cA q T' → k_V M mc ms D cA A Wd a F ci (pc + 3) lv stk fs (T ++ T') (cells + mc') (slots + ms')) : k_V M mc ms D cA A Wd a F ci pc lv (.ref q :: stk) fs (T ++ [(q, .inr (ci', fs0'))]) cells slots := by
  intro p l e s m args below meth c H locs ls C hP hD hS hl'
  rw [← k_ap] at hP hD
  refine k_callI hR ⟨C.1, C.2.1, C.2.2.2.1, C.2.2.2.2.2.1, C.2.2.2.2.2.2.1⟩ C.2.2.2.2.2.2.2.1 C.2.2.2.2.2.2.2.2.1 hfn hin hnm hl hfit hf hd hP hD hS hl'.1 hrest (fun T' H1 locs1 hT hP1 hD1 hS1 => ?_)
  rw [k_ap] at hP1 hD1
  exact h T' hT p l e s m args below meth c H1 locs1 ls C hP1 hD1 hS1 hl'
end kIns
