/-! ===== more instructions: branches, shifts, longs, cells, calls, ends ===== -/
section nvIns2
variable {M : nv_MD} {pc : Nat}
abbrev c_eq (a b : Int) : Prop := a = b
abbrev c_lt (a b : Int) : Prop := a < b
abbrev c_ge (a b : Int) : Prop := b ≤ a
abbrev c_gt (a b : Int) : Prop := b < a
abbrev c_le (a b : Int) : Prop := a ≤ b
def s_if (cm : Int → Int → Prop) (tg nx : Nat) : nv_Sem := fun lv stk h _ K => match stk with
  | .inl a :: r => nv_InR a ∧ (cm a 0 → K tg lv r h) ∧ (¬ cm a 0 → K nx lv r h)
  | _ => False
def s_ic (cm : Int → Int → Prop) (tg nx : Nat) : nv_Sem := fun lv stk h _ K => match stk with
  | .inl b :: .inl a :: r => nv_InR a ∧ nv_InR b ∧ (cm a b → K tg lv r h) ∧ (¬ cm a b → K nx lv r h)
  | _ => False
theorem n_if_eq {off : Int} {tgt : Nat} (hd : decode (nv_c M) pc = .ok (.ifCond .eq off, 3)) (ht : (pc : Int) + off = (tgt : Int)) : nv_Snd M pc (s_if c_eq tgt (pc + 3)) := by
  intro lv stk h Q K hK hf X p l e s m args below meth c H locs ls C hP hD hS hl ho hk
  unfold s_if at hf
  split at hf
  · next a r =>
    obtain ⟨ha, hT, hF⟩ := hf
    have hr := (List.forall_mem_cons.mp hk).2
    exact lv_if_eq C.1 C.2.1 hd ht (fun h0 => hK _ _ _ _ (hT ((nv_eqR ha nv_0R).mp h0)) X p l e s m args below meth c H locs ls C hP hD hS hl ho hr) (fun h0 => hK _ _ _ _ (hF (fun h1 => h0 ((nv_eqR ha nv_0R).mpr h1))) X p l e s m args below meth c H locs ls C hP hD hS hl ho hr)
  · exact hf.elim
theorem n_icmp_eq {off : Int} {tgt : Nat} (hd : decode (nv_c M) pc = .ok (.if_icmp .eq off, 3)) (ht : (pc : Int) + off = (tgt : Int)) : nv_Snd M pc (s_ic c_eq tgt (pc + 3)) := by
  intro lv stk h Q K hK hf X p l e s m args below meth c H locs ls C hP hD hS hl ho hk
  unfold s_ic at hf
  split at hf
  · next b a r =>
    obtain ⟨ha, hb, hT, hF⟩ := hf
    have hr := (List.forall_mem_cons.mp (List.forall_mem_cons.mp hk).2).2
    exact lv_icmp_eq C.1 C.2.1 hd ht (fun h0 => hK _ _ _ _ (hT ((nv_eqR ha hb).mp h0)) X p l e s m args below meth c H locs ls C hP hD hS hl ho hr) (fun h0 => hK _ _ _ _ (hF (fun h1 => h0 ((nv_eqR ha hb).mpr h1))) X p l e s m args below meth c H locs ls C hP hD hS hl ho hr)
  · exact hf.elim
theorem n_if_ne {off : Int} {tgt : Nat} (hd : decode (nv_c M) pc = .ok (.ifCond .ne off, 3)) (ht : (pc : Int) + off = (tgt : Int)) : nv_Snd M pc (s_if c_eq (pc + 3) tgt) := by
  intro lv stk h Q K hK hf X p l e s m args below meth c H locs ls C hP hD hS hl ho hk
  unfold s_if at hf
  split at hf
  · next a r =>
    obtain ⟨ha, hT, hF⟩ := hf
    have hr := (List.forall_mem_cons.mp hk).2
    exact lv_if_ne C.1 C.2.1 hd ht (fun h0 => hK _ _ _ _ (hF (fun h1 => h0 ((nv_eqR ha nv_0R).mpr h1))) X p l e s m args below meth c H locs ls C hP hD hS hl ho hr) (fun h0 => hK _ _ _ _ (hT ((nv_eqR ha nv_0R).mp h0)) X p l e s m args below meth c H locs ls C hP hD hS hl ho hr)
  · exact hf.elim
theorem n_icmp_ne {off : Int} {tgt : Nat} (hd : decode (nv_c M) pc = .ok (.if_icmp .ne off, 3)) (ht : (pc : Int) + off = (tgt : Int)) : nv_Snd M pc (s_ic c_eq (pc + 3) tgt) := by
  intro lv stk h Q K hK hf X p l e s m args below meth c H locs ls C hP hD hS hl ho hk
  unfold s_ic at hf
  split at hf
  · next b a r =>
    obtain ⟨ha, hb, hT, hF⟩ := hf
    have hr := (List.forall_mem_cons.mp (List.forall_mem_cons.mp hk).2).2
    exact lv_icmp_ne C.1 C.2.1 hd ht (fun h0 => hK _ _ _ _ (hF (fun h1 => h0 ((nv_eqR ha hb).mpr h1))) X p l e s m args below meth c H locs ls C hP hD hS hl ho hr) (fun h0 => hK _ _ _ _ (hT ((nv_eqR ha hb).mp h0)) X p l e s m args below meth c H locs ls C hP hD hS hl ho hr)
  · exact hf.elim
theorem n_if_lt {off : Int} {tgt : Nat} (hd : decode (nv_c M) pc = .ok (.ifCond .lt off, 3)) (ht : (pc : Int) + off = (tgt : Int)) : nv_Snd M pc (s_if c_lt tgt (pc + 3)) := by
  intro lv stk h Q K hK hf X p l e s m args below meth c H locs ls C hP hD hS hl ho hk
  unfold s_if at hf
  split at hf
  · next a r =>
    obtain ⟨ha, hT, hF⟩ := hf
    have hr := (List.forall_mem_cons.mp hk).2
    exact lv_if_lt C.1 C.2.1 hd ht (fun h0 => hK _ _ _ _ (hT ((nv_ltR ha nv_0R).mp h0)) X p l e s m args below meth c H locs ls C hP hD hS hl ho hr) (fun h0 => hK _ _ _ _ (hF (fun h1 => h0 ((nv_ltR ha nv_0R).mpr h1))) X p l e s m args below meth c H locs ls C hP hD hS hl ho hr)
  · exact hf.elim
theorem n_icmp_lt {off : Int} {tgt : Nat} (hd : decode (nv_c M) pc = .ok (.if_icmp .lt off, 3)) (ht : (pc : Int) + off = (tgt : Int)) : nv_Snd M pc (s_ic c_lt tgt (pc + 3)) := by
  intro lv stk h Q K hK hf X p l e s m args below meth c H locs ls C hP hD hS hl ho hk
  unfold s_ic at hf
  split at hf
  · next b a r =>
    obtain ⟨ha, hb, hT, hF⟩ := hf
    have hr := (List.forall_mem_cons.mp (List.forall_mem_cons.mp hk).2).2
    exact lv_icmp_lt C.1 C.2.1 hd ht (fun h0 => hK _ _ _ _ (hT ((nv_ltR ha hb).mp h0)) X p l e s m args below meth c H locs ls C hP hD hS hl ho hr) (fun h0 => hK _ _ _ _ (hF (fun h1 => h0 ((nv_ltR ha hb).mpr h1))) X p l e s m args below meth c H locs ls C hP hD hS hl ho hr)
  · exact hf.elim
theorem n_if_ge {off : Int} {tgt : Nat} (hd : decode (nv_c M) pc = .ok (.ifCond .ge off, 3)) (ht : (pc : Int) + off = (tgt : Int)) : nv_Snd M pc (s_if c_ge tgt (pc + 3)) := by
  intro lv stk h Q K hK hf X p l e s m args below meth c H locs ls C hP hD hS hl ho hk
  unfold s_if at hf
  split at hf
  · next a r =>
    obtain ⟨ha, hT, hF⟩ := hf
    have hr := (List.forall_mem_cons.mp hk).2
    exact lv_if_ge C.1 C.2.1 hd ht (fun h0 => hK _ _ _ _ (hT ((nv_leR nv_0R ha).mp h0)) X p l e s m args below meth c H locs ls C hP hD hS hl ho hr) (fun h0 => hK _ _ _ _ (hF (fun h1 => h0 ((nv_leR nv_0R ha).mpr h1))) X p l e s m args below meth c H locs ls C hP hD hS hl ho hr)
  · exact hf.elim
theorem n_icmp_ge {off : Int} {tgt : Nat} (hd : decode (nv_c M) pc = .ok (.if_icmp .ge off, 3)) (ht : (pc : Int) + off = (tgt : Int)) : nv_Snd M pc (s_ic c_ge tgt (pc + 3)) := by
  intro lv stk h Q K hK hf X p l e s m args below meth c H locs ls C hP hD hS hl ho hk
  unfold s_ic at hf
  split at hf
  · next b a r =>
    obtain ⟨ha, hb, hT, hF⟩ := hf
    have hr := (List.forall_mem_cons.mp (List.forall_mem_cons.mp hk).2).2
    exact lv_icmp_ge C.1 C.2.1 hd ht (fun h0 => hK _ _ _ _ (hT ((nv_leR hb ha).mp h0)) X p l e s m args below meth c H locs ls C hP hD hS hl ho hr) (fun h0 => hK _ _ _ _ (hF (fun h1 => h0 ((nv_leR hb ha).mpr h1))) X p l e s m args below meth c H locs ls C hP hD hS hl ho hr)
  · exact hf.elim
theorem n_if_gt {off : Int} {tgt : Nat} (hd : decode (nv_c M) pc = .ok (.ifCond .gt off, 3)) (ht : (pc : Int) + off = (tgt : Int)) : nv_Snd M pc (s_if c_gt tgt (pc + 3)) := by
  intro lv stk h Q K hK hf X p l e s m args below meth c H locs ls C hP hD hS hl ho hk
  unfold s_if at hf
  split at hf
  · next a r =>
    obtain ⟨ha, hT, hF⟩ := hf
    have hr := (List.forall_mem_cons.mp hk).2
    exact lv_if_gt C.1 C.2.1 hd ht (fun h0 => hK _ _ _ _ (hT ((nv_ltR nv_0R ha).mp h0)) X p l e s m args below meth c H locs ls C hP hD hS hl ho hr) (fun h0 => hK _ _ _ _ (hF (fun h1 => h0 ((nv_ltR nv_0R ha).mpr h1))) X p l e s m args below meth c H locs ls C hP hD hS hl ho hr)
  · exact hf.elim
theorem n_icmp_gt {off : Int} {tgt : Nat} (hd : decode (nv_c M) pc = .ok (.if_icmp .gt off, 3)) (ht : (pc : Int) + off = (tgt : Int)) : nv_Snd M pc (s_ic c_gt tgt (pc + 3)) := by
  intro lv stk h Q K hK hf X p l e s m args below meth c H locs ls C hP hD hS hl ho hk
  unfold s_ic at hf
  split at hf
  · next b a r =>
    obtain ⟨ha, hb, hT, hF⟩ := hf
    have hr := (List.forall_mem_cons.mp (List.forall_mem_cons.mp hk).2).2
    exact lv_icmp_gt C.1 C.2.1 hd ht (fun h0 => hK _ _ _ _ (hT ((nv_ltR hb ha).mp h0)) X p l e s m args below meth c H locs ls C hP hD hS hl ho hr) (fun h0 => hK _ _ _ _ (hF (fun h1 => h0 ((nv_ltR hb ha).mpr h1))) X p l e s m args below meth c H locs ls C hP hD hS hl ho hr)
  · exact hf.elim
theorem n_if_le {off : Int} {tgt : Nat} (hd : decode (nv_c M) pc = .ok (.ifCond .le off, 3)) (ht : (pc : Int) + off = (tgt : Int)) : nv_Snd M pc (s_if c_le tgt (pc + 3)) := by
  intro lv stk h Q K hK hf X p l e s m args below meth c H locs ls C hP hD hS hl ho hk
  unfold s_if at hf
  split at hf
  · next a r =>
    obtain ⟨ha, hT, hF⟩ := hf
    have hr := (List.forall_mem_cons.mp hk).2
    exact lv_if_le C.1 C.2.1 hd ht (fun h0 => hK _ _ _ _ (hT ((nv_leR ha nv_0R).mp h0)) X p l e s m args below meth c H locs ls C hP hD hS hl ho hr) (fun h0 => hK _ _ _ _ (hF (fun h1 => h0 ((nv_leR ha nv_0R).mpr h1))) X p l e s m args below meth c H locs ls C hP hD hS hl ho hr)
  · exact hf.elim
theorem n_icmp_le {off : Int} {tgt : Nat} (hd : decode (nv_c M) pc = .ok (.if_icmp .le off, 3)) (ht : (pc : Int) + off = (tgt : Int)) : nv_Snd M pc (s_ic c_le tgt (pc + 3)) := by
  intro lv stk h Q K hK hf X p l e s m args below meth c H locs ls C hP hD hS hl ho hk
  unfold s_ic at hf
  split at hf
  · next b a r =>
    obtain ⟨ha, hb, hT, hF⟩ := hf
    have hr := (List.forall_mem_cons.mp (List.forall_mem_cons.mp hk).2).2
    exact lv_icmp_le C.1 C.2.1 hd ht (fun h0 => hK _ _ _ _ (hT ((nv_leR ha hb).mp h0)) X p l e s m args below meth c H locs ls C hP hD hS hl ho hr) (fun h0 => hK _ _ _ _ (hF (fun h1 => h0 ((nv_leR ha hb).mpr h1))) X p l e s m args below meth c H locs ls C hP hD hS hl ho hr)
  · exact hf.elim
def s_go (tg : Nat) : nv_Sem := fun lv stk h _ K => K tg lv stk h
theorem n_goto {off : Int} {tgt : Nat} (hd : decode (nv_c M) pc = .ok (.goto off, 3)) (ht : (pc : Int) + off = (tgt : Int)) : nv_Snd M pc (s_go tgt) := by
  intro lv stk h Q K hK hf X p l e s m args below meth c H locs ls C hP hD hS hl ho hk
  exact lv_goto C.1 C.2.1 hd ht (hK _ _ _ _ hf X p l e s m args below meth c H locs ls C hP hD hS hl ho hk)
def nv_sw (x : Int) (K : Nat → Prop) : Int → List Nat → Prop
  | _, [] => True
  | lo, t :: r => (x = lo → K t) ∧ nv_sw x K (lo + 1) r
def s_sw (lo : Int) (df : Nat) (ts : List Nat) : nv_Sem := fun lv stk h _ K => match stk with
  | .inl x :: r => nv_InR x ∧ ((x < lo ∨ lo + ts.length ≤ x) → K df lv r h) ∧ nv_sw x (fun t => K t lv r h) lo ts
  | _ => False
theorem nv_sw_at {x : Int} {K : Nat → Prop} : ∀ {ts : List Nat} {lo : Int} {j : Nat} {t : Nat}, nv_sw x K lo ts → x = lo + j → ts[j]? = some t → K t
  | [], _, _, _, _, _, h => by simp at h
  | t0 :: r, lo, 0, t, hs, hx, h => by
    simp at h
    subst h
    exact hs.1 (by simpa using hx)
  | t0 :: r, lo, j + 1, t, hs, hx, h => nv_sw_at (lo := lo + 1) (j := j) hs.2 (by omega) (by simpa using h)
theorem n_tableswitch {dflt lo hi : Int} {offs : Array Int} {len df : Nat} {ts : List Nat} (hd : decode (nv_c M) pc = .ok (.tableswitch dflt lo hi offs, len)) (hdf : (pc : Int) + dflt = (df : Int)) (hts : offs.toList.map (fun o => (pc : Int) + o) = ts.map (fun t : Nat => (t : Int))) (hhi : lo + ts.length = hi + 1) : nv_Snd M pc (s_sw lo df ts) := by
  intro lv stk h Q K hK hf X p l e s m args below meth c H locs ls C hP hD hS hl ho hk
  unfold s_sw at hf
  split at hf
  · next x r =>
    obtain ⟨hx, hD1, hI⟩ := hf
    have hr := (List.forall_mem_cons.mp hk).2
    by_cases h1 : x < lo ∨ hi < x
    · exact lv_tableOut C.1 C.2.1 hd (by rw [nv_toInt hx]; exact h1) hdf (hK _ _ _ _ (hD1 (by omega)) X p l e s m args below meth c H locs ls C hP hD hS hl ho hr)
    · have hlen : offs.toList.length = ts.length := by simpa using congrArg List.length hts
      have hj : (x - lo).toNat < ts.length := by omega
      have hjo : (x - lo).toNat < offs.toList.length := by omega
      have e1 : ts[(x - lo).toNat]? = some ts[(x - lo).toNat] := List.getElem?_eq_getElem hj
      have e2 : offs[(x - lo).toNat]? = some (offs.toList[(x - lo).toNat]) := by
        rw [← Array.getElem?_toList]; exact List.getElem?_eq_getElem hjo
      have e3 : (pc : Int) + offs.toList[(x - lo).toNat] = (ts[(x - lo).toNat] : Int) := by
        have h3 := congrArg (fun z : List Int => z[(x - lo).toNat]?) hts
        simp only [List.getElem?_map, List.getElem?_eq_getElem hj, List.getElem?_eq_getElem hjo, Option.map_some, Option.some.injEq] at h3
        exact h3
      exact lv_tableIn C.1 C.2.1 hd (by rw [nv_toInt hx]; omega) (by rw [nv_toInt hx]; omega) (by rw [nv_toInt hx]; exact e2) e3 (hK _ _ _ _ (nv_sw_at hI (j := (x - lo).toNat) (by omega) e1) X p l e s m args below meth c H locs ls C hP hD hS hl ho hr)
  · exact hf.elim
/-! shifts and conversions -/
theorem nv_s31 : ∀ n : Nat, n < 32 → ((Int32.ofInt (n : Int) &&& 31).toBitVec.smod 32).toNat = n := by decide +kernel
theorem nv_u31 : ∀ n : Nat, n < 32 → (((Int32.ofInt (n : Int)).toUInt32 &&& Int32.toUInt32 31).toBitVec % 32).toNat = n := by decide +kernel
theorem nv_shl (a : Int) {n : Nat} (hn : n < 32) : Int32.ofInt a <<< (Int32.ofInt (n : Int) &&& 31) = Int32.ofInt (a * 2 ^ n) := by
  apply Int32.toBitVec.inj
  rw [Int32.toBitVec_ofInt]
  apply BitVec.eq_of_toNat_eq
  rw [pk_shl _ _ n (nv_s31 n hn), Int32.toBitVec_ofInt, BitVec.toNat_ofInt, BitVec.toNat_ofInt]
  generalize hm : (2 : Nat) ^ 32 = w
  have h1 : (w : Int) ≠ 0 := by rw [← hm]; decide
  have h2 : (0 : Int) ≤ a % (w : Int) := Int.emod_nonneg _ h1
  have h3 : (0 : Int) ≤ a * 2 ^ n % (w : Int) := Int.emod_nonneg _ h1
  apply Int.ofNat_inj.mp
  rw [Int.toNat_of_nonneg h3, Int.natCast_emod, Int.natCast_mul, Int.toNat_of_nonneg h2, Int.natCast_pow, Int.mul_emod, Int.emod_emod, ← Int.mul_emod]
  rfl
def s_sl (nx : Nat) : nv_Sem := fun lv stk h _ K => match stk with
  | .inl b :: .inl a :: r => ∃ n : Nat, b = (n : Int) ∧ n < 32 ∧ K nx lv (.inl (a * 2 ^ n) :: r) h
  | _ => False
theorem n_ishl (hd : decode (nv_c M) pc = .ok (.ishl, 1)) : nv_Snd M pc (s_sl (pc + 1)) := by
  intro lv stk h Q K hK hf X p l e s m args below meth c H locs ls C hP hD hS hl ho hk
  unfold s_sl at hf
  split at hf
  · next b a r =>
    obtain ⟨n, rfl, hn, hf⟩ := hf
    refine lv_ishl C.1 C.2.1 hd ?_
    rw [nv_shl a hn]
    exact hK _ _ _ _ hf X p l e s m args below meth c H locs ls C hP hD hS hl ho (List.forall_mem_cons.mpr ⟨trivial, (List.forall_mem_cons.mp (List.forall_mem_cons.mp hk).2).2⟩)
  · exact hf.elim
def s_sr (nx : Nat) : nv_Sem := fun lv stk h _ K => match stk with
  | .inl b :: .inl a :: r => nv_InR a ∧ ∃ n : Nat, b = (n : Int) ∧ n < 32 ∧ K nx lv (.inl (a / 2 ^ n) :: r) h
  | _ => False
theorem nv_shr {a : Int} (ha : nv_InR a) {n : Nat} (hn : n < 32) : Int32.ofInt a >>> (Int32.ofInt (n : Int) &&& 31) = Int32.ofInt (a / 2 ^ n) := by
  have h1 := pk_shr (Int32.ofInt a) (Int32.ofInt (n : Int) &&& 31) n (nv_s31 n hn)
  rw [nv_toInt ha, Int.shiftRight_eq_div_pow] at h1
  rw [← Int32.ofInt_toInt (Int32.ofInt a >>> (Int32.ofInt (n : Int) &&& 31)), h1]
  push_cast
  rfl
theorem n_ishr (hd : decode (nv_c M) pc = .ok (.ishr, 1)) : nv_Snd M pc (s_sr (pc + 1)) := by
  intro lv stk h Q K hK hf X p l e s m args below meth c H locs ls C hP hD hS hl ho hk
  unfold s_sr at hf
  split at hf
  · next b a r =>
    obtain ⟨ha, n, rfl, hn, hf⟩ := hf
    refine lv_ishr C.1 C.2.1 hd ?_
    rw [nv_shr ha hn]
    exact hK _ _ _ _ hf X p l e s m args below meth c H locs ls C hP hD hS hl ho (List.forall_mem_cons.mpr ⟨trivial, (List.forall_mem_cons.mp (List.forall_mem_cons.mp hk).2).2⟩)
  · exact hf.elim
def s_su (nx : Nat) : nv_Sem := fun lv stk h _ K => match stk with
  | .inl b :: .inl a :: r => (0 ≤ a ∧ a < 2147483648) ∧ ∃ n : Nat, b = (n : Int) ∧ n < 32 ∧ K nx lv (.inl (a / 2 ^ n) :: r) h
  | _ => False
theorem n_iushr (hd : decode (nv_c M) pc = .ok (.iushr, 1)) : nv_Snd M pc (s_su (pc + 1)) := by
  intro lv stk h Q K hK hf X p l e s m args below meth c H locs ls C hP hD hS hl ho hk
  unfold s_su at hf
  split at hf
  · next b a r =>
    obtain ⟨ha, n, rfl, hn, hf⟩ := hf
    obtain ⟨x, rfl, hx⟩ := nv_nat ha
    have e1 : ((Int32.ofInt (x : Int)).toUInt32 >>> ((Int32.ofInt (n : Int)).toUInt32 &&& Int32.toUInt32 31)).toInt32 = Int32.ofInt ((x : Int) / 2 ^ n) := by
      rw [nv_ofNat x, pk_ushrN (by omega) _ n (nv_u31 n hn), ← nv_ofNat]
      push_cast
      rfl
    exact lv_iushr C.1 C.2.1 hd e1 (hK _ _ _ _ hf X p l e s m args below meth c H locs ls C hP hD hS hl ho (List.forall_mem_cons.mpr ⟨trivial, (List.forall_mem_cons.mp (List.forall_mem_cons.mp hk).2).2⟩))
  · exact hf.elim
def s_i2l (nx : Nat) : nv_Sem := fun lv stk h _ K => match stk with
  | .inl a :: r => ∃ z : Int, (Int32.ofInt a).toInt = z ∧ K nx lv (.inr (.inr z) :: r) h
  | _ => False
theorem n_i2l (hd : decode (nv_c M) pc = .ok (.i2l, 1)) : nv_Snd M pc (s_i2l (pc + 1)) := by
  intro lv stk h Q K hK hf X p l e s m args below meth c H locs ls C hP hD hS hl ho hk
  unfold s_i2l at hf
  split at hf
  · next a r =>
    obtain ⟨z, ha, hf⟩ := hf
    have e1 : (Int32.ofInt a).toInt64 = Int64.ofInt z := by
      rw [← Int64.ofInt_int32ToInt, ha]
    exact lv_i2l C.1 C.2.1 hd e1 (hK _ _ _ _ hf X p l e s m args below meth c H locs ls C hP hD hS hl ho (List.forall_mem_cons.mpr ⟨trivial, (List.forall_mem_cons.mp hk).2⟩))
  · exact hf.elim
def s_l2i (nx : Nat) : nv_Sem := fun lv stk h _ K => match stk with
  | .inr (.inr a) :: r => K nx lv (.inl a :: r) h
  | _ => False
theorem n_l2i (hd : decode (nv_c M) pc = .ok (.l2i, 1)) : nv_Snd M pc (s_l2i (pc + 1)) := by
  intro lv stk h Q K hK hf X p l e s m args below meth c H locs ls C hP hD hS hl ho hk
  unfold s_l2i at hf
  split at hf
  · next a r => exact lv_l2i C.1 C.2.1 hd Int64.toInt32_ofInt (hK _ _ _ _ hf X p l e s m args below meth c H locs ls C hP hD hS hl ho (List.forall_mem_cons.mpr ⟨trivial, (List.forall_mem_cons.mp hk).2⟩))
  · exact hf.elim
def s_u1 (f : Int → Int) (nx : Nat) : nv_Sem := fun lv stk h _ K => match stk with
  | .inl a :: r => K nx lv (.inl (f a) :: r) h
  | _ => False
def nv_b8 (a : Int) : Int := (Int8.ofInt a).toInt
def nv_s16 (a : Int) : Int := (Int16.ofInt a).toInt
theorem n_i2b (hd : decode (nv_c M) pc = .ok (.i2b, 1)) : nv_Snd M pc (s_u1 nv_b8 (pc + 1)) := by
  intro lv stk h Q K hK hf X p l e s m args below meth c H locs ls C hP hD hS hl ho hk
  unfold s_u1 at hf
  split at hf
  · next a r => exact lv_i2b C.1 C.2.1 hd (by rw [Int32.toInt8_ofInt]; rfl) (hK _ _ _ _ hf X p l e s m args below meth c H locs ls C hP hD hS hl ho (List.forall_mem_cons.mpr ⟨trivial, (List.forall_mem_cons.mp hk).2⟩))
  · exact hf.elim
theorem n_i2s (hd : decode (nv_c M) pc = .ok (.i2s, 1)) : nv_Snd M pc (s_u1 nv_s16 (pc + 1)) := by
  intro lv stk h Q K hK hf X p l e s m args below meth c H locs ls C hP hD hS hl ho hk
  unfold s_u1 at hf
  split at hf
  · next a r => exact lv_i2s C.1 C.2.1 hd (by rw [Int32.toInt16_ofInt]; rfl) (hK _ _ _ _ hf X p l e s m args below meth c H locs ls C hP hD hS hl ho (List.forall_mem_cons.mpr ⟨trivial, (List.forall_mem_cons.mp hk).2⟩))
  · exact hf.elim
def s_i2c (nx : Nat) : nv_Sem := fun lv stk h _ K => match stk with
  | .inl a :: r => (0 ≤ a ∧ a < 65536) ∧ K nx lv (.inl a :: r) h
  | _ => False
theorem n_i2c (hd : decode (nv_c M) pc = .ok (.i2c, 1)) : nv_Snd M pc (s_i2c (pc + 1)) := by
  intro lv stk h Q K hK hf X p l e s m args below meth c H locs ls C hP hD hS hl ho hk
  unfold s_i2c at hf
  split at hf
  · next a r =>
    obtain ⟨ha, hf⟩ := hf
    obtain ⟨x, rfl, hx⟩ := nv_nat ⟨ha.1, by omega⟩
    have hx2 : x < 65536 := by omega
    exact lv_i2c C.1 C.2.1 hd (by rw [nv_ofNat, pk_char, pk_tn (by omega), Nat.mod_eq_of_lt hx2]) (hK _ _ _ _ hf X p l e s m args below meth c H locs ls C hP hD hS hl ho (List.forall_mem_cons.mpr ⟨trivial, (List.forall_mem_cons.mp hk).2⟩))
  · exact hf.elim
def s_ladd (nx : Nat) : nv_Sem := fun lv stk h _ K => match stk with
  | .inr (.inr b) :: .inr (.inr a) :: r => K nx lv (.inr (.inr (a + b)) :: r) h
  | _ => False
def s_lmul (nx : Nat) : nv_Sem := fun lv stk h _ K => match stk with
  | .inr (.inr b) :: .inr (.inr a) :: r => K nx lv (.inr (.inr (a * b)) :: r) h
  | _ => False
theorem n_ladd (hd : decode (nv_c M) pc = .ok (.ladd, 1)) : nv_Snd M pc (s_ladd (pc + 1)) := by
  intro lv stk h Q K hK hf X p l e s m args below meth c H locs ls C hP hD hS hl ho hk
  unfold s_ladd at hf
  split at hf
  · next b a r =>
    refine lv_ladd C.1 C.2.1 hd ?_
    rw [← Int64.ofInt_add]
    exact hK _ _ _ _ hf X p l e s m args below meth c H locs ls C hP hD hS hl ho (List.forall_mem_cons.mpr ⟨trivial, (List.forall_mem_cons.mp (List.forall_mem_cons.mp hk).2).2⟩)
  · exact hf.elim
theorem n_lmul (hd : decode (nv_c M) pc = .ok (.lmul, 1)) : nv_Snd M pc (s_lmul (pc + 1)) := by
  intro lv stk h Q K hK hf X p l e s m args below meth c H locs ls C hP hD hS hl ho hk
  unfold s_lmul at hf
  split at hf
  · next b a r =>
    refine lv_lmul C.1 C.2.1 hd ?_
    rw [← Int64.ofInt_mul]
    exact hK _ _ _ _ hf X p l e s m args below meth c H locs ls C hP hD hS hl ho (List.forall_mem_cons.mpr ⟨trivial, (List.forall_mem_cons.mp (List.forall_mem_cons.mp hk).2).2⟩)
  · exact hf.elim
def s_lrem (nx : Nat) : nv_Sem := fun lv stk h _ K => match stk with
  | .inr (.inr b) :: .inr (.inr a) :: r => (0 ≤ a ∧ a < 9223372036854775808) ∧ (0 < b ∧ b < 9223372036854775808) ∧ K nx lv (.inr (.inr (a % b)) :: r) h
  | _ => False
theorem n_lrem (hd : decode (nv_c M) pc = .ok (.lrem, 1)) : nv_Snd M pc (s_lrem (pc + 1)) := by
  intro lv stk h Q K hK hf X p l e s m args below meth c H locs ls C hP hD hS hl ho hk
  unfold s_lrem at hf
  split at hf
  · next b a r =>
    obtain ⟨h1, h2, hf⟩ := hf
    obtain ⟨x, rfl⟩ : ∃ n : Nat, a = (n : Int) := ⟨a.toNat, by omega⟩
    obtain ⟨y, rfl⟩ : ∃ n : Nat, b = (n : Int) := ⟨b.toNat, by omega⟩
    have hx : x < 2 ^ 63 := by omega
    have hy : y < 2 ^ 63 := by omega
    have hy0 : 0 < y := by omega
    have ex : ∀ n : Nat, Int64.ofInt (n : Int) = lN n := fun n => Int64.ofInt_eq_ofNat
    refine lv_lrem C.1 C.2.1 hd ?_ ?_
    · rw [ex]; intro h0
      have := (pk_lEQ (b := 0) hy (by decide)).mp h0
      omega
    · have e1 : Int64.ofInt ((x : Int) % (y : Int)) = Int64.ofInt (x : Int) - Int64.ofInt (x : Int) / Int64.ofInt (y : Int) * Int64.ofInt (y : Int) := by
        rw [ex, ex, pk_lRem hx hy0 hy, ← ex]; rfl
      rw [← e1]
      exact hK _ _ _ _ hf X p l e s m args below meth c H locs ls C hP hD hS hl ho (List.forall_mem_cons.mpr ⟨trivial, (List.forall_mem_cons.mp (List.forall_mem_cons.mp hk).2).2⟩)
  · exact hf.elim
def s_lcmp (nx : Nat) : nv_Sem := fun lv stk h _ K => match stk with
  | .inr (.inr b) :: .inr (.inr a) :: r => nv_InL a ∧ nv_InL b ∧ K nx lv (.inl (if b < a then 1 else if a = b then 0 else -1) :: r) h
  | _ => False
theorem n_lcmp (hd : decode (nv_c M) pc = .ok (.lcmp, 1)) : nv_Snd M pc (s_lcmp (pc + 1)) := by
  intro lv stk h Q K hK hf X p l e s m args below meth c H locs ls C hP hD hS hl ho hk
  unfold s_lcmp at hf
  split at hf
  · next b a r =>
    obtain ⟨ha, hb, hf⟩ := hf
    refine W.lcmp C.1 C.2.1 hd ?_
    have e1 : lg_cmp (Int64.ofInt a) (Int64.ofInt b) = Int32.ofInt (if b < a then 1 else if a = b then 0 else -1) := by
      unfold lg_cmp
      simp only [gt_iff_lt, Int64.lt_iff_toInt_lt, ← Int64.toInt_inj, nv_toIntL ha, nv_toIntL hb]
      split
      · rfl
      · split <;> rfl
    rw [e1]
    exact hK _ _ _ _ hf X p l e s m args below meth c H locs ls C hP hD hS hl ho (List.forall_mem_cons.mpr ⟨trivial, (List.forall_mem_cons.mp (List.forall_mem_cons.mp hk).2).2⟩)
  · exact hf.elim
def s_dup (nx : Nat) : nv_Sem := fun lv stk h _ K => match stk with
  | .inl a :: r => K nx lv (.inl a :: .inl a :: r) h
  | .inr (.inl a) :: r => K nx lv (.inr (.inl a) :: .inr (.inl a) :: r) h
  | _ => False
theorem n_dup (hd : decode (nv_c M) pc = .ok (.dup, 1)) : nv_Snd M pc (s_dup (pc + 1)) := by
  intro lv stk h Q K hK hf X p l e s m args below meth c H locs ls C hP hD hS hl ho hk
  unfold s_dup at hf
  split at hf
  · next a r => exact lv_dup C.1 C.2.1 hd rfl (hK _ _ _ _ hf X p l e s m args below meth c H locs ls C hP hD hS hl ho (List.forall_mem_cons.mpr ⟨(List.forall_mem_cons.mp hk).1, hk⟩))
  · next a r => exact lv_dup C.1 C.2.1 hd rfl (hK _ _ _ _ hf X p l e s m args below meth c H locs ls C hP hD hS hl ho (List.forall_mem_cons.mpr ⟨(List.forall_mem_cons.mp hk).1, hk⟩))
  · exact hf.elim
def s_pop (nx : Nat) : nv_Sem := fun lv stk h _ K => match stk with
  | .inl _ :: r => K nx lv r h
  | .inr (.inl _) :: r => K nx lv r h
  | _ => False
theorem n_pop (hd : decode (nv_c M) pc = .ok (.pop, 1)) : nv_Snd M pc (s_pop (pc + 1)) := by
  intro lv stk h Q K hK hf X p l e s m args below meth c H locs ls C hP hD hS hl ho hk
  unfold s_pop at hf
  split at hf
  · next a r => exact lv_pop C.1 C.2.1 hd rfl (hK _ _ _ _ hf X p l e s m args below meth c H locs ls C hP hD hS hl ho (List.forall_mem_cons.mp hk).2)
  · next a r => exact lv_pop C.1 C.2.1 hd rfl (hK _ _ _ _ hf X p l e s m args below meth c H locs ls C hP hD hS hl ho (List.forall_mem_cons.mp hk).2)
  · exact hf.elim
/-- of an array and a place in it -/
def s_dup2 (nx : Nat) : nv_Sem := fun lv stk h _ K => match stk with
  | .inl b :: .inr (.inl a) :: r => K nx lv (.inl b :: .inr (.inl a) :: .inl b :: .inr (.inl a) :: r) h
  | _ => False
theorem n_dup2 (hd : decode (nv_c M) pc = .ok (.dup2, 1)) : nv_Snd M pc (s_dup2 (pc + 1)) := by
  intro lv stk h Q K hK hf X p l e s m args below meth c H locs ls C hP hD hS hl ho hk
  unfold s_dup2 at hf
  split at hf
  · next b a r => exact lv_dup2_11 C.1 C.2.1 hd rfl rfl (hK _ _ _ _ hf X p l e s m args below meth c H locs ls C hP hD hS hl ho (List.forall_mem_cons.mpr ⟨(List.forall_mem_cons.mp hk).1, List.forall_mem_cons.mpr ⟨(List.forall_mem_cons.mp (List.forall_mem_cons.mp hk).2).1, hk⟩⟩))
  · exact hf.elim
/-! ends -/
def s_ir : nv_Sem := fun _ stk h Q _ => match stk with
  | [.inl z] => Q (some (.inl z)) h
  | _ => False
def s_zr : nv_Sem := fun _ stk h Q _ => match stk with
  | [.inl z] => (z = 0 ∨ z = 1) ∧ Q (some (.inl z)) h
  | _ => False
def s_cr : nv_Sem := fun _ stk h Q _ => match stk with
  | [.inl z] => (0 ≤ z ∧ z < 65536) ∧ Q (some (.inl z)) h
  | _ => False
def s_lret : nv_Sem := fun _ stk h Q _ => match stk with
  | [.inr (.inr z)] => Q (some (.inr (.inr z))) h
  | _ => False
def s_vr : nv_Sem := fun _ stk h Q _ => match stk with
  | [] => Q none h
  | _ => False
theorem n_iret (hd : decode (nv_c M) pc = .ok (.ireturn, 1)) (hr : nv_ret M = some .int) : nv_Snd M pc s_ir := by
  intro lv stk h Q K hK hf X p l e s m args below meth c H locs ls C hP hD hS hl ho hk
  unfold s_ir at hf
  split at hf
  · next z => exact W.iret C.1 C.2.1 (C.2.2.1.trans hr) (fun t ht _ => ⟨⟨some (.inl z), h, rfl, fun v hv => by cases hv; trivial, hf, by rw [ht]; exact hP, hD⟩, hS.F ht⟩) hS.2.2 hd C.2.2.2.2.1
  · exact hf.elim
theorem n_zret (hd : decode (nv_c M) pc = .ok (.ireturn, 1)) (hr : nv_ret M = some .boolean) : nv_Snd M pc s_zr := by
  intro lv stk h Q K hK hf X p l e s m args below meth c H locs ls C hP hD hS hl ho hk
  unfold s_zr at hf
  split at hf
  · next z =>
    obtain ⟨hz, hf⟩ := hf
    refine W.zret C.1 C.2.1 (C.2.2.1.trans hr) ?_ (fun t ht _ => ⟨⟨some (.inl z), h, rfl, fun v hv => by cases hv; trivial, hf, by rw [ht]; exact hP, hD⟩, hS.F ht⟩) hS.2.2 hd C.2.2.2.2.1
    rcases hz with rfl | rfl <;> rfl
  · exact hf.elim
theorem n_cret (hd : decode (nv_c M) pc = .ok (.ireturn, 1)) (hr : nv_ret M = some .char) : nv_Snd M pc s_cr := by
  intro lv stk h Q K hK hf X p l e s m args below meth c H locs ls C hP hD hS hl ho hk
  unfold s_cr at hf
  split at hf
  · next z =>
    obtain ⟨hz, hf⟩ := hf
    refine W.zret C.1 C.2.1 (C.2.2.1.trans hr) ?_ (fun t ht _ => ⟨⟨some (.inl z), h, rfl, fun v hv => by cases hv; trivial, hf, by rw [ht]; exact hP, hD⟩, hS.F ht⟩) hS.2.2 hd C.2.2.2.2.1
    obtain ⟨x, rfl, hx⟩ := nv_nat ⟨hz.1, by omega⟩
    rw [nv_ofNat]
    exact (pk_charN (by omega)).1
  · exact hf.elim
theorem n_lret (hd : decode (nv_c M) pc = .ok (.lreturn, 1)) (hr : nv_ret M = some .long) : nv_Snd M pc s_lret := by
  intro lv stk h Q K hK hf X p l e s m args below meth c H locs ls C hP hD hS hl ho hk
  unfold s_lret at hf
  split at hf
  · next z => exact W.lret C.1 C.2.1 (C.2.2.1.trans hr) (fun t ht _ => ⟨⟨some (.inr (.inr z)), h, rfl, fun v hv => by cases hv; trivial, hf, by rw [ht]; exact hP, hD⟩, hS.F ht⟩) hS.2.2 hd C.2.2.2.2.1
  · exact hf.elim
theorem n_vret (hd : decode (nv_c M) pc = .ok (.return_, 1)) (hr : nv_ret M = none) : nv_Snd M pc s_vr := by
  intro lv stk h Q K hK hf X p l e s m args below meth c H locs ls C hP hD hS hl ho hk
  unfold s_vr at hf
  split at hf
  · exact W.vret C.1 C.2.1 (C.2.2.1.trans hr) (fun t ht _ => ⟨⟨none, h, rfl, (fun v hv => by cases hv), hf, by rw [ht]; exact hP, hD⟩, hS.F ht⟩) hS.2.2 hd C.2.2.2.2.1
  · exact hf.elim
end nvIns2
