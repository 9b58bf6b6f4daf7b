/-! ===== type, read ===== -/
abbrev a_tp (a : a_S) : List Int := a.2.2.1
def a_ty (a : a_S) (v : Int) : Int := if a_out v 32 126 = true then -1 else if (a_tp a).length = 80 then -3 else ((a_tp a).length : Int) + 1
def a_tyS (a : a_S) (v : Int) : a_S := if a_out v 32 126 = true then a else if (a_tp a).length = 80 then a else (a.1, a.2.1, a_tp a ++ [v], a.2.2.2)
def a_tf (a : a_S) : Nat → Int := fun k => (a_tp a).getD k 0
def a_ta (a : a_S) : Option (List y_T × List y_T) × Nat := t_all (a_tp a).length (a_tf a)
def a_rd (a : a_S) : Int := match (a_ta a).1 with
  | none => -20 - ((a_ta a).2 : Int)
  | some x => (x.1.length : Int)
def a_rdS (a : a_S) : a_S := match (a_ta a).1 with
  | none => (a.1, a.2.1, [], a.2.2.2)
  | some x => ((x.1.length, x.2.length, m_bld (a_N a 0 3) x.1 x.2, []), a.2.1, [], a.2.2.2)
theorem tp_get {tp : List Int} {q : Nat} (hq : q < tp.length) : tp[q]? = some (tp.getD q 0) := by
  rw [List.getD_eq_getElem?_getD, List.getElem?_eq_getElem hq]
  rfl
/-- only the tape, what is tried, what is now and its past have changed -/
def c_fT (h h' : nv_St) : Prop := ∀ t i, ¬ (t < 8 ∧ (i = 0 ∨ i = 1)) → ¬ (t = 11 ∧ i = 0) → ¬ (t = 13 ∧ i = 0) → ¬ (t = 14 ∧ i = 0) → h' t i = h t i
theorem CI.tape {h h' : nv_St} {a : a_S} (C : CI h a) {w : a_W} {tp : List Int} (hf : c_fT h h') (hW : c_W h' 0 0 w) (hT : c_tape h' tp) : CI h' (w, a.2.1, tp, a.2.2.2) ∧ ∀ t i, 19 ≤ t → h' t i = h t i := by
  obtain ⟨k1, k2, k3, k4, k5, k6⟩ := C
  exact ⟨⟨hW, k2.kept (hf 18 0 (by omega) (by omega) (by omega) (by omega)) (fun t _ => hf t 2 (by omega) (by omega) (by omega) (by omega)) (hf 11 1 (by omega) (by omega) (by omega) (by omega)) (fun t q _ _ => hf t _ (by omega) (by omega) (by omega) (by omega)),
    hT, k4.kept (fun s _ => ⟨hf 16 s (by omega) (by omega) (by omega) (by omega), hf 17 s (by omega) (by omega) (by omega) (by omega)⟩), k5.kept (hf 8 0 (by omega) (by omega) (by omega) (by omega)) (hf 10 0 (by omega) (by omega) (by omega) (by omega)) (fun t _ => hf t 19 (by omega) (by omega) (by omega) (by omega)), k6.kept (hf 8 1 (by omega) (by omega) (by omega) (by omega)) (hf 10 1 (by omega) (by omega) (by omega) (by omega)) (fun t _ => hf t 20 (by omega) (by omega) (by omega) (by omega))⟩, fun t i ht => hf t i (by omega) (by omega) (by omega) (by omega)⟩
section nvRd
variable {h : nv_St} {a : a_S}
set_option maxRecDepth 100000 in
theorem r_type_c (C : CI h a) {v : Int} (hv : nv_InR v) : nv_R M_X5_type [vr 18 0, vi v] h (cQ h (a_tyS a v) (a_ty a v)) := by
  obtain ⟨t1, t2, t3⟩ := id C.2.2.1
  have t1 : h 13 0 1 = ((a_tp a).length : Nat) := t1
  have t2 : (a_tp a).length ≤ 80 := t2
  have add : ∀ (hg : 32 ≤ v ∧ v ≤ 126), nv_R M_X4_addLetter [vr 13 0, vi v] h (fun r h' => ((a_tp a).length = 80 ∧ h' = h ∧ r = some (vi (-3))) ∨ ((a_tp a).length < 80 ∧ h' = nv_up (nv_up h 14 0 (a_tp a).length v) 13 0 1 (((a_tp a).length : Int) + 1) ∧ r = some (vi (((a_tp a).length : Int) + 1)))) := by
    intro hg
    refine nv_R.of rfl rfl (Nat.le_of_ble_eq_true rfl) ?_
    refine nv_go ok_X4_addLetter [] 30 ?_
    refine w_ic (by omega) (by omega) (fun c => ?_) (fun c => ?_)
    · have c : h 13 0 1 < 80 := c
      refine And.intro (by omega) (w_ix (a_tp a).length t1 (by omega) ?_)
      have e1 : nv_up h 14 0 (a_tp a).length v 13 0 1 = ((a_tp a).length : Int) := by rw [show nv_up h 14 0 (a_tp a).length v 13 0 1 = h 13 0 1 by simp [nv_up]]; exact t1
      refine Or.inr ⟨by omega, ?_, ?_⟩
      · show nv_up (nv_up h 14 0 (a_tp a).length v) 13 0 1 (nv_up h 14 0 (a_tp a).length v 13 0 1 + 1) = _
        rw [e1]
      · show some (vi (nv_up (nv_up h 14 0 (a_tp a).length v) 13 0 1 (nv_up h 14 0 (a_tp a).length v 13 0 1 + 1) 13 0 1)) = _
        rw [nv_up_same, e1]
    · have c : ¬ h 13 0 1 < 80 := c
      exact Or.inl ⟨by omega, rfl, rfl⟩
  refine nv_R.of rfl rfl (Nat.le_of_ble_eq_true rfl) ?_
  refine nv_go ok_X5_type [] 30 ?_
  unfold a_tyS a_ty
  refine w_call (r_outA hv (by omega) (by omega)) (fun r h' hr => ?_)
  obtain ⟨rfl, rfl⟩ := hr
  refine w_ifb (fun c => ?_) (fun c => ?_)
  · have g := a_out_f c
    have nb : ¬ a_out v 32 126 = true := by rw [c]; decide
    refine And.intro (by omega) ?_
    refine w_call (add g) (fun r h2 hr => ?_)
    rcases hr with ⟨e, rfl, rfl⟩ | ⟨e, rfl, rfl⟩
    · rw [if_neg nb, if_neg nb, if_pos e, if_pos e]
      exact cQ.same C
    · rw [if_neg nb, if_neg nb, if_neg (by omega), if_neg (by omega)]
      have hf : c_fT h' (nv_up (nv_up h' 14 0 (a_tp a).length v) 13 0 1 (((a_tp a).length : Int) + 1)) := by
        intro t i _ _ x3 x4
        funext q
        unfold nv_up
        rw [if_neg (fun z => x3 ⟨z.1, z.2.1⟩), if_neg (fun z => x4 ⟨z.1, z.2.1⟩)]
      refine ⟨rfl, C.tape hf (C.1.kept (fun t ht => by funext q; simp [nv_up, show ¬ t = 13 by omega, show ¬ t = 14 by omega]) (by funext q; simp [nv_up]) (fun t q ht _ => by funext q; simp [nv_up, show ¬ t = 13 by omega, show ¬ t = 14 by omega])) ⟨?_, ?_, fun k x hx => ?_⟩⟩
      · rw [nv_up_same]; simp
      · simp; omega
      · rw [show nv_up (nv_up h' 14 0 (a_tp a).length v) 13 0 1 (((a_tp a).length : Int) + 1) 14 0 k = nv_up h' 14 0 (a_tp a).length v 14 0 k by simp [nv_up]]
        by_cases ek : k = (a_tp a).length
        · rw [ek] at hx ⊢
          rw [nv_up_same]
          simp at hx
          omega
        · rw [nv_up_ne ek]
          have hk : k < (a_tp a).length := by
            have := (List.getElem?_eq_some_iff.mp hx).1
            simp at this
            omega
          rw [List.getElem?_append_left hk] at hx
          exact t3 k x hx
  · rw [if_pos c, if_pos c]
    exact cQ.same C
set_option maxRecDepth 100000 in
theorem r_type_g (C : MI h a) {v : Int} (hv : nv_InR v) : nv_R M_X6_type [vr 19 0, vi v] h (gQ h (a_tyS a v) (a_ty a v)) := by
  obtain ⟨k1, k2, k3, k4⟩ := id C
  obtain ⟨t1, t2, t3⟩ := id k3
  have t1 : h 19 0 3 = ((a_tp a).length : Nat) := t1
  have t2 : (a_tp a).length ≤ 80 := t2
  refine nv_R.of rfl rfl (Nat.le_of_ble_eq_true rfl) ?_
  refine nv_go ok_X6_type [] 30 ?_
  unfold a_tyS a_ty
  refine w_call (r_inA hv (by omega) (by omega)) (fun r h' hr => ?_)
  obtain ⟨rfl, rfl⟩ := hr
  refine w_ifb (fun c => ?_) (fun c => ?_)
  · rw [if_pos (bn_f c), if_pos (bn_f c)]
    exact gQ.same C
  · have c := bn_t c
    have g := a_out_f c
    have nb : ¬ a_out v 32 126 = true := by rw [c]; decide
    refine w_ic (by omega) (by omega) (fun c2 => ?_) (fun c2 => ?_)
    · have c2 : h' 19 0 3 = 80 := c2
      have e : (a_tp a).length = 80 := by omega
      rw [if_neg nb, if_neg nb, if_pos e, if_pos e]
      exact gQ.same C
    · have c2 : ¬ h' 19 0 3 = 80 := c2
      refine w_ix (a_tp a).length t1 (by omega) ?_
      rw [if_neg nb, if_neg nb, if_neg (by omega), if_neg (by omega)]
      have e1 : nv_up h' 23 0 (a_tp a).length v 19 0 3 = ((a_tp a).length : Int) := by rw [show nv_up h' 23 0 (a_tp a).length v 19 0 3 = h' 19 0 3 by simp [nv_up]]; exact t1
      show gQ h' (a.1, a.2.1, a_tp a ++ [v], a.2.2.2) (((a_tp a).length : Int) + 1) (some (vi (nv_up (nv_up h' 23 0 (a_tp a).length v) 19 0 3 (nv_up h' 23 0 (a_tp a).length v 19 0 3 + 1) 19 0 3))) (nv_up (nv_up h' 23 0 (a_tp a).length v) 19 0 3 (nv_up h' 23 0 (a_tp a).length v 19 0 3 + 1))
      rw [e1]
      have ho : ∀ t i, ¬ (t = 19 ∧ i = 0) → ¬ (t = 23 ∧ i = 0) → nv_up (nv_up h' 23 0 (a_tp a).length v) 19 0 3 (((a_tp a).length : Int) + 1) t i = h' t i := by
        intro t i x3 x4
        funext q
        unfold nv_up
        rw [if_neg (fun z => x3 ⟨z.1, z.2.1⟩), if_neg (fun z => x4 ⟨z.1, z.2.1⟩)]
      refine gQ.eq (nv_up_same _ _ _ _ _) ⟨rfl, ⟨k1.kept (ho 24 0 (by omega) (by omega)), ?_, ⟨?_, ?_, fun k x hx => ?_⟩, fun s hs => by rw [ho 20 0 (by omega) (by omega), ho 21 0 (by omega) (by omega), ho 22 0 (by omega) (by omega)]; exact k4 s hs⟩, fun t i ht => ho t i (by omega) (by omega)⟩
      · show g_im _ a.2.1
        have e11 : nv_up (nv_up h' 23 0 (a_tp a).length v) 19 0 3 (((a_tp a).length : Int) + 1) 19 0 11 = h' 19 0 11 := by simp [nv_up]
        generalize a.2.1 = im at k2
        cases im with
        | none => show _ = (0 : Int); rw [e11]; exact k2
        | some w => exact ⟨by rw [e11]; exact k2.1, k2.2.kept (ho 27 0 (by omega) (by omega))⟩
      · rw [nv_up_same]; simp
      · simp; omega
      · rw [show nv_up (nv_up h' 23 0 (a_tp a).length v) 19 0 3 (((a_tp a).length : Int) + 1) 23 0 k = nv_up h' 23 0 (a_tp a).length v 23 0 k by simp [nv_up]]
        by_cases ek : k = (a_tp a).length
        · rw [ek] at hx ⊢
          rw [nv_up_same]
          simp at hx
          omega
        · rw [nv_up_ne ek]
          have hk : k < (a_tp a).length := by
            have := (List.getElem?_eq_some_iff.mp hx).1
            simp at this
            omega
          rw [List.getElem?_append_left hk] at hx
          exact t3 k x hx
set_option maxRecDepth 100000 in
theorem r_wipe : nv_R M_X4_wipe [vr 13 0] h (fun r h' => r = none ∧ h' = nv_up h 13 0 1 0) := by
  refine nv_R.of rfl rfl (Nat.le_of_ble_eq_true rfl) ?_
  refine nv_go ok_X4_wipe [] 30 ?_
  exact ⟨rfl, rfl⟩
theorem c_tape.nil {h : nv_St} (e : h 13 0 1 = 0) : c_tape h [] := ⟨by rw [e]; rfl, by simp, fun k x hx => by simp at hx⟩
set_option maxHeartbeats 1000000 in
set_option maxRecDepth 100000 in
theorem r_read_c (C : CI h a) : nv_R M_X5_read [vr 18 0] h (cQ h (a_rdS a) (a_rd a)) := by
  obtain ⟨hok, he, hNok⟩ := C.now
  obtain ⟨t1, t2, t3⟩ := id C.2.2.1
  have t1 : h 13 0 1 = ((a_tp a).length : Nat) := t1
  have t2 : (a_tp a).length ≤ 80 := t2
  have hd : 0 ≤ a_N a 0 3 ∧ a_N a 0 3 < 2147483648 := hNok.2.2.2.2.2.1
  have e03 : h 0 0 3 = a_N a 0 3 := he.1 3 (by omega)
  -- the place that was is of no matter: the tape's place is set to 0 first
  have tn : nv_R M_X4_tellNoon [vr 13 0, vr 0 1] h (c_nQ h (a_tp a).length (a_tf a) (h 0 1 3)) := by
    refine r_tellNoonP (by rw [t1]) t2 (fun q hq => ?_)
    have := t3 q _ (tp_get hq)
    exact this
  refine nv_R.of rfl rfl (Nat.le_of_ble_eq_true rfl) ?_
  refine nv_go ok_X5_read [] 60 ?_
  refine w_call tn (fun r h1 hr => ?_)
  obtain ⟨k', T1, hf1, alt⟩ := hr
  have eta : a_ta a = t_all (a_tp a).length (a_tf a) := rfl
  rcases alt with ⟨eT, rfl⟩ | ⟨ps, ss, eT, rfl, hl, hp, hs, heq⟩
  · refine w_call r_wipe (fun r h2 hr => ?_)
    obtain ⟨rfl, rfl⟩ := hr
    have hkn := T1.2.2.1
    refine w_if (by omega) (fun _ => ?_) (fun q => absurd (by show (-20 : Int) - k' < 0; omega) q)
    unfold a_rdS a_rd
    rw [eta, eT]
    have hf : c_fT h (nv_up h1 13 0 1 0) := fun t i x1 x2 x3 _ => by
      rw [← hf1 t i x3 (by omega)]
      funext q
      unfold nv_up
      rw [if_neg (fun z => x3 ⟨z.1, z.2.1⟩)]
    have hft : ∀ t i, ¬ (t = 13 ∧ i = 0) → ¬ (t < 8 ∧ i = 1) → nv_up h1 13 0 1 0 t i = h t i := fun t i x1 x2 => by
      rw [← hf1 t i x1 x2]
      funext q
      unfold nv_up
      rw [if_neg (fun z => x1 ⟨z.1, z.2.1⟩)]
    exact ⟨rfl, C.tape hf (C.1.kept (fun t ht => hft t 0 (by omega) (by omega)) (hft 11 0 (by omega) (by omega)) (fun t q _ _ => hft t _ (by omega) (by omega))) (c_tape.nil (nv_up_same _ _ _ _ _))⟩
  · refine w_call r_wipe (fun r h2 hr => ?_)
    obtain ⟨rfl, rfl⟩ := hr
    refine w_if (by omega) (fun q => absurd q (by show ¬ ((ps.length : Nat) : Int) < 0; omega)) (fun _ => ?_)
    have e3 : nv_up h1 13 0 1 0 0 0 3 = a_N a 0 3 := by
      rw [show nv_up h1 13 0 1 0 0 0 3 = h1 0 0 3 by simp [nv_up], hf1 0 0 (by omega) (by omega)]
      exact e03
    refine w_call (r_takeAll (o := 0) (b := 1) (by decide)) (fun r h3 hr => ?_)
    obtain ⟨rfl, ht⟩ := hr
    refine w_call r_forget (fun r h4 hr => ?_)
    obtain ⟨rfl, rfl⟩ := hr
    rw [e3] at ht
    have he3 := ht.eq (P := ps.length) (S := ss.length) hl.1 hl.2
    have he4 : m_eq ps.length ss.length (m_nn (nv_up (nv_up h1 13 0 1 0) 0 1 3 (a_N a 0 3)) 1) (m_bld (a_N a 0 3) ps ss) := by
      rw [m_nn_put (by decide), m_nn_ext (h := h1) (fun t ht => by funext q; simp [nv_up, show ¬ t = 13 by omega])]
      refine ⟨fun j hj => ?_, fun p hp => ?_, fun s hs => ?_⟩
      · have : j = 0 ∨ j = 1 ∨ j = 2 ∨ j = 3 := by omega
        rcases this with rfl | rfl | rfl | rfl
        · exact heq.1 0 (by omega)
        · exact heq.1 1 (by omega)
        · exact heq.1 2 (by omega)
        · unfold m_put
          rw [if_pos ⟨rfl, rfl⟩]
          rfl
      · exact heq.2.1 p hp
      · exact heq.2.2 s hs
    unfold a_rdS a_rd
    rw [eta, eT]
    have hf3 : ∀ t i, ¬ (t < 8 ∧ (i = 0 ∨ i = 1)) → ¬ (t = 13 ∧ i = 0) → h3 t i = h t i := fun t i x1 x2 => by
      rw [ht.1 t i (by omega), ← hf1 t i x2 (by omega)]
      funext q
      unfold nv_up
      rw [if_neg (fun z => x1 ⟨by omega, Or.inr z.2.1⟩), if_neg (fun z => x2 ⟨z.1, z.2.1⟩)]
    have hf : c_fT h (nv_up h3 11 0 1 0) := fun t i x1 x2 x3 _ => by
      rw [← hf3 t i x1 x3]
      funext q
      unfold nv_up
      rw [if_neg (fun z => x2 ⟨z.1, z.2.1⟩)]
    have hpk : c_past h3 0 (a_P a) (a_Sw a) (a_pl a) := C.1.2.2.1.kept (hf3 11 0 (by omega) (by omega)) (fun t q _ _ => hf3 t _ (by omega) (by omega))
    have e131 : h3 13 0 1 = 0 := by
      rw [ht.1 13 0 (by omega)]
      simp [nv_up]
    refine ⟨rfl, C.tape (w := (ps.length, ss.length, m_bld (a_N a 0 3) ps ss, [])) hf ⟨m_bld_ok hd hl.1 hl.2 hp hs, ?_, ?_, fun M hM => by simp at hM⟩ (c_tape.nil (by rw [show nv_up h3 11 0 1 0 13 0 1 = h3 13 0 1 by simp [nv_up]]; exact e131))⟩
    · rw [m_nn_ext (h := h3) (fun t ht => by funext q; simp [nv_up, show ¬ t = 11 by omega])]
      exact he3.trans' he4
    · obtain ⟨nx, n1, n2, n3, n4, n5⟩ := hpk
      exact ⟨nx, n1, by rw [nv_up_ne (by omega)]; exact n2, by rw [nv_up_same]; rfl, by simp, fun k M hM => by simp at hM⟩
set_option maxHeartbeats 1000000 in
set_option maxRecDepth 100000 in
theorem r_read_g (C : MI h a) : nv_R M_X6_read [vr 19 0] h (gQ h (a_rdS a) (a_rd a)) := by
  obtain ⟨hok, he, hNok⟩ := C.now
  obtain ⟨k1, k2, k3, k4⟩ := id C
  obtain ⟨t1, t2, t3⟩ := id k3
  have t1 : h 19 0 3 = ((a_tp a).length : Nat) := t1
  have t2 : (a_tp a).length ≤ 80 := t2
  have hd : 0 ≤ a_N a 0 3 ∧ a_N a 0 3 < 2147483648 := hNok.2.2.2.2.2.1
  have e03 : h 24 0 1 = a_N a 0 3 := he.1 3 (by omega)
  have eta : a_ta a = t_all (a_tp a).length (a_tf a) := rfl
  refine nv_R.of rfl rfl (Nat.le_of_ble_eq_true rfl) ?_
  have loop := m_down (n := 171) (G := fun k => ∀ (j : Int) (h1 : nv_St), j = k → (∀ t i, ¬ (t = 26 ∧ i = 0) → h1 t i = h t i) → (∀ q, q < k → h1 26 0 q = 0) → nv_V M_X6_read 2 [(0, vr 19 0), (1, vi j)] [] h1 (gQ h (a_rdS a) (a_rd a))) ?_ ?_
  · refine nv_go ok_X6_read [2] 20 ?_
    exact loop 0 (by omega) _ h rfl (fun _ _ _ => rfl) (fun q hq => absurd hq (by omega))
  · intro j h1 hj hf hz
    refine nv_go ok_X6_read [] 60 ?_
    refine w_ic (by omega) (by omega) (fun _ => ?_) (fun q => absurd (by show (171 : Int) ≤ j; omega) q)
    have e1 : h1 24 0 1 = a_N a 0 3 := by rw [hf 24 0 (by omega)]; exact e03
    refine w_ix 1 rfl (by omega) ?_
    refine w_ix 1 rfl (by omega) ?_
    generalize hg2 : nv_up (nv_up h1 26 0 1 (h1 24 0 1)) 19 0 5 0 = h2
    have hf2 : g_ft h h2 := by
      rw [← hg2]
      refine g_ft.trans' (g_ft.rfl'.r (h2 := nv_up h1 26 0 1 (h1 24 0 1)) (fun t i x => (nv_up26 t i x).trans (hf t i x))) (g_fl.rfl'.up (by omega)).t
    have e26 : ∀ q, q < 171 → h2 26 0 q = if q = 1 then a_N a 0 3 else 0 := by
      intro q hq
      rw [← hg2, show nv_up (nv_up h1 26 0 1 (h1 24 0 1)) 19 0 5 0 26 0 q = nv_up h1 26 0 1 (h1 24 0 1) 26 0 q by simp [nv_up]]
      by_cases e : q = 1
      · rw [e, nv_up_same, if_pos rfl, e1]
      · rw [nv_up_ne e, if_neg e]; exact hz q hq
    have T2 : g_ts h2 (a_tp a).length (a_tf a) 0 := by
      refine ⟨by rw [hf2.2 3 (by omega) (by omega)]; exact t1, by rw [← hg2, nv_up_same]; rfl, ⟨by omega, t2⟩, fun q hq => ?_⟩
      rw [hf2.1 23 0 (by omega) (by omega)]
      exact t3 q _ (tp_get hq)
    have he2 : m_eq 0 0 (m_mm h2 26) (m_bld (a_N a 0 3) [] []) := by
      refine ⟨fun j hj => ?_, fun p hp => absurd hp (by omega), fun s hs => absurd hs (by omega)⟩
      have : j = 0 ∨ j = 1 ∨ j = 2 ∨ j = 3 := by omega
      rcases this with rfl | rfl | rfl | rfl
      · exact e26 17 (by omega)
      · exact e26 28 (by omega)
      · exact e26 0 (by omega)
      · exact e26 1 (by omega)
    subst hg2
    refine w_call (r_isNoon T2 he2) (fun r h3 hr => ?_)
    obtain ⟨b, k', rfl, T3, hf3, alt⟩ := hr
    have hf4 : g_ft h h3 := hf2.trans' hf3
    refine w_ifb (fun c => ?_) (fun c => ?_)
    · rcases alt with ⟨eT, -⟩ | ⟨ps, ss, eT, c2, -⟩
      · unfold a_rdS a_rd
        rw [eta, eT]
        have ho : ∀ t i, ¬ (t = 19 ∧ i = 0) → ¬ (t = 26 ∧ i = 0) → nv_up h3 19 0 3 0 t i = h t i := fun t i x1 x2 => by
          rw [← hf4.1 t i x1 x2]
          funext q
          unfold nv_up
          rw [if_neg (fun z => x1 ⟨z.1, z.2.1⟩)]
        have e11 : nv_up h3 19 0 3 0 19 0 11 = h 19 0 11 := by rw [nv_up_ne (by omega)]; exact hf4.2 11 (by omega) (by omega)
        have e5 : nv_up h3 19 0 3 0 19 0 5 = k' := by rw [nv_up_ne (by omega)]; exact T3.2.1
        refine gQ.eq (by rw [e5]) ⟨rfl, ⟨k1.kept (ho 24 0 (by omega) (by omega)), ?_, ⟨by rw [nv_up_same]; rfl, by simp, fun k x hx => by simp at hx⟩, fun s hs => by rw [ho 20 0 (by omega) (by omega), ho 21 0 (by omega) (by omega), ho 22 0 (by omega) (by omega)]; exact k4 s hs⟩, fun t i ht => ho t i (by omega) (by omega)⟩
        show g_im _ a.2.1
        generalize a.2.1 = im at k2
        cases im with
        | none => show _ = (0 : Int); rw [e11]; exact k2
        | some w => exact ⟨by rw [e11]; exact k2.1, k2.2.kept (ho 27 0 (by omega) (by omega))⟩
      · rw [c2] at c; exact absurd c (by decide)
    · rcases alt with ⟨eT, c2⟩ | ⟨ps, ss, eT, -, hl, hp, hs, heq, h34⟩
      · rw [c2] at c; exact absurd c (by decide)
      · refine w_call (r_bring_26_24 (h := nv_up h3 19 0 3 0) (i := 0) (j := 0) (n := 171) (by omega) (by omega)) (fun v h5 hv => ?_)
        obtain ⟨rfl, x1, x2, x3⟩ := hv
        have e24 : ∀ q, q < 171 → h5 24 0 q = h3 26 0 q := fun q hq => by
          have := x2 q hq
          rw [Nat.zero_add] at this
          rw [this]
          simp [nv_up]
        have e17 : h5 24 0 17 = (ps.length : Int) := by rw [e24 17 (by omega)]; exact heq.1 0 (by omega)
        refine w_ix 17 rfl (by omega) ?_
        unfold a_rdS a_rd
        rw [eta, eT]
        have ho : ∀ t i, ¬ (t = 19 ∧ i = 0) → ¬ (t = 26 ∧ i = 0) → ¬ (t = 24 ∧ i = 0) → h5 t i = h t i := fun t i y1 y2 y3 => by
          rw [x1 t i y3, ← hf4.1 t i y1 y2]
          funext q
          unfold nv_up
          rw [if_neg (fun z => y1 ⟨z.1, z.2.1⟩)]
        have e11 : h5 19 0 11 = h 19 0 11 := by rw [x1 19 0 (by omega), nv_up_ne (by omega)]; exact hf4.2 11 (by omega) (by omega)
        have e3 : h5 19 0 3 = 0 := by rw [x1 19 0 (by omega), nv_up_same]
        have e34 : h5 24 0 34 = 0 := by rw [e24 34 (by omega), h34, e26 34 (by omega)]; rfl
        refine gQ.eq e17 ⟨rfl, ⟨⟨m_bld_ok hd hl.1 hl.2 hp hs, (g_eq hl.1 hl.2 (fun q hq => e24 q (by omega))).trans' heq, ⟨by rw [e34]; rfl, by simp, fun k M hM => by simp at hM⟩, fun M hM => by simp at hM⟩, ?_, ⟨by rw [e3]; rfl, by simp, fun k x hx => by simp at hx⟩, fun s hs => by rw [ho 20 0 (by omega) (by omega) (by omega), ho 21 0 (by omega) (by omega) (by omega), ho 22 0 (by omega) (by omega) (by omega)]; exact k4 s hs⟩, fun t i ht => ho t i (by omega) (by omega) (by omega)⟩
        show g_im _ a.2.1
        generalize a.2.1 = im at k2
        cases im with
        | none => show _ = (0 : Int); rw [e11]; exact k2
        | some w => exact ⟨by rw [e11]; exact k2.1, k2.2.kept (ho 27 0 (by omega) (by omega) (by omega))⟩
  · intro k hk ih j h1 hj hf hz
    refine nv_go ok_X6_read [2] 20 ?_
    refine w_ic (by omega) (by omega) (fun q => absurd q (by show ¬ (171 : Int) ≤ j; omega)) (fun _ => ?_)
    refine w_ix k hj (by omega) ?_
    refine ih _ _ (by omega) (fun t i x => (nv_up26 t i x).trans (hf t i x)) (fun q hq => ?_)
    by_cases e : q = k
    · rw [e, nv_up_same]
    · rw [nv_up_ne e]; exact hz q (by omega)
end nvRd
