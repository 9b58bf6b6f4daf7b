/-! ===== what is done: the reference ===== -/
theorem w_i2r {a : Int} {F : Int → Prop} (ha : nv_InR a) (hF : F a) : ∃ z : Int, (Int32.ofInt a).toInt = z ∧ F z := ⟨a, nv_toInt ha, hF⟩
theorem w_i2l {a : Int} {F : Int → Prop} (hF : F ((Int32.ofInt a).toInt)) : ∃ z : Int, (Int32.ofInt a).toInt = z ∧ F z := ⟨_, rfl, hF⟩
set_option maxRecDepth 100000 in
theorem r_addPlankM_24 {h : nv_St} {P : Nat} {x y : Int} (hP : h 24 0 17 = P) (hP5 : P < 5) : nv_R M_X6_addPlank [vr 24 0, vi x, vi y] h (fun r h' => r = some (vi P) ∧ h' 24 0 (18 + P) = x ∧ h' 24 0 (23 + P) = y ∧ h' 24 0 (2 + P) = x ∧ h' 24 0 17 = P + 1 ∧ (∀ q, ¬ q = 18 + P → ¬ q = 23 + P → ¬ q = 2 + P → ¬ q = 17 → h' 24 0 q = h 24 0 q) ∧ ∀ t i, ¬ (t = 24 ∧ i = 0) → h' t i = h t i) := by
  refine nv_R.of rfl rfl (Nat.le_of_ble_eq_true rfl) ?_
  refine nv_go ok_X6_addPlank [] 60 ?_
  refine w_ix 17 rfl (by omega) ?_
  refine w_ix (18 + P) (by omega) (by omega) ?_
  refine w_ix (23 + P) (by omega) (by omega) ?_
  refine w_ix (2 + P) (by omega) (by omega) ?_
  refine w_ix 17 rfl (by omega) ?_
  refine w_ix 17 rfl (by omega) ?_
  refine ⟨by rw [hP], ?_, ?_, ?_, ?_, fun q h1 h2 h3 h4 => ?_, fun t i hn => ?_⟩
  · rw [nv_up_ne (by omega), nv_up_ne (by omega), nv_up_ne (by omega), nv_up_same]
  · rw [nv_up_ne (by omega), nv_up_ne (by omega), nv_up_same]
  · rw [nv_up_ne (by omega), nv_up_same]
  · rw [nv_up_same, nv_up_ne (by omega), nv_up_ne (by omega), nv_up_ne (by omega), hP]
  · rw [nv_up_ne (by omega), nv_up_ne (by omega), nv_up_ne (by omega), nv_up_ne (by omega)]
  · funext r
    unfold nv_up
    rw [if_neg (fun z => hn ⟨z.1, z.2.1⟩), if_neg (fun z => hn ⟨z.1, z.2.1⟩), if_neg (fun z => hn ⟨z.1, z.2.1⟩), if_neg (fun z => hn ⟨z.1, z.2.1⟩)]
set_option maxRecDepth 100000 in
theorem r_addSawyerM_24 {h : nv_St} {P : Nat} {x y : Int} (hP : h 24 0 28 = P) (hP5 : P < 5) : nv_R M_X6_addSawyer [vr 24 0, vi x, vi y] h (fun r h' => r = some (vi P) ∧ h' 24 0 (29 + P) = x ∧ h' 24 0 (7 + P) = y ∧ h' 24 0 (12 + P) = -4 ∧ h' 24 0 28 = P + 1 ∧ (∀ q, ¬ q = 29 + P → ¬ q = 7 + P → ¬ q = 12 + P → ¬ q = 28 → h' 24 0 q = h 24 0 q) ∧ ∀ t i, ¬ (t = 24 ∧ i = 0) → h' t i = h t i) := by
  refine nv_R.of rfl rfl (Nat.le_of_ble_eq_true rfl) ?_
  refine nv_go ok_X6_addSawyer [] 60 ?_
  refine w_ix 28 rfl (by omega) ?_
  refine w_ix (29 + P) (by omega) (by omega) ?_
  refine w_ix (7 + P) (by omega) (by omega) ?_
  refine w_ix (12 + P) (by omega) (by omega) ?_
  refine w_ix 28 rfl (by omega) ?_
  refine w_ix 28 rfl (by omega) ?_
  refine ⟨by rw [hP], ?_, ?_, ?_, ?_, fun q h1 h2 h3 h4 => ?_, fun t i hn => ?_⟩
  · rw [nv_up_ne (by omega), nv_up_ne (by omega), nv_up_ne (by omega), nv_up_same]
  · rw [nv_up_ne (by omega), nv_up_ne (by omega), nv_up_same]
  · rw [nv_up_ne (by omega), nv_up_same]
  · rw [nv_up_same, nv_up_ne (by omega), nv_up_ne (by omega), nv_up_ne (by omega), hP]
  · rw [nv_up_ne (by omega), nv_up_ne (by omega), nv_up_ne (by omega), nv_up_ne (by omega)]
  · funext r
    unfold nv_up
    rw [if_neg (fun z => hn ⟨z.1, z.2.1⟩), if_neg (fun z => hn ⟨z.1, z.2.1⟩), if_neg (fun z => hn ⟨z.1, z.2.1⟩), if_neg (fun z => hn ⟨z.1, z.2.1⟩)]
set_option maxRecDepth 100000 in
theorem r_addPlankM_26 {h : nv_St} {P : Nat} {x y : Int} (hP : h 26 0 17 = P) (hP5 : P < 5) : nv_R M_X6_addPlank [vr 26 0, vi x, vi y] h (fun r h' => r = some (vi P) ∧ h' 26 0 (18 + P) = x ∧ h' 26 0 (23 + P) = y ∧ h' 26 0 (2 + P) = x ∧ h' 26 0 17 = P + 1 ∧ (∀ q, ¬ q = 18 + P → ¬ q = 23 + P → ¬ q = 2 + P → ¬ q = 17 → h' 26 0 q = h 26 0 q) ∧ ∀ t i, ¬ (t = 26 ∧ i = 0) → h' t i = h t i) := by
  refine nv_R.of rfl rfl (Nat.le_of_ble_eq_true rfl) ?_
  refine nv_go ok_X6_addPlank [] 60 ?_
  refine w_ix 17 rfl (by omega) ?_
  refine w_ix (18 + P) (by omega) (by omega) ?_
  refine w_ix (23 + P) (by omega) (by omega) ?_
  refine w_ix (2 + P) (by omega) (by omega) ?_
  refine w_ix 17 rfl (by omega) ?_
  refine w_ix 17 rfl (by omega) ?_
  refine ⟨by rw [hP], ?_, ?_, ?_, ?_, fun q h1 h2 h3 h4 => ?_, fun t i hn => ?_⟩
  · rw [nv_up_ne (by omega), nv_up_ne (by omega), nv_up_ne (by omega), nv_up_same]
  · rw [nv_up_ne (by omega), nv_up_ne (by omega), nv_up_same]
  · rw [nv_up_ne (by omega), nv_up_same]
  · rw [nv_up_same, nv_up_ne (by omega), nv_up_ne (by omega), nv_up_ne (by omega), hP]
  · rw [nv_up_ne (by omega), nv_up_ne (by omega), nv_up_ne (by omega), nv_up_ne (by omega)]
  · funext r
    unfold nv_up
    rw [if_neg (fun z => hn ⟨z.1, z.2.1⟩), if_neg (fun z => hn ⟨z.1, z.2.1⟩), if_neg (fun z => hn ⟨z.1, z.2.1⟩), if_neg (fun z => hn ⟨z.1, z.2.1⟩)]
set_option maxRecDepth 100000 in
theorem r_addSawyerM_26 {h : nv_St} {P : Nat} {x y : Int} (hP : h 26 0 28 = P) (hP5 : P < 5) : nv_R M_X6_addSawyer [vr 26 0, vi x, vi y] h (fun r h' => r = some (vi P) ∧ h' 26 0 (29 + P) = x ∧ h' 26 0 (7 + P) = y ∧ h' 26 0 (12 + P) = -4 ∧ h' 26 0 28 = P + 1 ∧ (∀ q, ¬ q = 29 + P → ¬ q = 7 + P → ¬ q = 12 + P → ¬ q = 28 → h' 26 0 q = h 26 0 q) ∧ ∀ t i, ¬ (t = 26 ∧ i = 0) → h' t i = h t i) := by
  refine nv_R.of rfl rfl (Nat.le_of_ble_eq_true rfl) ?_
  refine nv_go ok_X6_addSawyer [] 60 ?_
  refine w_ix 28 rfl (by omega) ?_
  refine w_ix (29 + P) (by omega) (by omega) ?_
  refine w_ix (7 + P) (by omega) (by omega) ?_
  refine w_ix (12 + P) (by omega) (by omega) ?_
  refine w_ix 28 rfl (by omega) ?_
  refine w_ix 28 rfl (by omega) ?_
  refine ⟨by rw [hP], ?_, ?_, ?_, ?_, fun q h1 h2 h3 h4 => ?_, fun t i hn => ?_⟩
  · rw [nv_up_ne (by omega), nv_up_ne (by omega), nv_up_ne (by omega), nv_up_same]
  · rw [nv_up_ne (by omega), nv_up_ne (by omega), nv_up_same]
  · rw [nv_up_ne (by omega), nv_up_same]
  · rw [nv_up_same, nv_up_ne (by omega), nv_up_ne (by omega), nv_up_ne (by omega), hP]
  · rw [nv_up_ne (by omega), nv_up_ne (by omega), nv_up_ne (by omega), nv_up_ne (by omega)]
  · funext r
    unfold nv_up
    rw [if_neg (fun z => hn ⟨z.1, z.2.1⟩), if_neg (fun z => hn ⟨z.1, z.2.1⟩), if_neg (fun z => hn ⟨z.1, z.2.1⟩), if_neg (fun z => hn ⟨z.1, z.2.1⟩)]
theorem g_past.head {h : nv_St} {j P S : Nat} {M N : m_NN} {pl : List m_NN} (k : g_past h j P S ((M :: pl).take 8)) (e : m_eqm P S M N) : g_past h j P S ((N :: pl).take 8) := by
  obtain ⟨a3, a4, a5⟩ := k
  have hl : ((N :: pl).take 8).length = ((M :: pl).take 8).length := by simp
  refine ⟨by rw [a3, hl], by omega, fun i M' hM' => ?_⟩
  rw [hl]
  cases i with
  | zero =>
    have := a5 0 M (by simp)
    simp at hM'
    subst hM'
    exact this.trans' e
  | succ i => exact a5 (i + 1) M' (by rw [← hM']; simp [List.getElem?_take])
theorem MI.upd {h h' : nv_St} {a : a_S} (C : MI h a) {w : a_W} (hf : m_frM 24 h h') (hW : g_W h' 24 w) : MI h' (w, a.2) ∧ ∀ t i, t < 19 → h' t i = h t i := by
  obtain ⟨k1, k2, k3, k4⟩ := C
  refine ⟨⟨hW, ?_, ⟨by rw [hf 19 0 (by omega)]; exact k3.1, k3.2.1, fun i x hx => by rw [hf 23 0 (by omega)]; exact k3.2.2 i x hx⟩, fun s hs => by rw [hf 20 0 (by omega), hf 21 0 (by omega), hf 22 0 (by omega)]; exact k4 s hs⟩, fun t i ht => hf t i (by omega)⟩
  show g_im h' a.2.1
  generalize a.2.1 = im at k2
  cases im with
  | none => show h' 19 0 11 = 0; rw [hf 19 0 (by omega)]; exact k2
  | some w => exact ⟨by rw [hf 19 0 (by omega)]; exact k2.1, k2.2.kept (hf 27 0 (by omega))⟩
theorem m_frM.of {c : Nat} {h h' : nv_St} (k : ∀ t i, ¬ (t = c ∧ i = 0) → h' t i = h t i) : m_frM c h h' := fun t i hn => k t i (by rintro ⟨rfl, rfl⟩; exact hn ⟨Or.inl rfl, rfl⟩)
set_option maxRecDepth 100000 in
theorem r_noteW {h : nv_St} {w : a_W} (k : g_W h 24 w) : nv_R M_X6_note [vr 19 0] h (fun r h' => r = none ∧ g_W h' 24 (w.1, w.2.1, w.2.2.1, (w.2.2.1 :: w.2.2.2).take 8) ∧ (∀ q, q < 34 → h' 24 0 q = h 24 0 q) ∧ m_frM 24 h h') := by
  intro l X hok
  obtain ⟨k1, k2, k3, k4⟩ := k
  refine nv_R.post (M := M_X6_note) (r_note k1.1 k1.2.1 k3) (fun r h' hr => ?_) l X hok
  obtain ⟨rfl, hp, h0, hf⟩ := hr
  exact ⟨rfl, ⟨k1, (g_eq k1.1 k1.2.1 h0).trans' k2, hp.head k2.m, m_okl_take k1.mo k4⟩, h0, m_frM.of hf⟩
theorem g_W.step {h h' : nv_St} {w : a_W} {N' : m_NN} (k : g_W h 24 (w.1, w.2.1, w.2.2.1, (w.2.2.1 :: w.2.2.2).take 8)) (hf : ∀ q, 34 ≤ q → h' 24 0 q = h 24 0 q) (he : m_eq w.1 w.2.1 (m_mm h' 24) N') (hok : m_ok N' w.1 w.2.1 9999) : g_W h' 24 (w.1, w.2.1, N', (w.2.2.1 :: w.2.2.2).take 8) :=
  ⟨hok, he, k.2.2.1.kept hf, k.2.2.2⟩
theorem nv_up_hi {h : nv_St} {c j : Nat} {x : Int} (hj : j < 34) : ∀ q, 34 ≤ q → nv_up h c 0 j x c 0 q = h c 0 q := fun q hq => nv_up_ne (by omega)
section nvGA
variable {h : nv_St} {a : a_S}
set_option maxRecDepth 100000 in
theorem r_plank_g (C : MI h a) {v k : Int} (hv : nv_InR v) (hk : nv_InR k) : nv_R M_X6_plank [vr 19 0, vi v, vi k] h (gQ h (if a_out v 1 99 = true then a else if a_out k 0 9 = true then a else if a_P a = 5 then a else ((a_P a + 1, a_Sw a, m_addP (a_N a) v k v, []), a.2)) (if a_out v 1 99 = true then -1 else if a_out k 0 9 = true then -1 else if a_P a = 5 then -3 else a_P a)) := by
  obtain ⟨hok, he, hNok⟩ := C.now
  obtain ⟨hP5, hS5, hP, hS, hH, hDr, hpl, hsw⟩ := hok.m
  refine nv_R.of rfl rfl (Nat.le_of_ble_eq_true rfl) ?_
  refine nv_go ok_X6_plank [] 40 ?_
  refine w_call (r_inA hv (by omega) (by omega)) (fun r h' hr => ?_)
  obtain ⟨rfl, rfl⟩ := hr
  refine w_ifb (fun c => ?_) (fun c => ?_)
  · rw [if_pos (bn_f c), if_pos (bn_f c)]
    exact gQ.same C
  · refine w_call (r_inA hk (by omega) (by omega)) (fun r h' hr => ?_)
    obtain ⟨rfl, rfl⟩ := hr
    have b1 : ¬ a_out v 1 99 = true := by rw [bn_t c]; decide
    refine w_ifb (fun c2 => ?_) (fun c2 => ?_)
    · rw [if_neg b1, if_pos (bn_f c2), if_neg b1, if_pos (bn_f c2)]
      exact gQ.same C
    · have b2 : ¬ a_out k 0 9 = true := by rw [bn_t c2]; decide
      have g1 := a_out_f (bn_t c)
      have g2 := a_out_f (bn_t c2)
      refine w_ix 17 rfl (by omega) ?_
      refine w_ic (by omega) (by omega) (fun c3 => ?_) (fun c3 => ?_)
      · have c3 : h' 24 0 17 = 5 := c3
        have e5 : a_P a = 5 := by omega
        rw [if_neg b1, if_neg b2, if_pos e5, if_neg b1, if_neg b2, if_pos e5]
        exact gQ.same C
      · have c3 : ¬ h' 24 0 17 = 5 := c3
        have e5 : a_P a < 5 := by omega
        refine w_ix 34 rfl (by omega) ?_
        refine w_call (r_addPlankM_24 (P := a_P a) (by rw [nv_up_ne (by omega)]; exact hP) e5) (fun r h3 hr => ?_)
        obtain ⟨rfl, x1, x2, x3, x4, x5, x6⟩ := hr
        rw [if_neg b1, if_neg b2, if_neg (by omega), if_neg b1, if_neg b2, if_neg (by omega)]
        have hmP : m_P (a_N a) = a_P a := m_P_eq hNok
        have y5 : ∀ q, ¬ q = 18 + a_P a → ¬ q = 23 + a_P a → ¬ q = 2 + a_P a → ¬ q = 17 → ¬ q = 34 → h3 24 0 q = h' 24 0 q := fun q q1 q2 q3 q4 q5 => by rw [x5 q q1 q2 q3 q4, nv_up_ne q5]
        have hok' : m_ok (m_addP (a_N a) v k v) (a_P a + 1) (a_Sw a) 9999 := by
          obtain ⟨q1, q2, q3, q4, q5, q6, q7, q8⟩ := id hNok
          refine ⟨by omega, q2, ?_, q4, q5, q6, fun p hp => ?_, fun s hs => ⟨(q8 s hs).1, (q8 s hs).2.1, ?_⟩⟩
          · show a_N a 0 0 + 1 = ((a_P a + 1 : Nat) : Int)
            omega
          · show (0 ≤ (if p = m_P (a_N a) then v else a_N a 1 p) ∧ (if p = m_P (a_N a) then v else a_N a 1 p) ≤ 99) ∧ (0 ≤ (if p = m_P (a_N a) then k else a_N a 2 p) ∧ (if p = m_P (a_N a) then k else a_N a 2 p) ≤ 9) ∧ (0 ≤ (if p = m_P (a_N a) then v else a_N a 3 p) ∧ (if p = m_P (a_N a) then v else a_N a 3 p) ≤ 99)
            rw [hmP]
            by_cases ep : p = a_P a
            · simp only [ep, if_true]; omega
            · simp only [if_neg ep]; exact q7 p (by omega)
          · have := (q8 s hs).2.2
            show a_N a 6 s = -4 ∨ (0 ≤ a_N a 6 s ∧ a_N a 6 s < ((a_P a + 1 : Nat) : Int))
            omega
        have he' : m_eq (a_P a + 1) (a_Sw a) (m_mm h3 24) (m_addP (a_N a) v k v) := by
          refine ⟨fun j hj => ?_, fun p hp => ?_, fun s hs => ⟨?_, ?_, ?_⟩⟩
          · have : j = 0 ∨ j = 1 ∨ j = 2 ∨ j = 3 := by omega
            rcases this with rfl | rfl | rfl | rfl
            · show h3 24 0 17 = a_N a 0 0 + 1; rw [x4]; have := hNok.2.2.1; omega
            · show h3 24 0 28 = a_N a 0 1; rw [y5 28 (by omega) (by omega) (by omega) (by omega) (by omega)]; exact he.1 1 (by omega)
            · show h3 24 0 0 = a_N a 0 2; rw [y5 0 (by omega) (by omega) (by omega) (by omega) (by omega)]; exact he.1 2 (by omega)
            · show h3 24 0 1 = a_N a 0 3; rw [y5 1 (by omega) (by omega) (by omega) (by omega) (by omega)]; exact he.1 3 (by omega)
          · show h3 24 0 (18 + p) = (if p = m_P (a_N a) then v else a_N a 1 p) ∧ h3 24 0 (23 + p) = (if p = m_P (a_N a) then k else a_N a 2 p) ∧ h3 24 0 (2 + p) = (if p = m_P (a_N a) then v else a_N a 3 p)
            rw [hmP]
            by_cases ep : p = a_P a
            · rw [ep, if_pos rfl, if_pos rfl, if_pos rfl]; exact ⟨x1, x2, x3⟩
            · rw [if_neg ep, if_neg ep, if_neg ep, y5 (18 + p) (by omega) (by omega) (by omega) (by omega) (by omega), y5 (23 + p) (by omega) (by omega) (by omega) (by omega) (by omega), y5 (2 + p) (by omega) (by omega) (by omega) (by omega) (by omega)]
              exact he.2.1 p (by omega)
          · show h3 24 0 (29 + s) = a_N a 4 s; rw [y5 _ (by omega) (by omega) (by omega) (by omega) (by omega)]; exact (he.2.2 s hs).1
          · show h3 24 0 (7 + s) = a_N a 5 s; rw [y5 _ (by omega) (by omega) (by omega) (by omega) (by omega)]; exact (he.2.2 s hs).2.1
          · show h3 24 0 (12 + s) = a_N a 6 s; rw [y5 _ (by omega) (by omega) (by omega) (by omega) (by omega)]; exact (he.2.2 s hs).2.2
        exact ⟨rfl, C.upd (m_frM.rfl'.up.trans' (m_frM.of x6)) ⟨hok', he', ⟨by rw [x5 34 (by omega) (by omega) (by omega) (by omega), nv_up_same]; rfl, by simp, fun k M hM => by simp at hM⟩, fun M hM => by simp at hM⟩⟩
set_option maxRecDepth 100000 in
theorem r_sawyer_g (C : MI h a) {v k : Int} (hv : nv_InR v) (hk : nv_InR k) : nv_R M_X6_sawyer [vr 19 0, vi v, vi k] h (gQ h (if a_out v 0 4 = true then a else if a_out k 0 9 = true then a else if a_Sw a = 5 then a else ((a_P a, a_Sw a + 1, m_addS (a_N a) v k (-4), []), a.2)) (if a_out v 0 4 = true then -1 else if a_out k 0 9 = true then -1 else if a_Sw a = 5 then -3 else a_Sw a)) := by
  obtain ⟨hok, he, hNok⟩ := C.now
  obtain ⟨hP5, hS5, hP, hS, hH, hDr, hpl, hsw⟩ := hok.m
  refine nv_R.of rfl rfl (Nat.le_of_ble_eq_true rfl) ?_
  refine nv_go ok_X6_sawyer [] 40 ?_
  refine w_call (r_inA hv (by omega) (by omega)) (fun r h' hr => ?_)
  obtain ⟨rfl, rfl⟩ := hr
  refine w_ifb (fun c => ?_) (fun c => ?_)
  · rw [if_pos (bn_f c), if_pos (bn_f c)]
    exact gQ.same C
  · refine w_call (r_inA hk (by omega) (by omega)) (fun r h' hr => ?_)
    obtain ⟨rfl, rfl⟩ := hr
    have b1 : ¬ a_out v 0 4 = true := by rw [bn_t c]; decide
    refine w_ifb (fun c2 => ?_) (fun c2 => ?_)
    · rw [if_neg b1, if_pos (bn_f c2), if_neg b1, if_pos (bn_f c2)]
      exact gQ.same C
    · have b2 : ¬ a_out k 0 9 = true := by rw [bn_t c2]; decide
      have g1 := a_out_f (bn_t c)
      have g2 := a_out_f (bn_t c2)
      refine w_ix 28 rfl (by omega) ?_
      refine w_ic (by omega) (by omega) (fun c3 => ?_) (fun c3 => ?_)
      · have c3 : h' 24 0 28 = 5 := c3
        have e5 : a_Sw a = 5 := by omega
        rw [if_neg b1, if_neg b2, if_pos e5, if_neg b1, if_neg b2, if_pos e5]
        exact gQ.same C
      · have c3 : ¬ h' 24 0 28 = 5 := c3
        have e5 : a_Sw a < 5 := by omega
        refine w_ix 34 rfl (by omega) ?_
        refine w_call (r_addSawyerM_24 (P := a_Sw a) (by rw [nv_up_ne (by omega)]; exact hS) e5) (fun r h3 hr => ?_)
        obtain ⟨rfl, x1, x2, x3, x4, x5, x6⟩ := hr
        rw [if_neg b1, if_neg b2, if_neg (by omega), if_neg b1, if_neg b2, if_neg (by omega)]
        have hmS2 : m_S (a_N a) = a_Sw a := m_S_eq hNok
        have y5 : ∀ q, ¬ q = 29 + a_Sw a → ¬ q = 7 + a_Sw a → ¬ q = 12 + a_Sw a → ¬ q = 28 → ¬ q = 34 → h3 24 0 q = h' 24 0 q := fun q q1 q2 q3 q4 q5 => by rw [x5 q q1 q2 q3 q4, nv_up_ne q5]
        have hok' : m_ok (m_addS (a_N a) v k (-4)) (a_P a) (a_Sw a + 1) 9999 := by
          obtain ⟨q1, q2, q3, q4, q5, q6, q7, q8⟩ := id hNok
          refine ⟨q1, by omega, q3, ?_, q5, q6, fun p hp => q7 p hp, fun s hs => ?_⟩
          · show a_N a 0 1 + 1 = ((a_Sw a + 1 : Nat) : Int)
            omega
          · show (0 ≤ (if s = m_S (a_N a) then v else a_N a 4 s) ∧ (if s = m_S (a_N a) then v else a_N a 4 s) ≤ 4) ∧ (0 ≤ (if s = m_S (a_N a) then k else a_N a 5 s) ∧ (if s = m_S (a_N a) then k else a_N a 5 s) ≤ 9) ∧ ((if s = m_S (a_N a) then -4 else a_N a 6 s) = -4 ∨ (0 ≤ (if s = m_S (a_N a) then -4 else a_N a 6 s) ∧ (if s = m_S (a_N a) then -4 else a_N a 6 s) < a_P a))
            rw [hmS2]
            by_cases ep : s = a_Sw a
            · simp only [if_pos ep]; exact ⟨by omega, by omega, Or.inl trivial⟩
            · simp only [if_neg ep]; exact q8 s (by omega)
        have he' : m_eq (a_P a) (a_Sw a + 1) (m_mm h3 24) (m_addS (a_N a) v k (-4)) := by
          refine ⟨fun j hj => ?_, fun p hp => ⟨?_, ?_, ?_⟩, fun s hs => ?_⟩
          · have : j = 0 ∨ j = 1 ∨ j = 2 ∨ j = 3 := by omega
            rcases this with rfl | rfl | rfl | rfl
            · show h3 24 0 17 = a_N a 0 0; rw [y5 17 (by omega) (by omega) (by omega) (by omega) (by omega)]; exact he.1 0 (by omega)
            · show h3 24 0 28 = a_N a 0 1 + 1; rw [x4]; have := hNok.2.2.2.1; omega
            · show h3 24 0 0 = a_N a 0 2; rw [y5 0 (by omega) (by omega) (by omega) (by omega) (by omega)]; exact he.1 2 (by omega)
            · show h3 24 0 1 = a_N a 0 3; rw [y5 1 (by omega) (by omega) (by omega) (by omega) (by omega)]; exact he.1 3 (by omega)
          · show h3 24 0 (18 + p) = a_N a 1 p; rw [y5 _ (by omega) (by omega) (by omega) (by omega) (by omega)]; exact (he.2.1 p hp).1
          · show h3 24 0 (23 + p) = a_N a 2 p; rw [y5 _ (by omega) (by omega) (by omega) (by omega) (by omega)]; exact (he.2.1 p hp).2.1
          · show h3 24 0 (2 + p) = a_N a 3 p; rw [y5 _ (by omega) (by omega) (by omega) (by omega) (by omega)]; exact (he.2.1 p hp).2.2
          · show h3 24 0 (29 + s) = (if s = m_S (a_N a) then v else a_N a 4 s) ∧ h3 24 0 (7 + s) = (if s = m_S (a_N a) then k else a_N a 5 s) ∧ h3 24 0 (12 + s) = (if s = m_S (a_N a) then -4 else a_N a 6 s)
            rw [hmS2]
            by_cases ep : s = a_Sw a
            · rw [ep, if_pos rfl, if_pos rfl, if_pos rfl]; exact ⟨x1, x2, x3⟩
            · rw [if_neg ep, if_neg ep, if_neg ep, y5 (29 + s) (by omega) (by omega) (by omega) (by omega) (by omega), y5 (7 + s) (by omega) (by omega) (by omega) (by omega) (by omega), y5 (12 + s) (by omega) (by omega) (by omega) (by omega) (by omega)]
              exact he.2.2 s (by omega)
        exact ⟨rfl, C.upd (m_frM.rfl'.up.trans' (m_frM.of x6)) ⟨hok', he', ⟨by rw [x5 34 (by omega) (by omega) (by omega) (by omega), nv_up_same]; rfl, by simp, fun k M hM => by simp at hM⟩, fun M hM => by simp at hM⟩⟩
set_option maxRecDepth 100000 in
theorem r_hours_g (C : MI h a) {n : Int} (hn : nv_InR n) : nv_R M_X6_hours [vr 19 0, vi n] h (gQ h (a_runS m_hour a n) (a_run m_hour a n)) := by
  obtain ⟨hok, he, hNok⟩ := C.now
  obtain ⟨hP5, hS5, hP, hS, hH, hDr, hpl, hsw⟩ := hok.m
  have e2 : h 24 0 0 = a_N a 0 2 := he.1 2 (by omega)
  refine nv_R.of rfl rfl (Nat.le_of_ble_eq_true rfl) ?_
  refine nv_go ok_X6_hours [31] 40 ?_
  refine w_call (r_inA hn (by omega) (by omega)) (fun r h' hr => ?_)
  obtain ⟨rfl, rfl⟩ := hr
  refine w_ifb (fun c => ?_) (fun c => ?_)
  · unfold a_run a_runS
    rw [if_pos (bn_f c), if_pos (bn_f c)]
    exact gQ.same C
  · have b1 : ¬ a_out n 1 40 = true := by rw [bn_t c]; decide
    have g1 := a_out_f (bn_t c)
    refine w_ix 0 rfl (by omega) ?_
    refine w_ic (by omega) (by omega) (fun c2 => ?_) (fun c2 => ?_)
    · have c2 : h' 24 0 0 + n ≤ 9999 := c2
      have b2 : ¬ 9999 < a_N a 0 2 + n := by omega
      obtain ⟨m, rfl⟩ : ∃ m : Nat, n = m := ⟨n.toNat, by omega⟩
      have ea : a_run m_hour a m = m_set (fun p => (a_steps m_hour m a.1).2.2.1 3 p = 0) (a_P a) := by unfold a_run; rw [if_neg b1, if_neg b2]; rfl
      have eS : a_runS m_hour a m = (a_steps m_hour m a.1, a.2) := by unfold a_runS; rw [if_neg b1, if_neg b2]; rfl
      rw [ea, eS]
      have loop := m_down (n := m) (G := fun k => ∀ (j : Int) (h1 : nv_St), j = k → g_W h1 24 (a_steps m_hour k a.1) → m_frM 24 h' h1 → nv_V M_X6_hours 31 [(0, vr 19 0), (1, vi m), (2, vi j)] [] h1 (gQ h' (a_steps m_hour m a.1, a.2) (m_set (fun p => (a_steps m_hour m a.1).2.2.1 3 p = 0) (a_P a)))) ?_ ?_
      · exact loop 0 (by omega) _ _ rfl C.1 m_frM.rfl'
      · intro j h1 hj hW hf
        have hPS := a_steps_PS m_hour m a.1
        have hok1 := (hW.2.1.ok hW.1).m
        refine nv_go ok_X6_hours [31] 20 ?_
        refine w_ic (by omega) (by omega) (fun c3 => ?_) (fun c3 => ?_)
        · refine w_call (r_fallenM_24 hok1.1 hok1.2.2.1 (fun p hp => (hok1.2.2.2.2.2.2.1 p hp).2.2)) (fun r h3 hr => ?_)
          obtain ⟨rfl, rfl⟩ := hr
          refine gQ.eq ?_ ⟨rfl, C.upd hf hW⟩
          rw [hPS.1]
          exact m_set_eq (fun p hp => by have e : h3 24 0 (2 + p) = (a_steps m_hour m a.1).2.2.1 3 p := (hW.2.1.2.1 p (by rw [hPS.1]; exact hp)).2.2; rw [e])
        · exact absurd (by show (m : Int) ≤ j; omega) c3
      · intro k hk ih j h1 hj hW hf
        refine nv_go ok_X6_hours [31] 30 ?_
        refine w_ic (by omega) (by omega) (fun c3 => ?_) (fun c3 => ?_)
        · exact absurd c3 (by show ¬ ((m : Int) ≤ j); omega)
        · refine w_call (r_noteW hW) (fun r h3 hr => ?_)
          obtain ⟨rfl, hW3, h03, hf3⟩ := hr
          have hok3 := hW3.2.1.ok hW3.1
          refine w_call (r_hourIn_24 hok3 (by omega) (hop := 0) (by decide) (by decide)) (fun r h4 hr => ?_)
          obtain ⟨rfl, he4, hk4, hf4⟩ := hr
          rw [m_hc_0, m_hourC_cut] at he4
          have hh := a_steps_hour (f := m_hour) (fun _ => rfl) k a.1
          refine ih _ _ (by omega) (hW3.step hk4 (he4.trans' (m_hour_eq hW3.2.1 hok3)) ((m_hour_ok hW3.1).bound ?_)) (hf.trans' (hf3.trans' hf4))
          show (a_steps m_hour k a.1).2.2.1 0 2 + 1 ≤ 9999
          have : a.1.2.2.1 0 2 = a_N a 0 2 := rfl
          omega
    · have c2 : ¬ h' 24 0 0 + n ≤ 9999 := c2
      have b2 : 9999 < a_N a 0 2 + n := by omega
      unfold a_run a_runS
      rw [if_neg b1, if_pos b2, if_neg b1, if_pos b2]
      exact gQ.same C
set_option maxRecDepth 100000 in
theorem r_set_g (C : MI h a) {v p : Int} (hv : nv_InR v) (hp : nv_InR p) : nv_R M_X6_set [vr 19 0, vi v, vi p] h (gQ h (a_setS a v p) (a_set a v p)) := by
  obtain ⟨hok, he, hNok⟩ := C.now
  obtain ⟨hP5, hS5, hP, hS, hH, hDr, hpl, hsw⟩ := hok.m
  have bad : a_setB a v p = true → gQ h (a_setS a v p) (a_set a v p) (some (vi (-1))) h := fun hb => by
    unfold a_setS a_set; rw [if_pos hb, if_pos hb]; exact gQ.same C
  have h24 : a_setB a v p = false → (∃ s : Nat, v = s ∧ s < a_Sw a) → (p = -4 ∨ (0 ≤ p ∧ p < a_P a)) → nv_V M_X6_set 24 [(0, vr 19 0), (1, vi v), (2, vi p)] [] h (gQ h (a_setS a v p) (a_set a v p)) := by
    rintro hb ⟨s, rfl, hs⟩ hpr
    have nb : ¬ a_setB a (s : Int) p = true := by rw [hb]; decide
    have e6 : h 24 0 (12 + s) = a_N a 6 s := (he.2.2 s hs).2.2
    have h6 := (hsw s hs).2.2
    refine nv_go ok_X6_set [] 60 ?_
    refine w_ix (12 + s) (by omega) (by omega) ?_
    refine w_ic (by omega) hp (fun c => ?_) (fun c => ?_)
    · have c : a_N a 6 (s : Int).toNat = p := by rw [← c]; exact e6.symm
      unfold a_setS a_set
      rw [if_neg nb, if_pos c, if_neg nb, if_pos c]
      exact gQ.same C
    · have c : ¬ a_N a 6 (s : Int).toNat = p := fun q => c (by show h 24 0 (12 + s) = p; rw [e6]; exact q)
      refine w_call (r_noteW C.1) (fun r h3 hr => ?_)
      obtain ⟨rfl, hW3, h03, hf3⟩ := hr
      refine w_ix (12 + s) (by omega) (by omega) ?_
      unfold a_setS a_set
      rw [if_neg nb, if_neg c, if_neg nb, if_neg c]
      refine gQ.eq e6 ⟨rfl, C.upd hf3.up ?_⟩
      exact hW3.step (w := a.1) (nv_up_hi (by omega)) (N' := m_put a.1.2.2.1 6 s p) (((m_mm_put (h := h3) (c := 24) (t := 6) (j := s) (x := p) (by omega)).le hP5 hS5).trans' (m_put_eq hW3.2.1)) (m_put_ok6 hW3.1 hpr)
  refine nv_R.of rfl rfl (Nat.le_of_ble_eq_true rfl) ?_
  refine nv_go ok_X6_set [24] 40 ?_
  refine w_call (r_isSawyerA hS5 hS hv) (fun r h' hr => ?_)
  obtain ⟨rfl, rfl⟩ := hr
  refine w_ifb (fun c => ?_) (fun c => ?_)
  · exact bad (by unfold a_setB; rw [bn_f c]; rfl)
  · have c := bn_t c
    refine w_ic hp (by omega) (fun c2 => ?_) (fun c2 => ?_)
    · have c2 : p = -4 := c2
      exact h24 (by unfold a_setB; rw [c, c2]; rfl) (a_bp_f c) (Or.inl c2)
    · have c2 : ¬ p = -4 := c2
      refine w_call (r_isPlankA hP5 hP hp) (fun r h2 hr => ?_)
      obtain ⟨rfl, rfl⟩ := hr
      refine w_ifb (fun c3 => ?_) (fun c3 => ?_)
      · exact bad (by unfold a_setB; rw [bn_f c3, decide_eq_true c2]; simp)
      · obtain ⟨q, hq, hq2⟩ := a_bp_f (bn_t c3)
        exact h24 (by unfold a_setB; rw [c, bn_t c3, Bool.and_false]; rfl) (a_bp_f c) (Or.inr (by omega))
set_option maxRecDepth 100000 in
theorem r_sharpen_g (C : MI h a) {v n : Int} (hv : nv_InR v) (hn : nv_InR n) : nv_R M_X6_sharpen [vr 19 0, vi v, vi n] h (gQ h (a_shaS a v n) (a_sha a v n)) := by
  obtain ⟨hok, he, hNok⟩ := C.now
  obtain ⟨hP5, hS5, hP, hS, hH, hDr, hpl, hsw⟩ := hok.m
  have bad : a_shaB a v n = true → gQ h (a_shaS a v n) (a_sha a v n) (some (vi (-1))) h := fun hb => by
    unfold a_shaS a_sha; rw [if_pos hb, if_pos hb]; exact gQ.same C
  refine nv_R.of rfl rfl (Nat.le_of_ble_eq_true rfl) ?_
  refine nv_go ok_X6_sharpen [81] 60 ?_
  refine w_call (r_isSawyerA hS5 hS hv) (fun r h' hr => ?_)
  obtain ⟨rfl, rfl⟩ := hr
  refine w_ifb (fun c => ?_) (fun c => ?_)
  · exact bad (by unfold a_shaB; rw [bn_f c]; rfl)
  · have c := bn_t c
    refine w_call (r_inA hn (by omega) (by omega)) (fun r h2 hr => ?_)
    obtain ⟨rfl, rfl⟩ := hr
    refine w_ifb (fun c2 => ?_) (fun c2 => ?_)
    · exact bad (by unfold a_shaB; rw [bn_f c2, Bool.or_true])
    · have c2 := bn_t c2
      have nb : ¬ a_shaB a v n = true := by unfold a_shaB; rw [c, c2]; decide
      obtain ⟨s, rfl, hs⟩ := a_bp_f c
      have g2 := a_out_f c2
      have e5 : h2 24 0 (7 + s) = a_N a 5 s := (he.2.2 s hs).2.1
      have h5 := (hsw s hs).2.1
      refine w_ix (7 + s) (by omega) (by omega) ?_
      refine w_ic (by omega) (by omega) (fun c3 => ?_) (fun c3 => ?_)
      · have c3 : a_N a 5 (s : Int).toNat = 9 := e5.symm.trans c3
        unfold a_shaS a_sha
        rw [if_neg nb, if_pos c3, if_neg nb, if_pos c3]
        exact gQ.same C
      · have c3 : ¬ a_N a 5 (s : Int).toNat = 9 := fun q => c3 (e5.trans q)
        refine w_call (r_noteW C.1) (fun r h3 hr => ?_)
        obtain ⟨rfl, hW3, h03, hf3⟩ := hr
        have e53 : h3 24 0 (7 + s) = h2 24 0 (7 + s) := h03 _ (by omega)
        have j81 : ∀ x : Int, x = min 9 (a_N a 5 s + n) → nv_V M_X6_sharpen 81 [(0, vr 19 0), (1, vi s), (2, vi n)] [vi x, vi (7 + s), vr 24 0] h3 (gQ h2 (a_shaS a s n) (a_sha a s n)) := by
          intro x hx
          refine nv_go ok_X6_sharpen [] 60 ?_
          refine w_ix (7 + s) (by omega) (by omega) ?_
          refine w_ix (7 + s) (by omega) (by omega) ?_
          unfold a_shaS a_sha
          rw [if_neg nb, if_neg c3, if_neg nb, if_neg c3]
          refine gQ.eq (by rw [nv_up_same, hx]; rfl) ⟨rfl, C.upd hf3.up ?_⟩
          refine hW3.step (w := a.1) (nv_up_hi (by omega)) (N' := m_put a.1.2.2.1 5 s (min 9 (a.1.2.2.1 5 s + n))) ?_ (m_put_ok5 hW3.1 ?_)
          · rw [hx]
            exact ((m_mm_put (h := h3) (c := 24) (t := 5) (j := s) (by omega)).le hP5 hS5).trans' (m_put_eq hW3.2.1)
          · have : a.1.2.2.1 5 s = a_N a 5 s := rfl
            omega
        refine w_ix (7 + s) (by omega) (by omega) ?_
        refine w_ic (by omega) (by omega) (fun c4 => ?_) (fun c4 => ?_)
        · have c4 : h3 24 0 (7 + s) + n ≤ 9 := c4
          refine w_ix (7 + s) (by omega) (by omega) ?_
          exact j81 _ (by omega)
        · have c4 : ¬ h3 24 0 (7 + s) + n ≤ 9 := c4
          exact j81 _ (by omega)
set_option maxRecDepth 100000 in
theorem r_soak_g (C : MI h a) {v n : Int} (hv : nv_InR v) (hn : nv_InR n) : nv_R M_X6_soak [vr 19 0, vi v, vi n] h (gQ h (a_soS a v n) (a_so a v n)) := by
  obtain ⟨hok, he, hNok⟩ := C.now
  obtain ⟨hP5, hS5, hP, hS, hH, hDr, hpl, hsw⟩ := hok.m
  have bad : a_soB a v n = true → gQ h (a_soS a v n) (a_so a v n) (some (vi (-1))) h := fun hb => by
    unfold a_soS a_so; rw [if_pos hb, if_pos hb]; exact gQ.same C
  refine nv_R.of rfl rfl (Nat.le_of_ble_eq_true rfl) ?_
  refine nv_go ok_X6_soak [69] 60 ?_
  refine w_call (r_isPlankA hP5 hP hv) (fun r h' hr => ?_)
  obtain ⟨rfl, rfl⟩ := hr
  refine w_ifb (fun c => ?_) (fun c => ?_)
  · exact bad (by unfold a_soB; rw [bn_f c]; rfl)
  · have c := bn_t c
    refine w_call (r_inA hn (by omega) (by omega)) (fun r h2 hr => ?_)
    obtain ⟨rfl, rfl⟩ := hr
    refine w_ifb (fun c2 => ?_) (fun c2 => ?_)
    · exact bad (by unfold a_soB; rw [bn_f c2, Bool.or_true])
    · have c2 := bn_t c2
      have nb : ¬ a_soB a v n = true := by unfold a_soB; rw [c, c2]; decide
      obtain ⟨p, rfl, hp⟩ := a_bp_f c
      have g2 := a_out_f c2
      have e3 : h2 24 0 (2 + p) = a_N a 3 p := (he.2.1 p hp).2.2
      have h3r := (hpl p hp).2.2
      have no : (h2 24 0 (2 + p) = 0 ∨ h2 24 0 (2 + p) = 99) → gQ h2 (a_soS a p n) (a_so a p n) (some (vi (-2))) h2 := fun hb => by
        have hb2 : a_N a 3 (p : Int).toNat = 0 ∨ a_N a 3 (p : Int).toNat = 99 := by show a_N a 3 p = 0 ∨ a_N a 3 p = 99; omega
        unfold a_soS a_so
        rw [if_neg nb, if_pos hb2, if_neg nb, if_pos hb2]
        exact gQ.same C
      refine w_ix (2 + p) (by omega) (by omega) ?_
      refine w_if (by omega) (fun c3 => ?_) (fun c3 => ?_)
      · exact no (Or.inl c3)
      · have c3 : ¬ h2 24 0 (2 + p) = 0 := c3
        refine w_ic (by omega) (by omega) (fun c4 => ?_) (fun c4 => ?_)
        · exact no (Or.inr c4)
        · have c4 : ¬ h2 24 0 (2 + p) = 99 := c4
          have nn : ¬ (a_N a 3 (p : Int).toNat = 0 ∨ a_N a 3 (p : Int).toNat = 99) := by show ¬ (a_N a 3 p = 0 ∨ a_N a 3 p = 99); omega
          refine w_call (r_noteW C.1) (fun r h3 hr => ?_)
          obtain ⟨rfl, hW3, h03, hf3⟩ := hr
          have j69 : ∀ x : Int, x = min 99 (a_N a 3 p + n) → nv_V M_X6_soak 69 [(0, vr 19 0), (1, vi p), (2, vi n), (3, vi (h2 24 0 (2 + p)))] [vi x, vi (2 + p), vr 24 0] h3 (gQ h2 (a_soS a p n) (a_so a p n)) := by
            intro x hx
            refine nv_go ok_X6_soak [] 60 ?_
            refine w_ix (2 + p) (by omega) (by omega) ?_
            refine w_ix (2 + p) (by omega) (by omega) ?_
            unfold a_soS a_so
            rw [if_neg nb, if_neg nn, if_neg nb, if_neg nn]
            refine gQ.eq (by rw [nv_up_same, hx]; rfl) ⟨rfl, C.upd hf3.up ?_⟩
            refine hW3.step (w := a.1) (nv_up_hi (by omega)) (N' := m_put a.1.2.2.1 3 p (min 99 (a.1.2.2.1 3 p + n))) ?_ (m_put_ok3 hW3.1 ?_)
            · rw [hx]
              exact ((m_mm_put (h := h3) (c := 24) (t := 3) (j := p) (by omega)).le hP5 hS5).trans' (m_put_eq hW3.2.1)
            · have : a.1.2.2.1 3 p = a_N a 3 p := rfl
              omega
          refine w_ic (by omega) (by omega) (fun c5 => ?_) (fun c5 => ?_)
          · have c5 : h2 24 0 (2 + p) + n ≤ 99 := c5
            exact j69 _ (by omega)
          · have c5 : ¬ h2 24 0 (2 + p) + n ≤ 99 := c5
            exact j69 _ (by omega)
theorem m_mm_put3 {h : nv_St} {c : Nat} {x : Int} : m_eq 5 5 (m_mm (nv_up h c 0 1 x) c) (m_put (m_mm h c) 0 3 x) := by
  refine ⟨fun k hk => ?_, fun p hp => ⟨?_, ?_, ?_⟩, fun s hs => ⟨?_, ?_, ?_⟩⟩
  · have : k = 0 ∨ k = 1 ∨ k = 2 ∨ k = 3 := by omega
    rcases this with rfl | rfl | rfl | rfl
    · show nv_up h c 0 1 x c 0 17 = _; rw [nv_up_ne (by omega)]; rfl
    · show nv_up h c 0 1 x c 0 28 = _; rw [nv_up_ne (by omega)]; rfl
    · show nv_up h c 0 1 x c 0 0 = _; rw [nv_up_ne (by omega)]; rfl
    · show nv_up h c 0 1 x c 0 1 = _; rw [nv_up_same]; rfl
  all_goals (first | (show nv_up h c 0 1 x c 0 _ = _; rw [nv_up_ne (by omega)]; rfl))
set_option maxRecDepth 100000 in
theorem r_seed_g (C : MI h a) {v : Int} (hv : nv_InR v) : nv_R M_X6_seed [vr 19 0, vi v] h (gQ h (a_seedS a v) (a_seed a v)) := by
  obtain ⟨hok, he, hNok⟩ := C.now
  have e3 : h 24 0 1 = a_N a 0 3 := he.1 3 (by omega)
  refine nv_R.of rfl rfl (Nat.le_of_ble_eq_true rfl) ?_
  refine nv_go ok_X6_seed [] 60 ?_
  refine w_if hv (fun c => ?_) (fun c => ?_)
  · have c : 0 ≤ v := c
    refine w_ix 1 rfl (by omega) ?_
    refine w_ix 1 rfl (by omega) ?_
    unfold a_seedS a_seed
    rw [if_neg (by omega), if_neg (by omega)]
    refine gQ.eq e3 ⟨rfl, C.upd (w := (a_P a, a_Sw a, m_put (a_N a) 0 3 v, a_pl a)) m_frM.rfl'.up ⟨m_put_ok0 hNok ⟨c, hv.2⟩, (m_mm_put3.le hok.1 hok.2.1).trans' (m_put_eq he), C.1.2.2.1.kept (nv_up_hi (by omega)), C.1.2.2.2⟩⟩
  · have c : ¬ 0 ≤ v := c
    unfold a_seedS a_seed
    rw [if_pos (by omega), if_pos (by omega)]
    exact gQ.same C
set_option maxRecDepth 100000 in
theorem r_drift_g (C : MI h a) {n : Int} (hn : nv_InR n) : nv_R M_X6_drift [vr 19 0, vi n] h (gQ h (a_runS (fun N => m_hour (m_drift N)) a n) (a_run (fun N => m_hour (m_drift N)) a n)) := by
  generalize hgf : (fun N : m_NN => m_hour (m_drift N)) = gf
  have hg2 : ∀ N, gf N 0 2 = N 0 2 + 1 := fun N => by rw [← hgf]; show m_drift N 0 2 + 1 = _; rw [m_drift_02]
  obtain ⟨hok, he, hNok⟩ := C.now
  obtain ⟨hP5, hS5, hP, hS, hH, hDr, hpl, hsw⟩ := hok.m
  have e2 : h 24 0 0 = a_N a 0 2 := he.1 2 (by omega)
  refine nv_R.of rfl rfl (Nat.le_of_ble_eq_true rfl) ?_
  refine nv_go ok_X6_drift [31] 40 ?_
  refine w_call (r_inA hn (by omega) (by omega)) (fun r h' hr => ?_)
  obtain ⟨rfl, rfl⟩ := hr
  refine w_ifb (fun c => ?_) (fun c => ?_)
  · unfold a_run a_runS
    rw [if_pos (bn_f c), if_pos (bn_f c)]
    exact gQ.same C
  · have b1 : ¬ a_out n 1 40 = true := by rw [bn_t c]; decide
    have g1 := a_out_f (bn_t c)
    refine w_ix 0 rfl (by omega) ?_
    refine w_ic (by omega) (by omega) (fun c2 => ?_) (fun c2 => ?_)
    · have c2 : h' 24 0 0 + n ≤ 9999 := c2
      have b2 : ¬ 9999 < a_N a 0 2 + n := by omega
      obtain ⟨m, rfl⟩ : ∃ m : Nat, n = m := ⟨n.toNat, by omega⟩
      have ea : a_run gf a m = m_set (fun p => (a_steps gf m a.1).2.2.1 3 p = 0) (a_P a) := by unfold a_run; rw [if_neg b1, if_neg b2]; rfl
      have eS : a_runS gf a m = (a_steps gf m a.1, a.2) := by unfold a_runS; rw [if_neg b1, if_neg b2]; rfl
      rw [ea, eS]
      have loop := m_down (n := m) (G := fun k => ∀ (j : Int) (h1 : nv_St), j = k → g_W h1 24 (a_steps gf k a.1) → m_frM 24 h' h1 → nv_V M_X6_drift 31 [(0, vr 19 0), (1, vi m), (2, vi j)] [] h1 (gQ h' (a_steps gf m a.1, a.2) (m_set (fun p => (a_steps gf m a.1).2.2.1 3 p = 0) (a_P a)))) ?_ ?_
      · exact loop 0 (by omega) _ _ rfl C.1 m_frM.rfl'
      · intro j h1 hj hW hf
        have hPS := a_steps_PS gf m a.1
        have hok1 := (hW.2.1.ok hW.1).m
        refine nv_go ok_X6_drift [31] 20 ?_
        refine w_ic (by omega) (by omega) (fun c3 => ?_) (fun c3 => ?_)
        · refine w_call (r_fallenM_24 hok1.1 hok1.2.2.1 (fun p hp => (hok1.2.2.2.2.2.2.1 p hp).2.2)) (fun r h3 hr => ?_)
          obtain ⟨rfl, rfl⟩ := hr
          refine gQ.eq ?_ ⟨rfl, C.upd hf hW⟩
          rw [hPS.1]
          exact m_set_eq (fun p hp => by have e : h3 24 0 (2 + p) = (a_steps gf m a.1).2.2.1 3 p := (hW.2.1.2.1 p (by rw [hPS.1]; exact hp)).2.2; rw [e])
        · exact absurd (by show (m : Int) ≤ j; omega) c3
      · intro k hk ih j h1 hj hW hf
        have hPSk := a_steps_PS gf k a.1
        refine nv_go ok_X6_drift [31, 129] 60 ?_
        refine w_ic (by omega) (by omega) (fun c3 => ?_) (fun c3 => ?_)
        · exact absurd c3 (by show ¬ ((m : Int) ≤ j); omega)
        · refine w_call (r_noteW hW) (fun r h3 hr => ?_)
          obtain ⟨rfl, hW3, h03, hf3⟩ := hr
          have hok3 := hW3.2.1.ok hW3.1
          obtain ⟨hPa, hSa, hP3, hS3, -, hD3, -, -⟩ := hok3.m
          have hPa : (a_steps gf k a.1).1 ≤ 5 := hPa
          have hSa : (a_steps gf k a.1).2.1 ≤ 5 := hSa
          have hP3 : h3 24 0 17 = ((a_steps gf k a.1).1 : Nat) := hP3
          have hS3 : h3 24 0 28 = ((a_steps gf k a.1).2.1 : Nat) := hS3
          have hokd := m_drift_ok hW3.1
          have j129 : ∀ h5 : nv_St, m_eq (a_steps gf k a.1).1 (a_steps gf k a.1).2.1 (m_mm h5 24) (m_drift (a_steps gf k a.1).2.2.1) → (∀ q, 34 ≤ q → h5 24 0 q = h3 24 0 q) → m_frM 24 h3 h5 → nv_V M_X6_drift 129 [(0, vr 19 0), (1, vi m), (2, vi j)] [] h5 (gQ h' (a_steps gf m a.1, a.2) (m_set (fun p => (a_steps gf m a.1).2.2.1 3 p = 0) (a_P a))) := by
            intro h5 he5 hk5 hf5
            have hok5 := he5.ok hokd
            refine nv_go ok_X6_drift [31] 60 ?_
            refine w_call (r_hourIn_24 hok5 (by omega) (hop := 0) (by decide) (by decide)) (fun r h4 hr => ?_)
            obtain ⟨rfl, he4, hk4, hf4⟩ := hr
            rw [m_hc_0, m_hourC_cut] at he4
            have hh := a_steps_hour hg2 k a.1
            have eg : gf (a_steps gf k a.1).2.2.1 = m_hour (m_drift (a_steps gf k a.1).2.2.1) := by rw [← hgf]
            have hW4 := hW3.step (fun q hq => (hk4 q hq).trans (hk5 q hq)) (N' := m_hour (m_drift (a_steps gf k a.1).2.2.1)) (he4.trans' (m_hour_eq he5 hok5)) ((m_hour_ok hokd).bound (by
              show m_drift (a_steps gf k a.1).2.2.1 0 2 + 1 ≤ 9999
              rw [m_drift_02]
              have : a.1.2.2.1 0 2 = a_N a 0 2 := rfl
              omega))
            refine ih _ _ (by omega) ?_ (hf.trans' (hf3.trans' (hf5.trans' hf4)))
            show g_W h4 24 ((a_steps gf k a.1).1, (a_steps gf k a.1).2.1, gf (a_steps gf k a.1).2.2.1, _)
            rw [eg]
            exact hW4
          have hx : 0 ≤ m_draw (h3 24 0 1) ∧ m_draw (h3 24 0 1) < 2147483648 := by unfold m_draw; omega
          have e3 : ∀ x, nv_up h3 24 0 1 x 24 0 1 = x := fun x => nv_up_same _ _ _ _ _
          have e17 : ∀ x, nv_up h3 24 0 1 x 24 0 17 = (a_steps gf k a.1).1 := fun x => by rw [nv_up_ne (by omega)]; exact hP3
          have e28 : ∀ x, nv_up h3 24 0 1 x 24 0 28 = (a_steps gf k a.1).2.1 := fun x => by rw [nv_up_ne (by omega)]; exact hS3
          have d1 := hW3.2.1.1 0 (by omega)
          have d2 := hW3.2.1.1 1 (by omega)
          have d3 := hW3.2.1.1 3 (by omega)
          have d1 : h3 24 0 17 = (a_steps gf k a.1).2.2.1 0 0 := d1
          have d2 : h3 24 0 28 = (a_steps gf k a.1).2.2.1 0 1 := d2
          have d3 : h3 24 0 1 = (a_steps gf k a.1).2.2.1 0 3 := d3
          have no : ¬ (0 < (a_steps gf k a.1).2.2.1 0 0 ∧ 0 < (a_steps gf k a.1).2.2.1 0 1) → m_eq (a_steps gf k a.1).1 (a_steps gf k a.1).2.1 (m_mm (nv_up h3 24 0 1 (m_draw (h3 24 0 1))) 24) (m_drift (a_steps gf k a.1).2.2.1) := by
            intro hz
            unfold m_drift
            rw [if_neg hz, d3]
            exact (m_mm_put3.le hPa hSa).trans' (m_put_eq hW3.2.1)
          refine w_ix 1 rfl (by omega) ?_
          refine w_i2r (by omega) ?_
          refine And.intro (by omega) (And.intro (by omega) ?_)
          refine w_ix 1 rfl (by omega) ?_
          refine w_ix 28 rfl (by omega) ?_
          refine w_if (by rw [e28]; omega) (fun c4 => ?_) (fun c4 => ?_)
          · have c4 : nv_up h3 24 0 1 (m_draw (h3 24 0 1)) 24 0 28 ≤ 0 := c4
            exact j129 _ (no (fun q => by rw [e28] at c4; omega)) (nv_up_hi (by omega)) m_frM.rfl'.up
          · have c4 : ¬ nv_up h3 24 0 1 (m_draw (h3 24 0 1)) 24 0 28 ≤ 0 := c4
            rw [e28] at c4
            refine w_ix 17 rfl (by omega) ?_
            refine w_if (by rw [e17]; omega) (fun c5 => ?_) (fun c5 => ?_)
            · have c5 : nv_up h3 24 0 1 (m_draw (h3 24 0 1)) 24 0 17 ≤ 0 := c5
              exact j129 _ (no (fun q => by rw [e17] at c5; omega)) (nv_up_hi (by omega)) m_frM.rfl'.up
            · have c5 : ¬ nv_up h3 24 0 1 (m_draw (h3 24 0 1)) 24 0 17 ≤ 0 := c5
              rw [e17] at c5
              have hr := Int.emod_nonneg (m_draw (h3 24 0 1) / 65536) (show (((a_steps gf k a.1).2.1 : Nat) : Int) ≠ 0 by omega)
              have hr2 := Int.emod_lt_of_pos (m_draw (h3 24 0 1) / 65536) (show (0 : Int) < ((a_steps gf k a.1).2.1 : Nat) by omega)
              refine w_ix 1 rfl (by omega) ?_
              refine w_dv (by rw [e3]; exact hx) (by omega) ?_
              refine w_ix 28 rfl (by omega) ?_
              refine w_dv (by rw [e3]; show 0 ≤ m_draw (h3 24 0 1) / 65536 ∧ m_draw (h3 24 0 1) / 65536 < 2147483648; omega) (by rw [e28]; omega) ?_
              refine w_ix 1 rfl (by omega) ?_
              refine w_dv (by rw [e3]; exact hx) (by omega) ?_
              refine w_ix 17 rfl (by omega) ?_
              refine w_dv (by rw [e3]; show 0 ≤ m_draw (h3 24 0 1) / 128 ∧ m_draw (h3 24 0 1) / 128 < 2147483648; omega) (by rw [e17]; omega) ?_
              refine w_ix (12 + (m_draw (h3 24 0 1) / 65536 % (((a_steps gf k a.1).2.1 : Nat) : Int)).toNat) (by rw [e3, e28]; show (12 : Int) + m_draw (h3 24 0 1) / 65536 % (((a_steps gf k a.1).2.1 : Nat) : Int) = _; omega) (by omega) ?_
              have jj : ∀ y : Int, y = m_draw (h3 24 0 1) / 128 % (((a_steps gf k a.1).1 : Nat) : Int) → nv_V M_X6_drift 129 [(0, vr 19 0), (1, vi m), (2, vi j)] [] (nv_up (nv_up h3 24 0 1 (m_draw (h3 24 0 1))) 24 0 (12 + (m_draw (h3 24 0 1) / 65536 % (((a_steps gf k a.1).2.1 : Nat) : Int)).toNat) y) (gQ h' (a_steps gf m a.1, a.2) (m_set (fun p => (a_steps gf m a.1).2.2.1 3 p = 0) (a_P a))) := by
                intro y hy
                refine j129 _ ?_ (fun q hq => by rw [nv_up_ne (by omega), nv_up_ne (by omega)]) m_frM.rfl'.up.up
                have : m_drift (a_steps gf k a.1).2.2.1 = m_put (m_put (a_steps gf k a.1).2.2.1 0 3 (m_draw (h3 24 0 1))) 6 (m_draw (h3 24 0 1) / 65536 % (((a_steps gf k a.1).2.1 : Nat) : Int)).toNat y := by
                  unfold m_drift
                  have q1 : (a_steps gf k a.1).2.2.1 0 0 = ((a_steps gf k a.1).1 : Nat) := by omega
                  have q2 : (a_steps gf k a.1).2.2.1 0 1 = ((a_steps gf k a.1).2.1 : Nat) := by omega
                  rw [if_pos ⟨by omega, by omega⟩, ← d3, hy, q1, q2]
                rw [this]
                exact ((m_mm_put (h := nv_up h3 24 0 1 (m_draw (h3 24 0 1))) (c := 24) (t := 6) (by omega)).le hPa hSa).trans' (m_put_eq ((m_mm_put3.le hPa hSa).trans' (m_put_eq hW3.2.1)))
              exact jj _ (by rw [e3, e17]; rfl)
    · have c2 : ¬ h' 24 0 0 + n ≤ 9999 := c2
      have b2 : 9999 < a_N a 0 2 + n := by omega
      unfold a_run a_runS
      rw [if_neg b1, if_pos b2, if_neg b1, if_pos b2]
      exact gQ.same C
set_option maxRecDepth 100000 in
theorem r_undo_g (C : MI h a) : nv_R M_X6_undo [vr 19 0] h (gQ h (a_unS a) (a_un a)) := by
  obtain ⟨hok, he, hNok⟩ := C.now
  obtain ⟨hP5, hS5, hP, hS, hH, hDr, hplr, hsw⟩ := hok.m
  obtain ⟨p1, p2, p3⟩ := id C.1.2.2.1
  have p1 : h 24 0 34 = ((a_pl a).length : Nat) := p1
  have p2 : (a_pl a).length ≤ 8 := p2
  refine nv_R.of rfl rfl (Nat.le_of_ble_eq_true rfl) ?_
  refine nv_go ok_X6_undo [] 60 ?_
  refine w_ix 34 rfl (by omega) ?_
  cases hpl : a_pl a with
  | nil =>
    rw [hpl] at p1
    have p1 : h 24 0 34 = 0 := p1
    refine w_if (by omega) (fun _ => ?_) (fun c => absurd p1 c)
    unfold a_unS a_un
    rw [hpl]
    exact gQ.same C
  | cons M r' =>
    have hl : (a_pl a).length = r'.length + 1 := by rw [hpl]; rfl
    refine w_if (by omega) (fun c => absurd (p1.symm.trans c) (by omega)) (fun _ => ?_)
    refine w_ix 34 rfl (by omega) ?_
    refine w_ix 34 rfl (by omega) ?_
    refine w_ix 34 rfl (by omega) ?_
    have e34 : h 24 0 34 - 1 = (r'.length : Nat) := by omega
    have u34 : nv_up h 24 0 34 (h 24 0 34 - 1) 24 0 34 = (r'.length : Nat) := by rw [nv_up_same]; exact e34
    have e1 : (35 : Int) + 17 * nv_up h 24 0 34 (h 24 0 34 - 1) 24 0 34 = ((35 + 17 * r'.length : Nat) : Int) := by rw [u34]; omega
    refine w_call (P' := fun r h' => r = none ∧ (∀ t q, ¬ (t = 24 ∧ q = 0) → h' t q = nv_up h 24 0 34 (h 24 0 34 - 1) t q) ∧ (∀ k, k < 17 → h' 24 0 (0 + k) = nv_up h 24 0 34 (h 24 0 34 - 1) 24 0 (35 + 17 * r'.length + k)) ∧ ∀ k, (k < 0 ∨ 0 + 17 ≤ k) → h' 24 0 k = nv_up h 24 0 34 (h 24 0 34 - 1) 24 0 k) ?_ (fun v h' hv => ?_)
    · have := r_bring_24_24 (h := nv_up h 24 0 34 (h 24 0 34 - 1)) (i := 35 + 17 * r'.length) (j := 0) (n := 17) (by omega) (by omega) (by omega)
      rw [← e1] at this
      exact this
    obtain ⟨rfl, x1, x2, x3⟩ := hv
    refine w_ix 34 rfl (by omega) ?_
    have z34 : h' 24 0 34 = (r'.length : Nat) := by rw [x3 34 (by omega)]; exact u34
    have z17 : ∀ q, 17 ≤ q → ¬ q = 34 → h' 24 0 q = h 24 0 q := fun q q1 q2 => by rw [x3 q (by omega), nv_up_ne q2]
    have zlo : ∀ q, q < 17 → h' 24 0 q = h 24 0 (35 + 17 * r'.length + q) := fun q hq => by
      have := x2 q hq
      rw [Nat.zero_add] at this
      rw [this, nv_up_ne (by omega)]
    obtain ⟨d1, d2, d3, d4⟩ := p3 0 M (by show (a_pl a)[0]? = some M; rw [hpl]; rfl)
    have eb : 35 + 17 * (a.1.2.2.2.length - 1 - 0) = 35 + 17 * r'.length := by
      have : a.1.2.2.2.length = r'.length + 1 := hl
      omega
    rw [eb] at d1 d2 d3 d4
    have hM : m_okm (a_P a) (a_Sw a) M := C.1.2.2.2 M (by show M ∈ a_pl a; rw [hpl]; exact List.mem_cons_self)
    have hrl : m_okl (a_P a) (a_Sw a) r' := fun M' hM' => C.1.2.2.2 M' (by show M' ∈ a_pl a; rw [hpl]; exact List.mem_cons_of_mem _ hM')
    unfold a_unS a_un
    rw [hpl]
    refine gQ.eq z34 ⟨rfl, C.upd (w := (a_P a, a_Sw a, m_mom (a_N a) M, r')) (m_frM.of (fun t i hn => ?_)) ⟨m_mom_ok hNok hM, ?_, ⟨z34, by show r'.length ≤ 8; omega, fun i M' hM' => ?_⟩, hrl⟩⟩
    · rw [x1 t i hn]
      funext q
      unfold nv_up
      rw [if_neg (fun z => hn ⟨z.1, z.2.1⟩)]
    · refine ⟨fun j hj => ?_, fun p hp => ⟨?_, ?_, ?_⟩, fun s hs => ⟨?_, ?_, ?_⟩⟩
      · have : j = 0 ∨ j = 1 ∨ j = 2 ∨ j = 3 := by omega
        rcases this with rfl | rfl | rfl | rfl
        · show h' 24 0 17 = a_N a 0 0; rw [z17 17 (by omega) (by omega)]; exact he.1 0 (by omega)
        · show h' 24 0 28 = a_N a 0 1; rw [z17 28 (by omega) (by omega)]; exact he.1 1 (by omega)
        · show h' 24 0 0 = M 0 2; rw [zlo 0 (by omega), ← d1]; rfl
        · show h' 24 0 1 = M 0 3; rw [zlo 1 (by omega), ← d2]; rfl
      · show h' 24 0 (18 + p) = a_N a 1 p; rw [z17 _ (by omega) (by omega)]; exact (he.2.1 p hp).1
      · show h' 24 0 (23 + p) = a_N a 2 p; rw [z17 _ (by omega) (by omega)]; exact (he.2.1 p hp).2.1
      · show h' 24 0 (2 + p) = M 3 p; rw [zlo _ (by omega), ← d3 p hp, ← Nat.add_assoc]; rfl
      · have hs : s < a_Sw a := hs
        show h' 24 0 (29 + s) = a_N a 4 s; rw [z17 _ (by omega) (by omega)]; exact (he.2.2 s hs).1
      · have hs : s < a_Sw a := hs
        show h' 24 0 (7 + s) = M 5 s; rw [zlo _ (by omega), ← (d4 s hs).1, ← Nat.add_assoc]; rfl
      · have hs : s < a_Sw a := hs
        show h' 24 0 (12 + s) = M 6 s; rw [zlo _ (by omega), ← (d4 s hs).2, ← Nat.add_assoc]; rfl
    · have hi := (List.getElem?_eq_some_iff.mp hM').1
      obtain ⟨f1, f2, f3, f4⟩ := p3 (i + 1) M' (by show (a_pl a)[i + 1]? = some M'; rw [hpl]; exact hM')
      have eb2 : a.1.2.2.2.length - 1 - (i + 1) = r'.length - 1 - i := by
        have : a.1.2.2.2.length = r'.length + 1 := hl
        omega
      rw [eb2] at f1 f2 f3 f4
      have g : ∀ q, q < 17 → h' 24 0 (35 + 17 * (r'.length - 1 - i) + q) = h 24 0 (35 + 17 * (r'.length - 1 - i) + q) := fun q hq => z17 _ (by omega) (by omega)
      refine ⟨?_, ?_, fun p hp => ?_, fun s hs => ⟨?_, ?_⟩⟩
      · rw [← f1]; exact g 0 (by omega)
      · rw [← f2]; exact g 1 (by omega)
      · rw [← f3 p hp]
        show h' 24 0 (35 + 17 * (r'.length - 1 - i) + 2 + p) = h 24 0 (35 + 17 * (r'.length - 1 - i) + 2 + p)
        rw [Nat.add_assoc]; exact g (2 + p) (by omega)
      · have hs : s < a_Sw a := hs
        rw [← (f4 s hs).1]
        show h' 24 0 (35 + 17 * (r'.length - 1 - i) + 7 + s) = h 24 0 (35 + 17 * (r'.length - 1 - i) + 7 + s)
        rw [Nat.add_assoc]; exact g (7 + s) (by omega)
      · have hs : s < a_Sw a := hs
        rw [← (f4 s hs).2]
        show h' 24 0 (35 + 17 * (r'.length - 1 - i) + 12 + s) = h 24 0 (35 + 17 * (r'.length - 1 - i) + 12 + s)
        rw [Nat.add_assoc]; exact g (12 + s) (by omega)
/-- the whole row of the reference's noon, copied -/
theorem g_W.copy {h h' : nv_St} {c d : Nat} {w : a_W} (k : g_W h c w) (e : ∀ q, q < 171 → h' d 0 q = h c 0 q) : g_W h' d w := by
  obtain ⟨k1, k2, k3, k4⟩ := k
  refine ⟨k1, (g_eq k1.1 k1.2.1 (fun q hq => e q (by omega))).trans' k2, ⟨by rw [e 34 (by omega)]; exact k3.1, k3.2.1, fun i M hM => ?_⟩, k4⟩
  have hi := (List.getElem?_eq_some_iff.mp hM).1
  have h8 := k3.2.1
  have hP := k1.1
  have hS := k1.2.1
  obtain ⟨f1, f2, f3, f4⟩ := k3.2.2 i M hM
  refine ⟨?_, ?_, fun p hp => ?_, fun s hs => ⟨?_, ?_⟩⟩
  · rw [← f1]; exact e _ (by omega)
  · rw [← f2]; exact e _ (by omega)
  · rw [← f3 p hp]; exact e _ (by omega)
  · rw [← (f4 s hs).1]; exact e _ (by omega)
  · rw [← (f4 s hs).2]; exact e _ (by omega)
set_option maxRecDepth 100000 in
theorem r_image_g (C : MI h a) : nv_R M_X6_image [vr 19 0] h (gQ h (a.1, some a.1, a.2.2) 1) := by
  obtain ⟨k1, k2, k3, k4⟩ := id C
  refine nv_R.of rfl rfl (Nat.le_of_ble_eq_true rfl) ?_
  refine nv_go ok_X6_image [] 60 ?_
  refine w_call (r_bring_24_27 (h := h) (i := 0) (j := 0) (n := 171) (by omega) (by omega)) (fun v h2 hv => ?_)
  obtain ⟨rfl, x1, x2, x3⟩ := hv
  refine And.intro (Or.inr rfl) ?_
  show gQ h (a.1, some a.1, a.2.2) 1 (some (vi 1)) (nv_up h2 19 0 11 1)
  generalize hg : nv_up h2 19 0 11 1 = g
  have gs : ∀ t i, ¬ (t = 19 ∧ i = 0) → g t i = h2 t i := by
    intro t i hn
    rw [← hg]
    funext q
    unfold nv_up
    rw [if_neg (fun z => hn ⟨z.1, z.2.1⟩)]
  have gf : ∀ t i, ¬ (t = 19 ∧ i = 0) → ¬ (t = 27 ∧ i = 0) → g t i = h t i := fun t i y z => (gs t i y).trans (x1 t i z)
  have g3 : g 19 0 3 = h 19 0 3 := by rw [← hg, nv_up_ne (by omega), x1 19 0 (by omega)]
  refine ⟨rfl, ⟨k1.kept (gf 24 0 (by omega) (by omega)), ⟨by rw [← hg, nv_up_same], k1.copy (fun q hq => ?_)⟩, ⟨by rw [g3]; exact k3.1, k3.2.1, fun i x hx => by rw [gf 23 0 (by omega) (by omega)]; exact k3.2.2 i x hx⟩, fun s hs => by rw [gf 20 0 (by omega) (by omega), gf 21 0 (by omega) (by omega), gf 22 0 (by omega) (by omega)]; exact k4 s hs⟩, fun t i ht => gf t i (by omega) (by omega)⟩
  have := x2 q hq
  rw [Nat.zero_add] at this
  rw [gs 27 0 (by omega)]
  exact this
set_option maxRecDepth 100000 in
theorem r_restore_g (C : MI h a) : nv_R M_X6_restore [vr 19 0] h (gQ h (match a.2.1 with | none => a | some w => (w, a.2)) (match a.2.1 with | none => -4 | some _ => 1)) := by
  obtain ⟨k1, k2, k3, k4⟩ := id C
  refine nv_R.of rfl rfl (Nat.le_of_ble_eq_true rfl) ?_
  refine nv_go ok_X6_restore [] 60 ?_
  cases him : a.2.1 with
  | none =>
    rw [him] at k2
    have k2 : h 19 0 11 = 0 := k2
    refine w_if (by omega) (fun _ => ?_) (fun c => absurd k2 c)
    exact gQ.same C
  | some w =>
    rw [him] at k2
    obtain ⟨k20, k21⟩ := k2
    refine w_if (by omega) (fun c => absurd (k20.symm.trans c) (by decide)) (fun _ => ?_)
    refine w_call (r_bring_27_24 (h := h) (i := 0) (j := 0) (n := 171) (by omega) (by omega)) (fun v h2 hv => ?_)
    obtain ⟨rfl, x1, x2, x3⟩ := hv
    refine ⟨rfl, C.upd (w := w) (m_frM.of x1) (k21.copy (fun q hq => ?_))⟩
    have := x2 q hq
    rw [Nat.zero_add] at this
    exact this
end nvGA
