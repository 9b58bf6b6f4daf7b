/-! ===== the class's search is made; best, most ===== -/
theorem m_pw {P S : Nat} (hP1 : 1 ≤ P) (hP : P ≤ 5) (hS : S ≤ 5) : 0 < P ^ S ∧ P ^ S ≤ 3125 :=
  ⟨Nat.pow_pos (by omega), Nat.le_trans (Nat.pow_le_pow_left hP S) (Nat.pow_le_pow_right (n := 5) (by decide) hS)⟩
theorem m_res_r {N : m_NN} {P S hrs : Nat} (hP1 : 1 ≤ P) (hP5 : P ≤ 5) (hS5 : S ≤ 5) : (0 ≤ (m_res N P S hrs).1 ∧ ((m_res N P S hrs).1 ≤ 60 ∨ (m_res N P S hrs).1 = 99)) ∧ (0 ≤ (m_res N P S hrs).2.1 ∧ (m_res N P S hrs).2.1 ≤ 5) :=
  m_best_r (fun _ => ⟨(m_wv_r hP5).1, (m_wv_r hP5).2.1⟩) (fun _ => m_mv_r hS5) _ (m_pw hP1 hP5 hS5).1
theorem m_res_60 {N : m_NN} {P S hrs : Nat} (hP1 : 1 ≤ P) (hP5 : P ≤ 5) (hS5 : S ≤ 5) (h0 : 0 < hrs) : (m_res N P S hrs).1 ≤ 60 :=
  m_best_60 (fun _ => (m_wv_r hP5).2.2 h0) _ (m_pw hP1 hP5 hS5).1
def m_fk (i : Nat) (h h' : nv_St) : Prop := ∀ t q, ¬ (t < 8 ∧ (q = 1 ∨ q = 19 + i)) → ¬ ((t = 8 ∨ t = 9 ∨ t = 10) ∧ q = i) → h' t q = h t q
def c_out (h : nv_St) (i : Nat) (R : Int × Int × Nat) (P S : Nat) : Prop := h 8 i 5 = m_cw R.1 ∧ h 8 i 6 = R.2.1 ∧ ∀ s, s < S → h 10 i s = m_wseat P S R.2.2 s
set_option maxHeartbeats 2000000 in
set_option maxRecDepth 100000 in
theorem r_make {h : nv_St} {i P S hrs : Nat} (hi : i < 2) (hP1 : 1 ≤ P) (hS1 : 1 ≤ S) (hN : m_ok (m_nn h 0) P S 9999) (hh : hrs ≤ 30) (hsr : c_sr h i) :
    nv_R M_X2_make [vr 8 i, vr 0 0, vi hrs, vr 0 1] h (fun r h' => r = none ∧ c_out h' i (m_res (m_nn h 0) P S hrs) P S ∧ c_sr h' i ∧ m_fk i h h') := by
  obtain ⟨hP5, hS5, hP, hS, hH, hDr, hpl, hsw⟩ := hN.h
  obtain ⟨hpw0, hpw⟩ := m_pw hP1 hP5 hS5
  generalize hQ : (fun (r : Option nv_AV) (h' : nv_St) => r = none ∧ c_out h' i (m_res (m_nn h 0) P S hrs) P S ∧ c_sr h' i ∧ m_fk i h h') = Q
  refine nv_R.of rfl rfl (Nat.le_of_ble_eq_true rfl) ?_
  have j109 : ∀ (N : m_NN) (h4 : nv_St), m_nn h4 (19 + i) = N → m_eq P S N (m_nn h 0) → m_fk i h h4 → h4 8 i 3 = 1 → h4 8 i 4 = hrs → (m_mc N P S ≤ h4 8 i 7 ∧ h4 8 i 7 ≤ 90) → c_st h4 1 N P S → (∀ s, s < S → h4 9 i s = 0) → h4 8 i 5 = 62 → h4 8 i 6 = 6 → nv_V M_X2_make 109 [(0, vr 8 i), (1, vr 0 0), (2, vi hrs), (3, vr 0 1), (4, vi ((P ^ S : Nat) : Int)), (5, vi 0)] [] h4 Q := by
    intro N h4 f1 f2 f3 f4 f5 f6 f7 f8 f9 f10
    have hNok := f2.ok hN
    have loop := m_down (n := P ^ S) (G := fun k => ∀ (j : Int) (h1 : nv_St), j = k → m_nn h1 (19 + i) = N → m_fk i h h1 → h1 8 i 3 = 1 → h1 8 i 4 = hrs → (m_mc N P S ≤ h1 8 i 7 ∧ h1 8 i 7 ≤ 90) → c_st h1 1 N P S → (∀ s, s < S → h1 9 i s = m_wseat P S k s) → c_bst h1 i (m_wv N P S hrs) (m_mv N P S) P S k → nv_V M_X2_make 109 [(0, vr 8 i), (1, vr 0 0), (2, vi hrs), (3, vr 0 1), (4, vi ((P ^ S : Nat) : Int)), (5, vi j)] [] h1 Q) ?_ ?_
    · refine loop 0 (by omega) 0 h4 rfl f1 f3 f4 f5 f6 f7 (fun s hs => ?_) ⟨f9, f10, fun h => absurd h (by omega)⟩
      rw [f8 s hs]
      unfold m_wseat
      rw [Nat.zero_div, Nat.zero_mod]
      rfl
    · intro j h1 hj g1 g3 g4 g5 g6 g7 g8 g9
      refine nv_go ok_X2_make [109] 20 ?_
      refine w_ic (by omega) (by omega) (fun c => ?_) (fun c => ?_)
      · show Q _ _
        rw [← hQ]
        have e : m_res (m_nn h 0) P S hrs = m_best (m_wv N P S hrs) (m_mv N P S) (P ^ S) := (m_res_eq hP1 f2 hNok).symm
        have e2 : m_res (m_nn h1 (19 + i)) P S hrs = m_best (m_wv N P S hrs) (m_mv N P S) (P ^ S) := by rw [g1]; rfl
        have o1 : h1 8 i 5 = m_cw (m_best (m_wv N P S hrs) (m_mv N P S) (P ^ S)).1 := by rw [g9.1, if_neg (by omega)]
        have o2 : h1 8 i 6 = (m_best (m_wv N P S hrs) (m_mv N P S) (P ^ S)).2.1 := by rw [g9.2.1, if_neg (by omega)]
        have o3 := g9.2.2 hpw0
        refine ⟨rfl, by rw [e]; exact ⟨o1, o2, o3⟩, Or.inr ⟨g4, P, S, hrs, hP1, hS1, by rw [g1]; exact hNok, g5, hh, ?_, ?_, ?_⟩, g3⟩
        · rw [e2]; exact o1
        · rw [e2]; exact o2
        · rw [e2]; exact o3
      · exact absurd (by show ((P ^ S : Nat) : Int) ≤ j; omega) c
    · intro k hk ih j h1 hj g1 g3 g4 g5 g6 g7 g8 g9
      refine nv_go ok_X2_make [109] 30 ?_
      refine w_ic (by omega) (by omega) (fun c => ?_) (fun c => ?_)
      · exact absurd c (by show ¬ (((P ^ S : Nat) : Int) ≤ j); omega)
      · refine w_call (r_weigh (w := m_wv N P S hrs) (mv := m_mv N P S) hi hP1 g1 hNok rfl rfl hh g5 g6 g7 g8 g9) (fun r h2 hr => ?_)
        obtain ⟨rfl, w1, w2, w3, w4⟩ := hr
        have n2 : m_nn h2 (19 + i) = N := by rw [m_nn_ext (fun t _ => w3 t (19 + i) (by omega) (by omega) (by omega))]; exact g1
        have e9 : h2 9 i = h1 9 i := w3 9 i (by omega) (by omega) (by omega)
        have p0 : h2 0 (19 + i) 0 = P := (congrFun (congrFun n2 0) 0).trans hNok.2.2.1
        have p1 : h2 0 (19 + i) 1 = S := (congrFun (congrFun n2 0) 1).trans hNok.2.2.2.1
        refine w_call (r_toNextWay (k := k) hP1 hP5 hS5 p0 p1 (fun s hs => by rw [e9]; exact g8 s hs)) (fun r h3 hr => ?_)
        obtain ⟨rfl, x1, x2⟩ := hr
        have e8 : h3 8 i = h2 8 i := x1 8 i (by omega)
        have e10 : h3 10 i = h2 10 i := x1 10 i (by omega)
        refine ih _ h3 (by omega) ?_ ?_ ?_ ?_ ?_ ?_ x2 ?_
        · rw [m_nn_ext (fun t ht => x1 t (19 + i) (by omega))]; exact n2
        · intro t q a1 a2
          rw [x1 t q (by omega), w3 t q (by omega) (by omega) (by omega)]
          exact g3 t q a1 a2
        · rw [e8, w4 3 (by omega) (by omega)]; exact g4
        · rw [e8, w4 4 (by omega) (by omega)]; exact g5
        · rw [e8, w4 7 (by omega) (by omega)]; exact g6
        · refine ⟨?_, ?_, fun p hp => ?_, fun s hs => ?_⟩
          · rw [x1 0 1 (by omega)]; exact w2.1
          · rw [x1 0 1 (by omega)]; exact w2.2.1
          · rw [x1 1 1 (by omega), x1 2 1 (by omega)]; exact w2.2.2.1 p hp
          · rw [x1 4 1 (by omega)]; exact w2.2.2.2 s hs
        · refine ⟨?_, ?_, ?_⟩
          · rw [e8]; exact w1.1
          · rw [e8]; exact w1.2.1
          · rw [e10]; exact w1.2.2
  have j73 : ∀ (N : m_NN) (h4 : nv_St), m_nn h4 (19 + i) = N → m_eq P S N (m_nn h 0) → m_fk i h h4 → h4 8 i 3 = 1 → h4 8 i 4 = hrs → (m_mc N P S ≤ h4 8 i 7 ∧ h4 8 i 7 ≤ 90) → c_st h4 1 N P S → h4 8 i 5 = 62 → h4 8 i 6 = 6 → nv_V M_X2_make 73 [(0, vr 8 i), (1, vr 0 0), (2, vi hrs), (3, vr 0 1), (4, vi 0)] [] h4 Q := by
    intro N h4 f1 f2 f3 f4 f5 f6 f7 f9 f10
    have loop := m_down (n := 5) (G := fun q => ∀ (j : Int) (h1 : nv_St), j = q → (∀ t z, ¬ (t = 9 ∧ z = i) → h1 t z = h4 t z) → (∀ s, s < q → h1 9 i s = 0) → nv_V M_X2_make 73 [(0, vr 8 i), (1, vr 0 0), (2, vi hrs), (3, vr 0 1), (4, vi j)] [] h1 Q) ?_ ?_
    · exact loop 0 (by omega) 0 h4 rfl (fun _ _ _ => rfl) (fun s hs => absurd hs (by omega))
    · intro j h1 hj hx hz
      have p0 : h1 0 0 0 = P := by rw [hx 0 0 (by omega), f3 0 0 (by omega) (by omega)]; exact hP
      have p1 : h1 0 0 1 = S := by rw [hx 0 0 (by omega), f3 0 0 (by omega) (by omega)]; exact hS
      have e8 : h1 8 i = h4 8 i := hx 8 i (by omega)
      refine nv_go ok_X2_make [109] 40 ?_
      refine w_ic (by omega) (by omega) (fun c => ?_) (fun c => ?_)
      · refine w_call (P' := fun r h' => h' = h1 ∧ r = some (vi ((P ^ S : Nat) : Int))) (by show nv_R M_X5_power [vi (h1 0 0 0), vi (h1 0 0 1)] h1 _; rw [p0, p1]; exact r_power (by omega)) (fun r h2 hr => ?_)
        obtain ⟨rfl, rfl⟩ := hr
        refine j109 N h2 ?_ f2 ?_ (by rw [e8]; exact f4) (by rw [e8]; exact f5) (by rw [e8]; exact f6) ?_ (fun s hs => hz s (by omega)) (by rw [e8]; exact f9) (by rw [e8]; exact f10)
        · rw [m_nn_ext (fun t ht => hx t (19 + i) (by omega))]; exact f1
        · intro t q a1 a2
          rw [hx t q (by omega)]
          exact f3 t q a1 a2
        · refine ⟨?_, ?_, fun p hp => ?_, fun s hs => ?_⟩
          · rw [hx 0 1 (by omega)]; exact f7.1
          · rw [hx 0 1 (by omega)]; exact f7.2.1
          · rw [hx 1 1 (by omega), hx 2 1 (by omega)]; exact f7.2.2.1 p hp
          · rw [hx 4 1 (by omega)]; exact f7.2.2.2 s hs
      · exact absurd (by show (5 : Int) ≤ j; omega) c
    · intro q hq ih j h1 hj hx hz
      refine nv_go ok_X2_make [73] 40 ?_
      refine w_ic (by omega) (by omega) (fun c => ?_) (fun c => ?_)
      · exact absurd c (by show ¬ ((5 : Int) ≤ j); omega)
      · refine w_ix q hj (by omega) ?_
        refine ih _ _ (by omega) (fun t z hn => ?_) (fun s hs => ?_)
        · rw [← hx t z hn]; funext y; unfold nv_up; rw [if_neg (by rintro ⟨rfl, rfl, -⟩; exact hn ⟨rfl, rfl⟩)]
        · by_cases es : s = q
          · rw [es, nv_up_same]
          · rw [nv_up_ne es]; exact hz s (by omega)
  have j27 : nv_V M_X2_make 27 [(0, vr 8 i), (1, vr 0 0), (2, vi hrs), (3, vr 0 1)] [] h Q := by
    refine nv_go ok_X2_make [73] 60 ?_
    refine And.intro (Or.inr rfl) ?_
    refine w_call (r_takeAll (o := 19 + i) (b := 0) (by omega)) (fun r h1 hr => ?_)
    obtain ⟨rfl, ta⟩ := hr
    refine w_call (r_takeAll (o := 1) (b := 0) (by omega)) (fun r h2 hr => ?_)
    obtain ⟨rfl, tb⟩ := hr
    have n0 : m_nn h2 0 = m_nn h 0 := by
      refine m_nn_ext (fun t ht => ?_)
      rw [tb.1 t 0 (by omega), ta.1 t 0 (by omega)]
      funext y
      simp [nv_up, show ¬ t = 8 by omega]
    have n1 : m_nn h1 0 = m_nn h 0 := by
      refine m_nn_ext (fun t ht => ?_)
      rw [ta.1 t 0 (by omega)]
      funext y
      simp [nv_up, show ¬ t = 8 by omega]
    have n3 : m_nn (nv_up (nv_up h2 8 i 5 62) 8 i 6 6) 0 = m_nn h 0 := by
      rw [← n0]
      refine m_nn_ext (fun t ht => ?_)
      funext y
      simp [nv_up, show ¬ t = 8 by omega]
    have e19 : m_nn h2 (19 + i) = m_nn h1 (19 + i) := m_nn_ext (fun t ht => tb.1 t (19 + i) (by omega))
    have heA : m_eq P S (m_nn h2 (19 + i)) (m_nn h 0) := by
      rw [e19]
      have := ta.eq (P := P) (S := S) hP5 hS5
      refine this.trans' ?_
      have : m_nn (nv_up (nv_up h 8 i 3 1) 8 i 4 hrs) 0 = m_nn h 0 := by
        refine m_nn_ext (fun t ht => ?_)
        funext y
        simp [nv_up, show ¬ t = 8 by omega]
      rw [this]
      exact m_eq.rfl'
    have heB : m_eq P S (m_nn h2 1) (m_nn h 0) := by
      rw [← n1]
      exact tb.eq hP5 hS5
    have e8 : h2 8 i = nv_up (nv_up h 8 i 3 1) 8 i 4 hrs 8 i := by rw [tb.1 8 i (by omega), ta.1 8 i (by omega)]
    refine w_call (r_mostCut (o := 0) (by rw [n3]; exact hN)) (fun r h3 hr => ?_)
    obtain ⟨rfl, rfl⟩ := hr
    have hmr := m_mc_r hN
    refine j73 (m_nn h2 (19 + i)) _ ?_ heA ?_ ?_ ?_ ?_ ?_ ?_ ?_
    · refine m_nn_ext (fun t ht => ?_)
      funext y
      simp [nv_up, show ¬ t = 8 by omega]
    · intro t q a1 a2
      have x1 : h2 t q = h t q := by
        rw [tb.1 t q (by omega), ta.1 t q (by omega)]
        funext y
        unfold nv_up
        rw [if_neg (by omega), if_neg (by omega)]
      rw [← x1]
      funext y
      unfold nv_up
      rw [if_neg (by omega), if_neg (by omega), if_neg (by omega)]
    · have : h2 8 i 3 = 1 := by rw [e8]; simp [nv_up]
      rw [← this]; simp [nv_up]
    · have : h2 8 i 4 = hrs := by rw [e8]; simp [nv_up]
      rw [← this]; simp [nv_up]
    · rw [nv_up_same, n3]
      have hokA := heA.ok hN
      refine ⟨m_mc_le (fun s hs => ?_) (fun p hp => ?_), by omega⟩
      · have b1 := heA.2.2 s hs
        have b2 := (hokA.2.2.2.2.2.2.2 s hs).2.1
        exact ⟨b1.1, b1.2.1, b2.1, b2.2⟩
      · have b1 := heA.2.1 p hp
        have b2 := (hokA.2.2.2.2.2.2.1 p hp).2.1
        exact ⟨b1.2.1, b2.1, b2.2⟩
    · have hAB := heB.trans' heA.symm'
      refine ⟨?_, ?_, fun p hp => ⟨?_, ?_⟩, fun s hs => ?_⟩
      · rw [← hAB.1 0 (by omega)]; show _ = h2 0 1 0; simp [nv_up]
      · rw [← hAB.1 1 (by omega)]; show _ = h2 0 1 1; simp [nv_up]
      · rw [← (hAB.2.1 p hp).1]; show _ = h2 1 1 p; simp [nv_up]
      · rw [← (hAB.2.1 p hp).2.1]; show _ = h2 2 1 p; simp [nv_up]
      · rw [← (hAB.2.2 s hs).1]; show _ = h2 4 1 s; simp [nv_up]
    · simp [nv_up]
    · simp [nv_up]
  rcases hsr with h0 | ⟨h1, P0, S0, hrs0, q1, q2, q3, q4, q5, q6, q7, q8⟩
  · refine nv_go ok_X2_make [27] 30 ?_
    refine w_if (by omega) (fun c => j27) (fun c => absurd h0 c)
  · refine nv_go ok_X2_make [27] 30 ?_
    refine w_if (by omega) (fun c => j27) (fun c => ?_)
    refine w_ic (by omega) (by omega) (fun c2 => ?_) (fun c2 => j27)
    have c2 : h 8 i 4 = hrs := c2
    refine w_call (r_isLike (a := 19 + i) (b := 0) q3 hN) (fun r h2 hr => ?_)
    obtain ⟨rfl, L, rfl, hL⟩ := hr
    refine w_ifb (fun c3 => j27) (fun c3 => ?_)
    obtain ⟨l0, l1, l2, l3, l4⟩ := hL c3
    have b0 : h2 0 (19 + i) 0 = P0 := q3.2.2.1
    have b1 : h2 0 (19 + i) 1 = S0 := q3.2.2.2.1
    have eP : P0 = P := by omega
    have eS : S0 = S := by omega
    have eH : hrs0 = hrs := by omega
    subst eP
    subst eS
    subst eH
    have er : m_res (m_nn h2 (19 + i)) P0 S0 hrs0 = m_res (m_nn h2 0) P0 S0 hrs0 := m_res_like q1 q3 l0 l1 l2 l3 l4
    show Q _ _
    rw [← hQ]
    refine ⟨rfl, ?_, Or.inr ⟨h1, P0, S0, hrs0, q1, q2, q3, q4, q5, q6, q7, q8⟩, fun _ _ _ _ => rfl⟩
    rw [← er]
    exact ⟨q6, q7, q8⟩
set_option maxRecDepth 100000 in
theorem r_nothing {h : nv_St} {P S : Nat} (hP5 : P ≤ 5) (hS5 : S ≤ 5) (hP : h 0 0 0 = P) (hS : h 0 0 1 = S) : nv_R M_X5_nothingToSet [vr 18 0] h (fun r h' => h' = h ∧ r = some (vi (nv_b (decide (P = 0) || decide (S = 0))))) := by
  refine nv_R.of rfl rfl (Nat.le_of_ble_eq_true rfl) ?_
  refine nv_go ok_X5_nothingToSet [] 30 ?_
  refine w_if (by omega) (fun c => ?_) (fun c => ?_)
  · have c : h 0 0 0 = 0 := c
    exact And.intro (Or.inr rfl) ⟨rfl, by rw [decide_eq_true (show P = 0 by omega)]; rfl⟩
  · have c : ¬ h 0 0 0 = 0 := c
    refine w_if (by omega) (fun c2 => ?_) (fun c2 => ?_)
    · have c2 : h 0 0 1 = 0 := c2
      exact And.intro (Or.inr rfl) ⟨rfl, by rw [decide_eq_true (show S = 0 by omega), Bool.or_true]; rfl⟩
    · have c2 : ¬ h 0 0 1 = 0 := c2
      exact And.intro (Or.inl rfl) ⟨rfl, by rw [decide_eq_false (show ¬ S = 0 by omega), decide_eq_false (show ¬ P = 0 by omega)]; rfl⟩
theorem CI.srch {h h' : nv_St} {a : a_S} {i : Nat} (hi : i < 2) (k : CI h a) (hf : m_fk i h h') (hs : c_sr h' i) : CI h' a ∧ ∀ t q, 19 ≤ t → h' t q = h t q := by
  obtain ⟨k1, k2, k3, k4, k5, k6⟩ := k
  refine ⟨⟨k1.kept (fun t _ => hf t 0 (by omega) (by omega)) (hf 11 0 (by omega) (by omega)) (fun t q _ _ => hf t _ (by omega) (by omega)), k2.kept (hf 18 0 (by omega) (by omega)) (fun t _ => hf t 2 (by omega) (by omega)) (hf 11 1 (by omega) (by omega)) (fun t q _ _ => hf t _ (by omega) (by omega)),
    k3.kept (by rw [hf 13 0 (by omega) (by omega)]) (hf 14 0 (by omega) (by omega)), k4.kept (fun s _ => ⟨hf 16 s (by omega) (by omega), hf 17 s (by omega) (by omega)⟩), ?_, ?_⟩, fun t q ht => hf t q (by omega) (by omega)⟩
  · by_cases e : i = 0
    · rw [← e]; exact hs
    · exact k5.kept (hf 8 0 (by omega) (by omega)) (hf 10 0 (by omega) (by omega)) (fun t _ => hf t 19 (by omega) (by omega))
  · by_cases e : i = 1
    · rw [← e]; exact hs
    · exact k6.kept (hf 8 1 (by omega) (by omega)) (hf 10 1 (by omega) (by omega)) (fun t _ => hf t 20 (by omega) (by omega))
/-- what best and most answer of what was found -/
def a_told (R : Int × Int × Nat) (P S : Nat) (v x : Int) : Int := if v = -1 then x else if v = -2 then R.2.1 else m_wseat P S R.2.2 v.toNat
def a_R (a : a_S) (n : Nat) : Int × Int × Nat := m_res (a_N a) (a_P a) (a_Sw a) n
def a_best (a : a_S) (v : Int) : Int := if a_out v (-2) ((a_Sw a : Int) - 1) = true then -1 else if (decide (a_P a = 0) || decide (a_Sw a = 0)) = true then -4 else a_told (a_R a 0) (a_P a) (a_Sw a) v (if (a_R a 0).1 = 99 then -4 else (a_R a 0).1)
def a_most (a : a_S) (n v : Int) : Int := if a_out n 1 30 = true then -1 else if a_out v (-2) ((a_Sw a : Int) - 1) = true then -1 else if (decide (a_P a = 0) || decide (a_Sw a = 0)) = true then -4 else a_told (a_R a n.toNat) (a_P a) (a_Sw a) v (a_P a - (a_R a n.toNat).1)
theorem a_none {P S : Nat} (h : (decide (P = 0) || decide (S = 0)) = false) : 1 ≤ P ∧ 1 ≤ S := by
  rw [Bool.or_eq_false_iff, decide_eq_false_iff_not, decide_eq_false_iff_not] at h
  omega
section nvBest
variable {h : nv_St} {a : a_S}
set_option maxRecDepth 100000 in
theorem r_best_c (C : CI h a) {v : Int} (hv : nv_InR v) : nv_R M_X5_best [vr 18 0, vi v] h (cQ h a (a_best a v)) := by
  obtain ⟨hok, he, hNok⟩ := C.now
  obtain ⟨hP5, hS5, hP, hS, hH, hDr, hpl, hsw⟩ := hok.h
  refine nv_R.of rfl rfl (Nat.le_of_ble_eq_true rfl) ?_
  refine nv_go ok_X5_best [] 80 ?_
  refine w_call (r_outA hv (by omega) (by show nv_InR (h 0 0 1 - 1); omega)) (fun r h' hr => ?_)
  obtain ⟨rfl, rfl⟩ := hr
  refine w_ifb (fun c => ?_) (fun c => ?_)
  · have cc : a_out v (-2) ((a_Sw a : Int) - 1) = false := by rw [← hS]; exact c
    have g1 := a_out_f cc
    refine w_call (r_nothing hP5 hS5 hP hS) (fun r h2 hr => ?_)
    obtain ⟨rfl, rfl⟩ := hr
    refine w_ifb (fun c2 => ?_) (fun c2 => ?_)
    · obtain ⟨hP1, hS1⟩ := a_none c2
      have ea : a_best a v = a_told (a_R a 0) (a_P a) (a_Sw a) v (if (a_R a 0).1 = 99 then -4 else (a_R a 0).1) := by
        unfold a_best; rw [if_neg (by rw [cc]; decide), if_neg (by rw [c2]; decide)]
      have er : m_res (m_nn h2 0) (a_P a) (a_Sw a) 0 = a_R a 0 := m_res_eq hP1 he hok
      have hrr := m_res_r (N := a_N a) (hrs := 0) hP1 hP5 hS5
      rw [ea]
      refine w_call (r_make (i := 0) (hrs := 0) (by omega) hP1 hS1 hok (by omega) C.2.2.2.2.1) (fun r h3 hr => ?_)
      obtain ⟨rfl, ⟨o1, o2, o3⟩, hsr, hf⟩ := hr
      rw [er] at o1 o2 o3
      have hrr : (0 ≤ (a_R a 0).1 ∧ ((a_R a 0).1 ≤ 60 ∨ (a_R a 0).1 = 99)) ∧ (0 ≤ (a_R a 0).2.1 ∧ (a_R a 0).2.1 ≤ 5) := hrr
      have hq : cQ h2 a (a_told (a_R a 0) (a_P a) (a_Sw a) v (if (a_R a 0).1 = 99 then -4 else (a_R a 0).1)) (some (vi (a_told (a_R a 0) (a_P a) (a_Sw a) v (if (a_R a 0).1 = 99 then -4 else (a_R a 0).1)))) h3 := ⟨rfl, C.srch (by omega) hf hsr⟩
      refine w_ic hv (by omega) (fun c3 => ?_) (fun c3 => ?_)
      · have c3 : v = -1 := c3
        refine w_call (r_orNone (by show nv_InR (h3 8 0 5); rw [o1]; unfold m_cw; split <;> omega)) (fun r h4 hr => ?_)
        obtain ⟨rfl, rfl⟩ := hr
        refine cQ.eq ?_ hq
        unfold a_told
        rw [if_pos c3]
        show (if h4 8 0 5 = 61 then -4 else h4 8 0 5) = _
        rw [o1]
        unfold m_cw
        by_cases e : (a_R a 0).1 = 99
        · rw [if_pos e, if_pos rfl, if_pos e]
        · rw [if_neg e, if_neg (by omega), if_neg e]
      · have c3 : ¬ v = -1 := c3
        refine w_call (r_told (i := 0) hv (by omega)) (fun r h4 hr => ?_)
        obtain ⟨rfl, rfl⟩ := hr
        refine cQ.eq ?_ hq
        unfold a_told
        rw [if_neg c3]
        by_cases e : v = -2
        · rw [if_pos e, if_pos (by omega)]; exact o2
        · rw [if_neg e, if_neg (by omega)]; exact o3 _ (by omega)
    · exact cQ.eq (by unfold a_best; rw [if_neg (by rw [cc]; decide), if_pos c2]) (cQ.same C)
  · have cc : a_out v (-2) ((a_Sw a : Int) - 1) = true := by rw [← hS]; exact c
    exact cQ.eq (by unfold a_best; rw [if_pos cc]) (cQ.same C)
set_option maxRecDepth 100000 in
theorem r_most_c (C : CI h a) {n v : Int} (hn : nv_InR n) (hv : nv_InR v) : nv_R M_X5_most [vr 18 0, vi n, vi v] h (cQ h a (a_most a n v)) := by
  obtain ⟨hok, he, hNok⟩ := C.now
  obtain ⟨hP5, hS5, hP, hS, hH, hDr, hpl, hsw⟩ := hok.h
  refine nv_R.of rfl rfl (Nat.le_of_ble_eq_true rfl) ?_
  refine nv_go ok_X5_most [] 80 ?_
  refine w_call (r_outA hn (by omega) (by omega)) (fun r h0 hr => ?_)
  obtain ⟨rfl, rfl⟩ := hr
  refine w_ifb (fun c0 => ?_) (fun c0 => ?_)
  · refine w_call (r_outA hv (by omega) (by show nv_InR (h0 0 0 1 - 1); omega)) (fun r h' hr => ?_)
    obtain ⟨rfl, rfl⟩ := hr
    refine w_ifb (fun c => ?_) (fun c => ?_)
    · have cc : a_out v (-2) ((a_Sw a : Int) - 1) = false := by rw [← hS]; exact c
      have g1 := a_out_f cc
      have g0 := a_out_f c0
      obtain ⟨m, rfl⟩ : ∃ m : Nat, n = m := ⟨n.toNat, by omega⟩
      refine w_call (r_nothing hP5 hS5 hP hS) (fun r h2 hr => ?_)
      obtain ⟨rfl, rfl⟩ := hr
      refine w_ifb (fun c2 => ?_) (fun c2 => ?_)
      · obtain ⟨hP1, hS1⟩ := a_none c2
        have ea : a_most a m v = a_told (a_R a m) (a_P a) (a_Sw a) v (a_P a - (a_R a m).1) := by
          unfold a_most; rw [if_neg (by rw [c0]; decide), if_neg (by rw [cc]; decide), if_neg (by rw [c2]; decide)]; rfl
        have er : m_res (m_nn h2 0) (a_P a) (a_Sw a) m = a_R a m := m_res_eq hP1 he hok
        have h60 : (a_R a m).1 ≤ 60 := m_res_60 hP1 hP5 hS5 (by omega)
        rw [ea]
        refine w_call (r_make (i := 1) (hrs := m) (by omega) hP1 hS1 hok (by omega) C.2.2.2.2.2) (fun r h3 hr => ?_)
        obtain ⟨rfl, ⟨o1, o2, o3⟩, hsr, hf⟩ := hr
        rw [er] at o1 o2 o3
        have hq : cQ h2 a (a_told (a_R a m) (a_P a) (a_Sw a) v (a_P a - (a_R a m).1)) (some (vi (a_told (a_R a m) (a_P a) (a_Sw a) v (a_P a - (a_R a m).1)))) h3 := ⟨rfl, C.srch (by omega) hf hsr⟩
        refine w_ic hv (by omega) (fun c3 => ?_) (fun c3 => ?_)
        · have c3 : v = -1 := c3
          refine cQ.eq ?_ hq
          unfold a_told
          rw [if_pos c3]
          show h3 0 0 0 - h3 8 1 5 = _
          rw [o1, hf 0 0 (by omega) (by omega), hP]
          unfold m_cw
          rw [if_neg (by omega)]
        · have c3 : ¬ v = -1 := c3
          refine w_call (r_told (i := 1) hv (by omega)) (fun r h4 hr => ?_)
          obtain ⟨rfl, rfl⟩ := hr
          refine cQ.eq ?_ hq
          unfold a_told
          rw [if_neg c3]
          by_cases e : v = -2
          · rw [if_pos e, if_pos (by omega)]; exact o2
          · rw [if_neg e, if_neg (by omega)]; exact o3 _ (by omega)
      · exact cQ.eq (by unfold a_most; rw [if_neg (by rw [c0]; decide), if_neg (by rw [cc]; decide), if_pos c2]) (cQ.same C)
    · have cc : a_out v (-2) ((a_Sw a : Int) - 1) = true := by rw [← hS]; exact c
      exact cQ.eq (by unfold a_most; rw [if_neg (by rw [c0]; decide), if_pos cc]) (cQ.same C)
  · exact cQ.eq (by unfold a_most; rw [if_pos c0]) (cQ.same C)
end nvBest
