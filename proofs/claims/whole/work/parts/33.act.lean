/-! ===== what is done: the class ===== -/
theorem m_ok.bound {N : m_NN} {P S : Nat} {B B' : Int} (h : m_ok N P S B) (hb : N 0 2 ≤ B') : m_ok N P S B' := by
  obtain ⟨h1, h2, h3, h4, h5, h6, h7, h8⟩ := h
  exact ⟨h1, h2, h3, h4, ⟨h5.1, hb⟩, h6, h7, h8⟩
theorem c_past.head {h : nv_St} {j P S : Nat} {M N : m_NN} {pl : List m_NN} (k : c_past h j P S ((M :: pl).take 8)) (e : m_eqm P S M N) : c_past h j P S ((N :: pl).take 8) := by
  obtain ⟨nx, a1, a2, a3, a4, a5⟩ := k
  refine ⟨nx, a1, a2, by rw [a3]; simp, by simp; omega, fun i M' hM' => ?_⟩
  cases i with
  | zero =>
    have := a5 0 M (by simp)
    simp at hM'
    subst hM'
    exact this.trans' e
  | succ i => exact a5 (i + 1) M' (by rw [← hM']; simp [List.getElem?_take])
theorem m_okl_take {P S : Nat} {N : m_NN} {pl : List m_NN} (h1 : m_okm P S N) (h2 : m_okl P S pl) : m_okl P S ((N :: pl).take 8) := by
  intro M hM
  rcases List.mem_cons.mp (List.mem_of_mem_take hM) with rfl | h
  · exact h1
  · exact h2 M h
/-- only what is now, its past, and what is tried have changed -/
def c_fr (h h' : nv_St) : Prop := ∀ t i, ¬ (t < 8 ∧ (i = 0 ∨ i = 1 ∨ (3 ≤ i ∧ i < 11))) → ¬ (t = 11 ∧ i = 0) → h' t i = h t i
theorem c_fr.rfl' {h : nv_St} : c_fr h h := fun _ _ _ _ => rfl
theorem c_fr.trans' {h h1 h2 : nv_St} (a : c_fr h h1) (b : c_fr h1 h2) : c_fr h h2 := fun t i x y => (b t i x y).trans (a t i x y)
theorem m_fr.c0 {h h' : nv_St} (a : m_fr 0 h h') : c_fr h h' := fun t i x _ => a t i (by omega)
theorem CI.upd {h h' : nv_St} {a : a_S} (C : CI h a) {w : a_W} (hf : c_fr h h') (hW : c_W h' 0 0 w) : CI h' (w, a.2) ∧ ∀ t i, 19 ≤ t → h' t i = h t i := by
  obtain ⟨k1, k2, k3, k4, k5, k6⟩ := C
  exact ⟨⟨hW, k2.kept (hf 18 0 (by omega) (by omega)) (fun t _ => hf t 2 (by omega) (by omega)) (hf 11 1 (by omega) (by omega)) (fun t q _ _ => hf t _ (by omega) (by omega)),
    k3.kept (by rw [hf 13 0 (by omega) (by omega)]) (hf 14 0 (by omega) (by omega)), k4.kept (fun s _ => ⟨hf 16 s (by omega) (by omega), hf 17 s (by omega) (by omega)⟩), k5.kept (hf 8 0 (by omega) (by omega)) (hf 10 0 (by omega) (by omega)) (fun t _ => hf t 19 (by omega) (by omega)), k6.kept (hf 8 1 (by omega) (by omega)) (hf 10 1 (by omega) (by omega)) (fun t _ => hf t 20 (by omega) (by omega))⟩, fun t i ht => hf t i (by omega) (by omega)⟩
theorem nv_R.post {M : nv_MD} {av : List nv_AV} {h : nv_St} {Q Q' : nv_PT} (k : nv_R M av h Q) (hq : ∀ r h', Q r h' → Q' r h') : nv_R M av h Q' := by
  intro l X hok p e ha hc hk s m args below hf happ hP hT
  obtain ⟨n, o, h1, h2, h3, ⟨⟨r, h', c1, c2, c3, c4⟩, c5⟩, h5⟩ := k l X hok p e ha hc hk s m args below hf happ hP hT
  exact ⟨n, o, h1, h2, h3, ⟨⟨r, h', c1, c2, hq r h' c3, c4⟩, c5⟩, h5⟩
set_option maxRecDepth 100000 in
/-- the past keeps what is now -/
theorem r_keepW {h : nv_St} {w : a_W} (k : c_W h 0 0 w) : nv_R M_X1_keep [vr 11 0, vr 0 0] h (fun r h' => r = none ∧ c_W h' 0 0 (w.1, w.2.1, w.2.2.1, (w.2.2.1 :: w.2.2.2).take 8) ∧ (∀ t, t < 8 → h' t 0 = h t 0) ∧ c_fr h h') := by
  intro l X hok
  obtain ⟨k1, k2, k3, k4⟩ := k
  have := r_keep (h := h) (j := 0) (o := 0) k1.1 k1.2.1 (by decide) (by decide) k3
  refine nv_R.post (M := M_X1_keep) this (fun r h' hr => ?_) l X hok
  obtain ⟨rfl, hp, hf⟩ := hr
  have h0 : ∀ t, h' t 0 = h t 0 ∨ t = 11 := fun t => by
    by_cases e : t = 11
    · exact Or.inr e
    · exact Or.inl (hf t 0 (by omega) (by omega))
  have h0' : ∀ t, t < 8 → h' t 0 = h t 0 := fun t ht => (h0 t).resolve_right (by omega)
  exact ⟨rfl, ⟨k1, by rw [m_nn_ext (fun t ht => h0' t (by omega))]; exact k2, hp.head k2.m, m_okl_take k1.mo k4⟩, h0', fun t i x y => hf t i y (by omega)⟩
/-- what a step of now does to the state: the past keeps it first -/
def a_step (f : m_NN → m_NN) (w : a_W) : a_W := (w.1, w.2.1, f w.2.2.1, (w.2.2.1 :: w.2.2.2).take 8)
def a_steps (f : m_NN → m_NN) : Nat → a_W → a_W
  | 0, w => w
  | n + 1, w => a_step f (a_steps f n w)
theorem a_steps_PS (f : m_NN → m_NN) : ∀ (n : Nat) (w : a_W), (a_steps f n w).1 = w.1 ∧ (a_steps f n w).2.1 = w.2.1
  | 0, _ => ⟨rfl, rfl⟩
  | n + 1, w => a_steps_PS f n w
theorem a_steps_hour {f : m_NN → m_NN} (hf : ∀ N, f N 0 2 = N 0 2 + 1) : ∀ (n : Nat) (w : a_W), (a_steps f n w).2.2.1 0 2 = w.2.2.1 0 2 + n
  | 0, _ => by simp [a_steps]
  | n + 1, w => by
    have ih := a_steps_hour hf n w
    show f (a_steps f n w).2.2.1 0 2 = _
    rw [hf, ih]
    omega
def a_run (f : m_NN → m_NN) (a : a_S) (n : Int) : Int := if a_out n 1 40 = true then -1 else if 9999 < a_N a 0 2 + n then -3 else m_set (fun p => (a_steps f n.toNat a.1).2.2.1 3 p = 0) (a_P a)
def a_runS (f : m_NN → m_NN) (a : a_S) (n : Int) : a_S := if a_out n 1 40 = true then a else if 9999 < a_N a 0 2 + n then a else (a_steps f n.toNat a.1, a.2)
theorem m_drift_02 (N : m_NN) : m_drift N 0 2 = N 0 2 := by
  unfold m_drift m_put
  split <;> simp
theorem m_drift_ok {N : m_NN} {P S : Nat} {B : Int} (hN : m_ok N P S B) : m_ok (m_drift N) P S B := by
  have hd : 0 ≤ m_draw (N 0 3) ∧ m_draw (N 0 3) < 2147483648 := by unfold m_draw; omega
  have h1 : m_ok (m_put N 0 3 (m_draw (N 0 3))) P S B := by
    obtain ⟨h1, h2, h3, h4, h5, h6, h7, h8⟩ := hN
    exact ⟨h1, h2, by simpa [m_put] using h3, by simpa [m_put] using h4, by simpa [m_put] using h5, by simpa [m_put] using hd, fun p hp => by simpa [m_put] using h7 p hp, fun q hq => by simpa [m_put] using h8 q hq⟩
  unfold m_drift
  split
  · next c =>
    refine m_put_ok6 h1 (Or.inr ?_)
    have hP := hN.2.2.1
    rw [hP]
    exact ⟨Int.emod_nonneg _ (by omega), Int.emod_lt_of_pos _ (by omega)⟩
  · exact h1
theorem m_drift_eq {N N' : m_NN} {P S : Nat} (he : m_eq P S N N') : m_eq P S (m_drift N) (m_drift N') := by
  unfold m_drift
  rw [he.1 0 (by omega), he.1 1 (by omega), he.1 3 (by omega)]
  split
  · exact m_put_eq (m_put_eq he)
  · exact m_put_eq he
section nvA
variable {h : nv_St} {a : a_S}
set_option maxRecDepth 100000 in
theorem r_plank_c (C : CI h a) {v k : Int} (hv : nv_InR v) (hk : nv_InR k) : nv_R M_X5_plank [vr 18 0, vi v, vi k] h (cQ h (if a_out v 1 99 = true then a else if a_out k 0 9 = true then a else if a_P a = 5 then a else ((a_P a + 1, a_Sw a, m_addP (a_N a) v k v, []), a.2)) (if a_out v 1 99 = true then -1 else if a_out k 0 9 = true then -1 else if a_P a = 5 then -3 else a_P a)) := by
  obtain ⟨hok, he, hNok⟩ := C.now
  obtain ⟨hP5, hS5, hP, hS, hH, hDr, hpl, hsw⟩ := hok.h
  refine nv_R.of rfl rfl (Nat.le_of_ble_eq_true rfl) ?_
  refine nv_go ok_X5_plank [] 40 ?_
  refine w_call (r_outA hv (by omega) (by omega)) (fun r h' hr => ?_)
  obtain ⟨rfl, rfl⟩ := hr
  refine w_ifb (fun c => ?_) (fun c => ?_)
  · refine w_call (r_outA hk (by omega) (by omega)) (fun r h' hr => ?_)
    obtain ⟨rfl, rfl⟩ := hr
    refine w_ifb (fun c2 => ?_) (fun c2 => ?_)
    · have b1 : ¬ a_out v 1 99 = true := by rw [c]; decide
      have b2 : ¬ a_out k 0 9 = true := by rw [c2]; decide
      have g1 := a_out_f c
      have g2 := a_out_f c2
      refine w_call (r_addPlank (P := a_P a) hP hP5) (fun r h2 hr => ?_)
      rcases hr with ⟨e5, rfl, rfl⟩ | ⟨e5, rfl, hf, hn⟩
      · refine w_if (by omega) (fun _ => ?_) (fun c3 => absurd (by show (-3 : Int) < 0; decide) c3)
        rw [if_neg b1, if_neg b2, if_pos e5, if_neg b1, if_neg b2, if_pos e5]
        exact cQ.same C
      · refine w_if (by omega) (fun c3 => absurd c3 (by show ¬ ((a_P a : Nat) : Int) < 0; omega)) (fun _ => ?_)
        refine w_call r_forget (fun r h3 hr => ?_)
        obtain ⟨rfl, rfl⟩ := hr
        rw [if_neg b1, if_neg b2, if_neg (by omega), if_neg b1, if_neg b2, if_neg (by omega)]
        have hcp := C.1.2.2.1
        have hpk : c_past h2 0 (a_P a) (a_Sw a) (a_pl a) := hcp.kept (hf 11 0 (by omega)) (fun t q _ _ => hf t _ (by omega))
        have en : m_nn (nv_up h2 11 0 1 0) 0 = m_nn h2 0 := m_nn_ext (fun t ht => by funext q; simp [nv_up, show ¬ t = 11 by omega])
        have hmP : m_P (m_nn h' 0) = a_P a := m_P_eq hok
        have hmP2 : m_P (a_N a) = a_P a := m_P_eq hNok
        have hok' : m_ok (m_addP (a_N a) v k v) (a_P a + 1) (a_Sw a) 9999 := by
          obtain ⟨q1, q2, q3, q4, q5, q6, q7, q8⟩ := id hNok
          refine ⟨by omega, q2, ?_, q4, q5, q6, fun p hp => ?_, fun s hs => ⟨(q8 s hs).1, (q8 s hs).2.1, ?_⟩⟩
          · show a_N a 0 0 + 1 = ((a_P a + 1 : Nat) : Int)
            omega
          · show (0 ≤ (if p = m_P (a_N a) then v else a_N a 1 p) ∧ (if p = m_P (a_N a) then v else a_N a 1 p) ≤ 99) ∧ (0 ≤ (if p = m_P (a_N a) then k else a_N a 2 p) ∧ (if p = m_P (a_N a) then k else a_N a 2 p) ≤ 9) ∧ (0 ≤ (if p = m_P (a_N a) then v else a_N a 3 p) ∧ (if p = m_P (a_N a) then v else a_N a 3 p) ≤ 99)
            rw [hmP2]
            by_cases ep : p = a_P a
            · simp only [ep, if_true]; omega
            · simp only [if_neg ep]; exact q7 p (by omega)
          · have := (q8 s hs).2.2
            show a_N a 6 s = -4 ∨ (0 ≤ a_N a 6 s ∧ a_N a 6 s < ((a_P a + 1 : Nat) : Int))
            omega
        have he' : m_eq (a_P a + 1) (a_Sw a) (m_addP (m_nn h' 0) v k v) (m_addP (a_N a) v k v) := by
          refine ⟨fun j hj => ?_, fun p hp => ?_, fun s hs => he.2.2 s hs⟩
          · show (if j = 0 then m_nn h' 0 0 0 + 1 else m_nn h' 0 0 j) = (if j = 0 then a_N a 0 0 + 1 else a_N a 0 j)
            rw [he.1 0 (by omega), he.1 j hj]
          · show (if p = m_P (m_nn h' 0) then v else m_nn h' 0 1 p) = (if p = m_P (a_N a) then v else a_N a 1 p) ∧ (if p = m_P (m_nn h' 0) then k else m_nn h' 0 2 p) = (if p = m_P (a_N a) then k else a_N a 2 p) ∧ (if p = m_P (m_nn h' 0) then v else m_nn h' 0 3 p) = (if p = m_P (a_N a) then v else a_N a 3 p)
            rw [hmP, hmP2]
            by_cases ep : p = a_P a
            · simp only [ep, if_true, and_self]
            · simp only [if_neg ep]; exact he.2.1 p (by omega)
        have hfr : c_fr h' (nv_up h2 11 0 1 0) := by
          intro t i x y
          rw [← hf.c0 t i x y]
          funext q
          unfold nv_up
          rw [if_neg]
          rintro ⟨rfl, rfl, -⟩
          exact y ⟨rfl, rfl⟩
        exact ⟨rfl, C.upd hfr ⟨hok', by rw [en, hn]; exact he', hpk.forget, fun M hM => by simp at hM⟩⟩
    · rw [if_neg (by rw [c]; decide), if_pos c2, if_neg (by rw [c]; decide), if_pos c2]
      exact cQ.same C
  · rw [if_pos c, if_pos c]
    exact cQ.same C
set_option maxRecDepth 100000 in
theorem r_sawyer_c (C : CI h a) {v k : Int} (hv : nv_InR v) (hk : nv_InR k) : nv_R M_X5_sawyer [vr 18 0, vi v, vi k] h (cQ h (if a_out v 0 4 = true then a else if a_out k 0 9 = true then a else if a_Sw a = 5 then a else ((a_P a, a_Sw a + 1, m_addS (a_N a) v k (-4), []), a.2)) (if a_out v 0 4 = true then -1 else if a_out k 0 9 = true then -1 else if a_Sw a = 5 then -3 else a_Sw a)) := by
  obtain ⟨hok, he, hNok⟩ := C.now
  obtain ⟨hP5, hS5, hP, hS, hH, hDr, hpl, hsw⟩ := hok.h
  refine nv_R.of rfl rfl (Nat.le_of_ble_eq_true rfl) ?_
  refine nv_go ok_X5_sawyer [] 40 ?_
  refine w_call (r_outA hv (by omega) (by omega)) (fun r h' hr => ?_)
  obtain ⟨rfl, rfl⟩ := hr
  refine w_ifb (fun c => ?_) (fun c => ?_)
  · refine w_call (r_outA hk (by omega) (by omega)) (fun r h' hr => ?_)
    obtain ⟨rfl, rfl⟩ := hr
    refine w_ifb (fun c2 => ?_) (fun c2 => ?_)
    · have b1 : ¬ a_out v 0 4 = true := by rw [c]; decide
      have b2 : ¬ a_out k 0 9 = true := by rw [c2]; decide
      have g1 := a_out_f c
      have g2 := a_out_f c2
      refine w_call (r_addSawyer (S := a_Sw a) hS hS5) (fun r h2 hr => ?_)
      rcases hr with ⟨e5, rfl, rfl⟩ | ⟨e5, rfl, hf, hn⟩
      · refine w_if (by omega) (fun _ => ?_) (fun c3 => absurd (by show (-3 : Int) < 0; decide) c3)
        rw [if_neg b1, if_neg b2, if_pos e5, if_neg b1, if_neg b2, if_pos e5]
        exact cQ.same C
      · refine w_if (by omega) (fun c3 => absurd c3 (by show ¬ ((a_Sw a : Nat) : Int) < 0; omega)) (fun _ => ?_)
        refine w_call r_forget (fun r h3 hr => ?_)
        obtain ⟨rfl, rfl⟩ := hr
        rw [if_neg b1, if_neg b2, if_neg (by omega), if_neg b1, if_neg b2, if_neg (by omega)]
        have hcp := C.1.2.2.1
        have hpk : c_past h2 0 (a_P a) (a_Sw a) (a_pl a) := hcp.kept (hf 11 0 (by omega)) (fun t q _ _ => hf t _ (by omega))
        have en : m_nn (nv_up h2 11 0 1 0) 0 = m_nn h2 0 := m_nn_ext (fun t ht => by funext q; simp [nv_up, show ¬ t = 11 by omega])
        have hmS : m_S (m_nn h' 0) = a_Sw a := m_S_eq hok
        have hmS2 : m_S (a_N a) = a_Sw a := m_S_eq hNok
        have hok' : m_ok (m_addS (a_N a) v k (-4)) (a_P a) (a_Sw a + 1) 9999 := by
          obtain ⟨q1, q2, q3, q4, q5, q6, q7, q8⟩ := id hNok
          refine ⟨q1, by omega, q3, ?_, q5, q6, fun p hp => q7 p hp, fun s hs => ?_⟩
          · show a_N a 0 1 + 1 = ((a_Sw a + 1 : Nat) : Int)
            omega
          · show (0 ≤ (if s = m_S (a_N a) then v else a_N a 4 s) ∧ (if s = m_S (a_N a) then v else a_N a 4 s) ≤ 4) ∧ (0 ≤ (if s = m_S (a_N a) then k else a_N a 5 s) ∧ (if s = m_S (a_N a) then k else a_N a 5 s) ≤ 9) ∧ ((if s = m_S (a_N a) then -4 else a_N a 6 s) = -4 ∨ (0 ≤ (if s = m_S (a_N a) then -4 else a_N a 6 s) ∧ (if s = m_S (a_N a) then -4 else a_N a 6 s) < a_P a))
            rw [hmS2]
            by_cases ep : s = a_Sw a
            · simp only [if_pos ep]; exact ⟨by omega, by omega, Or.inl trivial⟩
            · simp only [if_neg ep]; exact q8 s (by omega)
        have he' : m_eq (a_P a) (a_Sw a + 1) (m_addS (m_nn h' 0) v k (-4)) (m_addS (a_N a) v k (-4)) := by
          refine ⟨fun j hj => ?_, fun p hp => he.2.1 p hp, fun s hs => ?_⟩
          · show (if j = 1 then m_nn h' 0 0 1 + 1 else m_nn h' 0 0 j) = (if j = 1 then a_N a 0 1 + 1 else a_N a 0 j)
            rw [he.1 1 (by omega), he.1 j hj]
          · show (if s = m_S (m_nn h' 0) then v else m_nn h' 0 4 s) = (if s = m_S (a_N a) then v else a_N a 4 s) ∧ (if s = m_S (m_nn h' 0) then k else m_nn h' 0 5 s) = (if s = m_S (a_N a) then k else a_N a 5 s) ∧ (if s = m_S (m_nn h' 0) then -4 else m_nn h' 0 6 s) = (if s = m_S (a_N a) then -4 else a_N a 6 s)
            rw [hmS, hmS2]
            by_cases ep : s = a_Sw a
            · simp only [ep, if_true, and_self]
            · simp only [if_neg ep]; exact he.2.2 s (by omega)
        have hfr : c_fr h' (nv_up h2 11 0 1 0) := by
          intro t i x y
          rw [← hf.c0 t i x y]
          funext q
          unfold nv_up
          rw [if_neg]
          rintro ⟨rfl, rfl, -⟩
          exact y ⟨rfl, rfl⟩
        exact ⟨rfl, C.upd hfr ⟨hok', by rw [en, hn]; exact he', hpk.forget, fun M hM => by simp at hM⟩⟩
    · rw [if_neg (by rw [c]; decide), if_pos c2, if_neg (by rw [c]; decide), if_pos c2]
      exact cQ.same C
  · rw [if_pos c, if_pos c]
    exact cQ.same C
/-- after the past has kept now, one step of now -/
theorem c_W.step {h h' : nv_St} {w : a_W} {N' : m_NN} (k : c_W h 0 0 (w.1, w.2.1, w.2.2.1, (w.2.2.1 :: w.2.2.2).take 8)) (hf : m_fr 0 h h') (he : m_eq w.1 w.2.1 (m_nn h' 0) N') (hok : m_ok N' w.1 w.2.1 9999) : c_W h' 0 0 (w.1, w.2.1, N', (w.2.2.1 :: w.2.2.2).take 8) :=
  ⟨hok, he, k.2.2.1.kept (hf 11 0 (by omega)) (fun t q _ _ => hf t _ (by omega)), k.2.2.2⟩
set_option maxRecDepth 100000 in
theorem r_hours_c (C : CI h a) {n : Int} (hn : nv_InR n) : nv_R M_X5_hours [vr 18 0, vi n] h (cQ h (a_runS m_hour a n) (a_run m_hour a n)) := by
  obtain ⟨hok, he, hNok⟩ := C.now
  obtain ⟨hP5, hS5, hP, hS, hH, hDr, hpl, hsw⟩ := hok.h
  have e2 : h 0 0 2 = a_N a 0 2 := he.1 2 (by omega)
  refine nv_R.of rfl rfl (Nat.le_of_ble_eq_true rfl) ?_
  refine nv_go ok_X5_hours [32] 40 ?_
  refine w_call (r_outA hn (by omega) (by omega)) (fun r h' hr => ?_)
  obtain ⟨rfl, rfl⟩ := hr
  refine w_ifb (fun c => ?_) (fun c => ?_)
  · have b1 : ¬ a_out n 1 40 = true := by rw [c]; decide
    have g1 := a_out_f c
    refine w_ic (by omega) (by omega) (fun c2 => ?_) (fun c2 => ?_)
    · have c2 : h' 0 0 2 + n ≤ 9999 := c2
      have b2 : ¬ 9999 < a_N a 0 2 + n := by omega
      obtain ⟨m, rfl⟩ : ∃ m : Nat, n = m := ⟨n.toNat, by omega⟩
      have ea : a_run m_hour a m = m_set (fun p => (a_steps m_hour m a.1).2.2.1 3 p = 0) (a_P a) := by unfold a_run; rw [if_neg b1, if_neg b2]; rfl
      have eS : a_runS m_hour a m = (a_steps m_hour m a.1, a.2) := by unfold a_runS; rw [if_neg b1, if_neg b2]; rfl
      rw [ea, eS]
      have loop := m_down (n := m) (G := fun k => ∀ (j : Int) (h1 : nv_St), j = k → c_W h1 0 0 (a_steps m_hour k a.1) → c_fr h' h1 → nv_V M_X5_hours 32 [(0, vr 18 0), (1, vi m), (2, vi j)] [] h1 (cQ h' (a_steps m_hour m a.1, a.2) (m_set (fun p => (a_steps m_hour m a.1).2.2.1 3 p = 0) (a_P a)))) ?_ ?_
      · exact loop 0 (by omega) _ _ rfl C.1 c_fr.rfl'
      · intro j h1 hj hW hf
        have hPS := a_steps_PS m_hour m a.1
        have hok1 := hW.2.1.ok hW.1
        refine nv_go ok_X5_hours [32] 20 ?_
        refine w_ic (by omega) (by omega) (fun c3 => ?_) (fun c3 => ?_)
        · refine w_call (r_fallenSet hok1) (fun r h3 hr => ?_)
          obtain ⟨rfl, rfl⟩ := hr
          refine cQ.eq ?_ ⟨rfl, C.upd hf hW⟩
          rw [hPS.1]
          exact m_set_eq (fun p hp => by have e : h3 3 0 p = (a_steps m_hour m a.1).2.2.1 3 p := (hW.2.1.2.1 p (by rw [hPS.1]; exact hp)).2.2; rw [e])
        · exact absurd (by show (m : Int) ≤ j; omega) c3
      · intro k hk ih j h1 hj hW hf
        refine nv_go ok_X5_hours [32] 30 ?_
        refine w_ic (by omega) (by omega) (fun c3 => ?_) (fun c3 => ?_)
        · exact absurd c3 (by show ¬ ((m : Int) ≤ j); omega)
        · refine w_call (r_keepW hW) (fun r h3 hr => ?_)
          obtain ⟨rfl, hW3, h03, hf3⟩ := hr
          have hok3 := hW3.2.1.ok hW3.1
          refine w_call (r_passHour hok3 (by omega)) (fun r h4 hr => ?_)
          obtain ⟨rfl, he4, hf4⟩ := hr
          have hh := a_steps_hour (f := m_hour) (fun _ => rfl) k a.1
          refine ih _ _ (by omega) (hW3.step hf4 (he4.trans' (m_hour_eq hW3.2.1 hok3)) ((m_hour_ok hW3.1).bound ?_)) (hf.trans' (hf3.trans' hf4.c0))
          show (a_steps m_hour k a.1).2.2.1 0 2 + 1 ≤ 9999
          have : a.1.2.2.1 0 2 = a_N a 0 2 := rfl
          omega
    · have c2 : ¬ h' 0 0 2 + n ≤ 9999 := c2
      have b2 : 9999 < a_N a 0 2 + n := by omega
      unfold a_run a_runS
      rw [if_neg b1, if_pos b2, if_neg b1, if_pos b2]
      exact cQ.same C
  · unfold a_run a_runS
    rw [if_pos c, if_pos c]
    exact cQ.same C
set_option maxRecDepth 100000 in
theorem r_drift_c (C : CI h a) {n : Int} (hn : nv_InR n) : nv_R M_X5_drift [vr 18 0, vi n] h (cQ h (a_runS (fun N => m_hour (m_drift N)) a n) (a_run (fun N => m_hour (m_drift N)) a n)) := by
  generalize hgf : (fun N : m_NN => m_hour (m_drift N)) = gf
  have hg2 : ∀ N, gf N 0 2 = N 0 2 + 1 := fun N => by rw [← hgf]; show m_drift N 0 2 + 1 = _; rw [m_drift_02]
  obtain ⟨hok, he, hNok⟩ := C.now
  obtain ⟨hP5, hS5, hP, hS, hH, hDr, hpl, hsw⟩ := hok.h
  have e2 : h 0 0 2 = a_N a 0 2 := he.1 2 (by omega)
  refine nv_R.of rfl rfl (Nat.le_of_ble_eq_true rfl) ?_
  refine nv_go ok_X5_drift [32] 40 ?_
  refine w_call (r_outA hn (by omega) (by omega)) (fun r h' hr => ?_)
  obtain ⟨rfl, rfl⟩ := hr
  refine w_ifb (fun c => ?_) (fun c => ?_)
  · have b1 : ¬ a_out n 1 40 = true := by rw [c]; decide
    have g1 := a_out_f c
    refine w_ic (by omega) (by omega) (fun c2 => ?_) (fun c2 => ?_)
    · have c2 : h' 0 0 2 + n ≤ 9999 := c2
      have b2 : ¬ 9999 < a_N a 0 2 + n := by omega
      obtain ⟨m, rfl⟩ : ∃ m : Nat, n = m := ⟨n.toNat, by omega⟩
      have ea : a_run gf a m = m_set (fun p => (a_steps gf m a.1).2.2.1 3 p = 0) (a_P a) := by unfold a_run; rw [if_neg b1, if_neg b2]; rfl
      have eS : a_runS gf a m = (a_steps gf m a.1, a.2) := by unfold a_runS; rw [if_neg b1, if_neg b2]; rfl
      rw [ea, eS]
      have loop := m_down (n := m) (G := fun k => ∀ (j : Int) (h1 : nv_St), j = k → c_W h1 0 0 (a_steps gf k a.1) → c_fr h' h1 → nv_V M_X5_drift 32 [(0, vr 18 0), (1, vi m), (2, vi j)] [] h1 (cQ h' (a_steps gf m a.1, a.2) (m_set (fun p => (a_steps gf m a.1).2.2.1 3 p = 0) (a_P a)))) ?_ ?_
      · exact loop 0 (by omega) _ _ rfl C.1 c_fr.rfl'
      · intro j h1 hj hW hf
        have hPS := a_steps_PS gf m a.1
        have hok1 := hW.2.1.ok hW.1
        refine nv_go ok_X5_drift [32] 20 ?_
        refine w_ic (by omega) (by omega) (fun c3 => ?_) (fun c3 => ?_)
        · refine w_call (r_fallenSet hok1) (fun r h3 hr => ?_)
          obtain ⟨rfl, rfl⟩ := hr
          refine cQ.eq ?_ ⟨rfl, C.upd hf hW⟩
          rw [hPS.1]
          exact m_set_eq (fun p hp => by have e : h3 3 0 p = (a_steps gf m a.1).2.2.1 3 p := (hW.2.1.2.1 p (by rw [hPS.1]; exact hp)).2.2; rw [e])
        · exact absurd (by show (m : Int) ≤ j; omega) c3
      · intro k hk ih j h1 hj hW hf
        refine nv_go ok_X5_drift [32] 40 ?_
        refine w_ic (by omega) (by omega) (fun c3 => ?_) (fun c3 => ?_)
        · exact absurd c3 (by show ¬ ((m : Int) ≤ j); omega)
        · refine w_call (r_keepW hW) (fun r h3 hr => ?_)
          obtain ⟨rfl, hW3, h03, hf3⟩ := hr
          have hok3 := hW3.2.1.ok hW3.1
          refine w_call (r_drawAndSet hok3) (fun r h5 hr => ?_)
          obtain ⟨rfl, hf5, hn5⟩ := hr
          have he5 : m_eq (a_steps gf k a.1).1 (a_steps gf k a.1).2.1 (m_nn h5 0) (m_drift (a_steps gf k a.1).2.2.1) := by rw [hn5]; exact m_drift_eq hW3.2.1
          have hokd := m_drift_ok hW3.1
          have hok5 := he5.ok hokd
          refine w_call (r_passHour hok5 (by omega)) (fun r h4 hr => ?_)
          obtain ⟨rfl, he4, hf4⟩ := hr
          have hh := a_steps_hour hg2 k a.1
          have eg : gf (a_steps gf k a.1).2.2.1 = m_hour (m_drift (a_steps gf k a.1).2.2.1) := by rw [← hgf]
          have hW4 := hW3.step (hf5.trans' hf4) (N' := m_hour (m_drift (a_steps gf k a.1).2.2.1)) (he4.trans' (m_hour_eq he5 hok5)) ((m_hour_ok hokd).bound (by
            show m_drift (a_steps gf k a.1).2.2.1 0 2 + 1 ≤ 9999
            rw [m_drift_02]
            have : a.1.2.2.1 0 2 = a_N a 0 2 := rfl
            omega))
          refine ih _ _ (by omega) ?_ (hf.trans' (hf3.trans' (hf5.trans' hf4).c0))
          show c_W h4 0 0 ((a_steps gf k a.1).1, (a_steps gf k a.1).2.1, gf (a_steps gf k a.1).2.2.1, _)
          rw [eg]
          exact hW4
    · have c2 : ¬ h' 0 0 2 + n ≤ 9999 := c2
      have b2 : 9999 < a_N a 0 2 + n := by omega
      unfold a_run a_runS
      rw [if_neg b1, if_pos b2, if_neg b1, if_pos b2]
      exact cQ.same C
  · unfold a_run a_runS
    rw [if_pos c, if_pos c]
    exact cQ.same C
end nvA
