/-! ===== the class's search: its noons, moves, ways ===== -/
set_option maxHeartbeats 4000000 in
set_option maxRecDepth 100000 in
theorem r_noonWithin2 {h : nv_St} {o P S lim : Nat} {B C : Int} (hN : m_ok (m_nn h o) P S B) (hB : B < 1000000) (hl : lim ≤ 60) (hC : m_mc (m_nn h o) P S ≤ C) (hC9 : C ≤ 90) : nv_R M_X0_noonWithin [vr 0 o, vi lim, vi C] h (fun r h' => m_fr o h h' ∧ (∃ n : Nat, m_eq P S (m_nn h' o) (m_it n (m_nn h o))) ∧ r = some (vi (m_nw (m_nn h o) P lim))) := by
  have hmc := m_mc_r hN
  refine nv_R.of rfl rfl (Nat.le_of_ble_eq_true rfl) ?_
  generalize hNe : m_nn h o = N at hN hC hmc
  have loop := m_down (n := lim + 1) (G := fun n => ∀ (j : Int) (h1 : nv_St), j = n → m_eq P S (m_nn h1 o) (m_it n N) → m_fr o h h1 → (∀ k, k < n → m_all (m_it k N) P = false) → nv_V M_X0_noonWithin 2 [(0, vr 0 o), (1, vi lim), (2, vi C), (3, vi j)] [] h1 (fun r h' => m_fr o h h' ∧ (∃ n : Nat, m_eq P S (m_nn h' o) (m_it n N)) ∧ r = some (vi (m_nw N P lim)))) ?_ ?_
  · refine nv_go ok_X0_noonWithin [2] 10 ?_
    exact loop 0 (by omega) _ _ rfl (by rw [hNe]; exact m_eq.rfl') m_fr.rfl' (fun k hk => absurd hk (by omega))
  · intro j h1 hj he hf hno
    refine nv_go ok_X0_noonWithin [2] 30 ?_
    refine w_ic (by omega) (by omega) (fun c => ?_) (fun c => ?_)
    · refine ⟨hf, ⟨_, he⟩, ?_⟩
      unfold m_nw
      rw [m_find_none (fun k _ hk => hno k (by omega)), if_pos rfl]
    · exact absurd (by show (lim : Int) < j; omega) c
  · intro n hn ih j h1 hj he hf hno
    have hok := m_it_ok hN n
    have hok1 := he.ok hok
    have hs := m_left_sum hok1
    have es : m_sum (h1 3 o) P = m_sum (m_it n N 3) P := m_sum_eq (fun p hp => (he.2.1 p hp).2.2)
    have hall := m_all_sum (N := m_it n N) (P := P) (fun p hp => (hok.2.2.2.2.2.2.1 p hp).2.2.1)
    have hCn : 0 ≤ C * (lim - j) ∧ C * (lim - j) ≤ 90 * 60 := by
      have h0 : 0 ≤ C := by omega
      have h1 : 0 ≤ (lim : Int) - j := by omega
      exact ⟨Int.mul_nonneg h0 h1, Int.le_trans (Int.mul_le_mul_of_nonneg_right hC9 h1) (by omega)⟩
    refine nv_go ok_X0_noonWithin [2] 40 ?_
    refine w_ic (by omega) (by omega) (fun c => ?_) (fun c => ?_)
    · exact absurd c (by show ¬ ((lim : Int) < j); omega)
    · refine w_call (r_leftOfAll hok1) (fun v h' hv => ?_)
      obtain ⟨rfl, rfl⟩ := hv
      refine w_if (by omega) (fun c2 => ?_) (fun c2 => ?_)
      · have c2 : m_sum (h' 3 o) P = 0 := c2
        refine ⟨hf, ⟨_, he⟩, ?_⟩
        have e1 : m_find (fun n => m_all (m_it n N) P) (lim + 1) 0 = n := m_find_some (by omega) (by omega) (fun i _ hi => hno i hi) (hall.mpr (by rw [← es]; exact c2))
        unfold m_nw
        rw [e1, if_neg (by omega), hj]
      · have c2 : ¬ m_sum (h' 3 o) P = 0 := c2
        have hnn : m_all (m_it n N) P = false := by
          cases hb : m_all (m_it n N) P with
          | false => rfl
          | true => exact absurd (by rw [es]; exact hall.mp hb) c2
        have late : (∀ k, n ≤ k → k ≤ lim → m_all (m_it k N) P = false) → m_nw N P lim = 61 := by
          intro hk
          unfold m_nw
          rw [m_find_none (fun k _ h2 => ?_), if_pos rfl]
          by_cases e : k < n
          · exact hno k e
          · exact hk k (by omega) (by omega)
        refine w_ic (by omega) (by omega) (fun c3 => ?_) (fun c3 => ?_)
        · have c3 : C * (lim - j) < m_sum (h' 3 o) P := c3
          refine ⟨hf, ⟨_, he⟩, ?_⟩
          rw [late (fun k h1 h2 => ?_)]
          have hk := (m_it_sum hN n (k - n)).1
          rw [show n + (k - n) = k by omega, ← es] at hk
          have hokk := m_it_ok hN k
          have hallk := m_all_sum (N := m_it k N) (P := P) (fun p hp => (hokk.2.2.2.2.2.2.1 p hp).2.2.1)
          cases hb : m_all (m_it k N) P with
          | false => rfl
          | true =>
            have h0 := hallk.mp hb
            have h5 : ((k - n : Nat) : Int) * m_mc N P S ≤ (lim - j) * C := Int.mul_le_mul (by omega) hC hmc.1 (by omega)
            rw [Int.mul_comm] at h5
            rw [Int.mul_comm C] at c3
            rw [Int.mul_comm] at h5
            omega
        · refine w_call (r_passHour hok1 (by omega)) (fun v h2 hv => ?_)
          obtain ⟨rfl, he2, hf2⟩ := hv
          refine w_if (by have := nv_b01 (m_stir (m_nn h' o)); omega) (fun c4 => ?_) (fun c4 => ?_)
          · have c4 : m_stir (m_nn h' o) = false := by
              have c5 : nv_b (m_stir (m_nn h' o)) = 0 := c4
              revert c5; cases m_stir (m_nn h' o) <;> simp [nv_b]
            refine ⟨hf.trans' hf2, ⟨n + 1, he2.trans' (m_hour_eq he hok1)⟩, ?_⟩
            rw [m_stir_eq he hok1] at c4
            have hd := m_stir_dead hok c4
            rw [late (fun k h1 h2 => ?_)]
            have e3 : m_it k N 3 = m_it n N 3 := by
              have hk : ∀ i, m_it (n + i) N = m_it i (m_it n N) := by
                intro i
                induction i with
                | zero => rfl
                | succ i ih => show m_hour (m_it (n + i) N) = m_hour (m_it i (m_it n N)); rw [ih]
              have := (m_dead_it hok hd (k - n)).1
              rw [← hk, show n + (k - n) = k by omega] at this
              exact this
            rw [m_all_eq (N' := m_it n N) (fun p _ => by rw [e3])]
            exact hnn
          · refine nv_V.take 4 (ih (j + 1) h2 (by omega) (he2.trans' (m_hour_eq he hok1)) (hf.trans' hf2) (fun k hk => ?_))
            by_cases e : k = n
            · rw [e]; exact hnn
            · exact hno k (by omega)
set_option maxRecDepth 100000 in
theorem r_standingBehind2 {h : nv_St} {o P S n : Nat} {B : Int} (hN : m_ok (m_nn h o) P S B) (hB : B < 1000000) (hn : n ≤ 60) : nv_R M_X0_standingBehind [vr 0 o, vi n] h (fun r h' => m_fr o h h' ∧ (∃ n : Nat, m_eq P S (m_nn h' o) (m_it n (m_nn h o))) ∧ r = some (vi (m_std (m_nn h o) P n))) := by
  refine nv_R.of rfl rfl (Nat.le_of_ble_eq_true rfl) ?_
  generalize hNe : m_nn h o = N at hN
  have fin : ∀ (lv : nv_LV) (k : Nat) (h1 : nv_St), lv.take 1 = [(0, vr 0 o)] → m_eq P S (m_nn h1 o) (m_it k N) → m_fr o h h1 → (∀ p, p < P → m_it n N 3 p = m_it k N 3 p) → k ≤ n → nv_V M_X0_standingBehind 24 lv [] h1 (fun r h' => m_fr o h h' ∧ (∃ n : Nat, m_eq P S (m_nn h' o) (m_it n N)) ∧ r = some (vi (m_std N P n))) := by
    intro lv k h1 hlv he hf hp hk
    have hok1 := he.ok (m_it_ok hN k)
    obtain ⟨hP5, hS5, hP, hS, hH, hDr, hpl, hsw⟩ := hok1.h
    have hlt := m_set_lt (fun p => h1 3 o p = 0) P
    have h32 := m_pow5 hP5
    refine nv_V.take 1 ?_
    rw [hlv]
    refine nv_go ok_X0_standingBehind [] 30 ?_
    refine w_call (r_fallenSet hok1) (fun v h' hv => ?_)
    obtain ⟨rfl, rfl⟩ := hv
    refine w_call (r_bitCount hlt.1 (by omega)) (fun v h' hv => ?_)
    obtain ⟨rfl, rfl⟩ := hv
    refine ⟨hf, ⟨_, he⟩, ?_⟩
    unfold m_std
    rw [hP, m_set_eq (f := fun p => h' 3 o p = 0) (g := fun p => m_it n N 3 p = 0) (fun p hp1 => by rw [hp p hp1]; have := (he.2.1 p hp1).2.2; exact ⟨fun q => by rw [← this]; exact q, fun q => this.trans q⟩)]
  have loop := m_down (n := n) (G := fun k => ∀ (j : Int) (h1 : nv_St), j = k → m_eq P S (m_nn h1 o) (m_it k N) → m_fr o h h1 → nv_V M_X0_standingBehind 4 [(0, vr 0 o), (1, vi n), (2, vi 1), (3, vi j)] [] h1 (fun r h' => m_fr o h h' ∧ (∃ n : Nat, m_eq P S (m_nn h' o) (m_it n N)) ∧ r = some (vi (m_std N P n)))) ?_ ?_
  · refine nv_go ok_X0_standingBehind [4] 10 ?_
    exact loop 0 (by omega) _ _ rfl (by rw [hNe]; exact m_eq.rfl') m_fr.rfl'
  · intro j h1 hj he hf
    refine nv_go ok_X0_standingBehind [4, 24] 10 ?_
    refine w_ic (by omega) (by omega) (fun c => ?_) (fun c => ?_)
    · exact fin _ n h1 rfl he hf (fun _ _ => rfl) (Nat.le_refl _)
    · exact absurd (by show (n : Int) ≤ j; omega) c
  · intro k hk ih j h1 hj he hf
    have hok := m_it_ok hN k
    have hok1 := he.ok hok
    refine nv_go ok_X0_standingBehind [4, 24] 20 ?_
    refine w_ic (by omega) (by omega) (fun c => ?_) (fun c => ?_)
    · exact absurd c (by show ¬ ((n : Int) ≤ j); omega)
    · refine w_if (by omega) (fun c2 => absurd c2 (by decide)) (fun c2 => ?_)
      refine w_call (r_passHour hok1 (by omega)) (fun v h2 hv => ?_)
      obtain ⟨rfl, he2, hf2⟩ := hv
      have he3 := he2.trans' (m_hour_eq he hok1)
      cases hb : m_stir (m_nn h1 o) with
      | true => exact ih _ _ (by omega) he3 (hf.trans' hf2)
      | false =>
        rw [m_stir_eq he hok1] at hb
        have hd := m_stir_dead hok hb
        have e3 : ∀ i, m_it (k + i) N 3 = m_it k N 3 := by
          intro i
          have hk : ∀ i, m_it (k + i) N = m_it i (m_it k N) := by
            intro i
            induction i with
            | zero => rfl
            | succ i ih => show m_hour (m_it (k + i) N) = m_hour (m_it i (m_it k N)); rw [ih]
          rw [hk]
          exact (m_dead_it hok hd i).1
        refine nv_go ok_X0_standingBehind [24] 20 ?_
        by_cases e : k + 1 = n
        · refine w_ic (by omega) (by omega) (fun c => ?_) (fun c => ?_)
          · exact fin _ (k + 1) h2 rfl he3 (hf.trans' hf2) (fun p _ => by rw [e]) (by omega)
          · exact absurd (by show (n : Int) ≤ j + 1; omega) c
        · refine w_ic (by omega) (by omega) (fun c => ?_) (fun c => ?_)
          · exact absurd c (by show ¬ ((n : Int) ≤ j + 1); omega)
          · refine w_if (by decide) (fun _ => ?_) (fun c2 => absurd rfl c2)
            refine fin _ (k + 1) h2 rfl he3 (hf.trans' hf2) (fun p _ => ?_) (by omega)
            have a1 := e3 (n - k)
            rw [show k + (n - k) = n by omega] at a1
            rw [a1, e3 1]
theorem m_it_st {N : m_NN} : ∀ n, m_it n N 0 0 = N 0 0 ∧ m_it n N 0 1 = N 0 1 ∧ m_it n N 1 = N 1 ∧ m_it n N 2 = N 2 ∧ m_it n N 4 = N 4
  | 0 => ⟨rfl, rfl, rfl, rfl, rfl⟩
  | n + 1 => by
    have ih := m_it_st (N := N) n
    exact ih
/-- what no hour changes -/
def c_st (h : nv_St) (o : Nat) (N : m_NN) (P S : Nat) : Prop := h 0 o 0 = N 0 0 ∧ h 0 o 1 = N 0 1 ∧ (∀ p, p < P → h 1 o p = N 1 p ∧ h 2 o p = N 2 p) ∧ ∀ s, s < S → h 4 o s = N 4 s
theorem c_st.of {h h' : nv_St} {o P S : Nat} {N : m_NN} (k : ∃ n : Nat, m_eq P S (m_nn h' o) (m_it n (m_nn h o))) (c : c_st h o N P S) : c_st h' o N P S := by
  obtain ⟨n, k⟩ := k
  obtain ⟨i0, i1, i2, i3, i4⟩ := m_it_st (N := m_nn h o) n
  refine ⟨((k.1 0 (by omega)).trans i0).trans c.1, ((k.1 1 (by omega)).trans i1).trans c.2.1, fun p hp => ⟨?_, ?_⟩, fun s hs => ?_⟩
  · exact ((k.2.1 p hp).1.trans (congrFun i2 p)).trans (c.2.2.1 p hp).1
  · exact ((k.2.1 p hp).2.1.trans (congrFun i3 p)).trans (c.2.2.1 p hp).2
  · exact ((k.2.2 s hs).1.trans (congrFun i4 s)).trans (c.2.2.2 s hs)
set_option maxRecDepth 100000 in
theorem r_told {h : nv_St} {i : Nat} {v : Int} (hv : nv_InR v) (h5 : v < 5) : nv_R M_X2_told [vr 8 i, vi v] h (fun r h' => h' = h ∧ r = some (vi (if v < 0 then h 8 i 6 else h 10 i v.toNat))) := by
  refine nv_R.of rfl rfl (Nat.le_of_ble_eq_true rfl) ?_
  refine nv_go ok_X2_told [] 20 ?_
  refine w_if hv (fun c => ?_) (fun c => ?_)
  · have c : 0 ≤ v := c
    refine w_ix v.toNat (by omega) (by omega) ?_
    exact ⟨rfl, by rw [if_neg (by omega)]⟩
  · have c : ¬ 0 ≤ v := c
    exact ⟨rfl, by rw [if_pos (by omega)]⟩
set_option maxRecDepth 100000 in
theorem r_movesNow {h : nv_St} {i S : Nat} (hS5 : S ≤ 5) (hS : h 0 (19 + i) 1 = S) (h9 : ∀ s, s < S → nv_InR (h 9 i s) ∧ nv_InR (h 6 (19 + i) s)) : nv_R M_X2_movesNow [vr 8 i] h (fun r h' => h' = h ∧ r = some (vi (m_sum (fun s => if h 9 i s = h 6 (19 + i) s then 0 else 1) S))) := by
  refine nv_R.of rfl rfl (Nat.le_of_ble_eq_true rfl) ?_
  have loop := m_down (n := S) (G := fun p => ∀ j x : Int, j = p → x = m_sum (fun s => if h 9 i s = h 6 (19 + i) s then 0 else 1) p → nv_V M_X2_movesNow 4 [(0, vr 8 i), (1, vi x), (2, vi j)] [] h (fun r h' => h' = h ∧ r = some (vi (m_sum (fun s => if h 9 i s = h 6 (19 + i) s then 0 else 1) S)))) ?_ ?_
  · refine nv_go ok_X2_movesNow [4] 10 ?_
    exact loop 0 (by omega) _ _ rfl rfl
  · intro j x hj hx
    refine nv_go ok_X2_movesNow [4] 30 ?_
    refine w_ic (by omega) (by omega) (fun c => ?_) (fun c => ?_)
    · exact ⟨rfl, by rw [hx]⟩
    · exact absurd (by show h 0 (19 + i) 1 ≤ j; omega) c
  · intro p hp ih j x hj hx
    obtain ⟨g1, g2⟩ := h9 p hp
    refine nv_go ok_X2_movesNow [4] 30 ?_
    refine w_ic (by omega) (by omega) (fun c => ?_) (fun c => ?_)
    · exact absurd c (by show ¬ (h 0 (19 + i) 1 ≤ j); omega)
    · refine w_ix p hj (by omega) ?_
      refine w_ix p hj (by omega) ?_
      refine w_ic g1 g2 (fun c2 => ?_) (fun c2 => ?_)
      · have c2 : h 9 i p = h 6 (19 + i) p := c2
        exact ih _ _ (by omega) (by rw [hx]; show _ = m_sum _ p + (if h 9 i p = h 6 (19 + i) p then 0 else 1); rw [if_pos c2]; omega)
      · have c2 : ¬ h 9 i p = h 6 (19 + i) p := c2
        exact ih _ _ (by omega) (by rw [hx]; show _ = m_sum _ p + (if h 9 i p = h 6 (19 + i) p then 0 else 1); rw [if_neg c2])
set_option maxRecDepth 100000 in
theorem r_toNextWay {h : nv_St} {i P S k : Nat} (hP1 : 1 ≤ P) (hP5 : P ≤ 5) (hS5 : S ≤ 5) (hP : h 0 (19 + i) 0 = P) (hS : h 0 (19 + i) 1 = S) (h9 : ∀ s, s < S → h 9 i s = m_wseat P S k s) :
    nv_R M_X2_toNextWay [vr 8 i] h (fun r h' => r = none ∧ (∀ t q, ¬ (t = 9 ∧ q = i) → h' t q = h t q) ∧ ∀ s, s < S → h' 9 i s = m_wseat P S (k + 1) s) := by
  refine nv_R.of rfl rfl (Nat.le_of_ble_eq_true rfl) ?_
  generalize hQ : (fun (r : Option nv_AV) (h' : nv_St) => r = none ∧ (∀ t q, ¬ (t = 9 ∧ q = i) → h' t q = h t q) ∧ ∀ s, s < S → h' 9 i s = m_wseat P S (k + 1) s) = Q
  have loop := m_down (n := S) (G := fun q => ∀ (j : Int) (h1 : nv_St), j = (S : Int) - 1 - q → k % P ^ q + 1 = P ^ q → (∀ t q, ¬ (t = 9 ∧ q = i) → h1 t q = h t q) → (∀ s, s < S → S - 1 - s < q → h1 9 i s = 0) → (∀ s, s < S → q ≤ S - 1 - s → h1 9 i s = m_wseat P S k s) → nv_V M_X2_toNextWay 10 [(0, vr 8 i), (1, vi j)] [] h1 Q) ?_ ?_
  · refine nv_go ok_X2_toNextWay [10] 20 ?_
    exact loop 0 (by omega) _ _ (by show h 0 (19 + i) 1 - 1 = _; omega) (by simp [Nat.mod_one]) (fun _ _ _ => rfl) (fun s _ hs => absurd hs (by omega)) (fun s hs _ => h9 s hs)
  · intro j h1 hj hk hf hz hr
    refine nv_go ok_X2_toNextWay [] 30 ?_
    refine w_if (by omega) (fun c => ?_) (fun c => ?_)
    · show Q _ _
      rw [← hQ]
      refine ⟨rfl, hf, fun s hs => ?_⟩
      rw [hz s hs (by omega)]
      unfold m_wseat
      rw [m_dg_2 (m_dg_1 hk) (by omega) (S - 1 - s) (by omega)]
      rfl
    · exact absurd (by show j < 0; omega) c
  · intro q hq ih j h1 hj hk hf hz hr
    obtain ⟨s, hs⟩ : ∃ s : Nat, s + q + 1 = S := ⟨S - 1 - q, by omega⟩
    have hjs : j = (s : Int) := by omega
    have e9 : h1 9 i s = m_wseat P S k s := hr s (by omega) (by omega)
    have er := m_wseat_r (P := P) (S := S) (k := k) (s := s) hP1
    have eq' : S - 1 - s = q := by omega
    have ew : m_wseat P S k s = ((k / P ^ q % P : Nat) : Int) := by unfold m_wseat; rw [eq']
    have eP : h1 0 (19 + i) 0 = P := by rw [hf 0 (19 + i) (by omega)]; exact hP
    refine nv_go ok_X2_toNextWay [10] 40 ?_
    refine w_if (by omega) (fun c => ?_) (fun c => ?_)
    · exact absurd c (by show ¬ (j < 0); omega)
    · refine w_ix s hjs (by omega) ?_
      refine w_ix s hjs (by omega) ?_
      refine w_ix s hjs (by omega) ?_
      have x1 : nv_up h1 9 i s (h1 9 i s + 1) 9 i s = m_wseat P S k s + 1 := by rw [nv_up_same, e9]
      have x2 : nv_up h1 9 i s (h1 9 i s + 1) 0 (19 + i) 0 = P := by
        have : nv_up h1 9 i s (h1 9 i s + 1) 0 (19 + i) 0 = h1 0 (19 + i) 0 := by simp [nv_up]
        rw [this]; exact eP
      refine w_ic (by rw [x1]; omega) (by rw [x2]; omega) (fun c2 => ?_) (fun c2 => ?_)
      · have c2 : (P : Int) ≤ m_wseat P S k s + 1 := by
          have c3 : nv_up h1 9 i s (h1 9 i s + 1) 0 (19 + i) 0 ≤ nv_up h1 9 i s (h1 9 i s + 1) 9 i s := c2
          rw [x1, x2] at c3; exact c3
        refine w_ix s hjs (by omega) ?_
        refine ih _ _ (by omega) (m_dg_4 hk (by omega)) (fun t r hn => ?_) (fun z hz1 hz2 => ?_) (fun z hz1 hz2 => ?_)
        · rw [← hf t r hn]; funext y; unfold nv_up; rw [if_neg (by rintro ⟨rfl, rfl, -⟩; exact hn ⟨rfl, rfl⟩), if_neg (by rintro ⟨rfl, rfl, -⟩; exact hn ⟨rfl, rfl⟩)]
        · by_cases ez : z = s
          · rw [ez, nv_up_same]
          · rw [nv_up_ne ez, nv_up_ne ez]; exact hz z hz1 (by omega)
        · rw [nv_up_ne (by omega), nv_up_ne (by omega)]; exact hr z hz1 (by omega)
      · have c2 : m_wseat P S k s + 1 < (P : Int) := by
          have c3 : ¬ nv_up h1 9 i s (h1 9 i s + 1) 0 (19 + i) 0 ≤ nv_up h1 9 i s (h1 9 i s + 1) 9 i s := c2
          rw [x1, x2] at c3; omega
        show Q _ _
        rw [← hQ]
        obtain ⟨d1, d2⟩ := m_dg_3 (m_dg_1 hk) (by omega) (show k / P ^ q % P + 1 < P by omega)
        refine ⟨rfl, fun t r hn => ?_, fun z hz1 => ?_⟩
        · rw [← hf t r hn]; funext y; unfold nv_up; rw [if_neg (by rintro ⟨rfl, rfl, -⟩; exact hn ⟨rfl, rfl⟩)]
        · by_cases ez : z = s
          · rw [ez, x1, ew]; unfold m_wseat; rw [eq', d1]; omega
          · rw [nv_up_ne ez]
            by_cases hl : S - 1 - z < q
            · rw [hz z hz1 hl]; unfold m_wseat
              rw [m_dg_2 (m_dg_1 hk) (by omega) (S - 1 - z) hl]; rfl
            · rw [hr z hz1 (by omega)]
              have := d2 (S - 1 - z - q - 1)
              rw [show q + 1 + (S - 1 - z - q - 1) = S - 1 - z by omega] at this
              unfold m_wseat
              rw [this]
/-- whether two noons are alike -/
def m_like (h : nv_St) (a b P S : Nat) : Prop := h 0 a 0 = h 0 b 0 ∧ h 0 a 1 = h 0 b 1 ∧ h 0 a 2 = h 0 b 2 ∧ (∀ p, p < P → h 1 a p = h 1 b p ∧ h 2 a p = h 2 b p ∧ h 3 a p = h 3 b p) ∧ ∀ s, s < S → h 4 a s = h 4 b s ∧ h 5 a s = h 5 b s ∧ h 6 a s = h 6 b s
set_option maxHeartbeats 2000000 in
set_option maxRecDepth 100000 in
theorem r_isLike {h : nv_St} {a b P S P' S' : Nat} (ha : m_ok (m_nn h a) P S 9999) (hb : m_ok (m_nn h b) P' S' 9999) : nv_R M_X0_isLike [vr 0 a, vr 0 b] h (fun r h' => h' = h ∧ ∃ L : Bool, r = some (vi (nv_b L)) ∧ (L = true → m_like h a b P S)) := by
  obtain ⟨hP5, hS5, hP, hS, hH, hDr, hpl, hsw⟩ := ha.h
  obtain ⟨kP5, kS5, kP, kS, kH, kDr, kpl, ksw⟩ := hb.h
  refine nv_R.of rfl rfl (Nat.le_of_ble_eq_true rfl) ?_
  generalize hQ : (fun (r : Option nv_AV) (h' : nv_St) => h' = h ∧ ∃ L : Bool, r = some (vi (nv_b L)) ∧ (L = true → m_like h a b P S)) = Q
  have fin : ∀ (L : Bool) (j : Int), (L = true → m_like h a b P S) → nv_V M_X0_isLike 181 [(0, vr 0 a), (1, vr 0 b), (2, vi (nv_b L)), (3, vi j)] [] h Q := by
    intro L j hL
    refine nv_go ok_X0_isLike [] 20 ?_
    refine And.intro (nv_b01 _) ?_
    show Q _ _
    rw [← hQ]
    exact ⟨rfl, L, rfl, hL⟩
  have no : ∀ (j : Int), nv_V M_X0_isLike 181 [(0, vr 0 a), (1, vr 0 b), (2, vi 0), (3, vi j)] [] h Q := fun j => fin false j (fun h => absurd h (by decide))
  have no2 : ∀ (j : Int), nv_V M_X0_isLike 112 [(0, vr 0 a), (1, vr 0 b), (2, vi 0), (3, vi j)] [] h Q := by
    intro j
    refine nv_go ok_X0_isLike [181] 20 ?_
    exact w_if (by omega) (fun _ => no j) (fun c => absurd rfl c)
  have no1 : ∀ (j : Int), nv_V M_X0_isLike 41 [(0, vr 0 a), (1, vr 0 b), (2, vi 0), (3, vi j)] [] h Q := by
    intro j
    refine nv_go ok_X0_isLike [112] 20 ?_
    exact w_if (by omega) (fun _ => no2 _) (fun c => absurd rfl c)
  have yes : h 0 a 0 = h 0 b 0 → h 0 a 1 = h 0 b 1 → h 0 a 2 = h 0 b 2 → nv_V M_X0_isLike 41 [(0, vr 0 a), (1, vr 0 b), (2, vi 1), (3, vi 0)] [] h Q := by
    intro e0 e1 e2
    have ePP : P = P' := by omega
    have eSS : S = S' := by omega
    subst ePP
    subst eSS
    have loop2 : (∀ p, p < P → h 1 a p = h 1 b p ∧ h 2 a p = h 2 b p ∧ h 3 a p = h 3 b p) → nv_V M_X0_isLike 112 [(0, vr 0 a), (1, vr 0 b), (2, vi 1), (3, vi 0)] [] h Q := by
      intro hall
      have loop := m_down (n := S) (G := fun q => ∀ j : Int, j = q → (∀ s, s < q → h 4 a s = h 4 b s ∧ h 5 a s = h 5 b s ∧ h 6 a s = h 6 b s) → nv_V M_X0_isLike 112 [(0, vr 0 a), (1, vr 0 b), (2, vi 1), (3, vi j)] [] h Q) ?_ ?_
      · exact loop 0 (by omega) 0 rfl (fun s hs => absurd hs (by omega))
      · intro j hj hs
        refine nv_go ok_X0_isLike [181] 20 ?_
        refine w_if (by omega) (fun c => absurd c (by decide)) (fun _ => ?_)
        refine w_ic (by omega) (by omega) (fun c => ?_) (fun c => ?_)
        · exact fin true j (fun _ => ⟨e0, e1, e2, hall, hs⟩)
        · exact absurd (by show h 0 a 1 ≤ j; omega) c
      · intro q hq ih j hj hs
        obtain ⟨a1, a2, a3⟩ := hsw q hq
        obtain ⟨b1, b2, b3⟩ := ksw q hq
        refine nv_go ok_X0_isLike [112, 181] 60 ?_
        refine w_if (by omega) (fun c => absurd c (by decide)) (fun _ => ?_)
        refine w_ic (by omega) (by omega) (fun c => ?_) (fun c => ?_)
        · exact absurd c (by show ¬ (h 0 a 1 ≤ j); omega)
        · refine w_ix q hj (by omega) ?_
          refine w_ix q hj (by omega) ?_
          refine w_ic (by omega) (by omega) (fun d1 => ?_) (fun d1 => no2 _)
          refine w_ix q hj (by omega) ?_
          refine w_ix q hj (by omega) ?_
          refine w_ic (by omega) (by omega) (fun d2 => ?_) (fun d2 => no2 _)
          refine w_ix q hj (by omega) ?_
          refine w_ix q hj (by omega) ?_
          refine w_ic (by omega) (by omega) (fun d3 => ?_) (fun d3 => no2 _)
          refine ih _ (by omega) (fun s hs2 => ?_)
          by_cases es : s = q
          · rw [es]; exact ⟨d1, d2, d3⟩
          · exact hs s (by omega)
    have loop := m_down (n := P) (G := fun q => ∀ j : Int, j = q → (∀ p, p < q → h 1 a p = h 1 b p ∧ h 2 a p = h 2 b p ∧ h 3 a p = h 3 b p) → nv_V M_X0_isLike 41 [(0, vr 0 a), (1, vr 0 b), (2, vi 1), (3, vi j)] [] h Q) ?_ ?_
    · exact loop 0 (by omega) 0 rfl (fun s hs => absurd hs (by omega))
    · intro j hj hs
      refine nv_go ok_X0_isLike [112] 20 ?_
      refine w_if (by omega) (fun c => absurd c (by decide)) (fun _ => ?_)
      refine w_ic (by omega) (by omega) (fun c => ?_) (fun c => ?_)
      · exact loop2 hs
      · exact absurd (by show h 0 a 0 ≤ j; omega) c
    · intro q hq ih j hj hs
      obtain ⟨a1, a2, a3⟩ := hpl q hq
      obtain ⟨b1, b2, b3⟩ := kpl q hq
      refine nv_go ok_X0_isLike [41, 112] 60 ?_
      refine w_if (by omega) (fun c => absurd c (by decide)) (fun _ => ?_)
      refine w_ic (by omega) (by omega) (fun c => ?_) (fun c => ?_)
      · exact absurd c (by show ¬ (h 0 a 0 ≤ j); omega)
      · refine w_ix q hj (by omega) ?_
        refine w_ix q hj (by omega) ?_
        refine w_ic (by omega) (by omega) (fun d1 => ?_) (fun d1 => no1 _)
        refine w_ix q hj (by omega) ?_
        refine w_ix q hj (by omega) ?_
        refine w_ic (by omega) (by omega) (fun d2 => ?_) (fun d2 => no1 _)
        refine w_ix q hj (by omega) ?_
        refine w_ix q hj (by omega) ?_
        refine w_ic (by omega) (by omega) (fun d3 => ?_) (fun d3 => no1 _)
        refine ih _ (by omega) (fun s hs2 => ?_)
        by_cases es : s = q
        · rw [es]; exact ⟨d1, d2, d3⟩
        · exact hs s (by omega)
  refine nv_go ok_X0_isLike [41] 60 ?_
  refine w_ic (by omega) (by omega) (fun d1 => ?_) (fun d1 => no1 _)
  refine w_ic (by omega) (by omega) (fun d2 => ?_) (fun d2 => no1 _)
  refine w_ic (by omega) (by omega) (fun d3 => ?_) (fun d3 => no1 _)
  exact yes d1 d2 d3
