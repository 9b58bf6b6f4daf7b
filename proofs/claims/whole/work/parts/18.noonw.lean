/-! ===== noonWithin, standingBehind, mostCut ===== -/
set_option maxRecDepth 100000 in
theorem r_mostCut {h : nv_St} {o P S : Nat} {B : Int} (hN : m_ok (m_nn h o) P S B) : nv_R M_X0_mostCut [vr 0 o] h (fun r h' => h' = h ∧ r = some (vi (m_mc (m_nn h o) P S))) := by
  obtain ⟨hP5, hS5, hP, hS, hH, hDr, hpl, hsw⟩ := hN.h
  refine nv_R.of rfl rfl (Nat.le_of_ble_eq_true rfl) ?_
  have loop := m_down (n := S) (G := fun s => ∀ j x : Int, j = s → x = m_sum (fun s => m_mcs (m_nn h o) s P) s → nv_V M_X0_mostCut 4 [(0, vr 0 o), (1, vi x), (2, vi j)] [] h (fun r h' => h' = h ∧ r = some (vi (m_mc (m_nn h o) P S)))) ?_ ?_
  · refine nv_go ok_X0_mostCut [4] 10 ?_
    exact loop 0 (by omega) _ _ rfl rfl
  · intro j x hj hx
    refine nv_go ok_X0_mostCut [4] 30 ?_
    refine w_ic (by omega) (by omega) (fun c => ?_) (fun c => ?_)
    · exact ⟨rfl, by rw [hx]; rfl⟩
    · exact absurd (by show h 0 o 1 ≤ j; omega) c
  · intro s hs ih j x hj hx
    obtain ⟨a1, a2, a3⟩ := hsw s hs
    have inner := m_down (n := P) (G := fun p => ∀ q y : Int, q = p → y = m_mcs (m_nn h o) s p → nv_V M_X0_mostCut 17 [(0, vr 0 o), (1, vi x), (2, vi j), (3, vi y), (4, vi q)] [] h (fun r h' => h' = h ∧ r = some (vi (m_mc (m_nn h o) P S)))) ?_ ?_
    · refine nv_go ok_X0_mostCut [17] 30 ?_
      refine w_ic (by omega) (by omega) (fun c => ?_) (fun c => ?_)
      · exact absurd c (by show ¬ (h 0 o 1 ≤ j); omega)
      · exact inner 0 (by omega) _ _ rfl rfl
    · intro q y hq hy
      refine nv_go ok_X0_mostCut [4] 30 ?_
      refine w_ic (by omega) (by omega) (fun c => ?_) (fun c => ?_)
      · exact nv_V.take 3 (ih _ _ (by omega) (by rw [hx, hy]; rfl))
      · exact absurd (by show h 0 o 0 ≤ q; omega) c
    · intro p hp ih2 q y hq hy
      have hb := (hpl p hp).2.1
      have h18 : 0 ≤ y ∧ y ≤ 18 := by rw [hy]; exact ⟨m_mcs_0, m_mcs_18 (N := m_nn h o) (s := s) (P := P) a2 (fun p hp => (hpl p hp).2.1) (by omega)⟩
      have hby := m_by_r (kd := h 4 o s) (e := true) (r := false) a2 hb
      refine nv_go ok_X0_mostCut [17] 40 ?_
      refine w_ic (by omega) (by omega) (fun c => ?_) (fun c => ?_)
      · exact absurd c (by show ¬ (h 0 o 0 ≤ q); omega)
      · refine w_ix s hj (by omega) ?_
        refine w_ix s hj (by omega) ?_
        refine w_ix p hq (by omega) ?_
        refine w_call (r_cutBy (e := true) (r := false) a1 a2 hb) (fun v h' hv => ?_)
        obtain ⟨rfl, rfl⟩ := hv
        refine w_mx (by omega) (by omega) ?_
        exact ih2 _ _ (by omega) (by rw [hy]; rfl)
theorem m_left_sum {h : nv_St} {o P S : Nat} {B : Int} (hN : m_ok (m_nn h o) P S B) : 0 ≤ m_sum (h 3 o) P ∧ m_sum (h 3 o) P ≤ 495 := by
  obtain ⟨hP5, hS5, hP, hS, hH, hDr, hpl, hsw⟩ := hN.h
  have := m_sum_le (f := h 3 o) (c := 99) (n := P) (fun p hp => (hpl p hp).2.2)
  omega
def m_nw (N : m_NN) (P lim : Nat) : Int := if m_find (fun n => m_all (m_it n N) P) (lim + 1) 0 = -4 then 61 else m_find (fun n => m_all (m_it n N) P) (lim + 1) 0
set_option maxHeartbeats 4000000 in
set_option maxRecDepth 100000 in
theorem r_noonWithin {h : nv_St} {o P S lim : Nat} {B C : Int} (hN : m_ok (m_nn h o) P S B) (hB : B < 1000000) (hl : lim ≤ 60) (hC : m_mc (m_nn h o) P S ≤ C) (hC9 : C ≤ 90) : nv_R M_X0_noonWithin [vr 0 o, vi lim, vi C] h (fun r h' => m_fr o h h' ∧ r = some (vi (m_nw (m_nn h o) P lim))) := by
  have hmc := m_mc_r hN
  refine nv_R.of rfl rfl (Nat.le_of_ble_eq_true rfl) ?_
  generalize hNe : m_nn h o = N at hN hC hmc
  have loop := m_down (n := lim + 1) (G := fun n => ∀ (j : Int) (h1 : nv_St), j = n → m_eq P S (m_nn h1 o) (m_it n N) → m_fr o h h1 → (∀ k, k < n → m_all (m_it k N) P = false) → nv_V M_X0_noonWithin 2 [(0, vr 0 o), (1, vi lim), (2, vi C), (3, vi j)] [] h1 (fun r h' => m_fr o h h' ∧ r = some (vi (m_nw N P lim)))) ?_ ?_
  · refine nv_go ok_X0_noonWithin [2] 10 ?_
    exact loop 0 (by omega) _ _ rfl (by rw [hNe]; exact m_eq.rfl') m_fr.rfl' (fun k hk => absurd hk (by omega))
  · intro j h1 hj he hf hno
    refine nv_go ok_X0_noonWithin [2] 30 ?_
    refine w_ic (by omega) (by omega) (fun c => ?_) (fun c => ?_)
    · refine ⟨hf, ?_⟩
      unfold m_nw
      rw [m_find_none (fun k _ hk => hno k (by omega)), if_pos rfl]
    · exact absurd (by show (lim : Int) < j; omega) c
  · intro n hn ih j h1 hj he hf hno
    have hok := m_it_ok hN n
    have hok1 := he.ok hok
    have hs := m_left_sum hok1
    have es : m_sum (h1 3 o) P = m_sum (m_it n N 3) P := m_sum_eq (fun p hp => (he.2.1 p hp).2.2)
    have hall := m_all_sum (N := m_it n N) (P := P) (fun p hp => (hok.2.2.2.2.2.2.1 p hp).2.2.1)
    have hCn : 0 ≤ C * (lim - j) ∧ C * (lim - j) ≤ 90 * 60 := by
      have h0 : 0 ≤ C := by omega
      have h1 : 0 ≤ (lim : Int) - j := by omega
      exact ⟨Int.mul_nonneg h0 h1, Int.le_trans (Int.mul_le_mul_of_nonneg_right hC9 h1) (by omega)⟩
    refine nv_go ok_X0_noonWithin [2] 40 ?_
    refine w_ic (by omega) (by omega) (fun c => ?_) (fun c => ?_)
    · exact absurd c (by show ¬ ((lim : Int) < j); omega)
    · refine w_call (r_leftOfAll hok1) (fun v h' hv => ?_)
      obtain ⟨rfl, rfl⟩ := hv
      refine w_if (by omega) (fun c2 => ?_) (fun c2 => ?_)
      · have c2 : m_sum (h' 3 o) P = 0 := c2
        refine ⟨hf, ?_⟩
        have e1 : m_find (fun n => m_all (m_it n N) P) (lim + 1) 0 = n := m_find_some (by omega) (by omega) (fun i _ hi => hno i hi) (hall.mpr (by rw [← es]; exact c2))
        unfold m_nw
        rw [e1, if_neg (by omega), hj]
      · have c2 : ¬ m_sum (h' 3 o) P = 0 := c2
        have hnn : m_all (m_it n N) P = false := by
          cases hb : m_all (m_it n N) P with
          | false => rfl
          | true => exact absurd (by rw [es]; exact hall.mp hb) c2
        have late : (∀ k, n ≤ k → k ≤ lim → m_all (m_it k N) P = false) → m_nw N P lim = 61 := by
          intro hk
          unfold m_nw
          rw [m_find_none (fun k _ h2 => ?_), if_pos rfl]
          by_cases e : k < n
          · exact hno k e
          · exact hk k (by omega) (by omega)
        refine w_ic (by omega) (by omega) (fun c3 => ?_) (fun c3 => ?_)
        · have c3 : C * (lim - j) < m_sum (h' 3 o) P := c3
          refine ⟨hf, ?_⟩
          rw [late (fun k h1 h2 => ?_)]
          have hk := (m_it_sum hN n (k - n)).1
          rw [show n + (k - n) = k by omega, ← es] at hk
          have hokk := m_it_ok hN k
          have hallk := m_all_sum (N := m_it k N) (P := P) (fun p hp => (hokk.2.2.2.2.2.2.1 p hp).2.2.1)
          cases hb : m_all (m_it k N) P with
          | false => rfl
          | true =>
            have h0 := hallk.mp hb
            have h5 : ((k - n : Nat) : Int) * m_mc N P S ≤ (lim - j) * C := Int.mul_le_mul (by omega) hC hmc.1 (by omega)
            rw [Int.mul_comm] at h5
            rw [Int.mul_comm C] at c3
            rw [Int.mul_comm] at h5
            omega
        · refine w_call (r_passHour hok1 (by omega)) (fun v h2 hv => ?_)
          obtain ⟨rfl, he2, hf2⟩ := hv
          refine w_if (by have := nv_b01 (m_stir (m_nn h' o)); omega) (fun c4 => ?_) (fun c4 => ?_)
          · have c4 : m_stir (m_nn h' o) = false := by
              have c5 : nv_b (m_stir (m_nn h' o)) = 0 := c4
              revert c5; cases m_stir (m_nn h' o) <;> simp [nv_b]
            refine ⟨hf.trans' hf2, ?_⟩
            rw [m_stir_eq he hok1] at c4
            have hd := m_stir_dead hok c4
            rw [late (fun k h1 h2 => ?_)]
            have e3 : m_it k N 3 = m_it n N 3 := by
              have hk : ∀ i, m_it (n + i) N = m_it i (m_it n N) := by
                intro i
                induction i with
                | zero => rfl
                | succ i ih => show m_hour (m_it (n + i) N) = m_hour (m_it i (m_it n N)); rw [ih]
              have := (m_dead_it hok hd (k - n)).1
              rw [← hk, show n + (k - n) = k by omega] at this
              exact this
            rw [m_all_eq (N' := m_it n N) (fun p _ => by rw [e3])]
            exact hnn
          · refine nv_V.take 4 (ih (j + 1) h2 (by omega) (he2.trans' (m_hour_eq he hok1)) (hf.trans' hf2) (fun k hk => ?_))
            by_cases e : k = n
            · rw [e]; exact hnn
            · exact hno k (by omega)
/-- how many stand behind n hours -/
def m_std (N : m_NN) (P n : Nat) : Int := P - m_bits (m_set (fun p => m_it n N 3 p = 0) P)
theorem m_pow5 {P : Nat} (hP : P ≤ 5) : (1 : Int) ≤ 2 ^ P ∧ (2 : Int) ^ P ≤ 32 := by
  have : P = 0 ∨ P = 1 ∨ P = 2 ∨ P = 3 ∨ P = 4 ∨ P = 5 := by omega
  rcases this with rfl | rfl | rfl | rfl | rfl | rfl <;> decide
set_option maxRecDepth 100000 in
theorem r_standingBehind {h : nv_St} {o P S n : Nat} {B : Int} (hN : m_ok (m_nn h o) P S B) (hB : B < 1000000) (hn : n ≤ 60) : nv_R M_X0_standingBehind [vr 0 o, vi n] h (fun r h' => m_fr o h h' ∧ r = some (vi (m_std (m_nn h o) P n))) := by
  refine nv_R.of rfl rfl (Nat.le_of_ble_eq_true rfl) ?_
  generalize hNe : m_nn h o = N at hN
  have fin : ∀ (lv : nv_LV) (k : Nat) (h1 : nv_St), lv.take 1 = [(0, vr 0 o)] → m_eq P S (m_nn h1 o) (m_it k N) → m_fr o h h1 → (∀ p, p < P → m_it n N 3 p = m_it k N 3 p) → k ≤ n → nv_V M_X0_standingBehind 24 lv [] h1 (fun r h' => m_fr o h h' ∧ r = some (vi (m_std N P n))) := by
    intro lv k h1 hlv he hf hp hk
    have hok1 := he.ok (m_it_ok hN k)
    obtain ⟨hP5, hS5, hP, hS, hH, hDr, hpl, hsw⟩ := hok1.h
    have hlt := m_set_lt (fun p => h1 3 o p = 0) P
    have h32 := m_pow5 hP5
    refine nv_V.take 1 ?_
    rw [hlv]
    refine nv_go ok_X0_standingBehind [] 30 ?_
    refine w_call (r_fallenSet hok1) (fun v h' hv => ?_)
    obtain ⟨rfl, rfl⟩ := hv
    refine w_call (r_bitCount hlt.1 (by omega)) (fun v h' hv => ?_)
    obtain ⟨rfl, rfl⟩ := hv
    refine ⟨hf, ?_⟩
    unfold m_std
    rw [hP, m_set_eq (f := fun p => h' 3 o p = 0) (g := fun p => m_it n N 3 p = 0) (fun p hp1 => by rw [hp p hp1]; have := (he.2.1 p hp1).2.2; exact ⟨fun q => by rw [← this]; exact q, fun q => this.trans q⟩)]
  have loop := m_down (n := n) (G := fun k => ∀ (j : Int) (h1 : nv_St), j = k → m_eq P S (m_nn h1 o) (m_it k N) → m_fr o h h1 → nv_V M_X0_standingBehind 4 [(0, vr 0 o), (1, vi n), (2, vi 1), (3, vi j)] [] h1 (fun r h' => m_fr o h h' ∧ r = some (vi (m_std N P n)))) ?_ ?_
  · refine nv_go ok_X0_standingBehind [4] 10 ?_
    exact loop 0 (by omega) _ _ rfl (by rw [hNe]; exact m_eq.rfl') m_fr.rfl'
  · intro j h1 hj he hf
    refine nv_go ok_X0_standingBehind [4, 24] 10 ?_
    refine w_ic (by omega) (by omega) (fun c => ?_) (fun c => ?_)
    · exact fin _ n h1 rfl he hf (fun _ _ => rfl) (Nat.le_refl _)
    · exact absurd (by show (n : Int) ≤ j; omega) c
  · intro k hk ih j h1 hj he hf
    have hok := m_it_ok hN k
    have hok1 := he.ok hok
    refine nv_go ok_X0_standingBehind [4, 24] 20 ?_
    refine w_ic (by omega) (by omega) (fun c => ?_) (fun c => ?_)
    · exact absurd c (by show ¬ ((n : Int) ≤ j); omega)
    · refine w_if (by omega) (fun c2 => absurd c2 (by decide)) (fun c2 => ?_)
      refine w_call (r_passHour hok1 (by omega)) (fun v h2 hv => ?_)
      obtain ⟨rfl, he2, hf2⟩ := hv
      have he3 := he2.trans' (m_hour_eq he hok1)
      cases hb : m_stir (m_nn h1 o) with
      | true => exact ih _ _ (by omega) he3 (hf.trans' hf2)
      | false =>
        rw [m_stir_eq he hok1] at hb
        have hd := m_stir_dead hok hb
        have e3 : ∀ i, m_it (k + i) N 3 = m_it k N 3 := by
          intro i
          have hk : ∀ i, m_it (k + i) N = m_it i (m_it k N) := by
            intro i
            induction i with
            | zero => rfl
            | succ i ih => show m_hour (m_it (k + i) N) = m_hour (m_it i (m_it k N)); rw [ih]
          rw [hk]
          exact (m_dead_it hok hd i).1
        refine nv_go ok_X0_standingBehind [24] 20 ?_
        by_cases e : k + 1 = n
        · refine w_ic (by omega) (by omega) (fun c => ?_) (fun c => ?_)
          · exact fin _ (k + 1) h2 rfl he3 (hf.trans' hf2) (fun p _ => by rw [e]) (by omega)
          · exact absurd (by show (n : Int) ≤ j + 1; omega) c
        · refine w_ic (by omega) (by omega) (fun c => ?_) (fun c => ?_)
          · exact absurd c (by show ¬ ((n : Int) ≤ j + 1); omega)
          · refine w_if (by decide) (fun _ => ?_) (fun c2 => absurd rfl c2)
            refine fin _ (k + 1) h2 rfl he3 (hf.trans' hf2) (fun p _ => ?_) (by omega)
            have a1 := e3 (n - k)
            rw [show k + (n - k) = n by omega] at a1
            rw [a1, e3 1]
/-- noon: the first of 0 to 60 hours behind which all are fallen; -4: none -/
def m_noon (N : m_NN) (P : Nat) : Int := m_find (fun n => m_all (m_it n N) P) 61 0
set_option maxRecDepth 100000 in
theorem r_orNone {h : nv_St} {x : Int} (hx : nv_InR x) : nv_R M_X5_orNone [vi x] h (fun r h' => h' = h ∧ r = some (vi (if x = 61 then -4 else x))) := by
  refine nv_R.of rfl rfl (Nat.le_of_ble_eq_true rfl) ?_
  refine nv_go ok_X5_orNone [] 20 ?_
  refine w_ic hx (by omega) (fun c => ?_) (fun c => ?_)
  · have c : x = 61 := c
    exact ⟨rfl, by rw [if_pos c]⟩
  · have c : ¬ x = 61 := c
    exact ⟨rfl, by rw [if_neg c]⟩
set_option maxRecDepth 100000 in
theorem r_noonOfTrial {h : nv_St} {P S : Nat} {B : Int} (hN : m_ok (m_nn h 1) P S B) (hB : B < 1000000) : nv_R M_X5_noonOfTrial [vr 18 0] h (fun r h' => m_fr 1 h h' ∧ r = some (vi (m_noon (m_nn h 1) P))) := by
  have hmc := m_mc_r hN
  have hS5 := hN.2.1
  have hr : m_noon (m_nn h 1) P = -4 ∨ (((0 : Nat) : Int) ≤ m_noon (m_nn h 1) P ∧ m_noon (m_nn h 1) P < ((0 : Nat) : Int) + ((61 : Nat) : Int)) := m_find_r (f := fun n => m_all (m_it n (m_nn h 1)) P) (d := 61) (n := 0)
  have hw : m_nw (m_nn h 1) P 60 = (if m_noon (m_nn h 1) P = -4 then 61 else m_noon (m_nn h 1) P) := rfl
  refine nv_R.of rfl rfl (Nat.le_of_ble_eq_true rfl) ?_
  refine nv_go ok_X5_noonOfTrial [] 30 ?_
  refine w_call (r_mostCut hN) (fun v h' hv => ?_)
  obtain ⟨rfl, rfl⟩ := hv
  refine w_call (r_noonWithin (lim := 60) hN hB (by omega) (Int.le_refl _) (by omega)) (fun v h2 hv => ?_)
  obtain ⟨hf, rfl⟩ := hv
  refine w_call (r_orNone (by rw [hw]; split <;> omega)) (fun v h3 hv => ?_)
  obtain ⟨rfl, rfl⟩ := hv
  refine ⟨hf, ?_⟩
  rw [hw]
  by_cases e : m_noon (m_nn h' 1) P = -4
  · rw [if_pos e, if_pos rfl, e]
  · rw [if_neg e, if_neg (by omega)]
theorem m_noon_eq {N N' : m_NN} {P S : Nat} {B : Int} (he : m_eq P S N N') (hN : m_ok N P S B) : m_noon N P = m_noon N' P :=
  m_find_eq (fun k _ _ => m_all_eq (fun p hp => ((m_it_eq he hN k).2.1 p hp).2.2))
