/-! ===== an hour passes ===== -/
theorem m_green_r {t k : Int} {e : Bool} (ht : 0 ≤ t ∧ t ≤ 9) (hk : 0 ≤ k ∧ k ≤ 9) : 0 ≤ m_green t k e ∧ m_green t k e ≤ 18 := by
  have := m_plain_r ht hk
  unfold m_green; split <;> omega
theorem m_by_r {kd t k : Int} {e r : Bool} (ht : 0 ≤ t ∧ t ≤ 9) (hk : 0 ≤ k ∧ k ≤ 9) : 0 ≤ m_by kd t k e r ∧ m_by kd t k e r ≤ 18 := by
  have h1 := m_plain_r ht hk
  have h2 := m_green_r (e := e) ht hk
  have h3 : 0 ≤ m_old t k ∧ m_old t k ≤ 12 := by unfold m_old; split <;> omega
  unfold m_by
  split
  · omega
  · split
    · omega
    · split
      · split <;> omega
      · split
        · split <;> omega
        · omega
theorem m_cut_r {N : m_NN} {P S : Nat} {B : Int} (hN : m_ok N P S B) {s : Nat} (hs : s < S) : (0 ≤ m_cut N s ∧ m_cut N s ≤ 18) ∧ (0 < m_cut N s → 0 ≤ N 6 s ∧ N 6 s < P) := by
  obtain ⟨hP5, hS5, hP, hS, hH, hDr, hpl, hsw⟩ := hN
  obtain ⟨a1, a2, a3⟩ := hsw s hs
  unfold m_cut
  split
  · exact ⟨by omega, fun h => absurd h (by omega)⟩
  · next c =>
    obtain ⟨b1, b2, b3⟩ := hpl (N 6 s).toNat (by omega)
    split
    · exact ⟨by omega, fun h => absurd h (by omega)⟩
    · exact ⟨m_by_r a2 b2, fun _ => by omega⟩
theorem m_lf_r {N : m_NN} {P : Nat} {c : Nat → Int} : ∀ (n : Nat), (∀ s, s < n → 0 < c s → 0 ≤ N 6 s ∧ N 6 s < P) → (∀ p, p < P → 0 ≤ N 3 p) → ∀ p, p < P → 0 ≤ m_lf N c n p ∧ m_lf N c n p ≤ N 3 p
  | 0, _, h3, p, hp => by simp [m_lf, h3 p hp]
  | n + 1, h6, h3, p, hp => by
    have ih := m_lf_r n (fun s hs => h6 s (by omega)) h3
    unfold m_lf
    split
    · next hc =>
      unfold m_up
      split
      · next e =>
        have := ih (N 6 n).toNat (by have := h6 n (by omega) hc; omega)
        subst e
        omega
      · exact ih p hp
    · exact ih p hp
theorem m_P_eq {N : m_NN} {P S : Nat} {B : Int} (hN : m_ok N P S B) : m_P N = P := by unfold m_P; rw [hN.2.2.1]; omega
theorem m_S_eq {N : m_NN} {P S : Nat} {B : Int} (hN : m_ok N P S B) : m_S N = S := by unfold m_S; rw [hN.2.2.2.1]; omega
theorem m_L_r {N : m_NN} {P S : Nat} {B : Int} (hN : m_ok N P S B) : ∀ p, p < P → 0 ≤ m_L N p ∧ m_L N p ≤ N 3 p := by
  unfold m_L
  rw [m_S_eq hN]
  exact m_lf_r S (fun s hs h0 => (m_cut_r hN hs).2 h0) (fun p hp => (hN.2.2.2.2.2.2.1 p hp).2.2.1)
theorem m_hour_ok {N : m_NN} {P S : Nat} {B : Int} (hN : m_ok N P S B) : m_ok (m_hour N) P S (B + 1) := by
  have hL := m_L_r hN
  have hmp := m_P_eq hN
  obtain ⟨hP5, hS5, hP, hS, hH, hDr, hpl, hsw⟩ := id hN
  have e0 : m_hour N 0 0 = N 0 0 := rfl
  have e1 : m_hour N 0 1 = N 0 1 := rfl
  have e2 : m_hour N 0 2 = N 0 2 + 1 := rfl
  have e3 : m_hour N 0 3 = N 0 3 := rfl
  refine ⟨hP5, hS5, hP, hS, by rw [e2]; omega, hDr, fun p hp => ?_, fun s hs => ?_⟩
  · obtain ⟨a1, a2, a3⟩ := hpl p hp
    refine ⟨a1, a2, ?_⟩
    show 0 ≤ m_L N p ∧ m_L N p ≤ 99
    have := hL p hp
    omega
  · obtain ⟨a1, a2, a3⟩ := hsw s hs
    refine ⟨a1, ?_, ?_⟩
    · show 0 ≤ (if N 0 2 % 3 = 2 ∧ 0 < m_cut N s ∧ 0 < N 5 s then N 5 s - 1 else N 5 s) ∧ (if N 0 2 % 3 = 2 ∧ 0 < m_cut N s ∧ 0 < N 5 s then N 5 s - 1 else N 5 s) ≤ 9
      split <;> omega
    · show (if (0 ≤ N 6 s ∧ m_L N (N 6 s).toNat = 0) ∧ ¬ m_most (m_L N) (m_P N) = -4 then m_most (m_L N) (m_P N) else N 6 s) = -4 ∨ _
      have hr := m_most_r (m_L N) (m_P N)
      rw [hmp] at hr
      have : m_hour N 6 s = (if (0 ≤ N 6 s ∧ m_L N (N 6 s).toNat = 0) ∧ ¬ m_most (m_L N) (m_P N) = -4 then m_most (m_L N) (m_P N) else N 6 s) := rfl
      rw [this, hmp]
      split
      · omega
      · exact a3
set_option maxHeartbeats 4000000 in
set_option maxRecDepth 100000 in
theorem r_passHour {h : nv_St} {o P S : Nat} {B : Int} (hN : m_ok (m_nn h o) P S B) (hB : B < 1073741824) :
    nv_R M_X0_passHour [vr 0 o] h (fun r h' => r = some (vi (nv_b (m_stir (m_nn h o)))) ∧ m_eq P S (m_nn h' o) (m_hour (m_nn h o)) ∧ m_fr o h h') := by
  generalize hQ : (fun (r : Option nv_AV) (h' : nv_St) => r = some (vi (nv_b (m_stir (m_nn h o)))) ∧ m_eq P S (m_nn h' o) (m_hour (m_nn h o)) ∧ m_fr o h h') = Q
  have hLr := m_L_r hN
  have hcr : ∀ s, s < S → (0 ≤ m_cut (m_nn h o) s ∧ m_cut (m_nn h o) s ≤ 18) ∧ (0 < m_cut (m_nn h o) s → 0 ≤ h 6 o s ∧ h 6 o s < P) := fun s hs => m_cut_r hN hs
  have hmP := m_P_eq hN
  have hmS := m_S_eq hN
  obtain ⟨hP5, hS5, hP, hS, hH, hDr, hpl, hsw⟩ := hN.h
  have h106 : ∀ (x j : Int) (h2 : nv_St), x = nv_b (m_rest (m_nn h o) || m_ex (fun s => decide (0 < m_cut (m_nn h o) s)) S) → (∀ t i, ¬ ((t = 7 ∨ t = 3 ∨ t = 5) ∧ i = o) → h2 t i = h t i) → h2 3 o = m_L (m_nn h o) → (∀ s, s < S → h2 5 o s = m_hour (m_nn h o) 5 s) →
      nv_V M_X0_passHour 106 [(0, vr 0 o), (1, vi x), (2, vi j)] [] h2 Q := by
    intro x j h2 hx hI h3 h5
    have e6 : h2 6 o = h 6 o := hI 6 o (by omega)
    have e0 : h2 0 o = h 0 o := hI 0 o (by omega)
    have hx01 := nv_b01 (m_rest (m_nn h o) || m_ex (fun s => decide (0 < m_cut (m_nn h o) s)) S)
    refine nv_go ok_X0_passHour [] 60 ?_
    refine w_call (r_leaveFallen (P := P) (S := S) hP5 hS5 (by rw [e0]; exact hP) (by rw [e0]; exact hS) (by rw [h3]; exact fun p hp => ⟨(hLr p hp).1, Int.le_trans (hLr p hp).2 (hpl p hp).2.2.2⟩) (by rw [e6]; exact fun s hs => (hsw s hs).2.2)) (fun v h' hv => ?_)
    obtain ⟨rfl, hI', h6'⟩ := hv
    rw [h3, e6] at h6'
    have e0' : h' 0 o = h 0 o := by rw [hI' 0 o (by omega)]; exact e0
    have hfin : ∀ z : Int, z = nv_b (m_stir (m_nn h o)) → Q (some (vi z)) (nv_up h' 0 o 2 (h' 0 o 2 + 1)) := by
      intro z hz
      rw [← hQ, hz]
      refine ⟨rfl, ⟨fun j hj => ?_, fun p hp => ⟨?_, ?_, ?_⟩, fun s hs => ⟨?_, ?_, ?_⟩⟩, fun t i hn => ?_⟩
      · have e1 : m_nn (nv_up h' 0 o 2 (h' 0 o 2 + 1)) o 0 j = (if j = 2 then h' 0 o 2 + 1 else h' 0 o j) := by
          show nv_up h' 0 o 2 (h' 0 o 2 + 1) 0 o j = _
          simp [nv_up]
        rw [e1, e0']
        rfl
      · show nv_up h' 0 o 2 (h' 0 o 2 + 1) 1 o p = h 1 o p
        simp only [nv_up, Nat.succ_ne_zero, false_and, if_false]
        rw [hI' 1 o (by omega), hI 1 o (by omega)]
      · show nv_up h' 0 o 2 (h' 0 o 2 + 1) 2 o p = h 2 o p
        simp only [nv_up, Nat.succ_ne_zero, false_and, if_false]
        rw [hI' 2 o (by omega), hI 2 o (by omega)]
      · show nv_up h' 0 o 2 (h' 0 o 2 + 1) 3 o p = m_L (m_nn h o) p
        simp only [nv_up, Nat.succ_ne_zero, false_and, if_false]
        rw [hI' 3 o (by omega), h3]
      · show nv_up h' 0 o 2 (h' 0 o 2 + 1) 4 o s = h 4 o s
        simp only [nv_up, Nat.succ_ne_zero, false_and, if_false]
        rw [hI' 4 o (by omega), hI 4 o (by omega)]
      · show nv_up h' 0 o 2 (h' 0 o 2 + 1) 5 o s = m_hour (m_nn h o) 5 s
        simp only [nv_up, Nat.succ_ne_zero, false_and, if_false]
        rw [hI' 5 o (by omega), h5 s hs]
      · show nv_up h' 0 o 2 (h' 0 o 2 + 1) 6 o s = m_hour (m_nn h o) 6 s
        simp only [nv_up, Nat.succ_ne_zero, false_and, if_false]
        rw [h6' s hs]
        unfold m_go
        rw [← hmP]
        rfl
      · funext k
        unfold nv_up
        rw [if_neg (by rintro ⟨rfl, rfl, -⟩; exact hn ⟨by omega, rfl⟩), hI' t i (by rintro ⟨rfl, rfl⟩; exact hn ⟨by omega, rfl⟩), hI t i (by rintro ⟨ht, rfl⟩; exact hn ⟨by omega, rfl⟩)]
    have hst : m_stir (m_nn h o) = ((m_rest (m_nn h o) || m_ex (fun s => decide (0 < m_cut (m_nn h o) s)) S) || m_goes (h2 6 o) (h2 3 o) P S) := by
      rw [h3, e6]
      unfold m_stir m_goes
      rw [hmS, hmP]
      rfl
    refine w_if (by omega) (fun c => ?_) (fun c => ?_)
    · have c : x = 0 := c
      have b0 : (m_rest (m_nn h o) || m_ex (fun s => decide (0 < m_cut (m_nn h o) s)) S) = false := by
        revert hx; rw [c]; cases (m_rest (m_nn h o) || m_ex (fun s => decide (0 < m_cut (m_nn h o) s)) S) <;> simp [nv_b]
      refine w_if (by have := nv_b01 (m_goes (h2 6 o) (h2 3 o) P S); omega) (fun c2 => ?_) (fun c2 => ?_)
      · have c2 : nv_b (m_goes (h2 6 o) (h2 3 o) P S) = 0 := c2
        exact And.intro (Or.inl rfl) (hfin 0 (by rw [hst, b0, Bool.false_or]; exact c2.symm))
      · have c2 : ¬ nv_b (m_goes (h2 6 o) (h2 3 o) P S) = 0 := c2
        exact And.intro (Or.inr rfl) (hfin 1 (by rw [hst, b0, Bool.false_or]; have := nv_b01 (m_goes (h2 6 o) (h2 3 o) P S); omega))
    · have c : ¬ x = 0 := c
      have b0 : (m_rest (m_nn h o) || m_ex (fun s => decide (0 < m_cut (m_nn h o) s)) S) = true := by
        revert hx c; cases (m_rest (m_nn h o) || m_ex (fun s => decide (0 < m_cut (m_nn h o) s)) S) <;> simp [nv_b]
      exact And.intro (Or.inr rfl) (hfin 1 (by rw [hst, b0, Bool.true_or]; rfl))
  have loop2 := m_down (n := S) (G := fun p => ∀ (j x : Int) (h1 : nv_St), j = p → x = nv_b (m_rest (m_nn h o) || m_ex (fun s => decide (0 < m_cut (m_nn h o) s)) p) → (∀ t i, ¬ ((t = 7 ∨ t = 3) ∧ i = o) → h1 t i = h t i) → (∀ s, s < S → h1 7 o s = m_cut (m_nn h o) s) → h1 3 o = m_lf (m_nn h o) (m_cut (m_nn h o)) p → nv_V M_X0_passHour 34 [(0, vr 0 o), (1, vi x), (2, vi j)] [] h1 Q) ?_ ?_
  rotate_left
  · intro j x h1 hj hx hI h7 h3
    have e0 : h1 0 o = h 0 o := hI 0 o (by omega)
    have e01 : h1 0 o 1 = S := by rw [e0]; exact hS
    have e02 : h1 0 o 2 = h 0 o 2 := by rw [e0]
    have e5 : h1 5 o = h 5 o := hI 5 o (by omega)
    have e3 : h1 3 o = m_L (m_nn h o) := by rw [h3]; unfold m_L; rw [hmS]
    refine nv_go ok_X0_passHour [34, 106] 60 ?_
    refine w_ic (by omega) (by omega) (fun c => ?_) (fun c => ?_)
    · refine w_dv (by omega) (by omega) ?_
      refine w_ic (by omega) (by omega) (fun c2 => ?_) (fun c2 => ?_)
      · have c2 : h 0 o 2 % 3 = 2 := by rw [← e02]; exact c2
        refine w_call (r_growBlunt (S := S) hS5 e01 (fun s hs => ⟨by rw [e5]; exact (hsw s hs).2.1, by rw [h7 s hs]; have := (hcr s hs).1; exact ⟨by omega, by omega⟩⟩)) (fun v h' hv => ?_)
        obtain ⟨rfl, hI', h5'⟩ := hv
        refine h106 x j h' hx (fun t i hn => ?_) (by rw [hI' 3 o (by omega), e3]) (fun s hs => ?_)
        · rw [hI' t i (by rintro ⟨rfl, rfl⟩; exact hn ⟨by omega, rfl⟩), hI t i (by rintro ⟨ht, rfl⟩; exact hn ⟨by omega, rfl⟩)]
        · rw [h5' s hs, h7 s hs, e5]
          show _ = (if h 0 o 2 % 3 = 2 ∧ 0 < m_cut (m_nn h o) s ∧ 0 < h 5 o s then h 5 o s - 1 else h 5 o s)
          by_cases hc : 0 < m_cut (m_nn h o) s ∧ 0 < h 5 o s
          · rw [if_pos hc, if_pos ⟨c2, hc⟩]
          · rw [if_neg hc, if_neg (fun q => hc q.2)]
      · have c2 : ¬ h 0 o 2 % 3 = 2 := by rw [← e02]; exact c2
        refine h106 x j h1 hx (fun t i hn => hI t i (by rintro ⟨ht, rfl⟩; exact hn ⟨by omega, rfl⟩)) e3 (fun s hs => ?_)
        rw [e5]
        show _ = (if h 0 o 2 % 3 = 2 ∧ 0 < m_cut (m_nn h o) s ∧ 0 < h 5 o s then h 5 o s - 1 else h 5 o s)
        rw [if_neg (fun q => c2 q.1)]
    · exact absurd (by show h1 0 o 1 ≤ j; omega) c
  · intro p hp ih j x h1 hj hx hI h7 h3
    have e0 : h1 0 o = h 0 o := hI 0 o (by omega)
    have e01 : h1 0 o 1 = S := by rw [e0]; exact hS
    have e6 : h1 6 o = h 6 o := hI 6 o (by omega)
    have e7 := h7 p hp
    have hc := hcr p hp
    refine nv_go ok_X0_passHour [34] 60 ?_
    refine w_ic (by omega) (by omega) (fun c => ?_) (fun c => ?_)
    · exact absurd c (by show ¬ (h1 0 o 1 ≤ j); omega)
    · refine w_ix p hj (by omega) ?_
      refine w_if (by omega) (fun c2 => ?_) (fun c2 => ?_)
      · have c2 : h1 7 o p ≤ 0 := c2
        refine ih _ _ _ (by omega) (by rw [hx]; conv => rhs; unfold m_ex; rw [decide_eq_false (by omega), Bool.or_false]) hI h7 ?_
        rw [h3]
        conv => rhs; unfold m_lf; rw [if_neg (by omega)]
      · have c2 : ¬ h1 7 o p ≤ 0 := c2
        have hs6 := hc.2 (by omega)
        obtain ⟨q, hq⟩ : ∃ q : Nat, h1 6 o p = q := ⟨(h1 6 o p).toNat, by rw [e6]; omega⟩
        have hq' : (m_nn h o 6 p).toNat = q := by show (h 6 o p).toNat = q; rw [← e6]; omega
        have hqP : q < P := by rw [e6] at hq; omega
        have hlr := m_lf_r (N := m_nn h o) (P := P) (c := m_cut (m_nn h o)) p (fun s hs h0 => (hcr s (by omega)).2 h0) (fun p hp => (hpl p hp).2.2.1) q hqP
        have hl9 := (hpl q hqP).2.2
        have h3q : h1 3 o q = m_lf (m_nn h o) (m_cut (m_nn h o)) p q := by rw [h3]
        have hn3 : m_nn h o 3 q = h 3 o q := rfl
        refine w_ix p hj (by omega) ?_
        refine w_ix p hj (by omega) ?_
        refine w_ix q hq (by omega) ?_
        refine w_ix p hj (by omega) ?_
        refine w_mx (by omega) (by omega) ?_
        refine w_ix q hq (by omega) ?_
        refine ih _ _ _ (by omega) (by rw [show m_ex (fun s => decide (0 < m_cut (m_nn h o) s)) (p + 1) = true from by (unfold m_ex; rw [decide_eq_true (by omega), Bool.or_true]), Bool.or_true]; rfl) (fun t i hn => ?_) (fun s hs => ?_) ?_
        · rw [← hI t i hn]; funext k; unfold nv_up; rw [if_neg]; rintro ⟨rfl, rfl, -⟩; exact hn ⟨Or.inr rfl, rfl⟩
        · rw [← h7 s hs]; simp [nv_up]
        · funext k
          conv => rhs; unfold m_lf; rw [if_pos (by omega), hq']
          unfold m_up
          simp only [nv_up, true_and]
          split
          · rw [h3q, e7]
          · rw [h3]
  have loop1 := m_down (n := S) (G := fun p => ∀ (j : Int) (h1 : nv_St), j = p → (∀ t i, ¬ (t = 7 ∧ i = o) → h1 t i = h t i) → (∀ s, s < p → h1 7 o s = m_cut (m_nn h o) s) → nv_V M_X0_passHour 7 [(0, vr 0 o), (1, vi (nv_b (m_rest (m_nn h o)))), (2, vi j)] [] h1 Q) ?_ ?_
  rotate_left
  · intro j h1 hj hI h7
    have e01 : h1 0 o 1 = S := by rw [hI 0 o (by omega)]; exact hS
    refine nv_go ok_X0_passHour [7, 34] 60 ?_
    refine w_ic (by omega) (by omega) (fun c => ?_) (fun c => ?_)
    · exact loop2 0 (by omega) _ _ _ rfl (by unfold m_ex; rw [Bool.or_false]) (fun t i hn => hI t i (by rintro ⟨rfl, rfl⟩; exact hn ⟨Or.inl rfl, rfl⟩)) h7 (by rw [hI 3 o (by omega)]; rfl)
    · exact absurd (by show h1 0 o 1 ≤ j; omega) c
  · intro p hp ih j h1 hj hI h7
    subst hj
    have e01 : h1 0 o 1 = S := by rw [hI 0 o (by omega)]; exact hS
    have en : m_nn h1 o = m_nn h o := m_nn_ext (fun t ht => hI t o (by omega))
    refine nv_go ok_X0_passHour [7] 60 ?_
    refine w_ic (by omega) (by omega) (fun c => ?_) (fun c => ?_)
    · exact absurd c (by show ¬ (h1 0 o 1 ≤ (p : Int)); omega)
    · refine w_call (r_cutOf (P := P) (S := S) (B := B) (by rw [en]; exact hN) hB hp) (fun v h' hv => ?_)
      obtain ⟨rfl, rfl⟩ := hv
      refine w_ix p rfl (by omega) ?_
      refine ih _ _ (by omega) (fun t i hn => ?_) (fun s hs => ?_)
      · rw [← hI t i hn]; funext k; unfold nv_up; rw [if_neg]; rintro ⟨rfl, rfl, -⟩; exact hn ⟨rfl, rfl⟩
      · by_cases hs2 : s = p
        · subst hs2; simp [nv_up, en]
        · rw [← h7 s (by omega)]; simp [nv_up, hs2]
  refine nv_R.of rfl rfl (Nat.le_of_ble_eq_true rfl) ?_
  refine nv_go ok_X0_passHour [7] 20 ?_
  refine w_call (r_hoppersRest ⟨hH.1, by omega⟩) (fun v h' hv => ?_)
  obtain ⟨rfl, rfl⟩ := hv
  exact loop1 0 (by omega) _ _ rfl (fun _ _ _ => rfl) (fun s hs => absurd hs (by omega))
