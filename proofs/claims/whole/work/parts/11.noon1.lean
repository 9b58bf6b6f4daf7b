/-! ===== the noon's small methods ===== -/
set_option maxRecDepth 100000 in
theorem r_outside {h : nv_St} {v a b : Int} (hv : nv_InR v) (ha : nv_InR a) (hb : nv_InR b) : nv_R M_X5_outside [vi v, vi a, vi b] h (fun r h' => h' = h ∧ r = some (vi (nv_b (decide (v < a) || decide (b < v))))) := by
  refine nv_R.of rfl rfl (Nat.le_of_ble_eq_true rfl) ?_
  refine nv_go ok_X5_outside [] 30 ?_
  refine w_ic hv ha (fun c => ?_) (fun c => ?_)
  · refine And.intro (Or.inr rfl) ⟨rfl, ?_⟩
    have c : v < a := c
    simp [nv_b, c]
  · have c : ¬ v < a := c
    refine w_ic hv hb (fun c2 => ?_) (fun c2 => ?_)
    · have c2 : v ≤ b := c2
      refine And.intro (Or.inl rfl) ⟨rfl, ?_⟩
      have c3 : ¬ b < v := by omega
      simp [nv_b, c, c3]
    · have c2 : ¬ v ≤ b := c2
      refine And.intro (Or.inr rfl) ⟨rfl, ?_⟩
      have c3 : b < v := by omega
      simp [nv_b, c, c3]
set_option maxRecDepth 100000 in
theorem r_hoppersRest {h : nv_St} {o : Nat} (h1 : 0 ≤ h 0 o 2 ∧ h 0 o 2 < 1073741824) : nv_R M_X0_hoppersRest [vr 0 o] h (fun r h' => h' = h ∧ r = some (vi (nv_b (m_rest (m_nn h o))))) := by
  refine nv_R.of rfl rfl (Nat.le_of_ble_eq_true rfl) ?_
  refine nv_go ok_X0_hoppersRest [] 30 ?_
  refine w_dv ⟨h1.1, by omega⟩ ⟨by decide, by decide⟩ ?_
  refine w_if (by show _ ∧ _; omega) (fun c => ?_) (fun c => ?_)
  · have c : m_nn h o 0 2 % 4 = 0 := c
    exact And.intro (Or.inr rfl) ⟨rfl, by simp [nv_b, m_rest, c]⟩
  · have c : ¬ m_nn h o 0 2 % 4 = 0 := c
    exact And.intro (Or.inl rfl) ⟨rfl, by simp [nv_b, m_rest, c]⟩
theorem m_plain_r {t k : Int} (ht : 0 ≤ t ∧ t ≤ 9) (hk : 0 ≤ k ∧ k ≤ 9) : 0 ≤ m_plain t k ∧ m_plain t k ≤ 9 := by
  unfold m_plain; split <;> omega
set_option maxHeartbeats 4000000 in
set_option maxRecDepth 100000 in
theorem r_cutBy {h : nv_St} {kd t k : Int} {e r : Bool} (hkd : 0 ≤ kd ∧ kd ≤ 4) (ht : 0 ≤ t ∧ t ≤ 9) (hk : 0 ≤ k ∧ k ≤ 9) : nv_R M_X0_cutBy [vi kd, vi t, vi k, vi (nv_b e), vi (nv_b r)] h (fun v h' => h' = h ∧ v = some (vi (m_by kd t k e r))) := by
  refine nv_R.of rfl rfl (Nat.le_of_ble_eq_true rfl) ?_
  have he := nv_b01 e
  have hr := nv_b01 r
  have he1 : nv_b e = 0 ↔ e = false := by cases e <;> simp [nv_b]
  have hr1 : nv_b r = 0 ↔ r = false := by cases r <;> simp [nv_b]
  have hp := m_plain_r ht hk
  have h48 : ∀ x y z : Int, x = m_plain t k → y = m_old t k → z = m_green t k e → nv_V M_X0_cutBy 48 [(0, vi kd), (1, vi t), (2, vi k), (3, vi (nv_b e)), (4, vi (nv_b r)), (5, vi x), (6, vi y), (7, vi z)] [] h (fun v h' => h' = h ∧ v = some (vi (m_by kd t k e r))) := by
    intro x y z hx hy hz
    have hz0 : 0 ≤ z ∧ z ≤ 18 := by rw [hz]; unfold m_green; split <;> omega
    refine nv_go ok_X0_cutBy [] 40 ?_
    refine And.intro (by omega) (And.intro (fun c => ?_) (And.intro (fun c => ?_) (And.intro (fun c => ?_) (And.intro (fun c => ?_) (And.intro (fun c => ?_) trivial)))))
    · have c : kd < 1 ∨ (1 : Int) + 4 ≤ kd := c
      refine ⟨rfl, ?_⟩
      rw [hx]
      unfold m_by
      rw [if_neg (by omega), if_neg (by omega), if_neg (by omega), if_neg (by omega)]
    · exact ⟨rfl, by rw [hy]; unfold m_by; rw [if_pos (by omega)]⟩
    · exact ⟨rfl, by rw [hz]; unfold m_by; rw [if_neg (by omega), if_pos (by omega)]⟩
    · refine w_if (by omega) (fun c2 => ?_) (fun c2 => ?_)
      · refine ⟨rfl, ?_⟩
        have c2 : r = false := hr1.mp c2
        rw [hy]; unfold m_by; rw [if_neg (by omega), if_neg (by omega), if_pos (by omega), c2]; rfl
      · refine ⟨rfl, ?_⟩
        have c2 : r = true := by
          cases r
          · exact (c2 (hr1.mpr rfl)).elim
          · rfl
        unfold m_by; rw [if_neg (by omega), if_neg (by omega), if_pos (by omega), c2]; rfl
    · refine w_ic (by omega) (by omega) (fun c2 => ?_) (fun c2 => ?_)
      · refine ⟨rfl, ?_⟩
        have c2 : z = 1 := c2
        unfold m_by; rw [if_neg (by omega), if_neg (by omega), if_neg (by omega), if_pos (by omega), ← hz, if_pos c2]
      · have c2 : ¬ z = 1 := c2
        refine w_dv (by omega) (by omega) ?_
        refine ⟨rfl, ?_⟩
        unfold m_by; rw [if_neg (by omega), if_neg (by omega), if_neg (by omega), if_pos (by omega), ← hz, if_neg c2]
  have h33 : ∀ x y : Int, x = m_plain t k → y = m_old t k → nv_V M_X0_cutBy 33 [(0, vi kd), (1, vi t), (2, vi k), (3, vi (nv_b e)), (4, vi (nv_b r)), (5, vi x), (6, vi y)] [] h (fun v h' => h' = h ∧ v = some (vi (m_by kd t k e r))) := by
    intro x y hx hy
    refine nv_go ok_X0_cutBy [48] 40 ?_
    refine w_if (by omega) (fun c => ?_) (fun c => ?_)
    · exact h48 _ _ _ hx hy (by rw [hx]; unfold m_green; rw [he1.mp c]; rfl)
    · exact h48 _ _ _ hx hy (by rw [hx]; unfold m_green; rw [show e = true from by revert c; cases e <;> simp [nv_b]]; rfl)
  have h18 : ∀ x : Int, x = m_plain t k → nv_V M_X0_cutBy 18 [(0, vi kd), (1, vi t), (2, vi k), (3, vi (nv_b e)), (4, vi (nv_b r)), (5, vi x)] [] h (fun v h' => h' = h ∧ v = some (vi (m_by kd t k e r))) := by
    intro x hx
    refine nv_go ok_X0_cutBy [33] 40 ?_
    refine w_ic (by omega) (by omega) (fun c => ?_) (fun c => ?_)
    · have c : 3 ≤ k := c
      exact h33 _ _ hx (by rw [hx]; unfold m_old; rw [if_pos c])
    · have c : ¬ 3 ≤ k := c
      exact h33 _ _ hx (by rw [hx]; unfold m_old; rw [if_neg c])
  refine nv_go ok_X0_cutBy [18] 40 ?_
  refine w_dv (by omega) (by omega) ?_
  refine w_ic (by omega) (by omega) (fun c => ?_) (fun c => ?_)
  · have c : t ≤ k / 2 := c
    exact h18 _ (by unfold m_plain; rw [if_pos c])
  · have c : ¬ t ≤ k / 2 := c
    refine w_dv (by omega) (by omega) ?_
    exact h18 _ (by unfold m_plain; rw [if_neg c])
set_option maxRecDepth 100000 in
theorem r_cutOf {h : nv_St} {o P S : Nat} {B : Int} (hN : m_ok (m_nn h o) P S B) (hB : B < 1073741824) {s : Nat} (hs : s < S) : nv_R M_X0_cutOf [vr 0 o, vi s] h (fun r h' => h' = h ∧ r = some (vi (m_cut (m_nn h o) s))) := by
  obtain ⟨hP5, hS5, hP, hS, hH, hDr, hpl, hsw⟩ := hN.h
  obtain ⟨hk, ht, hse⟩ := hsw s hs
  refine nv_R.of rfl rfl (Nat.le_of_ble_eq_true rfl) ?_
  refine nv_go ok_X0_cutOf [53] 60 ?_
  refine w_ix s rfl (by omega) ?_
  refine w_if (by omega) (fun c => ?_) (fun c => ?_)
  · have c : m_nn h o 6 s < 0 := c
    exact ⟨rfl, by unfold m_cut; rw [if_pos c]⟩
  · have c : ¬ h 6 o s < 0 := c
    obtain ⟨p, hp⟩ : ∃ p : Nat, h 6 o s = p := ⟨(h 6 o s).toNat, by omega⟩
    have hp' : (m_nn h o 6 s).toNat = p := by show (h 6 o s).toNat = p; omega
    have c' : ¬ m_nn h o 6 s < 0 := c
    obtain ⟨h1, h2, h3⟩ := hpl p (by omega)
    refine w_ix p hp (by omega) ?_
    refine w_if (by omega) (fun c2 => ?_) (fun c2 => ?_)
    · have c2 : m_nn h o 3 p = 0 := c2
      exact ⟨rfl, by unfold m_cut; rw [if_neg c', hp', if_pos c2]⟩
    · have c2 : ¬ m_nn h o 3 p = 0 := c2
      have h53 : ∀ e : Bool, e = m_edge (m_nn h o) p → nv_V M_X0_cutOf 53 [(0, vr 0 o), (1, vi s), (2, vi (h 6 o s))] [vi (nv_b e)] h (fun r h' => h' = h ∧ r = some (vi (m_cut (m_nn h o) s))) := by
        intro e he
        refine nv_go ok_X0_cutOf [] 60 ?_
        refine w_ix s rfl (by omega) ?_
        refine w_ix s rfl (by omega) ?_
        refine w_ix p hp (by omega) ?_
        refine w_call (r_hoppersRest ⟨hH.1, by omega⟩) (fun v h' hv => ?_)
        obtain ⟨rfl, rfl⟩ := hv
        refine w_call (r_cutBy hk ht h2) (fun v h' hv => ?_)
        obtain ⟨rfl, rfl⟩ := hv
        exact ⟨rfl, by unfold m_cut; rw [if_neg c', hp', if_neg c2, he]; rfl⟩
      refine w_ix p hp (by omega) ?_
      refine w_ix p hp (by omega) ?_
      refine w_ic (by omega) (by omega) (fun c3 => ?_) (fun c3 => ?_)
      · exact h53 true (by unfold m_edge; rw [show decide (m_nn h o 3 p = m_nn h o 1 p) = true from decide_eq_true c3]; rfl)
      · refine w_ix p hp (by omega) ?_
        refine w_ic (by omega) (by omega) (fun c4 => ?_) (fun c4 => ?_)
        · exact h53 false (by unfold m_edge; rw [show decide (m_nn h o 3 p = m_nn h o 1 p) = false from decide_eq_false c3, show decide (m_nn h o 3 p < 10) = false from decide_eq_false (Int.not_lt.mpr c4)]; rfl)
        · exact h53 true (by unfold m_edge; rw [show decide (m_nn h o 3 p < 10) = true from decide_eq_true (Int.not_le.mp c4)]; simp)
set_option maxRecDepth 100000 in
theorem r_fallenSet {h : nv_St} {o P S : Nat} {B : Int} (hN : m_ok (m_nn h o) P S B) : nv_R M_X0_fallenSet [vr 0 o] h (fun r h' => h' = h ∧ r = some (vi (m_set (fun p => h 3 o p = 0) P))) := by
  obtain ⟨hP5, hS5, hP, hS, hH, hDr, hpl, hsw⟩ := hN.h
  refine nv_R.of rfl rfl (Nat.le_of_ble_eq_true rfl) ?_
  have loop := m_down (n := P) (G := fun p => ∀ j x : Int, j = p → x = m_set (fun p => h 3 o p = 0) p → nv_V M_X0_fallenSet 4 [(0, vr 0 o), (1, vi x), (2, vi j)] [] h (fun r h' => h' = h ∧ r = some (vi (m_set (fun p => h 3 o p = 0) P)))) ?_ ?_
  · refine nv_go ok_X0_fallenSet [4] 10 ?_
    exact loop 0 (by omega) _ _ rfl rfl
  · intro j x hj hx
    refine nv_go ok_X0_fallenSet [4] 30 ?_
    refine w_ic (by omega) (by omega) (fun c => ?_) (fun c => ?_)
    · exact ⟨rfl, by rw [hx]⟩
    · exact absurd (by show h 0 o 0 ≤ j; omega) c
  · intro p hp ih j x hj hx
    have hl := m_set_lt (fun p => h 3 o p = 0) p
    obtain ⟨h1, h2, h3⟩ := hpl p hp
    refine nv_go ok_X0_fallenSet [4] 30 ?_
    refine w_ic (by omega) (by omega) (fun c => ?_) (fun c => ?_)
    · exact absurd c (by show ¬ (h 0 o 0 ≤ j); omega)
    · refine w_ix p hj (by omega) ?_
      refine w_if (by omega) (fun c2 => ?_) (fun c2 => ?_)
      · refine w_ix p hj (by omega) ?_
        have e1 : h 3 o p = 0 := c2
        exact ih _ _ (by omega) (by rw [hx, nv_or_bit hl.1 hl.2 (by omega)]; simp [m_set, e1])
      · have e1 : ¬ h 3 o p = 0 := c2
        exact ih _ _ (by omega) (by rw [hx]; simp [m_set, e1])
set_option maxRecDepth 100000 in
theorem r_leftOfAll {h : nv_St} {o P S : Nat} {B : Int} (hN : m_ok (m_nn h o) P S B) : nv_R M_X0_leftOfAll [vr 0 o] h (fun r h' => h' = h ∧ r = some (vi (m_sum (h 3 o) P))) := by
  obtain ⟨hP5, hS5, hP, hS, hH, hDr, hpl, hsw⟩ := hN.h
  refine nv_R.of rfl rfl (Nat.le_of_ble_eq_true rfl) ?_
  have loop := m_down (n := P) (G := fun p => ∀ j x : Int, j = p → x = m_sum (h 3 o) p → nv_V M_X0_leftOfAll 4 [(0, vr 0 o), (1, vi x), (2, vi j)] [] h (fun r h' => h' = h ∧ r = some (vi (m_sum (h 3 o) P)))) ?_ ?_
  · refine nv_go ok_X0_leftOfAll [4] 10 ?_
    exact loop 0 (by omega) _ _ rfl rfl
  · intro j x hj hx
    refine nv_go ok_X0_leftOfAll [4] 30 ?_
    refine w_ic (by omega) (by omega) (fun c => ?_) (fun c => ?_)
    · exact ⟨rfl, by rw [hx]⟩
    · exact absurd (by show h 0 o 0 ≤ j; omega) c
  · intro p hp ih j x hj hx
    refine nv_go ok_X0_leftOfAll [4] 30 ?_
    refine w_ic (by omega) (by omega) (fun c => ?_) (fun c => ?_)
    · exact absurd c (by show ¬ (h 0 o 0 ≤ j); omega)
    · refine w_ix p hj (by omega) ?_
      exact ih _ _ (by omega) (by rw [hx]; rfl)
set_option maxRecDepth 100000 in
theorem r_teethOfAll {h : nv_St} {o P S : Nat} {B : Int} (hN : m_ok (m_nn h o) P S B) : nv_R M_X0_teethOfAll [vr 0 o] h (fun r h' => h' = h ∧ r = some (vi (m_sum (h 5 o) S))) := by
  obtain ⟨hP5, hS5, hP, hS, hH, hDr, hpl, hsw⟩ := hN.h
  refine nv_R.of rfl rfl (Nat.le_of_ble_eq_true rfl) ?_
  have loop := m_down (n := S) (G := fun p => ∀ j x : Int, j = p → x = m_sum (h 5 o) p → nv_V M_X0_teethOfAll 4 [(0, vr 0 o), (1, vi x), (2, vi j)] [] h (fun r h' => h' = h ∧ r = some (vi (m_sum (h 5 o) S)))) ?_ ?_
  · refine nv_go ok_X0_teethOfAll [4] 10 ?_
    exact loop 0 (by omega) _ _ rfl rfl
  · intro j x hj hx
    refine nv_go ok_X0_teethOfAll [4] 30 ?_
    refine w_ic (by omega) (by omega) (fun c => ?_) (fun c => ?_)
    · exact ⟨rfl, by rw [hx]⟩
    · exact absurd (by show h 0 o 1 ≤ j; omega) c
  · intro p hp ih j x hj hx
    refine nv_go ok_X0_teethOfAll [4] 30 ?_
    refine w_ic (by omega) (by omega) (fun c => ?_) (fun c => ?_)
    · exact absurd c (by show ¬ (h 0 o 1 ≤ j); omega)
    · refine w_ix p hj (by omega) ?_
      exact ih _ _ (by omega) (by rw [hx]; rfl)
set_option maxRecDepth 100000 in
theorem r_sittersOn {h : nv_St} {o P S : Nat} {B : Int} (hN : m_ok (m_nn h o) P S B) {x : Int} (hx0 : nv_InR x) : nv_R M_X0_sittersOn [vr 0 o, vi x] h (fun r h' => h' = h ∧ r = some (vi (m_set (fun s => h 6 o s = x) S))) := by
  obtain ⟨hP5, hS5, hP, hS, hH, hDr, hpl, hsw⟩ := hN.h
  refine nv_R.of rfl rfl (Nat.le_of_ble_eq_true rfl) ?_
  have loop := m_down (n := S) (G := fun p => ∀ j y : Int, j = p → y = m_set (fun s => h 6 o s = x) p → nv_V M_X0_sittersOn 4 [(0, vr 0 o), (1, vi x), (2, vi y), (3, vi j)] [] h (fun r h' => h' = h ∧ r = some (vi (m_set (fun s => h 6 o s = x) S)))) ?_ ?_
  · refine nv_go ok_X0_sittersOn [4] 10 ?_
    exact loop 0 (by omega) _ _ rfl rfl
  · intro j y hj hy
    refine nv_go ok_X0_sittersOn [4] 30 ?_
    refine w_ic (by omega) (by omega) (fun c => ?_) (fun c => ?_)
    · exact ⟨rfl, by rw [hy]⟩
    · exact absurd (by show h 0 o 1 ≤ j; omega) c
  · intro p hp ih j y hj hy
    have hl := m_set_lt (fun s => h 6 o s = x) p
    obtain ⟨h1, h2, h3⟩ := hsw p hp
    refine nv_go ok_X0_sittersOn [4] 30 ?_
    refine w_ic (by omega) (by omega) (fun c => ?_) (fun c => ?_)
    · exact absurd c (by show ¬ (h 0 o 1 ≤ j); omega)
    · refine w_ix p hj (by omega) ?_
      refine w_ic (by omega) hx0 (fun c2 => ?_) (fun c2 => ?_)
      · refine w_ix p hj (by omega) ?_
        have e1 : h 6 o p = x := c2
        exact ih _ _ (by omega) (by rw [hy, nv_or_bit hl.1 hl.2 (by omega)]; simp [m_set, e1])
      · have e1 : ¬ h 6 o p = x := c2
        exact ih _ _ (by omega) (by rw [hy]; simp [m_set, e1])
