/-! ===== the search: digits, likeness, the best ===== -/
theorem m_dg_0 {x P : Nat} (hP : 0 < P) (hd : x % P + 1 < P) : (x + 1) / P = x / P ∧ (x + 1) % P = x % P + 1 := by
  have h1 := Nat.div_add_mod x P
  have e : x + 1 = (x % P + 1) + P * (x / P) := by omega
  have a1 : ((x % P + 1) + P * (x / P)) / P = x / P := by rw [Nat.add_mul_div_left _ _ hP, Nat.div_eq_of_lt hd, Nat.zero_add]
  have a2 : ((x % P + 1) + P * (x / P)) % P = x % P + 1 := by rw [Nat.add_mul_mod_self_left, Nat.mod_eq_of_lt hd]
  rw [← e] at a1 a2
  exact ⟨a1, a2⟩
theorem m_dg_1 {P k j : Nat} (h : k % P ^ j + 1 = P ^ j) : k + 1 = P ^ j * (k / P ^ j + 1) := by
  have := Nat.div_add_mod k (P ^ j)
  rw [Nat.mul_add, Nat.mul_one]
  omega
theorem m_dg_2 {P k j q : Nat} (h : k + 1 = P ^ j * (q + 1)) (hP : 0 < P) : ∀ i, i < j → (k + 1) / P ^ i % P = 0 := by
  intro i hi
  obtain ⟨m, rfl⟩ : ∃ m, j = i + (m + 1) := ⟨j - i - 1, by omega⟩
  rw [h, Nat.pow_add, Nat.mul_assoc, Nat.mul_div_cancel_left _ (Nat.pow_pos hP), Nat.pow_succ, Nat.mul_assoc, Nat.mul_left_comm]
  exact Nat.mul_mod_right _ _
theorem m_dg_3 {P k j : Nat} (h : k + 1 = P ^ j * (k / P ^ j + 1)) (hP : 0 < P) (hd : k / P ^ j % P + 1 < P) : (k + 1) / P ^ j % P = k / P ^ j % P + 1 ∧ ∀ m, (k + 1) / P ^ (j + 1 + m) = k / P ^ (j + 1 + m) := by
  have e : (k + 1) / P ^ j = k / P ^ j + 1 := by
    have : (P ^ j * (k / P ^ j + 1)) / P ^ j = k / P ^ j + 1 := Nat.mul_div_cancel_left _ (Nat.pow_pos hP)
    rw [← h] at this
    exact this
  obtain ⟨e2, e3⟩ := m_dg_0 hP hd
  refine ⟨by rw [e]; exact e3, fun m => ?_⟩
  rw [Nat.pow_add, Nat.pow_succ, ← Nat.div_div_eq_div_mul, ← Nat.div_div_eq_div_mul, ← Nat.div_div_eq_div_mul, ← Nat.div_div_eq_div_mul, e, e2]
theorem m_dg_4 {P k j : Nat} (h : k % P ^ j + 1 = P ^ j) (hd : k / P ^ j % P + 1 = P) : k % P ^ (j + 1) + 1 = P ^ (j + 1) := by
  rw [Nat.pow_succ, Nat.mod_mul]
  have : P ^ j * (k / P ^ j % P + 1) = P ^ j * P := by rw [hd]
  rw [Nat.mul_add, Nat.mul_one] at this
  omega
theorem m_wseat_r {P S k s : Nat} (hP : 1 ≤ P) : 0 ≤ m_wseat P S k s ∧ m_wseat P S k s < P := by
  have := Nat.mod_lt (k / P ^ (S - 1 - s)) (show P > 0 by omega)
  unfold m_wseat
  omega
theorem m_wayN_ok {N : m_NN} {P S k : Nat} {B : Int} (hP1 : 1 ≤ P) (hN : m_ok N P S B) : m_ok (m_wayN N P S k) P S B := by
  obtain ⟨hP5, hS5, hP, hS, hH, hDr, hpl, hsw⟩ := hN
  exact ⟨hP5, hS5, hP, hS, hH, hDr, hpl, fun s hs => ⟨(hsw s hs).1, (hsw s hs).2.1, Or.inr (m_wseat_r hP1)⟩⟩
theorem m_wayN_eq {N N' : m_NN} {P S k : Nat} (h : m_eq P S N N') : m_eq P S (m_wayN N P S k) (m_wayN N' P S k) :=
  ⟨h.1, h.2.1, fun s hs => ⟨(h.2.2 s hs).1, (h.2.2 s hs).2.1, rfl⟩⟩
theorem m_std_eq {N N' : m_NN} {P S n : Nat} {B : Int} (he : m_eq P S N N') (hN : m_ok N P S B) : m_std N P n = m_std N' P n := by
  unfold m_std
  rw [m_set_eq (f := fun p => m_it n N 3 p = 0) (g := fun p => m_it n N' 3 p = 0) (fun p hp => by rw [((m_it_eq he hN n).2.1 p hp).2.2])]
theorem m_wv_eq {N N' : m_NN} {P S hrs k : Nat} {B : Int} (hP1 : 1 ≤ P) (he : m_eq P S N N') (hN : m_ok N P S B) : m_wv N P S hrs k = m_wv N' P S hrs k := by
  unfold m_wv
  rw [m_noon_eq (m_wayN_eq he) (m_wayN_ok hP1 hN), m_std_eq (m_wayN_eq he) (m_wayN_ok hP1 hN)]
theorem m_mv_eq {N N' : m_NN} {P S k : Nat} (he : m_eq P S N N') : m_mv N P S k = m_mv N' P S k :=
  m_sum_eq (fun s hs => by rw [(he.2.2 s hs).2.2])
theorem m_best_eq {w w' mv mv' : Nat → Int} (hw : ∀ k, w k = w' k) (hm : ∀ k, mv k = mv' k) (n : Nat) : m_best w mv n = m_best w' mv' n := by
  rw [show w = w' from funext hw, show mv = mv' from funext hm]
theorem m_res_eq {N N' : m_NN} {P S hrs : Nat} {B : Int} (hP1 : 1 ≤ P) (he : m_eq P S N N') (hN : m_ok N P S B) : m_res N P S hrs = m_res N' P S hrs :=
  m_best_eq (fun _ => m_wv_eq hP1 he hN) (fun _ => m_mv_eq he) _
/-- another draw -/
def m_dr (N : m_NN) (d : Int) : m_NN := fun t j => match t with
  | 0 => if j = 3 then d else N 0 j
  | t => N t j
theorem m_dr_lf {N : m_NN} {d : Int} {c : Nat → Int} : ∀ n, m_lf (m_dr N d) c n = m_lf N c n
  | 0 => rfl
  | n + 1 => by
    unfold m_lf
    rw [m_dr_lf n]
    rfl
theorem m_dr_L {N : m_NN} {d : Int} : m_L (m_dr N d) = m_L N := m_dr_lf _
theorem m_dr_hour {N : m_NN} {d : Int} : m_hour (m_dr N d) = m_dr (m_hour N) d := by
  funext t j
  match t with
  | 0 =>
    show (if j = 2 then N 0 2 + 1 else (if j = 3 then d else N 0 j)) = (if j = 3 then d else (if j = 2 then N 0 2 + 1 else N 0 j))
    by_cases h2 : j = 2
    · rw [if_pos h2, if_neg (by omega), if_pos h2]
    · rw [if_neg h2]
      by_cases h3 : j = 3
      · rw [if_pos h3, if_pos h3]
      · rw [if_neg h3, if_neg h3, if_neg h2]
  | 1 => rfl
  | 2 => rfl
  | 3 => show m_L (m_dr N d) j = m_L N j; rw [m_dr_L]
  | 4 => rfl
  | 5 => rfl
  | 6 =>
    show (if (0 ≤ N 6 j ∧ m_L (m_dr N d) (N 6 j).toNat = 0) ∧ ¬ m_most (m_L (m_dr N d)) (m_P N) = -4 then m_most (m_L (m_dr N d)) (m_P N) else N 6 j) = (if (0 ≤ N 6 j ∧ m_L N (N 6 j).toNat = 0) ∧ ¬ m_most (m_L N) (m_P N) = -4 then m_most (m_L N) (m_P N) else N 6 j)
    rw [m_dr_L]
  | t + 7 => rfl
theorem m_dr_it {N : m_NN} {d : Int} : ∀ n, m_it n (m_dr N d) = m_dr (m_it n N) d
  | 0 => rfl
  | n + 1 => by
    show m_hour (m_it n (m_dr N d)) = m_dr (m_hour (m_it n N)) d
    rw [m_dr_it n, m_dr_hour]
theorem m_dr_way {N : m_NN} {d : Int} {P S k : Nat} : m_wayN (m_dr N d) P S k = m_dr (m_wayN N P S k) d := by
  funext t j
  match t with
  | 0 => rfl
  | 1 => rfl
  | 2 => rfl
  | 3 => rfl
  | 4 => rfl
  | 5 => rfl
  | 6 => rfl
  | t + 7 => rfl
theorem m_dr_wv {N : m_NN} {d : Int} {P S hrs k : Nat} : m_wv (m_dr N d) P S hrs k = m_wv N P S hrs k := by
  have h1 : m_noon (m_wayN (m_dr N d) P S k) P = m_noon (m_wayN N P S k) P := by
    unfold m_noon
    rw [m_dr_way]
    exact m_find_eq (fun n _ _ => by rw [m_dr_it]; exact m_all_eq (fun p _ => rfl))
  have h2 : m_std (m_wayN (m_dr N d) P S k) P hrs = m_std (m_wayN N P S k) P hrs := by
    unfold m_std
    rw [m_dr_way]
    rw [m_set_eq (f := fun p => m_it hrs (m_dr (m_wayN N P S k) d) 3 p = 0) (g := fun p => m_it hrs (m_wayN N P S k) 3 p = 0) (fun p hp => by rw [m_dr_it]; exact Iff.rfl)]
  unfold m_wv
  rw [h1, h2]
theorem m_dr_res {N : m_NN} {d : Int} {P S hrs : Nat} : m_res (m_dr N d) P S hrs = m_res N P S hrs :=
  m_best_eq (fun _ => m_dr_wv) (fun _ => rfl) _
/-- alike but for the draw -/
theorem m_res_like {N N' : m_NN} {P S hrs : Nat} {B : Int} (hP1 : 1 ≤ P) (hN : m_ok N P S B) (h0 : N 0 0 = N' 0 0) (h1 : N 0 1 = N' 0 1) (h2 : N 0 2 = N' 0 2) (hp : ∀ p, p < P → N 1 p = N' 1 p ∧ N 2 p = N' 2 p ∧ N 3 p = N' 3 p) (hs : ∀ s, s < S → N 4 s = N' 4 s ∧ N 5 s = N' 5 s ∧ N 6 s = N' 6 s) : m_res N P S hrs = m_res N' P S hrs := by
  rw [← m_dr_res (N := N') (d := N 0 3)]
  refine m_res_eq hP1 ⟨fun j hj => ?_, hp, hs⟩ hN
  have : j = 0 ∨ j = 1 ∨ j = 2 ∨ j = 3 := by omega
  rcases this with rfl | rfl | rfl | rfl
  · exact h0
  · exact h1
  · exact h2
  · rfl
/-! the best of the first k ways -/
theorem m_bits_le {P : Nat} {x : Int} (hP5 : P ≤ 5) (h0 : 0 ≤ x) (h1 : x < 2 ^ P) : 0 ≤ m_bits x ∧ m_bits x ≤ P := by
  have : P = 0 ∨ P = 1 ∨ P = 2 ∨ P = 3 ∨ P = 4 ∨ P = 5 := by omega
  unfold m_bits
  rcases this with rfl | rfl | rfl | rfl | rfl | rfl <;> simp at h1 <;> omega
theorem m_wv_r {N : m_NN} {P S hrs k : Nat} (hP5 : P ≤ 5) : 0 ≤ m_wv N P S hrs k ∧ (m_wv N P S hrs k ≤ 60 ∨ m_wv N P S hrs k = 99) ∧ (0 < hrs → m_wv N P S hrs k ≤ 60) := by
  have hr : m_noon (m_wayN N P S k) P = -4 ∨ (((0 : Nat) : Int) ≤ m_noon (m_wayN N P S k) P ∧ m_noon (m_wayN N P S k) P < ((0 : Nat) : Int) + ((61 : Nat) : Int)) := m_find_r (f := fun n => m_all (m_it n (m_wayN N P S k)) P) (d := 61) (n := 0)
  unfold m_wv
  by_cases e : hrs = 0
  · rw [if_pos e]
    refine ⟨?_, ?_, fun h => absurd h (by omega)⟩
    · split <;> omega
    · split <;> omega
  · rw [if_neg e]
    have hl := m_set_lt (fun p => m_it hrs (m_wayN N P S k) 3 p = 0) P
    have h32 := m_pow5 hP5
    have hb : 0 ≤ m_std (m_wayN N P S k) P hrs ∧ m_std (m_wayN N P S k) P hrs ≤ 60 := by
      unfold m_std
      have h2 := m_bits_le (P := P) hP5 hl.1 hl.2
      omega
    exact ⟨hb.1, Or.inl hb.2, fun _ => hb.2⟩
theorem m_mv_r {N : m_NN} {P S k : Nat} (hS5 : S ≤ 5) : 0 ≤ m_mv N P S k ∧ m_mv N P S k ≤ 5 := by
  have := m_sum_le (f := fun s => if m_wseat P S k s = N 6 s then 0 else 1) (c := 1) (n := S) (fun s _ => by split <;> omega)
  unfold m_mv
  omega
theorem m_best_r {w mv : Nat → Int} (hw : ∀ k, 0 ≤ w k ∧ (w k ≤ 60 ∨ w k = 99)) (hm : ∀ k, 0 ≤ mv k ∧ mv k ≤ 5) : ∀ n, 0 < n → (0 ≤ (m_best w mv n).1 ∧ ((m_best w mv n).1 ≤ 60 ∨ (m_best w mv n).1 = 99)) ∧ (0 ≤ (m_best w mv n).2.1 ∧ (m_best w mv n).2.1 ≤ 5)
  | 0, h => absurd h (by omega)
  | 1, _ => by
    have h0 := hw 0
    have e : m_best w mv 1 = (w 0, mv 0, 0) := by
      show (if _ then _ else _) = _
      rw [if_pos]
      left
      show w 0 < 100
      omega
    rw [e]
    exact ⟨h0, hm 0⟩
  | n + 2, _ => by
    have ih := m_best_r hw hm (n + 1) (by omega)
    unfold m_best
    split
    · exact ⟨hw (n + 1), hm (n + 1)⟩
    · exact ih
theorem m_best_60 {w mv : Nat → Int} (hw : ∀ k, w k ≤ 60) : ∀ n, 0 < n → (m_best w mv n).1 ≤ 60
  | 0, h => absurd h (by omega)
  | 1, _ => by
    have h0 := hw 0
    have e : m_best w mv 1 = (w 0, mv 0, 0) := by
      show (if _ then _ else _) = _
      rw [if_pos]
      left
      show w 0 < 100
      omega
    rw [e]
    exact h0
  | n + 2, _ => by
    have ih := m_best_60 (mv := mv) hw (n + 1) (by omega)
    unfold m_best
    split
    · exact hw (n + 1)
    · exact ih
