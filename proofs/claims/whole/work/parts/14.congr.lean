/-! ===== like noons have like hours ===== -/
theorem m_most_eq {f g : Nat → Int} : ∀ {n : Nat}, (∀ p, p < n → f p = g p) → m_most f n = m_most g n
  | 0, _ => rfl
  | n + 1, h => by
    have ih := m_most_eq (n := n) (fun p hp => h p (by omega))
    have hr := m_most_r f n
    unfold m_most
    rw [h n (by omega), ← ih]
    by_cases e : m_most f n = -4
    · simp [e]
    · have e2 : f (m_most f n).toNat = g (m_most f n).toNat := h _ (by omega)
      rw [e2]
theorem m_ex_eq {f g : Nat → Bool} : ∀ {n : Nat}, (∀ p, p < n → f p = g p) → m_ex f n = m_ex g n
  | 0, _ => rfl
  | n + 1, h => by
    unfold m_ex
    rw [m_ex_eq (n := n) (fun p hp => h p (by omega)), h n (by omega)]
theorem m_set_eq {f g : Nat → Prop} [DecidablePred f] [DecidablePred g] : ∀ {n : Nat}, (∀ p, p < n → (f p ↔ g p)) → m_set f n = m_set g n
  | 0, _ => rfl
  | n + 1, h => by
    unfold m_set
    rw [m_set_eq (n := n) (fun p hp => h p (by omega))]
    have := h n (by omega)
    by_cases e : f n
    · rw [if_pos e, if_pos (this.mp e)]
    · rw [if_neg e, if_neg (fun q => e (this.mpr q))]
theorem m_sum_eq {f g : Nat → Int} : ∀ {n : Nat}, (∀ p, p < n → f p = g p) → m_sum f n = m_sum g n
  | 0, _ => rfl
  | n + 1, h => by
    unfold m_sum
    rw [m_sum_eq (n := n) (fun p hp => h p (by omega)), h n (by omega)]
section nvCongr
variable {N N' : m_NN} {P S : Nat} {B : Int}
theorem m_cut_eq (he : m_eq P S N N') (hN : m_ok N P S B) {s : Nat} (hs : s < S) : m_cut N s = m_cut N' s := by
  obtain ⟨hP5, hS5, hP, hS, hH, hDr, hpl, hsw⟩ := hN
  obtain ⟨a1, a2, a3⟩ := hsw s hs
  obtain ⟨e4, e5, e6⟩ := he.2.2 s hs
  unfold m_cut
  rw [← e6, ← e4, ← e5]
  by_cases c : N 6 s < 0
  · rw [if_pos c, if_pos c]
  · obtain ⟨g1, g2, g3⟩ := he.2.1 (N 6 s).toNat (by omega)
    rw [if_neg c, if_neg c]
    unfold m_edge m_rest
    rw [← g1, ← g2, ← g3, ← he.1 2 (by omega)]
theorem m_lf_eq {c c' : Nat → Int} : ∀ {n : Nat}, (∀ s, s < n → c s = c' s) → (∀ s, s < n → N 6 s = N' 6 s) → (∀ s, s < n → 0 < c s → 0 ≤ N 6 s ∧ N 6 s < P) → (∀ p, p < P → N 3 p = N' 3 p) → ∀ p, p < P → m_lf N c n p = m_lf N' c' n p
  | 0, _, _, _, h3, p, hp => h3 p hp
  | n + 1, hc, h6, hr, h3, p, hp => by
    have ih := m_lf_eq (c := c) (c' := c') (n := n) (fun s hs => hc s (by omega)) (fun s hs => h6 s (by omega)) (fun s hs => hr s (by omega)) h3
    unfold m_lf
    rw [← hc n (by omega)]
    by_cases h0 : 0 < c n
    · rw [if_pos h0, if_pos h0, ← h6 n (by omega)]
      unfold m_up
      have := hr n (by omega) h0
      rw [ih (N 6 n).toNat (by omega), ih p hp]
    · rw [if_neg h0, if_neg h0]
      exact ih p hp
theorem m_L_eq (he : m_eq P S N N') (hN : m_ok N P S B) : ∀ p, p < P → m_L N p = m_L N' p := by
  have hN' := he.symm'.ok hN
  unfold m_L
  rw [m_S_eq hN, m_S_eq hN']
  exact m_lf_eq (fun s hs => m_cut_eq he hN hs) (fun s hs => (he.2.2 s hs).2.2) (fun s hs h0 => (m_cut_r hN hs).2 h0) (fun p hp => (he.2.1 p hp).2.2)
theorem m_hour_eq (he : m_eq P S N N') (hN : m_ok N P S B) : m_eq P S (m_hour N) (m_hour N') := by
  have hN' := he.symm'.ok hN
  have hL := m_L_eq he hN
  have hm : m_most (m_L N) P = m_most (m_L N') P := m_most_eq hL
  obtain ⟨hP5, hS5, hP, hS, hH, hDr, hpl, hsw⟩ := id hN
  refine ⟨fun j hj => ?_, fun p hp => ⟨(he.2.1 p hp).1, (he.2.1 p hp).2.1, hL p hp⟩, fun s hs => ⟨(he.2.2 s hs).1, ?_, ?_⟩⟩
  · show (if j = 2 then N 0 2 + 1 else N 0 j) = (if j = 2 then N' 0 2 + 1 else N' 0 j)
    rw [he.1 2 (by omega), he.1 j hj]
  · show (if N 0 2 % 3 = 2 ∧ 0 < m_cut N s ∧ 0 < N 5 s then N 5 s - 1 else N 5 s) = (if N' 0 2 % 3 = 2 ∧ 0 < m_cut N' s ∧ 0 < N' 5 s then N' 5 s - 1 else N' 5 s)
    rw [he.1 2 (by omega), m_cut_eq he hN hs, (he.2.2 s hs).2.1]
  · show (if (0 ≤ N 6 s ∧ m_L N (N 6 s).toNat = 0) ∧ ¬ m_most (m_L N) (m_P N) = -4 then m_most (m_L N) (m_P N) else N 6 s) = (if (0 ≤ N' 6 s ∧ m_L N' (N' 6 s).toNat = 0) ∧ ¬ m_most (m_L N') (m_P N') = -4 then m_most (m_L N') (m_P N') else N' 6 s)
    rw [m_P_eq hN, m_P_eq hN', ← hm, ← (he.2.2 s hs).2.2]
    obtain ⟨a1, a2, a3⟩ := hsw s hs
    by_cases c : 0 ≤ N 6 s
    · rw [hL (N 6 s).toNat (by omega)]
    · rw [if_neg (fun q => c q.1.1), if_neg (fun q => c q.1.1)]
theorem m_stir_eq (he : m_eq P S N N') (hN : m_ok N P S B) : m_stir N = m_stir N' := by
  have hN' := he.symm'.ok hN
  have hL := m_L_eq he hN
  have hm : m_most (m_L N) P = m_most (m_L N') P := m_most_eq hL
  obtain ⟨hP5, hS5, hP, hS, hH, hDr, hpl, hsw⟩ := id hN
  unfold m_stir m_rest
  rw [m_P_eq hN, m_P_eq hN', m_S_eq hN, m_S_eq hN', ← hm, he.1 2 (by omega)]
  congr 1
  · congr 1
    exact m_ex_eq (fun s hs => by rw [m_cut_eq he hN hs])
  · congr 1
    refine m_ex_eq (fun s hs => ?_)
    obtain ⟨a1, a2, a3⟩ := hsw s hs
    rw [← (he.2.2 s hs).2.2]
    by_cases c : 0 ≤ N 6 s
    · rw [hL (N 6 s).toNat (by omega)]
    · rw [decide_eq_false (fun q => c q.1), decide_eq_false (fun q => c q.1)]
end nvCongr
/-- n hours on -/
def m_it : Nat → m_NN → m_NN
  | 0, N => N
  | n + 1, N => m_hour (m_it n N)
theorem m_it_ok {N : m_NN} {P S : Nat} {B : Int} (hN : m_ok N P S B) : ∀ n : Nat, m_ok (m_it n N) P S (B + n)
  | 0 => by simpa [m_it] using hN
  | n + 1 => by
    have := m_hour_ok (m_it_ok hN n)
    have e : B + (n : Int) + 1 = B + ((n + 1 : Nat) : Int) := by omega
    rw [e] at this
    exact this
theorem m_it_eq {N N' : m_NN} {P S : Nat} {B : Int} (he : m_eq P S N N') (hN : m_ok N P S B) : ∀ n : Nat, m_eq P S (m_it n N) (m_it n N')
  | 0 => he
  | n + 1 => m_hour_eq (m_it_eq he hN n) (m_it_ok hN n)
set_option maxRecDepth 100000 in
theorem r_passHours {h : nv_St} {o P S n : Nat} {B : Int} (hN : m_ok (m_nn h o) P S B) (hB : B + n < 1073741824) (hn : n < 1000) :
    nv_R M_X0_passHours [vr 0 o, vi n] h (fun r h' => r = none ∧ m_eq P S (m_nn h' o) (m_it n (m_nn h o)) ∧ m_fr o h h') := by
  refine nv_R.of rfl rfl (Nat.le_of_ble_eq_true rfl) ?_
  have loop := m_down (n := n) (G := fun k => ∀ (j : Int) (h1 : nv_St), j = k → m_eq P S (m_nn h1 o) (m_it k (m_nn h o)) → m_fr o h h1 → nv_V M_X0_passHours 2 [(0, vr 0 o), (1, vi n), (2, vi j)] [] h1 (fun r h' => r = none ∧ m_eq P S (m_nn h' o) (m_it n (m_nn h o)) ∧ m_fr o h h')) ?_ ?_
  · refine nv_go ok_X0_passHours [2] 10 ?_
    exact loop 0 (by omega) _ _ rfl m_eq.rfl' m_fr.rfl'
  · intro j h1 hj he hf
    refine nv_go ok_X0_passHours [2] 10 ?_
    refine w_ic (by omega) (by omega) (fun c => ?_) (fun c => ?_)
    · exact ⟨rfl, he, hf⟩
    · exact absurd (by show (n : Int) ≤ j; omega) c
  · intro k hk ih j h1 hj he hf
    refine nv_go ok_X0_passHours [2] 10 ?_
    refine w_ic (by omega) (by omega) (fun c => ?_) (fun c => ?_)
    · exact absurd c (by show ¬ ((n : Int) ≤ j); omega)
    · have hok := he.ok (m_it_ok hN k)
      refine w_call (r_passHour hok (by omega)) (fun v h' hv => ?_)
      obtain ⟨rfl, he', hf'⟩ := hv
      exact ih _ _ (by omega) (he'.trans' (m_hour_eq he hok)) (hf.trans' hf')
