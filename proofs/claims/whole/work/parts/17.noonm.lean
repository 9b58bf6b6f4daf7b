/-! ===== noon: the first hour behind which all are fallen; what can be said ahead of it ===== -/
theorem nv_V.take {M : nv_MD} {pc : Nat} {lv : nv_LV} {stk : List nv_AV} {h : nv_St} {Q : nv_PT} (n : Nat) (k : nv_V M pc (lv.take n) stk h Q) : nv_V M pc lv stk h Q := by
  intro X p l e s m args below meth c H locs ls C hP hD hS hl ho hk
  refine k X p l e s m args below meth c H locs ls C hP hD hS ⟨hl.1, hl.2.1, fun q hq => hl.2.2 q ?_⟩ (fun q hq => ho q (List.mem_of_mem_take hq)) hk
  obtain ⟨y, hy, rfl⟩ := List.mem_map.mp hq
  exact List.mem_map.mpr ⟨y, List.mem_of_mem_take hy, rfl⟩
def m_find (f : Nat → Bool) : Nat → Nat → Int
  | 0, _ => -4
  | d + 1, n => if f n = true then (n : Int) else m_find f d (n + 1)
theorem m_find_none {f : Nat → Bool} : ∀ {d n : Nat}, (∀ k, n ≤ k → k < n + d → f k = false) → m_find f d n = -4
  | 0, _, _ => rfl
  | d + 1, n, h => by
    unfold m_find
    rw [h n (by omega) (by omega), if_neg (by decide)]
    exact m_find_none (fun k h1 h2 => h k (by omega) (by omega))
theorem m_find_some {f : Nat → Bool} {k : Nat} : ∀ {d n : Nat}, n ≤ k → k < n + d → (∀ i, n ≤ i → i < k → f i = false) → f k = true → m_find f d n = k
  | 0, n, h1, h2, _, _ => by omega
  | d + 1, n, h1, h2, h3, h4 => by
    unfold m_find
    by_cases e : n = k
    · subst e; rw [if_pos h4]
    · rw [h3 n (by omega) (by omega), if_neg (by decide)]
      exact m_find_some (by omega) (by omega) (fun i a b => h3 i (by omega) b) h4
theorem m_find_r {f : Nat → Bool} : ∀ {d n : Nat}, m_find f d n = -4 ∨ (n ≤ m_find f d n ∧ m_find f d n < n + d)
  | 0, _ => Or.inl rfl
  | d + 1, n => by
    have := m_find_r (f := f) (d := d) (n := n + 1)
    unfold m_find
    split <;> omega
theorem m_find_eq {f g : Nat → Bool} : ∀ {d n : Nat}, (∀ k, n ≤ k → k < n + d → f k = g k) → m_find f d n = m_find g d n
  | 0, _, _ => rfl
  | d + 1, n, h => by
    unfold m_find
    rw [h n (by omega) (by omega), m_find_eq (fun k a b => h k (by omega) (by omega))]
def m_all (N : m_NN) (P : Nat) : Bool := decide (∀ p, p < P → N 3 p = 0)
theorem m_all_eq {P : Nat} {N N' : m_NN} (h : ∀ p, p < P → N 3 p = N' 3 p) : m_all N P = m_all N' P := by
  unfold m_all
  exact decide_eq_decide.mpr ⟨fun k p hp => by rw [← h p hp]; exact k p hp, fun k p hp => by rw [h p hp]; exact k p hp⟩
theorem m_all_sum {P : Nat} {N : m_NN} (h : ∀ p, p < P → 0 ≤ N 3 p) : m_all N P = true ↔ m_sum (N 3) P = 0 := by
  unfold m_all
  rw [decide_eq_true_iff]
  have key : ∀ n, n ≤ P → ((∀ p, p < n → N 3 p = 0) ↔ m_sum (N 3) n = 0) ∧ 0 ≤ m_sum (N 3) n := by
    intro n
    induction n with
    | zero => intro _; exact ⟨⟨fun _ => rfl, fun _ p hp => absurd hp (by omega)⟩, by simp [m_sum]⟩
    | succ n ih =>
      intro hn
      obtain ⟨i1, i2⟩ := ih (by omega)
      have := h n (by omega)
      have e : m_sum (N 3) (n + 1) = m_sum (N 3) n + N 3 n := rfl
      refine ⟨⟨fun k => ?_, fun k p hp => ?_⟩, by omega⟩
      · rw [e, i1.mp (fun p hp => k p (by omega)), k n (by omega)]; rfl
      · by_cases ep : p = n
        · subst ep; omega
        · exact i1.mpr (by omega) p (by omega)
  exact (key P (Nat.le_refl _)).1
/-- the most that a sawyer can cut of any plank -/
def m_mcs (N : m_NN) (s : Nat) : Nat → Int
  | 0 => 0
  | n + 1 => max (m_mcs N s n) (m_by (N 4 s) (N 5 s) (N 2 n) true false)
def m_mc (N : m_NN) (P : Nat) : Nat → Int := m_sum (fun s => m_mcs N s P)
theorem m_plain_mono {t t' k : Int} (h : t ≤ t') : m_plain t k ≤ m_plain t' k := by
  unfold m_plain
  split <;> split <;> omega
theorem m_by_mono {kd t t' k : Int} {e r : Bool} (ht : 0 ≤ t ∧ t ≤ 9) (ht' : t' ≤ 9) (hk : 0 ≤ k ∧ k ≤ 9) (h : t ≤ t') : m_by kd t k e r ≤ m_by kd t' k true false := by
  have h1 := m_plain_mono (k := k) h
  have h0 := m_plain_r ht hk
  have h2 : m_green t k e ≤ m_green t' k true := by unfold m_green; cases e <;> simp <;> omega
  have h3 : m_old t k ≤ m_old t' k := by unfold m_old; omega
  have h4 := m_green_r (e := e) ht hk
  have h5 : 0 ≤ m_old t' k := by unfold m_old; split <;> omega
  unfold m_by
  split
  · exact h3
  · split
    · exact h2
    · split
      · cases r <;> simp
        · exact h3
        · exact h5
      · split
        · split <;> split <;> omega
        · exact h1
theorem m_mcs_ge {N : m_NN} {s : Nat} : ∀ {n p : Nat}, p < n → m_by (N 4 s) (N 5 s) (N 2 p) true false ≤ m_mcs N s n
  | 0, p, h => by omega
  | n + 1, p, h => by
    unfold m_mcs
    by_cases e : p = n
    · subst e; omega
    · have := m_mcs_ge (N := N) (s := s) (n := n) (p := p) (by omega)
      omega
theorem m_mcs_0 {N : m_NN} {s : Nat} : ∀ {n : Nat}, 0 ≤ m_mcs N s n
  | 0 => by simp [m_mcs]
  | n + 1 => by
    have := m_mcs_0 (N := N) (s := s) (n := n)
    unfold m_mcs
    omega
theorem m_mcs_18 {N : m_NN} {s P : Nat} (h5 : 0 ≤ N 5 s ∧ N 5 s ≤ 9) (h2 : ∀ p, p < P → 0 ≤ N 2 p ∧ N 2 p ≤ 9) : ∀ {n : Nat}, n ≤ P → m_mcs N s n ≤ 18
  | 0, _ => by simp [m_mcs]
  | n + 1, hn => by
    have i := m_mcs_18 h5 h2 (n := n) (by omega)
    have b := m_by_r (kd := N 4 s) (e := true) (r := false) h5 (h2 n (by omega))
    unfold m_mcs
    omega
theorem m_mcs_mono {N N' : m_NN} {s P : Nat} (h4 : N 4 s = N' 4 s) (h5 : 0 ≤ N 5 s ∧ N 5 s ≤ N' 5 s ∧ N' 5 s ≤ 9) (h2 : ∀ p, p < P → N 2 p = N' 2 p ∧ 0 ≤ N 2 p ∧ N 2 p ≤ 9) : ∀ {n : Nat}, n ≤ P → m_mcs N s n ≤ m_mcs N' s n
  | 0, _ => by simp [m_mcs]
  | n + 1, hn => by
    have i := m_mcs_mono h4 h5 h2 (n := n) (by omega)
    have h2n := h2 n (by omega)
    have b : m_by (N 4 s) (N 5 s) (N 2 n) true false ≤ m_by (N' 4 s) (N' 5 s) (N' 2 n) true false := by
      rw [← h4, ← h2n.1]
      exact m_by_mono ⟨h5.1, by omega⟩ h5.2.2 h2n.2 h5.2.1
    unfold m_mcs
    omega
theorem m_sum_mono {f g : Nat → Int} : ∀ {n : Nat}, (∀ i, i < n → f i ≤ g i) → m_sum f n ≤ m_sum g n
  | 0, _ => by simp [m_sum]
  | n + 1, h => by
    have i := m_sum_mono (n := n) (fun i hi => h i (by omega))
    have := h n (by omega)
    unfold m_sum
    omega
theorem m_sum_up {f : Nat → Int} {q : Nat} {x : Int} : ∀ {n : Nat}, m_sum (m_up f q x) n = if q < n then m_sum f n - f q + x else m_sum f n
  | 0 => by simp [m_sum]
  | n + 1 => by
    have i := m_sum_up (f := f) (q := q) (x := x) (n := n)
    unfold m_sum
    rw [i]
    unfold m_up
    by_cases e : n = q
    · subst e
      rw [if_neg (by omega), if_pos rfl, if_pos (by omega)]
      omega
    · rw [if_neg e]
      by_cases e2 : q < n
      · rw [if_pos e2, if_pos (by omega)]; omega
      · rw [if_neg e2, if_neg (by omega)]
section nvNoonM
variable {N : m_NN} {P S : Nat} {B : Int}
theorem m_cut_le (hN : m_ok N P S B) {s : Nat} (hs : s < S) : m_cut N s ≤ m_mcs N s P := by
  obtain ⟨hP5, hS5, hP, hS, hH, hDr, hpl, hsw⟩ := id hN
  obtain ⟨a1, a2, a3⟩ := hsw s hs
  have h0 := m_mcs_0 (N := N) (s := s) (n := P)
  unfold m_cut
  split
  · exact h0
  · next c =>
    obtain ⟨b1, b2, b3⟩ := hpl (N 6 s).toNat (by omega)
    split
    · exact h0
    · have g := m_mcs_ge (N := N) (s := s) (n := P) (p := (N 6 s).toNat) (by omega)
      have k := m_by_mono (kd := N 4 s) (e := m_edge N (N 6 s).toNat) (r := m_rest N) a2 a2.2 b2 (Int.le_refl _)
      omega
theorem m_lf_sum (hN : m_ok N P S B) : ∀ {n : Nat}, n ≤ S → m_sum (N 3) P - m_sum (m_cut N) n ≤ m_sum (m_lf N (m_cut N) n) P
  | 0, _ => by simp [m_lf, m_sum]
  | n + 1, hn => by
    have i := m_lf_sum hN (n := n) (by omega)
    have hc := m_cut_r hN (s := n) (by omega)
    have e : m_sum (m_cut N) (n + 1) = m_sum (m_cut N) n + m_cut N n := rfl
    unfold m_lf
    split
    · next h0 =>
      rw [m_sum_up, if_pos (by have := hc.2 h0; omega)]
      omega
    · omega
theorem m_hour_sum (hN : m_ok N P S B) : m_sum (N 3) P - m_mc N P S ≤ m_sum (m_hour N 3) P := by
  have h1 := m_lf_sum hN (Nat.le_refl S)
  have h2 : m_sum (m_cut N) S ≤ m_mc N P S := m_sum_mono (fun s hs => m_cut_le hN hs)
  have h3 : m_hour N 3 = m_lf N (m_cut N) S := by
    show m_L N = _
    unfold m_L
    rw [m_S_eq hN]
  rw [h3]
  omega
theorem m_mc_hour (hN : m_ok N P S B) : m_mc (m_hour N) P S ≤ m_mc N P S := by
  have hN' := m_hour_ok hN
  obtain ⟨hP5, hS5, hP, hS, hH, hDr, hpl, hsw⟩ := id hN
  refine m_sum_mono (fun s hs => m_mcs_mono (N := m_hour N) (N' := N) (s := s) (P := P) rfl ?_ (fun p hp => ⟨rfl, (hpl p hp).2.1⟩) (Nat.le_refl _))
  have h1 := (hN'.2.2.2.2.2.2.2 s hs).2.1
  have h2 := (hsw s hs).2.1
  refine ⟨h1.1, ?_, h2.2⟩
  show (if N 0 2 % 3 = 2 ∧ 0 < m_cut N s ∧ 0 < N 5 s then N 5 s - 1 else N 5 s) ≤ N 5 s
  split <;> omega
theorem m_mc_r (hN : m_ok N P S B) : 0 ≤ m_mc N P S ∧ m_mc N P S ≤ S * 18 :=
  m_sum_le (fun s hs => ⟨m_mcs_0, m_mcs_18 (P := P) (hN.2.2.2.2.2.2.2 s hs).2.1 (fun p hp => (hN.2.2.2.2.2.2.1 p hp).2.1) (Nat.le_refl _)⟩)
theorem m_it_sum (hN : m_ok N P S B) (n : Nat) : ∀ k : Nat, m_sum (m_it n N 3) P - k * m_mc N P S ≤ m_sum (m_it (n + k) N 3) P ∧ m_mc (m_it (n + k) N) P S ≤ m_mc N P S := by
  have hm : ∀ k, m_mc (m_it k N) P S ≤ m_mc N P S := by
    intro k
    induction k with
    | zero => exact Int.le_refl _
    | succ k ih => exact Int.le_trans (m_mc_hour (m_it_ok hN k)) ih
  intro k
  refine ⟨?_, hm _⟩
  induction k with
  | zero => simp
  | succ k ih =>
    have h1 := m_hour_sum (m_it_ok hN (n + k))
    have h2 := hm (n + k)
    have e : m_it (n + (k + 1)) N = m_hour (m_it (n + k) N) := rfl
    have e2 : ((k + 1 : Nat) : Int) * m_mc N P S = k * m_mc N P S + m_mc N P S := by push_cast; rw [Int.add_mul]; omega
    rw [e, e2]
    omega
/-- nothing stirs: nobody cuts, in no hour, and nobody goes -/
def m_dead (N : m_NN) (P S : Nat) : Prop := ∀ s, s < S → (N 6 s < 0 ∨ N 3 (N 6 s).toNat = 0 ∨ m_by (N 4 s) (N 5 s) (N 2 (N 6 s).toNat) (m_edge N (N 6 s).toNat) false = 0) ∧ ¬ ((0 ≤ N 6 s ∧ N 3 (N 6 s).toNat = 0) ∧ ¬ m_most (N 3) P = -4)
theorem m_by_rest {kd t k : Int} {e : Bool} (h : m_by kd t k e false = 0) (r : Bool) : m_by kd t k e r = 0 := by
  cases r
  · exact h
  · unfold m_by at h ⊢
    split
    · next c => rw [if_pos c] at h; exact h
    · next c =>
      rw [if_neg c] at h
      split
      · next c2 => rw [if_pos c2] at h; exact h
      · next c2 =>
        rw [if_neg c2] at h
        split
        · rfl
        · next c3 => rw [if_neg c3] at h; exact h
theorem m_dead_cut (hd : m_dead N P S) {s : Nat} (hs : s < S) : m_cut N s = 0 := by
  unfold m_cut
  split
  · rfl
  · next c =>
    split
    · rfl
    · next c2 =>
      rcases (hd s hs).1 with h | h | h
      · exact absurd h c
      · exact absurd h c2
      · exact m_by_rest h _
theorem m_lf_0 {c : Nat → Int} : ∀ {n : Nat}, (∀ s, s < n → c s = 0) → m_lf N c n = N 3
  | 0, _ => rfl
  | n + 1, h => by
    unfold m_lf
    rw [if_neg (by rw [h n (by omega)]; decide)]
    exact m_lf_0 (fun s hs => h s (by omega))
theorem m_dead_hour (hN : m_ok N P S B) (hd : m_dead N P S) : (m_hour N 3 = N 3 ∧ (∀ s, s < S → m_hour N 5 s = N 5 s ∧ m_hour N 6 s = N 6 s)) ∧ m_dead (m_hour N) P S := by
  have hL : m_L N = N 3 := by unfold m_L; rw [m_S_eq hN]; exact m_lf_0 (fun s hs => m_dead_cut hd hs)
  have h5 : ∀ s, s < S → m_hour N 5 s = N 5 s := by
    intro s hs
    show (if N 0 2 % 3 = 2 ∧ 0 < m_cut N s ∧ 0 < N 5 s then N 5 s - 1 else N 5 s) = N 5 s
    rw [if_neg (by rw [m_dead_cut hd hs]; omega)]
  have h6 : ∀ s, s < S → m_hour N 6 s = N 6 s := by
    intro s hs
    show (if (0 ≤ N 6 s ∧ m_L N (N 6 s).toNat = 0) ∧ ¬ m_most (m_L N) (m_P N) = -4 then m_most (m_L N) (m_P N) else N 6 s) = N 6 s
    rw [hL, m_P_eq hN, if_neg (hd s hs).2]
  have h3 : m_hour N 3 = N 3 := hL
  refine ⟨⟨h3, fun s hs => ⟨h5 s hs, h6 s hs⟩⟩, fun s hs => ?_⟩
  have := hd s hs
  unfold m_edge at this ⊢
  rw [h6 s hs, h5 s hs, h3]
  exact this
theorem m_dead_it (hN : m_ok N P S B) (hd : m_dead N P S) : ∀ k, m_it k N 3 = N 3 ∧ m_dead (m_it k N) P S
  | 0 => ⟨rfl, hd⟩
  | k + 1 => by
    obtain ⟨a, b⟩ := m_dead_it hN hd k
    obtain ⟨c, d⟩ := m_dead_hour (m_it_ok hN k) b
    exact ⟨c.1.trans a, d⟩
theorem m_stir_dead (hN : m_ok N P S B) (h : m_stir N = false) : m_dead N P S := by
  have hmS := m_S_eq hN
  have hmP := m_P_eq hN
  unfold m_stir at h
  rw [Bool.or_eq_false_iff, Bool.or_eq_false_iff, hmS, hmP] at h
  obtain ⟨⟨hr, hc⟩, hg⟩ := h
  have hc0 : ∀ s, s < S → m_cut N s = 0 := by
    intro s hs
    have h1 : ¬ 0 < m_cut N s := by
      intro h0
      have : m_ex (fun s => decide (0 < m_cut N s)) S = true := (m_ex_iff _ S).mpr ⟨s, hs, decide_eq_true h0⟩
      rw [this] at hc
      cases hc
    have := (m_cut_r hN hs).1
    omega
  have hL : m_L N = N 3 := by unfold m_L; rw [hmS]; exact m_lf_0 hc0
  rw [hL] at hg
  intro s hs
  refine ⟨?_, fun hh => ?_⟩
  · have := hc0 s hs
    unfold m_cut at this
    rw [hr] at this
    split at this
    · next c => exact Or.inl c
    · split at this
      · next c => exact Or.inr (Or.inl c)
      · exact Or.inr (Or.inr this)
  · have h1 : m_ex (fun s => decide (0 ≤ N 6 s ∧ N 3 (N 6 s).toNat = 0)) S = true := (m_ex_iff _ S).mpr ⟨s, hs, decide_eq_true hh.1⟩
    rw [h1, decide_eq_true hh.2] at hg
    cases hg
end nvNoonM
