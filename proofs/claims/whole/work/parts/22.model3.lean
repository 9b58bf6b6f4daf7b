/-! ===== the reference copies; its past ===== -/
set_option maxRecDepth 100000 in
theorem r_bring_24_24 {h : nv_St} {i j n : Nat} (hi : i + n ≤ 171) (hj : j + n ≤ 171) (hov : j ≤ i ∨ i + n ≤ j) : nv_R M_X6_bring [vr 24 0, vi i, vr 24 0, vi j, vi n] h (fun r h' => r = none ∧ (∀ t q, ¬ (t = 24 ∧ q = 0) → h' t q = h t q) ∧ (∀ k, k < n → h' 24 0 (j + k) = h 24 0 (i + k)) ∧ ∀ k, (k < j ∨ j + n ≤ k) → h' 24 0 k = h 24 0 k) := by
  refine nv_R.of rfl rfl (Nat.le_of_ble_eq_true rfl) ?_
  have loop := m_down (n := n) (G := fun p => ∀ (x : Int) (h1 : nv_St), x = p → (∀ t q, ¬ (t = 24 ∧ q = 0) → h1 t q = h t q) → (∀ k, k < p → h1 24 0 (j + k) = h 24 0 (i + k)) → (∀ k, (k < j ∨ j + p ≤ k) → h1 24 0 k = h 24 0 k) → nv_V M_X6_bring 3 [(0, vr 24 0), (1, vi i), (2, vr 24 0), (3, vi j), (4, vi n), (5, vi x)] [] h1 (fun r h' => r = none ∧ (∀ t q, ¬ (t = 24 ∧ q = 0) → h' t q = h t q) ∧ (∀ k, k < n → h' 24 0 (j + k) = h 24 0 (i + k)) ∧ ∀ k, (k < j ∨ j + n ≤ k) → h' 24 0 k = h 24 0 k)) ?_ ?_
  · refine nv_go ok_X6_bring [3] 10 ?_
    exact loop 0 (by omega) _ _ rfl (fun _ _ _ => rfl) (fun k hk => absurd hk (by omega)) (fun _ _ => rfl)
  · intro x h1 hx hf hA hB
    refine nv_go ok_X6_bring [3] 30 ?_
    refine w_ic (by omega) (by omega) (fun c => ?_) (fun c => ?_)
    · exact ⟨rfl, hf, hA, hB⟩
    · exact absurd (by show (n : Int) ≤ x; omega) c
  · intro p hp ih x h1 hx hf hA hB
    have eA : h1 24 0 (i + p) = h 24 0 (i + p) := hB (i + p) (by omega)
    refine nv_go ok_X6_bring [3] 30 ?_
    refine w_ic (by omega) (by omega) (fun c => ?_) (fun c => ?_)
    · exact absurd c (by show ¬ ((n : Int) ≤ x); omega)
    · refine w_ix (i + p) (by omega) (by omega) ?_
      refine w_ix (j + p) (by omega) (by omega) ?_
      refine ih _ _ (by omega) (fun t q hn => ?_) (fun k hk => ?_) (fun k hk => ?_)
      · rw [← hf t q hn]; funext r; unfold nv_up; rw [if_neg]; rintro ⟨rfl, rfl, -⟩; exact hn ⟨rfl, rfl⟩
      · by_cases e : k = p
        · subst e; rw [nv_up_same]; exact eA
        · rw [nv_up_ne (by omega)]; exact hA k (by omega)
      · rw [nv_up_ne (by omega)]; exact hB k (by omega)
set_option maxRecDepth 100000 in
theorem r_bring_24_25 {h : nv_St} {i j n : Nat} (hi : i + n ≤ 171) (hj : j + n ≤ 171) : nv_R M_X6_bring [vr 24 0, vi i, vr 25 0, vi j, vi n] h (fun r h' => r = none ∧ (∀ t q, ¬ (t = 25 ∧ q = 0) → h' t q = h t q) ∧ (∀ k, k < n → h' 25 0 (j + k) = h 24 0 (i + k)) ∧ ∀ k, (k < j ∨ j + n ≤ k) → h' 25 0 k = h 25 0 k) := by
  refine nv_R.of rfl rfl (Nat.le_of_ble_eq_true rfl) ?_
  have loop := m_down (n := n) (G := fun p => ∀ (x : Int) (h1 : nv_St), x = p → (∀ t q, ¬ (t = 25 ∧ q = 0) → h1 t q = h t q) → (∀ k, k < p → h1 25 0 (j + k) = h 24 0 (i + k)) → (∀ k, (k < j ∨ j + p ≤ k) → h1 25 0 k = h 25 0 k) → nv_V M_X6_bring 3 [(0, vr 24 0), (1, vi i), (2, vr 25 0), (3, vi j), (4, vi n), (5, vi x)] [] h1 (fun r h' => r = none ∧ (∀ t q, ¬ (t = 25 ∧ q = 0) → h' t q = h t q) ∧ (∀ k, k < n → h' 25 0 (j + k) = h 24 0 (i + k)) ∧ ∀ k, (k < j ∨ j + n ≤ k) → h' 25 0 k = h 25 0 k)) ?_ ?_
  · refine nv_go ok_X6_bring [3] 10 ?_
    exact loop 0 (by omega) _ _ rfl (fun _ _ _ => rfl) (fun k hk => absurd hk (by omega)) (fun _ _ => rfl)
  · intro x h1 hx hf hA hB
    refine nv_go ok_X6_bring [3] 30 ?_
    refine w_ic (by omega) (by omega) (fun c => ?_) (fun c => ?_)
    · exact ⟨rfl, hf, hA, hB⟩
    · exact absurd (by show (n : Int) ≤ x; omega) c
  · intro p hp ih x h1 hx hf hA hB
    have eA : h1 24 0 (i + p) = h 24 0 (i + p) := by rw [hf 24 0 (by omega)]
    refine nv_go ok_X6_bring [3] 30 ?_
    refine w_ic (by omega) (by omega) (fun c => ?_) (fun c => ?_)
    · exact absurd c (by show ¬ ((n : Int) ≤ x); omega)
    · refine w_ix (i + p) (by omega) (by omega) ?_
      refine w_ix (j + p) (by omega) (by omega) ?_
      refine ih _ _ (by omega) (fun t q hn => ?_) (fun k hk => ?_) (fun k hk => ?_)
      · rw [← hf t q hn]; funext r; unfold nv_up; rw [if_neg]; rintro ⟨rfl, rfl, -⟩; exact hn ⟨rfl, rfl⟩
      · by_cases e : k = p
        · subst e; rw [nv_up_same]; exact eA
        · rw [nv_up_ne (by omega)]; exact hA k (by omega)
      · rw [nv_up_ne (by omega)]; exact hB k (by omega)
set_option maxRecDepth 100000 in
theorem r_bring_24_27 {h : nv_St} {i j n : Nat} (hi : i + n ≤ 171) (hj : j + n ≤ 171) : nv_R M_X6_bring [vr 24 0, vi i, vr 27 0, vi j, vi n] h (fun r h' => r = none ∧ (∀ t q, ¬ (t = 27 ∧ q = 0) → h' t q = h t q) ∧ (∀ k, k < n → h' 27 0 (j + k) = h 24 0 (i + k)) ∧ ∀ k, (k < j ∨ j + n ≤ k) → h' 27 0 k = h 27 0 k) := by
  refine nv_R.of rfl rfl (Nat.le_of_ble_eq_true rfl) ?_
  have loop := m_down (n := n) (G := fun p => ∀ (x : Int) (h1 : nv_St), x = p → (∀ t q, ¬ (t = 27 ∧ q = 0) → h1 t q = h t q) → (∀ k, k < p → h1 27 0 (j + k) = h 24 0 (i + k)) → (∀ k, (k < j ∨ j + p ≤ k) → h1 27 0 k = h 27 0 k) → nv_V M_X6_bring 3 [(0, vr 24 0), (1, vi i), (2, vr 27 0), (3, vi j), (4, vi n), (5, vi x)] [] h1 (fun r h' => r = none ∧ (∀ t q, ¬ (t = 27 ∧ q = 0) → h' t q = h t q) ∧ (∀ k, k < n → h' 27 0 (j + k) = h 24 0 (i + k)) ∧ ∀ k, (k < j ∨ j + n ≤ k) → h' 27 0 k = h 27 0 k)) ?_ ?_
  · refine nv_go ok_X6_bring [3] 10 ?_
    exact loop 0 (by omega) _ _ rfl (fun _ _ _ => rfl) (fun k hk => absurd hk (by omega)) (fun _ _ => rfl)
  · intro x h1 hx hf hA hB
    refine nv_go ok_X6_bring [3] 30 ?_
    refine w_ic (by omega) (by omega) (fun c => ?_) (fun c => ?_)
    · exact ⟨rfl, hf, hA, hB⟩
    · exact absurd (by show (n : Int) ≤ x; omega) c
  · intro p hp ih x h1 hx hf hA hB
    have eA : h1 24 0 (i + p) = h 24 0 (i + p) := by rw [hf 24 0 (by omega)]
    refine nv_go ok_X6_bring [3] 30 ?_
    refine w_ic (by omega) (by omega) (fun c => ?_) (fun c => ?_)
    · exact absurd c (by show ¬ ((n : Int) ≤ x); omega)
    · refine w_ix (i + p) (by omega) (by omega) ?_
      refine w_ix (j + p) (by omega) (by omega) ?_
      refine ih _ _ (by omega) (fun t q hn => ?_) (fun k hk => ?_) (fun k hk => ?_)
      · rw [← hf t q hn]; funext r; unfold nv_up; rw [if_neg]; rintro ⟨rfl, rfl, -⟩; exact hn ⟨rfl, rfl⟩
      · by_cases e : k = p
        · subst e; rw [nv_up_same]; exact eA
        · rw [nv_up_ne (by omega)]; exact hA k (by omega)
      · rw [nv_up_ne (by omega)]; exact hB k (by omega)
set_option maxRecDepth 100000 in
theorem r_bring_27_24 {h : nv_St} {i j n : Nat} (hi : i + n ≤ 171) (hj : j + n ≤ 171) : nv_R M_X6_bring [vr 27 0, vi i, vr 24 0, vi j, vi n] h (fun r h' => r = none ∧ (∀ t q, ¬ (t = 24 ∧ q = 0) → h' t q = h t q) ∧ (∀ k, k < n → h' 24 0 (j + k) = h 27 0 (i + k)) ∧ ∀ k, (k < j ∨ j + n ≤ k) → h' 24 0 k = h 24 0 k) := by
  refine nv_R.of rfl rfl (Nat.le_of_ble_eq_true rfl) ?_
  have loop := m_down (n := n) (G := fun p => ∀ (x : Int) (h1 : nv_St), x = p → (∀ t q, ¬ (t = 24 ∧ q = 0) → h1 t q = h t q) → (∀ k, k < p → h1 24 0 (j + k) = h 27 0 (i + k)) → (∀ k, (k < j ∨ j + p ≤ k) → h1 24 0 k = h 24 0 k) → nv_V M_X6_bring 3 [(0, vr 27 0), (1, vi i), (2, vr 24 0), (3, vi j), (4, vi n), (5, vi x)] [] h1 (fun r h' => r = none ∧ (∀ t q, ¬ (t = 24 ∧ q = 0) → h' t q = h t q) ∧ (∀ k, k < n → h' 24 0 (j + k) = h 27 0 (i + k)) ∧ ∀ k, (k < j ∨ j + n ≤ k) → h' 24 0 k = h 24 0 k)) ?_ ?_
  · refine nv_go ok_X6_bring [3] 10 ?_
    exact loop 0 (by omega) _ _ rfl (fun _ _ _ => rfl) (fun k hk => absurd hk (by omega)) (fun _ _ => rfl)
  · intro x h1 hx hf hA hB
    refine nv_go ok_X6_bring [3] 30 ?_
    refine w_ic (by omega) (by omega) (fun c => ?_) (fun c => ?_)
    · exact ⟨rfl, hf, hA, hB⟩
    · exact absurd (by show (n : Int) ≤ x; omega) c
  · intro p hp ih x h1 hx hf hA hB
    have eA : h1 27 0 (i + p) = h 27 0 (i + p) := by rw [hf 27 0 (by omega)]
    refine nv_go ok_X6_bring [3] 30 ?_
    refine w_ic (by omega) (by omega) (fun c => ?_) (fun c => ?_)
    · exact absurd c (by show ¬ ((n : Int) ≤ x); omega)
    · refine w_ix (i + p) (by omega) (by omega) ?_
      refine w_ix (j + p) (by omega) (by omega) ?_
      refine ih _ _ (by omega) (fun t q hn => ?_) (fun k hk => ?_) (fun k hk => ?_)
      · rw [← hf t q hn]; funext r; unfold nv_up; rw [if_neg]; rintro ⟨rfl, rfl, -⟩; exact hn ⟨rfl, rfl⟩
      · by_cases e : k = p
        · subst e; rw [nv_up_same]; exact eA
        · rw [nv_up_ne (by omega)]; exact hA k (by omega)
      · rw [nv_up_ne (by omega)]; exact hB k (by omega)
set_option maxRecDepth 100000 in
theorem r_bring_26_24 {h : nv_St} {i j n : Nat} (hi : i + n ≤ 171) (hj : j + n ≤ 171) : nv_R M_X6_bring [vr 26 0, vi i, vr 24 0, vi j, vi n] h (fun r h' => r = none ∧ (∀ t q, ¬ (t = 24 ∧ q = 0) → h' t q = h t q) ∧ (∀ k, k < n → h' 24 0 (j + k) = h 26 0 (i + k)) ∧ ∀ k, (k < j ∨ j + n ≤ k) → h' 24 0 k = h 24 0 k) := by
  refine nv_R.of rfl rfl (Nat.le_of_ble_eq_true rfl) ?_
  have loop := m_down (n := n) (G := fun p => ∀ (x : Int) (h1 : nv_St), x = p → (∀ t q, ¬ (t = 24 ∧ q = 0) → h1 t q = h t q) → (∀ k, k < p → h1 24 0 (j + k) = h 26 0 (i + k)) → (∀ k, (k < j ∨ j + p ≤ k) → h1 24 0 k = h 24 0 k) → nv_V M_X6_bring 3 [(0, vr 26 0), (1, vi i), (2, vr 24 0), (3, vi j), (4, vi n), (5, vi x)] [] h1 (fun r h' => r = none ∧ (∀ t q, ¬ (t = 24 ∧ q = 0) → h' t q = h t q) ∧ (∀ k, k < n → h' 24 0 (j + k) = h 26 0 (i + k)) ∧ ∀ k, (k < j ∨ j + n ≤ k) → h' 24 0 k = h 24 0 k)) ?_ ?_
  · refine nv_go ok_X6_bring [3] 10 ?_
    exact loop 0 (by omega) _ _ rfl (fun _ _ _ => rfl) (fun k hk => absurd hk (by omega)) (fun _ _ => rfl)
  · intro x h1 hx hf hA hB
    refine nv_go ok_X6_bring [3] 30 ?_
    refine w_ic (by omega) (by omega) (fun c => ?_) (fun c => ?_)
    · exact ⟨rfl, hf, hA, hB⟩
    · exact absurd (by show (n : Int) ≤ x; omega) c
  · intro p hp ih x h1 hx hf hA hB
    have eA : h1 26 0 (i + p) = h 26 0 (i + p) := by rw [hf 26 0 (by omega)]
    refine nv_go ok_X6_bring [3] 30 ?_
    refine w_ic (by omega) (by omega) (fun c => ?_) (fun c => ?_)
    · exact absurd c (by show ¬ ((n : Int) ≤ x); omega)
    · refine w_ix (i + p) (by omega) (by omega) ?_
      refine w_ix (j + p) (by omega) (by omega) ?_
      refine ih _ _ (by omega) (fun t q hn => ?_) (fun k hk => ?_) (fun k hk => ?_)
      · rw [← hf t q hn]; funext r; unfold nv_up; rw [if_neg]; rintro ⟨rfl, rfl, -⟩; exact hn ⟨rfl, rfl⟩
      · by_cases e : k = p
        · subst e; rw [nv_up_same]; exact eA
        · rw [nv_up_ne (by omega)]; exact hA k (by omega)
      · rw [nv_up_ne (by omega)]; exact hB k (by omega)
set_option maxRecDepth 100000 in
theorem r_bring_25_29 {h : nv_St} {i j n : Nat} (hi : i + n ≤ 171) (hj : j + n ≤ 5) : nv_R M_X6_bring [vr 25 0, vi i, vr 29 0, vi j, vi n] h (fun r h' => r = none ∧ (∀ t q, ¬ (t = 29 ∧ q = 0) → h' t q = h t q) ∧ (∀ k, k < n → h' 29 0 (j + k) = h 25 0 (i + k)) ∧ ∀ k, (k < j ∨ j + n ≤ k) → h' 29 0 k = h 29 0 k) := by
  refine nv_R.of rfl rfl (Nat.le_of_ble_eq_true rfl) ?_
  have loop := m_down (n := n) (G := fun p => ∀ (x : Int) (h1 : nv_St), x = p → (∀ t q, ¬ (t = 29 ∧ q = 0) → h1 t q = h t q) → (∀ k, k < p → h1 29 0 (j + k) = h 25 0 (i + k)) → (∀ k, (k < j ∨ j + p ≤ k) → h1 29 0 k = h 29 0 k) → nv_V M_X6_bring 3 [(0, vr 25 0), (1, vi i), (2, vr 29 0), (3, vi j), (4, vi n), (5, vi x)] [] h1 (fun r h' => r = none ∧ (∀ t q, ¬ (t = 29 ∧ q = 0) → h' t q = h t q) ∧ (∀ k, k < n → h' 29 0 (j + k) = h 25 0 (i + k)) ∧ ∀ k, (k < j ∨ j + n ≤ k) → h' 29 0 k = h 29 0 k)) ?_ ?_
  · refine nv_go ok_X6_bring [3] 10 ?_
    exact loop 0 (by omega) _ _ rfl (fun _ _ _ => rfl) (fun k hk => absurd hk (by omega)) (fun _ _ => rfl)
  · intro x h1 hx hf hA hB
    refine nv_go ok_X6_bring [3] 30 ?_
    refine w_ic (by omega) (by omega) (fun c => ?_) (fun c => ?_)
    · exact ⟨rfl, hf, hA, hB⟩
    · exact absurd (by show (n : Int) ≤ x; omega) c
  · intro p hp ih x h1 hx hf hA hB
    have eA : h1 25 0 (i + p) = h 25 0 (i + p) := by rw [hf 25 0 (by omega)]
    refine nv_go ok_X6_bring [3] 30 ?_
    refine w_ic (by omega) (by omega) (fun c => ?_) (fun c => ?_)
    · exact absurd c (by show ¬ ((n : Int) ≤ x); omega)
    · refine w_ix (i + p) (by omega) (by omega) ?_
      refine w_ix (j + p) (by omega) (by omega) ?_
      refine ih _ _ (by omega) (fun t q hn => ?_) (fun k hk => ?_) (fun k hk => ?_)
      · rw [← hf t q hn]; funext r; unfold nv_up; rw [if_neg]; rintro ⟨rfl, rfl, -⟩; exact hn ⟨rfl, rfl⟩
      · by_cases e : k = p
        · subst e; rw [nv_up_same]; exact eA
        · rw [nv_up_ne (by omega)]; exact hA k (by omega)
      · rw [nv_up_ne (by omega)]; exact hB k (by omega)
/-- a moment in the reference's array -/
def g_m (h : nv_St) (c b : Nat) : m_NN := fun t j => match t with
  | 0 => if j = 2 then h c 0 b else if j = 3 then h c 0 (b + 1) else 0
  | 3 => h c 0 (b + 2 + j)
  | 5 => h c 0 (b + 7 + j)
  | 6 => h c 0 (b + 12 + j)
  | _ => 0
def g_past (h : nv_St) (c P S : Nat) (pl : List m_NN) : Prop := h c 0 34 = pl.length ∧ pl.length ≤ 8 ∧ ∀ k (M : m_NN), pl[k]? = some M → m_eqm P S (g_m h c (35 + 17 * (pl.length - 1 - k))) M
theorem g_past.kept {h h' : nv_St} {c P S : Nat} {pl : List m_NN} (k : g_past h c P S pl) (e : ∀ q, 34 ≤ q → h' c 0 q = h c 0 q) : g_past h' c P S pl := by
  refine ⟨by rw [e 34 (by omega)]; exact k.1, k.2.1, fun i M hM => ?_⟩
  have := k.2.2 i M hM
  obtain ⟨a1, a2, a3, a4⟩ := this
  refine ⟨?_, ?_, fun p hp => ?_, fun s hs => ⟨?_, ?_⟩⟩
  · rw [← a1]; show h' c 0 _ = h c 0 _; exact e _ (by omega)
  · rw [← a2]; show h' c 0 _ = h c 0 _; exact e _ (by omega)
  · rw [← a3 p hp]; show h' c 0 _ = h c 0 _; exact e _ (by omega)
  · rw [← (a4 s hs).1]; show h' c 0 _ = h c 0 _; exact e _ (by omega)
  · rw [← (a4 s hs).2]; show h' c 0 _ = h c 0 _; exact e _ (by omega)
set_option maxRecDepth 100000 in
theorem r_note {h : nv_St} {P S : Nat} {pl : List m_NN} (hP : P ≤ 5) (hS : S ≤ 5) (k : g_past h 24 P S pl) :
    nv_R M_X6_note [vr 19 0] h (fun r h' => r = none ∧ g_past h' 24 P S ((m_mm h 24 :: pl).take 8) ∧ (∀ q, q < 34 → h' 24 0 q = h 24 0 q) ∧ ∀ t i, ¬ (t = 24 ∧ i = 0) → h' t i = h t i) := by
  obtain ⟨a1, a2, a3⟩ := k
  refine nv_R.of rfl rfl (Nat.le_of_ble_eq_true rfl) ?_
  generalize hQ : (fun (r : Option nv_AV) (h' : nv_St) => r = none ∧ g_past h' 24 P S ((m_mm h 24 :: pl).take 8) ∧ (∀ q, q < 34 → h' 24 0 q = h 24 0 q) ∧ ∀ t i, ¬ (t = 24 ∧ i = 0) → h' t i = h t i) = Q
  have h41 : ∀ (h1 : nv_St) (pm : List m_NN), pm.length ≤ 7 → (m_mm h 24 :: pl).take 8 = m_mm h 24 :: pm → g_past h1 24 P S pm → (∀ q, q < 34 → h1 24 0 q = h 24 0 q) → (∀ t i, ¬ (t = 24 ∧ i = 0) → h1 t i = h t i) → nv_V M_X6_note 40 [(0, vr 19 0)] [] h1 Q := by
    intro h1 pm hpm htk ⟨b1, b2, b3⟩ hlo hf
    refine nv_go ok_X6_note [] 60 ?_
    refine w_ix 34 rfl (by omega) ?_
    have e1 : (35 : Int) + 17 * h1 24 0 34 = ((35 + 17 * pm.length : Nat) : Int) := by rw [b1]; omega
    refine w_call (P' := fun r h' => r = none ∧ (∀ t q, ¬ (t = 24 ∧ q = 0) → h' t q = h1 t q) ∧ (∀ k, k < 17 → h' 24 0 (35 + 17 * pm.length + k) = h1 24 0 (0 + k)) ∧ ∀ k, (k < 35 + 17 * pm.length ∨ 35 + 17 * pm.length + 17 ≤ k) → h' 24 0 k = h1 24 0 k) ?_ (fun v h' hv => ?_)
    · have := r_bring_24_24 (h := h1) (i := 0) (j := 35 + 17 * pm.length) (n := 17) (by omega) (by omega) (by omega)
      rw [← e1] at this
      exact this
    obtain ⟨rfl, c1, c2, c3⟩ := hv
    have c34 : h' 24 0 34 = pm.length := by rw [c3 34 (by omega)]; exact b1
    refine w_ix 34 rfl (by omega) ?_
    refine w_ix 34 rfl (by omega) ?_
    show Q none (nv_up h' 24 0 34 (h' 24 0 34 + 1))
    rw [← hQ, htk]
    have u : ∀ q, q ≠ 34 → nv_up h' 24 0 34 (h' 24 0 34 + 1) 24 0 q = h' 24 0 q := fun q hq => nv_up_ne hq
    refine ⟨rfl, ⟨by rw [nv_up_same, c34]; simp, by simp; omega, fun i M hM => ?_⟩, fun q hq => by rw [u q (by omega), c3 q (by omega), hlo q hq], fun t i hn => ?_⟩
    · have hl : (m_mm h 24 :: pm).length - 1 - i = pm.length - i := by simp
      rw [hl]
      cases i with
      | zero =>
        simp at hM
        subst hM
        have g : ∀ q, q < 17 → nv_up h' 24 0 34 (h' 24 0 34 + 1) 24 0 (35 + 17 * (pm.length - 0) + q) = h 24 0 q := by
          intro q hq
          rw [u _ (by omega), Nat.sub_zero, c2 q hq, Nat.zero_add, hlo q (by omega)]
        refine ⟨?_, ?_, fun p hp => ?_, fun s hs => ⟨?_, ?_⟩⟩
        · exact g 0 (by omega)
        · exact g 1 (by omega)
        · show nv_up h' 24 0 34 (h' 24 0 34 + 1) 24 0 (35 + 17 * (pm.length - 0) + 2 + p) = h 24 0 (2 + p)
          rw [Nat.add_assoc]; exact g (2 + p) (by omega)
        · show nv_up h' 24 0 34 (h' 24 0 34 + 1) 24 0 (35 + 17 * (pm.length - 0) + 7 + s) = h 24 0 (7 + s)
          rw [Nat.add_assoc]; exact g (7 + s) (by omega)
        · show nv_up h' 24 0 34 (h' 24 0 34 + 1) 24 0 (35 + 17 * (pm.length - 0) + 12 + s) = h 24 0 (12 + s)
          rw [Nat.add_assoc]; exact g (12 + s) (by omega)
      | succ i =>
        have hM : pm[i]? = some M := by simpa using hM
        have hil := (List.getElem?_eq_some_iff.mp hM).1
        have e : pm.length - (i + 1) = pm.length - 1 - i := by omega
        rw [e]
        obtain ⟨d1, d2, d3, d4⟩ := b3 i M hM
        have g : ∀ q, q < 17 → nv_up h' 24 0 34 (h' 24 0 34 + 1) 24 0 (35 + 17 * (pm.length - 1 - i) + q) = h1 24 0 (35 + 17 * (pm.length - 1 - i) + q) := by
          intro q hq
          rw [u _ (by omega), c3 _ (by omega)]
        refine ⟨?_, ?_, fun p hp => ?_, fun s hs => ⟨?_, ?_⟩⟩
        · rw [← d1]; exact g 0 (by omega)
        · rw [← d2]; exact g 1 (by omega)
        · rw [← d3 p hp]
          show nv_up h' 24 0 34 (h' 24 0 34 + 1) 24 0 (35 + 17 * (pm.length - 1 - i) + 2 + p) = h1 24 0 (35 + 17 * (pm.length - 1 - i) + 2 + p)
          rw [Nat.add_assoc]; exact g (2 + p) (by omega)
        · rw [← (d4 s hs).1]
          show nv_up h' 24 0 34 (h' 24 0 34 + 1) 24 0 (35 + 17 * (pm.length - 1 - i) + 7 + s) = h1 24 0 (35 + 17 * (pm.length - 1 - i) + 7 + s)
          rw [Nat.add_assoc]; exact g (7 + s) (by omega)
        · rw [← (d4 s hs).2]
          show nv_up h' 24 0 34 (h' 24 0 34 + 1) 24 0 (35 + 17 * (pm.length - 1 - i) + 12 + s) = h1 24 0 (35 + 17 * (pm.length - 1 - i) + 12 + s)
          rw [Nat.add_assoc]; exact g (12 + s) (by omega)
    · rw [← hf t i hn, ← c1 t i hn]; funext r; unfold nv_up; rw [if_neg]; rintro ⟨rfl, rfl, -⟩; exact hn ⟨rfl, rfl⟩
  refine nv_go ok_X6_note [40] 60 ?_
  refine w_ix 34 rfl (by omega) ?_
  refine w_ic (by omega) (by omega) (fun c => ?_) (fun c => ?_)
  · have c : h 24 0 34 = 8 := c
    have hl8 : pl.length = 8 := by omega
    refine w_call (r_bring_24_24 (h := h) (i := 52) (j := 35) (n := 119) (by omega) (by omega) (by omega)) (fun v h' hv => ?_)
    obtain ⟨rfl, c1, c2, c3⟩ := hv
    have c34 : h' 24 0 34 = 8 := by rw [c3 34 (by omega)]; exact c
    refine w_ix 34 rfl (by omega) ?_
    refine w_ix 34 rfl (by omega) ?_
    have u : ∀ q, q ≠ 34 → nv_up h' 24 0 34 (h' 24 0 34 - 1) 24 0 q = h' 24 0 q := fun q hq => nv_up_ne hq
    refine h41 _ (pl.take 7) (by simp; omega) (by simp) ⟨by rw [nv_up_same, c34]; simp; omega, by simp; omega, fun i M hM => ?_⟩ (fun q hq => by rw [u q (by omega), c3 q (by omega)]) (fun t i hn => ?_)
    · have hl7 : (pl.take 7).length = 7 := by simp; omega
      have hi7 : i < 7 := by
        have := (List.getElem?_eq_some_iff.mp hM).1
        omega
      have hM : pl[i]? = some M := by
        rw [List.getElem?_take, if_pos hi7] at hM
        exact hM
      rw [hl7]
      obtain ⟨d1, d2, d3, d4⟩ := a3 i M hM
      rw [hl8] at d1 d2 d3 d4
      have g : ∀ q, q < 17 → nv_up h' 24 0 34 (h' 24 0 34 - 1) 24 0 (35 + 17 * (7 - 1 - i) + q) = h 24 0 (35 + 17 * (8 - 1 - i) + q) := by
        intro q hq
        have := c2 (17 * (7 - 1 - i) + q) (by omega)
        rw [u _ (by omega), show 35 + 17 * (7 - 1 - i) + q = 35 + (17 * (7 - 1 - i) + q) by omega, this]
        congr 1
        omega
      refine ⟨?_, ?_, fun p hp => ?_, fun s hs => ⟨?_, ?_⟩⟩
      · rw [← d1]; exact g 0 (by omega)
      · rw [← d2]; exact g 1 (by omega)
      · rw [← d3 p hp]
        show nv_up h' 24 0 34 (h' 24 0 34 - 1) 24 0 (35 + 17 * (7 - 1 - i) + 2 + p) = h 24 0 (35 + 17 * (8 - 1 - i) + 2 + p)
        rw [Nat.add_assoc, g (2 + p) (by omega)]; congr 1; omega
      · rw [← (d4 s hs).1]
        show nv_up h' 24 0 34 (h' 24 0 34 - 1) 24 0 (35 + 17 * (7 - 1 - i) + 7 + s) = h 24 0 (35 + 17 * (8 - 1 - i) + 7 + s)
        rw [Nat.add_assoc, g (7 + s) (by omega)]; congr 1; omega
      · rw [← (d4 s hs).2]
        show nv_up h' 24 0 34 (h' 24 0 34 - 1) 24 0 (35 + 17 * (7 - 1 - i) + 12 + s) = h 24 0 (35 + 17 * (8 - 1 - i) + 12 + s)
        rw [Nat.add_assoc, g (12 + s) (by omega)]; congr 1; omega
    · rw [← c1 t i hn]; funext r; unfold nv_up; rw [if_neg]; rintro ⟨rfl, rfl, -⟩; exact hn ⟨rfl, rfl⟩
  · have c : ¬ h 24 0 34 = 8 := c
    exact h41 h pl (by omega) (by rw [List.take_of_length_le (by simp; omega)]) ⟨a1, a2, a3⟩ (fun _ _ => rfl) (fun _ _ _ => rfl)
set_option maxRecDepth 100000 in
theorem r_begin {h : nv_St} : nv_R M_X6_begin [vr 19 0] h (fun r h' => r = none ∧ (∀ q, q < 34 → h' 25 0 q = h 24 0 q) ∧ ∀ t i, ¬ (t = 25 ∧ i = 0) → h' t i = h t i) := by
  refine nv_R.of rfl rfl (Nat.le_of_ble_eq_true rfl) ?_
  refine nv_go ok_X6_begin [] 60 ?_
  refine w_call (r_bring_24_25 (h := h) (i := 0) (j := 0) (n := 34) (by omega) (by omega)) (fun v h' hv => ?_)
  obtain ⟨rfl, c1, c2, c3⟩ := hv
  refine ⟨rfl, fun q hq => ?_, c1⟩
  have := c2 q hq
  rwa [Nat.zero_add] at this
theorem g_eq {h h' : nv_St} {a b P S : Nat} (hP : P ≤ 5) (hS : S ≤ 5) (k : ∀ q, q < 34 → h' a 0 q = h b 0 q) : m_eq P S (m_mm h' a) (m_mm h b) := by
  refine ⟨fun j hj => ?_, fun p hp => ⟨?_, ?_, ?_⟩, fun s hs => ⟨?_, ?_, ?_⟩⟩
  · have : j = 0 ∨ j = 1 ∨ j = 2 ∨ j = 3 := by omega
    rcases this with rfl | rfl | rfl | rfl
    · exact k 17 (by omega)
    · exact k 28 (by omega)
    · exact k 0 (by omega)
    · exact k 1 (by omega)
  · exact k (18 + p) (by omega)
  · exact k (23 + p) (by omega)
  · exact k (2 + p) (by omega)
  · exact k (29 + s) (by omega)
  · exact k (7 + s) (by omega)
  · exact k (12 + s) (by omega)
set_option maxRecDepth 100000 in
theorem r_goOn {h : nv_St} {P S n : Nat} {B : Int} (hN : m_ok (m_mm h 25) P S B) (hB : B + n < 1073741824) (hn : n < 1000) :
    nv_R M_X6_goOn [vr 19 0, vi n] h (fun r h' => r = none ∧ m_eq P S (m_mm h' 25) (m_it n (m_mm h 25)) ∧ m_frM 25 h h') := by
  refine nv_R.of rfl rfl (Nat.le_of_ble_eq_true rfl) ?_
  have loop := m_down (n := n) (G := fun k => ∀ (j : Int) (h1 : nv_St), j = k → m_eq P S (m_mm h1 25) (m_it k (m_mm h 25)) → m_frM 25 h h1 → nv_V M_X6_goOn 2 [(0, vr 19 0), (1, vi n), (2, vi j)] [] h1 (fun r h' => r = none ∧ m_eq P S (m_mm h' 25) (m_it n (m_mm h 25)) ∧ m_frM 25 h h')) ?_ ?_
  · refine nv_go ok_X6_goOn [2] 10 ?_
    exact loop 0 (by omega) _ _ rfl m_eq.rfl' m_frM.rfl'
  · intro j h1 hj he hf
    refine nv_go ok_X6_goOn [2] 10 ?_
    refine w_ic (by omega) (by omega) (fun c => ?_) (fun c => ?_)
    · exact ⟨rfl, he, hf⟩
    · exact absurd (by show (n : Int) ≤ j; omega) c
  · intro k hk ih j h1 hj he hf
    refine nv_go ok_X6_goOn [2] 10 ?_
    refine w_ic (by omega) (by omega) (fun c => ?_) (fun c => ?_)
    · exact absurd c (by show ¬ ((n : Int) ≤ j); omega)
    · have hok := he.ok (m_it_ok hN k)
      refine w_call (r_hourIn_25 hok (by omega) (hop := 0) (by decide) (by decide)) (fun v h' hv => ?_)
      obtain ⟨rfl, he', -, hf'⟩ := hv
      rw [m_hc_0, m_hourC_cut] at he'
      exact ih _ _ (by omega) (he'.trans' (m_hour_eq he hok)) (hf.trans' hf')
set_option maxRecDepth 100000 in
theorem r_isPlank {h : nv_St} {P : Nat} {v : Int} (hP5 : P ≤ 5) (hP : h 24 0 17 = P) (hv : nv_InR v) : nv_R M_X6_isPlank [vr 19 0, vi v] h (fun r h' => h' = h ∧ r = some (vi (nv_b (decide (0 ≤ v) && decide (v < P))))) := by
  refine nv_R.of rfl rfl (Nat.le_of_ble_eq_true rfl) ?_
  refine nv_go ok_X6_isPlank [] 30 ?_
  refine w_ix 17 rfl (by omega) ?_
  refine w_call (r_in hv (by omega) (by omega)) (fun r h' hr => ?_)
  obtain ⟨rfl, rfl⟩ := hr
  refine And.intro (nv_b01 _) ⟨rfl, ?_⟩
  rw [show decide (v ≤ h' 24 0 17 - 1) = decide (v < (P : Int)) from by rw [hP]; exact decide_eq_decide.mpr (by omega)]
set_option maxRecDepth 100000 in
theorem r_isSawyer {h : nv_St} {S : Nat} {v : Int} (hS5 : S ≤ 5) (hS : h 24 0 28 = S) (hv : nv_InR v) : nv_R M_X6_isSawyer [vr 19 0, vi v] h (fun r h' => h' = h ∧ r = some (vi (nv_b (decide (0 ≤ v) && decide (v < S))))) := by
  refine nv_R.of rfl rfl (Nat.le_of_ble_eq_true rfl) ?_
  refine nv_go ok_X6_isSawyer [] 30 ?_
  refine w_ix 28 rfl (by omega) ?_
  refine w_call (r_in hv (by omega) (by omega)) (fun r h' hr => ?_)
  obtain ⟨rfl, rfl⟩ := hr
  refine And.intro (nv_b01 _) ⟨rfl, ?_⟩
  rw [show decide (v ≤ h' 24 0 28 - 1) = decide (v < (S : Int)) from by rw [hS]; exact decide_eq_decide.mpr (by omega)]
