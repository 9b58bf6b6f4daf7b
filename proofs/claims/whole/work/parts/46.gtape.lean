/-! ===== the reference's tape ===== -/
def g_ts (h : nv_St) (n : Nat) (f : Nat → Int) (k : Nat) : Prop := h 19 0 3 = n ∧ h 19 0 5 = k ∧ (k ≤ n ∧ n ≤ 80) ∧ ∀ q, q < n → h 23 0 q = f q ∧ 32 ≤ f q ∧ f q ≤ 126
def g_fl (h h' : nv_St) : Prop := (∀ t i, ¬ (t = 19 ∧ i = 0) → h' t i = h t i) ∧ ∀ q, ¬ q = 5 → ¬ q = 6 → h' 19 0 q = h 19 0 q
def g_ft (h h' : nv_St) : Prop := (∀ t i, ¬ (t = 19 ∧ i = 0) → ¬ (t = 26 ∧ i = 0) → h' t i = h t i) ∧ ∀ q, ¬ q = 5 → ¬ q = 6 → h' 19 0 q = h 19 0 q
theorem g_fl.rfl' {h : nv_St} : g_fl h h := ⟨fun _ _ _ => rfl, fun _ _ _ => rfl⟩
theorem g_fl.trans' {h h1 h2 : nv_St} (a : g_fl h h1) (b : g_fl h1 h2) : g_fl h h2 := ⟨fun t i x => (b.1 t i x).trans (a.1 t i x), fun q x y => (b.2 q x y).trans (a.2 q x y)⟩
theorem g_fl.t {h h1 : nv_St} (a : g_fl h h1) : g_ft h h1 := ⟨fun t i x _ => a.1 t i x, a.2⟩
theorem g_ft.rfl' {h : nv_St} : g_ft h h := g_fl.rfl'.t
theorem g_ft.trans' {h h1 h2 : nv_St} (a : g_ft h h1) (b : g_ft h1 h2) : g_ft h h2 := ⟨fun t i x y => (b.1 t i x y).trans (a.1 t i x y), fun q x y => (b.2 q x y).trans (a.2 q x y)⟩
theorem g_fl.up {h h1 : nv_St} (a : g_fl h h1) {j : Nat} {x : Int} (hj : j = 5 ∨ j = 6) : g_fl h (nv_up h1 19 0 j x) := by
  refine ⟨fun t i hx => ?_, fun q x1 x2 => by rw [nv_up_ne (by omega)]; exact a.2 q x1 x2⟩
  rw [← a.1 t i hx]
  funext q
  unfold nv_up
  rw [if_neg (fun z => hx ⟨z.1, z.2.1⟩)]
theorem g_ft.r {h h1 h2 : nv_St} (a : g_ft h h1) (b : ∀ t i, ¬ (t = 26 ∧ i = 0) → h2 t i = h1 t i) : g_ft h h2 := ⟨fun t i x y => (b t i y).trans (a.1 t i x y), fun q x y => by rw [b 19 0 (by omega)]; exact a.2 q x y⟩
theorem g_ts.up {h : nv_St} {n k : Nat} {f : Nat → Int} (T : g_ts h n f k) {x : Int} {k' : Nat} (hx : x = k') (hk : k' ≤ n) : g_ts (nv_up h 19 0 5 x) n f k' := by
  obtain ⟨a, b, c, d⟩ := T
  exact ⟨by rw [nv_up_ne (by omega)]; exact a, by rw [nv_up_same]; exact hx, ⟨hk, c.2⟩, fun q hq => by rw [show nv_up h 19 0 5 x 23 0 q = h 23 0 q by simp [nv_up]]; exact d q hq⟩
theorem g_ts.num {h : nv_St} {n k : Nat} {f : Nat → Int} (T : g_ts h n f k) {x : Int} : g_ts (nv_up h 19 0 6 x) n f k := by
  obtain ⟨a, b, c, d⟩ := T
  exact ⟨by rw [nv_up_ne (by omega)]; exact a, by rw [nv_up_ne (by omega)]; exact b, c, fun q hq => by rw [show nv_up h 19 0 6 x 23 0 q = h 23 0 q by simp [nv_up]]; exact d q hq⟩
theorem g_ts.r {h h1 : nv_St} {n k : Nat} {f : Nat → Int} (T : g_ts h n f k) (hf : ∀ t i, ¬ (t = 26 ∧ i = 0) → h1 t i = h t i) : g_ts h1 n f k := by
  obtain ⟨a, b, c, d⟩ := T
  exact ⟨by rw [hf 19 0 (by omega)]; exact a, by rw [hf 19 0 (by omega)]; exact b, c, fun q hq => by rw [hf 23 0 (by omega)]; exact d q hq⟩
theorem g_x_r {h : nv_St} {n k k' : Nat} {f : Nat → Int} (T : g_ts h n f k') : 0 ≤ t_x n f k ∧ t_x n f k ≤ 126 := by
  unfold t_x
  split
  · next q => have := (T.2.2.2 _ q).2; omega
  · omega
theorem nv_up26 {h : nv_St} {j : Nat} {x : Int} : ∀ t i, ¬ (t = 26 ∧ i = 0) → nv_up h 26 0 j x t i = h t i := by
  intro t i hn
  funext q
  unfold nv_up
  rw [if_neg (fun z => hn ⟨z.1, z.2.1⟩)]
def g_aP (h h' : nv_St) (P : Nat) (x y z : Int) : Prop := h' 26 0 (18 + P) = x ∧ h' 26 0 (23 + P) = y ∧ h' 26 0 (2 + P) = z ∧ h' 26 0 17 = P + 1 ∧ ∀ q, ¬ q = 18 + P → ¬ q = 23 + P → ¬ q = 2 + P → ¬ q = 17 → h' 26 0 q = h 26 0 q
def g_aS (h h' : nv_St) (P : Nat) (x y z : Int) : Prop := h' 26 0 (29 + P) = x ∧ h' 26 0 (7 + P) = y ∧ h' 26 0 (12 + P) = z ∧ h' 26 0 28 = P + 1 ∧ ∀ q, ¬ q = 29 + P → ¬ q = 7 + P → ¬ q = 12 + P → ¬ q = 28 → h' 26 0 q = h 26 0 q
theorem g_aP.eq {h h' : nv_St} {P S : Nat} {x y z : Int} (k : g_aP h h' P x y z) (hP : h 26 0 17 = P) (hP5 : P < 5) (hS5 : S ≤ 5) : m_eq (P + 1) S (m_mm h' 26) (m_addP (m_mm h 26) x y z) := by
  obtain ⟨a1, a2, a3, a4, a5⟩ := k
  have hm : m_P (m_mm h 26) = P := by
    unfold m_P
    show (h 26 0 17).toNat = P
    omega
  refine ⟨fun j hj => ?_, fun p hp => ?_, fun s hs => ⟨?_, ?_, ?_⟩⟩
  · have : j = 0 ∨ j = 1 ∨ j = 2 ∨ j = 3 := by omega
    rcases this with rfl | rfl | rfl | rfl
    · show h' 26 0 17 = h 26 0 17 + 1; omega
    · exact a5 28 (by omega) (by omega) (by omega) (by omega)
    · exact a5 0 (by omega) (by omega) (by omega) (by omega)
    · exact a5 1 (by omega) (by omega) (by omega) (by omega)
  · show h' 26 0 (18 + p) = (if p = m_P (m_mm h 26) then x else h 26 0 (18 + p)) ∧ h' 26 0 (23 + p) = (if p = m_P (m_mm h 26) then y else h 26 0 (23 + p)) ∧ h' 26 0 (2 + p) = (if p = m_P (m_mm h 26) then z else h 26 0 (2 + p))
    rw [hm]
    by_cases e : p = P
    · rw [if_pos e, if_pos e, if_pos e, e]; exact ⟨a1, a2, a3⟩
    · rw [if_neg e, if_neg e, if_neg e]
      exact ⟨a5 _ (by omega) (by omega) (by omega) (by omega), a5 _ (by omega) (by omega) (by omega) (by omega), a5 _ (by omega) (by omega) (by omega) (by omega)⟩
  · exact a5 (29 + s) (by omega) (by omega) (by omega) (by omega)
  · exact a5 (7 + s) (by omega) (by omega) (by omega) (by omega)
  · exact a5 (12 + s) (by omega) (by omega) (by omega) (by omega)
theorem g_aS.eq {h h' : nv_St} {P S : Nat} {x y z : Int} (k : g_aS h h' S x y z) (hS : h 26 0 28 = S) (hS5 : S < 5) (hP5 : P ≤ 5) : m_eq P (S + 1) (m_mm h' 26) (m_addS (m_mm h 26) x y z) := by
  obtain ⟨a1, a2, a3, a4, a5⟩ := k
  have hm : m_S (m_mm h 26) = S := by
    unfold m_S
    show (h 26 0 28).toNat = S
    omega
  refine ⟨fun j hj => ?_, fun p hp => ⟨?_, ?_, ?_⟩, fun s hs => ?_⟩
  · have : j = 0 ∨ j = 1 ∨ j = 2 ∨ j = 3 := by omega
    rcases this with rfl | rfl | rfl | rfl
    · exact a5 17 (by omega) (by omega) (by omega) (by omega)
    · show h' 26 0 28 = h 26 0 28 + 1; omega
    · exact a5 0 (by omega) (by omega) (by omega) (by omega)
    · exact a5 1 (by omega) (by omega) (by omega) (by omega)
  · exact a5 (18 + p) (by omega) (by omega) (by omega) (by omega)
  · exact a5 (23 + p) (by omega) (by omega) (by omega) (by omega)
  · exact a5 (2 + p) (by omega) (by omega) (by omega) (by omega)
  · show h' 26 0 (29 + s) = (if s = m_S (m_mm h 26) then x else h 26 0 (29 + s)) ∧ h' 26 0 (7 + s) = (if s = m_S (m_mm h 26) then y else h 26 0 (7 + s)) ∧ h' 26 0 (12 + s) = (if s = m_S (m_mm h 26) then z else h 26 0 (12 + s))
    rw [hm]
    by_cases e : s = S
    · rw [if_pos e, if_pos e, if_pos e, e]; exact ⟨a1, a2, a3⟩
    · rw [if_neg e, if_neg e, if_neg e]
      exact ⟨a5 _ (by omega) (by omega) (by omega) (by omega), a5 _ (by omega) (by omega) (by omega) (by omega), a5 _ (by omega) (by omega) (by omega) (by omega)⟩
section nvTg
variable {h : nv_St} {n k : Nat} {f : Nat → Int}
set_option maxRecDepth 100000 in
theorem r_peek (T : g_ts h n f k) : nv_R M_X6_peek [vr 19 0] h (fun r h' => g_ts h' n f (t_s n f k) ∧ g_fl h h' ∧ r = some (vi (t_x n f k))) := by
  have hx0 := g_x_r (k := k) T
  refine nv_R.of rfl rfl (Nat.le_of_ble_eq_true rfl) ?_
  have key : ∀ (h1 : nv_St) (k1 : Nat), g_ts h1 n f k1 → g_fl h h1 → t_s n f k1 = t_s n f k → t_s n f k1 = k1 → nv_V M_X6_peek 38 [(0, vr 19 0)] [] h1 (fun r h' => g_ts h' n f (t_s n f k) ∧ g_fl h h' ∧ r = some (vi (t_x n f k))) := by
    intro h1 k1 T1 hf e1 e2
    obtain ⟨a, b, c, d⟩ := id T1
    have ex : (if k1 < n then f k1 else 0) = t_x n f k := by unfold t_x; rw [← e1, e2]
    refine nv_go ok_X6_peek [] 30 ?_
    by_cases hkn : k1 < n
    · have dk := d k1 hkn
      refine w_ic (by omega) (by omega) (fun q => absurd q (by show ¬ h1 19 0 3 ≤ h1 19 0 5; omega)) (fun _ => ?_)
      refine w_ix k1 b (by omega) ?_
      exact ⟨by rw [← e1, e2]; exact T1, hf, by rw [dk.1, ← ex, if_pos hkn]⟩
    · refine w_ic (by omega) (by omega) (fun _ => ?_) (fun q => absurd (by show h1 19 0 3 ≤ h1 19 0 5; omega) q)
      exact ⟨by rw [← e1, e2]; exact T1, hf, by rw [← ex, if_neg hkn]⟩
  have loop := m_down (n := n) (G := fun k1 => ∀ (h1 : nv_St), g_ts h1 n f k1 → g_fl h h1 → t_s n f k1 = t_s n f k → nv_V M_X6_peek 0 [(0, vr 19 0)] [] h1 (fun r h' => g_ts h' n f (t_s n f k) ∧ g_fl h h' ∧ r = some (vi (t_x n f k)))) ?_ ?_
  · exact loop k T.2.2.1.1 h T g_fl.rfl' rfl
  · intro h1 T1 hf e1
    obtain ⟨a, b, c, d⟩ := id T1
    refine nv_go ok_X6_peek [38] 30 ?_
    refine w_ic (by omega) (by omega) (fun _ => ?_) (fun q => absurd (by show h1 19 0 3 ≤ h1 19 0 5; omega) q)
    exact key h1 n T1 hf e1 (by rw [t_s_eq, if_neg (by omega)])
  · intro k1 hk1 ih h1 T1 hf e1
    obtain ⟨a, b, c, d⟩ := id T1
    have dk := d k1 hk1
    refine nv_go ok_X6_peek [38, 0] 30 ?_
    refine w_ic (by omega) (by omega) (fun q => absurd q (by show ¬ h1 19 0 3 ≤ h1 19 0 5; omega)) (fun _ => ?_)
    refine w_ix k1 b (by omega) ?_
    refine w_ic (by omega) (by omega) (fun q => ?_) (fun q => ?_)
    · have q : h1 23 0 k1 = 32 := q
      refine ih _ (T1.up (by rw [b]; omega) hk1) (hf.up (by omega)) ?_
      rw [← e1, t_s_eq n f k1, if_pos ⟨hk1, by rw [← dk.1]; exact q⟩]
    · have q : ¬ h1 23 0 k1 = 32 := q
      exact key h1 k1 T1 hf e1 (by rw [t_s_eq, if_neg (fun z => q (by rw [dk.1]; exact z.2))])
set_option maxRecDepth 100000 in
theorem r_isSign (T : g_ts h n f k) {c : Int} (hc : 33 ≤ c ∧ c ≤ 126) : nv_R M_X6_isSign [vr 19 0, vi c] h (fun r h' => g_ts h' n f (t_take n f c k).2 ∧ g_fl h h' ∧ r = some (vi (nv_b (t_take n f c k).1))) := by
  have hx0 := g_x_r (k := k) T
  have hle := t_take_le (n := n) (f := f) (c := c) (k := k) (by omega) T.2.2.1.1
  refine nv_R.of rfl rfl (Nat.le_of_ble_eq_true rfl) ?_
  refine nv_go ok_X6_isSign [] 30 ?_
  refine w_call (r_peek T) (fun r h1 hr => ?_)
  obtain ⟨T1, hf, rfl⟩ := hr
  refine w_ic (by omega) (by omega) (fun q => ?_) (fun q => ?_)
  · have q : t_x n f k = c := q
    have e : t_take n f c k = (true, t_s n f k + 1) := by unfold t_take; rw [if_pos q]
    rw [e] at hle ⊢
    refine And.intro (Or.inr rfl) ⟨T1.up (by rw [T1.2.1]; show _ = ((t_s n f k + 1 : Nat) : Int); omega) hle, hf.up (by omega), rfl⟩
  · have q : ¬ t_x n f k = c := q
    have e : t_take n f c k = (false, t_s n f k) := by unfold t_take; rw [if_neg q]
    rw [e]
    exact And.intro (Or.inl rfl) ⟨T1, hf, rfl⟩
set_option maxRecDepth 100000 in
theorem r_isDigit (T : g_ts h n f k) {hi : Int} (hh : -1 ≤ hi ∧ hi ≤ 9) : nv_R M_X6_isDigit [vr 19 0, vi 0, vi hi] h (fun r h' => g_ts h' n f (t_dig n f hi k).2 ∧ g_fl h h' ∧ r = some (vi (nv_b (t_dig n f hi k).1.isSome)) ∧ ∀ v, (t_dig n f hi k).1 = some v → h' 19 0 6 = v) := by
  have hx0 := g_x_r (k := k) T
  have hle := t_dig_le (n := n) (f := f) (hi := hi) (k := k) T.2.2.1.1
  refine nv_R.of rfl rfl (Nat.le_of_ble_eq_true rfl) ?_
  refine nv_go ok_X6_isDigit [] 30 ?_
  refine w_call (r_peek T) (fun r h1 hr => ?_)
  obtain ⟨T1, hf, rfl⟩ := hr
  have u6 : nv_up h1 19 0 6 (t_x n f k - 48) 19 0 6 = t_x n f k - 48 := nv_up_same _ _ _ _ _
  refine w_call (P' := fun r h' => h' = nv_up h1 19 0 6 (t_x n f k - 48) ∧ r = some (vi (nv_b (!a_out (t_x n f k - 48) 0 hi)))) (by show nv_R M_X6_in [vi (nv_up h1 19 0 6 (t_x n f k - 48) 19 0 6), vi 0, vi hi] _ _; rw [u6]; exact r_inA (by omega) (by omega) (by omega)) (fun r h2 hr => ?_)
  obtain ⟨rfl, rfl⟩ := hr
  refine w_ifb (fun c => ?_) (fun c => ?_)
  · have c := bn_f c
    have e : t_dig n f hi k = (none, t_s n f k) := by
      unfold t_dig
      rw [if_neg]
      intro z
      unfold a_out at c
      rw [decide_eq_false (show ¬ t_x n f k - 48 < 0 by omega), decide_eq_false (show ¬ hi < t_x n f k - 48 by omega)] at c
      exact absurd c (by decide)
    rw [e]
    exact And.intro (Or.inl rfl) ⟨T1.num, hf.up (by omega), rfl, fun v hv => by cases hv⟩
  · have c := a_out_f (bn_t c)
    have e : t_dig n f hi k = (some (t_x n f k - 48), t_s n f k + 1) := by unfold t_dig; rw [if_pos (by omega)]
    rw [e] at hle ⊢
    refine And.intro (Or.inr rfl) ⟨T1.num.up (by rw [T1.num.2.1]; show _ = ((t_s n f k + 1 : Nat) : Int); omega) hle, (hf.up (by omega)).up (by omega), rfl, fun v hv => ?_⟩
    rw [nv_up_ne (by omega), u6]
    cases hv
    rfl
set_option maxHeartbeats 1000000 in
set_option maxRecDepth 100000 in
theorem r_isNumber (T : g_ts h n f k) {lo hi : Int} (hl : 0 ≤ lo ∧ lo ≤ 99) (hh : 0 ≤ hi ∧ hi ≤ 99) : nv_R M_X6_isNumber [vr 19 0, vi lo, vi hi] h (fun r h' => g_ts h' n f (t_num n f lo hi k).2 ∧ g_fl h h' ∧ r = some (vi (nv_b (t_numR n f lo hi k).1.isSome)) ∧ ∀ v, (t_numR n f lo hi k).1 = some v → h' 19 0 6 = v) := by
  have hx0 := g_x_r (k := k) T
  have hle := t_num_le (n := n) (f := f) (lo := lo) (hi := hi) (k := k) T.2.2.1.1
  generalize hQ : (fun (r : Option nv_AV) (h' : nv_St) => g_ts h' n f (t_num n f lo hi k).2 ∧ g_fl h h' ∧ r = some (vi (nv_b (t_numR n f lo hi k).1.isSome)) ∧ ∀ v, (t_numR n f lo hi k).1 = some v → h' 19 0 6 = v) = Q
  refine nv_R.of rfl rfl (Nat.le_of_ble_eq_true rfl) ?_
  refine nv_go ok_X6_isNumber [85] 70 ?_
  refine w_call (r_isDigit T (hi := 9) (by omega)) (fun r h1 hr => ?_)
  obtain ⟨T1, hf, rfl, hv1⟩ := hr
  by_cases hd : 48 ≤ t_x n f k ∧ t_x n f k ≤ 57
  · have ed : t_dig n f 9 k = (some (t_x n f k - 48), t_s n f k + 1) := by unfold t_dig; rw [if_pos (by omega)]
    have hn6 : h1 19 0 6 = t_x n f k - 48 := hv1 _ (by rw [ed])
    rw [ed] at T1 ⊢
    have T1 : g_ts h1 n f (t_s n f k + 1) := T1
    have hsn : t_s n f k < n := t_x_lt (by omega)
    refine w_if (by show nv_InR 1; omega) (fun q => absurd (show (1 : Int) = 0 from q) (by decide)) (fun _ => ?_)
    have j85 : ∀ (y v : Int) (h5 : nv_St), y = t_s n f k → v = t_nv n f k → g_ts h5 n f (t_nk n f k) → g_fl h h5 → nv_V M_X6_isNumber 85 [(0, vr 19 0), (1, vi lo), (2, vi hi), (3, vi y), (4, vi v)] [] h5 Q := by
      intro y v h5 hy hv T5 hf5
      have hvr : 0 ≤ v ∧ v ≤ 999 := by
        rw [hv]
        unfold t_nv
        split
        · next q => have := (t_dg_s q).2.2; omega
        · omega
      have T6 : g_ts (nv_up h5 19 0 6 v) n f (t_nk n f k) := T5.num
      have hf6 : g_fl h (nv_up h5 19 0 6 v) := hf5.up (by omega)
      have u6 : nv_up h5 19 0 6 v 19 0 6 = v := nv_up_same _ _ _ _ _
      refine nv_go ok_X6_isNumber [] 40 ?_
      refine w_call (r_inA (by omega) (by omega) (by omega)) (fun r h6 hr => ?_)
      obtain ⟨rfl, rfl⟩ := hr
      refine w_ifb (fun c => ?_) (fun c => ?_)
      · have c := bn_f c
        have e : t_num n f lo hi k = (none, t_s n f k) := by
          unfold t_num
          rw [if_neg (fun z => z hd), if_neg]
          intro z
          unfold a_out at c
          rw [decide_eq_false (show ¬ v < lo by omega), decide_eq_false (show ¬ hi < v by omega)] at c
          exact absurd c (by decide)
        have eR : t_numR n f lo hi k = (none, t_s n f k) := by unfold t_numR; rw [e, if_neg (fun z => absurd (show false = true from z.1) (by decide))]
        rw [← hQ, eR, e]
        exact And.intro (Or.inl rfl) ⟨T6.up hy (by omega), hf6.up (by omega), rfl, fun v hv => by cases hv⟩
      · have c := a_out_f (bn_t c)
        rw [hv] at c
        have e : t_num n f lo hi k = (some (t_nv n f k), t_nk n f k) := by unfold t_num; rw [if_neg (fun z => z hd), if_pos c]
        have yes : t_dg n f (t_nk n f k) = false → Q (some (vi 1)) (nv_up h5 19 0 6 v) := by
          intro hdg
          have eR : t_numR n f lo hi k = (some (t_nv n f k), t_nk n f k) := by unfold t_numR; rw [e, if_neg (fun z => absurd (hdg.symm.trans z.2) (by decide))]
          rw [← hQ, eR, e]
          exact ⟨T6, hf6, rfl, fun w hw => by cases hw; rw [u6]; exact hv⟩
        by_cases hkn : t_nk n f k < n
        · have dk := T6.2.2.2 _ hkn
          refine w_ic (by have := T6.1; have := T6.2.1; have := T6.2.2.1; omega) (by have := T6.1; have := T6.2.2.1; omega) (fun q => ?_) (fun _ => ?_)
          · have q : nv_up h5 19 0 6 v 19 0 5 = nv_up h5 19 0 6 v 19 0 3 := q
            have := T6.1; have := T6.2.1
            omega
          · refine w_ix (t_nk n f k) T6.2.1 (by have := T6.2.2.1; omega) ?_
            refine w_call (r_inA (by omega) (by omega) (by omega)) (fun r h7 hr => ?_)
            obtain ⟨rfl, rfl⟩ := hr
            refine w_ifb (fun c2 => ?_) (fun c2 => ?_)
            · have c2 := bn_f c2
              refine And.intro (Or.inr rfl) (yes (decide_eq_false ?_))
              rintro ⟨-, z⟩
              rw [dk.1] at c2
              unfold a_out at c2
              rw [decide_eq_false (show ¬ f (t_nk n f k) < 48 by omega), decide_eq_false (show ¬ 57 < f (t_nk n f k) by omega)] at c2
              exact absurd c2 (by decide)
            · have c2 := a_out_f (bn_t c2)
              rw [dk.1] at c2
              have hdg : t_dg n f (t_nk n f k) = true := decide_eq_true ⟨hkn, c2⟩
              have eR : t_numR n f lo hi k = (none, t_nk n f k) := by unfold t_numR; rw [e, if_pos ⟨rfl, hdg⟩]
              rw [← hQ, eR, e]
              exact And.intro (Or.inl rfl) ⟨T6, hf6, rfl, fun w hw => by cases hw⟩
        · have hle2 := T6.2.2.1.1
          refine w_ic (by have := T6.1; have := T6.2.1; have := T6.2.2.1; omega) (by have := T6.1; have := T6.2.2.1; omega) (fun _ => ?_) (fun q => ?_)
          · exact And.intro (Or.inr rfl) (yes (decide_eq_false (fun z => hkn z.1)))
          · exact absurd (by show nv_up h5 19 0 6 v 19 0 5 = nv_up h5 19 0 6 v 19 0 3; have := T6.1; have := T6.2.1; omega) q
    have b5 : h1 19 0 5 = ((t_s n f k + 1 : Nat) : Int) := T1.2.1
    have b3 : h1 19 0 3 = (n : Int) := T1.1
    have c80 := T1.2.2.1
    have no : t_dg n f (t_s n f k + 1) = false → nv_V M_X6_isNumber 85 [(0, vr 19 0), (1, vi lo), (2, vi hi), (3, vi (h1 19 0 5 - 1)), (4, vi (h1 19 0 6))] [] h1 Q := by
      intro hdg
      refine j85 _ _ _ (by omega) ?_ ?_ hf
      · unfold t_nv
        rw [hdg, if_neg (by decide)]
        exact hn6
      · have : t_nk n f k = t_s n f k + 1 := by unfold t_nk; rw [hdg, if_neg (by decide)]
        rw [this]
        exact T1
    by_cases hkn : t_s n f k + 1 < n
    · have dk := T1.2.2.2 _ hkn
      refine w_ic (by omega) (by omega) (fun q => absurd q (by show ¬ h1 19 0 3 ≤ h1 19 0 5; omega)) (fun _ => ?_)
      refine w_ix (t_s n f k + 1) b5 (by omega) ?_
      refine w_call (r_inA (by omega) (by omega) (by omega)) (fun r h7 hr => ?_)
      obtain ⟨rfl, rfl⟩ := hr
      refine w_ifb (fun c2 => ?_) (fun c2 => ?_)
      · have c2 := bn_f c2
        refine no (decide_eq_false ?_)
        rintro ⟨-, z⟩
        rw [dk.1] at c2
        unfold a_out at c2
        rw [decide_eq_false (show ¬ f (t_s n f k + 1) < 48 by omega), decide_eq_false (show ¬ 57 < f (t_s n f k + 1) by omega)] at c2
        exact absurd c2 (by decide)
      · have c2 := a_out_f (bn_t c2)
        rw [dk.1] at c2
        have hdg : t_dg n f (t_s n f k + 1) = true := decide_eq_true ⟨hkn, c2⟩
        refine w_ix (t_s n f k + 1) b5 (by omega) ?_
        have j85' := j85 (h7 19 0 5 - 1) (10 * h7 19 0 6 + h7 23 0 (t_s n f k + 1) - 48) (nv_up h7 19 0 5 (h7 19 0 5 + 1)) (by omega) ?_ ?_ (hf.up (by omega))
        · exact j85'
        · unfold t_nv
          rw [hdg, if_pos rfl, hn6, dk.1]
          omega
        · have : t_nk n f k = t_s n f k + 2 := by unfold t_nk; rw [hdg, if_pos rfl]
          rw [this]
          exact T1.up (by omega) (by omega)
    · refine w_ic (by omega) (by omega) (fun _ => ?_) (fun q => absurd (by show h1 19 0 3 ≤ h1 19 0 5; omega) q)
      exact no (decide_eq_false (fun z => hkn z.1))
  · have ed : t_dig n f 9 k = (none, t_s n f k) := by unfold t_dig; rw [if_neg (fun z => hd z.1)]
    rw [ed] at T1 ⊢
    refine w_if (by show nv_InR 0; omega) (fun _ => ?_) (fun q => absurd rfl q)
    have e : t_num n f lo hi k = (none, t_s n f k) := by unfold t_num; rw [if_pos hd]
    have eR : t_numR n f lo hi k = (none, t_s n f k) := by unfold t_numR; rw [e, if_neg (fun z => absurd (show false = true from z.1) (by decide))]
    rw [← hQ, eR, e]
    exact And.intro (Or.inl rfl) ⟨T1, hf, rfl, fun v hv => by cases hv⟩
set_option maxRecDepth 100000 in
theorem r_kindBy {c : Int} (hc : 0 ≤ c ∧ c ≤ 126) : nv_R M_X6_kindBy [vi c] h (fun r h' => h' = h ∧ r = some (vi (t_kind c))) := by
  refine nv_R.of rfl rfl (Nat.le_of_ble_eq_true rfl) ?_
  refine nv_go ok_X6_kindBy [] 40 ?_
  unfold t_kind
  refine w_ic (by omega) (by omega) (fun q => ⟨rfl, by rw [if_pos (show c = 112 from q)]⟩) (fun q => ?_)
  refine w_ic (by omega) (by omega) (fun q2 => ⟨rfl, by rw [if_neg (show ¬ c = 112 from q), if_pos (show c = 111 from q2)]⟩) (fun q2 => ?_)
  refine w_ic (by omega) (by omega) (fun q3 => ⟨rfl, by rw [if_neg (show ¬ c = 112 from q), if_neg (show ¬ c = 111 from q2), if_pos (show c = 103 from q3)]⟩) (fun q3 => ?_)
  refine w_ic (by omega) (by omega) (fun q4 => ⟨rfl, by rw [if_neg (show ¬ c = 112 from q), if_neg (show ¬ c = 111 from q2), if_neg (show ¬ c = 103 from q3), if_pos (show c = 104 from q4)]⟩) (fun q4 => ?_)
  refine w_ic (by omega) (by omega) (fun q5 => ⟨rfl, by rw [if_neg (show ¬ c = 112 from q), if_neg (show ¬ c = 111 from q2), if_neg (show ¬ c = 103 from q3), if_neg (show ¬ c = 104 from q4), if_pos (show c = 115 from q5)]⟩) (fun q5 => ?_)
  exact ⟨rfl, by rw [if_neg (show ¬ c = 112 from q), if_neg (show ¬ c = 111 from q2), if_neg (show ¬ c = 103 from q3), if_neg (show ¬ c = 104 from q4), if_neg (show ¬ c = 115 from q5)]⟩
def g_pQ (h : nv_St) (n : Nat) (f : Nat → Int) (P k : Nat) : nv_PT := fun r h' => ∃ (b : Bool) (k' : Nat), r = some (vi (nv_b b)) ∧ g_ts h' n f k' ∧ g_ft h h' ∧ ((t_pI n f k = (none, k') ∧ b = false) ∨ ∃ x, t_pI n f k = (some x, k') ∧ b = true ∧ g_aP h h' P x.1 x.2.1 x.2.2)
set_option maxHeartbeats 1000000 in
set_option maxRecDepth 100000 in
theorem r_isPlankItem (T : g_ts h n f k) {P : Nat} (hP : h 26 0 17 = P) (hP5 : P < 5) : nv_R M_X6_isPlankItem [vr 19 0] h (g_pQ h n f P k) := by
  refine nv_R.of rfl rfl (Nat.le_of_ble_eq_true rfl) ?_
  refine nv_go ok_X6_isPlankItem [59] 60 ?_
  refine w_call (r_isNumber T (lo := 1) (hi := 99) (by omega) (by omega)) (fun r h1 hr => ?_)
  obtain ⟨T1, hf1, rfl, hv1⟩ := hr
  cases h1e : (t_numR n f 1 99 k).1 with
  | none =>
    refine w_if (by show nv_InR 0; omega) (fun _ => ?_) (fun q => absurd rfl q)
    exact And.intro (Or.inl rfl) ⟨false, _, rfl, T1, hf1.t, Or.inl ⟨t_pI_1 h1e, rfl⟩⟩
  | some t =>
    have hr := t_num_r (t_numR_1 h1e).1
    have n6 : h1 19 0 6 = t := hv1 t h1e
    refine w_if (by show nv_InR 1; omega) (fun q => absurd (show (1 : Int) = 0 from q) (by decide)) (fun _ => ?_)
    generalize hk1 : (t_num n f 1 99 k).2 = k1 at T1
    have hP1 : h1 26 0 17 = P := by rw [hf1.1 26 0 (by omega)]; exact hP
    refine w_call (r_addPlankM_26 (P := P) hP1 hP5) (fun r h2 hr => ?_)
    obtain ⟨rfl, x1, x2, x3, x4, x5, x6⟩ := hr
    have T2 : g_ts h2 n f k1 := T1.r x6
    have hf2 : g_ft h h2 := hf1.t.r x6
    have x5' : ∀ q, ¬ q = 18 + P → ¬ q = 23 + P → ¬ q = 2 + P → ¬ q = 17 → h2 26 0 q = h 26 0 q := fun q q1 q2 q3 q4 => by rw [x5 q q1 q2 q3 q4, hf1.1 26 0 (by omega)]
    rw [n6] at x1 x3
    -- the knots being told
    have j59 : ∀ (kn : Int) (h3 : nv_St) (k3 : Nat), g_ts h3 n f k3 → g_ft h h3 → (t_p2 n f t k1).1 = some kn → (t_p2 n f t k1).2 = k3 → g_aP h h3 P t kn t → nv_V M_X6_isPlankItem 59 [(0, vr 19 0), (1, vi P)] [] h3 (g_pQ h n f P k) := by
      intro kn h3 k3 T3 hf3 h2e hk3 hA
      obtain ⟨y1, y2, y3, y4, y5⟩ := id hA
      have h2' : (t_p2 n f t (t_num n f 1 99 k).2).1 = some kn := by rw [hk1]; exact h2e
      have hp3e : t_p3 n f t (t_p2 n f t (t_num n f 1 99 k).2).2 = t_p3 n f t k3 := by rw [hk1, hk3]
      refine nv_go ok_X6_isPlankItem [] 60 ?_
      refine w_call (r_isSign T3 (c := 45) (by omega)) (fun r h4 hr => ?_)
      obtain ⟨T4, hf4, rfl⟩ := hr
      refine w_ifb (fun c => ?_) (fun c => ?_)
      · have e3 : t_p3 n f t k3 = (some 0, (t_take n f 45 k3).2) := by unfold t_p3; rw [c, if_neg (by decide)]
        have ep := t_pI_4 h1e h2' (by rw [hp3e, e3])
        rw [hp3e, e3] at ep
        refine And.intro (Or.inr rfl) ⟨true, _, rfl, T4, hf3.trans' hf4.t, Or.inr ⟨_, ep, rfl, ?_⟩⟩
        unfold g_aP
        rw [hf4.1 26 0 (by omega)]
        exact ⟨y1, y2, by show h3 26 0 (2 + P) = t - 0; omega, y4, y5⟩
      · have e3 : t_p3 n f t k3 = t_numR n f 0 t (t_take n f 45 k3).2 := by unfold t_p3; rw [c, if_pos rfl]
        have e18 : h4 26 0 (18 + P) = t := by rw [hf4.1 26 0 (by omega)]; exact y1
        have e2 : h4 26 0 (2 + P) = t := by rw [hf4.1 26 0 (by omega)]; exact y3
        refine w_ix (18 + P) (by omega) (by omega) ?_
        refine w_call (P' := fun r h' => g_ts h' n f (t_num n f 0 t (t_take n f 45 k3).2).2 ∧ g_fl h4 h' ∧ r = some (vi (nv_b (t_numR n f 0 t (t_take n f 45 k3).2).1.isSome)) ∧ ∀ v, (t_numR n f 0 t (t_take n f 45 k3).2).1 = some v → h' 19 0 6 = v) (by rw [e18]; exact r_isNumber T4 (by omega) (by omega)) (fun r h5 hr => ?_)
        obtain ⟨T5, hf5, rfl, hv5⟩ := hr
        have hf6 : g_ft h h5 := hf3.trans' (hf4.t.trans' hf5.t)
        cases h5e : (t_numR n f 0 t (t_take n f 45 k3).2).1 with
        | none =>
          refine w_if (by show nv_InR 0; omega) (fun _ => ?_) (fun q => absurd rfl q)
          have ep := t_pI_3 h1e h2' (by rw [hp3e, e3]; exact h5e)
          rw [hp3e, e3, t_numR_2] at ep
          exact And.intro (Or.inl rfl) ⟨false, _, rfl, T5, hf6, Or.inl ⟨ep, rfl⟩⟩
        | some ct =>
          have n65 : h5 19 0 6 = ct := hv5 ct h5e
          refine w_if (by show nv_InR 1; omega) (fun q => absurd (show (1 : Int) = 0 from q) (by decide)) (fun _ => ?_)
          have ep := t_pI_4 h1e h2' (by rw [hp3e, e3]; exact h5e)
          rw [hp3e, e3, t_numR_2] at ep
          have e25 : h5 26 0 (2 + P) = t := by rw [hf5.1 26 0 (by omega)]; exact e2
          refine w_ix (2 + P) (by omega) (by omega) ?_
          refine w_ix (2 + P) (by omega) (by omega) ?_
          refine And.intro (Or.inr rfl) ⟨true, _, rfl, T5.r nv_up26, hf6.r nv_up26, Or.inr ⟨_, ep, rfl, ?_⟩⟩
          have e5 : h5 26 0 = h3 26 0 := by rw [hf5.1 26 0 (by omega), hf4.1 26 0 (by omega)]
          refine ⟨?_, ?_, ?_, ?_, fun q q1 q2 q3 q4 => ?_⟩
          · rw [nv_up_ne (by omega), e5]; exact y1
          · rw [nv_up_ne (by omega), e5]; exact y2
          · rw [nv_up_same, e25, n65]
          · rw [nv_up_ne (by omega), e5]; exact y4
          · rw [nv_up_ne q3, e5]; exact y5 q q1 q2 q3 q4
    refine w_call (r_isSign T2 (c := 37) (by omega)) (fun r h3 hr => ?_)
    obtain ⟨T3, hf3, rfl⟩ := hr
    have hf4 : g_ft h h3 := hf2.trans' hf3.t
    refine w_ifb (fun c => ?_) (fun c => ?_)
    · have e2 : t_p2 n f t k1 = (some 0, (t_take n f 37 k1).2) := by unfold t_p2; rw [c, if_neg (by decide)]
      refine j59 0 h3 _ T3 hf4 (by rw [e2]) (by rw [e2]) ?_
      unfold g_aP
      rw [hf3.1 26 0 (by omega)]
      exact ⟨x1, x2, x3, x4, x5'⟩
    · have e2 : t_p2 n f t k1 = t_dig n f 9 (t_take n f 37 k1).2 := by unfold t_p2; rw [c, if_pos rfl]
      refine w_call (r_isDigit T3 (hi := 9) (by omega)) (fun r h5 hr => ?_)
      obtain ⟨T5, hf5, rfl, hv5⟩ := hr
      have hf6 : g_ft h h5 := hf4.trans' hf5.t
      cases h5e : (t_dig n f 9 (t_take n f 37 k1).2).1 with
      | none =>
        refine w_if (by show nv_InR 0; omega) (fun _ => ?_) (fun q => absurd rfl q)
        have ep := t_pI_2 h1e (by rw [hk1, e2]; exact h5e)
        rw [hk1, e2] at ep
        exact And.intro (Or.inl rfl) ⟨false, _, rfl, T5, hf6, Or.inl ⟨ep, rfl⟩⟩
      | some kn =>
        have n65 : h5 19 0 6 = kn := hv5 kn h5e
        refine w_if (by show nv_InR 1; omega) (fun q => absurd (show (1 : Int) = 0 from q) (by decide)) (fun _ => ?_)
        refine w_ix (23 + P) (by omega) (by omega) ?_
        rw [n65]
        have e5 : h5 26 0 = h2 26 0 := by rw [hf5.1 26 0 (by omega), hf3.1 26 0 (by omega)]
        refine j59 kn _ _ (T5.r nv_up26) (hf6.r nv_up26) (by rw [e2]; exact h5e) (by rw [e2]) ⟨?_, ?_, ?_, ?_, fun q q1 q2 q3 q4 => ?_⟩
        · rw [nv_up_ne (by omega), e5]; exact x1
        · rw [nv_up_same]
        · rw [nv_up_ne (by omega), e5]; exact x3
        · rw [nv_up_ne (by omega), e5]; exact x4
        · rw [nv_up_ne q2, e5]; exact x5' q q1 q2 q3 q4
def g_wQ (h : nv_St) (n : Nat) (f : Nat → Int) (P S k : Nat) : nv_PT := fun r h' => ∃ (b : Bool) (k' : Nat), r = some (vi (nv_b b)) ∧ g_ts h' n f k' ∧ g_ft h h' ∧ ((t_wI n f P k = (none, k') ∧ b = false) ∨ ∃ x, t_wI n f P k = (some x, k') ∧ b = true ∧ g_aS h h' S x.1 x.2.1 x.2.2)
set_option maxHeartbeats 1000000 in
set_option maxRecDepth 100000 in
theorem r_isSawyerItem (T : g_ts h n f k) {P S : Nat} (hP : h 26 0 17 = P) (hP5 : P ≤ 5) (hS : h 26 0 28 = S) (hS5 : S < 5) : nv_R M_X6_isSawyerItem [vr 19 0] h (g_wQ h n f P S k) := by
  have hx0 := g_x_r (k := k) T
  have hkr := t_kind_r (t_x n f k)
  refine nv_R.of rfl rfl (Nat.le_of_ble_eq_true rfl) ?_
  refine nv_go ok_X6_isSawyerItem [] 80 ?_
  refine w_call (r_peek T) (fun r h1 hr => ?_)
  obtain ⟨T1, hf1, rfl⟩ := hr
  refine w_call (r_kindBy hx0) (fun r h2 hr => ?_)
  obtain ⟨rfl, rfl⟩ := hr
  refine w_if (by omega) (fun q => ?_) (fun q => ?_)
  · have q : 0 ≤ t_kind (t_x n f k) := q
    have h0 : ¬ t_kind (t_x n f k) < 0 := by omega
    have hsn : t_s n f k < n := t_x_lt (hkr.2 (by omega))
    have T2 : g_ts (nv_up h2 19 0 5 (h2 19 0 5 + 1)) n f (t_s n f k + 1) := T1.up (by rw [T1.2.1]; omega) (by omega)
    have hf2 : g_fl h (nv_up h2 19 0 5 (h2 19 0 5 + 1)) := hf1.up (by omega)
    refine w_call (r_isDigit T2 (hi := 9) (by omega)) (fun r h3 hr => ?_)
    obtain ⟨T3, hf3, rfl, hv3⟩ := hr
    cases h3e : (t_dig n f 9 (t_s n f k + 1)).1 with
    | none =>
      refine w_if (by show nv_InR 0; omega) (fun _ => ?_) (fun q => absurd rfl q)
      exact And.intro (Or.inl rfl) ⟨false, _, rfl, T3, (hf2.trans' hf3).t, Or.inl ⟨t_wI_2 h0 h3e, rfl⟩⟩
    | some te =>
      have n6 : h3 19 0 6 = te := hv3 te h3e
      have hf4 : g_fl h h3 := hf2.trans' hf3
      have hS3 : h3 26 0 28 = S := by rw [hf4.1 26 0 (by omega)]; exact hS
      refine w_if (by show nv_InR 1; omega) (fun q => absurd (show (1 : Int) = 0 from q) (by decide)) (fun _ => ?_)
      refine w_call (r_addSawyerM_26 (P := S) hS3 hS5) (fun r h4 hr => ?_)
      obtain ⟨rfl, x1, x2, x3, x4, x5, x6⟩ := hr
      rw [n6] at x2
      have T4 := T3.r x6
      have hf5 : g_ft h h4 := hf4.t.r x6
      have x5' : ∀ q, ¬ q = 29 + S → ¬ q = 7 + S → ¬ q = 12 + S → ¬ q = 28 → h4 26 0 q = h 26 0 q := fun q q1 q2 q3 q4 => by rw [x5 q q1 q2 q3 q4, hf4.1 26 0 (by omega)]
      refine w_call (r_isSign T4 (c := 64) (by omega)) (fun r h5 hr => ?_)
      obtain ⟨T5, hf6, rfl⟩ := hr
      have hf7 : g_ft h h5 := hf5.trans' hf6.t
      have e5 : h5 26 0 = h4 26 0 := hf6.1 26 0 (by omega)
      refine w_ifb (fun c => ?_) (fun c => ?_)
      · have e3 : t_w3 n f P (t_dig n f 9 (t_s n f k + 1)).2 = (some (-4), (t_take n f 64 (t_dig n f 9 (t_s n f k + 1)).2).2) := by unfold t_w3; rw [c, if_neg (by decide)]
        have ew := t_wI_4 (P := P) h0 h3e (by rw [e3])
        rw [e3] at ew
        refine And.intro (Or.inr rfl) ⟨true, _, rfl, T5, hf7, Or.inr ⟨_, ew, rfl, ?_⟩⟩
        unfold g_aS
        rw [e5]
        exact ⟨x1, x2, x3, x4, x5'⟩
      · have e3 : t_w3 n f P (t_dig n f 9 (t_s n f k + 1)).2 = t_dig n f ((P : Int) - 1) (t_take n f 64 (t_dig n f 9 (t_s n f k + 1)).2).2 := by unfold t_w3; rw [c, if_pos rfl]
        have hP5' : h5 26 0 17 = P := by rw [e5, x5' 17 (by omega) (by omega) (by omega) (by omega)]; exact hP
        refine w_ix 17 rfl (by omega) ?_
        refine w_call (P' := fun r h' => g_ts h' n f (t_dig n f ((P : Int) - 1) (t_take n f 64 (t_dig n f 9 (t_s n f k + 1)).2).2).2 ∧ g_fl h5 h' ∧ r = some (vi (nv_b (t_dig n f ((P : Int) - 1) (t_take n f 64 (t_dig n f 9 (t_s n f k + 1)).2).2).1.isSome)) ∧ ∀ v, (t_dig n f ((P : Int) - 1) (t_take n f 64 (t_dig n f 9 (t_s n f k + 1)).2).2).1 = some v → h' 19 0 6 = v) (by rw [hP5']; exact r_isDigit T5 (by omega)) (fun r h6 hr => ?_)
        obtain ⟨T6, hf8, rfl, hv6⟩ := hr
        have hf9 : g_ft h h6 := hf7.trans' hf8.t
        have e6 : h6 26 0 = h4 26 0 := (hf8.1 26 0 (by omega)).trans e5
        cases h6e : (t_dig n f ((P : Int) - 1) (t_take n f 64 (t_dig n f 9 (t_s n f k + 1)).2).2).1 with
        | none =>
          have ew := t_wI_3 (P := P) h0 h3e (by rw [e3]; exact h6e)
          rw [e3] at ew
          refine w_if (by show nv_InR 0; omega) (fun _ => ?_) (fun q => absurd rfl q)
          exact And.intro (Or.inl rfl) ⟨false, _, rfl, T6, hf9, Or.inl ⟨ew, rfl⟩⟩
        | some se =>
          have n66 : h6 19 0 6 = se := hv6 se h6e
          have ew := t_wI_4 (P := P) h0 h3e (by rw [e3]; exact h6e)
          rw [e3] at ew
          refine w_if (by show nv_InR 1; omega) (fun q => absurd (show (1 : Int) = 0 from q) (by decide)) (fun _ => ?_)
          refine w_ix (12 + S) (by omega) (by omega) ?_
          refine And.intro (Or.inr rfl) ⟨true, _, rfl, T6.r nv_up26, hf9.r nv_up26, Or.inr ⟨_, ew, rfl, ?_⟩⟩
          refine ⟨?_, ?_, ?_, ?_, fun q q1 q2 q3 q4 => ?_⟩
          · rw [nv_up_ne (by omega), e6]; exact x1
          · rw [nv_up_ne (by omega), e6]; exact x2
          · rw [nv_up_same]; exact n66
          · rw [nv_up_ne (by omega), e6]; exact x4
          · rw [nv_up_ne q3, e6]; exact x5' q q1 q2 q3 q4
  · have q : ¬ 0 ≤ t_kind (t_x n f k) := q
    exact And.intro (Or.inl rfl) ⟨false, _, rfl, T1, hf1.t, Or.inl ⟨t_wI_1 (by omega), rfl⟩⟩
def g_nQ (h : nv_St) (n : Nat) (f : Nat → Int) (d : Int) : nv_PT := fun r h' => ∃ (b : Bool) (k' : Nat), r = some (vi (nv_b b)) ∧ g_ts h' n f k' ∧ g_ft h h' ∧ ((t_all n f = (none, k') ∧ b = false) ∨ ∃ ps ss, t_all n f = (some (ps, ss), k') ∧ b = true ∧ (ps.length ≤ 5 ∧ ss.length ≤ 5) ∧ (∀ x ∈ ps, t_okP x) ∧ (∀ x ∈ ss, t_okS ps.length x) ∧ m_eq ps.length ss.length (m_mm h' 26) (m_bld d ps ss) ∧ h' 26 0 34 = h 26 0 34)
set_option maxHeartbeats 1000000 in
set_option maxRecDepth 100000 in
theorem r_isNoon (T : g_ts h n f 0) {d : Int} (he : m_eq 0 0 (m_mm h 26) (m_bld d [] [])) : nv_R M_X6_isNoon [vr 19 0] h (g_nQ h n f d) := by
  refine nv_R.of rfl rfl (Nat.le_of_ble_eq_true rfl) ?_
  have j93 : ∀ (z : Int) (h5 : nv_St) (k5 : Nat) (ps ss : List y_T), g_ts h5 n f k5 → g_ft h h5 → (ps.length ≤ 5 ∧ ss.length ≤ 5) → (∀ x ∈ ps, t_okP x) → (∀ x ∈ ss, t_okS ps.length x) → m_eq ps.length ss.length (m_mm h5 26) (m_bld d ps ss) → h5 26 0 34 = h 26 0 34 → t_all n f = t_end n f ps ss k5 → nv_V M_X6_isNoon 93 [(0, vr 19 0), (1, vi z)] [] h5 (g_nQ h n f d) := by
    intro z h5 k5 ps ss T5 hf5 hl hp hs he5 h34 e
    have hx0 := g_x_r (k := k5) T5
    refine nv_go ok_X6_isNoon [] 40 ?_
    refine w_call (r_peek T5) (fun r h6 hr => ?_)
    obtain ⟨T6, hf6, rfl⟩ := hr
    have e6 : h6 26 0 = h5 26 0 := hf6.1 26 0 (by omega)
    refine w_if (by omega) (fun q => ?_) (fun q => ?_)
    · have q : t_x n f k5 = 0 := q
      have e2 : t_all n f = (some (ps, ss), t_s n f k5) := by rw [e]; unfold t_end; rw [if_pos q]
      exact And.intro (Or.inr rfl) ⟨true, _, rfl, T6, hf5.trans' hf6.t, Or.inr ⟨ps, ss, e2, rfl, hl, hp, hs, by rw [m_mm_ext e6]; exact he5, by rw [e6]; exact h34⟩⟩
    · have q : ¬ t_x n f k5 = 0 := q
      exact And.intro (Or.inl rfl) ⟨false, _, rfl, T6, hf5.trans' hf6.t, Or.inl ⟨by rw [e]; unfold t_end; rw [if_neg q], rfl⟩⟩
  -- the sawyers
  have j51 : ∀ (ps : List y_T) (k0 : Nat), ps.length ≤ 5 → (∀ x ∈ ps, t_okP x) → (∀ kk, t_wss n f ps.length 5 k0 [] = (none, kk) → t_all n f = (none, kk)) → (∀ ss kk, t_wss n f ps.length 5 k0 [] = (some ss, kk) → t_all n f = t_end n f ps ss kk) → ∀ p, p ≤ 5 → p < 5 → ∀ (h1 : nv_St) (k : Nat) (ss : List y_T), g_ts h1 n f k → g_ft h h1 → ss.length = p → m_eq ps.length p (m_mm h1 26) (m_bld d ps ss) → (∀ x ∈ ss, t_okS ps.length x) → h1 26 0 34 = h 26 0 34 → t_wss n f ps.length 5 k0 [] = t_wss n f ps.length (5 - p) k ss → nv_V M_X6_isNoon 51 [(0, vr 19 0), (1, vi 1)] [] h1 (g_nQ h n f d) := by
    intro ps k0 hps5 hpok hA1 hA2
    refine m_down ?_ ?_
    · intro hp
      omega
    · intro p hp ih _ h1 k ss T1 hf hl he1 hok h34 hps
      have hP1 : h1 26 0 17 = ps.length := he1.1 0 (by omega)
      have hS1 : h1 26 0 28 = p := by
        have : h1 26 0 28 = (ss.length : Int) := he1.1 1 (by omega)
        omega
      have e5 : 5 - p = (5 - (p + 1)) + 1 := by omega
      rw [e5] at hps
      refine nv_go ok_X6_isNoon [51, 89] 40 ?_
      refine w_if (by omega) (fun q => absurd q (by decide)) (fun _ => ?_)
      refine w_call (r_isSawyerItem T1 hP1 hps5 hS1 (by omega)) (fun r h2 hr => ?_)
      obtain ⟨b, k2, rfl, T2, hf2, alt⟩ := hr
      have hf3 : g_ft h h2 := hf.trans' hf2
      refine w_ifb (fun c => ?_) (fun c => ?_)
      · rcases alt with ⟨a1, a2⟩ | ⟨x, a1, a2, a3⟩
        · refine And.intro (Or.inl rfl) ⟨false, k2, rfl, T2, hf3, Or.inl ⟨hA1 _ ?_, rfl⟩⟩
          rw [hps]
          unfold t_wss
          simp only [a1]
        · rw [a2] at c; exact absurd c (by decide)
      · rcases alt with ⟨a1, a2⟩ | ⟨x, a1, a2, a3⟩
        · rw [a2] at c; exact absurd c (by decide)
        · have hokx : t_okS ps.length x := t_wI_ok (n := n) (f := f) (k := k) (by rw [a1])
          have hok2 : ∀ y ∈ ss ++ [x], t_okS ps.length y := fun y hy => by
            rcases List.mem_append.mp hy with hy | hy
            · exact hok y hy
            · rw [List.mem_singleton] at hy; rw [hy]; exact hokx
          have hl2 : (ss ++ [x]).length = p + 1 := by simp [hl]
          have he2 : m_eq ps.length (p + 1) (m_mm h2 26) (m_bld d ps (ss ++ [x])) := by
            refine (a3.eq hS1 hp hps5).trans' ?_
            have := m_bld_S (x := x) (N := m_mm h1 26) (d := d) (ps := ps) (ss := ss) (P := ps.length) (by rw [hl]; exact he1)
            rw [hl] at this
            exact this
          have e28 : h2 26 0 28 = (p : Int) + 1 := a3.2.2.2.1
          have h342 : h2 26 0 34 = h 26 0 34 := by rw [a3.2.2.2.2 34 (by omega) (by omega) (by omega) (by omega)]; exact h34
          have j89n : ∀ (h4 : nv_St) (k4 : Nat), g_ts h4 n f k4 → g_fl h2 h4 → t_wss n f ps.length 5 k0 [] = (some (ss ++ [x]), k4) → nv_V M_X6_isNoon 89 [(0, vr 19 0), (1, vi 1)] [vi 0] h4 (g_nQ h n f d) := by
            intro h4 k4 T4 hf4 eN
            refine nv_go ok_X6_isNoon [93] 40 ?_
            refine w_if (by omega) (fun _ => ?_) (fun q => absurd rfl q)
            exact j93 _ h4 k4 ps (ss ++ [x]) T4 (hf3.trans' hf4.t) ⟨hps5, by omega⟩ hpok hok2 (by rw [m_mm_ext (hf4.1 26 0 (by omega)), hl2]; exact he2) (by rw [hf4.1 26 0 (by omega)]; exact h342) (hA2 _ _ eN)
          refine w_ix 28 rfl (by omega) ?_
          refine w_ic (by omega) (by omega) (fun q => ?_) (fun q => ?_)
          · have q : 5 ≤ h2 26 0 28 := q
            refine j89n h2 k2 T2 g_fl.rfl' ?_
            rw [hps]
            unfold t_wss
            simp only [a1]
            rw [if_pos (by omega)]
          · have q : ¬ 5 ≤ h2 26 0 28 := q
            refine w_call (r_isSign T2 (c := 44) (by omega)) (fun r h4 hr => ?_)
            obtain ⟨T4, hf4, rfl⟩ := hr
            have hps2 : t_wss n f ps.length 5 k0 [] = if (t_take n f 44 k2).1 = true then t_wss n f ps.length (5 - (p + 1)) (t_take n f 44 k2).2 (ss ++ [x]) else (some (ss ++ [x]), (t_take n f 44 k2).2) := by
              rw [hps]
              conv => lhs; unfold t_wss
              simp only [a1]
              rw [if_neg (by omega)]
            refine w_ifb (fun c2 => ?_) (fun c2 => ?_)
            · rw [c2, if_neg (by decide)] at hps2
              exact j89n h4 _ T4 hf4 hps2
            · rw [c2, if_pos rfl] at hps2
              refine nv_go ok_X6_isNoon [51] 10 ?_
              exact ih (by omega) h4 _ _ T4 (hf3.trans' hf4.t) hl2 (by rw [m_mm_ext (hf4.1 26 0 (by omega))]; exact he2) hok2 (by rw [hf4.1 26 0 (by omega)]; exact h342) hps2
  -- behind the planks
  have j44 : ∀ (z : Int) (h1 : nv_St) (k : Nat) (ps : List y_T), g_ts h1 n f k → g_ft h h1 → ps.length ≤ 5 → m_eq ps.length 0 (m_mm h1 26) (m_bld d ps []) → (∀ x ∈ ps, t_okP x) → h1 26 0 34 = h 26 0 34 → t_ps n f 5 0 [] = (some ps, k) → nv_V M_X6_isNoon 44 [(0, vr 19 0), (1, vi z)] [] h1 (g_nQ h n f d) := by
    intro z h1 k ps T1 hf hl he1 hok h34 hps
    refine nv_go ok_X6_isNoon [51] 40 ?_
    refine w_call (r_isSign T1 (c := 59) (by omega)) (fun r h2 hr => ?_)
    obtain ⟨T2, hf2, rfl⟩ := hr
    have he2 : m_eq ps.length 0 (m_mm h2 26) (m_bld d ps []) := by rw [m_mm_ext (hf2.1 26 0 (by omega))]; exact he1
    have h342 : h2 26 0 34 = h 26 0 34 := by rw [hf2.1 26 0 (by omega)]; exact h34
    cases c : (t_take n f 59 k).1 with
    | false =>
      refine nv_go ok_X6_isNoon [93] 40 ?_
      refine w_if (by show nv_InR 0; omega) (fun _ => ?_) (fun q => absurd rfl q)
      refine j93 _ h2 _ ps [] T2 (hf.trans' hf2.t) ⟨hl, by simp⟩ hok (fun x hx => by cases hx) he2 h342 ?_
      unfold t_all
      simp only [hps]
      rw [c, if_neg (by decide)]
    | true =>
      refine j51 ps (t_take n f 59 k).2 hl hok (fun kk hkk => ?_) (fun ss kk hkk => ?_) 0 (by omega) (by omega) h2 _ [] T2 (hf.trans' hf2.t) rfl he2 (fun x hx => by cases hx) h342 rfl
      · unfold t_all
        simp only [hps]
        rw [c, if_pos rfl]
        simp only [hkk]
      · unfold t_all
        simp only [hps]
        rw [c, if_pos rfl]
        simp only [hkk]
  have loop := m_down (n := 5) (G := fun p => p < 5 → ∀ (h1 : nv_St) (k : Nat) (ps : List y_T), g_ts h1 n f k → g_ft h h1 → ps.length = p → m_eq p 0 (m_mm h1 26) (m_bld d ps []) → (∀ x ∈ ps, t_okP x) → h1 26 0 34 = h 26 0 34 → t_ps n f 5 0 [] = t_ps n f (5 - p) k ps → nv_V M_X6_isNoon 2 [(0, vr 19 0), (1, vi 1)] [] h1 (g_nQ h n f d)) ?_ ?_
  · refine nv_go ok_X6_isNoon [2] 20 ?_
    exact loop 0 (by omega) (by omega) h 0 [] T g_ft.rfl' rfl he (fun x hx => by cases hx) rfl rfl
  · intro hp
    omega
  · intro p hp ih _ h1 k ps T1 hf hl he1 hok h34 hps
    have hP1 : h1 26 0 17 = p := by
      have : h1 26 0 17 = (ps.length : Int) := he1.1 0 (by omega)
      omega
    have e5 : 5 - p = (5 - (p + 1)) + 1 := by omega
    rw [e5] at hps
    refine nv_go ok_X6_isNoon [2, 40] 40 ?_
    refine w_if (by omega) (fun q => absurd q (by decide)) (fun _ => ?_)
    refine w_call (r_isPlankItem T1 hP1 (by omega)) (fun r h2 hr => ?_)
    obtain ⟨b, k2, rfl, T2, hf2, alt⟩ := hr
    have hf3 : g_ft h h2 := hf.trans' hf2
    refine w_ifb (fun c => ?_) (fun c => ?_)
    · rcases alt with ⟨a1, a2⟩ | ⟨x, a1, a2, a3⟩
      · refine And.intro (Or.inl rfl) ⟨false, k2, rfl, T2, hf3, Or.inl ⟨?_, rfl⟩⟩
        have eN : t_ps n f 5 0 [] = (none, k2) := by
          rw [hps]
          unfold t_ps
          simp only [a1]
        unfold t_all
        simp only [eN]
      · rw [a2] at c; exact absurd c (by decide)
    · rcases alt with ⟨a1, a2⟩ | ⟨x, a1, a2, a3⟩
      · rw [a2] at c; exact absurd c (by decide)
      · have hokx : t_okP x := t_pI_ok (by rw [a1])
        have hok2 : ∀ y ∈ ps ++ [x], t_okP y := fun y hy => by
          rcases List.mem_append.mp hy with hy | hy
          · exact hok y hy
          · rw [List.mem_singleton] at hy; rw [hy]; exact hokx
        have hl2 : (ps ++ [x]).length = p + 1 := by simp [hl]
        have he2 : m_eq (p + 1) 0 (m_mm h2 26) (m_bld d (ps ++ [x]) []) := by
          refine (a3.eq hP1 hp (by omega)).trans' ?_
          have := m_bld_P (x := x) (N := m_mm h1 26) (d := d) (ps := ps) (ss := []) (S := 0) (by rw [hl]; exact he1)
          rw [hl] at this
          exact this
        have e17 : h2 26 0 17 = (p : Int) + 1 := a3.2.2.2.1
        have h342 : h2 26 0 34 = h 26 0 34 := by rw [a3.2.2.2.2 34 (by omega) (by omega) (by omega) (by omega)]; exact h34
        have j40n : ∀ (h4 : nv_St) (k4 : Nat), g_ts h4 n f k4 → g_fl h2 h4 → t_ps n f 5 0 [] = (some (ps ++ [x]), k4) → nv_V M_X6_isNoon 40 [(0, vr 19 0), (1, vi 1)] [vi 0] h4 (g_nQ h n f d) := by
          intro h4 k4 T4 hf4 eN
          refine nv_go ok_X6_isNoon [44] 40 ?_
          refine w_if (by omega) (fun _ => ?_) (fun q => absurd rfl q)
          exact j44 _ h4 k4 (ps ++ [x]) T4 (hf3.trans' hf4.t) (by omega) (by rw [m_mm_ext (hf4.1 26 0 (by omega)), hl2]; exact he2) hok2 (by rw [hf4.1 26 0 (by omega)]; exact h342) eN
        refine w_ix 17 rfl (by omega) ?_
        refine w_ic (by omega) (by omega) (fun q => ?_) (fun q => ?_)
        · have q : 5 ≤ h2 26 0 17 := q
          refine j40n h2 k2 T2 g_fl.rfl' ?_
          rw [hps]
          unfold t_ps
          simp only [a1]
          rw [if_pos (by omega)]
        · have q : ¬ 5 ≤ h2 26 0 17 := q
          refine w_call (r_isSign T2 (c := 44) (by omega)) (fun r h4 hr => ?_)
          obtain ⟨T4, hf4, rfl⟩ := hr
          have hps2 : t_ps n f 5 0 [] = if (t_take n f 44 k2).1 = true then t_ps n f (5 - (p + 1)) (t_take n f 44 k2).2 (ps ++ [x]) else (some (ps ++ [x]), (t_take n f 44 k2).2) := by
            rw [hps]
            conv => lhs; unfold t_ps
            simp only [a1]
            rw [if_neg (by omega)]
          refine w_ifb (fun c2 => ?_) (fun c2 => ?_)
          · rw [c2, if_neg (by decide)] at hps2
            exact j40n h4 _ T4 hf4 hps2
          · rw [c2, if_pos rfl] at hps2
            refine nv_go ok_X6_isNoon [2] 10 ?_
            exact ih (by omega) h4 _ _ T4 (hf3.trans' hf4.t) hl2 (by rw [m_mm_ext (hf4.1 26 0 (by omega))]; exact he2) hok2 (by rw [hf4.1 26 0 (by omega)]; exact h342) hps2
end nvTg
