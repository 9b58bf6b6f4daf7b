/-! ===== the class's tape ===== -/
def c_ts (h : nv_St) (n : Nat) (f : Nat → Int) (k : Nat) : Prop := h 13 0 1 = n ∧ h 13 0 2 = k ∧ (k ≤ n ∧ n ≤ 80) ∧ ∀ q, q < n → h 14 0 q = f q ∧ 32 ≤ f q ∧ f q ≤ 126
def c_fl (h h' : nv_St) : Prop := ∀ t i, ¬ (t = 13 ∧ i = 0) → h' t i = h t i
def c_ft (h h' : nv_St) : Prop := ∀ t i, ¬ (t = 13 ∧ i = 0) → ¬ (t < 8 ∧ i = 1) → h' t i = h t i
theorem c_fl.rfl' {h : nv_St} : c_fl h h := fun _ _ _ => rfl
theorem c_fl.trans' {h h1 h2 : nv_St} (a : c_fl h h1) (b : c_fl h1 h2) : c_fl h h2 := fun t i x => (b t i x).trans (a t i x)
theorem c_fl.t {h h1 : nv_St} (a : c_fl h h1) : c_ft h h1 := fun t i x _ => a t i x
theorem c_ft.rfl' {h : nv_St} : c_ft h h := fun _ _ _ _ => rfl
theorem c_ft.trans' {h h1 h2 : nv_St} (a : c_ft h h1) (b : c_ft h1 h2) : c_ft h h2 := fun t i x y => (b t i x y).trans (a t i x y)
theorem m_fr.t {h h1 : nv_St} (a : m_fr 1 h h1) : c_ft h h1 := fun t i _ y => a t i y
theorem c_fl.up {h h1 : nv_St} (a : c_fl h h1) {j : Nat} {x : Int} : c_fl h (nv_up h1 13 0 j x) := by
  intro t i hx
  rw [← a t i hx]
  funext q
  unfold nv_up
  rw [if_neg (fun z => hx ⟨z.1, z.2.1⟩)]
theorem c_fl.nn {h h1 : nv_St} (a : c_fl h h1) {o : Nat} : m_nn h1 o = m_nn h o := m_nn_ext (fun t ht => a t o (by omega))
theorem c_ts.up {h : nv_St} {n k : Nat} {f : Nat → Int} (T : c_ts h n f k) {x : Int} {k' : Nat} (hx : x = k') (hk : k' ≤ n) : c_ts (nv_up h 13 0 2 x) n f k' := by
  obtain ⟨a, b, c, d⟩ := T
  exact ⟨by rw [nv_up_ne (by omega)]; exact a, by rw [nv_up_same]; exact hx, ⟨hk, c.2⟩, fun q hq => by rw [show nv_up h 13 0 2 x 14 0 q = h 14 0 q by simp [nv_up]]; exact d q hq⟩
theorem c_ts.fr {h h1 : nv_St} {n k : Nat} {f : Nat → Int} (T : c_ts h n f k) (hf : m_fr 1 h h1) : c_ts h1 n f k := by
  obtain ⟨a, b, c, d⟩ := T
  exact ⟨by rw [hf 13 0 (by omega)]; exact a, by rw [hf 13 0 (by omega)]; exact b, c, fun q hq => by rw [hf 14 0 (by omega)]; exact d q hq⟩
theorem t_x_r {h : nv_St} {n k k' : Nat} {f : Nat → Int} (T : c_ts h n f k') : 0 ≤ t_x n f k ∧ t_x n f k ≤ 126 := by
  unfold t_x
  split
  · next q => have := (T.2.2.2 _ q).2; omega
  · omega
section nvTc
variable {h : nv_St} {n k : Nat} {f : Nat → Int}
set_option maxRecDepth 100000 in
theorem r_letterHere (T : c_ts h n f k) : nv_R M_X4_letterHere [vr 13 0] h (fun r h' => h' = h ∧ r = some (vi (if k < n then f k else 0))) := by
  obtain ⟨a, b, c, d⟩ := T
  refine nv_R.of rfl rfl (Nat.le_of_ble_eq_true rfl) ?_
  refine nv_go ok_X4_letterHere [] 30 ?_
  by_cases hkn : k < n
  · have dk := d k hkn
    refine w_ic (by omega) (by omega) (fun q => absurd q (by show ¬ h 13 0 1 ≤ h 13 0 2; omega)) (fun _ => ?_)
    refine w_ix k b (by omega) ?_
    exact And.intro (by omega) ⟨rfl, by rw [if_pos hkn, dk.1]⟩
  · refine w_ic (by omega) (by omega) (fun _ => ?_) (fun q => absurd (by show h 13 0 1 ≤ h 13 0 2; omega) q)
    exact And.intro (by omega) ⟨rfl, by rw [if_neg hkn]⟩
set_option maxRecDepth 100000 in
theorem r_nextLetter (T : c_ts h n f k) : nv_R M_X4_nextLetter [vr 13 0] h (fun r h' => c_ts h' n f (t_s n f k) ∧ c_fl h h' ∧ r = some (vi (t_x n f k))) := by
  have hx0 := t_x_r (k := k) T
  refine nv_R.of rfl rfl (Nat.le_of_ble_eq_true rfl) ?_
  have key : ∀ (h1 : nv_St) (k1 : Nat), c_ts h1 n f k1 → c_fl h h1 → t_s n f k1 = t_s n f k → t_s n f k1 = k1 → nv_V M_X4_nextLetter 38 [(0, vr 13 0)] [] h1 (fun r h' => c_ts h' n f (t_s n f k) ∧ c_fl h h' ∧ r = some (vi (t_x n f k))) := by
    intro h1 k1 T1 hf e1 e2
    refine nv_go ok_X4_nextLetter [] 30 ?_
    refine w_call (r_letterHere T1) (fun r h' hr => ?_)
    obtain ⟨rfl, rfl⟩ := hr
    have ex : (if k1 < n then f k1 else 0) = t_x n f k := by unfold t_x; rw [← e1, e2]
    rw [ex]
    exact And.intro (by omega) ⟨by rw [← e1, e2]; exact T1, hf, rfl⟩
  have loop := m_down (n := n) (G := fun k1 => ∀ (h1 : nv_St), c_ts h1 n f k1 → c_fl h h1 → t_s n f k1 = t_s n f k → nv_V M_X4_nextLetter 0 [(0, vr 13 0)] [] h1 (fun r h' => c_ts h' n f (t_s n f k) ∧ c_fl h h' ∧ r = some (vi (t_x n f k)))) ?_ ?_
  · exact loop k T.2.2.1.1 h T c_fl.rfl' rfl
  · intro h1 T1 hf e1
    obtain ⟨a, b, c, d⟩ := id T1
    refine nv_go ok_X4_nextLetter [38] 30 ?_
    refine w_ic (by omega) (by omega) (fun _ => ?_) (fun q => absurd (by show h1 13 0 1 ≤ h1 13 0 2; omega) q)
    exact key h1 n T1 hf e1 (by rw [t_s_eq, if_neg (by omega)])
  · intro k1 hk1 ih h1 T1 hf e1
    obtain ⟨a, b, c, d⟩ := id T1
    have dk := d k1 hk1
    refine nv_go ok_X4_nextLetter [38, 0] 30 ?_
    refine w_ic (by omega) (by omega) (fun q => absurd q (by show ¬ h1 13 0 1 ≤ h1 13 0 2; omega)) (fun _ => ?_)
    refine w_ix k1 b (by omega) ?_
    refine w_ic (by omega) (by omega) (fun q => ?_) (fun q => ?_)
    · have q : h1 14 0 k1 = 32 := q
      refine ih _ (T1.up (by rw [b]; omega) hk1) hf.up ?_
      rw [← e1, t_s_eq n f k1, if_pos ⟨hk1, by rw [← dk.1]; exact q⟩]
    · have q : ¬ h1 14 0 k1 = 32 := q
      exact key h1 k1 T1 hf e1 (by rw [t_s_eq, if_neg (fun z => q (by rw [dk.1]; exact z.2))])
set_option maxRecDepth 100000 in
theorem r_takes (T : c_ts h n f k) {c : Int} (hc : 33 ≤ c ∧ c ≤ 126) : nv_R M_X4_takes [vr 13 0, vi c] h (fun r h' => c_ts h' n f (t_take n f c k).2 ∧ c_fl h h' ∧ r = some (vi (nv_b (t_take n f c k).1))) := by
  have hx0 := t_x_r (k := k) T
  have hle := t_take_le (n := n) (f := f) (c := c) (k := k) (by omega) T.2.2.1.1
  refine nv_R.of rfl rfl (Nat.le_of_ble_eq_true rfl) ?_
  refine nv_go ok_X4_takes [] 30 ?_
  refine w_call (r_nextLetter T) (fun r h1 hr => ?_)
  obtain ⟨T1, hf, rfl⟩ := hr
  refine w_ic (by omega) (by omega) (fun q => ?_) (fun q => ?_)
  · have q : t_x n f k = c := q
    have e : t_take n f c k = (true, t_s n f k + 1) := by unfold t_take; rw [if_pos q]
    rw [e] at hle ⊢
    refine And.intro (Or.inr rfl) ⟨T1.up (by rw [T1.2.1]; show _ = ((t_s n f k + 1 : Nat) : Int); omega) hle, hf.up, rfl⟩
  · have q : ¬ t_x n f k = c := q
    have e : t_take n f c k = (false, t_s n f k) := by unfold t_take; rw [if_neg q]
    rw [e]
    exact And.intro (Or.inl rfl) ⟨T1, hf, rfl⟩
set_option maxRecDepth 100000 in
theorem r_valueOf {c : Int} (hc : 0 ≤ c ∧ c ≤ 126) : nv_R M_X4_valueOf [vi c] h (fun r h' => h' = h ∧ r = some (vi (if 48 ≤ c ∧ c ≤ 57 then c - 48 else -1))) := by
  refine nv_R.of rfl rfl (Nat.le_of_ble_eq_true rfl) ?_
  refine nv_go ok_X4_valueOf [] 30 ?_
  refine w_ic (by omega) (by omega) (fun q => ?_) (fun q => ?_)
  · have q : c < 48 := q
    exact ⟨rfl, by rw [if_neg (by omega)]⟩
  · have q : ¬ c < 48 := q
    refine w_ic (by omega) (by omega) (fun q2 => ?_) (fun q2 => ?_)
    · have q2 : 57 < c := q2
      exact ⟨rfl, by rw [if_neg (by omega)]⟩
    · have q2 : ¬ 57 < c := q2
      exact ⟨rfl, by rw [if_pos (by omega)]⟩
set_option maxRecDepth 100000 in
theorem r_takeDigit (T : c_ts h n f k) {hi : Int} (hh : -1 ≤ hi ∧ hi ≤ 9) : nv_R M_X4_takeDigit [vr 13 0, vi hi] h (fun r h' => c_ts h' n f (t_dig n f hi k).2 ∧ c_fl h h' ∧ r = some (vi ((t_dig n f hi k).1.getD (-1)))) := by
  have hx0 := t_x_r (k := k) T
  have hle := t_dig_le (n := n) (f := f) (hi := hi) (k := k) T.2.2.1.1
  refine nv_R.of rfl rfl (Nat.le_of_ble_eq_true rfl) ?_
  refine nv_go ok_X4_takeDigit [] 30 ?_
  refine w_call (r_nextLetter T) (fun r h1 hr => ?_)
  obtain ⟨T1, hf, rfl⟩ := hr
  refine w_call (r_valueOf hx0) (fun r h2 hr => ?_)
  obtain ⟨rfl, rfl⟩ := hr
  have no : ¬ ((48 ≤ t_x n f k ∧ t_x n f k ≤ 57) ∧ t_x n f k - 48 ≤ hi) → c_ts h2 n f (t_dig n f hi k).2 ∧ c_fl h h2 ∧ some (vi (-1)) = some (vi ((t_dig n f hi k).1.getD (-1))) := fun q => by
    have e : t_dig n f hi k = (none, t_s n f k) := by unfold t_dig; rw [if_neg q]
    rw [e]
    exact ⟨T1, hf, rfl⟩
  by_cases hd : 48 ≤ t_x n f k ∧ t_x n f k ≤ 57
  · rw [if_pos hd]
    refine w_if (by omega) (fun q => absurd q (by show ¬ t_x n f k - 48 < 0; omega)) (fun _ => ?_)
    refine w_ic (by omega) (by omega) (fun q => ?_) (fun q => ?_)
    · have q : t_x n f k - 48 ≤ hi := q
      have e : t_dig n f hi k = (some (t_x n f k - 48), t_s n f k + 1) := by unfold t_dig; rw [if_pos ⟨hd, q⟩]
      rw [e] at hle ⊢
      exact ⟨T1.up (by rw [T1.2.1]; show _ = ((t_s n f k + 1 : Nat) : Int); omega) hle, hf.up, rfl⟩
    · have q : ¬ t_x n f k - 48 ≤ hi := q
      exact no (fun z => q z.2)
  · rw [if_neg hd]
    refine w_if (by omega) (fun _ => ?_) (fun q => absurd (by show (-1 : Int) < 0; decide) q)
    exact no (fun z => hd z.1)
set_option maxRecDepth 100000 in
theorem r_takeNumber (T : c_ts h n f k) {lo hi : Int} (hl : 0 ≤ lo ∧ lo ≤ 99) (hh : 0 ≤ hi ∧ hi ≤ 99) : nv_R M_X4_takeNumber [vr 13 0, vi lo, vi hi] h (fun r h' => c_ts h' n f (t_num n f lo hi k).2 ∧ c_fl h h' ∧ r = some (vi ((t_num n f lo hi k).1.getD (-1)))) := by
  have hx0 := t_x_r (k := k) T
  have hle := t_num_le (n := n) (f := f) (lo := lo) (hi := hi) (k := k) T.2.2.1.1
  refine nv_R.of rfl rfl (Nat.le_of_ble_eq_true rfl) ?_
  refine nv_go ok_X4_takeNumber [62] 40 ?_
  refine w_call (r_nextLetter T) (fun r h1 hr => ?_)
  obtain ⟨T1, hf, rfl⟩ := hr
  refine w_call (r_valueOf hx0) (fun r h2 hr => ?_)
  obtain ⟨rfl, rfl⟩ := hr
  by_cases hd : 48 ≤ t_x n f k ∧ t_x n f k ≤ 57
  · rw [if_pos hd]
    have hsn : t_s n f k < n := t_x_lt (by omega)
    refine w_if (by omega) (fun _ => ?_) (fun q => absurd (by show 0 ≤ t_x n f k - 48; omega) q)
    have T2 : c_ts (nv_up h2 13 0 2 (h2 13 0 2 + 1)) n f (t_s n f k + 1) := T1.up (by rw [T1.2.1]; omega) (by omega)
    have hf2 : c_fl h (nv_up h2 13 0 2 (h2 13 0 2 + 1)) := hf.up
    refine w_call (r_letterHere T2) (fun r h3 hr => ?_)
    obtain ⟨rfl, rfl⟩ := hr
    have hc2 : 0 ≤ (if t_s n f k + 1 < n then f (t_s n f k + 1) else 0) ∧ (if t_s n f k + 1 < n then f (t_s n f k + 1) else 0) ≤ 126 := by
      split
      · next q => have := (T1.2.2.2 _ q).2; omega
      · omega
    refine w_call (r_valueOf hc2) (fun r h4 hr => ?_)
    obtain ⟨rfl, rfl⟩ := hr
    have j62 : ∀ (v z : Int) (h5 : nv_St), v = t_nv n f k → c_ts h5 n f (t_nk n f k) → c_fl h h5 → nv_V M_X4_takeNumber 62 [(0, vr 13 0), (1, vi lo), (2, vi hi), (3, vi v), (4, vi (t_s n f k)), (5, vi z)] [] h5 (fun r h' => c_ts h' n f (t_num n f lo hi k).2 ∧ c_fl h h' ∧ r = some (vi ((t_num n f lo hi k).1.getD (-1)))) := by
      intro v z h5 hv T5 hf5
      have hvr : 0 ≤ v ∧ v ≤ 999 := by
        rw [hv]
        unfold t_nv
        split
        · next q => have := (t_dg_s q).2.2; omega
        · omega
      refine nv_go ok_X4_takeNumber [] 40 ?_
      refine w_call (r_outA (by omega) (by omega) (by omega)) (fun r h6 hr => ?_)
      obtain ⟨rfl, rfl⟩ := hr
      refine w_ifb (fun c => ?_) (fun c => ?_)
      · have c := a_out_f c
        rw [hv] at c
        have e : t_num n f lo hi k = (some (t_nv n f k), t_nk n f k) := by unfold t_num; rw [if_neg (fun z => z hd), if_pos c]
        rw [e]
        exact ⟨T5, hf5, by rw [hv]; rfl⟩
      · have e : t_num n f lo hi k = (none, t_s n f k) := by
          unfold t_num
          rw [if_neg (fun z => z hd), if_neg]
          intro z
          unfold a_out at c
          rw [decide_eq_false (show ¬ v < lo by omega), decide_eq_false (show ¬ hi < v by omega)] at c
          exact absurd c (by decide)
        rw [e]
        exact ⟨T5.up rfl (by omega), hf5.up, rfl⟩
    have hT4 : nv_up h2 13 0 2 (h2 13 0 2 + 1) 13 0 2 = ((t_s n f k + 1 : Nat) : Int) := T2.2.1
    by_cases hd2 : t_dg n f (t_s n f k + 1) = true
    · have q := (t_dg_s hd2).2.2
      rw [if_pos q.1, if_pos q.2]
      refine w_if (by omega) (fun z => absurd z (by show ¬ f (t_s n f k + 1) - 48 < 0; omega)) (fun _ => ?_)
      rw [T1.2.1] at T2 hf2 hT4 ⊢
      refine j62 _ _ _ ?_ ?_ hf2.up
      · unfold t_nv
        rw [if_pos hd2]
      · have : t_nk n f k = t_s n f k + 2 := by unfold t_nk; rw [if_pos hd2]
        rw [this]
        exact T2.up (by rw [hT4]; omega) (by omega)
    · have hd3 : ¬ (48 ≤ (if t_s n f k + 1 < n then f (t_s n f k + 1) else 0) ∧ (if t_s n f k + 1 < n then f (t_s n f k + 1) else 0) ≤ 57) := by
        intro z
        by_cases q : t_s n f k + 1 < n
        · rw [if_pos q] at z
          exact hd2 (decide_eq_true ⟨q, z⟩)
        · rw [if_neg q] at z
          omega
      rw [if_neg hd3]
      refine w_if (by omega) (fun _ => ?_) (fun q => absurd (by show (-1 : Int) < 0; decide) q)
      rw [T1.2.1] at T2 hf2 ⊢
      refine j62 _ _ _ ?_ ?_ hf2
      · unfold t_nv
        rw [if_neg hd2]
      · have : t_nk n f k = t_s n f k + 1 := by unfold t_nk; rw [if_neg hd2]
        rw [this]
        exact T2
  · rw [if_neg hd]
    refine w_if (by omega) (fun q => absurd q (by decide)) (fun _ => ?_)
    have e : t_num n f lo hi k = (none, t_s n f k) := by unfold t_num; rw [if_pos hd]
    rw [e]
    exact ⟨T1, hf, rfl⟩
def c_pQ (h : nv_St) (n : Nat) (f : Nat → Int) (k : Nat) : nv_PT := fun r h' => ∃ (b : Bool) (k' : Nat), r = some (vi (nv_b b)) ∧ c_ts h' n f k' ∧ c_ft h h' ∧ ((t_pI n f k = (none, k') ∧ (b = true → t_dg n f k' = true)) ∨ ∃ x, t_pI n f k = (some x, k') ∧ b = true ∧ m_nn h' 1 = m_addP (m_nn h 1) x.1 x.2.1 x.2.2)
set_option maxHeartbeats 1000000 in
set_option maxRecDepth 100000 in
theorem r_tellPlank (T : c_ts h n f k) {P : Nat} (hP : h 0 1 0 = P) (hP5 : P < 5) : nv_R M_X4_tellPlank [vr 13 0, vr 0 1] h (c_pQ h n f k) := by
  refine nv_R.of rfl rfl (Nat.le_of_ble_eq_true rfl) ?_
  refine nv_go ok_X4_tellPlank [33] 40 ?_
  refine w_call (r_takeNumber T (lo := 1) (hi := 99) (by omega) (by omega)) (fun r h1 hr => ?_)
  obtain ⟨T1, hf1, rfl⟩ := hr
  cases h1e : (t_num n f 1 99 k).1 with
  | none =>
    have hR : (t_numR n f 1 99 k).1 = none := by unfold t_numR; rw [h1e, if_neg (fun z => absurd z.1 (by decide))]; exact h1e
    refine w_if (by show nv_InR (-1); omega) (fun q => absurd q (by decide)) (fun _ => ?_)
    exact And.intro (Or.inl rfl) ⟨false, _, rfl, T1, hf1.t, Or.inl ⟨t_pI_1 hR, fun z => absurd z (by decide)⟩⟩
  | some t =>
    have hr := t_num_r h1e
    refine w_if (by show nv_InR t; omega) (fun _ => ?_) (fun q => absurd (by show 0 ≤ t; omega) q)
    generalize hk1 : (t_num n f 1 99 k).2 = k1 at T1
    -- the end, the cut being told
    have j59 : ∀ (kn ct : Int) (h3 : nv_St) (k5 : Nat), c_ts h3 n f k5 → c_fl h h3 → (0 ≤ ct ∧ ct ≤ 99) → ((t_pI n f k = (none, k5) ∧ t_dg n f k5 = true) ∨ t_pI n f k = (some (t, kn, t - ct), k5)) → nv_V M_X4_tellPlank 59 [(0, vr 13 0), (1, vr 0 1), (2, vi t), (3, vi kn)] [vi ct] h3 (c_pQ h n f k) := by
      intro kn ct h3 k5 T3 hf3 hct alt
      have hP3 : h3 0 1 0 = P := by rw [hf3 0 1 (by omega)]; exact hP
      refine nv_go ok_X4_tellPlank [] 40 ?_
      refine w_if (by omega) (fun q => absurd q (by show ¬ ct < 0; omega)) (fun _ => ?_)
      refine w_call (r_addPlank (P := P) hP3 (by omega)) (fun r h4 hr => ?_)
      rcases hr with ⟨e5, -, -⟩ | ⟨-, rfl, hf4, hn4⟩
      · omega
      · refine w_if (by omega) (fun q => absurd q (by show ¬ (P : Int) < 0; omega)) (fun _ => ?_)
        refine And.intro (Or.inr rfl) ⟨true, k5, rfl, T3.fr hf4, hf3.t.trans' hf4.t, ?_⟩
        rcases alt with ⟨a1, a2⟩ | a1
        · exact Or.inl ⟨a1, fun _ => a2⟩
        · exact Or.inr ⟨_, a1, rfl, by rw [hn4, hf3.nn]⟩
    have j59n : ∀ (kn ct : Int) (h3 : nv_St) (k5 : Nat), c_ts h3 n f k5 → c_fl h h3 → ct = -1 → t_pI n f k = (none, k5) → nv_V M_X4_tellPlank 59 [(0, vr 13 0), (1, vr 0 1), (2, vi t), (3, vi kn)] [vi ct] h3 (c_pQ h n f k) := by
      intro kn ct h3 k5 T3 hf3 hct e
      refine nv_go ok_X4_tellPlank [] 40 ?_
      refine w_if (by omega) (fun _ => ?_) (fun q => absurd (by show ct < 0; omega) q)
      exact And.intro (Or.inl rfl) ⟨false, k5, rfl, T3, hf3.t, Or.inl ⟨e, fun z => absurd z (by decide)⟩⟩
    cases hdg : t_dg n f k1 with
    | true =>
      -- a digit more: nothing more is taken
      have hR : (t_numR n f 1 99 k).1 = none := by
        unfold t_numR
        rw [hk1, if_pos ⟨by rw [h1e]; rfl, hdg⟩]
      have epI : t_pI n f k = (none, k1) := by rw [t_pI_1 hR, hk1]
      have e37 := t_dg_take (c := 37) hdg (by omega)
      have e45 := t_dg_take (c := 45) hdg (by omega)
      refine w_call (r_takes T1 (c := 37) (by omega)) (fun r h2 hr => ?_)
      obtain ⟨T2, hf2, rfl⟩ := hr
      rw [e37] at T2 ⊢
      refine w_if (by show nv_InR 0; omega) (fun _ => ?_) (fun q => absurd rfl q)
      refine nv_go ok_X4_tellPlank [59] 40 ?_
      refine w_if (by omega) (fun _ => ?_) (fun q => absurd (by show (0 : Int) ≤ 0; omega) q)
      refine w_call (r_takes T2 (c := 45) (by omega)) (fun r h3 hr => ?_)
      obtain ⟨T3, hf3, rfl⟩ := hr
      rw [e45] at T3 ⊢
      refine w_if (by show nv_InR 0; omega) (fun _ => ?_) (fun q => absurd rfl q)
      exact j59 0 0 h3 k1 T3 (hf1.trans' (hf2.trans' hf3)) (by omega) (Or.inl ⟨epI, hdg⟩)
    | false =>
      have hR : (t_numR n f 1 99 k).1 = some t := by
        unfold t_numR
        rw [hk1, if_neg (fun z => absurd (hdg.symm.trans z.2) (by decide))]
        exact h1e
      -- the knots being told
      have j33 : ∀ (kn : Int) (h2 : nv_St) (k3 : Nat), c_ts h2 n f k3 → c_fl h h2 → (t_p2 n f t k1).2 = k3 → kn = (t_p2 n f t k1).1.getD (-1) → nv_V M_X4_tellPlank 33 [(0, vr 13 0), (1, vr 0 1), (2, vi t)] [vi kn] h2 (c_pQ h n f k) := by
        intro kn h2 k3 T2 hf2 hk3 hkn
        cases h2e : (t_p2 n f t k1).1 with
        | none =>
          rw [h2e] at hkn
          have hkn : kn = -1 := hkn
          refine nv_go ok_X4_tellPlank [59] 40 ?_
          refine w_if (by omega) (fun q => absurd q (by show ¬ 0 ≤ kn; omega)) (fun _ => ?_)
          exact And.intro (Or.inl rfl) ⟨false, k3, rfl, T2, hf2.t, Or.inl ⟨by rw [t_pI_2 hR (by rw [hk1]; exact h2e), hk1, hk3], fun z => absurd z (by decide)⟩⟩
        | some kn' =>
          rw [h2e] at hkn
          have hkn : kn = kn' := hkn
          have h2r := t_p2_r h2e
          refine nv_go ok_X4_tellPlank [59] 40 ?_
          refine w_if (by omega) (fun _ => ?_) (fun q => absurd (by show 0 ≤ kn; omega) q)
          refine w_call (r_takes T2 (c := 45) (by omega)) (fun r h3 hr => ?_)
          obtain ⟨T3, hf3, rfl⟩ := hr
          have h2' : (t_p2 n f t (t_num n f 1 99 k).2).1 = some kn' := by rw [hk1]; exact h2e
          have hp3e : t_p3 n f t (t_p2 n f t (t_num n f 1 99 k).2).2 = t_p3 n f t k3 := by rw [hk1, hk3]
          refine w_ifb (fun c => ?_) (fun c => ?_)
          · have e3 : t_p3 n f t k3 = (some 0, (t_take n f 45 k3).2) := by unfold t_p3; rw [c, if_neg (by decide)]
            refine j59 _ _ h3 _ T3 (hf2.trans' hf3) (by omega) (Or.inr ?_)
            have := t_pI_4 hR h2' (by rw [hp3e, e3])
            rw [hp3e, e3] at this
            rw [this, hkn]
          · have e3 : t_p3 n f t k3 = t_numR n f 0 t (t_take n f 45 k3).2 := by unfold t_p3; rw [c, if_pos rfl]
            refine w_call (r_takeNumber T3 (lo := 0) (hi := t) (by omega) (by omega)) (fun r h4 hr => ?_)
            obtain ⟨T4, hf4, rfl⟩ := hr
            have hf5 : c_fl h h4 := hf2.trans' (hf3.trans' hf4)
            cases h4e : (t_num n f 0 t (t_take n f 45 k3).2).1 with
            | none =>
              have hR4 : (t_p3 n f t (t_p2 n f t (t_num n f 1 99 k).2).2).1 = none := by
                rw [hp3e, e3]; unfold t_numR; rw [h4e, if_neg (fun z => absurd z.1 (by decide))]; exact h4e
              refine j59n _ _ h4 _ T4 hf5 rfl ?_
              rw [t_pI_3 hR h2' hR4, hp3e, e3, t_numR_2]
            | some ct =>
              have h4r := t_num_r h4e
              cases hd4 : t_dg n f (t_num n f 0 t (t_take n f 45 k3).2).2 with
              | true =>
                have hR4 : (t_p3 n f t (t_p2 n f t (t_num n f 1 99 k).2).2).1 = none := by
                  rw [hp3e, e3]; unfold t_numR; rw [if_pos ⟨by rw [h4e]; rfl, hd4⟩]
                refine j59 _ _ h4 _ T4 hf5 (by show 0 ≤ ct ∧ ct ≤ 99; omega) (Or.inl ⟨?_, hd4⟩)
                rw [t_pI_3 hR h2' hR4, hp3e, e3, t_numR_2]
              | false =>
                have hR4 : (t_p3 n f t (t_p2 n f t (t_num n f 1 99 k).2).2).1 = some ct := by
                  rw [hp3e, e3]; unfold t_numR; rw [if_neg (fun z => absurd (hd4.symm.trans z.2) (by decide))]; exact h4e
                refine j59 _ _ h4 _ T4 hf5 (by show 0 ≤ ct ∧ ct ≤ 99; omega) (Or.inr ?_)
                rw [t_pI_4 hR h2' hR4, hp3e, e3, t_numR_2, hkn]
                rfl
      refine w_call (r_takes T1 (c := 37) (by omega)) (fun r h2 hr => ?_)
      obtain ⟨T2, hf2, rfl⟩ := hr
      refine w_ifb (fun c => ?_) (fun c => ?_)
      · have e2 : t_p2 n f t k1 = (some 0, (t_take n f 37 k1).2) := by unfold t_p2; rw [c, if_neg (by decide)]
        exact j33 _ h2 _ T2 (hf1.trans' hf2) (by rw [e2]) (by rw [e2]; rfl)
      · have e2 : t_p2 n f t k1 = t_dig n f 9 (t_take n f 37 k1).2 := by unfold t_p2; rw [c, if_pos rfl]
        refine w_call (r_takeDigit T2 (hi := 9) (by omega)) (fun r h3 hr => ?_)
        obtain ⟨T3, hf3, rfl⟩ := hr
        exact j33 _ h3 _ T3 (hf1.trans' (hf2.trans' hf3)) (by rw [e2]) (by rw [e2])
def c_psQ (h : nv_St) (n : Nat) (f : Nat → Int) (d : Int) : nv_PT := fun r h' => ∃ (b : Bool) (k' : Nat), r = some (vi (nv_b b)) ∧ c_ts h' n f k' ∧ c_ft h h' ∧ ((t_ps n f 5 0 [] = (none, k') ∧ (b = true → t_dg n f k' = true)) ∨ ∃ ps, t_ps n f 5 0 [] = (some ps, k') ∧ b = true ∧ ps.length ≤ 5 ∧ (∀ x ∈ ps, t_okP x) ∧ m_eq ps.length 0 (m_nn h' 1) (m_bld d ps []))
set_option maxRecDepth 100000 in
theorem r_tellPlanks (T : c_ts h n f 0) {d : Int} (he : m_eq 0 0 (m_nn h 1) (m_bld d [] [])) : nv_R M_X4_tellPlanks [vr 13 0, vr 0 1] h (c_psQ h n f d) := by
  refine nv_R.of rfl rfl (Nat.le_of_ble_eq_true rfl) ?_
  have loop := m_down (n := 5) (G := fun p => ∀ (j : Int) (h1 : nv_St) (k : Nat) (ps : List y_T), j = p → p < 5 → c_ts h1 n f k → c_ft h h1 → ps.length = p → m_eq p 0 (m_nn h1 1) (m_bld d ps []) → (∀ x ∈ ps, t_okP x) → t_ps n f 5 0 [] = t_ps n f (5 - p) k ps → nv_V M_X4_tellPlanks 2 [(0, vr 13 0), (1, vr 0 1), (2, vi j)] [] h1 (c_psQ h n f d)) ?_ ?_
  · refine nv_go ok_X4_tellPlanks [2] 20 ?_
    exact loop 0 (by omega) _ h 0 [] rfl (by omega) T c_ft.rfl' rfl he (fun x hx => by cases hx) rfl
  · intro j h1 k ps hj hp
    omega
  · intro p hp ih j h1 k ps hj _ T1 hf hl he1 hok hps
    have hP1 : h1 0 1 0 = p := by
      have : h1 0 1 0 = (ps.length : Int) := he1.1 0 (by omega)
      omega
    refine nv_go ok_X4_tellPlanks [2] 30 ?_
    refine w_ic (by omega) (by omega) (fun q => absurd q (by show ¬ (5 : Int) ≤ j; omega)) (fun _ => ?_)
    refine w_call (r_tellPlank T1 hP1 (by omega)) (fun r h2 hr => ?_)
    obtain ⟨b, k2, rfl, T2, hf2, alt⟩ := hr
    have hf3 : c_ft h h2 := hf.trans' hf2
    have e5 : 5 - p = (5 - (p + 1)) + 1 := by omega
    rw [e5] at hps
    refine w_ifb (fun c => ?_) (fun c => ?_)
    · rcases alt with ⟨a1, a2⟩ | ⟨x, a1, a2, a3⟩
      · refine And.intro (Or.inl rfl) ⟨false, k2, rfl, T2, hf3, Or.inl ⟨?_, fun z => absurd z (by decide)⟩⟩
        rw [hps]
        unfold t_ps
        simp only [a1]
      · rw [a2] at c; exact absurd c (by decide)
    · rcases alt with ⟨a1, a2⟩ | ⟨x, a1, a2, a3⟩
      · -- a digit more
        have hdg := a2 c
        have eN : t_ps n f 5 0 [] = (none, k2) := by
          rw [hps]
          unfold t_ps
          simp only [a1]
        have e44 := t_dg_take (c := 44) hdg (by omega)
        refine w_ic (by omega) (by omega) (fun _ => ?_) (fun _ => ?_)
        · exact And.intro (Or.inr rfl) ⟨true, k2, rfl, T2, hf3, Or.inl ⟨eN, fun _ => hdg⟩⟩
        · refine w_call (r_takes T2 (c := 44) (by omega)) (fun r h4 hr => ?_)
          obtain ⟨T4, hf4, rfl⟩ := hr
          rw [e44] at T4 ⊢
          refine w_if (by show nv_InR 0; omega) (fun _ => ?_) (fun q => absurd rfl q)
          exact And.intro (Or.inr rfl) ⟨true, k2, rfl, T4, hf3.trans' hf4.t, Or.inl ⟨eN, fun _ => hdg⟩⟩
      · have hokx : t_okP x := t_pI_ok (by rw [a1])
        have hok2 : ∀ y ∈ ps ++ [x], t_okP y := fun y hy => by
          rcases List.mem_append.mp hy with hy | hy
          · exact hok y hy
          · rw [List.mem_singleton] at hy; rw [hy]; exact hokx
        have hl2 : (ps ++ [x]).length = p + 1 := by simp [hl]
        have he2 : m_eq (p + 1) 0 (m_nn h2 1) (m_bld d (ps ++ [x]) []) := by
          rw [a3, ← hl]
          exact m_bld_P (by rw [hl]; exact he1)
        refine w_ic (by omega) (by omega) (fun q => ?_) (fun q => ?_)
        · have q : j = 4 := q
          have eN : t_ps n f 5 0 [] = (some (ps ++ [x]), k2) := by
            rw [hps]
            unfold t_ps
            simp only [a1]
            rw [if_pos (by omega)]
          exact And.intro (Or.inr rfl) ⟨true, k2, rfl, T2, hf3, Or.inr ⟨_, eN, rfl, by omega, hok2, by rw [hl2]; exact he2⟩⟩
        · have q : ¬ j = 4 := q
          refine w_call (r_takes T2 (c := 44) (by omega)) (fun r h4 hr => ?_)
          obtain ⟨T4, hf4, rfl⟩ := hr
          have hps2 : t_ps n f 5 0 [] = if (t_take n f 44 k2).1 = true then t_ps n f (5 - (p + 1)) (t_take n f 44 k2).2 (ps ++ [x]) else (some (ps ++ [x]), (t_take n f 44 k2).2) := by
            rw [hps]
            conv => lhs; unfold t_ps
            simp only [a1]
            rw [if_neg (by omega)]
          have he4 : m_eq (p + 1) 0 (m_nn h4 1) (m_bld d (ps ++ [x]) []) := by rw [hf4.nn]; exact he2
          refine w_ifb (fun c2 => ?_) (fun c2 => ?_)
          · rw [c2, if_neg (by decide)] at hps2
            exact And.intro (Or.inr rfl) ⟨true, _, rfl, T4, hf3.trans' hf4.t, Or.inr ⟨_, hps2, rfl, by omega, hok2, by rw [hl2]; exact he4⟩⟩
          · rw [c2, if_pos rfl] at hps2
            exact ih _ h4 _ _ (by omega) (by omega) T4 (hf3.trans' hf4.t) hl2 he4 hok2 hps2
def c_wQ (h : nv_St) (n : Nat) (f : Nat → Int) (P k : Nat) : nv_PT := fun r h' => ∃ (b : Bool) (k' : Nat), r = some (vi (nv_b b)) ∧ c_ts h' n f k' ∧ c_ft h h' ∧ ((t_wI n f P k = (none, k') ∧ b = false) ∨ ∃ x, t_wI n f P k = (some x, k') ∧ b = true ∧ m_nn h' 1 = m_addS (m_nn h 1) x.1 x.2.1 x.2.2)
set_option maxRecDepth 100000 in
theorem r_tellSawyer (T : c_ts h n f k) {P S : Nat} (hP : h 0 1 0 = P) (hP5 : P ≤ 5) (hS : h 0 1 1 = S) (hS5 : S < 5) : nv_R M_X4_tellSawyer [vr 13 0, vr 0 1] h (c_wQ h n f P k) := by
  have hx0 := t_x_r (k := k) T
  have hkr := t_kind_r (t_x n f k)
  refine nv_R.of rfl rfl (Nat.le_of_ble_eq_true rfl) ?_
  refine nv_go ok_X4_tellSawyer [] 60 ?_
  refine w_call (r_nextLetter T) (fun r h1 hr => ?_)
  obtain ⟨T1, hf1, rfl⟩ := hr
  refine w_call (r_indexOf hx0) (fun r h2 hr => ?_)
  obtain ⟨rfl, rfl⟩ := hr
  refine w_if (by omega) (fun q => ?_) (fun q => ?_)
  · have q : 0 ≤ t_kind (t_x n f k) := q
    have h0 : ¬ t_kind (t_x n f k) < 0 := by omega
    have hsn : t_s n f k < n := t_x_lt (hkr.2 (by omega))
    have T2 : c_ts (nv_up h2 13 0 2 (h2 13 0 2 + 1)) n f (t_s n f k + 1) := T1.up (by rw [T1.2.1]; omega) (by omega)
    have hf2 : c_fl h (nv_up h2 13 0 2 (h2 13 0 2 + 1)) := hf1.up
    refine w_call (r_takeDigit T2 (hi := 9) (by omega)) (fun r h3 hr => ?_)
    obtain ⟨T3, hf3, rfl⟩ := hr
    cases h3e : (t_dig n f 9 (t_s n f k + 1)).1 with
    | none =>
      refine w_if (by show nv_InR (-1); omega) (fun q => absurd q (by decide)) (fun _ => ?_)
      exact And.intro (Or.inl rfl) ⟨false, _, rfl, T3, (hf2.trans' hf3).t, Or.inl ⟨t_wI_2 h0 h3e, rfl⟩⟩
    | some te =>
      have h3r := t_dig_r h3e
      refine w_if (by show nv_InR te; omega) (fun _ => ?_) (fun q => absurd (by show 0 ≤ te; omega) q)
      refine w_call (r_takes T3 (c := 64) (by omega)) (fun r h4 hr => ?_)
      obtain ⟨T4, hf4, rfl⟩ := hr
      have hf5 : c_fl h h4 := hf2.trans' (hf3.trans' hf4)
      have hP4 : h4 0 1 0 = P := by rw [hf5 0 1 (by omega)]; exact hP
      have hS4 : h4 0 1 1 = S := by rw [hf5 0 1 (by omega)]; exact hS
      refine w_ifb (fun c => ?_) (fun c => ?_)
      · have e3 : t_w3 n f P (t_dig n f 9 (t_s n f k + 1)).2 = (some (-4), (t_take n f 64 (t_dig n f 9 (t_s n f k + 1)).2).2) := by unfold t_w3; rw [c, if_neg (by decide)]
        refine w_call (r_addSawyer (S := S) hS4 (by omega)) (fun r h5 hr => ?_)
        rcases hr with ⟨e5, -, -⟩ | ⟨-, rfl, hf6, hn6⟩
        · omega
        · refine w_if (by omega) (fun q => absurd q (by show ¬ (S : Int) < 0; omega)) (fun _ => ?_)
          have ew := t_wI_4 (P := P) h0 h3e (by rw [e3])
          rw [e3] at ew
          exact And.intro (Or.inr rfl) ⟨true, _, rfl, T4.fr hf6, hf5.t.trans' hf6.t, Or.inr ⟨_, ew, rfl, by rw [hn6, hf5.nn]; rfl⟩⟩
      · have e3 : t_w3 n f P (t_dig n f 9 (t_s n f k + 1)).2 = t_dig n f ((P : Int) - 1) (t_take n f 64 (t_dig n f 9 (t_s n f k + 1)).2).2 := by unfold t_w3; rw [c, if_pos rfl]
        refine w_call (P' := fun r h' => c_ts h' n f (t_dig n f ((P : Int) - 1) (t_take n f 64 (t_dig n f 9 (t_s n f k + 1)).2).2).2 ∧ c_fl h4 h' ∧ r = some (vi ((t_dig n f ((P : Int) - 1) (t_take n f 64 (t_dig n f 9 (t_s n f k + 1)).2).2).1.getD (-1)))) (by rw [hP4]; exact r_takeDigit T4 (by omega)) (fun r h5 hr => ?_)
        obtain ⟨T5, hf6, rfl⟩ := hr
        have hf7 : c_fl h h5 := hf5.trans' hf6
        cases h5e : (t_dig n f ((P : Int) - 1) (t_take n f 64 (t_dig n f 9 (t_s n f k + 1)).2).2).1 with
        | none =>
          have ew := t_wI_3 (P := P) h0 h3e (by rw [e3]; exact h5e)
          rw [e3] at ew
          refine w_if (by show nv_InR (-1); omega) (fun _ => ?_) (fun q => absurd (by show (-1 : Int) < 0; decide) q)
          exact And.intro (Or.inl rfl) ⟨false, _, rfl, T5, hf7.t, Or.inl ⟨ew, rfl⟩⟩
        | some se =>
          have h5r := t_dig_r h5e
          have hS5' : h5 0 1 1 = S := by rw [hf7 0 1 (by omega)]; exact hS
          refine w_if (by show nv_InR se; omega) (fun q => absurd q (by show ¬ se < 0; omega)) (fun _ => ?_)
          refine w_call (r_addSawyer (S := S) hS5' (by omega)) (fun r h6 hr => ?_)
          rcases hr with ⟨e5, -, -⟩ | ⟨-, rfl, hf8, hn8⟩
          · omega
          · refine w_if (by omega) (fun q => absurd q (by show ¬ (S : Int) < 0; omega)) (fun _ => ?_)
            have ew := t_wI_4 (P := P) h0 h3e (by rw [e3]; exact h5e)
            rw [e3] at ew
            exact And.intro (Or.inr rfl) ⟨true, _, rfl, T5.fr hf8, hf7.t.trans' hf8.t, Or.inr ⟨_, ew, rfl, by rw [hn8, hf7.nn]; rfl⟩⟩
  · have q : ¬ 0 ≤ t_kind (t_x n f k) := q
    exact And.intro (Or.inl rfl) ⟨false, _, rfl, T1, hf1.t, Or.inl ⟨t_wI_1 (by omega), rfl⟩⟩
def c_wsQ (h : nv_St) (n : Nat) (f : Nat → Int) (d : Int) (ps : List y_T) (k0 : Nat) : nv_PT := fun r h' => ∃ (b : Bool) (k' : Nat), r = some (vi (nv_b b)) ∧ c_ts h' n f k' ∧ c_ft h h' ∧ ((t_wss n f ps.length 5 k0 [] = (none, k') ∧ b = false) ∨ ∃ ss, t_wss n f ps.length 5 k0 [] = (some ss, k') ∧ b = true ∧ ss.length ≤ 5 ∧ (∀ x ∈ ss, t_okS ps.length x) ∧ m_eq ps.length ss.length (m_nn h' 1) (m_bld d ps ss))
set_option maxRecDepth 100000 in
theorem r_tellSawyers {k0 : Nat} (T : c_ts h n f k0) {d : Int} {ps : List y_T} (hps5 : ps.length ≤ 5) (he : m_eq ps.length 0 (m_nn h 1) (m_bld d ps [])) : nv_R M_X4_tellSawyers [vr 13 0, vr 0 1] h (c_wsQ h n f d ps k0) := by
  refine nv_R.of rfl rfl (Nat.le_of_ble_eq_true rfl) ?_
  have loop := m_down (n := 5) (G := fun p => ∀ (j : Int) (h1 : nv_St) (k : Nat) (ss : List y_T), j = p → p < 5 → c_ts h1 n f k → c_ft h h1 → ss.length = p → m_eq ps.length p (m_nn h1 1) (m_bld d ps ss) → (∀ x ∈ ss, t_okS ps.length x) → t_wss n f ps.length 5 k0 [] = t_wss n f ps.length (5 - p) k ss → nv_V M_X4_tellSawyers 2 [(0, vr 13 0), (1, vr 0 1), (2, vi j)] [] h1 (c_wsQ h n f d ps k0)) ?_ ?_
  · refine nv_go ok_X4_tellSawyers [2] 20 ?_
    exact loop 0 (by omega) _ h k0 [] rfl (by omega) T c_ft.rfl' rfl he (fun x hx => by cases hx) rfl
  · intro j h1 k ss hj hp
    omega
  · intro p hp ih j h1 k ss hj _ T1 hf hl he1 hok hps
    have hP1 : h1 0 1 0 = ps.length := he1.1 0 (by omega)
    have hS1 : h1 0 1 1 = p := by
      have : h1 0 1 1 = (ss.length : Int) := he1.1 1 (by omega)
      omega
    refine nv_go ok_X4_tellSawyers [2] 30 ?_
    refine w_ic (by omega) (by omega) (fun q => absurd q (by show ¬ (5 : Int) ≤ j; omega)) (fun _ => ?_)
    refine w_call (r_tellSawyer T1 hP1 hps5 hS1 (by omega)) (fun r h2 hr => ?_)
    obtain ⟨b, k2, rfl, T2, hf2, alt⟩ := hr
    have hf3 : c_ft h h2 := hf.trans' hf2
    have e5 : 5 - p = (5 - (p + 1)) + 1 := by omega
    rw [e5] at hps
    refine w_ifb (fun c => ?_) (fun c => ?_)
    · rcases alt with ⟨a1, a2⟩ | ⟨x, a1, a2, a3⟩
      · refine And.intro (Or.inl rfl) ⟨false, k2, rfl, T2, hf3, Or.inl ⟨?_, rfl⟩⟩
        rw [hps]
        unfold t_wss
        simp only [a1]
      · rw [a2] at c; exact absurd c (by decide)
    · rcases alt with ⟨a1, a2⟩ | ⟨x, a1, a2, a3⟩
      · rw [a2] at c; exact absurd c (by decide)
      · have hokx : t_okS ps.length x := t_wI_ok (n := n) (f := f) (k := k) (by rw [a1])
        have hok2 : ∀ y ∈ ss ++ [x], t_okS ps.length y := fun y hy => by
          rcases List.mem_append.mp hy with hy | hy
          · exact hok y hy
          · rw [List.mem_singleton] at hy; rw [hy]; exact hokx
        have hl2 : (ss ++ [x]).length = p + 1 := by simp [hl]
        have he2 : m_eq ps.length (p + 1) (m_nn h2 1) (m_bld d ps (ss ++ [x])) := by
          rw [a3, ← hl]
          exact m_bld_S (by rw [hl]; exact he1)
        refine w_ic (by omega) (by omega) (fun q => ?_) (fun q => ?_)
        · have q : j = 4 := q
          have eN : t_wss n f ps.length 5 k0 [] = (some (ss ++ [x]), k2) := by
            rw [hps]
            unfold t_wss
            simp only [a1]
            rw [if_pos (by omega)]
          exact And.intro (Or.inr rfl) ⟨true, k2, rfl, T2, hf3, Or.inr ⟨_, eN, rfl, by omega, hok2, by rw [hl2]; exact he2⟩⟩
        · have q : ¬ j = 4 := q
          refine w_call (r_takes T2 (c := 44) (by omega)) (fun r h4 hr => ?_)
          obtain ⟨T4, hf4, rfl⟩ := hr
          have hps2 : t_wss n f ps.length 5 k0 [] = if (t_take n f 44 k2).1 = true then t_wss n f ps.length (5 - (p + 1)) (t_take n f 44 k2).2 (ss ++ [x]) else (some (ss ++ [x]), (t_take n f 44 k2).2) := by
            rw [hps]
            conv => lhs; unfold t_wss
            simp only [a1]
            rw [if_neg (by omega)]
          have he4 : m_eq ps.length (p + 1) (m_nn h4 1) (m_bld d ps (ss ++ [x])) := by rw [hf4.nn]; exact he2
          refine w_ifb (fun c2 => ?_) (fun c2 => ?_)
          · rw [c2, if_neg (by decide)] at hps2
            exact And.intro (Or.inr rfl) ⟨true, _, rfl, T4, hf3.trans' hf4.t, Or.inr ⟨_, hps2, rfl, by omega, hok2, by rw [hl2]; exact he4⟩⟩
          · rw [c2, if_pos rfl] at hps2
            exact ih _ h4 _ _ (by omega) (by omega) T4 (hf3.trans' hf4.t) hl2 he4 hok2 hps2
def c_nQ (h : nv_St) (n : Nat) (f : Nat → Int) (d : Int) : nv_PT := fun r h' => ∃ (k' : Nat), c_ts h' n f k' ∧ c_ft h h' ∧ ((t_all n f = (none, k') ∧ r = some (vi (-20 - k'))) ∨ ∃ ps ss, t_all n f = (some (ps, ss), k') ∧ r = some (vi ps.length) ∧ (ps.length ≤ 5 ∧ ss.length ≤ 5) ∧ (∀ x ∈ ps, t_okP x) ∧ (∀ x ∈ ss, t_okS ps.length x) ∧ m_eq ps.length ss.length (m_nn h' 1) (m_bld d ps ss))
set_option maxRecDepth 100000 in
theorem r_tellNoonP (hn : h 13 0 1 = n) (h80 : n ≤ 80) (hch : ∀ q, q < n → h 14 0 q = f q ∧ 32 ≤ f q ∧ f q ≤ 126) : nv_R M_X4_tellNoon [vr 13 0, vr 0 1] h (c_nQ h n f (h 0 1 3)) := by
  refine nv_R.of rfl rfl (Nat.le_of_ble_eq_true rfl) ?_
  refine nv_go ok_X4_tellNoon [34, 45] 40 ?_
  refine w_call r_empty (fun r h1 hr => ?_)
  obtain ⟨rfl, hf1, z0, z1, z2, z3⟩ := hr
  have T2 : c_ts (nv_up h1 13 0 2 0) n f 0 := ⟨by rw [nv_up_ne (by omega), hf1 13 0 (by omega)]; exact hn, nv_up_same _ _ _ _ _, ⟨by omega, h80⟩, fun q hq => by rw [show nv_up h1 13 0 2 0 14 0 q = h1 14 0 q by simp [nv_up], hf1 14 0 (by omega)]; exact hch q hq⟩
  have hf2 : c_ft h (nv_up h1 13 0 2 0) := hf1.t.trans' c_fl.rfl'.up.t
  have he2 : m_eq 0 0 (m_nn (nv_up h1 13 0 2 0) 1) (m_bld (h 0 1 3) [] []) := by
    rw [c_fl.nn (c_fl.rfl'.up)]
    refine ⟨fun j hj => ?_, fun p hp => absurd hp (by omega), fun s hs => absurd hs (by omega)⟩
    have : j = 0 ∨ j = 1 ∨ j = 2 ∨ j = 3 := by omega
    rcases this with rfl | rfl | rfl | rfl
    · exact z0
    · exact z1
    · exact z2
    · exact z3
  -- told in part
  have j45 : ∀ (h5 : nv_St) (k5 : Nat), c_ts h5 n f k5 → c_ft h h5 → t_all n f = (none, k5) → nv_V M_X4_tellNoon 45 [(0, vr 13 0), (1, vr 0 1)] [] h5 (c_nQ h n f (h 0 1 3)) := by
    intro h5 k5 T5 hf5 e
    refine nv_go ok_X4_tellNoon [] 40 ?_
    refine w_if (by omega) (fun _ => ?_) (fun q => absurd rfl q)
    exact ⟨k5, T5, hf5, Or.inl ⟨e, by rw [T5.2.1]⟩⟩
  -- what is left must be nothing
  have j34 : ∀ (h5 : nv_St) (k5 : Nat) (ps ss : List y_T), c_ts h5 n f k5 → c_ft h h5 → (ps.length ≤ 5 ∧ ss.length ≤ 5) → (∀ x ∈ ps, t_okP x) → (∀ x ∈ ss, t_okS ps.length x) → m_eq ps.length ss.length (m_nn h5 1) (m_bld (h 0 1 3) ps ss) → t_all n f = t_end n f ps ss k5 → nv_V M_X4_tellNoon 34 [(0, vr 13 0), (1, vr 0 1)] [] h5 (c_nQ h n f (h 0 1 3)) := by
    intro h5 k5 ps ss T5 hf5 hl hp hs he5 e
    have hx0 := t_x_r (k := k5) T5
    refine nv_go ok_X4_tellNoon [45] 40 ?_
    refine w_call (r_nextLetter T5) (fun r h6 hr => ?_)
    obtain ⟨T6, hf6, rfl⟩ := hr
    refine w_if (by omega) (fun q => ?_) (fun q => ?_)
    · have q : t_x n f k5 = 0 := q
      have e2 : t_all n f = (some (ps, ss), t_s n f k5) := by rw [e]; unfold t_end; rw [if_pos q]
      have he6 : m_eq ps.length ss.length (m_nn h6 1) (m_bld (h 0 1 3) ps ss) := by rw [hf6.nn]; exact he5
      refine w_if (by omega) (fun z => absurd z (by decide)) (fun _ => ?_)
      exact ⟨_, T6, hf5.trans' hf6.t, Or.inr ⟨ps, ss, e2, by rw [show h6 0 1 0 = (ps.length : Int) from he6.1 0 (by omega)], hl, hp, hs, he6⟩⟩
    · have q : ¬ t_x n f k5 = 0 := q
      exact j45 h6 _ T6 (hf5.trans' hf6.t) (by rw [e]; unfold t_end; rw [if_neg q])
  refine w_call (r_tellPlanks T2 he2) (fun r h3 hr => ?_)
  obtain ⟨b, k3, rfl, T3, hf3, alt⟩ := hr
  have hf4 : c_ft h h3 := hf2.trans' hf3
  refine w_ifb (fun c => ?_) (fun c => ?_)
  · rcases alt with ⟨a1, a2⟩ | ⟨x, a1, a2, a3⟩
    · refine j45 h3 k3 T3 hf4 ?_
      unfold t_all
      simp only [a1]
    · rw [a2] at c; exact absurd c (by decide)
  · refine w_call (r_takes T3 (c := 59) (by omega)) (fun r h5 hr => ?_)
    obtain ⟨T5, hf5, rfl⟩ := hr
    have hf6 : c_ft h h5 := hf4.trans' hf5.t
    rcases alt with ⟨a1, a2⟩ | ⟨ps, a1, -, a4, a5, a6⟩
    · have hdg := a2 c
      have e59 := t_dg_take (c := 59) hdg (by omega)
      have eN : t_all n f = (none, k3) := by
        unfold t_all
        simp only [a1]
      have hd := t_dg_s hdg
      rw [e59] at T5 ⊢
      refine w_if (by show nv_InR 0; omega) (fun _ => ?_) (fun q => absurd rfl q)
      refine nv_go ok_X4_tellNoon [45] 40 ?_
      refine w_call (r_nextLetter T5) (fun r h6 hr => ?_)
      obtain ⟨T6, hf7, rfl⟩ := hr
      rw [hd.1] at T6
      refine w_if (by rw [hd.2.1]; omega) (fun q => ?_) (fun _ => ?_)
      · have q : t_x n f k3 = 0 := q
        omega
      · exact j45 h6 k3 T6 (hf6.trans' hf7.t) eN
    · have a6' : m_eq ps.length 0 (m_nn h5 1) (m_bld (h 0 1 3) ps []) := by rw [hf5.nn]; exact a6
      refine w_ifb (fun c2 => ?_) (fun c2 => ?_)
      · refine j34 h5 _ ps [] T5 hf6 ⟨a4, by simp⟩ a5 (fun x hx => by cases hx) a6' ?_
        unfold t_all
        simp only [a1]
        rw [c2, if_neg (by decide)]
      · refine w_call (r_tellSawyers T5 a4 a6') (fun r h6 hr => ?_)
        obtain ⟨b2, k6, rfl, T6, hf7, alt2⟩ := hr
        have hf8 : c_ft h h6 := hf6.trans' hf7
        refine w_ifb (fun c3 => ?_) (fun c3 => ?_)
        · rcases alt2 with ⟨b1, -⟩ | ⟨ss, b1, b3, -⟩
          · refine j45 h6 k6 T6 hf8 ?_
            unfold t_all
            simp only [a1]
            rw [c2, if_pos rfl]
            simp only [b1]
          · rw [b3] at c3; exact absurd c3 (by decide)
        · rcases alt2 with ⟨b1, b3⟩ | ⟨ss, b1, -, b4, b5, b6⟩
          · rw [b3] at c3; exact absurd c3 (by decide)
          · refine j34 h6 _ ps ss T6 hf8 ⟨a4, b4⟩ a5 b5 b6 ?_
            unfold t_all
            simp only [a1]
            rw [c2, if_pos rfl]
            simp only [b1]
end nvTc
