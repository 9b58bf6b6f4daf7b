/-! ===== the reference's questions ===== -/
set_option maxRecDepth 100000 in
theorem r_inA {h : nv_St} {v lo hi : Int} (hv : nv_InR v) (ha : nv_InR lo) (hb : nv_InR hi) : nv_R M_X6_in [vi v, vi lo, vi hi] h (fun r h' => h' = h ∧ r = some (vi (nv_b (!a_out v lo hi)))) := by
  have e : (!a_out v lo hi) = (decide (lo ≤ v) && decide (v ≤ hi)) := by
    unfold a_out
    by_cases h1 : v < lo
    · rw [decide_eq_true h1, decide_eq_false (show ¬ lo ≤ v by omega)]; rfl
    · by_cases h2 : hi < v
      · rw [decide_eq_false h1, decide_eq_true h2, decide_eq_false (show ¬ v ≤ hi by omega), Bool.and_false]; rfl
      · rw [decide_eq_false h1, decide_eq_false h2, decide_eq_true (show v ≤ hi by omega), decide_eq_true (show lo ≤ v by omega)]; rfl
  rw [e]
  exact r_in hv ha hb
set_option maxRecDepth 100000 in
theorem r_isPlankA {h : nv_St} {P : Nat} {v : Int} (hP5 : P ≤ 5) (hP : h 24 0 17 = P) (hv : nv_InR v) : nv_R M_X6_isPlank [vr 19 0, vi v] h (fun r h' => h' = h ∧ r = some (vi (nv_b (!a_bp P v)))) := by
  have e : (!a_bp P v) = (decide (0 ≤ v) && decide (v < (P : Int))) := by
    unfold a_bp
    by_cases h1 : v < 0
    · rw [decide_eq_true h1, decide_eq_false (show ¬ 0 ≤ v by omega)]; rfl
    · by_cases h2 : (P : Int) ≤ v
      · rw [decide_eq_false h1, decide_eq_true h2, decide_eq_false (show ¬ v < (P : Int) by omega), Bool.and_false]; rfl
      · rw [decide_eq_false h1, decide_eq_false h2, decide_eq_true (show v < (P : Int) by omega), decide_eq_true (show 0 ≤ v by omega)]; rfl
  rw [e]
  exact r_isPlank hP5 hP hv
set_option maxRecDepth 100000 in
theorem r_isSawyerA {h : nv_St} {S : Nat} {v : Int} (hS5 : S ≤ 5) (hS : h 24 0 28 = S) (hv : nv_InR v) : nv_R M_X6_isSawyer [vr 19 0, vi v] h (fun r h' => h' = h ∧ r = some (vi (nv_b (!a_bp S v)))) := by
  have e : (!a_bp S v) = (decide (0 ≤ v) && decide (v < (S : Int))) := by
    unfold a_bp
    by_cases h1 : v < 0
    · rw [decide_eq_true h1, decide_eq_false (show ¬ 0 ≤ v by omega)]; rfl
    · by_cases h2 : (S : Int) ≤ v
      · rw [decide_eq_false h1, decide_eq_true h2, decide_eq_false (show ¬ v < (S : Int) by omega), Bool.and_false]; rfl
      · rw [decide_eq_false h1, decide_eq_false h2, decide_eq_true (show v < (S : Int) by omega), decide_eq_true (show 0 ≤ v by omega)]; rfl
  rw [e]
  exact r_isSawyer hS5 hS hv
theorem bn_f {b : Bool} (h : (!b) = false) : b = true := by cases b <;> simp_all
theorem bn_t {b : Bool} (h : (!b) = true) : b = false := by cases b <;> simp_all
set_option maxRecDepth 100000 in
theorem r_sittersM {h : nv_St} {S : Nat} {x : Int} (hS5 : S ≤ 5) (hS : h 24 0 28 = S) (hr : ∀ s, s < S → nv_InR (h 24 0 (12 + s))) (hx0 : nv_InR x) : nv_R M_X6_sittersOn [vr 24 0, vi x] h (fun r h' => h' = h ∧ r = some (vi (m_set (fun s => h 24 0 (12 + s) = x) S))) := by
  refine nv_R.of rfl rfl (Nat.le_of_ble_eq_true rfl) ?_
  have loop := m_down (n := S) (G := fun p => ∀ j y : Int, j = p → y = m_set (fun s => h 24 0 (12 + s) = x) p → nv_V M_X6_sittersOn 4 [(0, vr 24 0), (1, vi x), (2, vi y), (3, vi j)] [] h (fun r h' => h' = h ∧ r = some (vi (m_set (fun s => h 24 0 (12 + s) = x) S)))) ?_ ?_
  · refine nv_go ok_X6_sittersOn [4] 10 ?_
    exact loop 0 (by omega) _ _ rfl rfl
  · intro j y hj hy
    refine nv_go ok_X6_sittersOn [4] 30 ?_
    refine w_ix 28 rfl (by omega) ?_
    refine w_ic (by omega) (by omega) (fun c => ?_) (fun c => ?_)
    · exact ⟨rfl, by rw [hy]⟩
    · exact absurd (by show h 24 0 28 ≤ j; omega) c
  · intro p hp ih j y hj hy
    have hl := m_set_lt (fun s => h 24 0 (12 + s) = x) p
    have h32 := m_pow5 (P := p) (by omega)
    have h1 := hr p hp
    refine nv_go ok_X6_sittersOn [4] 30 ?_
    refine w_ix 28 rfl (by omega) ?_
    refine w_ic (by omega) (by omega) (fun c => ?_) (fun c => ?_)
    · exact absurd c (by show ¬ (h 24 0 28 ≤ j); omega)
    · refine w_ix (12 + p) (by omega) (by omega) ?_
      refine w_ic h1 hx0 (fun c2 => ?_) (fun c2 => ?_)
      · refine w_ix p hj (by omega) ?_
        have e1 : h 24 0 (12 + p) = x := c2
        exact ih _ _ (by omega) (by rw [hy, nv_or_bit hl.1 hl.2 (by omega)]; simp [m_set, e1])
      · have e1 : ¬ h 24 0 (12 + p) = x := c2
        exact ih _ _ (by omega) (by rw [hy, nv_or_0 hl.1 (by omega)]; simp [m_set, e1])
set_option maxRecDepth 100000 in
theorem r_teethM {h : nv_St} {S : Nat} (hS5 : S ≤ 5) (hS : h 24 0 28 = S) : nv_R M_X6_teeth [vr 19 0] h (fun r h' => h' = h ∧ r = some (vi (m_sum (fun s => h 24 0 (7 + s)) S))) := by
  refine nv_R.of rfl rfl (Nat.le_of_ble_eq_true rfl) ?_
  have loop := m_down (n := S) (G := fun p => ∀ j x : Int, j = p → x = m_sum (fun s => h 24 0 (7 + s)) p → nv_V M_X6_teeth 4 [(0, vr 19 0), (1, vi x), (2, vi j)] [] h (fun r h' => h' = h ∧ r = some (vi (m_sum (fun s => h 24 0 (7 + s)) S)))) ?_ ?_
  · refine nv_go ok_X6_teeth [4] 10 ?_
    exact loop 0 (by omega) _ _ rfl rfl
  · intro j x hj hx
    refine nv_go ok_X6_teeth [4] 30 ?_
    refine w_ix 28 rfl (by omega) ?_
    refine w_ic (by omega) (by omega) (fun c => ?_) (fun c => ?_)
    · exact ⟨rfl, by rw [hx]⟩
    · exact absurd (by show h 24 0 28 ≤ j; omega) c
  · intro p hp ih j x hj hx
    refine nv_go ok_X6_teeth [4] 30 ?_
    refine w_ix 28 rfl (by omega) ?_
    refine w_ic (by omega) (by omega) (fun c => ?_) (fun c => ?_)
    · exact absurd c (by show ¬ (h 24 0 28 ≤ j); omega)
    · refine w_ix (7 + p) (by omega) (by omega) ?_
      exact ih _ _ (by omega) (by rw [hx]; rfl)
set_option maxRecDepth 100000 in
theorem r_cutsOn {h : nv_St} {P S : Nat} {B x : Int} (hN : m_ok (m_mm h 24) P S B) (hB : B < 1073741824) (hx0 : nv_InR x) : nv_R M_X6_cutsOn [vr 19 0, vi x] h (fun r h' => h' = h ∧ r = some (vi (m_sum (fun s => if m_mm h 24 6 s = x then m_cut (m_mm h 24) s else 0) S))) := by
  obtain ⟨hP5, hS5, hP, hS, hH, hDr, hpl, hsw⟩ := hN.m
  refine nv_R.of rfl rfl (Nat.le_of_ble_eq_true rfl) ?_
  have loop := m_down (n := S) (G := fun p => ∀ j y : Int, j = p → y = m_sum (fun s => if m_mm h 24 6 s = x then m_cut (m_mm h 24) s else 0) p → nv_V M_X6_cutsOn 4 [(0, vr 19 0), (1, vi x), (2, vi y), (3, vi j)] [] h (fun r h' => h' = h ∧ r = some (vi (m_sum (fun s => if m_mm h 24 6 s = x then m_cut (m_mm h 24) s else 0) S)))) ?_ ?_
  · refine nv_go ok_X6_cutsOn [4] 10 ?_
    exact loop 0 (by omega) _ _ rfl rfl
  · intro j y hj hy
    refine nv_go ok_X6_cutsOn [4] 30 ?_
    refine w_ix 28 rfl (by omega) ?_
    refine w_ic (by omega) (by omega) (fun c => ?_) (fun c => ?_)
    · exact ⟨rfl, by rw [hy]⟩
    · exact absurd (by show h 24 0 28 ≤ j; omega) c
  · intro p hp ih j y hj hy
    subst hj
    have h1 := (hsw p hp).2.2
    refine nv_go ok_X6_cutsOn [4] 30 ?_
    refine w_ix 28 rfl (by omega) ?_
    refine w_ic (by omega) (by omega) (fun c => ?_) (fun c => ?_)
    · exact absurd c (by show ¬ (h 24 0 28 ≤ (p : Int)); omega)
    · refine w_ix (12 + p) (by omega) (by omega) ?_
      refine w_ic (by omega) hx0 (fun c2 => ?_) (fun c2 => ?_)
      · have c2 : m_mm h 24 6 p = x := c2
        refine w_call (r_cuts_24 hN hB hp) (fun v h' hv => ?_)
        obtain ⟨rfl, rfl⟩ := hv
        exact ih _ _ (by omega) (by rw [hy]; show _ = m_sum _ p + (if m_mm h' 24 6 p = x then m_cut (m_mm h' 24) p else 0); rw [if_pos c2])
      · have c2 : ¬ m_mm h 24 6 p = x := c2
        exact ih _ _ (by omega) (by rw [hy]; show _ = m_sum _ p + (if m_mm h 24 6 p = x then m_cut (m_mm h 24) p else 0); rw [if_neg c2])
set_option maxRecDepth 100000 in
theorem r_noonOf {h : nv_St} {P S : Nat} {B : Int} (hN : m_ok (m_mm h 25) P S B) (hB : B < 1000000) : nv_R M_X6_noonOf [vr 19 0] h (fun r h' => m_frM 25 h h' ∧ r = some (vi (m_noon (m_mm h 25) P))) := by
  refine nv_R.of rfl rfl (Nat.le_of_ble_eq_true rfl) ?_
  generalize hNe : m_mm h 25 = N at hN
  have loop := m_down (n := 61) (G := fun n => ∀ (j : Int) (h1 : nv_St), j = n → m_eq P S (m_mm h1 25) (m_it n N) → m_frM 25 h h1 → (∀ k, k < n → m_all (m_it k N) P = false) → nv_V M_X6_noonOf 2 [(0, vr 19 0), (1, vi j)] [] h1 (fun r h' => m_frM 25 h h' ∧ r = some (vi (m_noon N P)))) ?_ ?_
  · refine nv_go ok_X6_noonOf [2] 10 ?_
    exact loop 0 (by omega) _ _ rfl (by rw [hNe]; exact m_eq.rfl') m_frM.rfl' (fun k hk => absurd hk (by omega))
  · intro j h1 hj he hf hno
    refine nv_go ok_X6_noonOf [2] 30 ?_
    refine w_ic (by omega) (by omega) (fun c => ?_) (fun c => ?_)
    · exact ⟨hf, by unfold m_noon; rw [m_find_none (fun k _ hk => hno k (by omega))]⟩
    · exact absurd (by show (60 : Int) < j; omega) c
  · intro n hn ih j h1 hj he hf hno
    have hok := m_it_ok hN n
    have hok1 := he.ok hok
    obtain ⟨hP5, hS5, hP, hS, hH, hDr, hpl, hsw⟩ := hok1.m
    refine nv_go ok_X6_noonOf [2] 40 ?_
    refine w_ic (by omega) (by omega) (fun c => ?_) (fun c => ?_)
    · exact absurd c (by show ¬ ((60 : Int) < j); omega)
    · refine w_call (r_isAll_25 hP5 hP (fun p hp => (hpl p hp).2.2)) (fun v h' hv => ?_)
      obtain ⟨rfl, rfl⟩ := hv
      have ea : decide (∀ p, p < P → h' 25 0 (2 + p) = 0) = m_all (m_it n N) P := by
        rw [← m_all_eq (N := m_mm h' 25) (fun p hp => (he.2.1 p hp).2.2)]
        rfl
      refine w_ifb (fun c2 => ?_) (fun c2 => ?_)
      · rw [ea] at c2
        refine w_call (r_hourIn_25 hok1 (by omega) (hop := 0) (by decide) (by decide)) (fun v h2 hv => ?_)
        obtain ⟨rfl, he2, -, hf2⟩ := hv
        rw [m_hc_0, m_hourC_cut] at he2
        refine ih _ _ (by omega) (he2.trans' (m_hour_eq he hok1)) (hf.trans' hf2) (fun k hk => ?_)
        by_cases e : k = n
        · rw [e]; exact c2
        · exact hno k (by omega)
      · rw [ea] at c2
        exact ⟨hf, by unfold m_noon; rw [m_find_some (k := n) (by omega) (by omega) (fun i _ hi => hno i hi) c2, hj]⟩
theorem MI.now {h : nv_St} {a : a_S} (C : MI h a) : m_ok (m_mm h 24) (a_P a) (a_Sw a) 9999 ∧ m_eq (a_P a) (a_Sw a) (m_mm h 24) (a_N a) ∧ m_ok (a_N a) (a_P a) (a_Sw a) 9999 := ⟨C.1.2.1.ok C.1.1, C.1.2.1, C.1.1⟩
theorem gQ.same {h : nv_St} {a : a_S} {x : Int} (k : MI h a) : gQ h a x (some (vi x)) h := ⟨rfl, k, fun _ _ _ => rfl⟩
theorem gQ.eq {h h' : nv_St} {a : a_S} {x y : Int} (e : y = x) (k : gQ h a x (some (vi x)) h') : gQ h a x (some (vi y)) h' := by rw [e]; exact k
theorem cQ.eq {h h' : nv_St} {a : a_S} {x y : Int} (e : y = x) (k : cQ h a x (some (vi x)) h') : cQ h a x (some (vi y)) h' := by rw [e]; exact k
section nvG
variable {h : nv_St} {a : a_S}
set_option maxRecDepth 100000 in
theorem r_of_g (C : MI h a) {v w : Int} (hv : nv_InR v) (hw : nv_InR w) : nv_R M_X6_of [vr 19 0, vi v, vi w] h (gQ h a (a_of a v w)) := by
  obtain ⟨hok, he, hNok⟩ := C.now
  obtain ⟨hP5, hS5, hP, hS, hH, hDr, hpl, hsw⟩ := hok.m
  refine nv_R.of rfl rfl (Nat.le_of_ble_eq_true rfl) ?_
  refine nv_go ok_X6_of [] 40 ?_
  refine w_call (r_isPlankA hP5 hP hv) (fun r h' hr => ?_)
  obtain ⟨rfl, rfl⟩ := hr
  have q_ok : ∀ z : Int, z = a_of a v w → gQ h' a (a_of a v w) (some (vi z)) h' := fun z hz => gQ.eq hz (gQ.same C)
  refine w_ifb (fun c => ?_) (fun c => ?_)
  · exact q_ok _ (by unfold a_of; rw [if_pos (bn_f c)])
  · have c := bn_t c
    obtain ⟨p, rfl, hp⟩ := a_bp_f c
    have hb : ¬ a_bp (a_P a) (p : Int) = true := by rw [c]; decide
    obtain ⟨e1, e2, e3⟩ := he.2.1 p hp
    have ea : ∀ x, x = a_of a p w ↔ x = (if w = 0 then a_N a 1 p else if w = 1 then a_N a 2 p else if w = 2 then a_N a 3 p else if w = 3 then m_set (fun s => a_N a 6 s = p) (a_Sw a) else if w = 4 then m_sum (fun s => if a_N a 6 s = p then m_cut (a_N a) s else 0) (a_Sw a) else -1) := by
      intro x; unfold a_of; rw [if_neg hb]; rfl
    refine And.intro hw (And.intro (fun c => ?_) (And.intro (fun c => ?_) (And.intro (fun c => ?_) (And.intro (fun c => ?_) (And.intro (fun c => ?_) (And.intro (fun c => ?_) trivial))))))
    · have c : w < 0 ∨ (0 : Int) + 5 ≤ w := c
      exact q_ok _ ((ea _).mpr (by rw [if_neg (by omega), if_neg (by omega), if_neg (by omega), if_neg (by omega), if_neg (by omega)]))
    · refine w_ix (18 + p) (by omega) (by omega) ?_
      exact q_ok _ ((ea _).mpr (by rw [if_pos (by omega)]; exact e1))
    · refine w_ix (23 + p) (by omega) (by omega) ?_
      exact q_ok _ ((ea _).mpr (by rw [if_neg (by omega), if_pos (by omega)]; exact e2))
    · refine w_ix (2 + p) (by omega) (by omega) ?_
      exact q_ok _ ((ea _).mpr (by rw [if_neg (by omega), if_neg (by omega), if_pos (by omega)]; exact e3))
    · refine w_call (r_sittersM hS5 hS (fun s hs => by have := (hsw s hs).2.2; exact ⟨by omega, by omega⟩) (by omega)) (fun r h2 hr => ?_)
      obtain ⟨rfl, rfl⟩ := hr
      exact q_ok _ ((ea _).mpr (by rw [if_neg (by omega), if_neg (by omega), if_neg (by omega), if_pos (by omega)]; exact m_set_eq (fun s hs => by have e : h2 24 0 (12 + s) = a_N a 6 s := (he.2.2 s hs).2.2; rw [e])))
    · refine w_call (r_cutsOn hok (by omega) (by omega)) (fun r h2 hr => ?_)
      obtain ⟨rfl, rfl⟩ := hr
      exact q_ok _ ((ea _).mpr (by rw [if_neg (by omega), if_neg (by omega), if_neg (by omega), if_neg (by omega), if_pos (by omega)]; exact m_sum_eq (fun s hs => by rw [(he.2.2 s hs).2.2, m_cut_eq he hok hs])))
set_option maxRecDepth 100000 in
theorem r_at_g (C : MI h a) {v w : Int} (hv : nv_InR v) (hw : nv_InR w) : nv_R M_X6_at [vr 19 0, vi v, vi w] h (gQ h a (a_at a v w)) := by
  obtain ⟨hok, he, hNok⟩ := C.now
  obtain ⟨hP5, hS5, hP, hS, hH, hDr, hpl, hsw⟩ := hok.m
  refine nv_R.of rfl rfl (Nat.le_of_ble_eq_true rfl) ?_
  refine nv_go ok_X6_at [] 40 ?_
  refine w_call (r_isSawyerA hS5 hS hv) (fun r h' hr => ?_)
  obtain ⟨rfl, rfl⟩ := hr
  have q_ok : ∀ z : Int, z = a_at a v w → gQ h' a (a_at a v w) (some (vi z)) h' := fun z hz => gQ.eq hz (gQ.same C)
  refine w_ifb (fun c => ?_) (fun c => ?_)
  · exact q_ok _ (by unfold a_at; rw [if_pos (bn_f c)])
  · have c := bn_t c
    obtain ⟨s, rfl, hs⟩ := a_bp_f c
    have hb : ¬ a_bp (a_Sw a) (s : Int) = true := by rw [c]; decide
    obtain ⟨e4, e5, e6⟩ := he.2.2 s hs
    have ea : ∀ x, x = a_at a s w ↔ x = (if w = 0 then a_N a 4 s else if w = 1 then a_N a 5 s else if w = 2 then a_N a 6 s else if w = 3 then m_cut (a_N a) s else -1) := by
      intro x; unfold a_at; rw [if_neg hb]; rfl
    refine And.intro hw (And.intro (fun c => ?_) (And.intro (fun c => ?_) (And.intro (fun c => ?_) (And.intro (fun c => ?_) (And.intro (fun c => ?_) trivial)))))
    · have c : w < 0 ∨ (0 : Int) + 4 ≤ w := c
      exact q_ok _ ((ea _).mpr (by rw [if_neg (by omega), if_neg (by omega), if_neg (by omega), if_neg (by omega)]))
    · refine w_ix (29 + s) (by omega) (by omega) ?_
      exact q_ok _ ((ea _).mpr (by rw [if_pos (by omega)]; exact e4))
    · refine w_ix (7 + s) (by omega) (by omega) ?_
      exact q_ok _ ((ea _).mpr (by rw [if_neg (by omega), if_pos (by omega)]; exact e5))
    · refine w_ix (12 + s) (by omega) (by omega) ?_
      exact q_ok _ ((ea _).mpr (by rw [if_neg (by omega), if_neg (by omega), if_pos (by omega)]; exact e6))
    · refine w_call (r_cuts_24 hok (by omega) hs) (fun r h2 hr => ?_)
      obtain ⟨rfl, rfl⟩ := hr
      exact q_ok _ ((ea _).mpr (by rw [if_neg (by omega), if_neg (by omega), if_neg (by omega), if_pos (by omega)]; exact m_cut_eq he hok hs))
set_option maxRecDepth 100000 in
theorem r_count_g (C : MI h a) {w : Int} (hw : nv_InR w) : nv_R M_X6_count [vr 19 0, vi w] h (gQ h a (a_count a w)) := by
  obtain ⟨hok, he, hNok⟩ := C.now
  obtain ⟨hP5, hS5, hP, hS, hH, hDr, hpl, hsw⟩ := hok.m
  have n3 := C.1.2.2.1.1
  have q_ok : ∀ z : Int, z = a_count a w → gQ h a (a_count a w) (some (vi z)) h := fun z hz => gQ.eq hz (gQ.same C)
  refine nv_R.of rfl rfl (Nat.le_of_ble_eq_true rfl) ?_
  refine nv_go ok_X6_count [] 40 ?_
  refine And.intro hw (And.intro (fun c => ?_) (And.intro (fun c => ?_) (And.intro (fun c => ?_) (And.intro (fun c => ?_) (And.intro (fun c => ?_) (And.intro (fun c => ?_) (And.intro (fun c => ?_) (And.intro (fun c => ?_) (And.intro (fun c => ?_) trivial)))))))))
  · have c : w < 0 ∨ (0 : Int) + 8 ≤ w := c
    exact q_ok _ (by unfold a_count; rw [if_neg (by omega), if_neg (by omega), if_neg (by omega), if_neg (by omega), if_neg (by omega), if_neg (by omega), if_neg (by omega), if_neg (by omega)])
  · refine w_ix 17 rfl (by omega) ?_
    exact q_ok _ (by unfold a_count; rw [if_pos (by omega)]; exact hP)
  · refine w_ix 28 rfl (by omega) ?_
    exact q_ok _ (by unfold a_count; rw [if_neg (by omega), if_pos (by omega)]; exact hS)
  · refine w_ix 0 rfl (by omega) ?_
    exact q_ok _ (by unfold a_count; rw [if_neg (by omega), if_neg (by omega), if_pos (by omega)]; exact he.1 2 (by omega))
  · refine w_call (r_fallenM_24 hP5 hP (fun p hp => (hpl p hp).2.2)) (fun r h2 hr => ?_)
    obtain ⟨rfl, rfl⟩ := hr
    exact q_ok _ (by unfold a_count; rw [if_neg (by omega), if_neg (by omega), if_neg (by omega), if_pos (by omega)]; exact m_set_eq (fun p hp => by have e : h2 24 0 (2 + p) = a_N a 3 p := (he.2.1 p hp).2.2; rw [e]))
  · refine w_call (r_leftOf_24 hP5 hP) (fun r h2 hr => ?_)
    obtain ⟨rfl, rfl⟩ := hr
    exact q_ok _ (by unfold a_count; rw [if_neg (by omega), if_neg (by omega), if_neg (by omega), if_neg (by omega), if_pos (by omega)]; exact m_sum_eq (fun p hp => (he.2.1 p hp).2.2))
  · refine w_call (r_teethM hS5 hS) (fun r h2 hr => ?_)
    obtain ⟨rfl, rfl⟩ := hr
    exact q_ok _ (by unfold a_count; rw [if_neg (by omega), if_neg (by omega), if_neg (by omega), if_neg (by omega), if_neg (by omega), if_pos (by omega)]; exact m_sum_eq (fun p hp => (he.2.2 p hp).2.1))
  · refine w_call (r_sittersM hS5 hS (fun s hs => by have := (hsw s hs).2.2; exact ⟨by omega, by omega⟩) (by omega)) (fun r h2 hr => ?_)
    obtain ⟨rfl, rfl⟩ := hr
    exact q_ok _ (by unfold a_count; rw [if_neg (by omega), if_neg (by omega), if_neg (by omega), if_neg (by omega), if_neg (by omega), if_neg (by omega), if_pos (by omega)]; exact m_set_eq (fun s hs => by have e : h2 24 0 (12 + s) = a_N a 6 s := (he.2.2 s hs).2.2; rw [e]))
  · refine w_ix 34 rfl (by omega) ?_
    exact q_ok _ (by unfold a_count; rw [if_neg (by omega), if_neg (by omega), if_neg (by omega), if_neg (by omega), if_neg (by omega), if_neg (by omega), if_neg (by omega), if_pos (by omega)]; exact n3)
theorem m_frM.beg {h h' : nv_St} (k : ∀ t i, ¬ (t = 25 ∧ i = 0) → h' t i = h t i) : m_frM 25 h h' := fun t i hn => k t i (by rintro ⟨rfl, rfl⟩; exact hn ⟨Or.inl rfl, rfl⟩)
set_option maxRecDepth 100000 in
theorem r_left_g (C : MI h a) {v n : Int} (hv : nv_InR v) (hn : nv_InR n) : nv_R M_X6_left [vr 19 0, vi v, vi n] h (gQ h a (a_left a v n)) := by
  obtain ⟨hok, he, hNok⟩ := C.now
  obtain ⟨hP5, hS5, hP, hS, hH, hDr, hpl, hsw⟩ := hok.m
  refine nv_R.of rfl rfl (Nat.le_of_ble_eq_true rfl) ?_
  refine nv_go ok_X6_left [] 40 ?_
  refine w_call (r_isPlankA hP5 hP hv) (fun r h' hr => ?_)
  obtain ⟨rfl, rfl⟩ := hr
  refine w_ifb (fun c => ?_) (fun c => ?_)
  · exact gQ.eq (by unfold a_left; rw [if_pos (bn_f c)]) (gQ.same C)
  · have c := bn_t c
    have hb : ¬ a_bp (a_P a) v = true := by rw [c]; decide
    refine w_call (r_inA hn (by omega) (by omega)) (fun r h2 hr => ?_)
    obtain ⟨rfl, rfl⟩ := hr
    refine w_ifb (fun c2 => ?_) (fun c2 => ?_)
    · exact gQ.eq (by unfold a_left; rw [if_neg hb, if_pos (bn_f c2)]) (gQ.same C)
    · have c2 := bn_t c2
      have hb2 : ¬ a_out n 0 60 = true := by rw [c2]; decide
      obtain ⟨p, rfl, hp⟩ := a_bp_f c
      have h60 := a_out_f c2
      obtain ⟨m, rfl⟩ : ∃ m : Nat, n = m := ⟨n.toNat, by omega⟩
      refine w_call r_begin (fun r h3 hr => ?_)
      obtain ⟨rfl, hb3, hf3⟩ := hr
      have he3 := (g_eq (P := a_P a) (S := a_Sw a) hP5 hS5 hb3).trans' he
      have hok3 := he3.ok hNok
      refine w_call (r_goOn hok3 (by omega) (by omega)) (fun r h4 hr => ?_)
      obtain ⟨rfl, he4, hf4⟩ := hr
      have he5 := he4.trans' (m_it_eq he3 hok3 m)
      refine w_ix (2 + p) (by omega) (by omega) ?_
      exact gQ.eq (by unfold a_left; rw [if_neg hb, if_neg hb2]; exact (he5.2.1 p hp).2.2) (gQ.tried C ((m_frM.beg hf3).trans' hf4))
set_option maxRecDepth 100000 in
theorem r_ahead_g (C : MI h a) {v n w : Int} (hv : nv_InR v) (hn : nv_InR n) (hw : nv_InR w) : nv_R M_X6_ahead [vr 19 0, vi v, vi n, vi w] h (gQ h a (a_ahead a v n w)) := by
  obtain ⟨hok, he, hNok⟩ := C.now
  obtain ⟨hP5, hS5, hP, hS, hH, hDr, hpl, hsw⟩ := hok.m
  refine nv_R.of rfl rfl (Nat.le_of_ble_eq_true rfl) ?_
  refine nv_go ok_X6_ahead [] 60 ?_
  refine w_call (r_isSawyerA hS5 hS hv) (fun r h' hr => ?_)
  obtain ⟨rfl, rfl⟩ := hr
  refine w_ifb (fun c => ?_) (fun c => ?_)
  · exact gQ.eq (by unfold a_ahead; rw [if_pos (bn_f c)]) (gQ.same C)
  · have c := bn_t c
    have hb : ¬ a_bp (a_Sw a) v = true := by rw [c]; decide
    refine w_call (r_inA hn (by omega) (by omega)) (fun r h2 hr => ?_)
    obtain ⟨rfl, rfl⟩ := hr
    refine w_ifb (fun c2 => ?_) (fun c2 => ?_)
    · exact gQ.eq (by unfold a_ahead; rw [if_neg hb, if_pos (bn_f c2)]) (gQ.same C)
    · have c2 := bn_t c2
      have hb2 : ¬ a_out n 0 60 = true := by rw [c2]; decide
      refine w_call (r_inA hw (by omega) (by omega)) (fun r h2 hr => ?_)
      obtain ⟨rfl, rfl⟩ := hr
      refine w_ifb (fun c3 => ?_) (fun c3 => ?_)
      · exact gQ.eq (by unfold a_ahead; rw [if_neg hb, if_neg hb2, if_pos (bn_f c3)]) (gQ.same C)
      · have c3 := bn_t c3
        have hb3 : ¬ a_out w 0 1 = true := by rw [c3]; decide
        obtain ⟨s, rfl, hs⟩ := a_bp_f c
        have h60 := a_out_f c2
        obtain ⟨m, rfl⟩ : ∃ m : Nat, n = m := ⟨n.toNat, by omega⟩
        refine w_call r_begin (fun r h3 hr => ?_)
        obtain ⟨rfl, hg3, hf3⟩ := hr
        have he3 := (g_eq (P := a_P a) (S := a_Sw a) hP5 hS5 hg3).trans' he
        have hok3 := he3.ok hNok
        refine w_call (r_goOn hok3 (by omega) (by omega)) (fun r h4 hr => ?_)
        obtain ⟨rfl, he4, hf4⟩ := hr
        have he5 := he4.trans' (m_it_eq he3 hok3 m)
        refine w_if hw (fun c4 => ?_) (fun c4 => ?_)
        · have c4 : w = 0 := c4
          refine w_ix (7 + s) (by omega) (by omega) ?_
          exact gQ.eq (by unfold a_ahead; rw [if_neg hb, if_neg hb2, if_neg hb3, if_pos c4]; exact (he5.2.2 s hs).2.1) (gQ.tried C ((m_frM.beg hf3).trans' hf4))
        · have c4 : ¬ w = 0 := c4
          refine w_ix (12 + s) (by omega) (by omega) ?_
          exact gQ.eq (by unfold a_ahead; rw [if_neg hb, if_neg hb2, if_neg hb3, if_neg c4]; exact (he5.2.2 s hs).2.2) (gQ.tried C ((m_frM.beg hf3).trans' hf4))
set_option maxRecDepth 100000 in
theorem r_then_g (C : MI h a) {n : Int} (hn : nv_InR n) : nv_R M_X6_then [vr 19 0, vi n] h (gQ h a (a_then a n)) := by
  obtain ⟨hok, he, hNok⟩ := C.now
  obtain ⟨hP5, hS5, hP, hS, hH, hDr, hpl, hsw⟩ := hok.m
  refine nv_R.of rfl rfl (Nat.le_of_ble_eq_true rfl) ?_
  refine nv_go ok_X6_then [] 60 ?_
  refine w_call (r_inA hn (by omega) (by omega)) (fun r h2 hr => ?_)
  obtain ⟨rfl, rfl⟩ := hr
  refine w_ifb (fun c2 => ?_) (fun c2 => ?_)
  · exact gQ.eq (by unfold a_then; rw [if_pos (bn_f c2)]) (gQ.same C)
  · have c2 := bn_t c2
    have hb2 : ¬ a_out n 0 60 = true := by rw [c2]; decide
    have h60 := a_out_f c2
    obtain ⟨m, rfl⟩ : ∃ m : Nat, n = m := ⟨n.toNat, by omega⟩
    refine w_call r_begin (fun r h3 hr => ?_)
    obtain ⟨rfl, hg3, hf3⟩ := hr
    have he3 := (g_eq (P := a_P a) (S := a_Sw a) hP5 hS5 hg3).trans' he
    have hok3 := he3.ok hNok
    refine w_call (r_goOn hok3 (by omega) (by omega)) (fun r h4 hr => ?_)
    obtain ⟨rfl, he4, hf4⟩ := hr
    have he5 := he4.trans' (m_it_eq he3 hok3 m)
    have hok5 := (he5.ok (m_it_ok hNok m)).m
    refine w_call (r_fallenM_25 hP5 hok5.2.2.1 (fun p hp => (hok5.2.2.2.2.2.2.1 p hp).2.2)) (fun r h6 hr => ?_)
    obtain ⟨rfl, rfl⟩ := hr
    exact gQ.eq (by unfold a_then; rw [if_neg hb2]; exact m_set_eq (fun p hp => by have e : h6 25 0 (2 + p) = m_it m (a_N a) 3 p := (he5.2.1 p hp).2.2; rw [e]; rfl)) (gQ.tried C ((m_frM.beg hf3).trans' hf4))
set_option maxRecDepth 100000 in
theorem r_falls_g (C : MI h a) {v : Int} (hv : nv_InR v) : nv_R M_X6_falls [vr 19 0, vi v] h (gQ h a (a_falls a v)) := by
  obtain ⟨hok, he, hNok⟩ := C.now
  obtain ⟨hP5, hS5, hP, hS, hH, hDr, hpl, hsw⟩ := hok.m
  refine nv_R.of rfl rfl (Nat.le_of_ble_eq_true rfl) ?_
  refine nv_go ok_X6_falls [16] 60 ?_
  refine w_call (r_isPlankA hP5 hP hv) (fun r h' hr => ?_)
  obtain ⟨rfl, rfl⟩ := hr
  refine w_ifb (fun c => ?_) (fun c => ?_)
  · exact gQ.eq (by unfold a_falls; rw [if_pos (bn_f c)]) (gQ.same C)
  · have c := bn_t c
    obtain ⟨p, rfl, hp⟩ := a_bp_f c
    have hb : ¬ a_bp (a_P a) (p : Int) = true := by rw [c]; decide
    have ea : a_falls a p = m_find (fun n => decide (m_it n (a_N a) 3 p = 0)) 61 0 := by unfold a_falls; rw [if_neg hb]; rfl
    have loop := m_down (n := 61) (G := fun n => ∀ (j : Int) (h1 : nv_St), j = n → m_eq (a_P a) (a_Sw a) (m_mm h1 25) (m_it n (a_N a)) → m_frM 25 h' h1 → (∀ k, k < n → ¬ m_it k (a_N a) 3 p = 0) → nv_V M_X6_falls 16 [(0, vr 19 0), (1, vi p), (2, vi j)] [] h1 (gQ h' a (a_falls a p))) ?_ ?_
    · refine w_call r_begin (fun r h3 hr => ?_)
      obtain ⟨rfl, hg3, hf3⟩ := hr
      exact loop 0 (by omega) _ _ rfl ((g_eq hP5 hS5 hg3).trans' he) (m_frM.beg hf3) (fun k hk => absurd hk (by omega))
    · intro j h1 hj he1 hf hno
      refine nv_go ok_X6_falls [16] 20 ?_
      refine w_ic (by omega) (by omega) (fun c2 => ?_) (fun c2 => ?_)
      · exact gQ.eq (by rw [ea, m_find_none (fun k _ hk => decide_eq_false (hno k (by omega)))]) (gQ.tried C hf)
      · exact absurd (by show (60 : Int) < j; omega) c2
    · intro n hn ih j h1 hj he1 hf hno
      have hok1 := he1.ok (m_it_ok hNok n)
      have e3 : h1 25 0 (2 + p) = m_it n (a_N a) 3 p := (he1.2.1 p hp).2.2
      have h39 := (hok1.m.2.2.2.2.2.2.1 p hp).2.2
      refine nv_go ok_X6_falls [16] 30 ?_
      refine w_ic (by omega) (by omega) (fun c2 => ?_) (fun c2 => ?_)
      · exact absurd c2 (by show ¬ ((60 : Int) < j); omega)
      · refine w_ix (2 + p) (by omega) (by omega) ?_
        refine w_if (by omega) (fun c3 => ?_) (fun c3 => ?_)
        · have c3 : h1 25 0 (2 + p) = 0 := c3
          exact gQ.eq (by rw [ea, hj, m_find_some (k := n) (by omega) (by omega) (fun i _ hi => decide_eq_false (hno i hi)) (decide_eq_true (by rw [← e3]; exact c3))]) (gQ.tried C hf)
        · have c3 : ¬ h1 25 0 (2 + p) = 0 := c3
          refine w_call (r_hourIn_25 hok1 (by omega) (hop := 0) (by decide) (by decide)) (fun v h2 hv => ?_)
          obtain ⟨rfl, he2, -, hf2⟩ := hv
          rw [m_hc_0, m_hourC_cut] at he2
          refine ih _ _ (by omega) (he2.trans' (m_hour_eq he1 hok1)) (hf.trans' hf2) (fun k hk => ?_)
          by_cases e : k = n
          · rw [e, ← e3]; exact c3
          · exact hno k (by omega)
set_option maxRecDepth 100000 in
theorem r_noon_g (C : MI h a) : nv_R M_X6_noon [vr 19 0] h (gQ h a (a_noon a)) := by
  obtain ⟨hok, he, hNok⟩ := C.now
  refine nv_R.of rfl rfl (Nat.le_of_ble_eq_true rfl) ?_
  refine nv_go ok_X6_noon [] 60 ?_
  refine w_call r_begin (fun r h3 hr => ?_)
  obtain ⟨rfl, hg3, hf3⟩ := hr
  have he3 := (g_eq (P := a_P a) (S := a_Sw a) hok.1 hok.2.1 hg3).trans' he
  have hok3 := he3.ok hNok
  refine w_call (r_noonOf hok3 (by decide)) (fun r h4 hr => ?_)
  obtain ⟨hf, rfl⟩ := hr
  exact gQ.eq (m_noon_eq he3 hok3) (gQ.tried C ((m_frM.beg hf3).trans' hf))
theorem m_mm_put {h : nv_St} {c t j : Nat} {x : Int} (ht : (t = 3 ∧ j < 5) ∨ (t = 4 ∧ j < 5) ∨ (t = 5 ∧ j < 5) ∨ (t = 6 ∧ j < 5)) : m_eq 5 5 (m_mm (nv_up h c 0 ((if t = 3 then 2 else if t = 4 then 29 else if t = 5 then 7 else 12) + j) x) c) (m_put (m_mm h c) t j x) := by
  refine ⟨fun k hk => ?_, fun p hp => ⟨?_, ?_, ?_⟩, fun s hs => ⟨?_, ?_, ?_⟩⟩
  all_goals rcases ht with ⟨rfl, hj⟩ | ⟨rfl, hj⟩ | ⟨rfl, hj⟩ | ⟨rfl, hj⟩
  all_goals unfold m_put m_mm nv_up
  all_goals (try (have : k = 0 ∨ k = 1 ∨ k = 2 ∨ k = 3 := by omega) <;> (try rcases this with rfl | rfl | rfl | rfl))
  all_goals simp
  all_goals (try omega)
  all_goals (try (intro hh; omega))
theorem m_eq.le {P S P' S' : Nat} {N N' : m_NN} (h : m_eq P S N N') (hP : P' ≤ P) (hS : S' ≤ S) : m_eq P' S' N N' := ⟨h.1, fun p hp => h.2.1 p (by omega), fun s hs => h.2.2 s (by omega)⟩
theorem m_frM.up {c : Nat} {h h1 : nv_St} (a : m_frM c h h1) {j : Nat} {x : Int} : m_frM c h (nv_up h1 c 0 j x) := by
  intro t i hn
  rw [← a t i hn]
  funext k
  unfold nv_up
  rw [if_neg]
  rintro ⟨rfl, rfl, -⟩
  exact hn ⟨Or.inl rfl, rfl⟩
set_option maxRecDepth 100000 in
theorem r_without_g (C : MI h a) {v : Int} (hv : nv_InR v) : nv_R M_X6_without [vr 19 0, vi v] h (gQ h a (a_without a v)) := by
  obtain ⟨hok, he, hNok⟩ := C.now
  obtain ⟨hP5, hS5, hP, hS, hH, hDr, hpl, hsw⟩ := hok.m
  refine nv_R.of rfl rfl (Nat.le_of_ble_eq_true rfl) ?_
  refine nv_go ok_X6_without [] 60 ?_
  refine w_call (r_isSawyerA hS5 hS hv) (fun r h' hr => ?_)
  obtain ⟨rfl, rfl⟩ := hr
  refine w_ifb (fun c => ?_) (fun c => ?_)
  · exact gQ.eq (by unfold a_without; rw [if_pos (bn_f c)]) (gQ.same C)
  · have c := bn_t c
    obtain ⟨s, rfl, hs⟩ := a_bp_f c
    have hb : ¬ a_bp (a_Sw a) (s : Int) = true := by rw [c]; decide
    refine w_call r_begin (fun r h3 hr => ?_)
    obtain ⟨rfl, hg3, hf3⟩ := hr
    have he3 := (g_eq (P := a_P a) (S := a_Sw a) hok.1 hok.2.1 hg3).trans' he
    refine w_ix (12 + s) (by omega) (by omega) ?_
    have he4 : m_eq (a_P a) (a_Sw a) (m_mm (nv_up h3 25 0 (12 + s) (-4)) 25) (m_put (a_N a) 6 s (-4)) := ((m_mm_put (h := h3) (c := 25) (t := 6) (j := s) (x := -4) (by omega)).le hP5 hS5).trans' (m_put_eq he3)
    have hok4 := he4.ok (m_put_ok6 hNok (Or.inl rfl))
    refine w_call (r_noonOf hok4 (by decide)) (fun r h4 hr => ?_)
    obtain ⟨hf, rfl⟩ := hr
    exact gQ.eq (by unfold a_without; rw [if_neg hb]; exact m_noon_eq he4 hok4) (gQ.tried C ((m_frM.beg hf3).up.trans' hf))
end nvG
