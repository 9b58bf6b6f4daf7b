/-! ===== the class's questions ===== -/
theorem w_ifb {b : Bool} {A B : Prop} (f : b = false → A) (g : b = true → B) : nv_InR (nv_b b) ∧ (c_eq (nv_b b) 0 → A) ∧ (¬ c_eq (nv_b b) 0 → B) := by
  cases b
  · exact ⟨by decide, fun _ => f rfl, fun c => absurd rfl c⟩
  · exact ⟨by decide, fun c => absurd c (by decide), fun _ => g rfl⟩
theorem m_set_bit {f : Nat → Prop} [DecidablePred f] : ∀ {n s : Nat}, s < n → (m_bit (m_set f n) s = decide (f s))
  | 0, s, h => by omega
  | n + 1, s, h => by
    have hl := m_set_lt f n
    unfold m_bit
    apply decide_eq_decide.mpr
    have hs0 : (0 : Int) < 2 ^ s := Int.pow_pos (by decide)
    have es : m_set f (n + 1) = m_set f n + (if f n then 2 ^ n else 0) := rfl
    rw [es]
    by_cases e : s = n
    · subst e
      by_cases hf : f s
      · rw [if_pos hf, Int.add_ediv_of_dvd_right (Int.dvd_refl _), Int.ediv_self (by omega), Int.ediv_eq_zero_of_lt hl.1 hl.2]
        simp [hf]
      · rw [if_neg hf, Int.add_zero, Int.ediv_eq_zero_of_lt hl.1 hl.2]
        simp [hf]
    · have ih := m_set_bit (f := f) (n := n) (s := s) (by omega)
      unfold m_bit at ih
      have ih := decide_eq_decide.mp ih
      rw [← ih]
      by_cases hf : f n
      · rw [if_pos hf]
        have e2 : (2 : Int) ^ n = 2 ^ s * (2 * 2 ^ (n - s - 1)) := by
          rw [← Int.mul_assoc, Int.mul_comm (2 ^ s) 2, Int.mul_assoc, ← Int.pow_add, Int.mul_comm, ← Int.pow_succ]
          congr 1
          omega
        rw [e2, Int.add_mul_ediv_left _ _ (by omega)]
        generalize (2 : Int) ^ (n - s - 1) = z
        generalize m_set f n / 2 ^ s = y
        clear hl hs0 es ih e2
        omega
      · rw [if_neg hf, Int.add_zero]
def a_bp (P : Nat) (v : Int) : Bool := decide (v < 0) || decide ((P : Int) ≤ v)
theorem a_bp_f {P : Nat} {v : Int} (h : a_bp P v = false) : ∃ p : Nat, v = p ∧ p < P := by
  unfold a_bp at h
  rw [Bool.or_eq_false_iff, decide_eq_false_iff_not, decide_eq_false_iff_not] at h
  exact ⟨v.toNat, by omega, by omega⟩
def a_out (v lo hi : Int) : Bool := decide (v < lo) || decide (hi < v)
theorem a_out_f {v lo hi : Int} (h : a_out v lo hi = false) : lo ≤ v ∧ v ≤ hi := by
  unfold a_out at h
  rw [Bool.or_eq_false_iff, decide_eq_false_iff_not, decide_eq_false_iff_not] at h
  omega
set_option maxRecDepth 100000 in
theorem r_outA {h : nv_St} {v a b : Int} (hv : nv_InR v) (ha : nv_InR a) (hb : nv_InR b) : nv_R M_X5_outside [vi v, vi a, vi b] h (fun r h' => h' = h ∧ r = some (vi (nv_b (a_out v a b)))) := r_outside hv ha hb
set_option maxRecDepth 100000 in
theorem r_noPlank {h : nv_St} {P : Nat} {v : Int} (hP5 : P ≤ 5) (hP : h 0 0 0 = P) (hv : nv_InR v) : nv_R M_X5_noPlank [vr 18 0, vi v] h (fun r h' => h' = h ∧ r = some (vi (nv_b (a_bp P v)))) := by
  refine nv_R.of rfl rfl (Nat.le_of_ble_eq_true rfl) ?_
  refine nv_go ok_X5_noPlank [] 30 ?_
  unfold a_bp
  refine w_if hv (fun c => ?_) (fun c => ?_)
  · have c : v < 0 := c
    exact And.intro (Or.inr rfl) ⟨rfl, by rw [decide_eq_true c]; rfl⟩
  · have c : ¬ v < 0 := c
    refine w_ic hv (by omega) (fun c2 => ?_) (fun c2 => ?_)
    · have c2 : v < h 0 0 0 := c2
      exact And.intro (Or.inl rfl) ⟨rfl, by rw [decide_eq_false c, decide_eq_false (show ¬ (P : Int) ≤ v by omega)]; rfl⟩
    · have c2 : ¬ v < h 0 0 0 := c2
      exact And.intro (Or.inr rfl) ⟨rfl, by rw [decide_eq_false c, decide_eq_true (show (P : Int) ≤ v by omega)]; rfl⟩
set_option maxRecDepth 100000 in
theorem r_noSawyer {h : nv_St} {S : Nat} {v : Int} (hS5 : S ≤ 5) (hS : h 0 0 1 = S) (hv : nv_InR v) : nv_R M_X5_noSawyer [vr 18 0, vi v] h (fun r h' => h' = h ∧ r = some (vi (nv_b (a_bp S v)))) := by
  refine nv_R.of rfl rfl (Nat.le_of_ble_eq_true rfl) ?_
  refine nv_go ok_X5_noSawyer [] 30 ?_
  unfold a_bp
  refine w_if hv (fun c => ?_) (fun c => ?_)
  · have c : v < 0 := c
    exact And.intro (Or.inr rfl) ⟨rfl, by rw [decide_eq_true c]; rfl⟩
  · have c : ¬ v < 0 := c
    refine w_ic hv (by omega) (fun c2 => ?_) (fun c2 => ?_)
    · have c2 : v < h 0 0 1 := c2
      exact And.intro (Or.inl rfl) ⟨rfl, by rw [decide_eq_false c, decide_eq_false (show ¬ (S : Int) ≤ v by omega)]; rfl⟩
    · have c2 : ¬ v < h 0 0 1 := c2
      exact And.intro (Or.inr rfl) ⟨rfl, by rw [decide_eq_false c, decide_eq_true (show (S : Int) ≤ v by omega)]; rfl⟩
def m_cuts (N : m_NN) (S : Nat) (x : Int) : Int := m_sum (fun s => if m_bit x s = true then m_cut N s else 0) S
set_option maxRecDepth 100000 in
theorem r_cutByAll {h : nv_St} {o P S : Nat} {B x : Int} (hN : m_ok (m_nn h o) P S B) (hB : B < 1073741824) (h0 : 0 ≤ x) (h1 : x < 2147483648) : nv_R M_X0_cutByAll [vr 0 o, vi x] h (fun r h' => h' = h ∧ r = some (vi (m_cuts (m_nn h o) S x))) := by
  obtain ⟨hP5, hS5, hP, hS, hH, hDr, hpl, hsw⟩ := hN.h
  refine nv_R.of rfl rfl (Nat.le_of_ble_eq_true rfl) ?_
  have loop := m_down (n := S) (G := fun s => ∀ j y : Int, j = s → y = m_cuts (m_nn h o) s x → nv_V M_X0_cutByAll 4 [(0, vr 0 o), (1, vi x), (2, vi y), (3, vi j)] [] h (fun r h' => h' = h ∧ r = some (vi (m_cuts (m_nn h o) S x)))) ?_ ?_
  · refine nv_go ok_X0_cutByAll [4] 10 ?_
    exact loop 0 (by omega) _ _ rfl rfl
  · intro j y hj hy
    refine nv_go ok_X0_cutByAll [4] 30 ?_
    refine w_ic (by omega) (by omega) (fun c => ?_) (fun c => ?_)
    · exact ⟨rfl, by rw [hy]⟩
    · exact absurd (by show h 0 o 1 ≤ j; omega) c
  · intro s hs ih j y hj hy
    subst hj
    have hd := m_div_r (k := s) h0
    have e1 : nv_and (x / 2 ^ s) 1 = x / 2 ^ s % 2 := nv_and_1 hd.1 (by omega)
    have es : m_cuts (m_nn h o) (s + 1) x = m_cuts (m_nn h o) s x + (if m_bit x s = true then m_cut (m_nn h o) s else 0) := rfl
    refine nv_go ok_X0_cutByAll [4] 30 ?_
    refine w_ic (by omega) (by omega) (fun c => ?_) (fun c => ?_)
    · exact absurd c (by show ¬ (h 0 o 1 ≤ (s : Int)); omega)
    · refine w_sr (by omega) s rfl (by omega) ?_
      refine w_ic (by rw [e1]; omega) (by omega) (fun c2 => ?_) (fun c2 => ?_)
      · have c2 : x / 2 ^ s % 2 = 1 := by rw [← e1]; exact c2
        refine w_call (r_cutOf hN hB hs) (fun v h' hv => ?_)
        obtain ⟨rfl, rfl⟩ := hv
        exact ih _ _ (by omega) (by rw [hy, es, if_pos (show m_bit x s = true from decide_eq_true c2)])
      · have c2 : ¬ x / 2 ^ s % 2 = 1 := by rw [← e1]; exact c2
        exact ih _ _ (by omega) (by rw [hy, es, if_neg (fun q : m_bit x s = true => c2 (of_decide_eq_true q))]; omega)
def a_P (a : a_S) : Nat := a.1.1
def a_Sw (a : a_S) : Nat := a.1.2.1
def a_N (a : a_S) : m_NN := a.1.2.2.1
def a_pl (a : a_S) : List m_NN := a.1.2.2.2
def a_of (a : a_S) (v w : Int) : Int := if a_bp (a_P a) v = true then -1 else if w = 0 then a_N a 1 v.toNat else if w = 1 then a_N a 2 v.toNat else if w = 2 then a_N a 3 v.toNat else if w = 3 then m_set (fun s => a_N a 6 s = v) (a_Sw a) else if w = 4 then m_sum (fun s => if a_N a 6 s = v then m_cut (a_N a) s else 0) (a_Sw a) else -1
def a_at (a : a_S) (v w : Int) : Int := if a_bp (a_Sw a) v = true then -1 else if w = 0 then a_N a 4 v.toNat else if w = 1 then a_N a 5 v.toNat else if w = 2 then a_N a 6 v.toNat else if w = 3 then m_cut (a_N a) v.toNat else -1
def a_count (a : a_S) (w : Int) : Int := if w = 0 then a_P a else if w = 1 then a_Sw a else if w = 2 then a_N a 0 2 else if w = 3 then m_set (fun p => a_N a 3 p = 0) (a_P a) else if w = 4 then m_sum (a_N a 3) (a_P a) else if w = 5 then m_sum (a_N a 5) (a_Sw a) else if w = 6 then m_set (fun s => a_N a 6 s = -4) (a_Sw a) else if w = 7 then ((a_pl a).length : Int) else -1
theorem CI.now {h : nv_St} {a : a_S} (C : CI h a) : m_ok (m_nn h 0) (a_P a) (a_Sw a) 9999 ∧ m_eq (a_P a) (a_Sw a) (m_nn h 0) (a_N a) ∧ m_ok (a_N a) (a_P a) (a_Sw a) 9999 := ⟨C.1.2.1.ok C.1.1, C.1.2.1, C.1.1⟩
theorem cQ.same {h : nv_St} {a : a_S} {x : Int} (k : CI h a) : cQ h a x (some (vi x)) h := ⟨rfl, k, fun _ _ _ => rfl⟩
section nvQ
variable {h : nv_St} {a : a_S}
set_option maxRecDepth 100000 in
theorem r_of_c (C : CI h a) {v w : Int} (hv : nv_InR v) (hw : nv_InR w) : nv_R M_X5_of [vr 18 0, vi v, vi w] h (cQ h a (a_of a v w)) := by
  obtain ⟨hok, he, hNok⟩ := C.now
  obtain ⟨hP5, hS5, hP, hS, hH, hDr, hpl, hsw⟩ := hok.h
  refine nv_R.of rfl rfl (Nat.le_of_ble_eq_true rfl) ?_
  refine nv_go ok_X5_of [] 40 ?_
  refine w_call (r_noPlank hP5 hP hv) (fun r h' hr => ?_)
  obtain ⟨rfl, rfl⟩ := hr
  have q_ok : ∀ z : Int, z = a_of a v w → cQ h' a (a_of a v w) (some (vi z)) h' := fun z hz => by rw [hz]; exact cQ.same C
  refine w_ifb (fun c => ?_) (fun c => ?_)
  · obtain ⟨p, rfl, hp⟩ := a_bp_f c
    have hb : ¬ a_bp (a_P a) (p : Int) = true := by rw [c]; decide
    obtain ⟨e1, e2, e3⟩ := he.2.1 p hp
    have ea : ∀ x, x = a_of a p w ↔ x = (if w = 0 then a_N a 1 p else if w = 1 then a_N a 2 p else if w = 2 then a_N a 3 p else if w = 3 then m_set (fun s => a_N a 6 s = p) (a_Sw a) else if w = 4 then m_sum (fun s => if a_N a 6 s = p then m_cut (a_N a) s else 0) (a_Sw a) else -1) := by
      intro x; unfold a_of; rw [if_neg hb]; rfl
    have es : m_set (fun s => h' 6 0 s = p) (a_Sw a) = m_set (fun s => a_N a 6 s = p) (a_Sw a) := m_set_eq (fun s hs => by have : h' 6 0 s = a_N a 6 s := (he.2.2 s hs).2.2; rw [this])
    have hlt := m_set_lt (fun s => h' 6 0 s = (p : Int)) (a_Sw a)
    have h32 := m_pow5 hS5
    refine And.intro hw (And.intro (fun c => ?_) (And.intro (fun c => ?_) (And.intro (fun c => ?_) (And.intro (fun c => ?_) (And.intro (fun c => ?_) (And.intro (fun c => ?_) trivial))))))
    · have c : w < 0 ∨ (0 : Int) + 5 ≤ w := c
      exact q_ok _ ((ea _).mpr (by rw [if_neg (by omega), if_neg (by omega), if_neg (by omega), if_neg (by omega), if_neg (by omega)]))
    · refine w_ix p rfl (by omega) ?_
      exact q_ok _ ((ea _).mpr (by rw [if_pos (by omega)]; exact e1))
    · refine w_ix p rfl (by omega) ?_
      exact q_ok _ ((ea _).mpr (by rw [if_neg (by omega), if_pos (by omega)]; exact e2))
    · refine w_ix p rfl (by omega) ?_
      exact q_ok _ ((ea _).mpr (by rw [if_neg (by omega), if_neg (by omega), if_pos (by omega)]; exact e3))
    · refine w_call (r_sittersOn hok (by omega)) (fun r h2 hr => ?_)
      obtain ⟨rfl, rfl⟩ := hr
      exact q_ok _ ((ea _).mpr (by rw [if_neg (by omega), if_neg (by omega), if_neg (by omega), if_pos (by omega)]; exact es))
    · refine w_call (r_sittersOn hok (by omega)) (fun r h2 hr => ?_)
      obtain ⟨rfl, rfl⟩ := hr
      refine w_call (r_cutByAll hok (by omega) hlt.1 (by omega)) (fun r h2 hr => ?_)
      obtain ⟨rfl, rfl⟩ := hr
      refine q_ok _ ((ea _).mpr ?_)
      rw [if_neg (by omega), if_neg (by omega), if_neg (by omega), if_neg (by omega), if_pos (by omega)]
      unfold m_cuts
      refine m_sum_eq (fun s hs => ?_)
      have e6 : h2 6 0 s = a_N a 6 s := (he.2.2 s hs).2.2
      rw [m_set_bit hs, m_cut_eq he hok hs, e6]
      by_cases e : a_N a 6 s = p
      · rw [if_pos e, if_pos (decide_eq_true e)]
      · rw [if_neg e, if_neg (by rw [decide_eq_false e]; decide)]
  · exact q_ok _ (by unfold a_of; rw [if_pos c])
set_option maxRecDepth 100000 in
theorem r_at_c (C : CI h a) {v w : Int} (hv : nv_InR v) (hw : nv_InR w) : nv_R M_X5_at [vr 18 0, vi v, vi w] h (cQ h a (a_at a v w)) := by
  obtain ⟨hok, he, hNok⟩ := C.now
  obtain ⟨hP5, hS5, hP, hS, hH, hDr, hpl, hsw⟩ := hok.h
  refine nv_R.of rfl rfl (Nat.le_of_ble_eq_true rfl) ?_
  refine nv_go ok_X5_at [] 40 ?_
  refine w_call (r_noSawyer hS5 hS hv) (fun r h' hr => ?_)
  obtain ⟨rfl, rfl⟩ := hr
  have q_ok : ∀ z : Int, z = a_at a v w → cQ h' a (a_at a v w) (some (vi z)) h' := fun z hz => by rw [hz]; exact cQ.same C
  refine w_ifb (fun c => ?_) (fun c => ?_)
  · obtain ⟨s, rfl, hs⟩ := a_bp_f c
    have hb : ¬ a_bp (a_Sw a) (s : Int) = true := by rw [c]; decide
    obtain ⟨e4, e5, e6⟩ := he.2.2 s hs
    have ea : ∀ x, x = a_at a s w ↔ x = (if w = 0 then a_N a 4 s else if w = 1 then a_N a 5 s else if w = 2 then a_N a 6 s else if w = 3 then m_cut (a_N a) s else -1) := by
      intro x; unfold a_at; rw [if_neg hb]; rfl
    refine And.intro hw (And.intro (fun c => ?_) (And.intro (fun c => ?_) (And.intro (fun c => ?_) (And.intro (fun c => ?_) (And.intro (fun c => ?_) trivial)))))
    · have c : w < 0 ∨ (0 : Int) + 4 ≤ w := c
      exact q_ok _ ((ea _).mpr (by rw [if_neg (by omega), if_neg (by omega), if_neg (by omega), if_neg (by omega)]))
    · refine w_ix s rfl (by omega) ?_
      exact q_ok _ ((ea _).mpr (by rw [if_pos (by omega)]; exact e4))
    · refine w_ix s rfl (by omega) ?_
      exact q_ok _ ((ea _).mpr (by rw [if_neg (by omega), if_pos (by omega)]; exact e5))
    · refine w_ix s rfl (by omega) ?_
      exact q_ok _ ((ea _).mpr (by rw [if_neg (by omega), if_neg (by omega), if_pos (by omega)]; exact e6))
    · refine w_call (r_cutOf hok (by omega) hs) (fun r h2 hr => ?_)
      obtain ⟨rfl, rfl⟩ := hr
      exact q_ok _ ((ea _).mpr (by rw [if_neg (by omega), if_neg (by omega), if_neg (by omega), if_pos (by omega)]; exact m_cut_eq he hok hs))
  · exact q_ok _ (by unfold a_at; rw [if_pos c])
set_option maxRecDepth 100000 in
theorem r_count_c (C : CI h a) {w : Int} (hw : nv_InR w) : nv_R M_X5_count [vr 18 0, vi w] h (cQ h a (a_count a w)) := by
  obtain ⟨hok, he, hNok⟩ := C.now
  obtain ⟨hP5, hS5, hP, hS, hH, hDr, hpl, hsw⟩ := hok.h
  obtain ⟨nx, n1, n2, n3, n4, -⟩ := C.1.2.2.1
  have q_ok : ∀ z : Int, z = a_count a w → cQ h a (a_count a w) (some (vi z)) h := fun z hz => by rw [hz]; exact cQ.same C
  refine nv_R.of rfl rfl (Nat.le_of_ble_eq_true rfl) ?_
  refine nv_go ok_X5_count [] 40 ?_
  refine And.intro hw (And.intro (fun c => ?_) (And.intro (fun c => ?_) (And.intro (fun c => ?_) (And.intro (fun c => ?_) (And.intro (fun c => ?_) (And.intro (fun c => ?_) (And.intro (fun c => ?_) (And.intro (fun c => ?_) (And.intro (fun c => ?_) trivial)))))))))
  · have c : w < 0 ∨ (0 : Int) + 8 ≤ w := c
    exact q_ok _ (by unfold a_count; rw [if_neg (by omega), if_neg (by omega), if_neg (by omega), if_neg (by omega), if_neg (by omega), if_neg (by omega), if_neg (by omega), if_neg (by omega)])
  · exact q_ok _ (by unfold a_count; rw [if_pos (by omega)]; exact hP)
  · exact q_ok _ (by unfold a_count; rw [if_neg (by omega), if_pos (by omega)]; exact hS)
  · exact q_ok _ (by unfold a_count; rw [if_neg (by omega), if_neg (by omega), if_pos (by omega)]; exact he.1 2 (by omega))
  · refine w_call (r_fallenSet hok) (fun r h2 hr => ?_)
    obtain ⟨rfl, rfl⟩ := hr
    exact q_ok _ (by unfold a_count; rw [if_neg (by omega), if_neg (by omega), if_neg (by omega), if_pos (by omega)]; exact m_set_eq (fun p hp => by have e : h2 3 0 p = a_N a 3 p := (he.2.1 p hp).2.2; rw [e]))
  · refine w_call (r_leftOfAll hok) (fun r h2 hr => ?_)
    obtain ⟨rfl, rfl⟩ := hr
    exact q_ok _ (by unfold a_count; rw [if_neg (by omega), if_neg (by omega), if_neg (by omega), if_neg (by omega), if_pos (by omega)]; exact m_sum_eq (fun p hp => (he.2.1 p hp).2.2))
  · refine w_call (r_teethOfAll hok) (fun r h2 hr => ?_)
    obtain ⟨rfl, rfl⟩ := hr
    exact q_ok _ (by unfold a_count; rw [if_neg (by omega), if_neg (by omega), if_neg (by omega), if_neg (by omega), if_neg (by omega), if_pos (by omega)]; exact m_sum_eq (fun p hp => (he.2.2 p hp).2.1))
  · refine w_call (r_sittersOn hok (by omega)) (fun r h2 hr => ?_)
    obtain ⟨rfl, rfl⟩ := hr
    exact q_ok _ (by unfold a_count; rw [if_neg (by omega), if_neg (by omega), if_neg (by omega), if_neg (by omega), if_neg (by omega), if_neg (by omega), if_pos (by omega)]; exact m_set_eq (fun s hs => by have e : h2 6 0 s = a_N a 6 s := (he.2.2 s hs).2.2; rw [e]))
  · exact q_ok _ (by unfold a_count; rw [if_neg (by omega), if_neg (by omega), if_neg (by omega), if_neg (by omega), if_neg (by omega), if_neg (by omega), if_neg (by omega), if_pos (by omega)]; exact n3)
set_option maxRecDepth 100000 in
theorem r_foretell {P S n : Nat} {B : Int} (hok : m_ok (m_nn h 0) P S B) (hB : B + n < 1073741824) (hn : n < 1000) : nv_R M_X5_foretell [vr 18 0, vi n] h (fun r h' => r = none ∧ m_eq P S (m_nn h' 1) (m_it n (m_nn h 0)) ∧ m_fr 1 h h') := by
  refine nv_R.of rfl rfl (Nat.le_of_ble_eq_true rfl) ?_
  refine nv_go ok_X5_foretell [] 40 ?_
  refine w_call (r_takeAll (o := 1) (b := 0) (by decide)) (fun r h' hr => ?_)
  obtain ⟨rfl, ht⟩ := hr
  have he := ht.eq (P := P) (S := S) hok.1 hok.2.1
  have hok' := he.ok hok
  refine w_call (r_passHours hok' hB hn) (fun r h2 hr => ?_)
  obtain ⟨rfl, he2, hf2⟩ := hr
  exact ⟨rfl, he2.trans' (m_it_eq he hok' n), ht.1.trans' hf2⟩
def a_left (a : a_S) (v n : Int) : Int := if a_bp (a_P a) v = true then -1 else if a_out n 0 60 = true then -1 else m_it n.toNat (a_N a) 3 v.toNat
def a_ahead (a : a_S) (v n w : Int) : Int := if a_bp (a_Sw a) v = true then -1 else if a_out n 0 60 = true then -1 else if a_out w 0 1 = true then -1 else if w = 0 then m_it n.toNat (a_N a) 5 v.toNat else m_it n.toNat (a_N a) 6 v.toNat
def a_then (a : a_S) (n : Int) : Int := if a_out n 0 60 = true then -1 else m_set (fun p => m_it n.toNat (a_N a) 3 p = 0) (a_P a)
def a_falls (a : a_S) (v : Int) : Int := if a_bp (a_P a) v = true then -1 else m_find (fun n => decide (m_it n (a_N a) 3 v.toNat = 0)) 61 0
def a_noon (a : a_S) : Int := m_noon (a_N a) (a_P a)
def a_without (a : a_S) (v : Int) : Int := if a_bp (a_Sw a) v = true then -1 else m_noon (m_put (a_N a) 6 v.toNat (-4)) (a_P a)
set_option maxRecDepth 100000 in
theorem r_left_c (C : CI h a) {v n : Int} (hv : nv_InR v) (hn : nv_InR n) : nv_R M_X5_left [vr 18 0, vi v, vi n] h (cQ h a (a_left a v n)) := by
  obtain ⟨hok, he, hNok⟩ := C.now
  obtain ⟨hP5, hS5, hP, hS, hH, hDr, hpl, hsw⟩ := hok.h
  refine nv_R.of rfl rfl (Nat.le_of_ble_eq_true rfl) ?_
  refine nv_go ok_X5_left [] 40 ?_
  refine w_call (r_noPlank hP5 hP hv) (fun r h' hr => ?_)
  obtain ⟨rfl, rfl⟩ := hr
  have q_ok : ∀ z : Int, z = a_left a v n → cQ h' a (a_left a v n) (some (vi z)) h' := fun z hz => by rw [hz]; exact cQ.same C
  refine w_ifb (fun c => ?_) (fun c => ?_)
  · refine w_call (r_outA hn (by omega) (by omega)) (fun r h2 hr => ?_)
    obtain ⟨rfl, rfl⟩ := hr
    refine w_ifb (fun c2 => ?_) (fun c2 => ?_)
    · obtain ⟨p, rfl, hp⟩ := a_bp_f c
      have hb : ¬ a_bp (a_P a) (p : Int) = true := by rw [c]; decide
      have h60 := a_out_f c2
      have hb2 : ¬ a_out n 0 60 = true := by rw [c2]; decide
      obtain ⟨m, rfl⟩ : ∃ m : Nat, n = m := ⟨n.toNat, by omega⟩
      refine w_call (r_foretell hok (by omega) (by omega)) (fun r h3 hr => ?_)
      obtain ⟨rfl, he3, hf⟩ := hr
      have he4 := he3.trans' (m_it_eq he hok m)
      refine w_ix p rfl (by omega) ?_
      have ez : h3 3 1 p = a_left a p m := by
        unfold a_left
        rw [if_neg hb, if_neg hb2]
        exact (he4.2.1 p hp).2.2
      show cQ h2 a (a_left a p m) (some (vi (h3 3 1 p))) h3
      rw [ez]
      exact cQ.trial C hf
    · exact q_ok _ (by unfold a_left; rw [if_neg (by rw [c]; decide), if_pos c2])
  · exact q_ok _ (by unfold a_left; rw [if_pos c])
set_option maxRecDepth 100000 in
theorem r_ahead_c (C : CI h a) {v n w : Int} (hv : nv_InR v) (hn : nv_InR n) (hw : nv_InR w) : nv_R M_X5_ahead [vr 18 0, vi v, vi n, vi w] h (cQ h a (a_ahead a v n w)) := by
  obtain ⟨hok, he, hNok⟩ := C.now
  obtain ⟨hP5, hS5, hP, hS, hH, hDr, hpl, hsw⟩ := hok.h
  refine nv_R.of rfl rfl (Nat.le_of_ble_eq_true rfl) ?_
  refine nv_go ok_X5_ahead [] 60 ?_
  refine w_call (r_noSawyer hS5 hS hv) (fun r h' hr => ?_)
  obtain ⟨rfl, rfl⟩ := hr
  have q_ok : ∀ z : Int, z = a_ahead a v n w → cQ h' a (a_ahead a v n w) (some (vi z)) h' := fun z hz => by rw [hz]; exact cQ.same C
  refine w_ifb (fun c => ?_) (fun c => ?_)
  · have hb1 : ¬ a_bp (a_Sw a) v = true := by rw [c]; decide
    refine w_call (r_outA hn (by omega) (by omega)) (fun r h2 hr => ?_)
    obtain ⟨rfl, rfl⟩ := hr
    refine w_ifb (fun c2 => ?_) (fun c2 => ?_)
    · have hb2 : ¬ a_out n 0 60 = true := by rw [c2]; decide
      refine w_call (r_outA hw (by omega) (by omega)) (fun r h2 hr => ?_)
      obtain ⟨rfl, rfl⟩ := hr
      refine w_ifb (fun c3 => ?_) (fun c3 => ?_)
      · have hb3 : ¬ a_out w 0 1 = true := by rw [c3]; decide
        obtain ⟨s, rfl, hs⟩ := a_bp_f c
        have h60 := a_out_f c2
        have h01 := a_out_f c3
        obtain ⟨m, rfl⟩ : ∃ m : Nat, n = m := ⟨n.toNat, by omega⟩
        refine w_call (r_foretell hok (by omega) (by omega)) (fun r h3 hr => ?_)
        obtain ⟨rfl, he3, hf⟩ := hr
        have he4 := he3.trans' (m_it_eq he hok m)
        have fin : ∀ z, z = a_ahead a s m w → cQ h2 a (a_ahead a s m w) (some (vi z)) h3 := fun z hz => by rw [hz]; exact cQ.trial C hf
        refine w_if hw (fun c4 => ?_) (fun c4 => ?_)
        · have c4 : w = 0 := c4
          refine w_ix s rfl (by omega) ?_
          exact fin _ (by unfold a_ahead; rw [if_neg hb1, if_neg hb2, if_neg hb3, if_pos c4]; exact (he4.2.2 s hs).2.1)
        · have c4 : ¬ w = 0 := c4
          refine w_ix s rfl (by omega) ?_
          exact fin _ (by unfold a_ahead; rw [if_neg hb1, if_neg hb2, if_neg hb3, if_neg c4]; exact (he4.2.2 s hs).2.2)
      · exact q_ok _ (by unfold a_ahead; rw [if_neg hb1, if_neg hb2, if_pos c3])
    · exact q_ok _ (by unfold a_ahead; rw [if_neg hb1, if_pos c2])
  · exact q_ok _ (by unfold a_ahead; rw [if_pos c])
set_option maxRecDepth 100000 in
theorem r_then_c (C : CI h a) {n : Int} (hn : nv_InR n) : nv_R M_X5_then [vr 18 0, vi n] h (cQ h a (a_then a n)) := by
  obtain ⟨hok, he, hNok⟩ := C.now
  refine nv_R.of rfl rfl (Nat.le_of_ble_eq_true rfl) ?_
  refine nv_go ok_X5_then [] 60 ?_
  refine w_call (r_outA hn (by omega) (by omega)) (fun r h2 hr => ?_)
  obtain ⟨rfl, rfl⟩ := hr
  refine w_ifb (fun c2 => ?_) (fun c2 => ?_)
  · have hb2 : ¬ a_out n 0 60 = true := by rw [c2]; decide
    have h60 := a_out_f c2
    obtain ⟨m, rfl⟩ : ∃ m : Nat, n = m := ⟨n.toNat, by omega⟩
    refine w_call (r_foretell hok (by omega) (by omega)) (fun r h3 hr => ?_)
    obtain ⟨rfl, he3, hf⟩ := hr
    have he4 := he3.trans' (m_it_eq he hok m)
    have hok3 := he3.ok (m_it_ok hok m)
    refine w_call (r_fallenSet hok3) (fun r h4 hr => ?_)
    obtain ⟨rfl, rfl⟩ := hr
    have ez : m_set (fun p => h4 3 1 p = 0) (a_P a) = a_then a m := by
      unfold a_then
      rw [if_neg hb2]
      exact m_set_eq (fun p hp => by have e : h4 3 1 p = m_it m (a_N a) 3 p := (he4.2.1 p hp).2.2; rw [e]; rfl)
    show cQ h2 a (a_then a m) (some (vi (m_set (fun p => h4 3 1 p = 0) (a_P a)))) h4
    rw [ez]
    exact cQ.trial C hf
  · have ez : -1 = a_then a n := by unfold a_then; rw [if_pos c2]
    show cQ h2 a (a_then a n) (some (vi (-1))) h2
    rw [ez]
    exact cQ.same C
set_option maxRecDepth 100000 in
theorem r_falls_c (C : CI h a) {v : Int} (hv : nv_InR v) : nv_R M_X5_falls [vr 18 0, vi v] h (cQ h a (a_falls a v)) := by
  obtain ⟨hok, he, hNok⟩ := C.now
  obtain ⟨hP5, hS5, hP, hS, hH, hDr, hpl, hsw⟩ := hok.h
  refine nv_R.of rfl rfl (Nat.le_of_ble_eq_true rfl) ?_
  refine nv_go ok_X5_falls [23] 60 ?_
  refine w_call (r_noPlank hP5 hP hv) (fun r h' hr => ?_)
  obtain ⟨rfl, rfl⟩ := hr
  refine w_ifb (fun c => ?_) (fun c => ?_)
  · obtain ⟨p, rfl, hp⟩ := a_bp_f c
    have hb : ¬ a_bp (a_P a) (p : Int) = true := by rw [c]; decide
    have ea : a_falls a p = m_find (fun n => decide (m_it n (a_N a) 3 p = 0)) 61 0 := by unfold a_falls; rw [if_neg hb]; rfl
    have loop := m_down (n := 61) (G := fun n => ∀ (j : Int) (h1 : nv_St), j = n → m_eq (a_P a) (a_Sw a) (m_nn h1 1) (m_it n (a_N a)) → m_fr 1 h' h1 → (∀ k, k < n → ¬ m_it k (a_N a) 3 p = 0) → nv_V M_X5_falls 23 [(0, vr 18 0), (1, vi p), (2, vi j)] [] h1 (cQ h' a (a_falls a p))) ?_ ?_
    · refine w_call (r_takeAll (o := 1) (b := 0) (by decide)) (fun r h2 hr => ?_)
      obtain ⟨rfl, ht⟩ := hr
      exact loop 0 (by omega) _ _ rfl ((ht.eq hP5 hS5).trans' he) ht.1 (fun k hk => absurd hk (by omega))
    · intro j h1 hj he1 hf hno
      refine nv_go ok_X5_falls [23] 20 ?_
      refine w_ic (by omega) (by omega) (fun c2 => ?_) (fun c2 => ?_)
      · have ez : -4 = a_falls a p := by rw [ea, m_find_none (fun k _ hk => decide_eq_false (hno k (by omega)))]
        show cQ h' a (a_falls a p) (some (vi (-4))) h1
        rw [ez]
        exact cQ.trial C hf
      · exact absurd (by show (60 : Int) < j; omega) c2
    · intro n hn ih j h1 hj he1 hf hno
      have hok1 := he1.ok (m_it_ok hNok n)
      have e3 : h1 3 1 p = m_it n (a_N a) 3 p := (he1.2.1 p hp).2.2
      have h39 := (hok1.h.2.2.2.2.2.2.1 p hp).2.2
      refine nv_go ok_X5_falls [23] 30 ?_
      refine w_ic (by omega) (by omega) (fun c2 => ?_) (fun c2 => ?_)
      · exact absurd c2 (by show ¬ ((60 : Int) < j); omega)
      · refine w_ix p rfl (by omega) ?_
        refine w_if (by omega) (fun c3 => ?_) (fun c3 => ?_)
        · have c3 : h1 3 1 p = 0 := c3
          have ez : j = a_falls a p := by rw [ea, hj, m_find_some (k := n) (by omega) (by omega) (fun i _ hi => decide_eq_false (hno i hi)) (decide_eq_true (by rw [← e3]; exact c3))]
          show cQ h' a (a_falls a p) (some (vi j)) h1
          rw [ez]
          exact cQ.trial C hf
        · have c3 : ¬ h1 3 1 p = 0 := c3
          refine w_call (r_passHour hok1 (by omega)) (fun r h2 hr => ?_)
          obtain ⟨rfl, he2, hf2⟩ := hr
          refine ih _ _ (by omega) (he2.trans' (m_hour_eq he1 hok1)) (hf.trans' hf2) (fun k hk => ?_)
          by_cases e : k = n
          · rw [e, ← e3]; exact c3
          · exact hno k (by omega)
  · have ez : -1 = a_falls a v := by unfold a_falls; rw [if_pos c]
    show cQ h' a (a_falls a v) (some (vi (-1))) h'
    rw [ez]
    exact cQ.same C
set_option maxRecDepth 100000 in
theorem r_noon_c (C : CI h a) : nv_R M_X5_noon [vr 18 0] h (cQ h a (a_noon a)) := by
  obtain ⟨hok, he, hNok⟩ := C.now
  refine nv_R.of rfl rfl (Nat.le_of_ble_eq_true rfl) ?_
  refine nv_go ok_X5_noon [] 60 ?_
  refine w_call (r_takeAll (o := 1) (b := 0) (by decide)) (fun r h2 hr => ?_)
  obtain ⟨rfl, ht⟩ := hr
  have he2 := ht.eq (P := a_P a) (S := a_Sw a) hok.1 hok.2.1
  have hok2 := he2.ok hok
  refine w_call (r_noonOfTrial hok2 (by decide)) (fun r h3 hr => ?_)
  obtain ⟨hf, rfl⟩ := hr
  have ez : m_noon (m_nn h2 1) (a_P a) = a_noon a := (m_noon_eq he2 hok2).trans (m_noon_eq he hok)
  show cQ h a (a_noon a) (some (vi (m_noon (m_nn h2 1) (a_P a)))) h3
  rw [ez]
  exact cQ.trial C (ht.1.trans' hf)
theorem m_put_ok6 {N : m_NN} {P S s : Nat} {B x : Int} (hN : m_ok N P S B) (hx : x = -4 ∨ (0 ≤ x ∧ x < P)) : m_ok (m_put N 6 s x) P S B := by
  obtain ⟨h1, h2, h3, h4, h5, h6, h7, h8⟩ := hN
  refine ⟨h1, h2, by simpa [m_put] using h3, by simpa [m_put] using h4, by simpa [m_put] using h5, by simpa [m_put] using h6, fun p hp => by simpa [m_put] using h7 p hp, fun q hq => ?_⟩
  have := h8 q hq
  refine ⟨by simpa [m_put] using this.1, by simpa [m_put] using this.2.1, ?_⟩
  unfold m_put
  split
  · exact hx
  · exact this.2.2
theorem m_put_ok5 {N : m_NN} {P S s : Nat} {B x : Int} (hN : m_ok N P S B) (hx : 0 ≤ x ∧ x ≤ 9) : m_ok (m_put N 5 s x) P S B := by
  obtain ⟨h1, h2, h3, h4, h5, h6, h7, h8⟩ := hN
  refine ⟨h1, h2, by simpa [m_put] using h3, by simpa [m_put] using h4, by simpa [m_put] using h5, by simpa [m_put] using h6, fun p hp => by simpa [m_put] using h7 p hp, fun q hq => ?_⟩
  have := h8 q hq
  refine ⟨by simpa [m_put] using this.1, ?_, by simpa [m_put] using this.2.2⟩
  unfold m_put
  split
  · exact hx
  · exact this.2.1
theorem m_put_ok3 {N : m_NN} {P S p : Nat} {B x : Int} (hN : m_ok N P S B) (hx : 0 ≤ x ∧ x ≤ 99) : m_ok (m_put N 3 p x) P S B := by
  obtain ⟨h1, h2, h3, h4, h5, h6, h7, h8⟩ := hN
  refine ⟨h1, h2, by simpa [m_put] using h3, by simpa [m_put] using h4, by simpa [m_put] using h5, by simpa [m_put] using h6, fun q hq => ?_, fun q hq => by simpa [m_put] using h8 q hq⟩
  have := h7 q hq
  refine ⟨by simpa [m_put] using this.1, by simpa [m_put] using this.2.1, ?_⟩
  unfold m_put
  split
  · exact hx
  · exact this.2.2
theorem m_put_ok4 {N : m_NN} {P S s : Nat} {B x : Int} (hN : m_ok N P S B) (hx : 0 ≤ x ∧ x ≤ 4) : m_ok (m_put N 4 s x) P S B := by
  obtain ⟨h1, h2, h3, h4, h5, h6, h7, h8⟩ := hN
  refine ⟨h1, h2, by simpa [m_put] using h3, by simpa [m_put] using h4, by simpa [m_put] using h5, by simpa [m_put] using h6, fun p hp => by simpa [m_put] using h7 p hp, fun q hq => ?_⟩
  have := h8 q hq
  refine ⟨?_, by simpa [m_put] using this.2.1, by simpa [m_put] using this.2.2⟩
  unfold m_put
  split
  · exact hx
  · exact this.1
theorem m_put_eq {N N' : m_NN} {P S t j : Nat} {x : Int} (h : m_eq P S N N') : m_eq P S (m_put N t j x) (m_put N' t j x) := by
  refine ⟨fun k hk => ?_, fun p hp => ⟨?_, ?_, ?_⟩, fun s hs => ⟨?_, ?_, ?_⟩⟩ <;> unfold m_put <;> split
  all_goals first | rfl | exact h.1 k hk | exact (h.2.1 p hp).1 | exact (h.2.1 p hp).2.1 | exact (h.2.1 p hp).2.2 | exact (h.2.2 s hs).1 | exact (h.2.2 s hs).2.1 | exact (h.2.2 s hs).2.2
set_option maxRecDepth 100000 in
theorem r_without_c (C : CI h a) {v : Int} (hv : nv_InR v) : nv_R M_X5_without [vr 18 0, vi v] h (cQ h a (a_without a v)) := by
  obtain ⟨hok, he, hNok⟩ := C.now
  obtain ⟨hP5, hS5, hP, hS, hH, hDr, hpl, hsw⟩ := hok.h
  refine nv_R.of rfl rfl (Nat.le_of_ble_eq_true rfl) ?_
  refine nv_go ok_X5_without [] 60 ?_
  refine w_call (r_noSawyer hS5 hS hv) (fun r h' hr => ?_)
  obtain ⟨rfl, rfl⟩ := hr
  refine w_ifb (fun c => ?_) (fun c => ?_)
  · obtain ⟨s, rfl, hs⟩ := a_bp_f c
    have hb : ¬ a_bp (a_Sw a) (s : Int) = true := by rw [c]; decide
    refine w_call (r_takeAll (o := 1) (b := 0) (by decide)) (fun r h2 hr => ?_)
    obtain ⟨rfl, ht⟩ := hr
    have he2 := (ht.eq (P := a_P a) (S := a_Sw a) hok.1 hok.2.1).trans' he
    have he3 : m_eq (a_P a) (a_Sw a) (m_nn (nv_up h2 6 1 s (-4)) 1) (m_put (a_N a) 6 s (-4)) := by rw [m_nn_put (by decide)]; exact m_put_eq he2
    have hok3 := he3.ok (m_put_ok6 hNok (Or.inl rfl))
    refine w_ix s rfl (by omega) ?_
    refine w_call (r_noonOfTrial hok3 (by decide)) (fun r h3 hr => ?_)
    obtain ⟨hf, rfl⟩ := hr
    have ez : m_noon (m_nn (nv_up h2 6 1 s (-4)) 1) (a_P a) = a_without a s := by
      unfold a_without
      rw [if_neg hb]
      exact m_noon_eq he3 hok3
    show cQ h' a (a_without a s) (some (vi (m_noon (m_nn (nv_up h2 6 1 s (-4)) 1) (a_P a)))) h3
    rw [ez]
    exact cQ.trial C ((ht.1.up (by decide)).trans' hf)
  · have ez : -1 = a_without a v := by unfold a_without; rw [if_pos c]
    show cQ h' a (a_without a v) (some (vi (-1))) h'
    rw [ez]
    exact cQ.same C
end nvQ
