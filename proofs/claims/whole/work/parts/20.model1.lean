/-! ===== the reference's noon: one array of 171 ===== -/
def m_mm (h : nv_St) (c : Nat) : m_NN := fun t j => match t with
  | 0 => (match j with | 0 => h c 0 17 | 1 => h c 0 28 | 2 => h c 0 0 | 3 => h c 0 1 | _ => 0)
  | 1 => h c 0 (18 + j)
  | 2 => h c 0 (23 + j)
  | 3 => h c 0 (2 + j)
  | 4 => h c 0 (29 + j)
  | 5 => h c 0 (7 + j)
  | 6 => h c 0 (12 + j)
  | _ => 0
theorem m_ok.m {h : nv_St} {c P S : Nat} {B : Int} (hN : m_ok (m_mm h c) P S B) : P ≤ 5 ∧ S ≤ 5 ∧ h c 0 17 = P ∧ h c 0 28 = S ∧ (0 ≤ h c 0 0 ∧ h c 0 0 ≤ B) ∧ (0 ≤ h c 0 1 ∧ h c 0 1 < 2147483648) ∧
  (∀ p, p < P → (0 ≤ h c 0 (18 + p) ∧ h c 0 (18 + p) ≤ 99) ∧ (0 ≤ h c 0 (23 + p) ∧ h c 0 (23 + p) ≤ 9) ∧ (0 ≤ h c 0 (2 + p) ∧ h c 0 (2 + p) ≤ 99)) ∧
  (∀ s, s < S → (0 ≤ h c 0 (29 + s) ∧ h c 0 (29 + s) ≤ 4) ∧ (0 ≤ h c 0 (7 + s) ∧ h c 0 (7 + s) ≤ 9) ∧ (h c 0 (12 + s) = -4 ∨ (0 ≤ h c 0 (12 + s) ∧ h c 0 (12 + s) < P))) := hN
theorem nv_and_nat {a b : Nat} (ha : a < 2 ^ 31) (hb : b < 2 ^ 31) : nv_and (a : Int) (b : Int) = ((a &&& b : Nat) : Int) := by
  have h2 : a &&& b < 2 ^ 31 := Nat.lt_of_le_of_lt Nat.and_le_left ha
  have h1 : Int32.ofInt (a : Int) &&& Int32.ofInt (b : Int) = Int32.ofInt ((a &&& b : Nat) : Int) := by
    apply Int32.toBitVec.inj
    rw [Int32.toBitVec_and, Int32.toBitVec_ofInt, Int32.toBitVec_ofInt, Int32.toBitVec_ofInt]
    apply BitVec.eq_of_toNat_eq
    simp only [BitVec.toNat_and, BitVec.ofInt_natCast, BitVec.toNat_ofNat]
    rw [Nat.mod_eq_of_lt (show a < 2 ^ 32 by omega), Nat.mod_eq_of_lt (show b < 2 ^ 32 by omega), Nat.mod_eq_of_lt (show a &&& b < 2 ^ 32 by omega)]
  unfold nv_and
  rw [h1]
  exact nv_toInt ⟨by omega, by omega⟩
theorem nv_and_1 {x : Int} (h0 : 0 ≤ x) (h1 : x < 2147483648) : nv_and x 1 = x % 2 := by
  obtain ⟨a, rfl⟩ : ∃ a : Nat, x = (a : Int) := ⟨x.toNat, by omega⟩
  have := nv_and_nat (a := a) (b := 1) (by omega) (by omega)
  rw [Nat.and_one_is_mod] at this
  rw [show ((1 : Nat) : Int) = 1 from rfl] at this
  rw [this]
  omega
theorem nv_or_0 {x : Int} (h0 : 0 ≤ x) (h1 : x < 2147483648) : nv_or x 0 = x := by
  obtain ⟨a, rfl⟩ : ∃ a : Nat, x = (a : Int) := ⟨x.toNat, by omega⟩
  have := nv_or_nat (a := a) (b := 0) (by omega) (by omega)
  rw [Nat.or_zero] at this
  exact this
def m_bit (x : Int) (k : Nat) : Bool := decide (x / 2 ^ k % 2 = 1)
theorem m_div_r {x : Int} {k : Nat} (h0 : 0 ≤ x) : 0 ≤ x / 2 ^ k ∧ x / 2 ^ k ≤ x := by
  have hp : (0 : Int) < 2 ^ k := Int.pow_pos (by decide)
  exact ⟨Int.ediv_nonneg h0 (by omega), Int.ediv_le_self _ h0⟩
theorem w_sr {a b : Int} {F : Nat → Prop} (ha : nv_InR a) (n : Nat) (hb : b = (n : Int)) (hn : n < 32) (hF : F n) : nv_InR a ∧ ∃ n : Nat, b = (n : Int) ∧ n < 32 ∧ F n := ⟨ha, n, hb, hn, hF⟩
set_option maxRecDepth 100000 in
theorem r_in {h : nv_St} {v a b : Int} (hv : nv_InR v) (ha : nv_InR a) (hb : nv_InR b) : nv_R M_X6_in [vi v, vi a, vi b] h (fun r h' => h' = h ∧ r = some (vi (nv_b (decide (a ≤ v) && decide (v ≤ b))))) := by
  refine nv_R.of rfl rfl (Nat.le_of_ble_eq_true rfl) ?_
  refine nv_go ok_X6_in [] 30 ?_
  refine w_ic hv ha (fun c => ?_) (fun c => ?_)
  · have c : v < a := c
    refine And.intro (Or.inl rfl) ⟨rfl, ?_⟩
    rw [decide_eq_false (show ¬ a ≤ v by omega)]; rfl
  · have c : ¬ v < a := c
    refine w_ic hv hb (fun c2 => ?_) (fun c2 => ?_)
    · have c2 : b < v := c2
      refine And.intro (Or.inl rfl) ⟨rfl, ?_⟩
      rw [decide_eq_false (show ¬ v ≤ b by omega), Bool.and_false]; rfl
    · have c2 : ¬ b < v := c2
      refine And.intro (Or.inr rfl) ⟨rfl, ?_⟩
      rw [decide_eq_true (show v ≤ b by omega), decide_eq_true (show a ≤ v by omega)]; rfl
set_option maxRecDepth 100000 in
theorem r_has {h : nv_St} {x : Int} {k : Nat} (h0 : 0 ≤ x) (h1 : x < 2147483648) (hk : k < 32) : nv_R M_X6_has [vi x, vi k] h (fun r h' => h' = h ∧ r = some (vi (nv_b (m_bit x k)))) := by
  have hd := m_div_r (k := k) h0
  have e1 : nv_and (x / 2 ^ k) 1 = x / 2 ^ k % 2 := nv_and_1 hd.1 (by omega)
  refine nv_R.of rfl rfl (Nat.le_of_ble_eq_true rfl) ?_
  refine nv_go ok_X6_has [] 30 ?_
  refine w_sr (by omega) k rfl hk ?_
  refine w_ic (by rw [e1]; omega) (by omega) (fun c => ?_) (fun c => ?_)
  · have c : x / 2 ^ k % 2 = 1 := by rw [← e1]; exact c
    exact And.intro (Or.inr rfl) ⟨rfl, by unfold m_bit; rw [decide_eq_true c]; rfl⟩
  · have c : ¬ x / 2 ^ k % 2 = 1 := by rw [← e1]; exact c
    exact And.intro (Or.inl rfl) ⟨rfl, by unfold m_bit; rw [decide_eq_false c]; rfl⟩
/-- the plank of which most is left, from the first on -/
def m_th (f : Nat → Int) : Nat → Nat
  | 0 => 0
  | n + 1 => if f (m_th f n) < f n then n else m_th f n
theorem m_th_lt (f : Nat → Int) : ∀ n, m_th f n < n ∨ m_th f n = 0
  | 0 => Or.inr rfl
  | n + 1 => by
    have := m_th_lt f n
    unfold m_th
    split <;> omega
theorem m_th_most {f : Nat → Int} : ∀ {n : Nat}, (∀ p, p < n → 0 ≤ f p) → (m_most f n = -4 ∧ m_th f n = 0 ∧ ∀ p, p < n → f p = 0) ∨ m_most f n = m_th f n
  | 0, _ => Or.inl ⟨rfl, rfl, fun p hp => absurd hp (by omega)⟩
  | n + 1, h => by
    have hn := h n (by omega)
    have hr := m_most_r f n
    rcases m_th_most (n := n) (fun p hp => h p (by omega)) with ⟨a, b, c⟩ | a
    · unfold m_most m_th
      rw [a, b]
      by_cases e : 0 < f n
      · right
        rw [if_pos ⟨e, Or.inl rfl⟩]
        by_cases hz : n = 0
        · subst hz; simp
        · rw [c 0 (by omega), if_pos e]
      · left
        have e0 : f n = 0 := by omega
        rw [if_neg (fun q => e q.1)]
        refine ⟨rfl, ?_, fun p hp => ?_⟩
        · by_cases hz : n = 0
          · subst hz; simp
          · rw [c 0 (by omega), if_neg e]
        · by_cases hp2 : p = n
          · rw [hp2]; exact e0
          · exact c p (by omega)
    · right
      have ha : ¬ m_most f n = -4 := by omega
      unfold m_most m_th
      rw [a]
      have e1 : ((m_th f n : Nat) : Int).toNat = m_th f n := by omega
      rw [e1]
      by_cases e : f (m_th f n) < f n
      · rw [if_pos e, if_pos ⟨by have := (hr.resolve_left ha).2.2; rw [a, e1] at this; omega, Or.inr e⟩]
      · rw [if_neg e, if_neg (fun q => (q.2.resolve_left (by omega)) |> e)]
theorem m_most_none {f : Nat → Int} : ∀ {n : Nat}, m_most f n = -4 ↔ ∀ p, p < n → ¬ 0 < f p
  | 0 => ⟨fun _ p hp => absurd hp (by omega), fun _ => rfl⟩
  | n + 1 => by
    have ih := m_most_none (f := f) (n := n)
    have hr := m_most_r f n
    unfold m_most
    constructor
    · intro h
      split at h
      · omega
      · next hc =>
        intro p hp
        by_cases e : p = n
        · subst e; intro h0; exact hc ⟨h0, Or.inl h⟩
        · exact ih.mp h p (by omega)
    · intro h
      rw [if_neg (fun q => h n (by omega) q.1)]
      exact ih.mpr (fun p hp => h p (by omega))
theorem m_set_all {f : Nat → Prop} [DecidablePred f] : ∀ {n : Nat}, m_set f n = 2 ^ n - 1 ↔ ∀ p, p < n → f p
  | 0 => ⟨fun _ p hp => absurd hp (by omega), fun _ => by simp [m_set]⟩
  | n + 1 => by
    have ih := m_set_all (f := f) (n := n)
    have hl := m_set_lt f n
    have h2 : (2 : Int) ^ (n + 1) = 2 ^ n + 2 ^ n := by rw [Int.pow_succ]; omega
    unfold m_set
    constructor
    · intro h p hp
      by_cases e : f n
      · rw [if_pos e] at h
        by_cases e2 : p = n
        · rw [e2]; exact e
        · exact ih.mp (by omega) p (by omega)
      · rw [if_neg e] at h; omega
    · intro h
      rw [if_pos (h n (by omega)), ih.mpr (fun p hp => h p (by omega))]
      omega
/-- an hour in which sawyer s cuts c s -/
def m_hourC (N : m_NN) (c : Nat → Int) : m_NN := fun t j => match t with
  | 0 => if j = 2 then N 0 2 + 1 else N 0 j
  | 3 => m_lf N c (m_S N) j
  | 5 => if N 0 2 % 3 = 2 ∧ 0 < c j ∧ 0 < N 5 j then N 5 j - 1 else N 5 j
  | 6 => if (0 ≤ N 6 j ∧ m_lf N c (m_S N) (N 6 j).toNat = 0) ∧ ¬ m_most (m_lf N c (m_S N)) (m_P N) = -4 then m_most (m_lf N c (m_S N)) (m_P N) else N 6 j
  | t => N t j
theorem m_hourC_cut (N : m_NN) : m_hourC N (m_cut N) = m_hour N := rfl
def m_frM (c : Nat) (h h' : nv_St) : Prop := ∀ t i, ¬ ((t = c ∨ t = 28) ∧ i = 0) → h' t i = h t i
theorem m_frM.rfl' {c : Nat} {h : nv_St} : m_frM c h h := fun _ _ _ => rfl
theorem m_frM.trans' {c : Nat} {h h1 h2 : nv_St} (a : m_frM c h h1) (b : m_frM c h1 h2) : m_frM c h h2 := fun t i hn => (b t i hn).trans (a t i hn)
set_option maxHeartbeats 4000000 in
set_option maxRecDepth 100000 in
theorem r_cuts_24 {h : nv_St} {P S : Nat} {B : Int} (hN : m_ok (m_mm h 24) P S B) (hB : B < 1073741824) {s : Nat} (hs : s < S) : nv_R M_X6_cuts [vr 24 0, vi s] h (fun r h' => h' = h ∧ r = some (vi (m_cut (m_mm h 24) s))) := by
  obtain ⟨hP5, hS5, hP, hS, hH, hDr, hpl, hsw⟩ := hN.m
  obtain ⟨hk, ht, hse⟩ := hsw s hs
  generalize hQ : (fun (r : Option nv_AV) (h' : nv_St) => h' = h ∧ r = some (vi (m_cut (m_mm h 24) s))) = Q
  have q_ok : ∀ z : Int, z = m_cut (m_mm h 24) s → Q (some (vi z)) h := fun z hz => by rw [← hQ, hz]; exact ⟨rfl, rfl⟩
  refine nv_R.of rfl rfl (Nat.le_of_ble_eq_true rfl) ?_
  refine nv_go ok_X6_cuts [58, 73, 108] 60 ?_
  refine w_ix (12 + s) (by omega) (by omega) ?_
  refine w_ic (by omega) (by omega) (fun c => ?_) (fun c => ?_)
  · have c : m_mm h 24 6 s = -4 := c
    exact q_ok _ (by unfold m_cut; rw [if_pos (by omega)])
  · have c : ¬ h 24 0 (12 + s) = -4 := c
    obtain ⟨p, hp⟩ : ∃ p : Nat, h 24 0 (12 + s) = p := ⟨(h 24 0 (12 + s)).toNat, by omega⟩
    have hp' : (m_mm h 24 6 s).toNat = p := by show (h 24 0 (12 + s)).toNat = p; omega
    have c' : ¬ m_mm h 24 6 s < 0 := by show ¬ h 24 0 (12 + s) < 0; omega
    obtain ⟨h1, h2, h3⟩ := hpl p (by omega)
    have hpr := m_plain_r ht h2
    refine w_ix (2 + p) (by omega) (by omega) ?_
    refine w_if (by omega) (fun c2 => ?_) (fun c2 => ?_)
    · have c2 : m_mm h 24 3 p = 0 := c2
      exact q_ok _ (by unfold m_cut; rw [if_neg c', hp', if_pos c2])
    · have c2 : ¬ m_mm h 24 3 p = 0 := c2
      have ecut : m_cut (m_mm h 24) s = m_by (h 24 0 (29 + s)) (h 24 0 (7 + s)) (h 24 0 (23 + p)) (m_edge (m_mm h 24) p) (m_rest (m_mm h 24)) := by
        unfold m_cut; rw [if_neg c', hp', if_neg c2]; rfl
      have h108 : ∀ x y z : Int, x = m_plain (h 24 0 (7 + s)) (h 24 0 (23 + p)) → y = m_old (h 24 0 (7 + s)) (h 24 0 (23 + p)) → z = m_green (h 24 0 (7 + s)) (h 24 0 (23 + p)) (m_edge (m_mm h 24) p) → nv_V M_X6_cuts 108 [(0, vr 24 0), (1, vi s), (2, vi (h 24 0 (12 + s))), (3, vi (h 24 0 (23 + p))), (4, vi x), (5, vi y), (6, vi z)] [] h Q := by
        intro x y z hx hy hz
        have hz0 : 0 ≤ z ∧ z ≤ 18 := by rw [hz]; exact m_green_r ht h2
        refine nv_go ok_X6_cuts [] 60 ?_
        refine w_ix (29 + s) (by omega) (by omega) ?_
        refine And.intro (by omega) (And.intro (fun c => ?_) (And.intro (fun c => ?_) (And.intro (fun c => ?_) (And.intro (fun c => ?_) (And.intro (fun c => ?_) trivial)))))
        · have c : h 24 0 (29 + s) < 0 ∨ (0 : Int) + 4 ≤ h 24 0 (29 + s) := c
          refine w_ic (by omega) (by omega) (fun c3 => ?_) (fun c3 => ?_)
          · have c3 : z = 1 := c3
            exact q_ok _ (by rw [ecut]; unfold m_by; rw [if_neg (by omega), if_neg (by omega), if_neg (by omega), if_pos (by omega), ← hz, if_pos c3])
          · have c3 : ¬ z = 1 := c3
            refine w_dv (by omega) (by omega) ?_
            exact q_ok _ (by rw [ecut]; unfold m_by; rw [if_neg (by omega), if_neg (by omega), if_neg (by omega), if_pos (by omega), ← hz, if_neg c3])
        · exact q_ok _ (by rw [ecut, hx]; unfold m_by; rw [if_neg (by omega), if_neg (by omega), if_neg (by omega), if_neg (by omega)])
        · exact q_ok _ (by rw [ecut, hy]; unfold m_by; rw [if_pos (by omega)])
        · exact q_ok _ (by rw [ecut, hz]; unfold m_by; rw [if_neg (by omega), if_pos (by omega)])
        · refine w_ix 0 (by omega) (by omega) ?_
          refine w_dv (by omega) (by omega) ?_
          refine w_if (by omega) (fun c3 => ?_) (fun c3 => ?_)
          · have c3 : m_mm h 24 0 2 % 4 = 0 := c3
            exact q_ok _ (by rw [ecut]; unfold m_by m_rest; rw [if_neg (by omega), if_neg (by omega), if_pos (by omega), decide_eq_true c3]; rfl)
          · have c3 : ¬ m_mm h 24 0 2 % 4 = 0 := c3
            exact q_ok _ (by rw [ecut, hy]; unfold m_by m_rest; rw [if_neg (by omega), if_neg (by omega), if_pos (by omega), decide_eq_false c3]; rfl)
      have h73 : ∀ x y : Int, x = m_plain (h 24 0 (7 + s)) (h 24 0 (23 + p)) → y = m_old (h 24 0 (7 + s)) (h 24 0 (23 + p)) → nv_V M_X6_cuts 73 [(0, vr 24 0), (1, vi s), (2, vi (h 24 0 (12 + s))), (3, vi (h 24 0 (23 + p))), (4, vi x), (5, vi y)] [] h Q := by
        intro x y hx hy
        refine nv_go ok_X6_cuts [108] 60 ?_
        refine w_ix (2 + p) (by omega) (by omega) ?_
        refine w_ix (18 + p) (by omega) (by omega) ?_
        refine w_ic (by omega) (by omega) (fun c3 => ?_) (fun c3 => ?_)
        · have c3 : m_mm h 24 3 p = m_mm h 24 1 p := c3
          exact h108 _ _ _ hx hy (by rw [hx]; unfold m_green m_edge; rw [decide_eq_true c3]; rfl)
        · have c3 : ¬ m_mm h 24 3 p = m_mm h 24 1 p := c3
          refine w_ix (2 + p) (by omega) (by omega) ?_
          refine w_ic (by omega) (by omega) (fun c4 => ?_) (fun c4 => ?_)
          · have c4 : ¬ m_mm h 24 3 p < 10 := Int.not_lt.mpr c4
            exact h108 _ _ _ hx hy (by rw [hx]; unfold m_green m_edge; rw [decide_eq_false c3, decide_eq_false c4]; rfl)
          · have c4 : m_mm h 24 3 p < 10 := Int.not_le.mp c4
            exact h108 _ _ _ hx hy (by rw [hx]; unfold m_green m_edge; rw [decide_eq_true c4, Bool.or_true]; rfl)
      have h58 : ∀ x : Int, x = m_plain (h 24 0 (7 + s)) (h 24 0 (23 + p)) → nv_V M_X6_cuts 58 [(0, vr 24 0), (1, vi s), (2, vi (h 24 0 (12 + s))), (3, vi (h 24 0 (23 + p))), (4, vi x)] [] h Q := by
        intro x hx
        refine nv_go ok_X6_cuts [73] 60 ?_
        refine w_ic (by omega) (by omega) (fun c3 => ?_) (fun c3 => ?_)
        · have c3 : 3 ≤ h 24 0 (23 + p) := c3
          exact h73 _ _ hx (by rw [hx]; unfold m_old; rw [if_pos c3])
        · have c3 : ¬ 3 ≤ h 24 0 (23 + p) := c3
          exact h73 _ _ hx (by rw [hx]; unfold m_old; rw [if_neg c3])
      refine w_ix (23 + p) (by omega) (by omega) ?_
      refine w_ix (7 + s) (by omega) (by omega) ?_
      refine w_dv (by omega) (by omega) ?_
      refine w_ic (by omega) (by omega) (fun c3 => ?_) (fun c3 => ?_)
      · have c3 : h 24 0 (7 + s) ≤ h 24 0 (23 + p) / 2 := c3
        exact h58 _ (by unfold m_plain; rw [if_pos c3])
      · have c3 : ¬ h 24 0 (7 + s) ≤ h 24 0 (23 + p) / 2 := c3
        refine w_ix (7 + s) (by omega) (by omega) ?_
        refine w_dv (by omega) (by omega) ?_
        exact h58 _ (by unfold m_plain; rw [if_neg c3])
set_option maxRecDepth 100000 in
theorem r_fallenM_24 {h : nv_St} {P : Nat} (hP5 : P ≤ 5) (hP : h 24 0 17 = P) (hpl : ∀ p, p < P → 0 ≤ h 24 0 (2 + p) ∧ h 24 0 (2 + p) ≤ 99) : nv_R M_X6_fallen [vr 24 0] h (fun r h' => h' = h ∧ r = some (vi (m_set (fun p => h 24 0 (2 + p) = 0) P))) := by
  refine nv_R.of rfl rfl (Nat.le_of_ble_eq_true rfl) ?_
  have loop := m_down (n := P) (G := fun p => ∀ j x : Int, j = p → x = m_set (fun p => h 24 0 (2 + p) = 0) p → nv_V M_X6_fallen 4 [(0, vr 24 0), (1, vi x), (2, vi j)] [] h (fun r h' => h' = h ∧ r = some (vi (m_set (fun p => h 24 0 (2 + p) = 0) P)))) ?_ ?_
  · refine nv_go ok_X6_fallen [4] 10 ?_
    exact loop 0 (by omega) _ _ rfl rfl
  · intro j x hj hx
    refine nv_go ok_X6_fallen [4] 30 ?_
    refine w_ix 17 rfl (by omega) ?_
    refine w_ic (by omega) (by omega) (fun c => ?_) (fun c => ?_)
    · exact ⟨rfl, by rw [hx]⟩
    · exact absurd (by show h 24 0 17 ≤ j; omega) c
  · intro p hp ih j x hj hx
    have hl := m_set_lt (fun p => h 24 0 (2 + p) = 0) p
    have hp2 : (2 : Int) ^ p ≤ 2 ^ 5 := by
      have : p = 0 ∨ p = 1 ∨ p = 2 ∨ p = 3 ∨ p = 4 := by omega
      rcases this with rfl | rfl | rfl | rfl | rfl <;> decide
    have h3 := hpl p hp
    refine nv_go ok_X6_fallen [4] 30 ?_
    refine w_ix 17 rfl (by omega) ?_
    refine w_ic (by omega) (by omega) (fun c => ?_) (fun c => ?_)
    · exact absurd c (by show ¬ (h 24 0 17 ≤ j); omega)
    · refine w_ix (2 + p) (by omega) (by omega) ?_
      refine w_if (by omega) (fun c2 => ?_) (fun c2 => ?_)
      · refine w_ix p hj (by omega) ?_
        have e1 : h 24 0 (2 + p) = 0 := c2
        exact ih _ _ (by omega) (by rw [hx, nv_or_bit hl.1 hl.2 (by omega)]; simp [m_set, e1])
      · have e1 : ¬ h 24 0 (2 + p) = 0 := c2
        exact ih _ _ (by omega) (by rw [hx, nv_or_0 hl.1 (by omega)]; simp [m_set, e1])
set_option maxRecDepth 100000 in
theorem r_isAll_24 {h : nv_St} {P : Nat} (hP5 : P ≤ 5) (hP : h 24 0 17 = P) (hpl : ∀ p, p < P → 0 ≤ h 24 0 (2 + p) ∧ h 24 0 (2 + p) ≤ 99) : nv_R M_X6_isAll [vr 24 0] h (fun r h' => h' = h ∧ r = some (vi (nv_b (decide (∀ p, p < P → h 24 0 (2 + p) = 0))))) := by
  have hl := m_set_lt (fun p => h 24 0 (2 + p) = 0) P
  have hp2 : (1 : Int) ≤ 2 ^ P ∧ (2 : Int) ^ P ≤ 32 := by
    have : P = 0 ∨ P = 1 ∨ P = 2 ∨ P = 3 ∨ P = 4 ∨ P = 5 := by omega
    rcases this with rfl | rfl | rfl | rfl | rfl | rfl <;> decide
  have hall := m_set_all (f := fun p => h 24 0 (2 + p) = 0) (n := P)
  refine nv_R.of rfl rfl (Nat.le_of_ble_eq_true rfl) ?_
  refine nv_go ok_X6_isAll [] 30 ?_
  refine w_call (r_fallenM_24 hP5 hP hpl) (fun v h' hv => ?_)
  obtain ⟨rfl, rfl⟩ := hv
  refine w_ix 17 rfl (by omega) ?_
  refine w_ix P hP (by omega) ?_
  refine w_ic (by omega) (by omega) (fun c => ?_) (fun c => ?_)
  · have c : m_set (fun p => h' 24 0 (2 + p) = 0) P = 1 * 2 ^ P - 1 := c
    exact And.intro (Or.inr rfl) ⟨rfl, by rw [decide_eq_true (hall.mp (by omega))]; rfl⟩
  · have c : ¬ m_set (fun p => h' 24 0 (2 + p) = 0) P = 1 * 2 ^ P - 1 := c
    exact And.intro (Or.inl rfl) ⟨rfl, by rw [decide_eq_false (fun q => c (by have := hall.mpr q; omega))]; rfl⟩
set_option maxRecDepth 100000 in
theorem r_leftOf_24 {h : nv_St} {P : Nat} (hP5 : P ≤ 5) (hP : h 24 0 17 = P) : nv_R M_X6_leftOf [vr 24 0] h (fun r h' => h' = h ∧ r = some (vi (m_sum (fun p => h 24 0 (2 + p)) P))) := by
  refine nv_R.of rfl rfl (Nat.le_of_ble_eq_true rfl) ?_
  have loop := m_down (n := P) (G := fun p => ∀ j x : Int, j = p → x = m_sum (fun p => h 24 0 (2 + p)) p → nv_V M_X6_leftOf 4 [(0, vr 24 0), (1, vi x), (2, vi j)] [] h (fun r h' => h' = h ∧ r = some (vi (m_sum (fun p => h 24 0 (2 + p)) P)))) ?_ ?_
  · refine nv_go ok_X6_leftOf [4] 10 ?_
    exact loop 0 (by omega) _ _ rfl rfl
  · intro j x hj hx
    refine nv_go ok_X6_leftOf [4] 30 ?_
    refine w_ix 17 rfl (by omega) ?_
    refine w_ic (by omega) (by omega) (fun c => ?_) (fun c => ?_)
    · exact ⟨rfl, by rw [hx]⟩
    · exact absurd (by show h 24 0 17 ≤ j; omega) c
  · intro p hp ih j x hj hx
    refine nv_go ok_X6_leftOf [4] 30 ?_
    refine w_ix 17 rfl (by omega) ?_
    refine w_ic (by omega) (by omega) (fun c => ?_) (fun c => ?_)
    · exact absurd c (by show ¬ (h 24 0 17 ≤ j); omega)
    · refine w_ix (2 + p) (by omega) (by omega) ?_
      exact ih _ _ (by omega) (by rw [hx]; rfl)
set_option maxRecDepth 100000 in
theorem r_thickestOf_24 {h : nv_St} {P : Nat} (hP5 : P ≤ 5) (hP1 : 1 ≤ P) (hP : h 24 0 17 = P) (hpl : ∀ p, p < P → 0 ≤ h 24 0 (2 + p) ∧ h 24 0 (2 + p) ≤ 99) : nv_R M_X6_thickestOf [vr 24 0] h (fun r h' => h' = h ∧ r = some (vi (m_th (fun p => h 24 0 (2 + p)) P))) := by
  refine nv_R.of rfl rfl (Nat.le_of_ble_eq_true rfl) ?_
  have loop := m_down (n := P) (G := fun p => ∀ j x : Int, 1 ≤ p → j = p → x = m_th (fun p => h 24 0 (2 + p)) p → nv_V M_X6_thickestOf 4 [(0, vr 24 0), (1, vi x), (2, vi j)] [] h (fun r h' => h' = h ∧ r = some (vi (m_th (fun p => h 24 0 (2 + p)) P)))) ?_ ?_
  · refine nv_go ok_X6_thickestOf [4] 10 ?_
    exact loop 1 (by omega) _ _ (by omega) rfl (by simp [m_th])
  · intro j x h1 hj hx
    refine nv_go ok_X6_thickestOf [4] 30 ?_
    refine w_ix 17 rfl (by omega) ?_
    refine w_ic (by omega) (by omega) (fun c => ?_) (fun c => ?_)
    · exact ⟨rfl, by rw [hx]⟩
    · exact absurd (by show h 24 0 17 ≤ j; omega) c
  · intro p hp ih j x h1 hj hx
    have hth := m_th_lt (fun p => h 24 0 (2 + p)) p
    have g1 := hpl p hp
    have g2 := hpl (m_th (fun p => h 24 0 (2 + p)) p) (by omega)
    refine nv_go ok_X6_thickestOf [4] 30 ?_
    refine w_ix 17 rfl (by omega) ?_
    refine w_ic (by omega) (by omega) (fun c => ?_) (fun c => ?_)
    · exact absurd c (by show ¬ (h 24 0 17 ≤ j); omega)
    · refine w_ix (2 + p) (by omega) (by omega) ?_
      refine w_ix (2 + m_th (fun p => h 24 0 (2 + p)) p) (by omega) (by omega) ?_
      refine w_ic (by omega) (by omega) (fun c2 => ?_) (fun c2 => ?_)
      · have c2 : h 24 0 (2 + p) ≤ h 24 0 (2 + m_th (fun p => h 24 0 (2 + p)) p) := c2
        exact ih _ _ (by omega) (by omega) (by rw [hx]; conv => rhs; unfold m_th; rw [if_neg (by omega)])
      · have c2 : ¬ h 24 0 (2 + p) ≤ h 24 0 (2 + m_th (fun p => h 24 0 (2 + p)) p) := c2
        exact ih _ _ (by omega) (by omega) (by rw [hj]; conv => rhs; unfold m_th; rw [if_pos (by omega)])
set_option maxHeartbeats 4000000 in
set_option maxRecDepth 100000 in
theorem r_cuts_25 {h : nv_St} {P S : Nat} {B : Int} (hN : m_ok (m_mm h 25) P S B) (hB : B < 1073741824) {s : Nat} (hs : s < S) : nv_R M_X6_cuts [vr 25 0, vi s] h (fun r h' => h' = h ∧ r = some (vi (m_cut (m_mm h 25) s))) := by
  obtain ⟨hP5, hS5, hP, hS, hH, hDr, hpl, hsw⟩ := hN.m
  obtain ⟨hk, ht, hse⟩ := hsw s hs
  generalize hQ : (fun (r : Option nv_AV) (h' : nv_St) => h' = h ∧ r = some (vi (m_cut (m_mm h 25) s))) = Q
  have q_ok : ∀ z : Int, z = m_cut (m_mm h 25) s → Q (some (vi z)) h := fun z hz => by rw [← hQ, hz]; exact ⟨rfl, rfl⟩
  refine nv_R.of rfl rfl (Nat.le_of_ble_eq_true rfl) ?_
  refine nv_go ok_X6_cuts [58, 73, 108] 60 ?_
  refine w_ix (12 + s) (by omega) (by omega) ?_
  refine w_ic (by omega) (by omega) (fun c => ?_) (fun c => ?_)
  · have c : m_mm h 25 6 s = -4 := c
    exact q_ok _ (by unfold m_cut; rw [if_pos (by omega)])
  · have c : ¬ h 25 0 (12 + s) = -4 := c
    obtain ⟨p, hp⟩ : ∃ p : Nat, h 25 0 (12 + s) = p := ⟨(h 25 0 (12 + s)).toNat, by omega⟩
    have hp' : (m_mm h 25 6 s).toNat = p := by show (h 25 0 (12 + s)).toNat = p; omega
    have c' : ¬ m_mm h 25 6 s < 0 := by show ¬ h 25 0 (12 + s) < 0; omega
    obtain ⟨h1, h2, h3⟩ := hpl p (by omega)
    have hpr := m_plain_r ht h2
    refine w_ix (2 + p) (by omega) (by omega) ?_
    refine w_if (by omega) (fun c2 => ?_) (fun c2 => ?_)
    · have c2 : m_mm h 25 3 p = 0 := c2
      exact q_ok _ (by unfold m_cut; rw [if_neg c', hp', if_pos c2])
    · have c2 : ¬ m_mm h 25 3 p = 0 := c2
      have ecut : m_cut (m_mm h 25) s = m_by (h 25 0 (29 + s)) (h 25 0 (7 + s)) (h 25 0 (23 + p)) (m_edge (m_mm h 25) p) (m_rest (m_mm h 25)) := by
        unfold m_cut; rw [if_neg c', hp', if_neg c2]; rfl
      have h108 : ∀ x y z : Int, x = m_plain (h 25 0 (7 + s)) (h 25 0 (23 + p)) → y = m_old (h 25 0 (7 + s)) (h 25 0 (23 + p)) → z = m_green (h 25 0 (7 + s)) (h 25 0 (23 + p)) (m_edge (m_mm h 25) p) → nv_V M_X6_cuts 108 [(0, vr 25 0), (1, vi s), (2, vi (h 25 0 (12 + s))), (3, vi (h 25 0 (23 + p))), (4, vi x), (5, vi y), (6, vi z)] [] h Q := by
        intro x y z hx hy hz
        have hz0 : 0 ≤ z ∧ z ≤ 18 := by rw [hz]; exact m_green_r ht h2
        refine nv_go ok_X6_cuts [] 60 ?_
        refine w_ix (29 + s) (by omega) (by omega) ?_
        refine And.intro (by omega) (And.intro (fun c => ?_) (And.intro (fun c => ?_) (And.intro (fun c => ?_) (And.intro (fun c => ?_) (And.intro (fun c => ?_) trivial)))))
        · have c : h 25 0 (29 + s) < 0 ∨ (0 : Int) + 4 ≤ h 25 0 (29 + s) := c
          refine w_ic (by omega) (by omega) (fun c3 => ?_) (fun c3 => ?_)
          · have c3 : z = 1 := c3
            exact q_ok _ (by rw [ecut]; unfold m_by; rw [if_neg (by omega), if_neg (by omega), if_neg (by omega), if_pos (by omega), ← hz, if_pos c3])
          · have c3 : ¬ z = 1 := c3
            refine w_dv (by omega) (by omega) ?_
            exact q_ok _ (by rw [ecut]; unfold m_by; rw [if_neg (by omega), if_neg (by omega), if_neg (by omega), if_pos (by omega), ← hz, if_neg c3])
        · exact q_ok _ (by rw [ecut, hx]; unfold m_by; rw [if_neg (by omega), if_neg (by omega), if_neg (by omega), if_neg (by omega)])
        · exact q_ok _ (by rw [ecut, hy]; unfold m_by; rw [if_pos (by omega)])
        · exact q_ok _ (by rw [ecut, hz]; unfold m_by; rw [if_neg (by omega), if_pos (by omega)])
        · refine w_ix 0 (by omega) (by omega) ?_
          refine w_dv (by omega) (by omega) ?_
          refine w_if (by omega) (fun c3 => ?_) (fun c3 => ?_)
          · have c3 : m_mm h 25 0 2 % 4 = 0 := c3
            exact q_ok _ (by rw [ecut]; unfold m_by m_rest; rw [if_neg (by omega), if_neg (by omega), if_pos (by omega), decide_eq_true c3]; rfl)
          · have c3 : ¬ m_mm h 25 0 2 % 4 = 0 := c3
            exact q_ok _ (by rw [ecut, hy]; unfold m_by m_rest; rw [if_neg (by omega), if_neg (by omega), if_pos (by omega), decide_eq_false c3]; rfl)
      have h73 : ∀ x y : Int, x = m_plain (h 25 0 (7 + s)) (h 25 0 (23 + p)) → y = m_old (h 25 0 (7 + s)) (h 25 0 (23 + p)) → nv_V M_X6_cuts 73 [(0, vr 25 0), (1, vi s), (2, vi (h 25 0 (12 + s))), (3, vi (h 25 0 (23 + p))), (4, vi x), (5, vi y)] [] h Q := by
        intro x y hx hy
        refine nv_go ok_X6_cuts [108] 60 ?_
        refine w_ix (2 + p) (by omega) (by omega) ?_
        refine w_ix (18 + p) (by omega) (by omega) ?_
        refine w_ic (by omega) (by omega) (fun c3 => ?_) (fun c3 => ?_)
        · have c3 : m_mm h 25 3 p = m_mm h 25 1 p := c3
          exact h108 _ _ _ hx hy (by rw [hx]; unfold m_green m_edge; rw [decide_eq_true c3]; rfl)
        · have c3 : ¬ m_mm h 25 3 p = m_mm h 25 1 p := c3
          refine w_ix (2 + p) (by omega) (by omega) ?_
          refine w_ic (by omega) (by omega) (fun c4 => ?_) (fun c4 => ?_)
          · have c4 : ¬ m_mm h 25 3 p < 10 := Int.not_lt.mpr c4
            exact h108 _ _ _ hx hy (by rw [hx]; unfold m_green m_edge; rw [decide_eq_false c3, decide_eq_false c4]; rfl)
          · have c4 : m_mm h 25 3 p < 10 := Int.not_le.mp c4
            exact h108 _ _ _ hx hy (by rw [hx]; unfold m_green m_edge; rw [decide_eq_true c4, Bool.or_true]; rfl)
      have h58 : ∀ x : Int, x = m_plain (h 25 0 (7 + s)) (h 25 0 (23 + p)) → nv_V M_X6_cuts 58 [(0, vr 25 0), (1, vi s), (2, vi (h 25 0 (12 + s))), (3, vi (h 25 0 (23 + p))), (4, vi x)] [] h Q := by
        intro x hx
        refine nv_go ok_X6_cuts [73] 60 ?_
        refine w_ic (by omega) (by omega) (fun c3 => ?_) (fun c3 => ?_)
        · have c3 : 3 ≤ h 25 0 (23 + p) := c3
          exact h73 _ _ hx (by rw [hx]; unfold m_old; rw [if_pos c3])
        · have c3 : ¬ 3 ≤ h 25 0 (23 + p) := c3
          exact h73 _ _ hx (by rw [hx]; unfold m_old; rw [if_neg c3])
      refine w_ix (23 + p) (by omega) (by omega) ?_
      refine w_ix (7 + s) (by omega) (by omega) ?_
      refine w_dv (by omega) (by omega) ?_
      refine w_ic (by omega) (by omega) (fun c3 => ?_) (fun c3 => ?_)
      · have c3 : h 25 0 (7 + s) ≤ h 25 0 (23 + p) / 2 := c3
        exact h58 _ (by unfold m_plain; rw [if_pos c3])
      · have c3 : ¬ h 25 0 (7 + s) ≤ h 25 0 (23 + p) / 2 := c3
        refine w_ix (7 + s) (by omega) (by omega) ?_
        refine w_dv (by omega) (by omega) ?_
        exact h58 _ (by unfold m_plain; rw [if_neg c3])
set_option maxRecDepth 100000 in
theorem r_fallenM_25 {h : nv_St} {P : Nat} (hP5 : P ≤ 5) (hP : h 25 0 17 = P) (hpl : ∀ p, p < P → 0 ≤ h 25 0 (2 + p) ∧ h 25 0 (2 + p) ≤ 99) : nv_R M_X6_fallen [vr 25 0] h (fun r h' => h' = h ∧ r = some (vi (m_set (fun p => h 25 0 (2 + p) = 0) P))) := by
  refine nv_R.of rfl rfl (Nat.le_of_ble_eq_true rfl) ?_
  have loop := m_down (n := P) (G := fun p => ∀ j x : Int, j = p → x = m_set (fun p => h 25 0 (2 + p) = 0) p → nv_V M_X6_fallen 4 [(0, vr 25 0), (1, vi x), (2, vi j)] [] h (fun r h' => h' = h ∧ r = some (vi (m_set (fun p => h 25 0 (2 + p) = 0) P)))) ?_ ?_
  · refine nv_go ok_X6_fallen [4] 10 ?_
    exact loop 0 (by omega) _ _ rfl rfl
  · intro j x hj hx
    refine nv_go ok_X6_fallen [4] 30 ?_
    refine w_ix 17 rfl (by omega) ?_
    refine w_ic (by omega) (by omega) (fun c => ?_) (fun c => ?_)
    · exact ⟨rfl, by rw [hx]⟩
    · exact absurd (by show h 25 0 17 ≤ j; omega) c
  · intro p hp ih j x hj hx
    have hl := m_set_lt (fun p => h 25 0 (2 + p) = 0) p
    have hp2 : (2 : Int) ^ p ≤ 2 ^ 5 := by
      have : p = 0 ∨ p = 1 ∨ p = 2 ∨ p = 3 ∨ p = 4 := by omega
      rcases this with rfl | rfl | rfl | rfl | rfl <;> decide
    have h3 := hpl p hp
    refine nv_go ok_X6_fallen [4] 30 ?_
    refine w_ix 17 rfl (by omega) ?_
    refine w_ic (by omega) (by omega) (fun c => ?_) (fun c => ?_)
    · exact absurd c (by show ¬ (h 25 0 17 ≤ j); omega)
    · refine w_ix (2 + p) (by omega) (by omega) ?_
      refine w_if (by omega) (fun c2 => ?_) (fun c2 => ?_)
      · refine w_ix p hj (by omega) ?_
        have e1 : h 25 0 (2 + p) = 0 := c2
        exact ih _ _ (by omega) (by rw [hx, nv_or_bit hl.1 hl.2 (by omega)]; simp [m_set, e1])
      · have e1 : ¬ h 25 0 (2 + p) = 0 := c2
        exact ih _ _ (by omega) (by rw [hx, nv_or_0 hl.1 (by omega)]; simp [m_set, e1])
set_option maxRecDepth 100000 in
theorem r_isAll_25 {h : nv_St} {P : Nat} (hP5 : P ≤ 5) (hP : h 25 0 17 = P) (hpl : ∀ p, p < P → 0 ≤ h 25 0 (2 + p) ∧ h 25 0 (2 + p) ≤ 99) : nv_R M_X6_isAll [vr 25 0] h (fun r h' => h' = h ∧ r = some (vi (nv_b (decide (∀ p, p < P → h 25 0 (2 + p) = 0))))) := by
  have hl := m_set_lt (fun p => h 25 0 (2 + p) = 0) P
  have hp2 : (1 : Int) ≤ 2 ^ P ∧ (2 : Int) ^ P ≤ 32 := by
    have : P = 0 ∨ P = 1 ∨ P = 2 ∨ P = 3 ∨ P = 4 ∨ P = 5 := by omega
    rcases this with rfl | rfl | rfl | rfl | rfl | rfl <;> decide
  have hall := m_set_all (f := fun p => h 25 0 (2 + p) = 0) (n := P)
  refine nv_R.of rfl rfl (Nat.le_of_ble_eq_true rfl) ?_
  refine nv_go ok_X6_isAll [] 30 ?_
  refine w_call (r_fallenM_25 hP5 hP hpl) (fun v h' hv => ?_)
  obtain ⟨rfl, rfl⟩ := hv
  refine w_ix 17 rfl (by omega) ?_
  refine w_ix P hP (by omega) ?_
  refine w_ic (by omega) (by omega) (fun c => ?_) (fun c => ?_)
  · have c : m_set (fun p => h' 25 0 (2 + p) = 0) P = 1 * 2 ^ P - 1 := c
    exact And.intro (Or.inr rfl) ⟨rfl, by rw [decide_eq_true (hall.mp (by omega))]; rfl⟩
  · have c : ¬ m_set (fun p => h' 25 0 (2 + p) = 0) P = 1 * 2 ^ P - 1 := c
    exact And.intro (Or.inl rfl) ⟨rfl, by rw [decide_eq_false (fun q => c (by have := hall.mpr q; omega))]; rfl⟩
set_option maxRecDepth 100000 in
theorem r_leftOf_25 {h : nv_St} {P : Nat} (hP5 : P ≤ 5) (hP : h 25 0 17 = P) : nv_R M_X6_leftOf [vr 25 0] h (fun r h' => h' = h ∧ r = some (vi (m_sum (fun p => h 25 0 (2 + p)) P))) := by
  refine nv_R.of rfl rfl (Nat.le_of_ble_eq_true rfl) ?_
  have loop := m_down (n := P) (G := fun p => ∀ j x : Int, j = p → x = m_sum (fun p => h 25 0 (2 + p)) p → nv_V M_X6_leftOf 4 [(0, vr 25 0), (1, vi x), (2, vi j)] [] h (fun r h' => h' = h ∧ r = some (vi (m_sum (fun p => h 25 0 (2 + p)) P)))) ?_ ?_
  · refine nv_go ok_X6_leftOf [4] 10 ?_
    exact loop 0 (by omega) _ _ rfl rfl
  · intro j x hj hx
    refine nv_go ok_X6_leftOf [4] 30 ?_
    refine w_ix 17 rfl (by omega) ?_
    refine w_ic (by omega) (by omega) (fun c => ?_) (fun c => ?_)
    · exact ⟨rfl, by rw [hx]⟩
    · exact absurd (by show h 25 0 17 ≤ j; omega) c
  · intro p hp ih j x hj hx
    refine nv_go ok_X6_leftOf [4] 30 ?_
    refine w_ix 17 rfl (by omega) ?_
    refine w_ic (by omega) (by omega) (fun c => ?_) (fun c => ?_)
    · exact absurd c (by show ¬ (h 25 0 17 ≤ j); omega)
    · refine w_ix (2 + p) (by omega) (by omega) ?_
      exact ih _ _ (by omega) (by rw [hx]; rfl)
set_option maxRecDepth 100000 in
theorem r_thickestOf_25 {h : nv_St} {P : Nat} (hP5 : P ≤ 5) (hP1 : 1 ≤ P) (hP : h 25 0 17 = P) (hpl : ∀ p, p < P → 0 ≤ h 25 0 (2 + p) ∧ h 25 0 (2 + p) ≤ 99) : nv_R M_X6_thickestOf [vr 25 0] h (fun r h' => h' = h ∧ r = some (vi (m_th (fun p => h 25 0 (2 + p)) P))) := by
  refine nv_R.of rfl rfl (Nat.le_of_ble_eq_true rfl) ?_
  have loop := m_down (n := P) (G := fun p => ∀ j x : Int, 1 ≤ p → j = p → x = m_th (fun p => h 25 0 (2 + p)) p → nv_V M_X6_thickestOf 4 [(0, vr 25 0), (1, vi x), (2, vi j)] [] h (fun r h' => h' = h ∧ r = some (vi (m_th (fun p => h 25 0 (2 + p)) P)))) ?_ ?_
  · refine nv_go ok_X6_thickestOf [4] 10 ?_
    exact loop 1 (by omega) _ _ (by omega) rfl (by simp [m_th])
  · intro j x h1 hj hx
    refine nv_go ok_X6_thickestOf [4] 30 ?_
    refine w_ix 17 rfl (by omega) ?_
    refine w_ic (by omega) (by omega) (fun c => ?_) (fun c => ?_)
    · exact ⟨rfl, by rw [hx]⟩
    · exact absurd (by show h 25 0 17 ≤ j; omega) c
  · intro p hp ih j x h1 hj hx
    have hth := m_th_lt (fun p => h 25 0 (2 + p)) p
    have g1 := hpl p hp
    have g2 := hpl (m_th (fun p => h 25 0 (2 + p)) p) (by omega)
    refine nv_go ok_X6_thickestOf [4] 30 ?_
    refine w_ix 17 rfl (by omega) ?_
    refine w_ic (by omega) (by omega) (fun c => ?_) (fun c => ?_)
    · exact absurd c (by show ¬ (h 25 0 17 ≤ j); omega)
    · refine w_ix (2 + p) (by omega) (by omega) ?_
      refine w_ix (2 + m_th (fun p => h 25 0 (2 + p)) p) (by omega) (by omega) ?_
      refine w_ic (by omega) (by omega) (fun c2 => ?_) (fun c2 => ?_)
      · have c2 : h 25 0 (2 + p) ≤ h 25 0 (2 + m_th (fun p => h 25 0 (2 + p)) p) := c2
        exact ih _ _ (by omega) (by omega) (by rw [hx]; conv => rhs; unfold m_th; rw [if_neg (by omega)])
      · have c2 : ¬ h 25 0 (2 + p) ≤ h 25 0 (2 + m_th (fun p => h 25 0 (2 + p)) p) := c2
        exact ih _ _ (by omega) (by omega) (by rw [hj]; conv => rhs; unfold m_th; rw [if_pos (by omega)])
