/-! ===== rows for walking a program of the layer ===== -/
theorem w_ic {a b : Int} {P A B : Prop} (ha : nv_InR a) (hb : nv_InR b) (f : P → A) (g : ¬ P → B) : nv_InR a ∧ nv_InR b ∧ (P → A) ∧ (¬ P → B) := ⟨ha, hb, f, g⟩
theorem w_if {a : Int} {P A B : Prop} (ha : nv_InR a) (f : P → A) (g : ¬ P → B) : nv_InR a ∧ (P → A) ∧ (¬ P → B) := ⟨ha, f, g⟩
theorem w_ix {j : Int} {n : Nat} {F : Nat → Prop} (q : Nat) (hj : j = (q : Int)) (hq : q < n) (hF : F q) : ∃ q : Nat, j = (q : Int) ∧ q < n ∧ F q := ⟨q, hj, hq, hF⟩
theorem w_call {M : nv_MD} {as : List nv_AV} {h : nv_St} {P' : nv_PT} {F : Option nv_AV → nv_St → Prop} (hR : nv_R M as h P') (hF : ∀ v h', P' v h' → F v h') : ∃ P' : nv_PT, nv_R M as h P' ∧ ∀ v h', P' v h' → F v h' := ⟨P', hR, hF⟩
theorem ir_n {n : Nat} (h : n < 2147483648) : nv_InR (n : Int) := ⟨by omega, by omega⟩
def m_set (f : Nat → Prop) [DecidablePred f] : Nat → Int
  | 0 => 0
  | n + 1 => m_set f n + (if f n then 2 ^ n else 0)
theorem m_set_lt (f : Nat → Prop) [DecidablePred f] : ∀ n, 0 ≤ m_set f n ∧ m_set f n < 2 ^ n
  | 0 => by simp [m_set]
  | n + 1 => by
    have := m_set_lt f n
    have h2 : (2 : Int) ^ (n + 1) = 2 ^ n + 2 ^ n := by rw [Int.pow_succ]; omega
    unfold m_set
    split <;> omega
theorem nv_or_nat {a b : Nat} (ha : a < 2 ^ 31) (hb : b < 2 ^ 31) : nv_or (a : Int) (b : Int) = ((a ||| b : Nat) : Int) := by
  have h1 : Int32.ofInt (a : Int) ||| Int32.ofInt (b : Int) = Int32.ofInt ((a ||| b : Nat) : Int) := by
    apply Int32.toBitVec.inj
    rw [Int32.toBitVec_or, Int32.toBitVec_ofInt, Int32.toBitVec_ofInt, Int32.toBitVec_ofInt]
    apply BitVec.eq_of_toNat_eq
    simp only [BitVec.toNat_or, BitVec.ofInt_natCast, BitVec.toNat_ofNat]
    rw [Nat.mod_eq_of_lt (show a < 2 ^ 32 by omega), Nat.mod_eq_of_lt (show b < 2 ^ 32 by omega), Nat.mod_eq_of_lt (show a ||| b < 2 ^ 32 from Nat.or_lt_two_pow (by omega) (by omega))]
  unfold nv_or
  rw [h1]
  have h2 : a ||| b < 2 ^ 31 := Nat.or_lt_two_pow ha hb
  exact nv_toInt ⟨by omega, by omega⟩
theorem nv_or_bit {x : Int} {n : Nat} (h0 : 0 ≤ x) (h1 : x < 2 ^ n) (hn : n < 31) : nv_or x (1 * 2 ^ n) = x + 2 ^ n := by
  obtain ⟨a, rfl⟩ : ∃ a : Nat, x = (a : Int) := ⟨x.toNat, by omega⟩
  have ha : a < 2 ^ n := by
    have : ((2 ^ n : Nat) : Int) = 2 ^ n := by push_cast; rfl
    omega
  have hp : 2 ^ n < 2 ^ 31 := Nat.pow_lt_pow_right (by decide) hn
  have e1 : (1 * 2 ^ n : Int) = ((2 ^ n : Nat) : Int) := by push_cast; omega
  rw [e1, nv_or_nat (by omega) hp, Nat.or_comm]
  have := Nat.two_pow_add_eq_or_of_lt ha 1
  simp at this
  rw [← this]
  push_cast
  omega
/-- the walk of fallenSet -/
theorem r_fallenSet {h : nv_St} {o P : Nat} (hP : h 0 o 0 = P) (hP5 : P ≤ 5) (hL : ∀ p, p < P → nv_InR (h 3 o p)) :
    nv_R M_X0_fallenSet [vr 0 o] h (fun r h' => h' = h ∧ r = some (vi (m_set (fun p => h 3 o p = 0) P))) := by
  refine nv_R.of rfl rfl (by decide) ?_
  have loop : ∀ d p : Nat, p + d = P → nv_V M_X0_fallenSet 4 [(0, vr 0 o), (1, vi (m_set (fun p => h 3 o p = 0) p)), (2, vi p)] [] h (fun r h' => h' = h ∧ r = some (vi (m_set (fun p => h 3 o p = 0) P))) := by
    intro d
    induction d with
    | zero =>
      intro p hp
      refine nv_go ok_X0_fallenSet [4] 30 ?_
      refine w_ic (ir_n (by omega)) (by rw [hP]; exact ir_n (by omega)) (fun c => ?_) (fun c => ?_)
      · exact ⟨rfl, by rw [show p = P by omega]⟩
      · exact absurd (by show h 0 o 0 ≤ (p : Int); omega) c
    | succ d ih =>
      intro p hp
      have hl := m_set_lt (fun p => h 3 o p = 0) p
      refine nv_go ok_X0_fallenSet [4] 30 ?_
      refine w_ic (ir_n (by omega)) (by rw [hP]; exact ir_n (by omega)) (fun c => ?_) (fun c => ?_)
      · exact absurd c (by show ¬ (h 0 o 0 ≤ (p : Int)); omega)
      · refine w_ix p rfl (by omega) ?_
        refine w_if (hL p (by omega)) (fun c2 => ?_) (fun c2 => ?_)
        · refine w_ix p rfl (by omega) ?_
          refine nv_V.eq ?_ rfl rfl (ih (p + 1) (by omega))
          have e1 : h 3 o p = 0 := c2
          have e2 : m_set (fun p => h 3 o p = 0) (p + 1) = nv_or (m_set (fun p => h 3 o p = 0) p) (1 * 2 ^ p) := by
            rw [nv_or_bit hl.1 hl.2 (by omega)]
            simp [m_set, e1]
          rw [e2]
          rfl
        · refine nv_V.eq ?_ rfl rfl (ih (p + 1) (by omega))
          have e1 : ¬ h 3 o p = 0 := c2
          have e2 : m_set (fun p => h 3 o p = 0) (p + 1) = m_set (fun p => h 3 o p = 0) p := by
            simp [m_set, e1]
          rw [e2]
          rfl
  refine nv_go ok_X0_fallenSet [4] 10 ?_
  exact loop P 0 (by omega)
