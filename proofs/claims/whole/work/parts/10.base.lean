/-! ===== rows for walking a program of the layer ===== -/
theorem w_ic {a b : Int} {P A B : Prop} (ha : nv_InR a) (hb : nv_InR b) (f : P → A) (g : ¬ P → B) : nv_InR a ∧ nv_InR b ∧ (P → A) ∧ (¬ P → B) := ⟨ha, hb, f, g⟩
theorem w_if {a : Int} {P A B : Prop} (ha : nv_InR a) (f : P → A) (g : ¬ P → B) : nv_InR a ∧ (P → A) ∧ (¬ P → B) := ⟨ha, f, g⟩
theorem w_ix {j : Int} {n : Nat} {F : Nat → Prop} (q : Nat) (hj : j = (q : Int)) (hq : q < n) (hF : F q) : ∃ q : Nat, j = (q : Int) ∧ q < n ∧ F q := ⟨q, hj, hq, hF⟩
theorem w_call {M : nv_MD} {as : List nv_AV} {h : nv_St} {P' : nv_PT} {F : Option nv_AV → nv_St → Prop} (hR : nv_R M as h P') (hF : ∀ v h', P' v h' → F v h') : ∃ P' : nv_PT, nv_R M as h P' ∧ ∀ v h', P' v h' → F v h' := ⟨P', hR, hF⟩
theorem w_dv {a b : Int} {F : Prop} (ha : 0 ≤ a ∧ a < 2147483648) (hb : 0 < b ∧ b < 2147483648) (hF : F) : (0 ≤ a ∧ a < 2147483648) ∧ (0 < b ∧ b < 2147483648) ∧ F := ⟨ha, hb, hF⟩
theorem ir_n {n : Nat} (h : n < 2147483648) : nv_InR (n : Int) := ⟨by omega, by omega⟩
def m_set (f : Nat → Prop) [DecidablePred f] : Nat → Int
  | 0 => 0
  | n + 1 => m_set f n + (if f n then 2 ^ n else 0)
theorem m_set_lt (f : Nat → Prop) [DecidablePred f] : ∀ n, 0 ≤ m_set f n ∧ m_set f n < 2 ^ n
  | 0 => by simp [m_set]
  | n + 1 => by
    have := m_set_lt f n
    have h2 : (2 : Int) ^ (n + 1) = 2 ^ n + 2 ^ n := by rw [Int.pow_succ]; omega
    unfold m_set
    split <;> omega
theorem nv_or_nat {a b : Nat} (ha : a < 2 ^ 31) (hb : b < 2 ^ 31) : nv_or (a : Int) (b : Int) = ((a ||| b : Nat) : Int) := by
  have h1 : Int32.ofInt (a : Int) ||| Int32.ofInt (b : Int) = Int32.ofInt ((a ||| b : Nat) : Int) := by
    apply Int32.toBitVec.inj
    rw [Int32.toBitVec_or, Int32.toBitVec_ofInt, Int32.toBitVec_ofInt, Int32.toBitVec_ofInt]
    apply BitVec.eq_of_toNat_eq
    simp only [BitVec.toNat_or, BitVec.ofInt_natCast, BitVec.toNat_ofNat]
    rw [Nat.mod_eq_of_lt (show a < 2 ^ 32 by omega), Nat.mod_eq_of_lt (show b < 2 ^ 32 by omega), Nat.mod_eq_of_lt (show a ||| b < 2 ^ 32 from Nat.or_lt_two_pow (by omega) (by omega))]
  unfold nv_or
  rw [h1]
  have h2 : a ||| b < 2 ^ 31 := Nat.or_lt_two_pow ha hb
  exact nv_toInt ⟨by omega, by omega⟩
theorem nv_or_bit {x : Int} {n : Nat} (h0 : 0 ≤ x) (h1 : x < 2 ^ n) (hn : n < 31) : nv_or x (1 * 2 ^ n) = x + 2 ^ n := by
  obtain ⟨a, rfl⟩ : ∃ a : Nat, x = (a : Int) := ⟨x.toNat, by omega⟩
  have ha : a < 2 ^ n := by
    have : ((2 ^ n : Nat) : Int) = 2 ^ n := by push_cast; rfl
    omega
  have hp : 2 ^ n < 2 ^ 31 := Nat.pow_lt_pow_right (by decide) hn
  have e1 : (1 * 2 ^ n : Int) = ((2 ^ n : Nat) : Int) := by push_cast; omega
  rw [e1, nv_or_nat (by omega) hp, Nat.or_comm]
  have := Nat.two_pow_add_eq_or_of_lt ha 1
  simp at this
  rw [← this]
  push_cast
  omega
theorem m_down {n : Nat} {G : Nat → Prop} (h0 : G n) (hs : ∀ i, i < n → G (i + 1) → G i) : ∀ i, i ≤ n → G i := by
  intro i hi
  obtain ⟨d, hd⟩ : ∃ d, i + d = n := ⟨n - i, by omega⟩
  induction d generalizing i with
  | zero => rw [show i = n by omega]; exact h0
  | succ d ih => exact hs i (by omega) (ih (i + 1) (by omega) (by omega))
abbrev m_NN : Type := Nat → Nat → Int
def m_nn (h : nv_St) (o : Nat) : m_NN := fun t j => if t < 7 then h t o j else 0
theorem m_nn_ext {h h' : nv_St} {o : Nat} (e : ∀ t, t < 7 → h' t o = h t o) : m_nn h' o = m_nn h o := by
  funext t j
  unfold m_nn
  split
  · rw [e t (by assumption)]
  · rfl
def m_sum (f : Nat → Int) : Nat → Int
  | 0 => 0
  | n + 1 => m_sum f n + f n
theorem m_sum_le {f : Nat → Int} {c : Int} : ∀ {n : Nat}, (∀ i, i < n → 0 ≤ f i ∧ f i ≤ c) → 0 ≤ m_sum f n ∧ m_sum f n ≤ n * c
  | 0, _ => by simp [m_sum]
  | n + 1, h => by
    have h1 := m_sum_le (n := n) (fun i hi => h i (by omega))
    have h2 := h n (by omega)
    have h3 : ((n + 1 : Nat) : Int) * c = n * c + c := by push_cast; rw [Int.add_mul]; omega
    unfold m_sum
    omega
/-- a noon that is as it must be: P planks, S sawyers, the hour at most B -/
def m_ok (N : m_NN) (P S : Nat) (B : Int) : Prop :=
  P ≤ 5 ∧ S ≤ 5 ∧ N 0 0 = P ∧ N 0 1 = S ∧ (0 ≤ N 0 2 ∧ N 0 2 ≤ B) ∧ (0 ≤ N 0 3 ∧ N 0 3 < 2147483648) ∧
  (∀ p, p < P → (0 ≤ N 1 p ∧ N 1 p ≤ 99) ∧ (0 ≤ N 2 p ∧ N 2 p ≤ 9) ∧ (0 ≤ N 3 p ∧ N 3 p ≤ 99)) ∧
  (∀ s, s < S → (0 ≤ N 4 s ∧ N 4 s ≤ 4) ∧ (0 ≤ N 5 s ∧ N 5 s ≤ 9) ∧ (N 6 s = -4 ∨ (0 ≤ N 6 s ∧ N 6 s < P)))
def m_plain (t k : Int) : Int := if t ≤ k / 2 then 0 else t - k / 2
def m_old (t k : Int) : Int := m_plain t k + (if 3 ≤ k then 3 else k)
def m_green (t k : Int) (edge : Bool) : Int := if edge = true then 2 * m_plain t k else m_plain t k
def m_by (kd t k : Int) (edge rest : Bool) : Int := if kd = 1 then m_old t k else if kd = 2 then m_green t k edge else if kd = 3 then (if rest = true then 0 else m_old t k) else if kd = 4 then (if m_green t k edge = 1 then 1 else m_green t k edge / 2) else m_plain t k
/-- what a sawyer cuts in this hour -/
def m_edge (N : m_NN) (p : Nat) : Bool := decide (N 3 p = N 1 p) || decide (N 3 p < 10)
def m_rest (N : m_NN) : Bool := decide (N 0 2 % 4 = 0)
def m_cut (N : m_NN) (s : Nat) : Int := if N 6 s < 0 then 0 else if N 3 (N 6 s).toNat = 0 then 0 else m_by (N 4 s) (N 5 s) (N 2 (N 6 s).toNat) (m_edge N (N 6 s).toNat) (m_rest N)
def nv_b (b : Bool) : Int := if b = true then 1 else 0
theorem nv_b01 (b : Bool) : nv_b b = 0 ∨ nv_b b = 1 := by cases b <;> simp [nv_b]
theorem m_ok.h {h : nv_St} {o P S : Nat} {B : Int} (hN : m_ok (m_nn h o) P S B) : P ≤ 5 ∧ S ≤ 5 ∧ h 0 o 0 = P ∧ h 0 o 1 = S ∧ (0 ≤ h 0 o 2 ∧ h 0 o 2 ≤ B) ∧ (0 ≤ h 0 o 3 ∧ h 0 o 3 < 2147483648) ∧
  (∀ p, p < P → (0 ≤ h 1 o p ∧ h 1 o p ≤ 99) ∧ (0 ≤ h 2 o p ∧ h 2 o p ≤ 9) ∧ (0 ≤ h 3 o p ∧ h 3 o p ≤ 99)) ∧
  (∀ s, s < S → (0 ≤ h 4 o s ∧ h 4 o s ≤ 4) ∧ (0 ≤ h 5 o s ∧ h 5 o s ≤ 9) ∧ (h 6 o s = -4 ∨ (0 ≤ h 6 o s ∧ h 6 o s < P))) := hN
def m_eq (P S : Nat) (N N' : m_NN) : Prop := (∀ j, j < 4 → N 0 j = N' 0 j) ∧ (∀ p, p < P → N 1 p = N' 1 p ∧ N 2 p = N' 2 p ∧ N 3 p = N' 3 p) ∧ (∀ s, s < S → N 4 s = N' 4 s ∧ N 5 s = N' 5 s ∧ N 6 s = N' 6 s)
theorem m_eq.rfl' {P S : Nat} {N : m_NN} : m_eq P S N N := ⟨fun _ _ => rfl, fun _ _ => ⟨rfl, rfl, rfl⟩, fun _ _ => ⟨rfl, rfl, rfl⟩⟩
theorem m_eq.symm' {P S : Nat} {N N' : m_NN} (h : m_eq P S N N') : m_eq P S N' N := ⟨fun j hj => (h.1 j hj).symm, fun p hp => ⟨(h.2.1 p hp).1.symm, (h.2.1 p hp).2.1.symm, (h.2.1 p hp).2.2.symm⟩, fun s hs => ⟨(h.2.2 s hs).1.symm, (h.2.2 s hs).2.1.symm, (h.2.2 s hs).2.2.symm⟩⟩
theorem m_eq.trans' {P S : Nat} {N N' N2 : m_NN} (h : m_eq P S N N') (k : m_eq P S N' N2) : m_eq P S N N2 := ⟨fun j hj => (h.1 j hj).trans (k.1 j hj), fun p hp => ⟨(h.2.1 p hp).1.trans (k.2.1 p hp).1, (h.2.1 p hp).2.1.trans (k.2.1 p hp).2.1, (h.2.1 p hp).2.2.trans (k.2.1 p hp).2.2⟩, fun s hs => ⟨(h.2.2 s hs).1.trans (k.2.2 s hs).1, (h.2.2 s hs).2.1.trans (k.2.2 s hs).2.1, (h.2.2 s hs).2.2.trans (k.2.2 s hs).2.2⟩⟩
theorem m_eq.ok {P S : Nat} {N N' : m_NN} {B : Int} (h : m_eq P S N N') (k : m_ok N' P S B) : m_ok N P S B := by
  obtain ⟨k1, k2, k3, k4, k5, k6, k7, k8⟩ := k
  obtain ⟨h1, h2, h3⟩ := h
  refine ⟨k1, k2, (h1 0 (by omega)).trans k3, (h1 1 (by omega)).trans k4, by rw [h1 2 (by omega)]; exact k5, by rw [h1 3 (by omega)]; exact k6, fun p hp => ?_, fun s hs => ?_⟩
  · obtain ⟨a, b, c⟩ := h2 p hp
    rw [a, b, c]; exact k7 p hp
  · obtain ⟨a, b, c⟩ := h3 s hs
    rw [a, b, c]; exact k8 s hs
/-- only the cells of noon o have changed -/
def m_fr (o : Nat) (h h' : nv_St) : Prop := ∀ t i, ¬ (t < 8 ∧ i = o) → h' t i = h t i
theorem m_fr.rfl' {o : Nat} {h : nv_St} : m_fr o h h := fun _ _ _ => rfl
theorem m_fr.trans' {o : Nat} {h h1 h2 : nv_St} (a : m_fr o h h1) (b : m_fr o h1 h2) : m_fr o h h2 := fun t i hn => (b t i hn).trans (a t i hn)
theorem m_fr.up {o : Nat} {h h1 : nv_St} (a : m_fr o h h1) {t j : Nat} {x : Int} (ht : t < 8) : m_fr o h (nv_up h1 t o j x) := by
  intro t' i' hn
  rw [← a t' i' hn]
  funext j'
  unfold nv_up
  rw [if_neg]
  rintro ⟨rfl, rfl, -⟩
  exact hn ⟨ht, rfl⟩
theorem m_fr.row {o : Nat} {h h1 : nv_St} (a : m_fr o h h1) {t : Nat} {f : Nat → Int} (ht : t < 8) : m_fr o h (nv_row h1 t o f) := by
  intro t' i' hn
  rw [← a t' i' hn]
  funext j'
  unfold nv_row
  rw [if_neg]
  rintro ⟨rfl, rfl⟩
  exact hn ⟨ht, rfl⟩
/-- the plank of which most is left, the first of like ones; -4 if all are fallen -/
def m_most (f : Nat → Int) : Nat → Int
  | 0 => -4
  | n + 1 => if 0 < f n ∧ (m_most f n = -4 ∨ f (m_most f n).toNat < f n) then (n : Int) else m_most f n
theorem m_most_r (f : Nat → Int) : ∀ n, m_most f n = -4 ∨ (0 ≤ m_most f n ∧ m_most f n < n ∧ 0 < f (m_most f n).toNat)
  | 0 => Or.inl rfl
  | n + 1 => by
    have := m_most_r f n
    unfold m_most
    split
    · next c => exact Or.inr ⟨by omega, by omega, by simpa using c.1⟩
    · rcases this with h | h
      · exact Or.inl h
      · exact Or.inr ⟨h.1, by omega, h.2.2⟩
def m_up (f : Nat → Int) (k : Nat) (x : Int) : Nat → Int := fun j => if j = k then x else f j
/-- what is left of each plank when the first n sawyers have cut c of theirs -/
def m_lf (N : m_NN) (c : Nat → Int) : Nat → Nat → Int
  | 0 => N 3
  | n + 1 => if 0 < c n then m_up (m_lf N c n) (N 6 n).toNat (max 0 (m_lf N c n (N 6 n).toNat - c n)) else m_lf N c n
def m_P (N : m_NN) : Nat := (N 0 0).toNat
def m_S (N : m_NN) : Nat := (N 0 1).toNat
def m_L (N : m_NN) : Nat → Int := m_lf N (m_cut N) (m_S N)
def m_hit (N : m_NN) (L : Nat → Int) (s : Nat) : Prop := 0 ≤ N 6 s ∧ L (N 6 s).toNat = 0
def m_hour (N : m_NN) : m_NN := fun t j => match t with
  | 0 => if j = 2 then N 0 2 + 1 else N 0 j
  | 3 => m_L N j
  | 5 => if N 0 2 % 3 = 2 ∧ 0 < m_cut N j ∧ 0 < N 5 j then N 5 j - 1 else N 5 j
  | 6 => if (0 ≤ N 6 j ∧ m_L N (N 6 j).toNat = 0) ∧ ¬ m_most (m_L N) (m_P N) = -4 then m_most (m_L N) (m_P N) else N 6 j
  | t => N t j
/-- some i below n is so -/
def m_ex (f : Nat → Bool) : Nat → Bool
  | 0 => false
  | n + 1 => m_ex f n || f n
def m_stir (N : m_NN) : Bool := (m_rest N || m_ex (fun s => decide (0 < m_cut N s)) (m_S N)) || (m_ex (fun s => decide (0 ≤ N 6 s ∧ m_L N (N 6 s).toNat = 0)) (m_S N) && decide (¬ m_most (m_L N) (m_P N) = -4))
theorem w_mx {a b : Int} {F : Prop} (ha : nv_InR a) (hb : nv_InR b) (hF : F) : nv_InR a ∧ nv_InR b ∧ F := ⟨ha, hb, hF⟩
