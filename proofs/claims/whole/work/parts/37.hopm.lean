/-! ===== hops: the sums ===== -/
def m_sN (f : Nat → Nat) : Nat → Nat
  | 0 => 0
  | n + 1 => m_sN f n + f n
theorem m_sN_add (f : Nat → Nat) (a : Nat) : ∀ b, m_sN f (a + b) = m_sN f a + m_sN (fun i => f (a + i)) b
  | 0 => rfl
  | b + 1 => by
    show m_sN f (a + b) + f (a + b) = m_sN f a + (m_sN (fun i => f (a + i)) b + f (a + b))
    rw [m_sN_add f a b]
    omega
theorem m_sN_mul (f : Nat → Nat) (c : Nat) : ∀ n, m_sN (fun i => c * f i) n = c * m_sN f n
  | 0 => rfl
  | n + 1 => by
    show m_sN (fun i => c * f i) n + c * f n = c * (m_sN f n + f n)
    rw [m_sN_mul f c n, Nat.mul_add]
theorem m_sN_eq {f g : Nat → Nat} : ∀ {n : Nat}, (∀ i, i < n → f i = g i) → m_sN f n = m_sN g n
  | 0, _ => rfl
  | n + 1, h => by
    show m_sN f n + f n = m_sN g n + g n
    rw [m_sN_eq (fun i hi => h i (by omega)), h n (by omega)]
theorem m_bit_nat (i s : Nat) : m_bit (i : Int) s = i.testBit s := by
  rw [Nat.testBit_eq_decide_div_mod_eq]
  unfold m_bit
  apply decide_eq_decide.mpr
  have e : ((i : Int) / 2 ^ s % 2) = ((i / 2 ^ s % 2 : Nat) : Int) := by
    rw [Int.natCast_emod, Int.natCast_ediv, Int.natCast_pow]
    rfl
  rw [e]
  omega
section nvHm
variable (c : Nat) (sit : Nat → Bool) (ct : Nat → Int)
def m_od : Nat → Nat → Nat
  | 0, _ => 1
  | n + 1, x => m_od n x * (if x.testBit n = true then c else 10 - c)
def m_gs (s : Nat) : Int := if sit s = true then ct s else 0
def m_cs (g : Nat → Int) : Nat → Nat → Int
  | 0, _ => 0
  | n + 1, x => m_cs g n x + (if x.testBit n = true then 0 else g n)
def m_rt (n : Nat) (r : Int) (x : Nat) : Nat := if r ≤ m_cs (m_gs sit ct) n x then m_od c n x else 0
def m_U : Nat → Int → Nat
  | 0, r => if r ≤ 0 then 1 else 0
  | n + 1, r => (10 - c) * m_U n (r - m_gs sit ct n) + c * m_U n r
def m_A : Nat → Int → Nat
  | 0, r => if r ≤ 0 then 1 else 0
  | n + 1, r => if sit n = true then (10 - c) * m_A n (r - ct n) + c * m_A n r else m_A n r
def m_kk : Nat → Nat
  | 0 => 0
  | n + 1 => m_kk n + (if sit n = true then 1 else 0)
def m_zz : Nat → Nat
  | 0 => 0
  | n + 1 => m_zz n + (if sit n = true then 0 else 1)
def m_dt : Nat → Nat → Nat
  | 0, _ => 1
  | n + 1, x => m_dt n x * (if sit n = true then (if x.testBit n = true then 10 - c else c) else 1)
def m_sub : Nat → Nat → Bool
  | 0, _ => true
  | n + 1, x => m_sub n x && (!x.testBit n || sit n)
def m_cc : Nat → Nat → Int
  | 0, _ => 0
  | n + 1, x => m_cc n x + (if x.testBit n = true then ct n else 0)
def m_ct (n : Nat) (r : Int) (x : Nat) : Nat := if m_sub sit n x = true ∧ r ≤ m_cc ct n x then m_dt c sit n x else 0
theorem m_od_2 {n x : Nat} : ∀ {k : Nat}, k ≤ n → m_od c k (2 ^ n + x) = m_od c k x
  | 0, _ => rfl
  | k + 1, h => by
    unfold m_od
    rw [m_od_2 (k := k) (by omega), Nat.testBit_two_pow_add_gt (by omega)]
theorem m_cs_2 {g : Nat → Int} {n x : Nat} : ∀ {k : Nat}, k ≤ n → m_cs g k (2 ^ n + x) = m_cs g k x
  | 0, _ => rfl
  | k + 1, h => by
    unfold m_cs
    rw [m_cs_2 (k := k) (by omega), Nat.testBit_two_pow_add_gt (by omega)]
theorem m_dt_2 {n x : Nat} : ∀ {k : Nat}, k ≤ n → m_dt c sit k (2 ^ n + x) = m_dt c sit k x
  | 0, _ => rfl
  | k + 1, h => by
    unfold m_dt
    rw [m_dt_2 (k := k) (by omega), Nat.testBit_two_pow_add_gt (by omega)]
theorem m_sub_2 {n x : Nat} : ∀ {k : Nat}, k ≤ n → m_sub sit k (2 ^ n + x) = m_sub sit k x
  | 0, _ => rfl
  | k + 1, h => by
    unfold m_sub
    rw [m_sub_2 (k := k) (by omega), Nat.testBit_two_pow_add_gt (by omega)]
theorem m_cc_2 {n x : Nat} : ∀ {k : Nat}, k ≤ n → m_cc ct k (2 ^ n + x) = m_cc ct k x
  | 0, _ => rfl
  | k + 1, h => by
    unfold m_cc
    rw [m_cc_2 (k := k) (by omega), Nat.testBit_two_pow_add_gt (by omega)]
theorem m_tb {n x : Nat} (h : x < 2 ^ n) : (2 ^ n + x).testBit n = true := by
  rw [Nat.testBit_two_pow_add_eq, Nat.testBit_lt_two_pow h]
  rfl
theorem m_U_sum : ∀ (n : Nat) (r : Int), m_sN (m_rt c sit ct n r) (2 ^ n) = m_U c sit ct n r
  | 0, r => by
    show 0 + (if r ≤ 0 then 1 else 0) = _
    rw [Nat.zero_add]
    rfl
  | n + 1, r => by
    have e : 2 ^ (n + 1) = 2 ^ n + 2 ^ n := by rw [Nat.pow_succ]; omega
    rw [e, m_sN_add]
    show _ = (10 - c) * m_U c sit ct n (r - m_gs sit ct n) + c * m_U c sit ct n r
    rw [← m_U_sum n, ← m_U_sum n, ← m_sN_mul, ← m_sN_mul]
    congr 1
    · refine m_sN_eq (fun i hi => ?_)
      unfold m_rt
      show (if r ≤ m_cs (m_gs sit ct) n i + (if i.testBit n = true then 0 else m_gs sit ct n) then m_od c n i * (if i.testBit n = true then c else 10 - c) else 0) = _
      rw [Nat.testBit_lt_two_pow hi, if_neg (show ¬ false = true by decide), if_neg (show ¬ false = true by decide)]
      by_cases h : r ≤ m_cs (m_gs sit ct) n i + m_gs sit ct n
      · rw [if_pos h, if_pos (by omega), Nat.mul_comm]
      · rw [if_neg h, if_neg (by omega), Nat.mul_zero]
    · refine m_sN_eq (fun i hi => ?_)
      unfold m_rt
      show (if r ≤ m_cs (m_gs sit ct) n (2 ^ n + i) + (if (2 ^ n + i).testBit n = true then 0 else m_gs sit ct n) then m_od c n (2 ^ n + i) * (if (2 ^ n + i).testBit n = true then c else 10 - c) else 0) = _
      rw [m_tb hi, if_pos rfl, if_pos rfl, m_cs_2 (Nat.le_refl n), m_od_2 c (Nat.le_refl n), Int.add_zero]
      by_cases h : r ≤ m_cs (m_gs sit ct) n i
      · rw [if_pos h, if_pos h, Nat.mul_comm]
      · rw [if_neg h, if_neg h, Nat.mul_zero]
theorem m_A_sum : ∀ (n : Nat) (r : Int), m_sN (m_ct c sit ct n r) (2 ^ n) = m_A c sit ct n r
  | 0, r => by
    show 0 + (if true = true ∧ r ≤ 0 then 1 else 0) = (if r ≤ 0 then 1 else 0)
    rw [Nat.zero_add]
    simp
  | n + 1, r => by
    have e : 2 ^ (n + 1) = 2 ^ n + 2 ^ n := by rw [Nat.pow_succ]; omega
    rw [e, m_sN_add]
    show _ = (if sit n = true then (10 - c) * m_A c sit ct n (r - ct n) + c * m_A c sit ct n r else m_A c sit ct n r)
    have lo : ∀ i, i < 2 ^ n → m_ct c sit ct (n + 1) r i = (if sit n = true then c else 1) * m_ct c sit ct n r i := by
      intro i hi
      unfold m_ct
      show (if (m_sub sit n i && (!i.testBit n || sit n)) = true ∧ r ≤ m_cc ct n i + (if i.testBit n = true then ct n else 0) then m_dt c sit n i * (if sit n = true then (if i.testBit n = true then 10 - c else c) else 1) else 0) = _
      rw [Nat.testBit_lt_two_pow hi, if_neg (show ¬ false = true by decide), Int.add_zero, if_neg (show ¬ false = true by decide)]
      rw [show (!false || sit n) = true from rfl, Bool.and_true]
      by_cases h : m_sub sit n i = true ∧ r ≤ m_cc ct n i
      · rw [if_pos h, if_pos h, Nat.mul_comm]
      · rw [if_neg h, if_neg h, Nat.mul_zero]
    have hi : ∀ i, i < 2 ^ n → m_ct c sit ct (n + 1) r (2 ^ n + i) = (if sit n = true then 10 - c else 0) * m_ct c sit ct n (r - ct n) i := by
      intro i hi
      unfold m_ct
      show (if (m_sub sit n (2 ^ n + i) && (!(2 ^ n + i).testBit n || sit n)) = true ∧ r ≤ m_cc ct n (2 ^ n + i) + (if (2 ^ n + i).testBit n = true then ct n else 0) then m_dt c sit n (2 ^ n + i) * (if sit n = true then (if (2 ^ n + i).testBit n = true then 10 - c else c) else 1) else 0) = _
      rw [m_tb hi, if_pos rfl, if_pos rfl, m_cc_2 ct (Nat.le_refl n), m_dt_2 c sit (Nat.le_refl n), m_sub_2 sit (Nat.le_refl n)]
      cases hs : sit n with
      | false => simp
      | true =>
        simp only [Bool.not_true, Bool.or_true, Bool.and_true, if_true]
        by_cases h : m_sub sit n i = true ∧ r ≤ m_cc ct n i + ct n
        · rw [if_pos h, if_pos ⟨h.1, by omega⟩, Nat.mul_comm]
        · rw [if_neg h, if_neg (fun q => h ⟨q.1, by omega⟩), Nat.mul_zero]
    rw [m_sN_eq lo, m_sN_eq hi, m_sN_mul, m_sN_mul, m_A_sum n, m_A_sum n]
    cases hs : sit n with
    | false => simp
    | true => simp; omega
theorem m_U_A : ∀ (n : Nat) (r : Int), c ≤ 10 → m_U c sit ct n r = 10 ^ m_zz sit n * m_A c sit ct n r
  | 0, r, _ => by simp [m_U, m_A, m_zz]
  | n + 1, r, hc => by
    show (10 - c) * m_U c sit ct n (r - m_gs sit ct n) + c * m_U c sit ct n r = 10 ^ (m_zz sit n + (if sit n = true then 0 else 1)) * (if sit n = true then (10 - c) * m_A c sit ct n (r - ct n) + c * m_A c sit ct n r else m_A c sit ct n r)
    rw [m_U_A n _ hc, m_U_A n _ hc]
    unfold m_gs
    cases hs : sit n with
    | true =>
      simp only [if_true, Nat.add_zero]
      rw [Nat.mul_add, Nat.mul_left_comm, Nat.mul_left_comm c]
    | false =>
      simp only [Bool.false_eq_true, if_false, Int.sub_zero]
      rw [← Nat.add_mul, show 10 - c + c = 10 by omega, Nat.pow_succ, ← Nat.mul_assoc, Nat.mul_comm 10]
theorem m_kz : ∀ n : Nat, 10 ^ n = 10 ^ m_zz sit n * 10 ^ m_kk sit n
  | 0 => rfl
  | n + 1 => by
    unfold m_zz m_kk
    rw [Nat.pow_succ, m_kz n]
    cases hs : sit n with
    | true => simp only [if_true, Nat.add_zero]; rw [Nat.pow_succ, Nat.mul_assoc]
    | false => simp only [Bool.false_eq_true, if_false, Nat.add_zero]; rw [Nat.pow_succ, Nat.mul_assoc, Nat.mul_assoc, Nat.mul_comm (10 ^ m_kk sit n)]
theorem m_A_le (hc : c ≤ 10) : ∀ (n : Nat) (r : Int), m_A c sit ct n r ≤ 10 ^ n
  | 0, r => by unfold m_A; split <;> simp
  | n + 1, r => by
    have h1 := m_A_le hc n (r - ct n)
    have h2 := m_A_le hc n r
    unfold m_A
    split
    · have h3 : (10 - c) * m_A c sit ct n (r - ct n) ≤ (10 - c) * 10 ^ n := Nat.mul_le_mul_left _ h1
      have h4 : c * m_A c sit ct n r ≤ c * 10 ^ n := Nat.mul_le_mul_left _ h2
      have h5 : (10 - c) * 10 ^ n + c * 10 ^ n = 10 ^ (n + 1) := by rw [← Nat.add_mul, show 10 - c + c = 10 by omega, Nat.pow_succ, Nat.mul_comm]
      omega
    · rw [Nat.pow_succ]; omega
theorem m_A_up {S : Nat} (hs : ∀ s, S ≤ s → sit s = false) (r : Int) : ∀ d, m_A c sit ct (S + d) r = m_A c sit ct S r
  | 0 => rfl
  | d + 1 => by
    show (if sit (S + d) = true then _ else m_A c sit ct (S + d) r) = _
    rw [hs (S + d) (by omega), if_neg (by decide), m_A_up hs r d]
theorem m_kk_up {S : Nat} (hs : ∀ s, S ≤ s → sit s = false) : ∀ d, m_kk sit (S + d) = m_kk sit S
  | 0 => rfl
  | d + 1 => by
    show m_kk sit (S + d) + (if sit (S + d) = true then 1 else 0) = _
    rw [hs (S + d) (by omega), if_neg (by decide), m_kk_up hs d]
    rfl
theorem m_kk_le : ∀ n, m_kk sit n ≤ n
  | 0 => Nat.le_refl _
  | n + 1 => by
    have := m_kk_le n
    unfold m_kk
    split <;> omega
end nvHm
/-! Euclid -/
def m_eu : Nat → Nat × Nat → Nat × Nat
  | 0, z => z
  | n + 1, z => if z.2 = 0 then z else m_eu n (z.2, z.1 % z.2)
theorem m_eu_gcd : ∀ (n : Nat) (z : Nat × Nat), Nat.gcd (m_eu n z).1 (m_eu n z).2 = Nat.gcd z.1 z.2
  | 0, _ => rfl
  | n + 1, z => by
    unfold m_eu
    split
    · rfl
    · rw [m_eu_gcd n]
      show Nat.gcd z.2 (z.1 % z.2) = _
      rw [Nat.gcd_comm, ← Nat.gcd_rec, Nat.gcd_comm]
theorem m_eu_0 (n : Nat) (z : Nat × Nat) (h : z.2 = 0) : m_eu n z = z := by
  cases n with
  | zero => rfl
  | succ n => unfold m_eu; rw [if_pos h]
theorem m_eu_end : ∀ (k : Nat) (z : Nat × Nat), z.2 < 2 ^ k → (m_eu (2 * k) z).2 = 0
  | 0, z, h => by
    show z.2 = 0
    simpa using h
  | k + 1, z, h => by
    show (m_eu (2 * k + 1 + 1) z).2 = 0
    unfold m_eu
    split
    · assumption
    · next h0 =>
      show (m_eu (2 * k + 1) (z.2, z.1 % z.2)).2 = 0
      unfold m_eu
      split
      · assumption
      · next h1 =>
        have h1 : ¬ z.1 % z.2 = 0 := h1
        have h2 : z.1 % z.2 < z.2 := Nat.mod_lt _ (by omega)
        refine m_eu_end k _ ?_
        show z.2 % (z.1 % z.2) < 2 ^ k
        have h3 : z.2 % (z.1 % z.2) < z.1 % z.2 := Nat.mod_lt _ (by omega)
        have h4 := Nat.div_add_mod z.2 (z.1 % z.2)
        have h5 : 1 ≤ z.2 / (z.1 % z.2) := Nat.div_pos (by omega) (by omega)
        have h6 : (z.1 % z.2) * 1 ≤ (z.1 % z.2) * (z.2 / (z.1 % z.2)) := Nat.mul_le_mul_left _ h5
        rw [Nat.pow_succ] at h
        omega
theorem m_eu_succ : ∀ (n : Nat) (z : Nat × Nat), m_eu (n + 1) z = if (m_eu n z).2 = 0 then m_eu n z else ((m_eu n z).2, (m_eu n z).1 % (m_eu n z).2)
  | 0, z => by unfold m_eu; split <;> rfl
  | n + 1, z => by
    show (if z.2 = 0 then z else m_eu (n + 1) (z.2, z.1 % z.2)) = _
    by_cases h : z.2 = 0
    · rw [if_pos h, m_eu_0 (n + 1) z h, if_pos h]
    · rw [if_neg h]
      have e : m_eu (n + 1) z = m_eu n (z.2, z.1 % z.2) := by show (if z.2 = 0 then z else m_eu n (z.2, z.1 % z.2)) = _; rw [if_neg h]
      rw [e, m_eu_succ n]
theorem m_eu_lt {b : Nat} : ∀ (n : Nat) (z : Nat × Nat), z.1 < b → z.2 < b → (m_eu n z).1 < b ∧ (m_eu n z).2 < b
  | 0, _, h1, h2 => ⟨h1, h2⟩
  | n + 1, z, h1, h2 => by
    unfold m_eu
    split
    · exact ⟨h1, h2⟩
    · next h => exact m_eu_lt n _ h2 (Nat.lt_trans (Nat.mod_lt _ (by omega)) h2)
/-! bits of what is below 32 -/
def m_cnt (f : Nat → Bool) : Nat := (f 0).toNat + (f 1).toNat + (f 2).toNat + (f 3).toNat + (f 4).toNat
theorem m_bt1 : ∀ x : Fin 32, (m_bits ((x.val : Nat) : Int)).toNat = m_cnt (fun s => x.val.testBit s) ∧ 0 ≤ m_bits ((x.val : Nat) : Int) := by decide +kernel
theorem m_bt2 : ∀ x s : Fin 32, decide (nv_and ((x.val : Nat) : Int) (nv_xor ((s.val : Nat) : Int) (-1)) = 0) = m_sub (fun i => s.val.testBit i) 5 x.val := by decide +kernel
theorem m_bt3 : ∀ x s : Fin 32, (0 ≤ nv_and ((s.val : Nat) : Int) (nv_xor ((x.val : Nat) : Int) (-1)) ∧ nv_and ((s.val : Nat) : Int) (nv_xor ((x.val : Nat) : Int) (-1)) < 32) ∧ (m_bits (nv_and ((s.val : Nat) : Int) (nv_xor ((x.val : Nat) : Int) (-1)))).toNat = m_cnt (fun i => s.val.testBit i && !x.val.testBit i) ∧ 0 ≤ m_bits (nv_and ((s.val : Nat) : Int) (nv_xor ((x.val : Nat) : Int) (-1))) := by decide +kernel
theorem m_bd {c : Nat} {b d : Bool} (h : (!b || d) = true) : (10 - c) ^ b.toNat * c ^ (d && !b).toNat = if d = true then (if b = true then 10 - c else c) else 1 := by
  cases b <;> cases d <;> simp_all
theorem m_dt5 {c x : Nat} {sit : Nat → Bool} (h : m_sub sit 5 x = true) : (10 - c) ^ m_cnt (fun s => x.testBit s) * c ^ m_cnt (fun i => sit i && !x.testBit i) = m_dt c sit 5 x := by
  unfold m_sub m_sub m_sub m_sub m_sub m_sub at h
  simp only [Bool.true_and, Bool.and_eq_true] at h
  obtain ⟨⟨⟨⟨h0, h1⟩, h2⟩, h3⟩, h4⟩ := h
  unfold m_cnt m_dt m_dt m_dt m_dt m_dt m_dt
  rw [← m_bd h0, ← m_bd h1, ← m_bd h2, ← m_bd h3, ← m_bd h4]
  simp only [Nat.pow_add, Nat.one_mul]
  ac_rfl
theorem m_kk5 (f : Nat → Bool) : m_kk f 5 = m_cnt f := by
  unfold m_kk m_kk m_kk m_kk m_kk m_kk m_cnt
  cases f 0 <;> cases f 1 <;> cases f 2 <;> cases f 3 <;> cases f 4 <;> rfl
theorem m_setB (f : Nat → Prop) [DecidablePred f] : ∀ n : Nat, ∃ v : Nat, m_set f n = (v : Int) ∧ v < 2 ^ n ∧ ∀ s, v.testBit s = decide (s < n ∧ f s)
  | 0 => ⟨0, rfl, by simp, fun s => by simp⟩
  | n + 1 => by
    obtain ⟨v, h1, h2, h3⟩ := m_setB f n
    by_cases hf : f n
    · refine ⟨2 ^ n + v, ?_, by rw [Nat.pow_succ]; omega, fun s => ?_⟩
      · show m_set f n + (if f n then 2 ^ n else 0) = _
        rw [if_pos hf, h1]
        push_cast
        omega
      · by_cases hs : s < n
        · rw [Nat.testBit_two_pow_add_gt hs, h3 s]
          apply decide_eq_decide.mpr
          constructor <;> (rintro ⟨_, q⟩; exact ⟨by omega, q⟩)
        · by_cases e : s = n
          · subst e
            rw [m_tb h2, decide_eq_true ⟨by omega, hf⟩]
          · rw [Nat.testBit_lt_two_pow, decide_eq_false (by rintro ⟨q, -⟩; omega)]
            have : 2 ^ (n + 1) ≤ 2 ^ s := Nat.pow_le_pow_right (by decide) (by omega)
            rw [Nat.pow_succ] at this
            omega
    · refine ⟨v, ?_, by rw [Nat.pow_succ]; omega, fun s => ?_⟩
      · show m_set f n + (if f n then 2 ^ n else 0) = _
        rw [if_neg hf, h1]
        omega
      · rw [h3 s]
        apply decide_eq_decide.mpr
        constructor
        · rintro ⟨q1, q2⟩; exact ⟨by omega, q2⟩
        · rintro ⟨q1, q2⟩
          refine ⟨?_, q2⟩
          by_cases e : s = n
          · subst e; exact absurd q2 hf
          · omega
/-- what is left of a plank after the cuts c of those on it -/
theorem m_lf_val {N : m_NN} {P : Nat} {c : Nat → Int} {p : Nat} (hp : p < P) (h3 : 0 ≤ N 3 p) : ∀ (n : Nat), (∀ s, s < n → 0 ≤ c s ∧ (0 < c s → 0 ≤ N 6 s)) → m_lf N c n p = max 0 (N 3 p - m_sum (fun s => if N 6 s = (p : Int) then c s else 0) n)
  | 0, _ => by simp [m_lf, m_sum]; omega
  | n + 1, h => by
    have ih := m_lf_val hp h3 n (fun s hs => h s (by omega))
    have h0 := h n (by omega)
    show (if 0 < c n then m_up (m_lf N c n) (N 6 n).toNat (max 0 (m_lf N c n (N 6 n).toNat - c n)) else m_lf N c n) p = max 0 (N 3 p - (m_sum (fun s => if N 6 s = (p : Int) then c s else 0) n + (if N 6 n = (p : Int) then c n else 0)))
    have hs0 : 0 ≤ m_sum (fun s => if N 6 s = (p : Int) then c s else 0) n := by
      clear ih
      induction n with
      | zero => simp [m_sum]
      | succ n i2 =>
        have := i2 (fun s hs => h s (by omega)) (h n (by omega))
        have h1 := h n (by omega)
        show 0 ≤ m_sum _ n + (if N 6 n = (p : Int) then c n else 0)
        split <;> omega
    by_cases hc : 0 < c n
    · rw [if_pos hc]
      have h6 := h0.2 hc
      unfold m_up
      by_cases e : N 6 n = (p : Int)
      · rw [if_pos (by omega), if_pos e, e, Int.toNat_natCast, ih]
        omega
      · rw [if_neg (by omega), if_neg e, ih]
        omega
    · rw [if_neg hc, ih]
      split <;> omega
