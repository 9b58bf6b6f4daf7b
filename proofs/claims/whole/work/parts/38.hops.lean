/-! ===== hops ===== -/
theorem nv_InR_and (x y : Int) : nv_InR (nv_and x y) := ⟨Int32.le_toInt _, Int32.toInt_lt _⟩
theorem m_cc_sum (ct : Nat → Int) (x : Nat) : ∀ n, m_cc ct n x = m_sum (fun s => if m_bit (x : Int) s = true then ct s else 0) n
  | 0 => rfl
  | n + 1 => by
    unfold m_cc m_sum
    rw [m_cc_sum ct x n, m_bit_nat]
theorem m_cc_up {sit : Nat → Bool} {S : Nat} (ct : Nat → Int) (hs : ∀ s, S ≤ s → sit s = false) {x : Nat} : ∀ d, m_sub sit (S + d) x = true → m_cc ct (S + d) x = m_cc ct S x
  | 0, _ => rfl
  | d + 1, h => by
    have h : (m_sub sit (S + d) x && (!x.testBit (S + d) || sit (S + d))) = true := h
    rw [hs (S + d) (by omega), Bool.or_false, Bool.and_eq_true] at h
    show m_cc ct (S + d) x + (if x.testBit (S + d) = true then ct (S + d) else 0) = _
    have h2 : x.testBit (S + d) = false := by cases hb : x.testBit (S + d) <;> simp_all
    rw [h2, if_neg (by decide), m_cc_up ct hs d h.1]
    omega
theorem m_sub_ext {f g : Nat → Bool} {x : Nat} (h : ∀ s, f s = g s) : ∀ n, m_sub f n x = m_sub g n x := by
  rw [show f = g from funext h]
  intro n
  rfl
theorem m_A_le2 {d : Nat} {sit : Nat → Bool} {ct : Nat → Int} (hd : d ≤ 10) : ∀ (n : Nat) (r : Int), m_A d sit ct n r ≤ 10 ^ m_kk sit n
  | 0, r => by unfold m_A m_kk; split <;> decide
  | n + 1, r => by
    have i1 := m_A_le2 (sit := sit) (ct := ct) hd n (r - ct n)
    have i2 := m_A_le2 (sit := sit) (ct := ct) hd n r
    unfold m_A m_kk
    split
    · have h1 := Nat.mul_le_mul_left (10 - d) i1
      have h2 := Nat.mul_le_mul_left d i2
      have h5 : (10 - d) * 10 ^ m_kk sit n + d * 10 ^ m_kk sit n = 10 ^ (m_kk sit n + 1) := by rw [← Nat.add_mul, show 10 - d + d = 10 by omega, Nat.pow_succ, Nat.mul_comm]
      omega
    · exact i2
def a_sit (a : a_S) (p s : Nat) : Bool := decide (s < a_Sw a ∧ a_N a 6 s = (p : Int))
def a_hA (a : a_S) (p c : Nat) : Nat := m_A c (a_sit a p) (m_cut (a_N a)) (a_Sw a) (a_N a 3 p)
def a_hB (a : a_S) (p : Nat) : Nat := 10 ^ m_kk (a_sit a p) (a_Sw a)
def a_hops (a : a_S) (v c w : Int) : Int := if a_bp (a_P a) v = true then -1 else if a_out c 0 10 = true then -1 else if a_out w 0 1 = true then -1 else (((if w = 0 then a_hA a v.toNat c.toNat else a_hB a v.toNat) / Nat.gcd (a_hA a v.toNat c.toNat) (a_hB a v.toNat) : Nat) : Int)
set_option maxRecDepth 100000 in
theorem r_power {h : nv_St} {b n : Nat} (hn : n < 1000) : nv_R M_X5_power [vi b, vi n] h (fun r h' => h' = h ∧ r = some (vi ((b ^ n : Nat) : Int))) := by
  refine nv_R.of rfl rfl (Nat.le_of_ble_eq_true rfl) ?_
  have loop := m_down (n := n) (G := fun k => ∀ (x j : Int), x = ((b ^ k : Nat) : Int) → j = k → nv_V M_X5_power 4 [(0, vi b), (1, vi n), (2, vi x), (3, vi j)] [] h (fun r h' => h' = h ∧ r = some (vi ((b ^ n : Nat) : Int)))) ?_ ?_
  · refine nv_go ok_X5_power [4] 10 ?_
    exact loop 0 (by omega) _ _ rfl rfl
  · intro x j hx hj
    refine nv_go ok_X5_power [4] 20 ?_
    refine w_ic (by omega) (by omega) (fun c => ?_) (fun c => ?_)
    · exact ⟨rfl, by rw [hx]⟩
    · exact absurd (by show (n : Int) ≤ j; omega) c
  · intro k hk ih x j hx hj
    refine nv_go ok_X5_power [4] 20 ?_
    refine w_ic (by omega) (by omega) (fun c => ?_) (fun c => ?_)
    · exact absurd c (by show ¬ (n : Int) ≤ j; omega)
    · exact ih _ _ (by rw [hx, Nat.pow_succ]; push_cast; rfl) (by omega)
set_option maxRecDepth 100000 in
theorem r_sharedDivisor {h : nv_St} {x y : Nat} (hx : x < 2147483648) (hy : y < 2147483648) (h0 : 0 < y) : nv_R M_X5_sharedDivisor [vi x, vi y] h (fun r h' => h' = h ∧ r = some (vi ((Nat.gcd x y : Nat) : Int))) := by
  have hg : 0 < Nat.gcd x y := Nat.gcd_pos_of_pos_right _ h0
  have hgl : Nat.gcd x y ≤ y := Nat.gcd_le_right _ h0
  refine nv_R.of rfl rfl (Nat.le_of_ble_eq_true rfl) ?_
  have fin : ∀ (g l j : Int) (k : Nat), g = (m_eu k (x, y)).1 → (m_eu k (x, y)).2 = 0 → nv_V M_X5_sharedDivisor 34 [(0, vi x), (1, vi y), (2, vi g), (3, vi l), (4, vi j)] [] h (fun r h' => h' = h ∧ r = some (vi ((Nat.gcd x y : Nat) : Int))) := by
    intro g l j k hg1 hz
    have hk := m_eu_gcd k (x, y)
    rw [hz, Nat.gcd_zero_right] at hk
    have hk : (m_eu k (x, y)).1 = Nat.gcd x y := hk
    refine nv_go ok_X5_sharedDivisor [] 20 ?_
    refine w_mx (by omega) (by omega) ?_
    refine ⟨rfl, ?_⟩
    rw [show max 1 g = ((Nat.gcd x y : Nat) : Int) by omega]
  have loop := m_down (n := 64) (G := fun k => ∀ (g l j : Int), g = (m_eu k (x, y)).1 → l = (m_eu k (x, y)).2 → j = k → nv_V M_X5_sharedDivisor 7 [(0, vi x), (1, vi y), (2, vi g), (3, vi l), (4, vi j)] [] h (fun r h' => h' = h ∧ r = some (vi ((Nat.gcd x y : Nat) : Int)))) ?_ ?_
  · refine nv_go ok_X5_sharedDivisor [7] 10 ?_
    exact loop 0 (by omega) _ _ _ rfl rfl rfl
  · intro g l j hg1 hl hj
    refine nv_go ok_X5_sharedDivisor [34] 20 ?_
    refine w_ic (by omega) (by omega) (fun c => ?_) (fun c => ?_)
    · exact fin _ _ _ 64 hg1 (m_eu_end 32 (x, y) (by show y < 2 ^ 32; omega))
    · exact absurd (by show (64 : Int) ≤ j; omega) c
  · intro k hk ih g l j hg1 hl hj
    have hlt := m_eu_lt k (x, y) hx hy
    have hsu := m_eu_succ k (x, y)
    refine nv_go ok_X5_sharedDivisor [7, 34] 20 ?_
    refine w_ic (by omega) (by omega) (fun c => ?_) (fun c => ?_)
    · exact absurd c (by show ¬ (64 : Int) ≤ j; omega)
    · refine w_if (by omega) (fun c2 => ?_) (fun c2 => ?_)
      · have c2 : l = 0 := c2
        exact fin _ _ _ k hg1 (by omega)
      · have c2 : ¬ l = 0 := c2
        rw [if_neg (by omega)] at hsu
        refine w_dv (by omega) (by omega) ?_
        exact nv_V.take 5 (ih _ _ _ (by rw [hsu]; exact hl) (by rw [hsu, hg1, hl]; exact (Int.natCast_emod _ _).symm) (by omega))
section nvHop
variable {h : nv_St} {a : a_S}
theorem a_sit_hi {p : Nat} : ∀ s, a_Sw a ≤ s → a_sit a p s = false := fun s hs => decide_eq_false (by rintro ⟨q, -⟩; omega)
theorem m_cuts_r {N : m_NN} {P S : Nat} {B x : Int} (hN : m_ok N P S B) : 0 ≤ m_cuts N S x ∧ m_cuts N S x ≤ 90 := by
  have h1 := m_sum_le (f := fun s => if m_bit x s = true then m_cut N s else 0) (c := 18) (n := S) (fun s hs => by
    have := (m_cut_r hN hs).1
    show 0 ≤ (if m_bit x s = true then m_cut N s else 0) ∧ (if m_bit x s = true then m_cut N s else 0) ≤ 18
    split <;> omega)
  have h2 := hN.2.1
  unfold m_cuts
  omega
set_option maxHeartbeats 2000000 in
set_option maxRecDepth 100000 in
theorem r_hops_c (C : CI h a) {v c w : Int} (hv : nv_InR v) (hc : nv_InR c) (hw : nv_InR w) : nv_R M_X5_hops [vr 18 0, vi v, vi c, vi w] h (cQ h a (a_hops a v c w)) := by
  obtain ⟨hok, he, hNok⟩ := C.now
  obtain ⟨hP5, hS5, hP, hS, hH, hDr, hpl, hsw⟩ := hok.h
  refine nv_R.of rfl rfl (Nat.le_of_ble_eq_true rfl) ?_
  refine nv_go ok_X5_hops [45] 60 ?_
  refine w_call (r_noPlank hP5 hP hv) (fun r h' hr => ?_)
  obtain ⟨rfl, rfl⟩ := hr
  refine w_ifb (fun c1 => ?_) (fun c1 => ?_)
  · refine w_call (r_outA hc (by omega) (by omega)) (fun r h2 hr => ?_)
    obtain ⟨rfl, rfl⟩ := hr
    refine w_ifb (fun c2 => ?_) (fun c2 => ?_)
    · refine w_call (r_outA hw (by omega) (by omega)) (fun r h3 hr => ?_)
      obtain ⟨rfl, rfl⟩ := hr
      refine w_ifb (fun c3 => ?_) (fun c3 => ?_)
      · have g2 := a_out_f c2
        obtain ⟨p, rfl, hp⟩ := a_bp_f c1
        obtain ⟨d, rfl⟩ : ∃ d : Nat, c = d := ⟨c.toNat, by omega⟩
        have hd : d ≤ 10 := by omega
        have ea : a_hops a p d w = (((if w = 0 then a_hA a p d else a_hB a p) / Nat.gcd (a_hA a p d) (a_hB a p) : Nat) : Int) := by
          unfold a_hops; rw [if_neg (by rw [c1]; decide), if_neg (by rw [c2]; decide), if_neg (by rw [c3]; decide)]; rfl
        rw [ea]
        have e3 : h3 3 0 p = a_N a 3 p := (he.2.1 p hp).2.2
        have h3r := (hpl p hp).2.2
        refine w_call (r_sittersOn hok (x := (p : Int)) (by omega)) (fun r h4 hr => ?_)
        obtain ⟨rfl, rfl⟩ := hr
        obtain ⟨sv, hs1, hs2, hs3⟩ := m_setB (fun s => h4 6 0 s = (p : Int)) (a_Sw a)
        have hs32 : sv < 32 := by
          have : 2 ^ a_Sw a ≤ 2 ^ 5 := Nat.pow_le_pow_right (by decide) hS5
          omega
        have hsit : ∀ s, sv.testBit s = a_sit a p s := fun s => by
          rw [hs3 s]
          refine decide_eq_decide.mpr ⟨fun q => ⟨q.1, ?_⟩, fun q => ⟨q.1, ?_⟩⟩
          · rw [← q.2]; exact (he.2.2 s q.1).2.2.symm
          · rw [← q.2]; exact (he.2.2 s q.1).2.2
        have hsitf : (fun s => sv.testBit s) = a_sit a p := funext hsit
        have eA : m_sN (m_ct d (a_sit a p) (m_cut (a_N a)) 5 (a_N a 3 p)) 32 = a_hA a p d := by
          have := m_A_sum d (a_sit a p) (m_cut (a_N a)) 5 (a_N a 3 p)
          rw [show (32 : Nat) = 2 ^ 5 from rfl, this]
          have := m_A_up d (a_sit a p) (m_cut (a_N a)) (S := a_Sw a) a_sit_hi (a_N a 3 p) (5 - a_Sw a)
          rw [show a_Sw a + (5 - a_Sw a) = 5 by omega] at this
          exact this
        have eB : 10 ^ m_cnt (fun s => sv.testBit s) = a_hB a p := by
          have := m_kk_up (a_sit a p) (S := a_Sw a) a_sit_hi (5 - a_Sw a)
          rw [show a_Sw a + (5 - a_Sw a) = 5 by omega] at this
          unfold a_hB
          rw [hsitf, ← m_kk5, this]
        have hAle : a_hA a p d ≤ 10 ^ 5 := by rw [← eA]; exact Nat.le_trans (by rw [show (32 : Nat) = 2 ^ 5 from rfl, m_A_sum]; exact Nat.le_refl _) (m_A_le d _ _ hd 5 _)
        have hBle : a_hB a p ≤ 10 ^ 5 := Nat.pow_le_pow_right (by decide) (Nat.le_trans (m_kk_le _ _) hS5)
        have hB0 : 0 < a_hB a p := Nat.pow_pos (by decide)
        have hg := Nat.gcd_pos_of_pos_right (a_hA a p d) hB0
        have hgl := Nat.gcd_le_right (a_hA a p d) hB0
        generalize hQ : cQ h4 a (((if w = 0 then a_hA a p d else a_hB a p) / Nat.gcd (a_hA a p d) (a_hB a p) : Nat) : Int) = Q
        have loop := m_down (n := 32) (G := fun k => ∀ (x ab : Int), x = k → ab = (m_sN (m_ct d (a_sit a p) (m_cut (a_N a)) 5 (a_N a 3 p)) k : Nat) → nv_V M_X5_hops 45 [(0, vr 18 0), (1, vi p), (2, vi d), (3, vi w), (4, vi sv), (5, vi ab), (6, vi x)] [] h4 Q) ?_ ?_
        · have := loop 0 (by omega) 0 0 rfl rfl
          rw [← hs1] at this
          exact this
        · intro x ab hx hab
          rw [eA] at hab
          refine nv_go ok_X5_hops [45] 60 ?_
          refine w_ic (by omega) (by omega) (fun c4 => ?_) (fun c4 => ?_)
          · refine w_call (r_bitCount (by omega) (by omega)) (fun r h5 hr => ?_)
            obtain ⟨rfl, rfl⟩ := hr
            have hb1 := m_bt1 ⟨sv, hs32⟩
            have hcl : m_cnt (fun s => sv.testBit s) ≤ 5 := by rw [hsitf, ← m_kk5]; exact m_kk_le _ 5
            have eb : m_bits (sv : Int) = ((m_cnt (fun s => sv.testBit s) : Nat) : Int) := by
              have q1 : (m_bits (sv : Int)).toNat = m_cnt (fun s => sv.testBit s) := hb1.1
              have q2 : 0 ≤ m_bits (sv : Int) := hb1.2
              omega
            refine w_call (P' := fun r h' => h' = h5 ∧ r = some (vi ((a_hB a p : Nat) : Int))) ?_ (fun r h6 hr => ?_)
            · rw [eb, ← eB]
              exact r_power (b := 10) (by omega)
            obtain ⟨rfl, rfl⟩ := hr
            refine w_call (P' := fun r h' => h' = h6 ∧ r = some (vi ((Nat.gcd (a_hA a p d) (a_hB a p) : Nat) : Int))) ?_ (fun r h7 hr => ?_)
            · rw [hab]
              exact r_sharedDivisor (by omega) (by omega) hB0
            obtain ⟨rfl, rfl⟩ := hr
            rw [← hQ]
            refine w_if hw (fun c5 => ?_) (fun c5 => ?_)
            · have c5 : w = 0 := c5
              refine w_dv (by omega) (by omega) ?_
              rw [if_pos c5]
              exact cQ.eq (by rw [hab]; exact (Int.natCast_ediv _ _).symm) (cQ.same C)
            · have c5 : ¬ w = 0 := c5
              refine w_dv (by omega) (by omega) ?_
              rw [if_neg c5]
              exact cQ.eq (Int.natCast_ediv _ _).symm (cQ.same C)
          · exact absurd (by show (32 : Int) ≤ x; omega) c4
        · intro k hk ih x ab hx hab
          have j131 : ∀ (lv : nv_LV) (z : Int), z = ab + ((m_ct d (a_sit a p) (m_cut (a_N a)) 5 (a_N a 3 p) k : Nat) : Int) → lv.take 7 = [(0, vr 18 0), (1, vi p), (2, vi d), (3, vi w), (4, vi sv), (5, vi z), (6, vi x)] → nv_V M_X5_hops 131 lv [] h4 Q := by
            intro lv z hz hlv
            refine nv_V.take 7 ?_
            rw [hlv]
            refine nv_go ok_X5_hops [45] 60 ?_
            exact ih _ _ (by omega) (by rw [hz, hab]; show _ = ((m_sN _ k + _ : Nat) : Int); push_cast; rfl)
          have hb2 := m_bt2 ⟨k, hk⟩ ⟨sv, hs32⟩
          have hb2 : decide (nv_and (k : Int) (nv_xor (sv : Int) (-1)) = 0) = m_sub (fun i => sv.testBit i) 5 k := hb2
          rw [hsitf] at hb2
          have hb3 := m_bt3 ⟨k, hk⟩ ⟨sv, hs32⟩
          obtain ⟨hb31, hb32, hb33⟩ := hb3
          have hb31 : 0 ≤ nv_and (sv : Int) (nv_xor (k : Int) (-1)) ∧ nv_and (sv : Int) (nv_xor (k : Int) (-1)) < 32 := hb31
          have hb32 : (m_bits (nv_and (sv : Int) (nv_xor (k : Int) (-1)))).toNat = m_cnt (fun i => sv.testBit i && !k.testBit i) := hb32
          have hb33 : 0 ≤ m_bits (nv_and (sv : Int) (nv_xor (k : Int) (-1))) := hb33
          have hb1 := m_bt1 ⟨k, hk⟩
          obtain ⟨hb11, hb12⟩ := hb1
          have hb11 : (m_bits (k : Int)).toNat = m_cnt (fun s => k.testBit s) := hb11
          have hb12 : 0 ≤ m_bits (k : Int) := hb12
          have hk5 : ∀ f : Nat → Bool, m_cnt f ≤ 5 := fun f => by rw [← m_kk5]; exact m_kk_le _ 5
          have j67 : ∀ z : Int, z = nv_b (m_sub (a_sit a p) 5 k) → nv_V M_X5_hops 67 [(0, vr 18 0), (1, vi p), (2, vi d), (3, vi w), (4, vi sv), (5, vi ab), (6, vi x)] [vi z] h4 Q := by
            intro z hz
            rw [hz, hx]
            refine nv_go ok_X5_hops [131] 60 ?_
            refine w_ifb (fun c5 => ?_) (fun c5 => ?_)
            · refine j131 _ ab ?_ (by rw [hx]; rfl)
              unfold m_ct
              rw [c5, if_neg (by rintro ⟨q, -⟩; exact absurd q (by decide))]
              omega
            · have hmc : m_cuts (m_nn h4 0) (a_Sw a) (k : Int) = m_cc (m_cut (a_N a)) 5 k := by
                have := m_cc_up (sit := a_sit a p) (S := a_Sw a) (m_cut (a_N a)) a_sit_hi (x := k) (5 - a_Sw a)
                rw [show a_Sw a + (5 - a_Sw a) = 5 by omega] at this
                rw [this c5, m_cc_sum]
                unfold m_cuts
                exact m_sum_eq (fun s hs => by rw [m_cut_eq he hok hs])
              have hcr := m_cuts_r (x := (k : Int)) hok
              refine w_call (r_cutByAll hok (by omega) (by omega) (by omega)) (fun r h5 hr => ?_)
              obtain ⟨rfl, rfl⟩ := hr
              refine w_ix p rfl (by omega) ?_
              refine w_ic (by omega) (by omega) (fun c6 => ?_) (fun c6 => ?_)
              · have c6 : m_cuts (m_nn h5 0) (a_Sw a) (k : Int) < h5 3 0 p := c6
                refine j131 _ ab ?_ (by rw [hx]; rfl)
                unfold m_ct
                rw [if_neg (by rintro ⟨-, q⟩; omega)]
                omega
              · have c6 : ¬ m_cuts (m_nn h5 0) (a_Sw a) (k : Int) < h5 3 0 p := c6
                refine w_call (r_bitCount (by omega) (by omega)) (fun r h6 hr => ?_)
                obtain ⟨rfl, rfl⟩ := hr
                have q1 := hk5 (fun s => k.testBit s)
                have q2 := hk5 (fun i => sv.testBit i && !k.testBit i)
                refine w_call (P' := fun r h' => h' = h6 ∧ r = some (vi (((10 - d) ^ m_cnt (fun s => k.testBit s) : Nat) : Int))) ?_ (fun r h7 hr => ?_)
                · rw [show m_bits (k : Int) = ((m_cnt (fun s => k.testBit s) : Nat) : Int) by omega, show (10 : Int) - (d : Int) = ((10 - d : Nat) : Int) by omega]
                  exact r_power (by omega)
                obtain ⟨rfl, rfl⟩ := hr
                refine w_call (r_bitCount hb31.1 hb31.2) (fun r h8 hr => ?_)
                obtain ⟨rfl, rfl⟩ := hr
                refine w_call (P' := fun r h' => h' = h8 ∧ r = some (vi ((d ^ m_cnt (fun i => sv.testBit i && !k.testBit i) : Nat) : Int))) ?_ (fun r h9 hr => ?_)
                · rw [show m_bits (nv_and (sv : Int) (nv_xor (k : Int) (-1))) = ((m_cnt (fun i => sv.testBit i && !k.testBit i) : Nat) : Int) by omega]
                  exact r_power (by omega)
                obtain ⟨rfl, rfl⟩ := hr
                refine j131 _ _ ?_ (by rw [hx]; rfl)
                have e5 := m_dt5 (c := d) (x := k) (sit := a_sit a p) c5
                unfold m_ct
                rw [if_pos ⟨c5, by omega⟩, ← e5]
                have : (fun i => a_sit a p i && !k.testBit i) = (fun i => sv.testBit i && !k.testBit i) := funext (fun i => by rw [hsit i])
                rw [this]
                push_cast
                rfl
          rw [hx] at j67 ⊢
          refine nv_go ok_X5_hops [67] 60 ?_
          refine w_ic (by omega) (by omega) (fun c4 => ?_) (fun c4 => ?_)
          · exact absurd c4 (by show ¬ (32 : Int) ≤ (k : Int); omega)
          · refine w_if (nv_InR_and _ _) (fun c5 => ?_) (fun c5 => ?_)
            · have c5 : nv_and (k : Int) (nv_xor (sv : Int) (-1)) = 0 := c5
              exact j67 _ (by rw [← hb2, decide_eq_true c5]; rfl)
            · have c5 : ¬ nv_and (k : Int) (nv_xor (sv : Int) (-1)) = 0 := c5
              exact j67 _ (by rw [← hb2, decide_eq_false c5]; rfl)
      · exact cQ.eq (by unfold a_hops; rw [if_neg (by rw [c1]; decide), if_neg (by rw [c2]; decide), if_pos c3]) (cQ.same C)
    · exact cQ.eq (by unfold a_hops; rw [if_neg (by rw [c1]; decide), if_pos c2]) (cQ.same C)
  · exact cQ.eq (by unfold a_hops; rw [if_pos c1]) (cQ.same C)
set_option maxHeartbeats 2000000 in
set_option maxRecDepth 100000 in
theorem r_hops_g (C : MI h a) {v c w : Int} (hv : nv_InR v) (hc : nv_InR c) (hw : nv_InR w) : nv_R M_X6_hops [vr 19 0, vi v, vi c, vi w] h (gQ h a (a_hops a v c w)) := by
  obtain ⟨hok, he, hNok⟩ := C.now
  obtain ⟨hP5, hS5, hP, hS, hH, hDr, hpl, hsw⟩ := hok.m
  refine nv_R.of rfl rfl (Nat.le_of_ble_eq_true rfl) ?_
  refine nv_go ok_X6_hops [38] 60 ?_
  refine w_call (r_isPlankA hP5 hP hv) (fun r h' hr => ?_)
  obtain ⟨rfl, rfl⟩ := hr
  refine w_ifb (fun c1 => ?_) (fun c1 => ?_)
  · exact gQ.eq (by unfold a_hops; rw [if_pos (bn_f c1)]) (gQ.same C)
  · have c1 := bn_t c1
    refine w_call (r_inA hc (by omega) (by omega)) (fun r h2 hr => ?_)
    obtain ⟨rfl, rfl⟩ := hr
    refine w_ifb (fun c2 => ?_) (fun c2 => ?_)
    · exact gQ.eq (by unfold a_hops; rw [if_neg (by rw [c1]; decide), if_pos (bn_f c2)]) (gQ.same C)
    · have c2 := bn_t c2
      refine w_call (r_inA hw (by omega) (by omega)) (fun r h3 hr => ?_)
      obtain ⟨rfl, rfl⟩ := hr
      refine w_ifb (fun c3 => ?_) (fun c3 => ?_)
      · exact gQ.eq (by unfold a_hops; rw [if_neg (by rw [c1]; decide), if_neg (by rw [c2]; decide), if_pos (bn_f c3)]) (gQ.same C)
      · have c3 := bn_t c3
        have g2 := a_out_f c2
        obtain ⟨p, rfl, hp⟩ := a_bp_f c1
        obtain ⟨d, rfl⟩ : ∃ d : Nat, c = d := ⟨c.toNat, by omega⟩
        have hd : d ≤ 10 := by omega
        have ea : a_hops a p d w = (((if w = 0 then a_hA a p d else a_hB a p) / Nat.gcd (a_hA a p d) (a_hB a p) : Nat) : Int) := by
          unfold a_hops; rw [if_neg (by rw [c1]; decide), if_neg (by rw [c2]; decide), if_neg (by rw [c3]; decide)]; rfl
        rw [ea]
        generalize hU : m_U d (a_sit a p) (m_cut (a_N a)) (a_Sw a) (a_N a 3 p) = U
        have hUA : U = 10 ^ m_zz (a_sit a p) (a_Sw a) * a_hA a p d := by rw [← hU]; exact m_U_A d _ _ _ _ hd
        have hDB : 10 ^ a_Sw a = 10 ^ m_zz (a_sit a p) (a_Sw a) * a_hB a p := m_kz _ _
        have hz0 : 0 < 10 ^ m_zz (a_sit a p) (a_Sw a) := Nat.pow_pos (by decide)
        have hgd : Nat.gcd U (10 ^ a_Sw a) = 10 ^ m_zz (a_sit a p) (a_Sw a) * Nat.gcd (a_hA a p d) (a_hB a p) := by rw [hUA, hDB, Nat.gcd_mul_left]
        have hD5 : 10 ^ a_Sw a ≤ 10 ^ 5 := Nat.pow_le_pow_right (by decide) hS5
        have hD0 : 0 < 10 ^ a_Sw a := Nat.pow_pos (by decide)
        have hAle : a_hA a p d ≤ a_hB a p := m_A_le2 hd _ _
        have hUle : U ≤ 10 ^ a_Sw a := by rw [hUA, hDB]; exact Nat.mul_le_mul_left _ hAle
        have hg := Nat.gcd_pos_of_pos_right U hD0
        have hgl := Nat.gcd_le_right U hD0
        generalize hQ : gQ h3 a (((if w = 0 then a_hA a p d else a_hB a p) / Nat.gcd (a_hA a p d) (a_hB a p) : Nat) : Int) = Q
        -- Euclid
        have j177 : ∀ (h1 : nv_St), m_frM 25 h3 h1 → ∀ k, k ≤ 64 → ∀ (x y : Int), x = ((m_eu k (U, 10 ^ a_Sw a)).1 : Nat) → y = ((m_eu k (U, 10 ^ a_Sw a)).2 : Nat) → nv_V M_X6_hops 177 [(0, vr 19 0), (1, vi p), (2, vi d), (3, vi w), (4, vi U), (5, vi ((10 ^ a_Sw a : Nat) : Int)), (6, vi x), (7, vi y)] [] h1 Q := by
          intro h1 hf
          have fin : ∀ (k : Nat) (x y : Int), x = ((m_eu k (U, 10 ^ a_Sw a)).1 : Nat) → y = ((m_eu k (U, 10 ^ a_Sw a)).2 : Nat) → (m_eu k (U, 10 ^ a_Sw a)).2 = 0 → nv_V M_X6_hops 177 [(0, vr 19 0), (1, vi p), (2, vi d), (3, vi w), (4, vi U), (5, vi ((10 ^ a_Sw a : Nat) : Int)), (6, vi x), (7, vi y)] [] h1 Q := by
            intro k x y hx hy hz
            have hk := m_eu_gcd k (U, 10 ^ a_Sw a)
            rw [hz, Nat.gcd_zero_right] at hk
            have hk : (m_eu k (U, 10 ^ a_Sw a)).1 = Nat.gcd U (10 ^ a_Sw a) := hk
            have hx2 : x = ((Nat.gcd U (10 ^ a_Sw a) : Nat) : Int) := by rw [hx, hk]
            refine nv_go ok_X6_hops [] 60 ?_
            refine w_if (by omega) (fun _ => ?_) (fun c4 => absurd (by show y ≤ 0; omega) c4)
            rw [← hQ]
            refine w_if hw (fun c5 => ?_) (fun c5 => ?_)
            · have c5 : w = 0 := c5
              refine w_dv (by omega) (by omega) ?_
              rw [if_pos c5]
              refine gQ.eq ?_ (gQ.tried C hf)
              rw [hx2, ← Int.natCast_ediv, hgd, hUA, Nat.mul_div_mul_left _ _ hz0]
            · have c5 : ¬ w = 0 := c5
              refine w_dv (by omega) (by omega) ?_
              rw [if_neg c5]
              refine gQ.eq ?_ (gQ.tried C hf)
              rw [hx2, ← Int.natCast_ediv, hgd, hDB, Nat.mul_div_mul_left _ _ hz0]
          refine m_down ?_ ?_
          · intro x y hx hy
            exact fin 64 x y hx hy (m_eu_end 32 _ (by show 10 ^ a_Sw a < 2 ^ 32; omega))
          · intro k hk ih x y hx hy
            by_cases hz : (m_eu k (U, 10 ^ a_Sw a)).2 = 0
            · exact fin k x y hx hy hz
            · have hlt := m_eu_lt (b := 2147483648) k (U, 10 ^ a_Sw a) (by show U < _; omega) (by show 10 ^ a_Sw a < _; omega)
              have hsu := m_eu_succ k (U, 10 ^ a_Sw a)
              rw [if_neg hz] at hsu
              refine nv_go ok_X6_hops [177] 60 ?_
              refine w_if (by omega) (fun c4 => ?_) (fun c4 => ?_)
              · have c4 : y ≤ 0 := c4
                omega
              · refine w_dv (by omega) (by omega) ?_
                exact nv_V.take 8 (ih _ _ (by rw [hsu]; exact hy) (by rw [hsu, hx, hy]; exact (Int.natCast_emod _ _).symm))
        -- over all hops
        have eU : m_sN (m_rt d (a_sit a p) (m_cut (a_N a)) (a_Sw a) (a_N a 3 p)) (2 ^ a_Sw a) = U := by rw [m_U_sum]; exact hU
        have h2S : 2 ^ a_Sw a ≤ 2 ^ 5 := Nat.pow_le_pow_right (by decide) hS5
        have q2i : (0 : Int) ≤ 2 ^ a_Sw a ∧ (2 : Int) ^ a_Sw a ≤ 32 := by
          have e : (2 : Int) ^ a_Sw a = ((2 ^ a_Sw a : Nat) : Int) := by push_cast; rfl
          rw [e]
          exact ⟨Int.natCast_nonneg _, by omega⟩
        have j66 : ∀ k : Nat, k ≤ 2 ^ a_Sw a → ∀ (x up : Int) (h1 : nv_St), x = k → up = (m_sN (m_rt d (a_sit a p) (m_cut (a_N a)) (a_Sw a) (a_N a 3 p)) k : Nat) → m_frM 25 h3 h1 → nv_V M_X6_hops 66 [(0, vr 19 0), (1, vi p), (2, vi d), (3, vi w), (4, vi up), (5, vi ((10 ^ a_Sw a : Nat) : Int)), (6, vi x)] [] h1 Q := by
          refine m_down ?_ ?_
          · intro x up h1 hx hup hf
            rw [eU] at hup
            have hS1 : h1 24 0 28 = a_Sw a := by rw [hf 24 0 (by omega)]; exact hS
            have e2 : (1 : Int) * 2 ^ a_Sw a = ((2 ^ a_Sw a : Nat) : Int) := by push_cast; omega
            refine nv_go ok_X6_hops [177] 60 ?_
            refine w_ix 28 rfl (by omega) ?_
            refine w_ix (a_Sw a) hS1 (by omega) ?_
            refine w_ic (by omega) (by omega) (fun c4 => ?_) (fun c4 => ?_)
            · rw [hup]
              exact j177 h1 hf 0 (by omega) _ _ rfl rfl
            · exact absurd (by show (1 : Int) * 2 ^ a_Sw a ≤ x; omega) c4
          · intro k hk ih x up h1 hx hup hf
            have hS1 : h1 24 0 28 = a_Sw a := by rw [hf 24 0 (by omega)]; exact hS
            have e2 : (1 : Int) * 2 ^ a_Sw a = ((2 ^ a_Sw a : Nat) : Int) := by push_cast; omega
            have he1 : m_eq (a_P a) (a_Sw a) (m_mm h1 24) (a_N a) := by rw [m_mm_ext (hf 24 0 (by omega))]; exact he
            have j86 : ∀ i, i ≤ a_Sw a → ∀ (od j : Int), od = ((m_od d i k : Nat) : Int) → j = i → nv_V M_X6_hops 86 [(0, vr 19 0), (1, vi p), (2, vi d), (3, vi w), (4, vi up), (5, vi ((10 ^ a_Sw a : Nat) : Int)), (6, vi x), (7, vi od), (8, vi j)] [] h1 Q := by
              refine m_down ?_ ?_
              · intro od j hod hj
                refine nv_go ok_X6_hops [66, 160] 60 ?_
                refine w_ix 28 rfl (by omega) ?_
                refine w_ic (by omega) (by omega) (fun c4 => ?_) (fun c4 => ?_)
                · refine w_call r_begin (fun r h4 hr => ?_)
                  obtain ⟨rfl, hb4, hf4⟩ := hr
                  have he4 := (g_eq (P := a_P a) (S := a_Sw a) hP5 hS5 hb4).trans' he1
                  have hok4 := he4.ok hNok
                  refine w_call (r_hourIn_25 hok4 (by omega) (hop := x) (by omega) (by omega)) (fun r h5 hr => ?_)
                  obtain ⟨rfl, he5, -, hf5⟩ := hr
                  have hf6 : m_frM 25 h3 h5 := hf.trans' ((m_frM.beg hf4).trans' hf5)
                  have hmS := m_S_eq hok4
                  have ev : h5 25 0 (2 + p) = max 0 (m_mm h4 25 3 p - m_sum (fun s => if m_mm h4 25 6 s = (p : Int) then m_hc x (m_mm h4 25) s else 0) (a_Sw a)) := by
                    have e := (he5.2.1 p hp).2.2
                    have e : h5 25 0 (2 + p) = m_lf (m_mm h4 25) (m_hc x (m_mm h4 25)) (m_S (m_mm h4 25)) p := e
                    rw [e, hmS]
                    exact m_lf_val hp (hok4.2.2.2.2.2.2.1 p hp).2.2.1 _ (fun s hs => ⟨(m_hc_r hok4 x hs).1.1, fun q => ((m_hc_r hok4 x hs).2 q).1⟩)
                  have es : m_sum (fun s => if m_mm h4 25 6 s = (p : Int) then m_hc x (m_mm h4 25) s else 0) (a_Sw a) = m_cs (m_gs (a_sit a p) (m_cut (a_N a))) (a_Sw a) k := by
                    have : ∀ n, n ≤ a_Sw a → m_sum (fun s => if m_mm h4 25 6 s = (p : Int) then m_hc x (m_mm h4 25) s else 0) n = m_cs (m_gs (a_sit a p) (m_cut (a_N a))) n k := by
                      intro n
                      induction n with
                      | zero => intro _; rfl
                      | succ n i2 =>
                        intro hn
                        have q6 := (he4.2.2 n (by omega)).2.2
                        have qc := m_cut_eq he4 hok4 (s := n) (by omega)
                        show m_sum _ n + (if m_mm h4 25 6 n = (p : Int) then m_hc x (m_mm h4 25) n else 0) = m_cs _ n k + (if k.testBit n = true then 0 else m_gs (a_sit a p) (m_cut (a_N a)) n)
                        rw [i2 (by omega)]
                        congr 1
                        unfold m_hc m_gs a_sit
                        rw [qc, q6, hx, m_bit_nat]
                        by_cases z1 : a_N a 6 n = (p : Int)
                        · rw [if_pos z1, decide_eq_true ⟨by omega, z1⟩, if_pos rfl]
                        · rw [if_neg z1, decide_eq_false (fun q => z1 q.2), if_neg (show ¬ false = true by decide)]
                          split <;> rfl
                    exact this _ (Nat.le_refl _)
                  have e3 : m_mm h4 25 3 p = a_N a 3 p := (he4.2.1 p hp).2.2
                  have h39 := (hNok.2.2.2.2.2.2.1 p hp).2.2
                  have hcs0 : 0 ≤ m_sum (fun s => if m_mm h4 25 6 s = (p : Int) then m_hc x (m_mm h4 25) s else 0) (a_Sw a) := (m_sum_le (c := 18) (fun s hs => by
                    have := (m_hc_r hok4 x hs).1
                    show 0 ≤ (if m_mm h4 25 6 s = (p : Int) then m_hc x (m_mm h4 25) s else 0) ∧ (if m_mm h4 25 6 s = (p : Int) then m_hc x (m_mm h4 25) s else 0) ≤ 18
                    split <;> omega)).1
                  rw [es] at ev hcs0
                  have j160 : ∀ z : Int, z = ((m_rt d (a_sit a p) (m_cut (a_N a)) (a_Sw a) (a_N a 3 p) k : Nat) : Int) → nv_V M_X6_hops 160 [(0, vr 19 0), (1, vi p), (2, vi d), (3, vi w), (4, vi up), (5, vi ((10 ^ a_Sw a : Nat) : Int)), (6, vi x), (7, vi od), (8, vi j)] [vi z, vi up] h5 Q := by
                    intro z hz
                    refine nv_go ok_X6_hops [66] 60 ?_
                    refine nv_V.take 7 (ih _ _ _ (by omega) ?_ hf6)
                    rw [hup, hz]
                    show _ = ((m_sN _ k + _ : Nat) : Int)
                    push_cast
                    rfl
                  refine w_ix (2 + p) (by omega) (by omega) ?_
                  refine w_if (by omega) (fun c5 => ?_) (fun c5 => ?_)
                  · have c5 : h5 25 0 (2 + p) = 0 := c5
                    refine j160 _ ?_
                    unfold m_rt
                    rw [if_pos (by omega)]
                    exact hod
                  · have c5 : ¬ h5 25 0 (2 + p) = 0 := c5
                    refine j160 _ ?_
                    unfold m_rt
                    rw [if_neg (by omega)]
                    rfl
                · exact absurd (by show h1 24 0 28 ≤ j; omega) c4
              · intro i hi ih2 od j hod hj
                have j118 : ∀ z : Int, z = ((if k.testBit i = true then d else 10 - d : Nat) : Int) → nv_V M_X6_hops 118 [(0, vr 19 0), (1, vi p), (2, vi d), (3, vi w), (4, vi up), (5, vi ((10 ^ a_Sw a : Nat) : Int)), (6, vi x), (7, vi od), (8, vi j)] [vi z, vi od] h1 Q := by
                  intro z hz
                  refine nv_go ok_X6_hops [86] 60 ?_
                  refine ih2 _ _ ?_ (by omega)
                  rw [hod, hz]
                  show _ = ((m_od d i k * _ : Nat) : Int)
                  push_cast
                  rfl
                refine nv_go ok_X6_hops [118] 60 ?_
                refine w_ix 28 rfl (by omega) ?_
                refine w_ic (by omega) (by omega) (fun c4 => ?_) (fun c4 => ?_)
                · exact absurd c4 (by show ¬ (h1 24 0 28 ≤ j); omega)
                · refine w_call (P' := fun r h' => h' = h1 ∧ r = some (vi (nv_b (k.testBit i)))) ?_ (fun r h4 hr => ?_)
                  · rw [hx, hj, ← m_bit_nat]
                    exact r_has (by omega) (by omega) (by omega)
                  obtain ⟨rfl, rfl⟩ := hr
                  refine w_ifb (fun c5 => ?_) (fun c5 => ?_)
                  · exact j118 _ (by rw [c5, if_neg (show ¬ false = true by decide)]; omega)
                  · exact j118 _ (by rw [c5, if_pos rfl])
            refine nv_go ok_X6_hops [86] 60 ?_
            refine w_ix 28 rfl (by omega) ?_
            refine w_ix (a_Sw a) hS1 (by omega) ?_
            refine w_ic (by omega) (by omega) (fun c4 => ?_) (fun c4 => ?_)
            · exact absurd c4 (by show ¬ ((1 : Int) * 2 ^ a_Sw a ≤ x); omega)
            · exact j86 0 (by omega) _ _ rfl rfl
        have j38 := m_down (n := a_Sw a) (G := fun k => ∀ (x j : Int), x = ((10 ^ k : Nat) : Int) → j = k → nv_V M_X6_hops 38 [(0, vr 19 0), (1, vi p), (2, vi d), (3, vi w), (4, vi 0), (5, vi x), (6, vi j)] [] h3 Q) ?_ ?_
        · exact j38 0 (by omega) _ _ rfl rfl
        · intro x j hx hj
          refine nv_go ok_X6_hops [66] 60 ?_
          refine w_ix 28 rfl (by omega) ?_
          refine w_ic (by omega) (by omega) (fun c4 => ?_) (fun c4 => ?_)
          · rw [hx]
            exact j66 0 (Nat.zero_le _) _ _ _ rfl rfl m_frM.rfl'
          · exact absurd (by show h3 24 0 28 ≤ j; omega) c4
        · intro k hk ih x j hx hj
          refine nv_go ok_X6_hops [38] 60 ?_
          refine w_ix 28 rfl (by omega) ?_
          refine w_ic (by omega) (by omega) (fun c4 => ?_) (fun c4 => ?_)
          · exact absurd c4 (by show ¬ (h3 24 0 28 ≤ j); omega)
          · exact ih _ _ (by rw [hx, Nat.pow_succ]; push_cast; rfl) (by omega)
end nvHop
