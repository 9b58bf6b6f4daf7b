/-! ===== sharp, thickest ===== -/
def m_sh (v : Nat → Int) : Nat → Int × Int
  | 0 => (-4, -4)
  | k + 1 => if (m_sh v k).1 = -4 ∨ v k < (m_sh v k).2 then ((k : Int), v k) else m_sh v k
theorem m_sh_r {v : Nat → Int} {c : Int} (h0 : 0 ≤ c) : ∀ {k : Nat}, (∀ i, i < k → 0 ≤ v i ∧ v i ≤ c) → (-4 ≤ (m_sh v k).1 ∧ (m_sh v k).1 < k) ∧ (-4 ≤ (m_sh v k).2 ∧ (m_sh v k).2 ≤ c)
  | 0, _ => by simp [m_sh]; omega
  | k + 1, h => by
    have ih := m_sh_r h0 (k := k) (fun i hi => h i (by omega))
    have h2 := h k (by omega)
    unfold m_sh
    split
    · show (-4 ≤ (k : Int) ∧ (k : Int) < ((k + 1 : Nat) : Int)) ∧ (-4 ≤ v k ∧ v k ≤ c)
      omega
    · omega
def a_shv (a : a_S) (n s : Nat) : Int := m_sum (fun p => m_it n (m_put (a_N a) 5 s (min 9 (a_N a 5 s + 3))) 3 p) (a_P a)
def a_sharp (a : a_S) (n w : Int) : Int := if a_out n 1 40 = true then -1 else if a_out w 0 1 = true then -1 else if w = 0 then (m_sh (a_shv a n.toNat) (a_Sw a)).1 else (m_sh (a_shv a n.toNat) (a_Sw a)).2
theorem a_shN_ok {a : a_S} (hN : m_ok (a_N a) (a_P a) (a_Sw a) 9999) {s : Nat} (hs : s < a_Sw a) : m_ok (m_put (a_N a) 5 s (min 9 (a_N a 5 s + 3))) (a_P a) (a_Sw a) 9999 := by
  have := (hN.2.2.2.2.2.2.2 s hs).2.1
  exact m_put_ok5 hN (by omega)
theorem a_shv_r {a : a_S} (hN : m_ok (a_N a) (a_P a) (a_Sw a) 9999) (n : Nat) : ∀ s, s < a_Sw a → 0 ≤ a_shv a n s ∧ a_shv a n s ≤ 495 := by
  intro s hs
  have h1 := m_it_ok (a_shN_ok hN hs) n
  have h2 := m_sum_le (f := fun p => m_it n (m_put (a_N a) 5 s (min 9 (a_N a 5 s + 3))) 3 p) (c := 99) (n := a_P a) (fun p hp => (h1.2.2.2.2.2.2.1 p hp).2.2)
  have h3 := hN.1
  unfold a_shv
  omega
def m_thk (f : Nat → Bool) : Nat → Int
  | 0 => 0
  | v + 1 => if f (v + 1) = true then ((v + 1 : Nat) : Int) else m_thk f v
def a_thf (a : a_S) (n p v : Nat) : Bool := decide (m_it n (m_put (a_N a) 3 p v) 3 p = 0)
def a_thick (a : a_S) (v n : Int) : Int := if a_bp (a_P a) v = true then -1 else if a_out n 1 40 = true then -1 else m_thk (a_thf a n.toNat v.toNat) 99
theorem m_it_0 {N : m_NN} {P S p : Nat} {B : Int} (hN : m_ok N P S B) (hp : p < P) (h0 : N 3 p = 0) : ∀ n, m_it n N 3 p = 0
  | 0 => h0
  | n + 1 => by
    have ih := m_it_0 hN hp h0 n
    have := m_L_r (m_it_ok hN n) p hp
    show m_L (m_it n N) p = 0
    omega
section nvSh
variable {h : nv_St} {a : a_S}
set_option maxHeartbeats 1000000 in
set_option maxRecDepth 100000 in
theorem r_sharp_c (C : CI h a) {n w : Int} (hn : nv_InR n) (hw : nv_InR w) : nv_R M_X5_sharp [vr 18 0, vi n, vi w] h (cQ h a (a_sharp a n w)) := by
  obtain ⟨hok, he, hNok⟩ := C.now
  obtain ⟨hP5, hS5, hP, hS, hH, hDr, hpl, hsw⟩ := hok.h
  refine nv_R.of rfl rfl (Nat.le_of_ble_eq_true rfl) ?_
  refine nv_go ok_X5_sharp [31] 60 ?_
  refine w_call (r_outA hn (by omega) (by omega)) (fun r h' hr => ?_)
  obtain ⟨rfl, rfl⟩ := hr
  refine w_ifb (fun c => ?_) (fun c => ?_)
  · refine w_call (r_outA hw (by omega) (by omega)) (fun r h2 hr => ?_)
    obtain ⟨rfl, rfl⟩ := hr
    refine w_ifb (fun c2 => ?_) (fun c2 => ?_)
    · have g1 := a_out_f c
      have g2 := a_out_f c2
      obtain ⟨m, rfl⟩ : ∃ m : Nat, n = m := ⟨n.toNat, by omega⟩
      have ea : a_sharp a m w = if w = 0 then (m_sh (a_shv a m) (a_Sw a)).1 else (m_sh (a_shv a m) (a_Sw a)).2 := by
        unfold a_sharp; rw [if_neg (by rw [c]; decide), if_neg (by rw [c2]; decide)]; rfl
      rw [ea]
      have loop := m_down (n := a_Sw a) (G := fun k => ∀ (j x y : Int) (h1 : nv_St), j = k → x = (m_sh (a_shv a m) k).1 → y = (m_sh (a_shv a m) k).2 → m_fr 1 h2 h1 → nv_V M_X5_sharp 31 [(0, vr 18 0), (1, vi m), (2, vi w), (3, vi x), (4, vi y), (5, vi j)] [] h1 (cQ h2 a (if w = 0 then (m_sh (a_shv a m) (a_Sw a)).1 else (m_sh (a_shv a m) (a_Sw a)).2))) ?_ ?_
      · exact loop 0 (by omega) _ _ _ _ rfl rfl rfl m_fr.rfl'
      · intro j x y h1 hj hx hy hf
        have hS1 : h1 0 0 1 = a_Sw a := by rw [hf 0 0 (by omega)]; exact hS
        refine nv_go ok_X5_sharp [31] 40 ?_
        refine w_ic (by omega) (by omega) (fun c3 => ?_) (fun c3 => ?_)
        · refine w_if hw (fun c4 => ?_) (fun c4 => ?_)
          · have c4 : w = 0 := c4
            rw [if_pos c4]
            exact cQ.eq hx (cQ.trial C hf)
          · have c4 : ¬ w = 0 := c4
            rw [if_neg c4]
            exact cQ.eq hy (cQ.trial C hf)
        · exact absurd (by show h1 0 0 1 ≤ j; omega) c3
      · intro k hk ih j x y h1 hj hx hy hf
        have hr := m_sh_r (v := a_shv a m) (c := 495) (by omega) (k := k) (fun i hi => a_shv_r hNok m i (by omega))
        have hS1 : h1 0 0 1 = a_Sw a := by rw [hf 0 0 (by omega)]; exact hS
        have he1 : m_eq (a_P a) (a_Sw a) (m_nn h1 0) (a_N a) := by rw [m_nn_ext (fun t _ => hf t 0 (by omega))]; exact he
        refine nv_go ok_X5_sharp [31, 94, 101] 60 ?_
        refine w_ic (by omega) (by omega) (fun c3 => ?_) (fun c3 => ?_)
        · exact absurd c3 (by show ¬ (h1 0 0 1 ≤ j); omega)
        · refine w_call (r_takeAll (o := 1) (b := 0) (by decide)) (fun r h3 hr => ?_)
          obtain ⟨rfl, ht⟩ := hr
          have he3 := (ht.eq (P := a_P a) (S := a_Sw a) hP5 hS5).trans' he1
          have e5 : h3 5 1 k = a_N a 5 k := (he3.2.2 k hk).2.1
          have hb5 := (hNok.2.2.2.2.2.2.2 k hk).2.1
          refine w_call (P' := fun r h' => r = none ∧ h' = nv_up h3 5 1 k (min 9 (h3 5 1 k + 3))) (by rw [hj]; exact r_addTeeth (by omega) (by omega) (by omega)) (fun r h4 hr => ?_)
          obtain ⟨rfl, rfl⟩ := hr
          have he4 : m_eq (a_P a) (a_Sw a) (m_nn (nv_up h3 5 1 k (min 9 (h3 5 1 k + 3))) 1) (m_put (a_N a) 5 k (min 9 (a_N a 5 k + 3))) := by
            rw [m_nn_put (by decide), e5]; exact m_put_eq he3
          have hok4 := he4.ok (a_shN_ok hNok hk)
          refine w_call (r_passHours hok4 (by omega) (by omega)) (fun r h5 hr => ?_)
          obtain ⟨rfl, he5, hf5⟩ := hr
          have he6 := he5.trans' (m_it_eq he4 hok4 m)
          have hok6 := he6.ok (m_it_ok (a_shN_ok hNok hk) m)
          have hf6 : m_fr 1 h2 h5 := hf.trans' ((ht.1.up (by decide)).trans' hf5)
          refine w_call (r_leftOfAll hok6) (fun r h6 hr => ?_)
          obtain ⟨rfl, rfl⟩ := hr
          have ev : m_sum (h6 3 1) (a_P a) = a_shv a m k := m_sum_eq (fun p hp => (he6.2.1 p hp).2.2)
          have hvr := a_shv_r hNok m k hk
          have j101 : ∀ X Y Z : Int, X = (m_sh (a_shv a m) (k + 1)).1 → Y = (m_sh (a_shv a m) (k + 1)).2 → nv_V M_X5_sharp 101 [(0, vr 18 0), (1, vi m), (2, vi w), (3, vi X), (4, vi Y), (5, vi j), (6, vi Z)] [] h6 (cQ h2 a (if w = 0 then (m_sh (a_shv a m) (a_Sw a)).1 else (m_sh (a_shv a m) (a_Sw a)).2)) := by
            intro X Y Z hX hY
            refine nv_go ok_X5_sharp [31] 40 ?_
            exact nv_V.take 6 (ih _ _ _ _ (by omega) hX hY hf6)
          have j94 : ∀ Z : Int, Z = a_shv a m k → (x = -4 ∨ Z < y) → nv_V M_X5_sharp 94 [(0, vr 18 0), (1, vi m), (2, vi w), (3, vi x), (4, vi y), (5, vi j), (6, vi Z)] [] h6 (cQ h2 a (if w = 0 then (m_sh (a_shv a m) (a_Sw a)).1 else (m_sh (a_shv a m) (a_Sw a)).2)) := by
            intro Z hZ hor
            have e : m_sh (a_shv a m) (k + 1) = ((k : Int), a_shv a m k) := by
              show (if _ then _ else _) = _
              rw [if_pos (by rw [← hx, ← hy, ← hZ]; exact hor)]
            refine nv_go ok_X5_sharp [101] 40 ?_
            exact j101 _ _ _ (by rw [e]; exact hj) (by rw [e]; exact hZ)
          refine w_ic (by omega) (by omega) (fun c4 => ?_) (fun c4 => ?_)
          · exact j94 _ ev (Or.inl c4)
          · have c4 : ¬ x = -4 := c4
            refine w_ic (by omega) (by omega) (fun c5 => ?_) (fun c5 => ?_)
            · have c5 : y ≤ m_sum (h6 3 1) (a_P a) := c5
              have e : m_sh (a_shv a m) (k + 1) = m_sh (a_shv a m) k := by
                show (if _ then _ else _) = _
                rw [if_neg (by rw [← hx, ← hy]; omega)]
              exact j101 _ _ _ (by rw [e]; exact hx) (by rw [e]; exact hy)
            · have c5 : ¬ y ≤ m_sum (h6 3 1) (a_P a) := c5
              exact j94 _ ev (Or.inr (by omega))
    · exact cQ.eq (by unfold a_sharp; rw [if_neg (by rw [c]; decide), if_pos c2]) (cQ.same C)
  · exact cQ.eq (by unfold a_sharp; rw [if_pos c]) (cQ.same C)
set_option maxHeartbeats 1000000 in
set_option maxRecDepth 100000 in
theorem r_sharp_g (C : MI h a) {n w : Int} (hn : nv_InR n) (hw : nv_InR w) : nv_R M_X6_sharp [vr 19 0, vi n, vi w] h (gQ h a (a_sharp a n w)) := by
  obtain ⟨hok, he, hNok⟩ := C.now
  obtain ⟨hP5, hS5, hP, hS, hH, hDr, hpl, hsw⟩ := hok.m
  refine nv_R.of rfl rfl (Nat.le_of_ble_eq_true rfl) ?_
  refine nv_go ok_X6_sharp [31] 60 ?_
  refine w_call (r_inA hn (by omega) (by omega)) (fun r h' hr => ?_)
  obtain ⟨rfl, rfl⟩ := hr
  refine w_ifb (fun c => ?_) (fun c => ?_)
  · exact gQ.eq (by unfold a_sharp; rw [if_pos (bn_f c)]) (gQ.same C)
  · have c := bn_t c
    refine w_call (r_inA hw (by omega) (by omega)) (fun r h2 hr => ?_)
    obtain ⟨rfl, rfl⟩ := hr
    refine w_ifb (fun c2 => ?_) (fun c2 => ?_)
    · exact gQ.eq (by unfold a_sharp; rw [if_neg (by rw [c]; decide), if_pos (bn_f c2)]) (gQ.same C)
    · have c2 := bn_t c2
      have g1 := a_out_f c
      have g2 := a_out_f c2
      obtain ⟨m, rfl⟩ : ∃ m : Nat, n = m := ⟨n.toNat, by omega⟩
      have ea : a_sharp a m w = if w = 0 then (m_sh (a_shv a m) (a_Sw a)).1 else (m_sh (a_shv a m) (a_Sw a)).2 := by
        unfold a_sharp; rw [if_neg (by rw [c]; decide), if_neg (by rw [c2]; decide)]; rfl
      rw [ea]
      have loop := m_down (n := a_Sw a) (G := fun k => ∀ (j x y : Int) (h1 : nv_St), j = k → x = (m_sh (a_shv a m) k).1 → y = (m_sh (a_shv a m) k).2 → m_frM 25 h2 h1 → nv_V M_X6_sharp 31 [(0, vr 19 0), (1, vi m), (2, vi w), (3, vi x), (4, vi y), (5, vi j)] [] h1 (gQ h2 a (if w = 0 then (m_sh (a_shv a m) (a_Sw a)).1 else (m_sh (a_shv a m) (a_Sw a)).2))) ?_ ?_
      · exact loop 0 (by omega) _ _ _ _ rfl rfl rfl m_frM.rfl'
      · intro j x y h1 hj hx hy hf
        have hS1 : h1 24 0 28 = a_Sw a := by rw [hf 24 0 (by omega)]; exact hS
        refine nv_go ok_X6_sharp [31] 40 ?_
        refine w_ix 28 rfl (by omega) ?_
        refine w_ic (by omega) (by omega) (fun c3 => ?_) (fun c3 => ?_)
        · refine w_if hw (fun c4 => ?_) (fun c4 => ?_)
          · have c4 : w = 0 := c4
            rw [if_pos c4]
            exact gQ.eq hx (gQ.tried C hf)
          · have c4 : ¬ w = 0 := c4
            rw [if_neg c4]
            exact gQ.eq hy (gQ.tried C hf)
        · exact absurd (by show h1 24 0 28 ≤ j; omega) c3
      · intro k hk ih j x y h1 hj hx hy hf
        have hr := m_sh_r (v := a_shv a m) (c := 495) (by omega) (k := k) (fun i hi => a_shv_r hNok m i (by omega))
        have hS1 : h1 24 0 28 = a_Sw a := by rw [hf 24 0 (by omega)]; exact hS
        have he1 : m_eq (a_P a) (a_Sw a) (m_mm h1 24) (a_N a) := by rw [m_mm_ext (hf 24 0 (by omega))]; exact he
        refine nv_go ok_X6_sharp [31, 90] 60 ?_
        refine w_ix 28 rfl (by omega) ?_
        refine w_ic (by omega) (by omega) (fun c3 => ?_) (fun c3 => ?_)
        · exact absurd c3 (by show ¬ (h1 24 0 28 ≤ j); omega)
        · refine w_call r_begin (fun r h3 hr => ?_)
          obtain ⟨rfl, hb3, hf3⟩ := hr
          have he3 := (g_eq (P := a_P a) (S := a_Sw a) hP5 hS5 hb3).trans' he1
          have e5 : h3 25 0 (7 + k) = a_N a 5 k := (he3.2.2 k hk).2.1
          have hb5 := (hNok.2.2.2.2.2.2.2 k hk).2.1
          have j90 : ∀ X : Int, X = min 9 (a_N a 5 k + 3) → nv_V M_X6_sharp 90 [(0, vr 19 0), (1, vi m), (2, vi w), (3, vi x), (4, vi y), (5, vi j)] [vi X, vi (7 + j), vr 25 0] h3 (gQ h2 a (if w = 0 then (m_sh (a_shv a m) (a_Sw a)).1 else (m_sh (a_shv a m) (a_Sw a)).2)) := by
            intro X hX
            refine nv_go ok_X6_sharp [31, 114, 126] 60 ?_
            refine w_ix (7 + k) (by omega) (by omega) ?_
            have he4 : m_eq (a_P a) (a_Sw a) (m_mm (nv_up h3 25 0 (7 + k) X) 25) (m_put (a_N a) 5 k (min 9 (a_N a 5 k + 3))) := by
              rw [hX]
              exact ((m_mm_put (h := h3) (c := 25) (t := 5) (j := k) (by omega)).le hP5 hS5).trans' (m_put_eq he3)
            have hok4 := he4.ok (a_shN_ok hNok hk)
            refine w_call (r_goOn hok4 (by omega) (by omega)) (fun r h5 hr => ?_)
            obtain ⟨rfl, he5, hf5⟩ := hr
            have he6 := he5.trans' (m_it_eq he4 hok4 m)
            have hok6 := (he6.ok (m_it_ok (a_shN_ok hNok hk) m)).m
            have hf6 : m_frM 25 h2 h5 := hf.trans' ((m_frM.beg hf3).up.trans' hf5)
            have ev : m_sum (fun p => h5 25 0 (2 + p)) (a_P a) = a_shv a m k := m_sum_eq (fun p hp => (he6.2.1 p hp).2.2)
            have hvr := a_shv_r hNok m k hk
            have j126 : ∀ X Y : Int, X = (m_sh (a_shv a m) (k + 1)).1 → Y = (m_sh (a_shv a m) (k + 1)).2 → nv_V M_X6_sharp 126 [(0, vr 19 0), (1, vi m), (2, vi w), (3, vi X), (4, vi Y), (5, vi j)] [] h5 (gQ h2 a (if w = 0 then (m_sh (a_shv a m) (a_Sw a)).1 else (m_sh (a_shv a m) (a_Sw a)).2)) := by
              intro X Y hX hY
              refine nv_go ok_X6_sharp [31] 40 ?_
              exact ih _ _ _ _ (by omega) hX hY hf6
            have j114 : (x = -4 ∨ a_shv a m k < y) → nv_V M_X6_sharp 114 [(0, vr 19 0), (1, vi m), (2, vi w), (3, vi x), (4, vi y), (5, vi j)] [] h5 (gQ h2 a (if w = 0 then (m_sh (a_shv a m) (a_Sw a)).1 else (m_sh (a_shv a m) (a_Sw a)).2)) := by
              intro hor
              have e : m_sh (a_shv a m) (k + 1) = ((k : Int), a_shv a m k) := by
                show (if _ then _ else _) = _
                rw [if_pos (by rw [← hx, ← hy]; exact hor)]
              refine nv_go ok_X6_sharp [126] 40 ?_
              refine w_call (r_leftOf_25 hP5 hok6.2.2.1) (fun r h6 hr => ?_)
              obtain ⟨rfl, rfl⟩ := hr
              exact j126 _ _ (by rw [e]; exact hj) (by rw [e]; exact ev)
            refine w_ic (by omega) (by omega) (fun c4 => ?_) (fun c4 => ?_)
            · exact j114 (Or.inl c4)
            · have c4 : ¬ x = -4 := c4
              refine w_call (r_leftOf_25 hP5 hok6.2.2.1) (fun r h6 hr => ?_)
              obtain ⟨rfl, rfl⟩ := hr
              refine w_ic (by omega) (by omega) (fun c5 => ?_) (fun c5 => ?_)
              · have c5 : y ≤ m_sum (fun p => h6 25 0 (2 + p)) (a_P a) := c5
                have e : m_sh (a_shv a m) (k + 1) = m_sh (a_shv a m) k := by
                  show (if _ then _ else _) = _
                  rw [if_neg (by rw [← hx, ← hy]; omega)]
                exact j126 _ _ (by rw [e]; exact hx) (by rw [e]; exact hy)
              · have c5 : ¬ y ≤ m_sum (fun p => h6 25 0 (2 + p)) (a_P a) := c5
                exact j114 (Or.inr (by omega))
          refine w_ix (7 + k) (by omega) (by omega) ?_
          refine w_ic (by omega) (by omega) (fun c4 => ?_) (fun c4 => ?_)
          · have c4 : h3 25 0 (7 + k) + 3 ≤ 9 := c4
            refine w_ix (7 + k) (by omega) (by omega) ?_
            exact j90 _ (by omega)
          · have c4 : ¬ h3 25 0 (7 + k) + 3 ≤ 9 := c4
            exact j90 _ (by omega)
set_option maxRecDepth 100000 in
theorem r_thickest_c (C : CI h a) {v n : Int} (hv : nv_InR v) (hn : nv_InR n) : nv_R M_X5_thickest [vr 18 0, vi v, vi n] h (cQ h a (a_thick a v n)) := by
  obtain ⟨hok, he, hNok⟩ := C.now
  obtain ⟨hP5, hS5, hP, hS, hH, hDr, hpl, hsw⟩ := hok.h
  refine nv_R.of rfl rfl (Nat.le_of_ble_eq_true rfl) ?_
  refine nv_go ok_X5_thickest [23] 60 ?_
  refine w_call (r_noPlank hP5 hP hv) (fun r h' hr => ?_)
  obtain ⟨rfl, rfl⟩ := hr
  refine w_ifb (fun c => ?_) (fun c => ?_)
  · refine w_call (r_outA hn (by omega) (by omega)) (fun r h2 hr => ?_)
    obtain ⟨rfl, rfl⟩ := hr
    refine w_ifb (fun c2 => ?_) (fun c2 => ?_)
    · have g2 := a_out_f c2
      obtain ⟨p, rfl, hp⟩ := a_bp_f c
      obtain ⟨m, rfl⟩ : ∃ m : Nat, n = m := ⟨n.toNat, by omega⟩
      have ea : a_thick a p m = m_thk (a_thf a m p) 99 := by unfold a_thick; rw [if_neg (by rw [c]; decide), if_neg (by rw [c2]; decide)]; rfl
      rw [ea]
      have loop := m_down (n := 99) (G := fun k => ∀ (j : Int) (h1 : nv_St), j = 99 - k → m_thk (a_thf a m p) 99 = m_thk (a_thf a m p) (99 - k) → m_fr 1 h2 h1 → nv_V M_X5_thickest 23 [(0, vr 18 0), (1, vi p), (2, vi m), (3, vi j)] [] h1 (cQ h2 a (m_thk (a_thf a m p) 99))) ?_ ?_
      · exact loop 0 (by omega) _ _ rfl rfl m_fr.rfl'
      · intro j h1 hj ht hf
        refine nv_go ok_X5_thickest [23] 40 ?_
        refine w_if (by omega) (fun c3 => ?_) (fun c3 => ?_)
        · rw [ht]
          exact cQ.trial C hf
        · exact absurd (by show j ≤ 0; omega) c3
      · intro k hk ih j h1 hj ht hf
        have he1 : m_eq (a_P a) (a_Sw a) (m_nn h1 0) (a_N a) := by rw [m_nn_ext (fun t _ => hf t 0 (by omega))]; exact he
        refine nv_go ok_X5_thickest [23] 40 ?_
        refine w_if (by omega) (fun c3 => ?_) (fun c3 => ?_)
        · exact absurd c3 (by show ¬ (j ≤ 0); omega)
        · refine w_call (r_takeAll (o := 1) (b := 0) (by decide)) (fun r h3 hr => ?_)
          obtain ⟨rfl, hta⟩ := hr
          have he3 := (hta.eq (P := a_P a) (S := a_Sw a) hP5 hS5).trans' he1
          refine w_ix p rfl (by omega) ?_
          have he4 : m_eq (a_P a) (a_Sw a) (m_nn (nv_up h3 3 1 p j) 1) (m_put (a_N a) 3 p j) := by
            rw [m_nn_put (by decide)]; exact m_put_eq he3
          have hokp := m_put_ok3 (p := p) (x := j) hNok (by omega)
          have hok4 := he4.ok hokp
          refine w_call (r_passHours hok4 (by omega) (by omega)) (fun r h5 hr => ?_)
          obtain ⟨rfl, he5, hf5⟩ := hr
          have he6 := he5.trans' (m_it_eq he4 hok4 m)
          have hok6 := (he6.ok (m_it_ok hokp m)).h
          have hf6 : m_fr 1 h2 h5 := hf.trans' ((hta.1.up (by decide)).trans' hf5)
          have e3 : h5 3 1 p = m_it m (m_put (a_N a) 3 p j) 3 p := (he6.2.1 p hp).2.2
          have h39 := (hok6.2.2.2.2.2.2.1 p hp).2.2
          have hkk : 99 - k = (99 - (k + 1)) + 1 := by omega
          have hjn : j = ((99 - (k + 1) + 1 : Nat) : Int) := by omega
          have ef : a_thf a m p (99 - (k + 1) + 1) = decide (h5 3 1 p = 0) := by unfold a_thf; rw [← hjn, ← e3]
          refine w_ix p rfl (by omega) ?_
          refine w_if (by omega) (fun c4 => ?_) (fun c4 => ?_)
          · have c4 : h5 3 1 p = 0 := c4
            refine cQ.eq ?_ (cQ.trial C hf6)
            rw [ht, hkk]
            show j = if a_thf a m p (99 - (k + 1) + 1) = true then _ else _
            rw [if_pos (by rw [ef]; exact decide_eq_true c4)]
            exact hjn
          · have c4 : ¬ h5 3 1 p = 0 := c4
            refine ih _ _ (by omega) ?_ hf6
            rw [ht, hkk]
            show (if a_thf a m p (99 - (k + 1) + 1) = true then _ else _) = _
            rw [if_neg (by rw [ef, decide_eq_false c4]; decide)]
    · exact cQ.eq (by unfold a_thick; rw [if_neg (by rw [c]; decide), if_pos c2]) (cQ.same C)
  · exact cQ.eq (by unfold a_thick; rw [if_pos c]) (cQ.same C)
set_option maxRecDepth 100000 in
theorem r_thickest_g (C : MI h a) {v n : Int} (hv : nv_InR v) (hn : nv_InR n) : nv_R M_X6_thickest [vr 19 0, vi v, vi n] h (gQ h a (a_thick a v n)) := by
  obtain ⟨hok, he, hNok⟩ := C.now
  obtain ⟨hP5, hS5, hP, hS, hH, hDr, hpl, hsw⟩ := hok.m
  refine nv_R.of rfl rfl (Nat.le_of_ble_eq_true rfl) ?_
  refine nv_go ok_X6_thickest [26] 60 ?_
  refine w_call (r_isPlankA hP5 hP hv) (fun r h' hr => ?_)
  obtain ⟨rfl, rfl⟩ := hr
  refine w_ifb (fun c => ?_) (fun c => ?_)
  · exact gQ.eq (by unfold a_thick; rw [if_pos (bn_f c)]) (gQ.same C)
  · have c := bn_t c
    refine w_call (r_inA hn (by omega) (by omega)) (fun r h2 hr => ?_)
    obtain ⟨rfl, rfl⟩ := hr
    refine w_ifb (fun c2 => ?_) (fun c2 => ?_)
    · exact gQ.eq (by unfold a_thick; rw [if_neg (by rw [c]; decide), if_pos (bn_f c2)]) (gQ.same C)
    · have c2 := bn_t c2
      have g2 := a_out_f c2
      obtain ⟨p, rfl, hp⟩ := a_bp_f c
      obtain ⟨m, rfl⟩ : ∃ m : Nat, n = m := ⟨n.toNat, by omega⟩
      have ea : a_thick a p m = m_thk (a_thf a m p) 99 := by unfold a_thick; rw [if_neg (by rw [c]; decide), if_neg (by rw [c2]; decide)]; rfl
      rw [ea]
      have body : ∀ (j : Int) (vv : Nat) (h1 : nv_St), j = vv → vv < 100 → m_frM 25 h2 h1 → (∀ h5, m_frM 25 h2 h5 → nv_V M_X6_thickest 26 [(0, vr 19 0), (1, vi p), (2, vi m), (3, vi (j - 1)), (4, vi (nv_b (a_thf a m p vv)))] [] h5 (gQ h2 a (m_thk (a_thf a m p) 99))) → nv_V M_X6_thickest 26 [(0, vr 19 0), (1, vi p), (2, vi m), (3, vi j), (4, vi 0)] [] h1 (gQ h2 a (m_thk (a_thf a m p) 99)) := by
        intro j vv h1 hj hvv hf hnx
        have he1 : m_eq (a_P a) (a_Sw a) (m_mm h1 24) (a_N a) := by rw [m_mm_ext (hf 24 0 (by omega))]; exact he
        refine nv_go ok_X6_thickest [26, 65] 60 ?_
        refine w_if (by omega) (fun c3 => ?_) (fun c3 => ?_)
        · refine w_call r_begin (fun r h3 hr => ?_)
          obtain ⟨rfl, hb3, hf3⟩ := hr
          have he3 := (g_eq (P := a_P a) (S := a_Sw a) hP5 hS5 hb3).trans' he1
          refine w_ix (2 + p) (by omega) (by omega) ?_
          have he4 : m_eq (a_P a) (a_Sw a) (m_mm (nv_up h3 25 0 (2 + p) j) 25) (m_put (a_N a) 3 p j) :=
            ((m_mm_put (h := h3) (c := 25) (t := 3) (j := p) (by omega)).le hP5 hS5).trans' (m_put_eq he3)
          have hokp := m_put_ok3 (p := p) (x := j) hNok (by omega)
          have hok4 := he4.ok hokp
          refine w_call (r_goOn hok4 (by omega) (by omega)) (fun r h5 hr => ?_)
          obtain ⟨rfl, he5, hf5⟩ := hr
          have he6 := he5.trans' (m_it_eq he4 hok4 m)
          have hok6 := (he6.ok (m_it_ok hokp m)).m
          have hf6 : m_frM 25 h2 h5 := hf.trans' ((m_frM.beg hf3).up.trans' hf5)
          have e3 : h5 25 0 (2 + p) = m_it m (m_put (a_N a) 3 p j) 3 p := (he6.2.1 p hp).2.2
          have h39 := (hok6.2.2.2.2.2.2.1 p hp).2.2
          have ef : a_thf a m p vv = decide (h5 25 0 (2 + p) = 0) := by unfold a_thf; rw [← hj, ← e3]
          have j65 : ∀ z : Int, z = nv_b (a_thf a m p vv) → nv_V M_X6_thickest 65 [(0, vr 19 0), (1, vi p), (2, vi m), (3, vi j), (4, vi 0)] [vi z] h5 (gQ h2 a (m_thk (a_thf a m p) 99)) := by
            intro z hz
            refine nv_go ok_X6_thickest [26] 60 ?_
            rw [hz]
            exact hnx h5 hf6
          refine w_ix (2 + p) (by omega) (by omega) ?_
          refine w_if (by omega) (fun c4 => ?_) (fun c4 => ?_)
          · have c4 : h5 25 0 (2 + p) = 0 := c4
            exact j65 _ (by rw [ef, decide_eq_true c4]; rfl)
          · have c4 : ¬ h5 25 0 (2 + p) = 0 := c4
            exact j65 _ (by rw [ef, decide_eq_false c4]; rfl)
        · exact absurd rfl c3
      have fin : ∀ (j : Int) (h5 : nv_St), j = m_thk (a_thf a m p) 99 - 1 → m_frM 25 h2 h5 → nv_V M_X6_thickest 26 [(0, vr 19 0), (1, vi p), (2, vi m), (3, vi j), (4, vi 1)] [] h5 (gQ h2 a (m_thk (a_thf a m p) 99)) := by
        intro j h5 hj hf
        refine nv_go ok_X6_thickest [] 60 ?_
        refine w_if (by omega) (fun c3 => absurd c3 (by decide)) (fun c3 => ?_)
        exact gQ.eq (by omega) (gQ.tried C hf)
      have loop := m_down (n := 99) (G := fun k => ∀ (j : Int) (h1 : nv_St), j = 99 - k → m_thk (a_thf a m p) 99 = m_thk (a_thf a m p) (99 - k) → m_frM 25 h2 h1 → nv_V M_X6_thickest 26 [(0, vr 19 0), (1, vi p), (2, vi m), (3, vi j), (4, vi 0)] [] h1 (gQ h2 a (m_thk (a_thf a m p) 99))) ?_ ?_
      · exact loop 0 (by omega) _ _ rfl rfl m_frM.rfl'
      · intro j h1 hj ht hf
        refine body j 0 h1 (by omega) (by omega) hf (fun h5 hf5 => ?_)
        have e0 : a_thf a m p 0 = true := decide_eq_true (m_it_0 (m_put_ok3 hNok (by omega)) hp (by unfold m_put; simp) m)
        rw [e0]
        exact fin _ h5 (by rw [ht]; show j - 1 = (0 : Int) - 1; omega) hf5
      · intro k hk ih j h1 hj ht hf
        have hkk : 99 - k = (99 - (k + 1)) + 1 := by omega
        refine body j (99 - (k + 1) + 1) h1 (by omega) (by omega) hf (fun h5 hf5 => ?_)
        rw [hkk] at ht
        have ht : m_thk (a_thf a m p) 99 = if a_thf a m p (99 - (k + 1) + 1) = true then ((99 - (k + 1) + 1 : Nat) : Int) else m_thk (a_thf a m p) (99 - (k + 1)) := ht
        cases hb : a_thf a m p (99 - (k + 1) + 1) with
        | true =>
          rw [hb, if_pos rfl] at ht
          exact fin _ h5 (by rw [ht]; omega) hf5
        | false =>
          rw [hb, if_neg (by decide)] at ht
          exact ih _ _ (by omega) ht hf5
end nvSh
