/-! ===== dust ===== -/
def m_sw (f : Nat → Bool) : Nat → Bool
  | 0 => true
  | n + 1 => m_sw f n && f n
theorem m_sw_f {f : Nat → Bool} {k : Nat} (h : f k = false) : ∀ {n : Nat}, k < n → m_sw f n = false
  | 0, hk => absurd hk (by omega)
  | n + 1, hk => by
    unfold m_sw
    by_cases e : k = n
    · rw [← e, h, Bool.and_false]
    · rw [m_sw_f h (by omega : k < n), Bool.false_and]
theorem m_sw_f2 {f : Nat → Bool} {k : Nat} (h : m_sw f k = false) : ∀ {n : Nat}, k ≤ n → m_sw f n = false
  | 0, hk => by rw [show k = 0 by omega] at h; exact h
  | n + 1, hk => by
    by_cases e : k = n + 1
    · rw [← e]; exact h
    · unfold m_sw
      rw [m_sw_f2 h (by omega : k ≤ n), Bool.false_and]
def a_df (M : m_NN) (p : Nat) (it : Nat → Int) (i k : Nat) : Bool := decide (it (i + k) = m_it (k + 1) M 3 p)
def a_dM (a : a_S) (w t g : Nat) : m_NN := m_put (a_N a) (4 + t) w g
def a_dG (a : a_S) (t : Int) : Nat := if t = 0 then 5 else if t = 1 then 10 else a_P a
def a_duB (a : a_S) (v w s l n t : Int) : Bool := a_bp (a_P a) v || (a_bp (a_Sw a) w || (a_out s 0 3 || (a_out l 0 3 || (a_out n 1 8 || a_out t 0 2))))
def a_du (a : a_S) (v w s l i n t : Int) : Int := if a_duB a v w s l n t = true then -1 else if ¬ a_ref a s.toNat l i n = 0 then a_ref a s.toNat l i n else m_set (fun g => m_sw (a_df (a_dM a w.toNat t.toNat g) v.toNat (a_si a s.toNat) i.toNat) n.toNat = true) (a_dG a t)
theorem a_dM_ok {a : a_S} (hN : m_ok (a_N a) (a_P a) (a_Sw a) 9999) {w t g : Nat} (ht : t ≤ 2) (hg : g < a_dG a t) : m_ok (a_dM a w t g) (a_P a) (a_Sw a) 9999 := by
  unfold a_dG at hg
  have : t = 0 ∨ t = 1 ∨ t = 2 := by omega
  rcases this with rfl | rfl | rfl
  · rw [if_pos (by decide)] at hg
    exact m_put_ok4 hN (by omega)
  · rw [if_neg (by decide), if_pos (by decide)] at hg
    exact m_put_ok5 hN (by omega)
  · rw [if_neg (by decide), if_neg (by decide)] at hg
    exact m_put_ok6 hN (Or.inr (by omega))
section nvD
variable {h : nv_St} {a : a_S}
set_option maxRecDepth 100000 in
theorem r_trialShows {P S p q i n : Nat} {M : m_NN} {it : Nat → Int} (hM : m_ok M P S 9999) (he : m_eq P S (m_nn h 1) M) (hp : p < P) (hin : i + n ≤ 24) (hit : ∀ k, k < 24 → h 17 q k = it k ∧ nv_InL (it k)) :
    nv_R M_X5_trialShows [vr 18 0, vi p, vr 16 q, vi i, vi n] h (fun r h' => m_fr 1 h h' ∧ r = some (vi (nv_b (m_sw (a_df M p it i) n)))) := by
  have hP5 := hM.1
  refine nv_R.of rfl rfl (Nat.le_of_ble_eq_true rfl) ?_
  have loop := m_down (n := n) (G := fun k => ∀ (j : Int) (h1 : nv_St), j = k → m_eq P S (m_nn h1 1) (m_it k M) → m_fr 1 h h1 → m_sw (a_df M p it i) k = true → nv_V M_X5_trialShows 3 [(0, vr 18 0), (1, vi p), (2, vr 16 q), (3, vi i), (4, vi n), (5, vi j)] [] h1 (fun r h' => m_fr 1 h h' ∧ r = some (vi (nv_b (m_sw (a_df M p it i) n))))) ?_ ?_
  · refine nv_go ok_X5_trialShows [3] 20 ?_
    exact loop 0 (by omega) _ _ rfl he m_fr.rfl' rfl
  · intro j h1 hj he1 hf hb
    refine nv_go ok_X5_trialShows [3] 30 ?_
    refine w_ic (by omega) (by omega) (fun c => ?_) (fun c => ?_)
    · exact And.intro (Or.inr rfl) ⟨hf, by rw [hb]; rfl⟩
    · exact absurd (by show (n : Int) ≤ j; omega) c
  · intro k hk ih j h1 hj he1 hf hb
    have hok1 := he1.ok (m_it_ok hM k)
    refine nv_go ok_X5_trialShows [3] 30 ?_
    refine w_ic (by omega) (by omega) (fun c => ?_) (fun c => ?_)
    · exact absurd c (by show ¬ (n : Int) ≤ j; omega)
    · refine w_call (r_passHour hok1 (by omega)) (fun r h2 hr => ?_)
      obtain ⟨rfl, he2, hf2⟩ := hr
      have he3 : m_eq P S (m_nn h2 1) (m_it (k + 1) M) := he2.trans' (m_hour_eq he1 hok1)
      have e3 : h2 3 1 p = m_it (k + 1) M 3 p := (he3.2.1 p hp).2.2
      have h39 := ((m_it_ok hM (k + 1)).2.2.2.2.2.2.1 p hp).2.2
      have hf3 : m_fr 1 h h2 := hf.trans' hf2
      have e17 : h2 17 q (i + k) = it (i + k) := by rw [hf3 17 q (by omega)]; exact (hit _ (by omega)).1
      have hI := (hit (i + k) (by omega)).2
      refine w_ix (i + k) (by omega) (by omega) ?_
      refine w_ix p rfl (by omega) ?_
      refine w_i2r (by omega) ?_
      refine And.intro (by rw [e17]; exact hI) (And.intro ⟨by omega, by omega⟩ ?_)
      refine w_if (by split <;> (try split) <;> omega) (fun c2 => ?_) (fun c2 => ?_)
      · have c2 : (if h2 3 1 p < h2 17 q (i + k) then (1 : Int) else if h2 17 q (i + k) = h2 3 1 p then 0 else -1) = 0 := c2
        have eq : h2 17 q (i + k) = h2 3 1 p := by
          split at c2
          · omega
          · split at c2 <;> omega
        refine ih _ _ (by omega) he3 hf3 ?_
        show (m_sw (a_df M p it i) k && a_df M p it i k) = true
        rw [hb, Bool.true_and]
        exact decide_eq_true (by rw [← e17, ← e3]; exact eq)
      · have c2 : ¬ (if h2 3 1 p < h2 17 q (i + k) then (1 : Int) else if h2 17 q (i + k) = h2 3 1 p then 0 else -1) = 0 := c2
        have ne : ¬ h2 17 q (i + k) = h2 3 1 p := fun z => c2 (by rw [if_neg (by omega), if_pos z])
        refine And.intro (Or.inl rfl) ⟨hf3, ?_⟩
        rw [m_sw_f (k := k) (decide_eq_false (by rw [← e17, ← e3]; exact ne)) hk]
        rfl
set_option maxRecDepth 100000 in
theorem r_isDust {P S p q i n : Nat} {M : m_NN} {it : Nat → Int} (hM : m_ok M P S 9999) (he : m_eq P S (m_mm h 25) M) (hp : p < P) (hq : q < 4) (hin : i + n ≤ 24) (hit : ∀ k, k < 24 → h 22 0 (24 * q + k) = it k ∧ nv_InL (it k)) :
    nv_R M_X6_isDust [vr 19 0, vi p, vi q, vi i, vi n] h (fun r h' => m_frM 25 h h' ∧ r = some (vi (nv_b (m_sw (a_df M p it i) n)))) := by
  have hP5 := hM.1
  refine nv_R.of rfl rfl (Nat.le_of_ble_eq_true rfl) ?_
  have loop := m_down (n := n) (G := fun k => ∀ (j z : Int) (h1 : nv_St), j = k → z = nv_b (m_sw (a_df M p it i) k) → m_eq P S (m_mm h1 25) (m_it k M) → m_frM 25 h h1 → nv_V M_X6_isDust 6 [(0, vr 19 0), (1, vi p), (2, vi q), (3, vi i), (4, vi n), (5, vi z), (6, vi j)] [] h1 (fun r h' => m_frM 25 h h' ∧ r = some (vi (nv_b (m_sw (a_df M p it i) n))))) ?_ ?_
  · refine nv_go ok_X6_isDust [6] 20 ?_
    exact loop 0 (by omega) _ _ _ rfl rfl he m_frM.rfl'
  · intro j z h1 hj hz he1 hf
    have hz01 := nv_b01 (m_sw (a_df M p it i) n)
    refine nv_go ok_X6_isDust [6] 30 ?_
    refine w_ic (by omega) (by omega) (fun c => ?_) (fun c => ?_)
    · exact And.intro (by omega) ⟨hf, by rw [hz]⟩
    · exact absurd (by show (n : Int) ≤ j; omega) c
  · intro k hk ih j z h1 hj hz he1 hf
    have hok1 := he1.ok (m_it_ok hM k)
    rw [hz]
    refine nv_go ok_X6_isDust [6, 59] 40 ?_
    refine w_ic (by omega) (by omega) (fun c => ?_) (fun c => ?_)
    · exact absurd c (by show ¬ (n : Int) ≤ j; omega)
    · refine w_ifb (fun c1 => ?_) (fun c1 => ?_)
      · refine And.intro (nv_b01 _) ⟨hf, ?_⟩
        rw [c1, m_sw_f2 c1 (by omega)]
      · refine w_call (r_hourIn_25 hok1 (by omega) (hop := 0) (by decide) (by decide)) (fun r h2 hr => ?_)
        obtain ⟨rfl, he2, -, hf2⟩ := hr
        rw [m_hc_0, m_hourC_cut] at he2
        have he3 : m_eq P S (m_mm h2 25) (m_it (k + 1) M) := he2.trans' (m_hour_eq he1 hok1)
        have e3 : h2 25 0 (2 + p) = m_it (k + 1) M 3 p := (he3.2.1 p hp).2.2
        have h39 := ((m_it_ok hM (k + 1)).2.2.2.2.2.2.1 p hp).2.2
        have hf3 : m_frM 25 h h2 := hf.trans' hf2
        have e22 : h2 22 0 (24 * q + i + k) = it (i + k) := by rw [hf3 22 0 (by omega), Nat.add_assoc]; exact (hit _ (by omega)).1
        have hI := (hit (i + k) (by omega)).2
        have j59 : ∀ y : Int, y = nv_b (m_sw (a_df M p it i) (k + 1)) → nv_V M_X6_isDust 59 [(0, vr 19 0), (1, vi p), (2, vi q), (3, vi i), (4, vi n), (5, vi (nv_b (m_sw (a_df M p it i) k))), (6, vi j)] [vi y] h2 (fun r h' => m_frM 25 h h' ∧ r = some (vi (nv_b (m_sw (a_df M p it i) n)))) := by
          intro y hy
          refine nv_go ok_X6_isDust [6] 20 ?_
          exact ih _ _ _ (by omega) hy he3 hf3
        refine w_ix (2 + p) (by omega) (by omega) ?_
        refine w_i2r (by omega) ?_
        refine w_ix (24 * q + i + k) (by omega) (by omega) ?_
        refine And.intro ⟨by omega, by omega⟩ (And.intro (by rw [e22]; exact hI) ?_)
        refine w_if (by split <;> (try split) <;> omega) (fun c2 => ?_) (fun c2 => ?_)
        · have c2 : (if h2 22 0 (24 * q + i + k) < h2 25 0 (2 + p) then (1 : Int) else if h2 25 0 (2 + p) = h2 22 0 (24 * q + i + k) then 0 else -1) = 0 := c2
          have eq : h2 22 0 (24 * q + i + k) = h2 25 0 (2 + p) := by
            split at c2
            · omega
            · split at c2 <;> omega
          refine j59 _ ?_
          show 1 = nv_b (m_sw (a_df M p it i) k && a_df M p it i k)
          rw [c1, Bool.true_and]
          unfold a_df
          rw [decide_eq_true (by rw [← e22, ← e3]; exact eq)]
          rfl
        · have c2 : ¬ (if h2 22 0 (24 * q + i + k) < h2 25 0 (2 + p) then (1 : Int) else if h2 25 0 (2 + p) = h2 22 0 (24 * q + i + k) then 0 else -1) = 0 := c2
          have ne : ¬ h2 22 0 (24 * q + i + k) = h2 25 0 (2 + p) := fun z => c2 (by rw [if_neg (by omega), if_pos z.symm])
          refine j59 _ ?_
          show 0 = nv_b (m_sw (a_df M p it i) k && a_df M p it i k)
          unfold a_df
          rw [decide_eq_false (by rw [← e22, ← e3]; exact ne), Bool.and_false]
          rfl
set_option maxHeartbeats 1000000 in
set_option maxRecDepth 100000 in
theorem r_dust_c (C : CI h a) {v w s l i n t : Int} (hv : nv_InR v) (hw : nv_InR w) (hs : nv_InR s) (hl : nv_InR l) (hi : nv_InR i) (hn : nv_InR n) (ht : nv_InR t) : nv_R M_X5_dust [vr 18 0, vi v, vi w, vi s, vi l, vi i, vi n, vi t] h (cQ h a (a_du a v w s l i n t)) := by
  obtain ⟨hok, he, hNok⟩ := C.now
  obtain ⟨hP5, hS5, hP, hS, hH, hDr, hpl, hsw⟩ := hok.h
  have bad : a_duB a v w s l n t = true → cQ h a (a_du a v w s l i n t) (some (vi (-1))) h := fun hb => by
    unfold a_du; rw [if_pos hb]; exact cQ.same C
  refine nv_R.of rfl rfl (Nat.le_of_ble_eq_true rfl) ?_
  refine nv_go ok_X5_dust [106] 80 ?_
  refine w_call (r_noPlank hP5 hP hv) (fun r h' hr => ?_)
  obtain ⟨rfl, rfl⟩ := hr
  refine w_ifb (fun c1 => ?_) (fun c1 => ?_)
  · refine w_call (r_noSawyer hS5 hS hw) (fun r h2 hr => ?_)
    obtain ⟨rfl, rfl⟩ := hr
    refine w_ifb (fun c2 => ?_) (fun c2 => ?_)
    · refine w_call (r_noSheet hs) (fun r h3 hr => ?_)
      obtain ⟨rfl, rfl⟩ := hr
      refine w_ifb (fun c3 => ?_) (fun c3 => ?_)
      · refine w_call (r_noLane hl) (fun r h4 hr => ?_)
        obtain ⟨rfl, rfl⟩ := hr
        refine w_ifb (fun c4 => ?_) (fun c4 => ?_)
        · refine w_call (r_outA hn (by omega) (by omega)) (fun r h5 hr => ?_)
          obtain ⟨rfl, rfl⟩ := hr
          refine w_ifb (fun c5 => ?_) (fun c5 => ?_)
          · refine w_call (r_outA ht (by omega) (by omega)) (fun r h6 hr => ?_)
            obtain ⟨rfl, rfl⟩ := hr
            refine w_ifb (fun c6 => ?_) (fun c6 => ?_)
            · have nb : ¬ a_duB a v w s l n t = true := by unfold a_duB; rw [c1, c2, c3, c4, c5, c6]; decide
              obtain ⟨p, rfl, hp⟩ := a_bp_f c1
              obtain ⟨u, rfl, hu⟩ := a_bp_f c2
              have g3 := a_out_f c3
              have g5 := a_out_f c5
              have g6 := a_out_f c6
              obtain ⟨q, rfl⟩ : ∃ q : Nat, s = q := ⟨s.toNat, by omega⟩
              obtain ⟨m, rfl⟩ : ∃ m : Nat, n = m := ⟨n.toNat, by omega⟩
              obtain ⟨t, rfl⟩ : ∃ t' : Nat, t = t' := ⟨t.toNat, by omega⟩
              have hq : q < 4 := by omega
              obtain ⟨e1, e2, r1, r2, r3⟩ := C.sh hq
              have hrr := a_ref_r a q l i m
              refine w_ix q rfl (by omega) ?_
              refine w_call (r_refusal C hq hl hi (by omega)) (fun r h7 hr => ?_)
              obtain ⟨rfl, rfl⟩ := hr
              refine w_if (by omega) (fun c7 => ?_) (fun c7 => ?_)
              · have c7 : a_ref a q l i m = 0 := c7
                obtain ⟨z1, z2, z3⟩ := a_ref_0 c7
                have z4 := a_lk_f z3
                obtain ⟨i, rfl⟩ : ∃ i' : Nat, i = i' := ⟨i.toNat, by omega⟩
                have ea : a_du a p u q l i m t = m_set (fun g => m_sw (a_df (a_dM a u t g) p (a_si a q) i) m = true) (a_dG a t) := by
                  unfold a_du
                  rw [if_neg nb, if_neg (fun x => x (show a_ref a (q : Int).toNat l i m = 0 from c7))]
                  rfl
                rw [ea]
                have hG10 : a_dG a t ≤ 10 := by unfold a_dG; split <;> (try split) <;> omega
                generalize hQ : cQ h7 a (m_set (fun g => m_sw (a_df (a_dM a u t g) p (a_si a q) i) m = true) (a_dG a t)) = Q
                have loop := m_down (n := a_dG a t) (G := fun k => ∀ (z j y : Int) (h1 : nv_St), j = k → z = m_set (fun g => m_sw (a_df (a_dM a u t g) p (a_si a q) i) m = true) k → m_fr 1 h7 h1 → nv_V M_X5_dust 114 [(0, vr 18 0), (1, vi p), (2, vi u), (3, vi q), (4, vi l), (5, vi i), (6, vi m), (7, vi t), (8, vi y), (9, vi (a_dG a t : Nat)), (10, vi z), (11, vi j)] [] h1 Q) ?_ ?_
                · have j106 : ∀ (y z : Int), y = (a_dG a t : Nat) → nv_V M_X5_dust 106 [(0, vr 18 0), (1, vi p), (2, vi u), (3, vi q), (4, vi l), (5, vi i), (6, vi m), (7, vi t), (8, vi z)] [vi y] h7 Q := by
                    intro y z hy
                    refine nv_go ok_X5_dust [114] 40 ?_
                    rw [hy]
                    exact loop 0 (by omega) _ _ _ _ rfl rfl m_fr.rfl'
                  refine w_if (by omega) (fun c8 => ?_) (fun c8 => ?_)
                  · have c8 : (t : Int) = 0 := c8
                    exact j106 _ _ (by unfold a_dG; rw [if_pos c8]; rfl)
                  · have c8 : ¬ (t : Int) = 0 := c8
                    refine w_ic (by omega) (by omega) (fun c9 => ?_) (fun c9 => ?_)
                    · have c9 : (t : Int) = 1 := c9
                      exact j106 _ _ (by unfold a_dG; rw [if_neg c8, if_pos c9]; rfl)
                    · have c9 : ¬ (t : Int) = 1 := c9
                      exact j106 _ _ (by unfold a_dG; rw [if_neg c8, if_neg c9]; exact hP)
                · intro z j y h1 hj hz hf
                  refine nv_go ok_X5_dust [114] 40 ?_
                  refine w_ic (by omega) (by omega) (fun c8 => ?_) (fun c8 => ?_)
                  · rw [← hQ]
                    exact cQ.eq hz (cQ.trial C hf)
                  · exact absurd (by show ((a_dG a t : Nat) : Int) ≤ j; omega) c8
                · intro k hk ih z j y h1 hj hz hf
                  have he1 : m_eq (a_P a) (a_Sw a) (m_nn h1 0) (a_N a) := by rw [m_nn_ext (fun t _ => hf t 0 (by omega))]; exact he
                  have hzl := m_set_lt (fun g => m_sw (a_df (a_dM a u t g) p (a_si a q) i) m = true) k
                  refine nv_go ok_X5_dust [114, 171] 60 ?_
                  refine w_ic (by omega) (by omega) (fun c8 => ?_) (fun c8 => ?_)
                  · exact absurd c8 (by show ¬ ((a_dG a t : Nat) : Int) ≤ j; omega)
                  · refine w_call (r_takeAll (o := 1) (b := 0) (by decide)) (fun r h8 hr => ?_)
                    obtain ⟨rfl, hta⟩ := hr
                    have he8 := (hta.eq (P := a_P a) (S := a_Sw a) hP5 hS5).trans' he1
                    refine w_call (r_suppose (s := u) (w := (t : Int)) (by omega) (by omega)) (fun r h9 hr => ?_)
                    obtain ⟨rfl, rfl⟩ := hr
                    have he9 : m_eq (a_P a) (a_Sw a) (m_nn (nv_up h8 (4 + (t : Int).toNat) 1 u j) 1) (a_dM a u t k) := by
                      rw [m_nn_put (by show 4 + t < 7; omega)]
                      unfold a_dM
                      rw [hj]
                      exact m_put_eq he8
                    have hf9 : m_fr 1 h7 (nv_up h8 (4 + (t : Int).toNat) 1 u j) := hf.trans' (hta.1.up (by show 4 + t < 8; omega))
                    refine w_ix q rfl (by omega) ?_
                    refine w_call (r_trialShows (M := a_dM a u t k) (it := a_si a q) (a_dM_ok hNok (by omega) hk) he9 hp (by omega) (fun x hx => by rw [hf9 17 q (by omega)]; exact r3 x hx (by omega))) (fun r h10 hr => ?_)
                    obtain ⟨hf10, rfl⟩ := hr
                    have hf11 : m_fr 1 h7 h10 := hf9.trans' hf10
                    have j171 : ∀ x : Int, x = m_set (fun g => m_sw (a_df (a_dM a u t g) p (a_si a q) i) m = true) (k + 1) → nv_V M_X5_dust 171 [(0, vr 18 0), (1, vi p), (2, vi u), (3, vi q), (4, vi l), (5, vi i), (6, vi m), (7, vi t), (8, vi y), (9, vi (a_dG a t : Nat)), (10, vi x), (11, vi j)] [] h10 Q := by
                      intro x hx
                      refine nv_go ok_X5_dust [114] 40 ?_
                      exact ih _ _ _ _ (by omega) hx hf11
                    refine w_ifb (fun c9 => ?_) (fun c9 => ?_)
                    · refine j171 _ ?_
                      show z = m_set (fun g => m_sw (a_df (a_dM a u t g) p (a_si a q) i) m = true) k + (if m_sw (a_df (a_dM a u t k) p (a_si a q) i) m = true then 2 ^ k else 0)
                      rw [c9, if_neg (by decide)]
                      omega
                    · refine w_ix k hj (by omega) ?_
                      refine j171 _ ?_
                      show nv_or z (1 * 2 ^ k) = m_set (fun g => m_sw (a_df (a_dM a u t g) p (a_si a q) i) m = true) k + (if m_sw (a_df (a_dM a u t k) p (a_si a q) i) m = true then 2 ^ k else 0)
                      rw [c9, if_pos rfl, hz]
                      exact nv_or_bit hzl.1 hzl.2 (by omega)
              · have c7 : ¬ a_ref a q l i m = 0 := c7
                unfold a_du
                rw [if_neg nb, if_pos (show ¬ a_ref a (q : Int).toNat l i m = 0 from c7)]
                exact cQ.same C
            · exact bad (by unfold a_duB; rw [c6]; simp)
          · exact bad (by unfold a_duB; rw [c5]; simp)
        · exact bad (by unfold a_duB; rw [c4]; simp)
      · exact bad (by unfold a_duB; rw [c3]; simp)
    · exact bad (by unfold a_duB; rw [c2]; simp)
  · exact bad (by unfold a_duB; rw [c1]; simp)
set_option maxHeartbeats 1000000 in
set_option maxRecDepth 100000 in
theorem r_dust_g (C : MI h a) {v w s l i n t : Int} (hv : nv_InR v) (hw : nv_InR w) (hs : nv_InR s) (hl : nv_InR l) (hi : nv_InR i) (hn : nv_InR n) (ht : nv_InR t) : nv_R M_X6_dust [vr 19 0, vi v, vi w, vi s, vi l, vi i, vi n, vi t] h (gQ h a (a_du a v w s l i n t)) := by
  obtain ⟨hok, he, hNok⟩ := C.now
  obtain ⟨hP5, hS5, hP, hS, hH, hDr, hpl, hsw⟩ := hok.m
  have bad : a_duB a v w s l n t = true → gQ h a (a_du a v w s l i n t) (some (vi (-1))) h := fun hb => by
    unfold a_du; rw [if_pos hb]; exact gQ.same C
  refine nv_R.of rfl rfl (Nat.le_of_ble_eq_true rfl) ?_
  refine nv_go ok_X6_dust [83] 80 ?_
  refine w_call (r_isPlankA hP5 hP hv) (fun r h' hr => ?_)
  obtain ⟨rfl, rfl⟩ := hr
  refine w_ifb (fun c1 => ?_) (fun c1 => ?_)
  · exact bad (by unfold a_duB; rw [bn_f c1]; simp)
  · have c1 := bn_t c1
    refine w_call (r_isSawyerA hS5 hS hw) (fun r h2 hr => ?_)
    obtain ⟨rfl, rfl⟩ := hr
    refine w_ifb (fun c2 => ?_) (fun c2 => ?_)
    · exact bad (by unfold a_duB; rw [bn_f c2]; simp)
    · have c2 := bn_t c2
      refine w_call (r_isSheetA hs) (fun r h3 hr => ?_)
      obtain ⟨rfl, rfl⟩ := hr
      refine w_ifb (fun c3 => ?_) (fun c3 => ?_)
      · exact bad (by unfold a_duB; rw [bn_f c3]; simp)
      · have c3 := bn_t c3
        refine w_call (r_inA hl (by omega) (by omega)) (fun r h4 hr => ?_)
        obtain ⟨rfl, rfl⟩ := hr
        refine w_ifb (fun c4 => ?_) (fun c4 => ?_)
        · exact bad (by unfold a_duB; rw [bn_f c4]; simp)
        · have c4 := bn_t c4
          refine w_call (r_inA hn (by omega) (by omega)) (fun r h5 hr => ?_)
          obtain ⟨rfl, rfl⟩ := hr
          refine w_ifb (fun c5 => ?_) (fun c5 => ?_)
          · exact bad (by unfold a_duB; rw [bn_f c5]; simp)
          · have c5 := bn_t c5
            refine w_call (r_inA ht (by omega) (by omega)) (fun r h6 hr => ?_)
            obtain ⟨rfl, rfl⟩ := hr
            refine w_ifb (fun c6 => ?_) (fun c6 => ?_)
            · exact bad (by unfold a_duB; rw [bn_f c6]; simp)
            · have c6 := bn_t c6
              have nb : ¬ a_duB a v w s l n t = true := by unfold a_duB; rw [c1, c2, c3, c4, c5, c6]; decide
              obtain ⟨p, rfl, hp⟩ := a_bp_f c1
              obtain ⟨u, rfl, hu⟩ := a_bp_f c2
              have g3 := a_out_f c3
              have g5 := a_out_f c5
              have g6 := a_out_f c6
              obtain ⟨q, rfl⟩ : ∃ q : Nat, s = q := ⟨s.toNat, by omega⟩
              obtain ⟨m, rfl⟩ : ∃ m : Nat, n = m := ⟨n.toNat, by omega⟩
              obtain ⟨t, rfl⟩ : ∃ t' : Nat, t = t' := ⟨t.toNat, by omega⟩
              have hq : q < 4 := by omega
              obtain ⟨e1, e2, r1, r2, r3⟩ := C.sh hq
              have hrr := a_ref_r a q l i m
              refine w_call (r_wrong C hq hl hi (by omega)) (fun r h7 hr => ?_)
              obtain ⟨rfl, rfl⟩ := hr
              refine w_if (by omega) (fun c7 => ?_) (fun c7 => ?_)
              · have c7 : a_ref a q l i m = 0 := c7
                obtain ⟨z1, z2, z3⟩ := a_ref_0 c7
                have z4 := a_lk_f z3
                obtain ⟨i, rfl⟩ : ∃ i' : Nat, i = i' := ⟨i.toNat, by omega⟩
                have ea : a_du a p u q l i m t = m_set (fun g => m_sw (a_df (a_dM a u t g) p (a_si a q) i) m = true) (a_dG a t) := by
                  unfold a_du
                  rw [if_neg nb, if_neg (fun x => x (show a_ref a (q : Int).toNat l i m = 0 from c7))]
                  rfl
                rw [ea]
                have hG10 : a_dG a t ≤ 10 := by unfold a_dG; split <;> (try split) <;> omega
                generalize hQ : gQ h7 a (m_set (fun g => m_sw (a_df (a_dM a u t g) p (a_si a q) i) m = true) (a_dG a t)) = Q
                have head : ∀ (z j y : Int) (h1 : nv_St), nv_InR j → m_frM 25 h7 h1 → (((a_dG a t : Nat) : Int) ≤ j → nv_V M_X6_dust 185 [(0, vr 19 0), (1, vi p), (2, vi u), (3, vi q), (4, vi l), (5, vi i), (6, vi m), (7, vi t), (8, vi y), (9, vi z), (10, vi j)] [] h1 Q) → (¬ ((a_dG a t : Nat) : Int) ≤ j → nv_V M_X6_dust 117 [(0, vr 19 0), (1, vi p), (2, vi u), (3, vi q), (4, vi l), (5, vi i), (6, vi m), (7, vi t), (8, vi y), (9, vi z), (10, vi j)] [] h1 Q) → nv_V M_X6_dust 83 [(0, vr 19 0), (1, vi p), (2, vi u), (3, vi q), (4, vi l), (5, vi i), (6, vi m), (7, vi t), (8, vi y), (9, vi z), (10, vi j)] [] h1 Q := by
                  intro z j y h1 hj hf hA hB
                  have j114 : ∀ x : Int, x = (a_dG a t : Nat) - 1 → nv_V M_X6_dust 114 [(0, vr 19 0), (1, vi p), (2, vi u), (3, vi q), (4, vi l), (5, vi i), (6, vi m), (7, vi t), (8, vi y), (9, vi z), (10, vi j)] [vi x, vi j] h1 Q := by
                    intro x hx
                    refine nv_go ok_X6_dust [117, 185] 40 ?_
                    refine w_ic hj (by omega) (fun c8 => ?_) (fun c8 => ?_)
                    · have c8 : x < j := c8
                      exact hA (by omega)
                    · have c8 : ¬ x < j := c8
                      exact hB (by omega)
                  have hP1 : h1 24 0 17 = a_P a := by rw [hf 24 0 (by omega)]; exact hP
                  refine nv_go ok_X6_dust [114] 40 ?_
                  refine w_if (by omega) (fun c8 => ?_) (fun c8 => ?_)
                  · have c8 : (t : Int) = 0 := c8
                    exact j114 _ (by unfold a_dG; rw [if_pos c8]; rfl)
                  · have c8 : ¬ (t : Int) = 0 := c8
                    refine w_ic (by omega) (by omega) (fun c9 => ?_) (fun c9 => ?_)
                    · have c9 : (t : Int) = 1 := c9
                      exact j114 _ (by unfold a_dG; rw [if_neg c8, if_pos c9]; rfl)
                    · have c9 : ¬ (t : Int) = 1 := c9
                      refine w_ix 17 rfl (by omega) ?_
                      exact j114 _ (by unfold a_dG; rw [if_neg c8, if_neg c9, hP1])
                have loop := m_down (n := a_dG a t) (G := fun k => ∀ (z j y : Int) (h1 : nv_St), j = k → z = m_set (fun g => m_sw (a_df (a_dM a u t g) p (a_si a q) i) m = true) k → m_frM 25 h7 h1 → nv_V M_X6_dust 83 [(0, vr 19 0), (1, vi p), (2, vi u), (3, vi q), (4, vi l), (5, vi i), (6, vi m), (7, vi t), (8, vi y), (9, vi z), (10, vi j)] [] h1 Q) ?_ ?_
                · exact loop 0 (by omega) _ _ _ _ rfl rfl m_frM.rfl'
                · intro z j y h1 hj hz hf
                  refine head z j y h1 (by omega) hf (fun _ => ?_) (fun c8 => absurd (by omega) c8)
                  refine nv_go ok_X6_dust [] 40 ?_
                  rw [← hQ]
                  exact gQ.eq hz (gQ.tried C hf)
                · intro k hk ih z j y h1 hj hz hf
                  refine head z j y h1 (by omega) hf (fun c8 => absurd c8 (by omega)) (fun _ => ?_)
                  have he1 : m_eq (a_P a) (a_Sw a) (m_mm h1 24) (a_N a) := by rw [m_mm_ext (hf 24 0 (by omega))]; exact he
                  have hzl := m_set_lt (fun g => m_sw (a_df (a_dM a u t g) p (a_si a q) i) m = true) k
                  refine nv_go ok_X6_dust [148] 40 ?_
                  refine w_call r_begin (fun r h8 hr => ?_)
                  obtain ⟨rfl, hb8, hf8⟩ := hr
                  have he8 := (g_eq (P := a_P a) (S := a_Sw a) hP5 hS5 hb8).trans' he1
                  have j148 : ∀ (b : Nat), (t = 0 ∧ b = 29) ∨ (t = 1 ∧ b = 7) ∨ (t = 2 ∧ b = 12) → nv_V M_X6_dust 148 [(0, vr 19 0), (1, vi p), (2, vi u), (3, vi q), (4, vi l), (5, vi i), (6, vi m), (7, vi t), (8, vi y), (9, vi z), (10, vi j)] [vi b, vr 25 0] h8 Q := by
                    intro b hb
                    have he9 : m_eq (a_P a) (a_Sw a) (m_mm (nv_up h8 25 0 (b + u) j) 25) (a_dM a u t k) := by
                      unfold a_dM
                      rw [← hj]
                      refine m_eq.trans' (m_eq.le ?_ hP5 hS5) (m_put_eq he8)
                      rcases hb with ⟨rfl, rfl⟩ | ⟨rfl, rfl⟩ | ⟨rfl, rfl⟩
                      · exact m_mm_put (t := 4) (by omega)
                      · exact m_mm_put (t := 5) (by omega)
                      · exact m_mm_put (t := 6) (by omega)
                    have hf9 : m_frM 25 h7 (nv_up h8 25 0 (b + u) j) := hf.trans' (m_frM.beg hf8).up
                    refine nv_go ok_X6_dust [176] 60 ?_
                    refine w_ix (b + u) (by omega) (by omega) ?_
                    refine w_call (r_isDust (M := a_dM a u t k) (it := a_si a q) (a_dM_ok hNok (by omega) hk) he9 hp hq (by omega) (fun x hx => by rw [hf9 22 0 (by omega)]; exact r3 x hx (by omega))) (fun r h10 hr => ?_)
                    obtain ⟨hf10, rfl⟩ := hr
                    have hf11 : m_frM 25 h7 h10 := hf9.trans' hf10
                    have j176 : ∀ x : Int, nv_or z x = m_set (fun g => m_sw (a_df (a_dM a u t g) p (a_si a q) i) m = true) (k + 1) → nv_V M_X6_dust 176 [(0, vr 19 0), (1, vi p), (2, vi u), (3, vi q), (4, vi l), (5, vi i), (6, vi m), (7, vi t), (8, vi y), (9, vi z), (10, vi j)] [vi x, vi z] h10 Q := by
                      intro x hx
                      refine nv_go ok_X6_dust [83] 40 ?_
                      exact ih _ _ _ _ (by omega) hx hf11
                    refine w_ifb (fun c9 => ?_) (fun c9 => ?_)
                    · refine j176 _ ?_
                      show nv_or z 0 = m_set (fun g => m_sw (a_df (a_dM a u t g) p (a_si a q) i) m = true) k + (if m_sw (a_df (a_dM a u t k) p (a_si a q) i) m = true then 2 ^ k else 0)
                      have h2k : (2 : Int) ^ k ≤ 2 ^ 10 := by
                        have : (2 : Nat) ^ k ≤ 2 ^ 10 := Nat.pow_le_pow_right (by decide) (by omega)
                        exact_mod_cast this
                      rw [c9, if_neg (by decide), nv_or_0 (by omega) (by omega)]
                      omega
                    · refine w_ix k hj (by omega) ?_
                      refine j176 _ ?_
                      show nv_or z (1 * 2 ^ k) = m_set (fun g => m_sw (a_df (a_dM a u t g) p (a_si a q) i) m = true) k + (if m_sw (a_df (a_dM a u t k) p (a_si a q) i) m = true then 2 ^ k else 0)
                      rw [c9, if_pos rfl, hz]
                      exact nv_or_bit hzl.1 hzl.2 (by omega)
                  refine w_if (by omega) (fun c8 => ?_) (fun c8 => ?_)
                  · have c8 : (t : Int) = 0 := c8
                    exact j148 29 (by omega)
                  · have c8 : ¬ (t : Int) = 0 := c8
                    refine w_ic (by omega) (by omega) (fun c9 => ?_) (fun c9 => ?_)
                    · have c9 : (t : Int) = 1 := c9
                      exact j148 7 (by omega)
                    · have c9 : ¬ (t : Int) = 1 := c9
                      exact j148 12 (by omega)
              · have c7 : ¬ a_ref a q l i m = 0 := c7
                unfold a_du
                rw [if_neg nb, if_pos (show ¬ a_ref a (q : Int).toNat l i m = 0 from c7)]
                exact gQ.same C
end nvD
