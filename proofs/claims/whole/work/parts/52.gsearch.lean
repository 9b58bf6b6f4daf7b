/-! ===== the reference's search: setBy, layBest; best, most ===== -/
set_option maxRecDepth 100000 in
theorem r_bitsM {h : nv_St} {x : Int} (h0 : 0 ≤ x) (h1 : x < 32) : nv_R M_X6_bits [vi x] h (fun r h' => h' = h ∧ r = some (vi (m_bits x))) := by
  refine nv_R.of rfl rfl (Nat.le_of_ble_eq_true rfl) ?_
  have eb : m_sum (fun k => x / 2 ^ k % 2) 5 = m_bits x := by
    unfold m_bits
    simp [m_sum]
  have loop := m_down (n := 5) (G := fun p => ∀ j y : Int, j = p → y = m_sum (fun k => x / 2 ^ k % 2) p → nv_V M_X6_bits 4 [(0, vi x), (1, vi y), (2, vi j)] [] h (fun r h' => h' = h ∧ r = some (vi (m_bits x)))) ?_ ?_
  · refine nv_go ok_X6_bits [4] 10 ?_
    exact loop 0 (by omega) _ _ rfl rfl
  · intro j y hj hy
    refine nv_go ok_X6_bits [4] 30 ?_
    refine w_ic (by omega) (by omega) (fun c => ?_) (fun c => ?_)
    · exact ⟨rfl, by rw [hy, eb]⟩
    · exact absurd (by show (5 : Int) ≤ j; omega) c
  · intro p hp ih j y hj hy
    have hd := m_div_r (k := p) h0
    have e1 : nv_and (x / 2 ^ p) 1 = x / 2 ^ p % 2 := nv_and_1 hd.1 (by omega)
    refine nv_go ok_X6_bits [4] 30 ?_
    refine w_ic (by omega) (by omega) (fun c => ?_) (fun c => ?_)
    · exact absurd c (by show ¬ ((5 : Int) ≤ j); omega)
    · refine w_sr (by omega) p hj (by omega) ?_
      exact ih _ _ (by omega) (by rw [hy, e1]; rfl)
set_option maxRecDepth 100000 in
theorem r_setBy {h : nv_St} {P S k : Nat} {B : Int} (hN : m_ok (m_mm h 24) P S B) (hP1 : 1 ≤ P) (hk : k ≤ 3125) :
    nv_R M_X6_setBy [vr 19 0, vi k] h (fun r h' => r = some (vi (m_mv (m_mm h 24) P S k)) ∧ (∀ t i, ¬ (t = 25 ∧ i = 0) → h' t i = h t i) ∧ m_eq P S (m_mm h' 25) (m_wayN (m_mm h 24) P S k)) := by
  obtain ⟨hP5, hS5, hP, hS, hH, hDr, hpl, hsw⟩ := hN.m
  refine nv_R.of rfl rfl (Nat.le_of_ble_eq_true rfl) ?_
  generalize hQ : (fun (r : Option nv_AV) (h' : nv_St) => r = some (vi (m_mv (m_mm h 24) P S k)) ∧ (∀ t i, ¬ (t = 25 ∧ i = 0) → h' t i = h t i) ∧ m_eq P S (m_mm h' 25) (m_wayN (m_mm h 24) P S k)) = Q
  have loop := m_down (n := S) (G := fun q => ∀ (j x y : Int) (h1 : nv_St), j = (S : Int) - 1 - q → y = ((k / P ^ q : Nat) : Int) → x = m_mv (m_mm h 24) P S k - m_sum (fun s => if m_wseat P S k s = m_mm h 24 6 s then 0 else 1) (S - q) → (∀ t i, ¬ (t = 25 ∧ i = 0) → h1 t i = h t i) → (∀ z, z < 34 → z < 12 ∨ 17 ≤ z → h1 25 0 z = h 24 0 z) → (∀ s, s < S → S - 1 - s < q → h1 25 0 (12 + s) = m_wseat P S k s) → nv_V M_X6_setBy 19 [(0, vr 19 0), (1, vi k), (2, vi y), (3, vi x), (4, vi j)] [] h1 Q) ?_ ?_
  · refine nv_go ok_X6_setBy [19] 30 ?_
    refine w_call r_begin (fun r h1 hr => ?_)
    obtain ⟨rfl, hb, hf⟩ := hr
    refine w_ix 28 rfl (by omega) ?_
    exact loop 0 (by omega) _ _ _ _ (by show h1 24 0 28 - 1 = _; rw [hf 24 0 (by omega)]; omega) (by simp) (by show (0 : Int) = _; unfold m_mv; rw [Nat.sub_zero]; omega) hf (fun z h1 _ => hb z h1) (fun s _ hs => absurd hs (by omega))
  · intro j x y h1 hj hy hx hf hz hs
    refine nv_go ok_X6_setBy [] 30 ?_
    refine w_if (by omega) (fun c => ?_) (fun c => ?_)
    · show Q _ _
      rw [← hQ]
      refine ⟨?_, hf, fun j hj => ?_, fun p hp => ⟨?_, ?_, ?_⟩, fun s hs2 => ⟨?_, ?_, ?_⟩⟩
      · rw [hx, Nat.sub_self]
        simp [m_sum]
      · have : j = 0 ∨ j = 1 ∨ j = 2 ∨ j = 3 := by omega
        rcases this with rfl | rfl | rfl | rfl
        · exact hz 17 (by omega) (by omega)
        · exact hz 28 (by omega) (by omega)
        · exact hz 0 (by omega) (by omega)
        · exact hz 1 (by omega) (by omega)
      · exact hz (18 + p) (by omega) (by omega)
      · exact hz (23 + p) (by omega) (by omega)
      · exact hz (2 + p) (by omega) (by omega)
      · exact hz (29 + s) (by omega) (by omega)
      · exact hz (7 + s) (by omega) (by omega)
      · exact hs s hs2 (by omega)
    · exact absurd (by show j < 0; omega) c
  · intro q hq ih j x y h1 hj hy hx hf hz hs
    obtain ⟨s, hsq⟩ : ∃ s : Nat, s + q + 1 = S := ⟨S - 1 - q, by omega⟩
    have hjs : j = (s : Int) := by omega
    have e24 : h1 24 0 = h 24 0 := hf 24 0 (by omega)
    have eP : h1 24 0 17 = P := by rw [e24]; exact hP
    have h6 := (hsw s (by omega)).2.2
    have hq2 : k / P ^ q ≤ k := Nat.div_le_self _ _
    have hy0 : 0 ≤ y ∧ y < 2147483648 := by
      rw [hy]
      generalize k / P ^ q = z at hq2
      omega
    have ew : y % (P : Int) = m_wseat P S k s := by
      rw [hy]
      unfold m_wseat
      rw [show S - 1 - s = q by omega]
      omega
    have er := m_wseat_r (P := P) (S := S) (k := k) (s := s) hP1
    have esum : m_sum (fun s => if m_wseat P S k s = m_mm h 24 6 s then 0 else 1) (S - q) = m_sum (fun s => if m_wseat P S k s = m_mm h 24 6 s then 0 else 1) (S - (q + 1)) + (if m_wseat P S k s = h 24 0 (12 + s) then 0 else 1) := by
      rw [show S - q = s + 1 by omega, show S - (q + 1) = s by omega]
      rfl
    have ediv : y / (P : Int) = ((k / P ^ (q + 1) : Nat) : Int) := by
      rw [hy, Nat.pow_succ, ← Nat.div_div_eq_div_mul]
      omega
    have j43 : ∀ h2 : nv_St, (∀ t i, ¬ (t = 25 ∧ i = 0) → h2 t i = h t i) → (∀ z, z < 34 → z < 12 ∨ 17 ≤ z → h2 25 0 z = h 24 0 z) → (∀ s, s < S → S - 1 - s < q + 1 → h2 25 0 (12 + s) = m_wseat P S k s) → nv_V M_X6_setBy 43 [(0, vr 19 0), (1, vi k), (2, vi y), (3, vi x), (4, vi j)] [] h2 Q := by
      intro h2 k1 k2 k3
      have e24 : h2 24 0 = h 24 0 := k1 24 0 (by omega)
      have eP : h2 24 0 17 = P := by rw [e24]; exact hP
      have e6 : h2 24 0 (12 + s) = h 24 0 (12 + s) := by rw [e24]
      have e25 := k3 s (by omega) (by omega)
      refine nv_go ok_X6_setBy [19] 80 ?_
      refine w_ix 17 rfl (by omega) ?_
      refine w_dv hy0 (by rw [eP]; omega) ?_
      refine w_ix (12 + s) (by omega) (by omega) ?_
      refine w_ix (12 + s) (by omega) (by omega) ?_
      refine w_ic (by omega) (by omega) (fun c => ?_) (fun c => ?_)
      · have c : h2 25 0 (12 + s) = h2 24 0 (12 + s) := c
        rw [if_pos (by omega)] at esum
        exact ih _ _ _ _ (by omega) (by rw [eP]; exact ediv) (by omega) k1 k2 k3
      · have c : ¬ h2 25 0 (12 + s) = h2 24 0 (12 + s) := c
        rw [if_neg (by omega)] at esum
        exact ih _ _ _ _ (by omega) (by rw [eP]; exact ediv) (by omega) k1 k2 k3
    refine nv_go ok_X6_setBy [43] 60 ?_
    refine w_if (by omega) (fun c => ?_) (fun c => ?_)
    · exact absurd c (by show ¬ (j < 0); omega)
    · refine w_ix 17 rfl (by omega) ?_
      refine w_dv hy0 (by rw [eP]; omega) ?_
      refine w_ix (12 + s) (by omega) (by omega) ?_
      refine j43 _ (fun t i hn => ?_) (fun z hz1 hz2 => ?_) (fun r hr1 hr2 => ?_)
      · rw [← hf t i hn]
        funext y
        unfold nv_up
        rw [if_neg (by rintro ⟨rfl, rfl, -⟩; exact hn ⟨rfl, rfl⟩)]
      · rw [nv_up_ne (by omega)]
        exact hz z hz1 hz2
      · by_cases e : r = s
        · rw [e, nv_up_same, eP]; exact ew
        · rw [nv_up_ne (by omega)]; exact hs r hr1 (by omega)
/-- what the search may change -/
def g_fb (h h' : nv_St) : Prop := (∀ t i, ¬ (t = 25 ∧ i = 0) → ¬ (t = 28 ∧ i = 0) → ¬ (t = 29 ∧ i = 0) → ¬ (t = 19 ∧ i = 0) → h' t i = h t i) ∧ ∀ q, q ≠ 14 → q ≠ 15 → h' 19 0 q = h 19 0 q
theorem g_fb.rfl' {h : nv_St} : g_fb h h := ⟨fun _ _ _ _ _ _ => rfl, fun _ _ _ => rfl⟩
theorem g_fb.trans' {h h1 h2 : nv_St} (a : g_fb h h1) (b : g_fb h1 h2) : g_fb h h2 := ⟨fun t i n1 n2 n3 n4 => (b.1 t i n1 n2 n3 n4).trans (a.1 t i n1 n2 n3 n4), fun q n1 n2 => (b.2 q n1 n2).trans (a.2 q n1 n2)⟩
theorem g_fb.of {h h' : nv_St} (k : m_frM 25 h h') : g_fb h h' := ⟨fun t i n1 n2 _ _ => k t i (by omega), fun q _ _ => by rw [k 19 0 (by omega)]⟩
theorem g_fb.up {h : nv_St} {q : Nat} {x : Int} (hq : q = 14 ∨ q = 15) : g_fb h (nv_up h 19 0 q x) := ⟨fun t i _ _ _ n4 => by
  funext y
  unfold nv_up
  rw [if_neg (by omega)], fun z n1 n2 => nv_up_ne (by omega)⟩
theorem m_pwn {P S : Nat} (hP : P ≤ 5) (hS : S ≤ 5) : P ^ S ≤ 3125 := Nat.le_trans (Nat.pow_le_pow_left hP S) (Nat.pow_le_pow_right (n := 5) (by decide) hS)
set_option maxRecDepth 100000 in
theorem r_layBest {h : nv_St} {P S n : Nat} {N : m_NN} {w mv : Nat → Int} (hNe : m_mm h 24 = N) (hN : m_ok N P S 9999) (hP1 : 1 ≤ P) (hn : n ≤ 30) (hww : w = m_wv N P S n) (hmm : mv = m_mv N P S) :
    nv_R M_X6_layBest [vr 19 0, vi n] h (fun r h' => r = none ∧ g_fb h h' ∧ h' 19 0 14 = (m_best w mv (P ^ S)).1 ∧ h' 19 0 15 = (m_best w mv (P ^ S)).2.1 ∧ ∀ s, s < S → h' 29 0 s = m_wseat P S (m_best w mv (P ^ S)).2.2 s) := by
  obtain ⟨hP5, hS5, hP, hS, hH, hDr, hpl, hsw⟩ := id hN
  have hw : ∀ k, 0 ≤ w k ∧ (w k ≤ 60 ∨ w k = 99) := fun k => by rw [hww]; exact ⟨(m_wv_r hP5).1, (m_wv_r hP5).2.1⟩
  have hm : ∀ k, 0 ≤ mv k ∧ mv k ≤ 5 := fun k => by rw [hmm]; exact m_mv_r hS5
  have hpos : 0 < P ^ S := Nat.pow_pos (by omega)
  have hle : P ^ S ≤ 3125 := m_pwn hP5 hS5
  have aP : h 24 0 17 = P := (congrFun (congrFun hNe 0) 0).trans hP
  have aS : h 24 0 28 = S := (congrFun (congrFun hNe 0) 1).trans hS
  refine nv_R.of rfl rfl (Nat.le_of_ble_eq_true rfl) ?_
  generalize hQ : (fun (r : Option nv_AV) (h' : nv_St) => r = none ∧ g_fb h h' ∧ h' 19 0 14 = (m_best w mv (P ^ S)).1 ∧ h' 19 0 15 = (m_best w mv (P ^ S)).2.1 ∧ ∀ s, s < S → h' 29 0 s = m_wseat P S (m_best w mv (P ^ S)).2.2 s) = Q
  have loop := m_down (n := P ^ S) (G := fun k => ∀ (j : Int) (h1 : nv_St), j = k → g_fb h h1 → h1 19 0 14 = (m_best w mv k).1 → (0 < k → h1 19 0 15 = (m_best w mv k).2.1 ∧ ∀ s, s < S → h1 29 0 s = m_wseat P S (m_best w mv k).2.2 s) → nv_V M_X6_layBest 39 [(0, vr 19 0), (1, vi n), (2, vi ((P ^ S : Nat) : Int)), (3, vi j)] [] h1 Q) ?_ ?_
  · have pw := m_down (n := S) (G := fun q => ∀ j y : Int, j = q → y = ((P ^ q : Nat) : Int) → nv_V M_X6_layBest 4 [(0, vr 19 0), (1, vi n), (2, vi y), (3, vi j)] [] h Q) ?_ ?_
    · refine nv_go ok_X6_layBest [4] 10 ?_
      exact pw 0 (by omega) _ _ rfl (by simp)
    · intro j y hj hy
      refine nv_go ok_X6_layBest [4, 39] 30 ?_
      refine w_ix 28 rfl (by omega) ?_
      refine w_ic (by omega) (by omega) (fun c => ?_) (fun c => ?_)
      · rw [hy]
        exact loop 0 (by omega) _ _ rfl (g_fb.up (by omega)) (nv_up_same _ _ _ _ _) (fun k0 => absurd k0 (by omega))
      · exact absurd (by show h 24 0 28 ≤ j; omega) c
    · intro q hq ih j y hj hy
      refine nv_go ok_X6_layBest [4, 39] 30 ?_
      refine w_ix 28 rfl (by omega) ?_
      refine w_ic (by omega) (by omega) (fun c => ?_) (fun c => ?_)
      · exact absurd c (by show ¬ (h 24 0 28 ≤ j); omega)
      · refine w_ix 17 rfl (by omega) ?_
        exact ih _ _ (by omega) (by show y * h 24 0 17 = _; rw [hy, aP, Nat.pow_succ]; push_cast; rfl)
  · intro j h1 hj hf h14 hk
    refine nv_go ok_X6_layBest [] 30 ?_
    refine w_ic (by omega) (by omega) (fun c => ?_) (fun c => ?_)
    · show Q _ _
      rw [← hQ]
      exact ⟨rfl, hf, h14, (hk hpos).1, (hk hpos).2⟩
    · exact absurd (by show ((P ^ S : Nat) : Int) ≤ j; omega) c
  · intro k hk ih j h1 hj hf h14 hkk
    subst hj
    have e24 : ∀ h2, g_fb h h2 → h2 24 0 = h 24 0 := fun h2 q => q.1 24 0 (by omega) (by omega) (by omega) (by omega)
    have eN : ∀ h2, g_fb h h2 → m_mm h2 24 = N := fun h2 q => by rw [m_mm_ext (e24 h2 q)]; exact hNe
    have hwk := hw k
    have hmk := hm k
    have hbr := m_best_r hw hm k
    have eb : m_best w mv (k + 1) = if w k < (m_best w mv k).1 ∨ (w k = (m_best w mv k).1 ∧ mv k < (m_best w mv k).2.1) then (w k, mv k, k) else m_best w mv k := rfl
    have b14 : nv_InR (h1 19 0 14) := by
      rw [h14]
      by_cases e : k = 0
      · rw [e]; show nv_InR (100 : Int); omega
      · have := (hbr (by omega)).1; omega
    have j135 : ∀ (x m : Int) (h3 : nv_St), x = mv k → m = w k → g_fb h h3 → (w k < (m_best w mv k).1 ∨ (w k = (m_best w mv k).1 ∧ mv k < (m_best w mv k).2.1)) → nv_V M_X6_layBest 135 [(0, vr 19 0), (1, vi n), (2, vi ((P ^ S : Nat) : Int)), (3, vi (k : Int)), (4, vi x), (5, vi m)] [] h3 Q := by
      intro x m h3 hx hmw hf3 hc
      rw [if_pos hc] at eb
      have hf4 : g_fb h (nv_up (nv_up h3 19 0 14 m) 19 0 15 x) := hf3.trans' ((g_fb.up (by omega)).trans' (g_fb.up (by omega)))
      refine nv_go ok_X6_layBest [39] 60 ?_
      refine w_call (r_setBy (k := k) (by rw [eN _ hf4]; exact hN) hP1 (by omega)) (fun r h5 hr => ?_)
      obtain ⟨rfl, hf5, he5⟩ := hr
      rw [eN _ hf4] at he5
      refine w_call (r_bring_25_29 (i := 12) (j := 0) (n := 5) (by omega) (by omega)) (fun r h6 hr => ?_)
      obtain ⟨rfl, hf6, hv6, -⟩ := hr
      have ff : g_fb h h6 := hf4.trans' ⟨fun t i n1 n2 n3 n4 => by rw [hf6 t i n3, hf5 t i n1], fun q _ _ => by rw [hf6 19 0 (by omega), hf5 19 0 (by omega)]⟩
      refine nv_V.take 4 (ih _ h6 (by push_cast; omega) ff ?_ (fun _ => ⟨?_, fun s hs => ?_⟩))
      · rw [hf6 19 0 (by omega), hf5 19 0 (by omega), nv_up_ne (by omega), nv_up_same, eb]
        exact hmw
      · rw [hf6 19 0 (by omega), hf5 19 0 (by omega), nv_up_same, eb]
        exact hx
      · have q1 := hv6 s (by omega)
        rw [Nat.zero_add] at q1
        rw [q1, eb]
        exact (he5.2.2 s hs).2.2
    have j168 : ∀ (x m : Int) (h3 : nv_St), g_fb h h3 → h3 19 0 = h1 19 0 → h3 29 0 = h1 29 0 → ¬ (w k < (m_best w mv k).1 ∨ (w k = (m_best w mv k).1 ∧ mv k < (m_best w mv k).2.1)) → nv_V M_X6_layBest 168 [(0, vr 19 0), (1, vi n), (2, vi ((P ^ S : Nat) : Int)), (3, vi (k : Int)), (4, vi x), (5, vi m)] [] h3 Q := by
      intro x m h3 hf3 e19 e29 hc
      rw [if_neg hc] at eb
      have k0 : 0 < k := by
        rcases Nat.eq_zero_or_pos k with e | e
        · refine absurd (Or.inl ?_) hc
          rw [e]
          show w 0 < 100
          have := hw 0
          omega
        · exact e
      refine nv_go ok_X6_layBest [39] 20 ?_
      refine nv_V.take 4 (ih _ h3 (by push_cast; omega) hf3 ?_ (fun _ => ⟨?_, fun s hs => ?_⟩))
      · rw [e19, eb]; exact h14
      · rw [e19, eb]; exact (hkk k0).1
      · rw [e29, eb]; exact (hkk k0).2 s hs
    have j108 : ∀ (x m : Int) (h3 : nv_St), x = mv k → m = w k → g_fb h h3 → h3 19 0 = h1 19 0 → h3 29 0 = h1 29 0 → nv_V M_X6_layBest 108 [(0, vr 19 0), (1, vi n), (2, vi ((P ^ S : Nat) : Int)), (3, vi (k : Int)), (4, vi x), (5, vi m)] [] h3 Q := by
      intro x m h3 hx hmw hf3 e19 e29
      have c14 : h3 19 0 14 = (m_best w mv k).1 := by rw [e19]; exact h14
      have d14 : nv_InR (h3 19 0 14) := by rw [e19]; exact b14
      refine nv_go ok_X6_layBest [135, 168] 40 ?_
      refine w_ic (by omega) d14 (fun c => ?_) (fun c => ?_)
      · have c : m < h3 19 0 14 := c
        exact j135 x m h3 hx hmw hf3 (Or.inl (by omega))
      · have c : ¬ m < h3 19 0 14 := c
        refine w_ic (by omega) d14 (fun c2 => ?_) (fun c2 => ?_)
        · have c2 : m = h3 19 0 14 := c2
          have k0 : 0 < k := by
            rcases Nat.eq_zero_or_pos k with e | e
            · rw [e] at c14
              have c15 : h3 19 0 14 = 100 := c14
              omega
            · exact e
          have d15 : h3 19 0 15 = (m_best w mv k).2.1 := by rw [e19]; exact (hkk k0).1
          have r15 := (hbr k0).2
          refine w_ic (by omega) (by omega) (fun c3 => ?_) (fun c3 => ?_)
          · have c3 : h3 19 0 15 ≤ x := c3
            exact j168 x m h3 hf3 e19 e29 (by omega)
          · have c3 : ¬ h3 19 0 15 ≤ x := c3
            exact j135 x m h3 hx hmw hf3 (Or.inr (by omega))
        · have c2 : ¬ m = h3 19 0 14 := c2
          exact j168 x m h3 hf3 e19 e29 (by omega)
    refine nv_go ok_X6_layBest [108] 60 ?_
    refine w_ic (by omega) (by omega) (fun c => ?_) (fun c => ?_)
    · exact absurd c (by show ¬ (((P ^ S : Nat) : Int) ≤ (k : Int)); omega)
    · refine w_call (r_setBy (k := k) (by rw [eN _ hf]; exact hN) hP1 (by omega)) (fun r h2 hr => ?_)
      obtain ⟨rfl, hf2, he2⟩ := hr
      rw [eN _ hf] at he2 ⊢
      have hok2 := he2.ok (m_wayN_ok (k := k) hP1 hN)
      have g2 : g_fb h h2 := hf.trans' (g_fb.of (m_frM.beg hf2))
      refine w_if (by omega) (fun c2 => ?_) (fun c2 => ?_)
      · have c2 : (n : Int) = 0 := c2
        have n0 : n = 0 := by omega
        have hwv : w k = if m_noon (m_mm h2 25) P = -4 then 99 else m_noon (m_mm h2 25) P := by
          rw [hww, m_noon_eq he2 hok2]
          unfold m_wv
          rw [if_pos n0]
        refine w_call (r_noonOf hok2 (by omega)) (fun r h3 hr => ?_)
        obtain ⟨hf3, rfl⟩ := hr
        have g3 : g_fb h h3 := g2.trans' (g_fb.of hf3)
        have e19 : h3 19 0 = h1 19 0 := by rw [hf3 19 0 (by omega), hf2 19 0 (by omega)]
        have e29 : h3 29 0 = h1 29 0 := by rw [hf3 29 0 (by omega), hf2 29 0 (by omega)]
        have hr : m_noon (m_mm h2 25) P = -4 ∨ (((0 : Nat) : Int) ≤ m_noon (m_mm h2 25) P ∧ m_noon (m_mm h2 25) P < ((0 : Nat) : Int) + ((61 : Nat) : Int)) := m_find_r (f := fun n => m_all (m_it n (m_mm h2 25)) P) (d := 61) (n := 0)
        refine w_ic (by omega) (by omega) (fun c3 => ?_) (fun c3 => ?_)
        · have c3 : m_noon (m_mm h2 25) P = -4 := c3
          exact nv_V.take 6 (j108 _ _ h3 (by rw [hmm]) (by rw [hwv, if_pos c3]) g3 e19 e29)
        · have c3 : ¬ m_noon (m_mm h2 25) P = -4 := c3
          exact nv_V.take 6 (j108 _ _ h3 (by rw [hmm]) (by rw [hwv, if_neg c3]) g3 e19 e29)
      · have c2 : ¬ (n : Int) = 0 := c2
        have hwv : w k = m_std (m_mm h2 25) P n := by
          rw [hww, m_std_eq he2 hok2]
          unfold m_wv
          rw [if_neg (by omega)]
        refine w_call (r_goOn hok2 (by omega) (by omega)) (fun r h3 hr => ?_)
        obtain ⟨rfl, he3, hf3⟩ := hr
        have g3 : g_fb h h3 := g2.trans' (g_fb.of hf3)
        have e19 : h3 19 0 = h1 19 0 := by rw [hf3 19 0 (by omega), hf2 19 0 (by omega)]
        have e29 : h3 29 0 = h1 29 0 := by rw [hf3 29 0 (by omega), hf2 29 0 (by omega)]
        obtain ⟨-, -, u1, u2, u3, u4, u5, u6⟩ := (he3.ok (m_it_ok hok2 n)).m
        have hl := m_set_lt (fun p => h3 25 0 (2 + p) = 0) P
        have h32 := m_pow5 hP5
        have es : m_set (fun p => h3 25 0 (2 + p) = 0) P = m_set (fun p => m_it n (m_mm h2 25) 3 p = 0) P := m_set_eq (fun p hp => by rw [← (he3.2.1 p hp).2.2]; exact Iff.rfl)
        have a17 : h3 24 0 17 = P := by rw [e24 _ g3]; exact aP
        refine w_ix 17 rfl (by omega) ?_
        refine w_call (r_fallenM_25 hP5 u1 (fun p hp => (u5 p hp).2.2)) (fun r h4 hr => ?_)
        obtain ⟨rfl, rfl⟩ := hr
        refine w_call (r_bitsM hl.1 (by omega)) (fun r h5 hr => ?_)
        obtain ⟨rfl, rfl⟩ := hr
        exact j108 _ _ _ (by rw [hmm]) (by rw [hwv]; unfold m_std; rw [← es, a17]) g3 e19 e29
set_option maxRecDepth 100000 in
theorem r_noBest {h : nv_St} {P S : Nat} {v : Int} (hv : nv_InR v) (hP5 : P ≤ 5) (hS5 : S ≤ 5) (hP : h 24 0 17 = P) (hS : h 24 0 28 = S) : nv_R M_X6_noBest [vr 19 0, vi v] h (fun r h' => h' = h ∧ r = some (vi (if a_out v (-2) ((S : Int) - 1) = true then -1 else if (decide (P = 0) || decide (S = 0)) = true then -4 else 0))) := by
  refine nv_R.of rfl rfl (Nat.le_of_ble_eq_true rfl) ?_
  have j21 : a_out v (-2) ((S : Int) - 1) = false → nv_V M_X6_noBest 21 [(0, vr 19 0), (1, vi v)] [] h (fun r h' => h' = h ∧ r = some (vi (if a_out v (-2) ((S : Int) - 1) = true then -1 else if (decide (P = 0) || decide (S = 0)) = true then -4 else 0))) := by
    intro ho
    rw [if_neg (by rw [ho]; decide)]
    refine nv_go ok_X6_noBest [] 40 ?_
    refine w_ix 28 rfl (by omega) ?_
    refine w_if (by omega) (fun c => ?_) (fun c => ?_)
    · have c : h 24 0 28 = 0 := c
      exact ⟨rfl, by rw [decide_eq_true (show S = 0 by omega), Bool.or_true]; rfl⟩
    · have c : ¬ h 24 0 28 = 0 := c
      refine w_ix 17 rfl (by omega) ?_
      refine w_if (by omega) (fun c2 => ?_) (fun c2 => ?_)
      · have c2 : h 24 0 17 = 0 := c2
        exact ⟨rfl, by rw [decide_eq_true (show P = 0 by omega)]; rfl⟩
      · have c2 : ¬ h 24 0 17 = 0 := c2
        exact ⟨rfl, by rw [decide_eq_false (show ¬ S = 0 by omega), decide_eq_false (show ¬ P = 0 by omega)]; rfl⟩
  have ho : (-2 ≤ v ∧ v ≤ (S : Int) - 1) → a_out v (-2) ((S : Int) - 1) = false := by
    intro q
    unfold a_out
    rw [decide_eq_false (by omega), decide_eq_false (by omega)]
    rfl
  refine nv_go ok_X6_noBest [21] 40 ?_
  refine w_ic hv (by omega) (fun c => ?_) (fun c => ?_)
  · have c : v = -1 := c
    exact j21 (ho (by omega))
  · have c : ¬ v = -1 := c
    refine w_ic hv (by omega) (fun c2 => ?_) (fun c2 => ?_)
    · have c2 : v = -2 := c2
      exact j21 (ho (by omega))
    · have c2 : ¬ v = -2 := c2
      refine w_call (r_isSawyerA hS5 hS hv) (fun r h' hr => ?_)
      obtain ⟨rfl, rfl⟩ := hr
      refine w_ifb (fun c3 => ?_) (fun c3 => ?_)
      · have c3 := bn_f c3
        refine ⟨rfl, ?_⟩
        rw [if_pos]
        unfold a_bp at c3
        unfold a_out
        rw [Bool.or_eq_true, decide_eq_true_eq, decide_eq_true_eq] at c3 ⊢
        omega
      · obtain ⟨p, rfl, hp⟩ := a_bp_f (bn_t c3)
        exact j21 (ho (by omega))
theorem MI.srch {h h' : nv_St} {a : a_S} (k : MI h a) (hf : g_fb h h') : MI h' a ∧ ∀ t q, t < 19 → h' t q = h t q :=
  ⟨k.kept (hf.1 24 0 (by omega) (by omega) (by omega) (by omega)) (hf.1 27 0 (by omega) (by omega) (by omega) (by omega)) (hf.2 3 (by omega) (by omega)) (hf.2 11 (by omega) (by omega)) (hf.1 23 0 (by omega) (by omega) (by omega) (by omega)) (hf.1 20 0 (by omega) (by omega) (by omega) (by omega)) (hf.1 21 0 (by omega) (by omega) (by omega) (by omega)) (hf.1 22 0 (by omega) (by omega) (by omega) (by omega)),
    fun t q ht => hf.1 t q (by omega) (by omega) (by omega) (by omega)⟩
section nvBestG
variable {h : nv_St} {a : a_S}
set_option maxRecDepth 100000 in
theorem r_best_g (C : MI h a) {v : Int} (hv : nv_InR v) : nv_R M_X6_best [vr 19 0, vi v] h (gQ h a (a_best a v)) := by
  obtain ⟨hok, he, hNok⟩ := C.now
  obtain ⟨hP5, hS5, hP, hS, hH, hDr, hpl, hsw⟩ := hok.m
  refine nv_R.of rfl rfl (Nat.le_of_ble_eq_true rfl) ?_
  refine nv_go ok_X6_best [6] 20 ?_
  refine w_call (r_noBest hv hP5 hS5 hP hS) (fun r h' hr => ?_)
  obtain ⟨rfl, rfl⟩ := hr
  have j6 : ∀ y : Int, y = (if a_out v (-2) ((a_Sw a : Int) - 1) = true then -1 else if (decide (a_P a = 0) || decide (a_Sw a = 0)) = true then -4 else 0) → nv_V M_X6_best 6 [(0, vr 19 0), (1, vi v), (2, vi y)] [] h' (gQ h' a (a_best a v)) := by
    intro y hy
    have hyr : nv_InR y := by rw [hy]; split <;> (try split) <;> omega
    refine nv_go ok_X6_best [] 60 ?_
    refine w_if hyr (fun c => ?_) (fun c => ?_)
    · have c : y = 0 := c
      have o1 : a_out v (-2) ((a_Sw a : Int) - 1) = false := by
        cases e : a_out v (-2) ((a_Sw a : Int) - 1) with
        | false => rfl
        | true => rw [e, if_pos rfl] at hy; omega
      have o2 : (decide (a_P a = 0) || decide (a_Sw a = 0)) = false := by
        cases e : (decide (a_P a = 0) || decide (a_Sw a = 0)) with
        | false => rfl
        | true => rw [o1, if_neg (by decide), e, if_pos rfl] at hy; omega
      obtain ⟨hP1, hS1⟩ := a_none o2
      have g1 := a_out_f o1
      have ea : a_best a v = a_told (a_R a 0) (a_P a) (a_Sw a) v (if (a_R a 0).1 = 99 then -4 else (a_R a 0).1) := by
        unfold a_best; rw [if_neg (by rw [o1]; decide), if_neg (by rw [o2]; decide)]
      have er : m_res (m_mm h' 24) (a_P a) (a_Sw a) 0 = a_R a 0 := m_res_eq hP1 he hok
      have hrr := m_res_r (N := a_N a) (hrs := 0) hP1 hP5 hS5
      have hrr : (0 ≤ (a_R a 0).1 ∧ ((a_R a 0).1 ≤ 60 ∨ (a_R a 0).1 = 99)) ∧ (0 ≤ (a_R a 0).2.1 ∧ (a_R a 0).2.1 ≤ 5) := hrr
      rw [ea]
      refine w_call (r_layBest (n := 0) rfl hok hP1 (by omega) rfl rfl) (fun r h3 hr => ?_)
      obtain ⟨rfl, hf, q1, q2, q3⟩ := hr
      have q1 : h3 19 0 14 = (a_R a 0).1 := by rw [← er]; exact q1
      have q2 : h3 19 0 15 = (a_R a 0).2.1 := by rw [← er]; exact q2
      have q3 : ∀ s, s < a_Sw a → h3 29 0 s = m_wseat (a_P a) (a_Sw a) (a_R a 0).2.2 s := by rw [← er]; exact q3
      have hq : gQ h' a (a_told (a_R a 0) (a_P a) (a_Sw a) v (if (a_R a 0).1 = 99 then -4 else (a_R a 0).1)) (some (vi (a_told (a_R a 0) (a_P a) (a_Sw a) v (if (a_R a 0).1 = 99 then -4 else (a_R a 0).1)))) h3 := ⟨rfl, C.srch hf⟩
      refine w_ic hv (by omega) (fun c3 => ?_) (fun c3 => ?_)
      · have c3 : v = -1 := c3
        refine w_ic (by omega) (by omega) (fun c4 => ?_) (fun c4 => ?_)
        · have c4 : h3 19 0 14 = 99 := c4
          refine gQ.eq ?_ hq
          unfold a_told
          rw [if_pos c3, if_pos (by omega)]
        · have c4 : ¬ h3 19 0 14 = 99 := c4
          refine gQ.eq ?_ hq
          unfold a_told
          rw [if_pos c3, if_neg (by omega)]
          exact q1
      · have c3 : ¬ v = -1 := c3
        refine w_ic hv (by omega) (fun c4 => ?_) (fun c4 => ?_)
        · have c4 : v = -2 := c4
          refine gQ.eq ?_ hq
          unfold a_told
          rw [if_neg c3, if_pos c4]
          exact q2
        · have c4 : ¬ v = -2 := c4
          refine w_ix v.toNat (by omega) (by omega) ?_
          refine gQ.eq ?_ hq
          unfold a_told
          rw [if_neg c3, if_neg c4]
          exact q3 _ (by omega)
    · have c : ¬ y = 0 := c
      refine gQ.eq ?_ (gQ.same C)
      rw [hy] at c ⊢
      unfold a_best
      by_cases o1 : a_out v (-2) ((a_Sw a : Int) - 1) = true
      · rw [if_pos o1, if_pos o1]
      · rw [if_neg o1] at c ⊢
        by_cases o2 : (decide (a_P a = 0) || decide (a_Sw a = 0)) = true
        · rw [if_pos o2, if_neg o1, if_pos o2]
        · rw [if_neg o2] at c; exact absurd rfl c
  exact j6 _ rfl
set_option maxRecDepth 100000 in
theorem r_most_g (C : MI h a) {n v : Int} (hn : nv_InR n) (hv : nv_InR v) : nv_R M_X6_most [vr 19 0, vi n, vi v] h (gQ h a (a_most a n v)) := by
  obtain ⟨hok, he, hNok⟩ := C.now
  obtain ⟨hP5, hS5, hP, hS, hH, hDr, hpl, hsw⟩ := hok.m
  refine nv_R.of rfl rfl (Nat.le_of_ble_eq_true rfl) ?_
  refine nv_go ok_X6_most [18] 40 ?_
  refine w_call (r_inA hn (by omega) (by omega)) (fun r h0 hr => ?_)
  obtain ⟨rfl, rfl⟩ := hr
  refine w_ifb (fun c0 => ?_) (fun c0 => ?_)
  · exact gQ.eq (by unfold a_most; rw [if_pos (bn_f c0)]) (gQ.same C)
  · have c0 := bn_t c0
    have g0 := a_out_f c0
    obtain ⟨m, rfl⟩ : ∃ m : Nat, n = m := ⟨n.toNat, by omega⟩
    refine w_call (r_noBest hv hP5 hS5 hP hS) (fun r h' hr => ?_)
    obtain ⟨rfl, rfl⟩ := hr
    have j18 : ∀ y : Int, y = (if a_out v (-2) ((a_Sw a : Int) - 1) = true then -1 else if (decide (a_P a = 0) || decide (a_Sw a = 0)) = true then -4 else 0) → nv_V M_X6_most 18 [(0, vr 19 0), (1, vi m), (2, vi v), (3, vi y)] [] h' (gQ h' a (a_most a m v)) := by
      intro y hy
      have hyr : nv_InR y := by rw [hy]; split <;> (try split) <;> omega
      refine nv_go ok_X6_most [] 60 ?_
      refine w_if hyr (fun c => ?_) (fun c => ?_)
      · have c : y = 0 := c
        have o1 : a_out v (-2) ((a_Sw a : Int) - 1) = false := by
          cases e : a_out v (-2) ((a_Sw a : Int) - 1) with
          | false => rfl
          | true => rw [e, if_pos rfl] at hy; omega
        have o2 : (decide (a_P a = 0) || decide (a_Sw a = 0)) = false := by
          cases e : (decide (a_P a = 0) || decide (a_Sw a = 0)) with
          | false => rfl
          | true => rw [o1, if_neg (by decide), e, if_pos rfl] at hy; omega
        obtain ⟨hP1, hS1⟩ := a_none o2
        have g1 := a_out_f o1
        have ea : a_most a m v = a_told (a_R a m) (a_P a) (a_Sw a) v (a_P a - (a_R a m).1) := by
          unfold a_most; rw [if_neg (by rw [c0]; decide), if_neg (by rw [o1]; decide), if_neg (by rw [o2]; decide)]; rfl
        have er : m_res (m_mm h' 24) (a_P a) (a_Sw a) m = a_R a m := m_res_eq hP1 he hok
        rw [ea]
        refine w_call (r_layBest (n := m) rfl hok hP1 (by omega) rfl rfl) (fun r h3 hr => ?_)
        obtain ⟨rfl, hf, q1, q2, q3⟩ := hr
        have q1 : h3 19 0 14 = (a_R a m).1 := by rw [← er]; exact q1
        have q2 : h3 19 0 15 = (a_R a m).2.1 := by rw [← er]; exact q2
        have q3 : ∀ s, s < a_Sw a → h3 29 0 s = m_wseat (a_P a) (a_Sw a) (a_R a m).2.2 s := by rw [← er]; exact q3
        have hq : gQ h' a (a_told (a_R a m) (a_P a) (a_Sw a) v (a_P a - (a_R a m).1)) (some (vi (a_told (a_R a m) (a_P a) (a_Sw a) v (a_P a - (a_R a m).1)))) h3 := ⟨rfl, C.srch hf⟩
        refine w_ic hv (by omega) (fun c3 => ?_) (fun c3 => ?_)
        · have c3 : v = -1 := c3
          refine w_ix 17 rfl (by omega) ?_
          refine gQ.eq ?_ hq
          unfold a_told
          rw [if_pos c3]
          show h3 24 0 17 - h3 19 0 14 = _
          rw [q1, hf.1 24 0 (by omega) (by omega) (by omega) (by omega), hP]
        · have c3 : ¬ v = -1 := c3
          refine w_ic hv (by omega) (fun c4 => ?_) (fun c4 => ?_)
          · have c4 : v = -2 := c4
            refine gQ.eq ?_ hq
            unfold a_told
            rw [if_neg c3, if_pos c4]
            exact q2
          · have c4 : ¬ v = -2 := c4
            refine w_ix v.toNat (by omega) (by omega) ?_
            refine gQ.eq ?_ hq
            unfold a_told
            rw [if_neg c3, if_neg c4]
            exact q3 _ (by omega)
      · have c : ¬ y = 0 := c
        refine gQ.eq ?_ (gQ.same C)
        have e0 : ¬ a_out (m : Int) 1 30 = true := by rw [c0]; decide
        rw [hy] at c ⊢
        unfold a_most
        rw [if_neg e0]
        by_cases o1 : a_out v (-2) ((a_Sw a : Int) - 1) = true
        · rw [if_pos o1, if_pos o1]
        · rw [if_neg o1] at c ⊢
          by_cases o2 : (decide (a_P a = 0) || decide (a_Sw a = 0)) = true
          · rw [if_pos o2, if_neg o1, if_pos o2]
          · rw [if_neg o2] at c; exact absurd rfl c
    exact j18 _ rfl
end nvBestG
