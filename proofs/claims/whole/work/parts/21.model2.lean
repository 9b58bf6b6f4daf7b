/-! ===== the reference's hour ===== -/
theorem m_mm_ext {h h' : nv_St} {c : Nat} (e : h' c 0 = h c 0) : m_mm h' c = m_mm h c := by
  funext t j
  unfold m_mm
  rw [e]
def m_hc (hop : Int) (N : m_NN) (s : Nat) : Int := if m_bit hop s = true then 0 else m_cut N s
theorem m_hc_r {N : m_NN} {P S : Nat} {B : Int} (hN : m_ok N P S B) (hop : Int) {s : Nat} (hs : s < S) : (0 ≤ m_hc hop N s ∧ m_hc hop N s ≤ 18) ∧ (0 < m_hc hop N s → 0 ≤ N 6 s ∧ N 6 s < P) := by
  have := m_cut_r hN hs
  unfold m_hc
  split
  · exact ⟨by omega, fun h => absurd h (by omega)⟩
  · exact this
theorem m_bit_0 (s : Nat) : m_bit 0 s = false := by simp [m_bit]
theorem m_hc_0 (N : m_NN) : m_hc 0 N = m_cut N := by
  funext s
  unfold m_hc
  rw [m_bit_0]
  rfl
set_option maxHeartbeats 8000000 in
set_option maxRecDepth 100000 in
theorem r_hourIn_24 {h : nv_St} {P S : Nat} {B : Int} (hN : m_ok (m_mm h 24) P S B) (hB : B < 1073741824) {hop : Int} (hh0 : 0 ≤ hop) (hh1 : hop < 2147483648) :
    nv_R M_X6_hourIn [vr 19 0, vr 24 0, vi hop] h (fun r h' => r = none ∧ m_eq P S (m_mm h' 24) (m_hourC (m_mm h 24) (m_hc hop (m_mm h 24))) ∧ (∀ k, 34 ≤ k → h' 24 0 k = h 24 0 k) ∧ m_frM 24 h h') := by
  generalize hQ : (fun (r : Option nv_AV) (h' : nv_St) => r = none ∧ m_eq P S (m_mm h' 24) (m_hourC (m_mm h 24) (m_hc hop (m_mm h 24))) ∧ (∀ k, 34 ≤ k → h' 24 0 k = h 24 0 k) ∧ m_frM 24 h h') = Q
  generalize hcc : m_hc hop (m_mm h 24) = cc at hQ
  have hcr : ∀ s, s < S → (0 ≤ cc s ∧ cc s ≤ 18) ∧ (0 < cc s → 0 ≤ h 24 0 (12 + s) ∧ h 24 0 (12 + s) < P) := fun s hs => by rw [← hcc]; exact m_hc_r hN hop hs
  have hmP := m_P_eq hN
  have hmS := m_S_eq hN
  obtain ⟨hP5, hS5, hP, hS, hH, hDr, hpl, hsw⟩ := hN.m
  have hlr : ∀ n, n ≤ S → ∀ p, p < P → 0 ≤ m_lf (m_mm h 24) cc n p ∧ m_lf (m_mm h 24) cc n p ≤ h 24 0 (2 + p) := fun n hn => m_lf_r (N := m_mm h 24) (P := P) (c := cc) n (fun s hs h0 => (hcr s (by omega)).2 h0) (fun p hp => (hpl p hp).2.2.1)
  have hLr : ∀ p, p < P → 0 ≤ m_lf (m_mm h 24) cc S p ∧ m_lf (m_mm h 24) cc S p ≤ 99 := fun p hp => by have := hlr S (Nat.le_refl _) p hp; have := (hpl p hp).2.2; omega
  have hmo := m_most_r (m_lf (m_mm h 24) cc S) P
  have loop3 : ∀ h2 : nv_St, m_frM 24 h h2 → (∀ k, k < 2 ∨ 12 ≤ k → h2 24 0 k = h 24 0 k) → (∀ q, q < P → h2 24 0 (2 + q) = m_lf (m_mm h 24) cc S q) → (∀ s, s < S → h2 24 0 (7 + s) = if h 24 0 0 % 3 = 2 ∧ 0 < cc s ∧ 0 < h 24 0 (7 + s) then h 24 0 (7 + s) - 1 else h 24 0 (7 + s)) →
      ∀ i, i ≤ S → ∀ (j : Int) (h1 : nv_St), j = i → m_frM 24 h h1 → (∀ k, ¬ (12 ≤ k ∧ k < 17) → h1 24 0 k = h2 24 0 k) → (∀ s, s < i → h1 24 0 (12 + s) = m_go (fun s => h 24 0 (12 + s)) (m_lf (m_mm h 24) cc S) P s) → (∀ s, i ≤ s → s < 5 → h1 24 0 (12 + s) = h 24 0 (12 + s)) → nv_V M_X6_hourIn 151 [(0, vr 19 0), (1, vr 24 0), (2, vi hop), (3, vi j)] [] h1 Q := by
    intro h2 hf2 hA2 hL2 hT2
    refine m_down ?_ ?_
    · intro j h1 hj hf1 hA hs1 hs2
      have e28 : h1 24 0 28 = S := by rw [hA 28 (by omega), hA2 28 (by omega)]; exact hS
      have e0 : h1 24 0 0 = h 24 0 0 := by rw [hA 0 (by omega), hA2 0 (by omega)]
      refine nv_go ok_X6_hourIn [151] 60 ?_
      refine w_ix 28 rfl (by omega) ?_
      refine w_ic (by omega) (by omega) (fun c => ?_) (fun c => ?_)
      · refine w_ix 0 rfl (by omega) ?_
        refine w_ix 0 rfl (by omega) ?_
        show Q none (nv_up h1 24 0 0 (h1 24 0 0 + 1))
        rw [← hQ]
        have un : ∀ k, k ≠ 0 → nv_up h1 24 0 0 (h1 24 0 0 + 1) 24 0 k = h1 24 0 k := fun k hk => by simp [nv_up, hk]
        refine ⟨rfl, ⟨fun k hk => ?_, fun p hp => ⟨?_, ?_, ?_⟩, fun s hs => ⟨?_, ?_, ?_⟩⟩, fun k hk => ?_, fun t i hn => ?_⟩
        · have : k = 0 ∨ k = 1 ∨ k = 2 ∨ k = 3 := by omega
          rcases this with rfl | rfl | rfl | rfl
          · show nv_up h1 24 0 0 (h1 24 0 0 + 1) 24 0 17 = h 24 0 17
            rw [un 17 (by omega), hA 17 (by omega), hA2 17 (by omega)]
          · show nv_up h1 24 0 0 (h1 24 0 0 + 1) 24 0 28 = h 24 0 28
            rw [un 28 (by omega), hA 28 (by omega), hA2 28 (by omega)]
          · show nv_up h1 24 0 0 (h1 24 0 0 + 1) 24 0 0 = h 24 0 0 + 1
            rw [nv_up_same, e0]
          · show nv_up h1 24 0 0 (h1 24 0 0 + 1) 24 0 1 = h 24 0 1
            rw [un 1 (by omega), hA 1 (by omega), hA2 1 (by omega)]
        · show nv_up h1 24 0 0 (h1 24 0 0 + 1) 24 0 (18 + p) = h 24 0 (18 + p)
          rw [un _ (by omega), hA _ (by omega), hA2 _ (by omega)]
        · show nv_up h1 24 0 0 (h1 24 0 0 + 1) 24 0 (23 + p) = h 24 0 (23 + p)
          rw [un _ (by omega), hA _ (by omega), hA2 _ (by omega)]
        · show nv_up h1 24 0 0 (h1 24 0 0 + 1) 24 0 (2 + p) = m_lf (m_mm h 24) cc (m_S (m_mm h 24)) p
          rw [un _ (by omega), hA _ (by omega), hL2 p hp, hmS]
        · show nv_up h1 24 0 0 (h1 24 0 0 + 1) 24 0 (29 + s) = h 24 0 (29 + s)
          rw [un _ (by omega), hA _ (by omega), hA2 _ (by omega)]
        · show nv_up h1 24 0 0 (h1 24 0 0 + 1) 24 0 (7 + s) = _
          rw [un _ (by omega), hA _ (by omega), hT2 s hs]
          rfl
        · show nv_up h1 24 0 0 (h1 24 0 0 + 1) 24 0 (12 + s) = _
          rw [un _ (by omega), hs1 s hs]
          unfold m_go
          show _ = (if (0 ≤ h 24 0 (12 + s) ∧ m_lf (m_mm h 24) cc (m_S (m_mm h 24)) (h 24 0 (12 + s)).toNat = 0) ∧ ¬ m_most (m_lf (m_mm h 24) cc (m_S (m_mm h 24))) (m_P (m_mm h 24)) = -4 then m_most (m_lf (m_mm h 24) cc (m_S (m_mm h 24))) (m_P (m_mm h 24)) else h 24 0 (12 + s))
          rw [hmS, hmP]
        · rw [un k (by omega), hA k (by omega), hA2 k (by omega)]
        · rw [← hf1 t i hn]; funext k; unfold nv_up; rw [if_neg]; rintro ⟨rfl, rfl, -⟩; exact hn ⟨Or.inl rfl, rfl⟩
      · exact absurd (by show h1 24 0 28 ≤ j; omega) c
    · intro p hp ih j h1 hj hf1 hA hs1 hs2
      have e28 : h1 24 0 28 = S := by rw [hA 28 (by omega), hA2 28 (by omega)]; exact hS
      have e17 : h1 24 0 17 = P := by rw [hA 17 (by omega), hA2 17 (by omega)]; exact hP
      have eL : ∀ q, q < P → h1 24 0 (2 + q) = m_lf (m_mm h 24) cc S q := fun q hq => by rw [hA _ (by omega), hL2 q hq]
      have e12 := hs2 p (by omega) (by omega)
      have hsp := (hsw p hp).2.2
      have hpl1 : ∀ q, q < P → 0 ≤ h1 24 0 (2 + q) ∧ h1 24 0 (2 + q) ≤ 99 := fun q hq => by rw [eL q hq]; exact hLr q hq
      refine nv_go ok_X6_hourIn [151, 204] 60 ?_
      refine w_ix 28 rfl (by omega) ?_
      refine w_ic (by omega) (by omega) (fun c => ?_) (fun c => ?_)
      · exact absurd c (by show ¬ (h1 24 0 28 ≤ j); omega)
      · have h204 : ∀ x y : Int, y = m_go (fun s => h 24 0 (12 + s)) (m_lf (m_mm h 24) cc S) P p → nv_V M_X6_hourIn 204 [(0, vr 19 0), (1, vr 24 0), (2, vi hop), (3, vi j), (4, vi x)] [vi y, vi (12 + j), vr 24 0] h1 Q := by
          intro x y hy
          refine nv_go ok_X6_hourIn [151] 60 ?_
          refine w_ix (12 + p) (by omega) (by omega) ?_
          refine nv_V.take 4 (ih _ _ (by omega) (fun t i hn => ?_) (fun k hk => ?_) (fun s hs => ?_) (fun s hs hs5 => ?_))
          · rw [← hf1 t i hn]; funext k; unfold nv_up; rw [if_neg]; rintro ⟨rfl, rfl, -⟩; exact hn ⟨Or.inl rfl, rfl⟩
          · rw [← hA k hk]; rw [nv_up_ne (by omega)]
          · by_cases e : s = p
            · subst e; simp [nv_up, hy]
            · rw [← hs1 s (by omega)]; rw [nv_up_ne (by omega)]
          · rw [← hs2 s (by omega) hs5]; rw [nv_up_ne (by omega)]
        refine w_ix (12 + p) (by omega) (by omega) ?_
        refine w_ic (by omega) (by omega) (fun c2 => ?_) (fun c2 => ?_)
        · have c2 : h1 24 0 (12 + p) = -4 := c2
          exact h204 _ _ (by unfold m_go; rw [if_neg (fun q => by have z0 : 0 ≤ h 24 0 (12 + p) := q.1.1; omega)]; exact e12)
        · have c2 : ¬ h1 24 0 (12 + p) = -4 := c2
          obtain ⟨q, hq⟩ : ∃ q : Nat, h1 24 0 (12 + p) = q := ⟨(h1 24 0 (12 + p)).toNat, by omega⟩
          have hqP : q < P := by omega
          have hq' : (h 24 0 (12 + p)).toNat = q := by omega
          have hql := hpl1 q hqP
          refine w_ix (2 + q) (by omega) (by omega) ?_
          refine w_if (by omega) (fun c3 => ?_) (fun c3 => ?_)
          · have d3 : m_lf (m_mm h 24) cc S q = 0 := by rw [← eL q hqP]; exact c3
            refine w_call (r_isAll_24 hP5 e17 hpl1) (fun v h' hv => ?_)
            obtain ⟨rfl, rfl⟩ := hv
            have hiff : (∀ p, p < P → h' 24 0 (2 + p) = 0) ↔ m_most (m_lf (m_mm h 24) cc S) P = -4 := by
              rw [m_most_none]
              constructor
              · intro hz p hp; rw [← eL p hp, hz p hp]; decide
              · intro hz p hp; rw [eL p hp]; have := hz p hp; have := (hLr p hp).1; omega
            refine w_if (by have := nv_b01 (decide (∀ p, p < P → h' 24 0 (2 + p) = 0)); omega) (fun c4 => ?_) (fun c4 => ?_)
            · have d4 : ¬ m_most (m_lf (m_mm h 24) cc S) P = -4 := by
                intro hz
                have : nv_b (decide (∀ p, p < P → h' 24 0 (2 + p) = 0)) = 0 := c4
                rw [decide_eq_true (hiff.mpr hz)] at this
                exact absurd this (by decide)
              refine w_call (r_thickestOf_24 hP5 (by omega) e17 hpl1) (fun v h' hv => ?_)
              obtain ⟨rfl, rfl⟩ := hv
              refine h204 _ _ ?_
              unfold m_go
              show _ = (if (0 ≤ h 24 0 (12 + p) ∧ m_lf (m_mm h 24) cc S (h 24 0 (12 + p)).toNat = 0) ∧ _ then _ else _)
              rw [if_pos ⟨⟨by omega, by rw [hq']; exact d3⟩, d4⟩]
              have e1 : m_most (fun p => h' 24 0 (2 + p)) P = m_most (m_lf (m_mm h 24) cc S) P := m_most_eq (fun p hp => eL p hp)
              rcases m_th_most (f := fun p => h' 24 0 (2 + p)) (n := P) (fun p hp => (hpl1 p hp).1) with hz | hz
              · exact absurd (by rw [← e1]; exact hz.1) d4
              · rw [← e1, hz]
            · have d4 : m_most (m_lf (m_mm h 24) cc S) P = -4 := by
                have c5 : ¬ nv_b (decide (∀ p, p < P → h' 24 0 (2 + p) = 0)) = 0 := c4
                refine hiff.mp ?_
                by_cases hz : ∀ p, p < P → h' 24 0 (2 + p) = 0
                · exact hz
                · rw [decide_eq_false hz] at c5; exact absurd rfl c5
              exact h204 _ _ (by unfold m_go; rw [if_neg (fun q => q.2 d4)]; exact e12)
          · have c3 : ¬ h1 24 0 (2 + q) = 0 := c3
            exact h204 _ _ (by
              unfold m_go
              show _ = (if (0 ≤ h 24 0 (12 + p) ∧ m_lf (m_mm h 24) cc S (h 24 0 (12 + p)).toNat = 0) ∧ _ then _ else _)
              rw [if_neg (fun z => c3 (by rw [eL q hqP, ← hq']; exact z.1.2))]; exact e12)
  have loop2 := m_down (n := S) (G := fun p => ∀ (j : Int) (h1 : nv_St), j = p → m_frM 24 h h1 → (∀ s, s < S → h1 28 0 s = cc s) → (∀ k, k < 2 ∨ 12 ≤ k → h1 24 0 k = h 24 0 k) → (∀ q, q < P → h1 24 0 (2 + q) = m_lf (m_mm h 24) cc p q) → (∀ s, s < p → h1 24 0 (7 + s) = if h 24 0 0 % 3 = 2 ∧ 0 < cc s ∧ 0 < h 24 0 (7 + s) then h 24 0 (7 + s) - 1 else h 24 0 (7 + s)) → (∀ s, p ≤ s → s < 5 → h1 24 0 (7 + s) = h 24 0 (7 + s)) → nv_V M_X6_hourIn 41 [(0, vr 19 0), (1, vr 24 0), (2, vi hop), (3, vi j)] [] h1 Q) ?_ ?_
  rotate_left
  · intro j h1 hj hf1 h28 hA hL hT hT2
    have e28 : h1 24 0 28 = S := by rw [hA 28 (by omega)]; exact hS
    refine nv_go ok_X6_hourIn [41, 151] 60 ?_
    refine w_ix 28 rfl (by omega) ?_
    refine w_ic (by omega) (by omega) (fun c => ?_) (fun c => ?_)
    · exact loop3 h1 hf1 hA hL hT 0 (by omega) _ _ rfl hf1 (fun _ _ => rfl) (fun s hs => absurd hs (by omega)) (fun s _ hs => hA _ (by omega))
    · exact absurd (by show h1 24 0 28 ≤ j; omega) c
  · intro p hp ih j h1 hj hf1 h28 hA hL hT hT2
    have e28 : h1 24 0 28 = S := by rw [hA 28 (by omega)]; exact hS
    have e0 : h1 24 0 0 = h 24 0 0 := hA 0 (by omega)
    have e12 : h1 24 0 (12 + p) = h 24 0 (12 + p) := hA _ (by omega)
    have ec := h28 p hp
    have hc := hcr p hp
    obtain ⟨g1, g2, g3⟩ := hsw p hp
    refine nv_go ok_X6_hourIn [41, 102] 60 ?_
    refine w_ix 28 rfl (by omega) ?_
    refine w_ic (by omega) (by omega) (fun c => ?_) (fun c => ?_)
    · exact absurd c (by show ¬ (h1 24 0 28 ≤ j); omega)
    · have h102 : ∀ (x : Int) (h2 : nv_St), m_frM 24 h h2 → (∀ s, s < S → h2 28 0 s = cc s) → (∀ k, k < 2 ∨ 7 ≤ k → h2 24 0 k = h1 24 0 k) → (∀ q, q < P → h2 24 0 (2 + q) = m_lf (m_mm h 24) cc (p + 1) q) → nv_V M_X6_hourIn 102 [(0, vr 19 0), (1, vr 24 0), (2, vi hop), (3, vi j), (4, vi x)] [] h2 Q := by
        intro x h2 hf2 h282 hA2 hL2
        have e7 : h2 24 0 (7 + p) = h 24 0 (7 + p) := by rw [hA2 _ (by omega), hT2 p (by omega) (by omega)]
        have e00 : h2 24 0 0 = h 24 0 0 := by rw [hA2 0 (by omega), e0]
        have ec2 := h282 p hp
        have h141 : ∀ d : Int, d = (if h 24 0 0 % 3 = 2 ∧ 0 < cc p ∧ 0 < h 24 0 (7 + p) then 1 else 0) → nv_V M_X6_hourIn 141 [(0, vr 19 0), (1, vr 24 0), (2, vi hop), (3, vi j), (4, vi x)] [vi d, vi (h2 24 0 (7 + p)), vi (7 + j), vr 24 0] h2 Q := by
          intro d hd
          refine nv_go ok_X6_hourIn [41] 60 ?_
          refine w_ix (7 + p) (by omega) (by omega) ?_
          refine nv_V.take 4 (ih _ _ (by omega) (fun t i hn => ?_) (fun s hs => ?_) (fun k hk => ?_) (fun q hq => ?_) (fun s hs => ?_) (fun s hs hs5 => ?_))
          · rw [← hf2 t i hn]; funext k; unfold nv_up; rw [if_neg]; rintro ⟨rfl, rfl, -⟩; exact hn ⟨Or.inl rfl, rfl⟩
          · rw [← h282 s hs]; simp [nv_up]
          · rw [← hA k hk, ← hA2 k (by omega)]; rw [nv_up_ne (by omega)]
          · rw [← hL2 q hq]; rw [nv_up_ne (by omega)]
          · by_cases e : s = p
            · subst e
              simp only [nv_up, and_self, if_true]
              rw [e7, hd]
              split <;> omega
            · rw [← hT s (by omega), ← hA2 _ (by omega)]; rw [nv_up_ne (by omega)]
          · rw [← hT2 s (by omega) hs5, ← hA2 _ (by omega)]; rw [nv_up_ne (by omega)]
        refine nv_go ok_X6_hourIn [141] 60 ?_
        refine w_ix (7 + p) (by omega) (by omega) ?_
        refine w_ix 0 rfl (by omega) ?_
        refine w_dv (by omega) (by omega) ?_
        refine w_ic (by omega) (by omega) (fun c2 => ?_) (fun c2 => ?_)
        · have c2 : h 24 0 0 % 3 = 2 := by rw [← e00]; exact c2
          refine w_ix p hj (by omega) ?_
          refine w_if (by omega) (fun c3 => ?_) (fun c3 => ?_)
          · have c3 : h2 28 0 p ≤ 0 := c3
            exact h141 _ (by rw [if_neg (by omega)])
          · have c3 : ¬ h2 28 0 p ≤ 0 := c3
            refine w_ix (7 + p) (by omega) (by omega) ?_
            refine w_if (by omega) (fun c4 => ?_) (fun c4 => ?_)
            · have c4 : h2 24 0 (7 + p) ≤ 0 := c4
              exact h141 _ (by rw [if_neg (by omega)])
            · have c4 : ¬ h2 24 0 (7 + p) ≤ 0 := c4
              exact h141 _ (by rw [if_pos (by omega)])
        · have c2 : ¬ h 24 0 0 % 3 = 2 := by rw [← e00]; exact c2
          exact h141 _ (by rw [if_neg (fun q => c2 q.1)])
      refine w_ix (12 + p) (by omega) (by omega) ?_
      refine w_ic (by omega) (by omega) (fun c2 => ?_) (fun c2 => ?_)
      · have c2 : h1 24 0 (12 + p) = -4 := c2
        refine h102 _ h1 hf1 h28 (fun _ _ => rfl) (fun q hq => ?_)
        rw [hL q hq]
        conv => rhs; unfold m_lf; rw [if_neg (fun z => by have := hc.2 z; omega)]
      · have c2 : ¬ h1 24 0 (12 + p) = -4 := c2
        obtain ⟨q, hq⟩ : ∃ q : Nat, h1 24 0 (12 + p) = q := ⟨(h1 24 0 (12 + p)).toNat, by omega⟩
        have hqP : q < P := by omega
        have hq' : (m_mm h 24 6 p).toNat = q := by show (h 24 0 (12 + p)).toNat = q; omega
        have hl1 := hlr p (by omega) q hqP
        have hl9 := (hpl q hqP).2.2
        have eq1 := hL q hqP
        have fin : ∀ y : Int, y = max 0 (m_lf (m_mm h 24) cc p q - cc p) → nv_V M_X6_hourIn 102 [(0, vr 19 0), (1, vr 24 0), (2, vi hop), (3, vi j), (4, vi (h1 24 0 (12 + p)))] [] (nv_up h1 24 0 (2 + q) y) Q := by
          intro y hy
          refine h102 _ _ (fun t i hn => ?_) (fun s hs => ?_) (fun k hk => ?_) (fun q2 hq2 => ?_)
          · rw [← hf1 t i hn]; funext k; unfold nv_up; rw [if_neg]; rintro ⟨rfl, rfl, -⟩; exact hn ⟨Or.inl rfl, rfl⟩
          · rw [← h28 s hs]; simp [nv_up]
          · rw [nv_up_ne (by omega)]
          · conv => rhs; unfold m_lf; rw [hq']
            by_cases e : q2 = q
            · subst e
              simp only [nv_up, and_self, if_true]
              by_cases hz : 0 < cc p
              · rw [if_pos hz]; unfold m_up; rw [if_pos rfl]; exact hy
              · rw [if_neg hz, hy]; omega
            · have e2 : nv_up h1 24 0 (2 + q) y 24 0 (2 + q2) = h1 24 0 (2 + q2) := by rw [nv_up_ne (by omega)]
              rw [e2, hL q2 hq2]
              split
              · unfold m_up; rw [if_neg e]
              · rfl
        refine w_ix (2 + q) (by omega) (by omega) ?_
        refine w_ix p hj (by omega) ?_
        refine w_ic (by omega) (by omega) (fun c3 => ?_) (fun c3 => ?_)
        · have c3 : h1 24 0 (2 + q) ≤ h1 28 0 p := c3
          refine w_ix (2 + q) (by omega) (by omega) ?_
          exact fin _ (by omega)
        · have c3 : ¬ h1 24 0 (2 + q) ≤ h1 28 0 p := c3
          refine w_ix (2 + q) (by omega) (by omega) ?_
          refine w_ix p hj (by omega) ?_
          refine w_ix (2 + q) (by omega) (by omega) ?_
          exact fin _ (by omega)
  have loop1 := m_down (n := S) (G := fun p => ∀ (j : Int) (h1 : nv_St), j = p → (∀ t i, ¬ (t = 28 ∧ i = 0) → h1 t i = h t i) → (∀ s, s < p → h1 28 0 s = cc s) → nv_V M_X6_hourIn 2 [(0, vr 19 0), (1, vr 24 0), (2, vi hop), (3, vi j)] [] h1 Q) ?_ ?_
  rotate_left
  · intro j h1 hj hI h28
    have eC : h1 24 0 = h 24 0 := hI 24 0 (by omega)
    have e28 : h1 24 0 28 = S := by rw [eC]; exact hS
    refine nv_go ok_X6_hourIn [2, 41] 60 ?_
    refine w_ix 28 rfl (by omega) ?_
    refine w_ic (by omega) (by omega) (fun c => ?_) (fun c => ?_)
    · exact loop2 0 (by omega) _ _ rfl (fun t i hn => hI t i (by rintro ⟨rfl, rfl⟩; exact hn ⟨Or.inr rfl, rfl⟩)) h28 (fun k _ => by rw [eC]) (fun q _ => by rw [eC]; rfl) (fun s hs => absurd hs (by omega)) (fun s _ _ => by rw [eC])
    · exact absurd (by show h1 24 0 28 ≤ j; omega) c
  · intro p hp ih j h1 hj hI h28
    subst hj
    have eC : h1 24 0 = h 24 0 := hI 24 0 (by omega)
    have en : m_mm h1 24 = m_mm h 24 := m_mm_ext eC
    have e28 : h1 24 0 28 = S := by rw [eC]; exact hS
    have fin : ∀ y : Int, y = cc p → nv_V M_X6_hourIn 2 [(0, vr 19 0), (1, vr 24 0), (2, vi hop), (3, vi ((p : Int) + 1))] [] (nv_up h1 28 0 p y) Q := by
      intro y hy
      refine ih _ _ (by omega) (fun t i hn => ?_) (fun s hs => ?_)
      · rw [← hI t i hn]; funext k; unfold nv_up; rw [if_neg]; rintro ⟨rfl, rfl, -⟩; exact hn ⟨rfl, rfl⟩
      · by_cases hs2 : s = p
        · subst hs2; simp [nv_up, hy]
        · rw [← h28 s (by omega)]; simp [nv_up, hs2]
    refine nv_go ok_X6_hourIn [2] 60 ?_
    refine w_ix 28 rfl (by omega) ?_
    refine w_ic (by omega) (by omega) (fun c => ?_) (fun c => ?_)
    · exact absurd c (by show ¬ (h1 24 0 28 ≤ (p : Int)); omega)
    · refine w_call (r_has hh0 hh1 (by omega)) (fun v h' hv => ?_)
      obtain ⟨rfl, rfl⟩ := hv
      refine w_if (by have := nv_b01 (m_bit hop p); omega) (fun c2 => ?_) (fun c2 => ?_)
      · have c2 : m_bit hop p = false := by
          have c3 : nv_b (m_bit hop p) = 0 := c2
          revert c3; cases m_bit hop p <;> simp [nv_b]
        refine w_call (r_cuts_24 (P := P) (S := S) (B := B) (by rw [en]; exact hN) hB hp) (fun v h' hv => ?_)
        obtain ⟨rfl, rfl⟩ := hv
        refine w_ix p rfl (by omega) ?_
        exact fin _ (by rw [← hcc, en]; unfold m_hc; rw [c2]; rfl)
      · have c2 : m_bit hop p = true := by
          have c3 : ¬ nv_b (m_bit hop p) = 0 := c2
          revert c3; cases m_bit hop p <;> simp [nv_b]
        refine w_ix p rfl (by omega) ?_
        exact fin _ (by rw [← hcc]; unfold m_hc; rw [c2]; rfl)
  refine nv_R.of rfl rfl (Nat.le_of_ble_eq_true rfl) ?_
  refine nv_go ok_X6_hourIn [2] 20 ?_
  exact loop1 0 (by omega) _ _ rfl (fun _ _ _ => rfl) (fun s hs => absurd hs (by omega))
set_option maxHeartbeats 8000000 in
set_option maxRecDepth 100000 in
theorem r_hourIn_25 {h : nv_St} {P S : Nat} {B : Int} (hN : m_ok (m_mm h 25) P S B) (hB : B < 1073741824) {hop : Int} (hh0 : 0 ≤ hop) (hh1 : hop < 2147483648) :
    nv_R M_X6_hourIn [vr 19 0, vr 25 0, vi hop] h (fun r h' => r = none ∧ m_eq P S (m_mm h' 25) (m_hourC (m_mm h 25) (m_hc hop (m_mm h 25))) ∧ (∀ k, 34 ≤ k → h' 25 0 k = h 25 0 k) ∧ m_frM 25 h h') := by
  generalize hQ : (fun (r : Option nv_AV) (h' : nv_St) => r = none ∧ m_eq P S (m_mm h' 25) (m_hourC (m_mm h 25) (m_hc hop (m_mm h 25))) ∧ (∀ k, 34 ≤ k → h' 25 0 k = h 25 0 k) ∧ m_frM 25 h h') = Q
  generalize hcc : m_hc hop (m_mm h 25) = cc at hQ
  have hcr : ∀ s, s < S → (0 ≤ cc s ∧ cc s ≤ 18) ∧ (0 < cc s → 0 ≤ h 25 0 (12 + s) ∧ h 25 0 (12 + s) < P) := fun s hs => by rw [← hcc]; exact m_hc_r hN hop hs
  have hmP := m_P_eq hN
  have hmS := m_S_eq hN
  obtain ⟨hP5, hS5, hP, hS, hH, hDr, hpl, hsw⟩ := hN.m
  have hlr : ∀ n, n ≤ S → ∀ p, p < P → 0 ≤ m_lf (m_mm h 25) cc n p ∧ m_lf (m_mm h 25) cc n p ≤ h 25 0 (2 + p) := fun n hn => m_lf_r (N := m_mm h 25) (P := P) (c := cc) n (fun s hs h0 => (hcr s (by omega)).2 h0) (fun p hp => (hpl p hp).2.2.1)
  have hLr : ∀ p, p < P → 0 ≤ m_lf (m_mm h 25) cc S p ∧ m_lf (m_mm h 25) cc S p ≤ 99 := fun p hp => by have := hlr S (Nat.le_refl _) p hp; have := (hpl p hp).2.2; omega
  have hmo := m_most_r (m_lf (m_mm h 25) cc S) P
  have loop3 : ∀ h2 : nv_St, m_frM 25 h h2 → (∀ k, k < 2 ∨ 12 ≤ k → h2 25 0 k = h 25 0 k) → (∀ q, q < P → h2 25 0 (2 + q) = m_lf (m_mm h 25) cc S q) → (∀ s, s < S → h2 25 0 (7 + s) = if h 25 0 0 % 3 = 2 ∧ 0 < cc s ∧ 0 < h 25 0 (7 + s) then h 25 0 (7 + s) - 1 else h 25 0 (7 + s)) →
      ∀ i, i ≤ S → ∀ (j : Int) (h1 : nv_St), j = i → m_frM 25 h h1 → (∀ k, ¬ (12 ≤ k ∧ k < 17) → h1 25 0 k = h2 25 0 k) → (∀ s, s < i → h1 25 0 (12 + s) = m_go (fun s => h 25 0 (12 + s)) (m_lf (m_mm h 25) cc S) P s) → (∀ s, i ≤ s → s < 5 → h1 25 0 (12 + s) = h 25 0 (12 + s)) → nv_V M_X6_hourIn 151 [(0, vr 19 0), (1, vr 25 0), (2, vi hop), (3, vi j)] [] h1 Q := by
    intro h2 hf2 hA2 hL2 hT2
    refine m_down ?_ ?_
    · intro j h1 hj hf1 hA hs1 hs2
      have e28 : h1 25 0 28 = S := by rw [hA 28 (by omega), hA2 28 (by omega)]; exact hS
      have e0 : h1 25 0 0 = h 25 0 0 := by rw [hA 0 (by omega), hA2 0 (by omega)]
      refine nv_go ok_X6_hourIn [151] 60 ?_
      refine w_ix 28 rfl (by omega) ?_
      refine w_ic (by omega) (by omega) (fun c => ?_) (fun c => ?_)
      · refine w_ix 0 rfl (by omega) ?_
        refine w_ix 0 rfl (by omega) ?_
        show Q none (nv_up h1 25 0 0 (h1 25 0 0 + 1))
        rw [← hQ]
        have un : ∀ k, k ≠ 0 → nv_up h1 25 0 0 (h1 25 0 0 + 1) 25 0 k = h1 25 0 k := fun k hk => by simp [nv_up, hk]
        refine ⟨rfl, ⟨fun k hk => ?_, fun p hp => ⟨?_, ?_, ?_⟩, fun s hs => ⟨?_, ?_, ?_⟩⟩, fun k hk => ?_, fun t i hn => ?_⟩
        · have : k = 0 ∨ k = 1 ∨ k = 2 ∨ k = 3 := by omega
          rcases this with rfl | rfl | rfl | rfl
          · show nv_up h1 25 0 0 (h1 25 0 0 + 1) 25 0 17 = h 25 0 17
            rw [un 17 (by omega), hA 17 (by omega), hA2 17 (by omega)]
          · show nv_up h1 25 0 0 (h1 25 0 0 + 1) 25 0 28 = h 25 0 28
            rw [un 28 (by omega), hA 28 (by omega), hA2 28 (by omega)]
          · show nv_up h1 25 0 0 (h1 25 0 0 + 1) 25 0 0 = h 25 0 0 + 1
            rw [nv_up_same, e0]
          · show nv_up h1 25 0 0 (h1 25 0 0 + 1) 25 0 1 = h 25 0 1
            rw [un 1 (by omega), hA 1 (by omega), hA2 1 (by omega)]
        · show nv_up h1 25 0 0 (h1 25 0 0 + 1) 25 0 (18 + p) = h 25 0 (18 + p)
          rw [un _ (by omega), hA _ (by omega), hA2 _ (by omega)]
        · show nv_up h1 25 0 0 (h1 25 0 0 + 1) 25 0 (23 + p) = h 25 0 (23 + p)
          rw [un _ (by omega), hA _ (by omega), hA2 _ (by omega)]
        · show nv_up h1 25 0 0 (h1 25 0 0 + 1) 25 0 (2 + p) = m_lf (m_mm h 25) cc (m_S (m_mm h 25)) p
          rw [un _ (by omega), hA _ (by omega), hL2 p hp, hmS]
        · show nv_up h1 25 0 0 (h1 25 0 0 + 1) 25 0 (29 + s) = h 25 0 (29 + s)
          rw [un _ (by omega), hA _ (by omega), hA2 _ (by omega)]
        · show nv_up h1 25 0 0 (h1 25 0 0 + 1) 25 0 (7 + s) = _
          rw [un _ (by omega), hA _ (by omega), hT2 s hs]
          rfl
        · show nv_up h1 25 0 0 (h1 25 0 0 + 1) 25 0 (12 + s) = _
          rw [un _ (by omega), hs1 s hs]
          unfold m_go
          show _ = (if (0 ≤ h 25 0 (12 + s) ∧ m_lf (m_mm h 25) cc (m_S (m_mm h 25)) (h 25 0 (12 + s)).toNat = 0) ∧ ¬ m_most (m_lf (m_mm h 25) cc (m_S (m_mm h 25))) (m_P (m_mm h 25)) = -4 then m_most (m_lf (m_mm h 25) cc (m_S (m_mm h 25))) (m_P (m_mm h 25)) else h 25 0 (12 + s))
          rw [hmS, hmP]
        · rw [un k (by omega), hA k (by omega), hA2 k (by omega)]
        · rw [← hf1 t i hn]; funext k; unfold nv_up; rw [if_neg]; rintro ⟨rfl, rfl, -⟩; exact hn ⟨Or.inl rfl, rfl⟩
      · exact absurd (by show h1 25 0 28 ≤ j; omega) c
    · intro p hp ih j h1 hj hf1 hA hs1 hs2
      have e28 : h1 25 0 28 = S := by rw [hA 28 (by omega), hA2 28 (by omega)]; exact hS
      have e17 : h1 25 0 17 = P := by rw [hA 17 (by omega), hA2 17 (by omega)]; exact hP
      have eL : ∀ q, q < P → h1 25 0 (2 + q) = m_lf (m_mm h 25) cc S q := fun q hq => by rw [hA _ (by omega), hL2 q hq]
      have e12 := hs2 p (by omega) (by omega)
      have hsp := (hsw p hp).2.2
      have hpl1 : ∀ q, q < P → 0 ≤ h1 25 0 (2 + q) ∧ h1 25 0 (2 + q) ≤ 99 := fun q hq => by rw [eL q hq]; exact hLr q hq
      refine nv_go ok_X6_hourIn [151, 204] 60 ?_
      refine w_ix 28 rfl (by omega) ?_
      refine w_ic (by omega) (by omega) (fun c => ?_) (fun c => ?_)
      · exact absurd c (by show ¬ (h1 25 0 28 ≤ j); omega)
      · have h204 : ∀ x y : Int, y = m_go (fun s => h 25 0 (12 + s)) (m_lf (m_mm h 25) cc S) P p → nv_V M_X6_hourIn 204 [(0, vr 19 0), (1, vr 25 0), (2, vi hop), (3, vi j), (4, vi x)] [vi y, vi (12 + j), vr 25 0] h1 Q := by
          intro x y hy
          refine nv_go ok_X6_hourIn [151] 60 ?_
          refine w_ix (12 + p) (by omega) (by omega) ?_
          refine nv_V.take 4 (ih _ _ (by omega) (fun t i hn => ?_) (fun k hk => ?_) (fun s hs => ?_) (fun s hs hs5 => ?_))
          · rw [← hf1 t i hn]; funext k; unfold nv_up; rw [if_neg]; rintro ⟨rfl, rfl, -⟩; exact hn ⟨Or.inl rfl, rfl⟩
          · rw [← hA k hk]; rw [nv_up_ne (by omega)]
          · by_cases e : s = p
            · subst e; simp [nv_up, hy]
            · rw [← hs1 s (by omega)]; rw [nv_up_ne (by omega)]
          · rw [← hs2 s (by omega) hs5]; rw [nv_up_ne (by omega)]
        refine w_ix (12 + p) (by omega) (by omega) ?_
        refine w_ic (by omega) (by omega) (fun c2 => ?_) (fun c2 => ?_)
        · have c2 : h1 25 0 (12 + p) = -4 := c2
          exact h204 _ _ (by unfold m_go; rw [if_neg (fun q => by have z0 : 0 ≤ h 25 0 (12 + p) := q.1.1; omega)]; exact e12)
        · have c2 : ¬ h1 25 0 (12 + p) = -4 := c2
          obtain ⟨q, hq⟩ : ∃ q : Nat, h1 25 0 (12 + p) = q := ⟨(h1 25 0 (12 + p)).toNat, by omega⟩
          have hqP : q < P := by omega
          have hq' : (h 25 0 (12 + p)).toNat = q := by omega
          have hql := hpl1 q hqP
          refine w_ix (2 + q) (by omega) (by omega) ?_
          refine w_if (by omega) (fun c3 => ?_) (fun c3 => ?_)
          · have d3 : m_lf (m_mm h 25) cc S q = 0 := by rw [← eL q hqP]; exact c3
            refine w_call (r_isAll_25 hP5 e17 hpl1) (fun v h' hv => ?_)
            obtain ⟨rfl, rfl⟩ := hv
            have hiff : (∀ p, p < P → h' 25 0 (2 + p) = 0) ↔ m_most (m_lf (m_mm h 25) cc S) P = -4 := by
              rw [m_most_none]
              constructor
              · intro hz p hp; rw [← eL p hp, hz p hp]; decide
              · intro hz p hp; rw [eL p hp]; have := hz p hp; have := (hLr p hp).1; omega
            refine w_if (by have := nv_b01 (decide (∀ p, p < P → h' 25 0 (2 + p) = 0)); omega) (fun c4 => ?_) (fun c4 => ?_)
            · have d4 : ¬ m_most (m_lf (m_mm h 25) cc S) P = -4 := by
                intro hz
                have : nv_b (decide (∀ p, p < P → h' 25 0 (2 + p) = 0)) = 0 := c4
                rw [decide_eq_true (hiff.mpr hz)] at this
                exact absurd this (by decide)
              refine w_call (r_thickestOf_25 hP5 (by omega) e17 hpl1) (fun v h' hv => ?_)
              obtain ⟨rfl, rfl⟩ := hv
              refine h204 _ _ ?_
              unfold m_go
              show _ = (if (0 ≤ h 25 0 (12 + p) ∧ m_lf (m_mm h 25) cc S (h 25 0 (12 + p)).toNat = 0) ∧ _ then _ else _)
              rw [if_pos ⟨⟨by omega, by rw [hq']; exact d3⟩, d4⟩]
              have e1 : m_most (fun p => h' 25 0 (2 + p)) P = m_most (m_lf (m_mm h 25) cc S) P := m_most_eq (fun p hp => eL p hp)
              rcases m_th_most (f := fun p => h' 25 0 (2 + p)) (n := P) (fun p hp => (hpl1 p hp).1) with hz | hz
              · exact absurd (by rw [← e1]; exact hz.1) d4
              · rw [← e1, hz]
            · have d4 : m_most (m_lf (m_mm h 25) cc S) P = -4 := by
                have c5 : ¬ nv_b (decide (∀ p, p < P → h' 25 0 (2 + p) = 0)) = 0 := c4
                refine hiff.mp ?_
                by_cases hz : ∀ p, p < P → h' 25 0 (2 + p) = 0
                · exact hz
                · rw [decide_eq_false hz] at c5; exact absurd rfl c5
              exact h204 _ _ (by unfold m_go; rw [if_neg (fun q => q.2 d4)]; exact e12)
          · have c3 : ¬ h1 25 0 (2 + q) = 0 := c3
            exact h204 _ _ (by
              unfold m_go
              show _ = (if (0 ≤ h 25 0 (12 + p) ∧ m_lf (m_mm h 25) cc S (h 25 0 (12 + p)).toNat = 0) ∧ _ then _ else _)
              rw [if_neg (fun z => c3 (by rw [eL q hqP, ← hq']; exact z.1.2))]; exact e12)
  have loop2 := m_down (n := S) (G := fun p => ∀ (j : Int) (h1 : nv_St), j = p → m_frM 25 h h1 → (∀ s, s < S → h1 28 0 s = cc s) → (∀ k, k < 2 ∨ 12 ≤ k → h1 25 0 k = h 25 0 k) → (∀ q, q < P → h1 25 0 (2 + q) = m_lf (m_mm h 25) cc p q) → (∀ s, s < p → h1 25 0 (7 + s) = if h 25 0 0 % 3 = 2 ∧ 0 < cc s ∧ 0 < h 25 0 (7 + s) then h 25 0 (7 + s) - 1 else h 25 0 (7 + s)) → (∀ s, p ≤ s → s < 5 → h1 25 0 (7 + s) = h 25 0 (7 + s)) → nv_V M_X6_hourIn 41 [(0, vr 19 0), (1, vr 25 0), (2, vi hop), (3, vi j)] [] h1 Q) ?_ ?_
  rotate_left
  · intro j h1 hj hf1 h28 hA hL hT hT2
    have e28 : h1 25 0 28 = S := by rw [hA 28 (by omega)]; exact hS
    refine nv_go ok_X6_hourIn [41, 151] 60 ?_
    refine w_ix 28 rfl (by omega) ?_
    refine w_ic (by omega) (by omega) (fun c => ?_) (fun c => ?_)
    · exact loop3 h1 hf1 hA hL hT 0 (by omega) _ _ rfl hf1 (fun _ _ => rfl) (fun s hs => absurd hs (by omega)) (fun s _ hs => hA _ (by omega))
    · exact absurd (by show h1 25 0 28 ≤ j; omega) c
  · intro p hp ih j h1 hj hf1 h28 hA hL hT hT2
    have e28 : h1 25 0 28 = S := by rw [hA 28 (by omega)]; exact hS
    have e0 : h1 25 0 0 = h 25 0 0 := hA 0 (by omega)
    have e12 : h1 25 0 (12 + p) = h 25 0 (12 + p) := hA _ (by omega)
    have ec := h28 p hp
    have hc := hcr p hp
    obtain ⟨g1, g2, g3⟩ := hsw p hp
    refine nv_go ok_X6_hourIn [41, 102] 60 ?_
    refine w_ix 28 rfl (by omega) ?_
    refine w_ic (by omega) (by omega) (fun c => ?_) (fun c => ?_)
    · exact absurd c (by show ¬ (h1 25 0 28 ≤ j); omega)
    · have h102 : ∀ (x : Int) (h2 : nv_St), m_frM 25 h h2 → (∀ s, s < S → h2 28 0 s = cc s) → (∀ k, k < 2 ∨ 7 ≤ k → h2 25 0 k = h1 25 0 k) → (∀ q, q < P → h2 25 0 (2 + q) = m_lf (m_mm h 25) cc (p + 1) q) → nv_V M_X6_hourIn 102 [(0, vr 19 0), (1, vr 25 0), (2, vi hop), (3, vi j), (4, vi x)] [] h2 Q := by
        intro x h2 hf2 h282 hA2 hL2
        have e7 : h2 25 0 (7 + p) = h 25 0 (7 + p) := by rw [hA2 _ (by omega), hT2 p (by omega) (by omega)]
        have e00 : h2 25 0 0 = h 25 0 0 := by rw [hA2 0 (by omega), e0]
        have ec2 := h282 p hp
        have h141 : ∀ d : Int, d = (if h 25 0 0 % 3 = 2 ∧ 0 < cc p ∧ 0 < h 25 0 (7 + p) then 1 else 0) → nv_V M_X6_hourIn 141 [(0, vr 19 0), (1, vr 25 0), (2, vi hop), (3, vi j), (4, vi x)] [vi d, vi (h2 25 0 (7 + p)), vi (7 + j), vr 25 0] h2 Q := by
          intro d hd
          refine nv_go ok_X6_hourIn [41] 60 ?_
          refine w_ix (7 + p) (by omega) (by omega) ?_
          refine nv_V.take 4 (ih _ _ (by omega) (fun t i hn => ?_) (fun s hs => ?_) (fun k hk => ?_) (fun q hq => ?_) (fun s hs => ?_) (fun s hs hs5 => ?_))
          · rw [← hf2 t i hn]; funext k; unfold nv_up; rw [if_neg]; rintro ⟨rfl, rfl, -⟩; exact hn ⟨Or.inl rfl, rfl⟩
          · rw [← h282 s hs]; simp [nv_up]
          · rw [← hA k hk, ← hA2 k (by omega)]; rw [nv_up_ne (by omega)]
          · rw [← hL2 q hq]; rw [nv_up_ne (by omega)]
          · by_cases e : s = p
            · subst e
              simp only [nv_up, and_self, if_true]
              rw [e7, hd]
              split <;> omega
            · rw [← hT s (by omega), ← hA2 _ (by omega)]; rw [nv_up_ne (by omega)]
          · rw [← hT2 s (by omega) hs5, ← hA2 _ (by omega)]; rw [nv_up_ne (by omega)]
        refine nv_go ok_X6_hourIn [141] 60 ?_
        refine w_ix (7 + p) (by omega) (by omega) ?_
        refine w_ix 0 rfl (by omega) ?_
        refine w_dv (by omega) (by omega) ?_
        refine w_ic (by omega) (by omega) (fun c2 => ?_) (fun c2 => ?_)
        · have c2 : h 25 0 0 % 3 = 2 := by rw [← e00]; exact c2
          refine w_ix p hj (by omega) ?_
          refine w_if (by omega) (fun c3 => ?_) (fun c3 => ?_)
          · have c3 : h2 28 0 p ≤ 0 := c3
            exact h141 _ (by rw [if_neg (by omega)])
          · have c3 : ¬ h2 28 0 p ≤ 0 := c3
            refine w_ix (7 + p) (by omega) (by omega) ?_
            refine w_if (by omega) (fun c4 => ?_) (fun c4 => ?_)
            · have c4 : h2 25 0 (7 + p) ≤ 0 := c4
              exact h141 _ (by rw [if_neg (by omega)])
            · have c4 : ¬ h2 25 0 (7 + p) ≤ 0 := c4
              exact h141 _ (by rw [if_pos (by omega)])
        · have c2 : ¬ h 25 0 0 % 3 = 2 := by rw [← e00]; exact c2
          exact h141 _ (by rw [if_neg (fun q => c2 q.1)])
      refine w_ix (12 + p) (by omega) (by omega) ?_
      refine w_ic (by omega) (by omega) (fun c2 => ?_) (fun c2 => ?_)
      · have c2 : h1 25 0 (12 + p) = -4 := c2
        refine h102 _ h1 hf1 h28 (fun _ _ => rfl) (fun q hq => ?_)
        rw [hL q hq]
        conv => rhs; unfold m_lf; rw [if_neg (fun z => by have := hc.2 z; omega)]
      · have c2 : ¬ h1 25 0 (12 + p) = -4 := c2
        obtain ⟨q, hq⟩ : ∃ q : Nat, h1 25 0 (12 + p) = q := ⟨(h1 25 0 (12 + p)).toNat, by omega⟩
        have hqP : q < P := by omega
        have hq' : (m_mm h 25 6 p).toNat = q := by show (h 25 0 (12 + p)).toNat = q; omega
        have hl1 := hlr p (by omega) q hqP
        have hl9 := (hpl q hqP).2.2
        have eq1 := hL q hqP
        have fin : ∀ y : Int, y = max 0 (m_lf (m_mm h 25) cc p q - cc p) → nv_V M_X6_hourIn 102 [(0, vr 19 0), (1, vr 25 0), (2, vi hop), (3, vi j), (4, vi (h1 25 0 (12 + p)))] [] (nv_up h1 25 0 (2 + q) y) Q := by
          intro y hy
          refine h102 _ _ (fun t i hn => ?_) (fun s hs => ?_) (fun k hk => ?_) (fun q2 hq2 => ?_)
          · rw [← hf1 t i hn]; funext k; unfold nv_up; rw [if_neg]; rintro ⟨rfl, rfl, -⟩; exact hn ⟨Or.inl rfl, rfl⟩
          · rw [← h28 s hs]; simp [nv_up]
          · rw [nv_up_ne (by omega)]
          · conv => rhs; unfold m_lf; rw [hq']
            by_cases e : q2 = q
            · subst e
              simp only [nv_up, and_self, if_true]
              by_cases hz : 0 < cc p
              · rw [if_pos hz]; unfold m_up; rw [if_pos rfl]; exact hy
              · rw [if_neg hz, hy]; omega
            · have e2 : nv_up h1 25 0 (2 + q) y 25 0 (2 + q2) = h1 25 0 (2 + q2) := by rw [nv_up_ne (by omega)]
              rw [e2, hL q2 hq2]
              split
              · unfold m_up; rw [if_neg e]
              · rfl
        refine w_ix (2 + q) (by omega) (by omega) ?_
        refine w_ix p hj (by omega) ?_
        refine w_ic (by omega) (by omega) (fun c3 => ?_) (fun c3 => ?_)
        · have c3 : h1 25 0 (2 + q) ≤ h1 28 0 p := c3
          refine w_ix (2 + q) (by omega) (by omega) ?_
          exact fin _ (by omega)
        · have c3 : ¬ h1 25 0 (2 + q) ≤ h1 28 0 p := c3
          refine w_ix (2 + q) (by omega) (by omega) ?_
          refine w_ix p hj (by omega) ?_
          refine w_ix (2 + q) (by omega) (by omega) ?_
          exact fin _ (by omega)
  have loop1 := m_down (n := S) (G := fun p => ∀ (j : Int) (h1 : nv_St), j = p → (∀ t i, ¬ (t = 28 ∧ i = 0) → h1 t i = h t i) → (∀ s, s < p → h1 28 0 s = cc s) → nv_V M_X6_hourIn 2 [(0, vr 19 0), (1, vr 25 0), (2, vi hop), (3, vi j)] [] h1 Q) ?_ ?_
  rotate_left
  · intro j h1 hj hI h28
    have eC : h1 25 0 = h 25 0 := hI 25 0 (by omega)
    have e28 : h1 25 0 28 = S := by rw [eC]; exact hS
    refine nv_go ok_X6_hourIn [2, 41] 60 ?_
    refine w_ix 28 rfl (by omega) ?_
    refine w_ic (by omega) (by omega) (fun c => ?_) (fun c => ?_)
    · exact loop2 0 (by omega) _ _ rfl (fun t i hn => hI t i (by rintro ⟨rfl, rfl⟩; exact hn ⟨Or.inr rfl, rfl⟩)) h28 (fun k _ => by rw [eC]) (fun q _ => by rw [eC]; rfl) (fun s hs => absurd hs (by omega)) (fun s _ _ => by rw [eC])
    · exact absurd (by show h1 25 0 28 ≤ j; omega) c
  · intro p hp ih j h1 hj hI h28
    subst hj
    have eC : h1 25 0 = h 25 0 := hI 25 0 (by omega)
    have en : m_mm h1 25 = m_mm h 25 := m_mm_ext eC
    have e28 : h1 25 0 28 = S := by rw [eC]; exact hS
    have fin : ∀ y : Int, y = cc p → nv_V M_X6_hourIn 2 [(0, vr 19 0), (1, vr 25 0), (2, vi hop), (3, vi ((p : Int) + 1))] [] (nv_up h1 28 0 p y) Q := by
      intro y hy
      refine ih _ _ (by omega) (fun t i hn => ?_) (fun s hs => ?_)
      · rw [← hI t i hn]; funext k; unfold nv_up; rw [if_neg]; rintro ⟨rfl, rfl, -⟩; exact hn ⟨rfl, rfl⟩
      · by_cases hs2 : s = p
        · subst hs2; simp [nv_up, hy]
        · rw [← h28 s (by omega)]; simp [nv_up, hs2]
    refine nv_go ok_X6_hourIn [2] 60 ?_
    refine w_ix 28 rfl (by omega) ?_
    refine w_ic (by omega) (by omega) (fun c => ?_) (fun c => ?_)
    · exact absurd c (by show ¬ (h1 25 0 28 ≤ (p : Int)); omega)
    · refine w_call (r_has hh0 hh1 (by omega)) (fun v h' hv => ?_)
      obtain ⟨rfl, rfl⟩ := hv
      refine w_if (by have := nv_b01 (m_bit hop p); omega) (fun c2 => ?_) (fun c2 => ?_)
      · have c2 : m_bit hop p = false := by
          have c3 : nv_b (m_bit hop p) = 0 := c2
          revert c3; cases m_bit hop p <;> simp [nv_b]
        refine w_call (r_cuts_25 (P := P) (S := S) (B := B) (by rw [en]; exact hN) hB hp) (fun v h' hv => ?_)
        obtain ⟨rfl, rfl⟩ := hv
        refine w_ix p rfl (by omega) ?_
        exact fin _ (by rw [← hcc, en]; unfold m_hc; rw [c2]; rfl)
      · have c2 : m_bit hop p = true := by
          have c3 : ¬ nv_b (m_bit hop p) = 0 := c2
          revert c3; cases m_bit hop p <;> simp [nv_b]
        refine w_ix p rfl (by omega) ?_
        exact fin _ (by rw [← hcc]; unfold m_hc; rw [c2]; rfl)
  refine nv_R.of rfl rfl (Nat.le_of_ble_eq_true rfl) ?_
  refine nv_go ok_X6_hourIn [2] 20 ?_
  exact loop1 0 (by omega) _ _ rfl (fun _ _ _ => rfl) (fun s hs => absurd hs (by omega))
