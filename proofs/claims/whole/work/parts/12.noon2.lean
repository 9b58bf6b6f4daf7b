/-! ===== the noon's hour ===== -/
set_option maxRecDepth 100000 in
theorem r_plankMostLeft {h : nv_St} {o P : Nat} (hP5 : P ≤ 5) (hP : h 0 o 0 = P) (hpl : ∀ p, p < P → 0 ≤ h 3 o p ∧ h 3 o p ≤ 99) : nv_R M_X0_plankMostLeft [vr 0 o] h (fun r h' => h' = h ∧ r = some (vi (m_most (h 3 o) P))) := by
  refine nv_R.of rfl rfl (Nat.le_of_ble_eq_true rfl) ?_
  have loop := m_down (n := P) (G := fun p => ∀ j x : Int, j = p → x = m_most (h 3 o) p → nv_V M_X0_plankMostLeft 5 [(0, vr 0 o), (1, vi x), (2, vi j)] [] h (fun r h' => h' = h ∧ r = some (vi (m_most (h 3 o) P)))) ?_ ?_
  · refine nv_go ok_X0_plankMostLeft [5] 10 ?_
    exact loop 0 (by omega) _ _ rfl rfl
  · intro j x hj hx
    have hr := m_most_r (h 3 o) P
    refine nv_go ok_X0_plankMostLeft [5] 30 ?_
    refine w_ic (by omega) (by omega) (fun c => ?_) (fun c => ?_)
    · exact ⟨rfl, by rw [hx]⟩
    · exact absurd (by show h 0 o 0 ≤ j; omega) c
  · intro p hp ih j x hj hx
    have hr := m_most_r (h 3 o) p
    have h1 := hpl p hp
    refine nv_go ok_X0_plankMostLeft [5] 40 ?_
    refine w_ic (by omega) (by omega) (fun c => ?_) (fun c => ?_)
    · exact absurd c (by show ¬ (h 0 o 0 ≤ j); omega)
    · refine w_ix p hj (by omega) ?_
      refine w_if (by omega) (fun c2 => ?_) (fun c2 => ?_)
      · have c2 : h 3 o p ≤ 0 := c2
        exact ih _ _ (by omega) (by rw [hx]; conv => rhs; unfold m_most; rw [if_neg (by omega)])
      · have c2 : ¬ h 3 o p ≤ 0 := c2
        refine w_ic (by omega) (by omega) (fun c3 => ?_) (fun c3 => ?_)
        · have c3 : x = -4 := c3
          exact ih _ _ (by omega) (by rw [hj]; conv => rhs; unfold m_most; rw [if_pos ⟨by omega, Or.inl (by omega)⟩])
        · have c3 : ¬ x = -4 := c3
          obtain ⟨q, hq⟩ : ∃ q : Nat, x = q := ⟨x.toNat, by omega⟩
          have hq' : (m_most (h 3 o) p).toNat = q := by omega
          have h2 := hpl q (by omega)
          refine w_ix p hj (by omega) ?_
          refine w_ix q hq (by omega) ?_
          refine w_ic (by omega) (by omega) (fun c4 => ?_) (fun c4 => ?_)
          · have c4 : h 3 o p ≤ h 3 o q := c4
            exact ih _ _ (by omega) (by rw [hx]; conv => rhs; unfold m_most; rw [hq', if_neg (by omega)])
          · have c4 : ¬ h 3 o p ≤ h 3 o q := c4
            exact ih _ _ (by omega) (by rw [hj]; conv => rhs; unfold m_most; rw [hq', if_pos ⟨by omega, Or.inr (by omega)⟩])
set_option maxRecDepth 100000 in
theorem r_growBlunt {h : nv_St} {o S : Nat} (hS5 : S ≤ 5) (hS : h 0 o 1 = S) (hsw : ∀ s, s < S → (0 ≤ h 5 o s ∧ h 5 o s ≤ 9) ∧ nv_InR (h 7 o s)) : nv_R M_X0_growBlunt [vr 0 o] h (fun r h' => r = none ∧ (∀ t i, ¬ (t = 5 ∧ i = o) → h' t i = h t i) ∧ ∀ s, s < S → h' 5 o s = if 0 < h 7 o s ∧ 0 < h 5 o s then h 5 o s - 1 else h 5 o s) := by
  refine nv_R.of rfl rfl (Nat.le_of_ble_eq_true rfl) ?_
  have loop := m_down (n := S) (G := fun p => ∀ (j : Int) (h1 : nv_St), j = p → ((∀ t i, ¬ (t = 5 ∧ i = o) → h1 t i = h t i) ∧ (∀ s, s < p → h1 5 o s = if 0 < h 7 o s ∧ 0 < h 5 o s then h 5 o s - 1 else h 5 o s) ∧ ∀ s, p ≤ s → h1 5 o s = h 5 o s) → nv_V M_X0_growBlunt 2 [(0, vr 0 o), (1, vi j)] [] h1 (fun r h' => r = none ∧ (∀ t i, ¬ (t = 5 ∧ i = o) → h' t i = h t i) ∧ ∀ s, s < S → h' 5 o s = if 0 < h 7 o s ∧ 0 < h 5 o s then h 5 o s - 1 else h 5 o s)) ?_ ?_
  · refine nv_go ok_X0_growBlunt [2] 10 ?_
    exact loop 0 (by omega) _ _ rfl ⟨fun _ _ _ => rfl, fun s hs => absurd hs (by omega), fun _ _ => rfl⟩
  · intro j h1 hj hI
    have e0 : h1 0 o 1 = S := by rw [hI.1 0 o (by omega)]; exact hS
    refine nv_go ok_X0_growBlunt [2] 30 ?_
    refine w_ic (by omega) (by omega) (fun c => ?_) (fun c => ?_)
    · exact ⟨rfl, hI.1, hI.2.1⟩
    · exact absurd (by show h1 0 o 1 ≤ j; omega) c
  · intro p hp ih j h1 hj hI
    have e0 : h1 0 o 1 = S := by rw [hI.1 0 o (by omega)]; exact hS
    have e7 : h1 7 o p = h 7 o p := by rw [hI.1 7 o (by omega)]
    have e5 : h1 5 o p = h 5 o p := hI.2.2 p (by omega)
    obtain ⟨a1, a2⟩ := hsw p hp
    refine nv_go ok_X0_growBlunt [2] 30 ?_
    refine w_ic (by omega) (by omega) (fun c => ?_) (fun c => ?_)
    · exact absurd c (by show ¬ (h1 0 o 1 ≤ j); omega)
    · have skip : ¬ (0 < h 7 o p ∧ 0 < h 5 o p) → (∀ s, s < p + 1 → h1 5 o s = if 0 < h 7 o s ∧ 0 < h 5 o s then h 5 o s - 1 else h 5 o s) ∧ ∀ s, p + 1 ≤ s → h1 5 o s = h 5 o s := by
        intro hn
        refine ⟨fun s hs => ?_, fun s hs => hI.2.2 s (by omega)⟩
        by_cases hsp : s = p
        · rw [hsp, if_neg hn]; exact e5
        · exact hI.2.1 s (by omega)
      refine w_ix p hj (by omega) ?_
      refine w_if (by rw [e7]; exact a2) (fun c2 => ?_) (fun c2 => ?_)
      · have c2 : h1 7 o p ≤ 0 := c2
        exact ih _ _ (by omega) ⟨hI.1, skip (by omega)⟩
      · have c2 : ¬ h1 7 o p ≤ 0 := c2
        refine w_ix p hj (by omega) ?_
        refine w_if (by omega) (fun c3 => ?_) (fun c3 => ?_)
        · have c3 : h1 5 o p ≤ 0 := c3
          exact ih _ _ (by omega) ⟨hI.1, skip (by omega)⟩
        · have c3 : ¬ h1 5 o p ≤ 0 := c3
          refine w_ix p hj (by omega) ?_
          refine w_ix p hj (by omega) ?_
          refine ih _ _ (by omega) ⟨fun t i hn => ?_, fun s hs => ?_, fun s hs => ?_⟩
          · rw [← hI.1 t i hn]; funext k; unfold nv_up; rw [if_neg]; rintro ⟨rfl, rfl, -⟩; exact hn ⟨rfl, rfl⟩
          · by_cases hsp : s = p
            · rw [hsp, if_pos ⟨by omega, by omega⟩]
              simp only [nv_up, and_self, if_true]
              omega
            · rw [← hI.2.1 s (by omega)]; simp [nv_up, hsp]
          · rw [← hI.2.2 s (by omega)]; simp [nv_up, show ¬ s = p by omega]
theorem m_ex_iff (f : Nat → Bool) : ∀ n, m_ex f n = true ↔ ∃ i, i < n ∧ f i = true
  | 0 => by simp [m_ex]
  | n + 1 => by
    unfold m_ex
    rw [Bool.or_eq_true, m_ex_iff f n]
    constructor
    · rintro (⟨i, h1, h2⟩ | h)
      · exact ⟨i, by omega, h2⟩
      · exact ⟨n, by omega, h⟩
    · rintro ⟨i, h1, h2⟩
      by_cases e : i = n
      · exact Or.inr (e ▸ h2)
      · exact Or.inl ⟨i, by omega, h2⟩
/-- who sits on a fallen plank goes to the one of which most is left -/
def m_go (f6 f3 : Nat → Int) (P s : Nat) : Int := if (0 ≤ f6 s ∧ f3 (f6 s).toNat = 0) ∧ ¬ m_most f3 P = -4 then m_most f3 P else f6 s
def m_goes (f6 f3 : Nat → Int) (P S : Nat) : Bool := m_ex (fun s => decide (0 ≤ f6 s ∧ f3 (f6 s).toNat = 0)) S && decide (¬ m_most f3 P = -4)
set_option maxHeartbeats 2000000 in
set_option maxRecDepth 100000 in
theorem r_leaveFallen {h : nv_St} {o P S : Nat} (hP5 : P ≤ 5) (hS5 : S ≤ 5) (hP : h 0 o 0 = P) (hS : h 0 o 1 = S) (hpl : ∀ p, p < P → 0 ≤ h 3 o p ∧ h 3 o p ≤ 99) (hsw : ∀ s, s < S → (h 6 o s = -4 ∨ (0 ≤ h 6 o s ∧ h 6 o s < P))) :
    nv_R M_X0_leaveFallen [vr 0 o] h (fun r h' => r = some (vi (nv_b (m_goes (h 6 o) (h 3 o) P S))) ∧ (∀ t i, ¬ (t = 6 ∧ i = o) → h' t i = h t i) ∧ ∀ s, s < S → h' 6 o s = m_go (h 6 o) (h 3 o) P s) := by
  have hr := m_most_r (h 3 o) P
  generalize hQ : (fun (r : Option nv_AV) (h' : nv_St) => r = some (vi (nv_b (m_goes (h 6 o) (h 3 o) P S))) ∧ (∀ t i, ¬ (t = 6 ∧ i = o) → h' t i = h t i) ∧ ∀ s, s < S → h' 6 o s = m_go (h 6 o) (h 3 o) P s) = Q
  refine nv_R.of rfl rfl (Nat.le_of_ble_eq_true rfl) ?_
  have loop := m_down (n := S) (G := fun p => ∀ (j x : Int) (h1 : nv_St), j = p → ((∀ t i, ¬ (t = 6 ∧ i = o) → h1 t i = h t i) ∧ (∀ s, s < p → h1 6 o s = m_go (h 6 o) (h 3 o) P s) ∧ ∀ s, p ≤ s → h1 6 o s = h 6 o s) → x = (if m_ex (fun s => decide (0 ≤ h 6 o s ∧ h 3 o (h 6 o s).toNat = 0)) p = true then m_most (h 3 o) P else -4) → (m_ex (fun s => decide (0 ≤ h 6 o s ∧ h 3 o (h 6 o s).toNat = 0)) p = true → ¬ m_most (h 3 o) P = -4) → nv_V M_X0_leaveFallen 5 [(0, vr 0 o), (1, vi x), (2, vi j)] [] h1 Q) ?_ ?_
  · refine nv_go ok_X0_leaveFallen [5] 10 ?_
    exact loop 0 (by omega) _ _ _ rfl ⟨fun _ _ _ => rfl, fun s hs => absurd hs (by omega), fun _ _ => rfl⟩ rfl (fun h => absurd h (by simp [m_ex]))
  · intro j x h1 hj hI hx hE
    have e0 : h1 0 o 1 = S := by rw [hI.1 0 o (by omega)]; exact hS
    refine nv_go ok_X0_leaveFallen [5] 30 ?_
    refine w_ic (by omega) (by omega) (fun c => ?_) (fun c => ?_)
    · refine w_ic (by rw [hx]; split <;> omega) (by omega) (fun c2 => ?_) (fun c2 => ?_)
      · have c2 : x = -4 := c2
        refine And.intro (Or.inl rfl) ?_
        rw [← hQ]
        refine ⟨?_, hI.1, hI.2.1⟩
        have e1 : m_ex (fun s => decide (0 ≤ h 6 o s ∧ h 3 o (h 6 o s).toNat = 0)) S = false := by
          cases he : m_ex (fun s => decide (0 ≤ h 6 o s ∧ h 3 o (h 6 o s).toNat = 0)) S with
          | false => rfl
          | true => exact absurd (by rw [he, if_pos rfl] at hx; omega) (hE he)
        unfold m_goes; rw [e1]; rfl
      · have c2 : ¬ x = -4 := c2
        refine And.intro (Or.inr rfl) ?_
        rw [← hQ]
        refine ⟨?_, hI.1, hI.2.1⟩
        have e1 : m_ex (fun s => decide (0 ≤ h 6 o s ∧ h 3 o (h 6 o s).toNat = 0)) S = true := by
          cases he : m_ex (fun s => decide (0 ≤ h 6 o s ∧ h 3 o (h 6 o s).toNat = 0)) S with
          | true => rfl
          | false => rw [he] at hx; exact absurd hx c2
        unfold m_goes; rw [e1, decide_eq_true (hE e1)]; rfl
    · exact absurd (by show h1 0 o 1 ≤ j; omega) c
  · intro p hp ih j x h1 hj hI hx hE
    have e0 : h1 0 o 1 = S := by rw [hI.1 0 o (by omega)]; exact hS
    have eP : h1 0 o 0 = P := by rw [hI.1 0 o (by omega)]; exact hP
    have e3 : h1 3 o = h 3 o := hI.1 3 o (by omega)
    have e6 : h1 6 o p = h 6 o p := hI.2.2 p (by omega)
    have hsp := hsw p hp
    refine nv_go ok_X0_leaveFallen [5, 51] 30 ?_
    refine w_ic (by omega) (by omega) (fun c => ?_) (fun c => ?_)
    · exact absurd c (by show ¬ (h1 0 o 1 ≤ j); omega)
    · have skip : ¬ (0 ≤ h 6 o p ∧ h 3 o (h 6 o p).toNat = 0) → nv_V M_X0_leaveFallen 5 [(0, vr 0 o), (1, vi x), (2, vi (j + 1))] [] h1 Q := by
        intro hn
        have em : m_ex (fun s => decide (0 ≤ h 6 o s ∧ h 3 o (h 6 o s).toNat = 0)) (p + 1) = m_ex (fun s => decide (0 ≤ h 6 o s ∧ h 3 o (h 6 o s).toNat = 0)) p := by
          conv => lhs; unfold m_ex
          rw [decide_eq_false hn, Bool.or_false]
        refine ih _ _ _ (by omega) ⟨hI.1, fun s hs => ?_, fun s hs => hI.2.2 s (by omega)⟩ (by rw [em]; exact hx) (by rw [em]; exact hE)
        by_cases hs2 : s = p
        · rw [hs2, e6]; unfold m_go; rw [if_neg (fun q => hn q.1)]
        · exact hI.2.1 s (by omega)
      refine w_ix p hj (by omega) ?_
      refine w_if (by omega) (fun c2 => ?_) (fun c2 => ?_)
      · have c2 : h1 6 o p < 0 := c2
        exact skip (by omega)
      · have c2 : ¬ h1 6 o p < 0 := c2
        obtain ⟨q, hq⟩ : ∃ q : Nat, h1 6 o p = q := ⟨(h1 6 o p).toNat, by omega⟩
        have hq' : (h 6 o p).toNat = q := by omega
        have hql := hpl q (by omega)
        refine w_ix p hj (by omega) ?_
        refine w_ix q hq (by omega) ?_
        refine w_if (by rw [e3]; omega) (fun c3 => ?_) (fun c3 => ?_)
        · have c3 : h 3 o q = 0 := by rw [← e3]; exact c3
          have hyes : 0 ≤ h 6 o p ∧ h 3 o (h 6 o p).toNat = 0 := ⟨by omega, by rw [hq']; exact c3⟩
          have em : m_ex (fun s => decide (0 ≤ h 6 o s ∧ h 3 o (h 6 o s).toNat = 0)) (p + 1) = true := by
            unfold m_ex
            rw [decide_eq_true hyes, Bool.or_true]
          have h51 : ∀ y, y = m_most (h 3 o) P → nv_V M_X0_leaveFallen 51 [(0, vr 0 o), (1, vi y), (2, vi j)] [] h1 Q := by
            intro y hy
            refine nv_go ok_X0_leaveFallen [5] 30 ?_
            refine w_ic (by omega) (by omega) (fun c4 => ?_) (fun c4 => ?_)
            · have c4 : m_most (h 3 o) P = -4 := by rw [← hy]; exact c4
              refine And.intro (Or.inl rfl) ?_
              rw [← hQ]
              refine ⟨by simp [m_goes, c4, nv_b], hI.1, fun s hs => ?_⟩
              by_cases hs2 : s < p
              · exact hI.2.1 s hs2
              · rw [hI.2.2 s (by omega)]; unfold m_go; rw [if_neg (fun q => q.2 c4)]
            · have c4 : ¬ m_most (h 3 o) P = -4 := by rw [← hy]; exact c4
              refine w_ix p hj (by omega) ?_
              refine ih _ _ _ (by omega) ⟨fun t i hn => ?_, fun s hs => ?_, fun s hs => ?_⟩ (by rw [em, if_pos rfl]; exact hy) (fun _ => c4)
              · rw [← hI.1 t i hn]; funext k; unfold nv_up; rw [if_neg]; rintro ⟨rfl, rfl, -⟩; exact hn ⟨rfl, rfl⟩
              · by_cases hs2 : s = p
                · rw [hs2]
                  unfold m_go
                  rw [if_pos ⟨hyes, c4⟩]
                  simp [nv_up, hy]
                · rw [← hI.2.1 s (by omega)]; simp [nv_up, hs2]
              · rw [← hI.2.2 s (by omega)]; simp [nv_up, show ¬ s = p by omega]
          refine w_ic (by rw [hx]; split <;> omega) (by omega) (fun c4 => ?_) (fun c4 => ?_)
          · refine w_call (r_plankMostLeft hP5 eP (by rw [e3]; exact hpl)) (fun v h' hv => ?_)
            obtain ⟨rfl, rfl⟩ := hv
            exact h51 _ (by rw [e3])
          · have c4 : ¬ x = -4 := c4
            have : x = m_most (h 3 o) P := by
              rw [hx] at c4 ⊢
              split
              · rfl
              · next hn => rw [if_neg hn] at c4; exact absurd rfl c4
            exact h51 _ this
        · have c3 : ¬ h 3 o q = 0 := by rw [← e3]; exact c3
          exact skip (fun hy => c3 (by rw [← hq']; exact hy.2))
