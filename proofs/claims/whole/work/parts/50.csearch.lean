/-! ===== the class's search: weigh, make; best, most ===== -/
def m_cw (x : Int) : Int := if x = 99 then 61 else x
def c_bst (h : nv_St) (i : Nat) (w mv : Nat → Int) (P S k : Nat) : Prop := h 8 i 5 = (if k = 0 then 62 else m_cw (m_best w mv k).1) ∧ h 8 i 6 = (if k = 0 then 6 else (m_best w mv k).2.1) ∧ (0 < k → ∀ s, s < S → h 10 i s = m_wseat P S (m_best w mv k).2.2 s)
theorem m_find_cut {f : Nat → Bool} : ∀ {d d' n : Nat}, d ≤ d' → m_find f d n = if m_find f d' n < ((n + d : Nat) : Int) then m_find f d' n else -4
  | 0, d', n, _ => by
    have := m_find_r (f := f) (d := d') (n := n)
    show (-4 : Int) = _
    split <;> omega
  | d + 1, 0, n, h => absurd h (by omega)
  | d + 1, d' + 1, n, h => by
    have ih := m_find_cut (f := f) (d := d) (d' := d') (n := n + 1) (by omega)
    unfold m_find
    by_cases e : f n = true
    · rw [if_pos e, if_pos e, if_pos (by omega)]
    · rw [if_neg e, if_neg e, ih, show n + 1 + d = n + (d + 1) by omega]
theorem m_nw_dec {N : m_NN} {P lim : Nat} {L v : Int} (hL0 : 0 ≤ L) (hlim : min 60 L = (lim : Int)) (hv : v = if m_noon N P = -4 then 99 else m_noon N P) : (m_nw N P lim ≤ L → m_nw N P lim = m_cw v) ∧ (m_nw N P lim ≤ L ↔ m_cw v ≤ L) ∧ nv_InR (m_nw N P lim) := by
  have hr : m_noon N P = -4 ∨ (((0 : Nat) : Int) ≤ m_noon N P ∧ m_noon N P < ((0 : Nat) : Int) + ((61 : Nat) : Int)) := m_find_r (f := fun n => m_all (m_it n N) P) (d := 61) (n := 0)
  have hc := m_find_cut (f := fun n => m_all (m_it n N) P) (d := lim + 1) (d' := 61) (n := 0) (by omega)
  have e : m_find (fun n => m_all (m_it n N) P) 61 0 = m_noon N P := rfl
  rw [e] at hc
  have hw : m_nw N P lim = if m_find (fun n => m_all (m_it n N) P) (lim + 1) 0 = -4 then 61 else m_find (fun n => m_all (m_it n N) P) (lim + 1) 0 := rfl
  rw [hw, hc, hv]
  generalize m_noon N P = r at hr
  unfold m_cw
  by_cases h1 : r = -4
  · subst h1
    simp
    omega
  · rw [if_neg h1]
    by_cases h2 : r < ((0 + (lim + 1) : Nat) : Int)
    · rw [if_pos h2, if_neg h1, if_neg (by omega)]
      omega
    · rw [if_neg h2, if_pos rfl, if_neg (by omega)]
      omega
theorem m_dec {w mv : Nat → Int} {k : Nat} {W V L : Int} (hw : ∀ k, 0 ≤ w k ∧ (w k ≤ 60 ∨ w k = 99)) (hm : ∀ k, 0 ≤ mv k ∧ mv k ≤ 5) (hW : W = if k = 0 then 62 else m_cw (m_best w mv k).1) (hV : V = if k = 0 then 6 else (m_best w mv k).2.1) (hL : L = if mv k < V then W else W - 1) :
    (m_cw (w k) ≤ L → m_best w mv (k + 1) = (w k, mv k, k)) ∧ (¬ m_cw (w k) ≤ L → m_best w mv (k + 1) = m_best w mv k ∧ 0 < k) := by
  have hk := hw k
  have hmk := hm k
  have hr := m_best_r hw hm k
  have e : m_best w mv (k + 1) = if w k < (m_best w mv k).1 ∨ (w k = (m_best w mv k).1 ∧ mv k < (m_best w mv k).2.1) then (w k, mv k, k) else m_best w mv k := rfl
  rw [e]
  by_cases h0 : k = 0
  · rw [if_pos h0] at hW hV
    have e1 : (m_best w mv k).1 = 100 := by rw [h0]; rfl
    refine ⟨fun _ => if_pos (Or.inl (by omega)), fun hn => absurd ?_ hn⟩
    rw [hL, hV, if_pos (by omega), hW]
    unfold m_cw
    split <;> omega
  · rw [if_neg h0] at hW hV
    obtain ⟨r1, r2⟩ := hr (by omega)
    generalize hb : m_best w mv k = b at *
    obtain ⟨b1, b2, b3⟩ := b
    have r1 : 0 ≤ b1 ∧ (b1 ≤ 60 ∨ b1 = 99) := r1
    have r2 : 0 ≤ b2 ∧ b2 ≤ 5 := r2
    have hW : W = m_cw b1 := hW
    have hV : V = b2 := hV
    show (_ → (if w k < b1 ∨ (w k = b1 ∧ mv k < b2) then (w k, mv k, k) else (b1, b2, b3)) = _) ∧ (_ → (if w k < b1 ∨ (w k = b1 ∧ mv k < b2) then (w k, mv k, k) else (b1, b2, b3)) = _ ∧ _)
    have key : m_cw (w k) ≤ L ↔ (w k < b1 ∨ (w k = b1 ∧ mv k < b2)) := by
      rw [hL, hW, hV]
      unfold m_cw
      by_cases c1 : w k = 99 <;> by_cases c2 : b1 = 99 <;> by_cases c3 : mv k < b2 <;> simp [c1, c2, c3] <;> omega
    refine ⟨fun q => if_pos (key.mp q), fun q => ⟨if_neg (fun z => q (key.mpr z)), by omega⟩⟩
theorem m_mc_le {N N' : m_NN} {P S : Nat} (h4 : ∀ s, s < S → N 4 s = N' 4 s ∧ N 5 s = N' 5 s ∧ 0 ≤ N 5 s ∧ N 5 s ≤ 9) (h2 : ∀ p, p < P → N 2 p = N' 2 p ∧ 0 ≤ N 2 p ∧ N 2 p ≤ 9) : m_mc N P S ≤ m_mc N' P S :=
  m_sum_mono (fun s hs => m_mcs_mono (h4 s hs).1 (by have := h4 s hs; omega) h2 (Nat.le_refl _))
def m_fs (i : Nat) (h h' : nv_St) : Prop := ∀ t q, ¬ (t < 8 ∧ q = 1) → ¬ (t = 8 ∧ q = i) → ¬ (t = 10 ∧ q = i) → h' t q = h t q
theorem m_wayN_st {h : nv_St} {N : m_NN} {P S k : Nat} (h2 : m_eq P S (m_nn h 1) (m_wayN N P S k)) : c_st h 1 N P S :=
  ⟨h2.1 0 (by omega), h2.1 1 (by omega), fun p hp => ⟨(h2.2.1 p hp).1, (h2.2.1 p hp).2.1⟩, fun s hs => (h2.2.2 s hs).1⟩
set_option maxHeartbeats 2000000 in
set_option maxRecDepth 100000 in
theorem r_weigh {h : nv_St} {i P S k hrs : Nat} {N : m_NN} {w mv : Nat → Int} (hi : i < 2) (hP1 : 1 ≤ P) (hNe : m_nn h (19 + i) = N) (hN : m_ok N P S 9999) (hww : w = m_wv N P S hrs) (hmm : mv = m_mv N P S) (hh : hrs ≤ 30) (h4 : h 8 i 4 = hrs) (h7 : m_mc N P S ≤ h 8 i 7 ∧ h 8 i 7 ≤ 90) (hst : c_st h 1 N P S) (hse : ∀ s, s < S → h 9 i s = m_wseat P S k s) (hb : c_bst h i w mv P S k) :
    nv_R M_X2_weigh [vr 8 i, vr 0 1] h (fun r h' => r = none ∧ c_bst h' i w mv P S (k + 1) ∧ c_st h' 1 N P S ∧ m_fs i h h' ∧ ∀ q, q ≠ 5 → q ≠ 6 → h' 8 i q = h 8 i q) := by
  obtain ⟨hP5, hS5, hP, hS, hH, hDr, hpl, hsw⟩ := id hN
  have hw : ∀ k, 0 ≤ w k ∧ (w k ≤ 60 ∨ w k = 99) := fun k => by rw [hww]; exact ⟨(m_wv_r hP5).1, (m_wv_r hP5).2.1⟩
  have hm : ∀ k, 0 ≤ mv k ∧ mv k ≤ 5 := fun k => by rw [hmm]; exact m_mv_r hS5
  have eS : h 0 (19 + i) 1 = S := (congrFun (congrFun hNe 0) 1).trans hS
  have e6 : ∀ s, h 6 (19 + i) s = N 6 s := fun s => congrFun (congrFun hNe 6) s
  have hr6 : ∀ s, s < S → nv_InR (h 6 (19 + i) s) := fun s hs => by rw [e6]; have := (hsw s hs).2.2; omega
  have hr9 : ∀ s, s < S → nv_InR (h 9 i s) := fun s hs => by rw [hse s hs]; have := m_wseat_r (P := P) (S := S) (k := k) (s := s) hP1; omega
  have hmv : m_sum (fun s => if h 9 i s = h 6 (19 + i) s then 0 else 1) S = mv k := by
    rw [hmm]
    exact m_sum_eq (fun s hs => by rw [hse s hs, e6])
  have hbr := m_best_r hw hm k
  have hWr : 0 ≤ h 8 i 5 ∧ h 8 i 5 ≤ 62 := by
    rw [hb.1]
    by_cases e : k = 0
    · rw [if_pos e]; omega
    · rw [if_neg e]; have := (hbr (by omega)).1; unfold m_cw; split <;> omega
  have hVr : 0 ≤ h 8 i 6 ∧ h 8 i 6 ≤ 6 := by
    rw [hb.2.1]
    by_cases e : k = 0
    · rw [if_pos e]; omega
    · rw [if_neg e]; have := (hbr (by omega)).2; omega
  generalize hQ : (fun (r : Option nv_AV) (h' : nv_St) => r = none ∧ c_bst h' i w mv P S (k + 1) ∧ c_st h' 1 N P S ∧ m_fs i h h' ∧ ∀ q, q ≠ 5 → q ≠ 6 → h' 8 i q = h 8 i q) = Q
  refine nv_R.of rfl rfl (Nat.le_of_ble_eq_true rfl) ?_
  have keep : ∀ h3 : nv_St, m_best w mv (k + 1) = m_best w mv k → 0 < k → m_fr 1 h h3 → c_st h3 1 N P S → Q none h3 := by
    intro h3 e k0 hf hc
    rw [← hQ]
    have e8 : h3 8 i = h 8 i := hf 8 i (by omega)
    have e10 : h3 10 i = h 10 i := hf 10 i (by omega)
    refine ⟨rfl, ⟨?_, ?_, fun _ => ?_⟩, hc, fun t q a1 a2 a3 => hf t q a1, fun q _ _ => by rw [e8]⟩
    · rw [e8, e, hb.1, if_neg (by omega), if_neg (by omega)]
    · rw [e8, e, hb.2.1, if_neg (by omega), if_neg (by omega)]
    · rw [e10, e]; exact hb.2.2 k0
  have j86 : ∀ (x L y : Int) (h3 : nv_St), x = mv k → L = (if mv k < h 8 i 6 then h 8 i 5 else h 8 i 5 - 1) → (y ≤ L → y = m_cw (w k)) → (y ≤ L ↔ m_cw (w k) ≤ L) → nv_InR y → m_fr 1 h h3 → c_st h3 1 N P S → nv_V M_X2_weigh 86 [(0, vr 8 i), (1, vr 0 1), (2, vi x), (3, vi L)] [vi y] h3 Q := by
    intro x L y h3 hx hL hy1 hy2 hyr hf hc
    obtain ⟨d1, d2⟩ := m_dec hw hm hb.1 hb.2.1 hL
    have e9 : h3 9 i = h 9 i := hf 9 i (by omega)
    refine nv_go ok_X2_weigh [] 60 ?_
    refine w_ic hyr (by rw [hL]; split <;> omega) (fun c => ?_) (fun c => ?_)
    · have c : L < y := c
      obtain ⟨a1, a2⟩ := d2 (fun q => by have := hy2.mpr q; omega)
      exact keep h3 a1 a2 hf hc
    · have c : ¬ L < y := c
      have e := d1 (hy2.mp (by omega))
      refine w_cp 0 0 5 rfl rfl rfl (by decide) (by decide) ?_
      show Q _ _
      rw [← hQ]
      refine ⟨rfl, ⟨?_, ?_, fun _ s hs => ?_⟩, ⟨?_, ?_, fun p hp => ⟨?_, ?_⟩, fun s hs => ?_⟩, fun t q a1 a2 a3 => ?_, fun q a1 a2 => ?_⟩
      · rw [e, if_neg (by omega), ← hy1 (by omega)]; simp [nv_row, nv_up]
      · rw [e, if_neg (by omega), ← hx]; simp [nv_row, nv_up]
      · rw [e]
        have : nv_row (nv_up (nv_up h3 8 i 5 y) 8 i 6 x) 10 i (va_cpy (nv_up (nv_up h3 8 i 5 y) 8 i 6 x 9 i) (nv_up (nv_up h3 8 i 5 y) 8 i 6 x 10 i) 0 0 5) 10 i s = h3 9 i s := by
          simp [nv_row, nv_up, va_cpy, show s < 5 by omega]
        rw [← hse s hs, ← e9]
        exact this
      · rw [← hc.1]; simp [nv_row, nv_up]
      · rw [← hc.2.1]; simp [nv_row, nv_up]
      · rw [← (hc.2.2.1 p hp).1]; simp [nv_row, nv_up]
      · rw [← (hc.2.2.1 p hp).2]; simp [nv_row, nv_up]
      · rw [← hc.2.2.2 s hs]; simp [nv_row, nv_up]
      · rw [← hf t q a1]
        funext z
        unfold nv_row nv_up
        rw [if_neg (by omega), if_neg (by omega), if_neg (by omega)]
      · rw [← congrFun (hf 8 i (by omega)) q]
        simp [nv_row, nv_up, a1, a2]
  have j54 : ∀ (x L : Int) (h2 : nv_St), x = mv k → L = (if mv k < h 8 i 6 then h 8 i 5 else h 8 i 5 - 1) → 0 ≤ L → m_fr 1 h h2 → m_eq P S (m_nn h2 1) (m_wayN N P S k) → nv_V M_X2_weigh 54 [(0, vr 8 i), (1, vr 0 1), (2, vi x), (3, vi L)] [] h2 Q := by
    intro x L h2 hx hL hL0 hf he
    have hokw := m_wayN_ok (k := k) hP1 hN
    have hok2 := he.ok hokw
    have e8 : h2 8 i = h 8 i := hf 8 i (by omega)
    have e4 : h2 8 i 4 = hrs := by rw [e8]; exact h4
    have e7 : h2 8 i 7 = h 8 i 7 := by rw [e8]
    have hLr : L ≤ 62 := by rw [hL]; split <;> omega
    have hcst := m_wayN_st he
    refine nv_go ok_X2_weigh [86] 40 ?_
    refine w_if (by omega) (fun c => ?_) (fun c => ?_)
    · have c : h2 8 i 4 ≤ 0 := c
      have h0 : hrs = 0 := by omega
      obtain ⟨lim, hlim⟩ : ∃ lim : Nat, min 60 L = (lim : Int) := ⟨(min 60 L).toNat, by omega⟩
      have hmc : m_mc (m_nn h2 1) P S ≤ h2 8 i 7 := by
        rw [e7]
        refine Int.le_trans (m_mc_le (N' := N) (fun s hs => ?_) (fun p hp => ?_)) h7.1
        · have a1 := he.2.2 s hs
          have a2 := (hok2.2.2.2.2.2.2.2 s hs).2.1
          exact ⟨a1.1, a1.2.1, a2.1, a2.2⟩
        · have a1 := he.2.1 p hp
          have a2 := (hok2.2.2.2.2.2.2.1 p hp).2.1
          exact ⟨a1.2.1, a2.1, a2.2⟩
      have hwk : w k = if m_noon (m_nn h2 1) P = -4 then 99 else m_noon (m_nn h2 1) P := by
        rw [hww, m_noon_eq he hok2]
        unfold m_wv
        rw [if_pos h0]
      obtain ⟨q1, q2, q3⟩ := m_nw_dec (N := m_nn h2 1) (P := P) hL0 hlim hwk
      refine w_mx (by omega) (by omega) ?_
      refine w_call (P' := fun r h' => m_fr 1 h2 h' ∧ (∃ n : Nat, m_eq P S (m_nn h' 1) (m_it n (m_nn h2 1))) ∧ r = some (vi (m_nw (m_nn h2 1) P lim))) (by rw [hlim]; exact r_noonWithin2 hok2 (by omega) (by omega) hmc (by omega)) (fun r h3 hr => ?_)
      obtain ⟨hf3, hex, rfl⟩ := hr
      exact j86 x L _ h3 hx hL q1 q2 q3 (hf.trans' hf3) (c_st.of hex hcst)
    · have c : ¬ h2 8 i 4 ≤ 0 := c
      have hwk : m_std (m_nn h2 1) P hrs = w k := by
        rw [hww, m_std_eq he hok2]
        unfold m_wv
        rw [if_neg (by omega)]
      have h60 : w k ≤ 60 := by rw [hww]; exact (m_wv_r hP5).2.2 (by omega)
      have hcw : m_cw (w k) = w k := by unfold m_cw; rw [if_neg (by omega)]
      have h0w := (hw k).1
      refine w_call (P' := fun r h' => m_fr 1 h2 h' ∧ (∃ n : Nat, m_eq P S (m_nn h' 1) (m_it n (m_nn h2 1))) ∧ r = some (vi (m_std (m_nn h2 1) P hrs))) (by show nv_R M_X0_standingBehind [vr 0 1, vi (h2 8 i 4)] h2 _; rw [e4]; exact r_standingBehind2 hok2 (by omega) (by omega)) (fun r h3 hr => ?_)
      obtain ⟨hf3, hex, rfl⟩ := hr
      exact j86 x L _ h3 hx hL (fun _ => by rw [hwk, hcw]) (by rw [hwk, hcw]) (by rw [hwk]; omega) (hf.trans' hf3) (c_st.of hex hcst)
  have j26 : ∀ x L : Int, x = mv k → L = (if mv k < h 8 i 6 then h 8 i 5 else h 8 i 5 - 1) → nv_V M_X2_weigh 26 [(0, vr 8 i), (1, vr 0 1), (2, vi x)] [vi L] h Q := by
    intro x L hx hL
    have hLr : -1 ≤ L ∧ L ≤ 62 := by rw [hL]; split <;> omega
    refine nv_go ok_X2_weigh [54] 40 ?_
    refine w_if (by omega) (fun c => ?_) (fun c => ?_)
    · have c : 0 ≤ L := c
      refine w_call (r_takeMoment (o := 1) (b := 19 + i)) (fun r h1 hr => ?_)
      obtain ⟨rfl, f1, ⟨a0, a1, a2, a3⟩, ⟨b1, b2, b4⟩, hj⟩ := hr
      refine w_cp 0 0 5 rfl rfl rfl (by decide) (by decide) ?_
      refine j54 x L _ hx hL c (f1.row (by decide)) ?_
      have r9 : h1 9 i = h 9 i := f1 9 i (by omega)
      refine ⟨fun j hj4 => ?_, fun p hp => ⟨?_, ?_, ?_⟩, fun s hs => ⟨?_, ?_, ?_⟩⟩
      · have : j = 0 ∨ j = 1 ∨ j = 2 ∨ j = 3 := by omega
        rcases this with rfl | rfl | rfl | rfl
        · show nv_row h1 6 1 (va_cpy (h1 9 i) (h1 6 1) 0 0 5) 0 1 0 = N 0 0
          rw [← hst.1, ← a0]; simp [nv_row]
        · show nv_row h1 6 1 (va_cpy (h1 9 i) (h1 6 1) 0 0 5) 0 1 1 = N 0 1
          rw [← hst.2.1, ← a1]; simp [nv_row]
        · show nv_row h1 6 1 (va_cpy (h1 9 i) (h1 6 1) 0 0 5) 0 1 2 = N 0 2
          rw [← hNe]; show _ = h 0 (19 + i) 2; rw [← a2]; simp [nv_row]
        · show nv_row h1 6 1 (va_cpy (h1 9 i) (h1 6 1) 0 0 5) 0 1 3 = N 0 3
          rw [← hNe]; show _ = h 0 (19 + i) 3; rw [← a3]; simp [nv_row]
      · show nv_row h1 6 1 (va_cpy (h1 9 i) (h1 6 1) 0 0 5) 1 1 p = N 1 p
        rw [← (hst.2.2.1 p hp).1, ← b1]; simp [nv_row]
      · show nv_row h1 6 1 (va_cpy (h1 9 i) (h1 6 1) 0 0 5) 2 1 p = N 2 p
        rw [← (hst.2.2.1 p hp).2, ← b2]; simp [nv_row]
      · show nv_row h1 6 1 (va_cpy (h1 9 i) (h1 6 1) 0 0 5) 3 1 p = N 3 p
        rw [← hNe]; show _ = h 3 (19 + i) p; rw [← (hj p (by omega)).1]; simp [nv_row]
      · show nv_row h1 6 1 (va_cpy (h1 9 i) (h1 6 1) 0 0 5) 4 1 s = N 4 s
        rw [← hst.2.2.2 s hs, ← b4]; simp [nv_row]
      · show nv_row h1 6 1 (va_cpy (h1 9 i) (h1 6 1) 0 0 5) 5 1 s = N 5 s
        rw [← hNe]; show _ = h 5 (19 + i) s; rw [← (hj s (by omega)).2.1]; simp [nv_row]
      · show nv_row h1 6 1 (va_cpy (h1 9 i) (h1 6 1) 0 0 5) 6 1 s = m_wseat P S k s
        rw [← hse s hs, ← r9]; simp [nv_row, va_cpy, show s < 5 by omega]
    · have c : ¬ 0 ≤ L := c
      have hc0 := hw k
      obtain ⟨d1, d2⟩ := m_dec hw hm hb.1 hb.2.1 hL
      obtain ⟨a1, a2⟩ := d2 (by unfold m_cw; split <;> omega)
      exact keep h a1 a2 m_fr.rfl' hst
  have j4 : ∀ x : Int, x = mv k → nv_V M_X2_weigh 4 [(0, vr 8 i), (1, vr 0 1)] [vi x] h Q := by
    intro x hx
    have hmk := hm k
    refine nv_go ok_X2_weigh [26] 40 ?_
    refine w_ic (by omega) (by omega) (fun c => ?_) (fun c => ?_)
    · have c : h 8 i 6 ≤ x := c
      exact j26 x _ hx (by rw [if_neg (by omega)])
    · have c : ¬ h 8 i 6 ≤ x := c
      exact j26 x _ hx (by rw [if_pos (by omega)])
  refine nv_go ok_X2_weigh [4] 10 ?_
  refine w_call (r_movesNow hS5 eS (fun s hs => ⟨hr9 s hs, hr6 s hs⟩)) (fun r h1 hr => ?_)
  obtain ⟨rfl, rfl⟩ := hr
  exact j4 _ hmv
