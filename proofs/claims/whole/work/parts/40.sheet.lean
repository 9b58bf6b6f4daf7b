/-! ===== sheets: the class ===== -/
abbrev a_sl (a : a_S) : Nat → Int := a.2.2.2.1
abbrev a_sn (a : a_S) : Nat → Int := a.2.2.2.2.1
abbrev a_si (a : a_S) : Nat → Nat → Int := a.2.2.2.2.2
def a_wS (a : a_S) (s : Nat) (l n : Int) (f : Nat → Int) : a_S := (a.1, a.2.1, a.2.2.1, (fun q => if q = s then l else a_sl a q), (fun q => if q = s then n else a_sn a q), (fun q => if q = s then f else a_si a q))
def a_lk (ln i n : Int) : Bool := decide (n < 0) || (decide (i < 0) || decide (ln - n < i))
theorem a_lk_f {ln i n : Int} (h : a_lk ln i n = false) : 0 ≤ n ∧ 0 ≤ i ∧ i + n ≤ ln := by
  unfold a_lk at h
  rw [Bool.or_eq_false_iff, Bool.or_eq_false_iff, decide_eq_false_iff_not, decide_eq_false_iff_not, decide_eq_false_iff_not] at h
  omega
def a_ref (a : a_S) (s : Nat) (l i n : Int) : Int := if a_sl a s = -1 then -11 else if ¬ a_sl a s = l then -12 else if a_lk (a_sn a s) i n = true then -13 else 0
def a_nar (l v : Int) : Int := if l = 0 then (Int32.ofInt (nv_b8 v)).toInt else if l = 1 then (Int32.ofInt (nv_s16 v)).toInt else if l = 2 then (Int32.ofInt v).toInt else v
theorem a_nar_r {l v : Int} (hv : nv_InL v) : nv_InL (a_nar l v) := by
  have k : ∀ z : Int32, nv_InL z.toInt := fun z => by
    have h1 := Int32.le_toInt z
    have h2 := Int32.toInt_lt z
    exact ⟨by omega, by omega⟩
  unfold a_nar
  split
  · exact k _
  · split
    · exact k _
    · split
      · exact k _
      · exact hv
theorem a_ref_r (a : a_S) (s : Nat) (l i n : Int) : a_ref a s l i n = 0 ∨ (-13 ≤ a_ref a s l i n ∧ a_ref a s l i n ≤ -11) := by
  unfold a_ref
  split
  · omega
  · split
    · omega
    · split <;> omega
theorem a_ref_0 {a : a_S} {s : Nat} {l i n : Int} (h : a_ref a s l i n = 0) : ¬ a_sl a s = -1 ∧ a_sl a s = l ∧ a_lk (a_sn a s) i n = false := by
  unfold a_ref at h
  by_cases h1 : a_sl a s = -1
  · rw [if_pos h1] at h; omega
  · rw [if_neg h1] at h
    by_cases h2 : a_sl a s = l
    · rw [if_neg (by simp [h2])] at h
      refine ⟨h1, h2, ?_⟩
      cases hb : a_lk (a_sn a s) i n with
      | false => rfl
      | true => rw [hb, if_pos rfl] at h; omega
    · rw [if_pos h2] at h; omega
def c_fs (s : Nat) (h h' : nv_St) : Prop := ∀ t i, ¬ ((t = 16 ∨ t = 17) ∧ i = s) → ¬ (t < 8 ∧ i = 1) → h' t i = h t i
theorem c_fs.rfl' {s : Nat} {h : nv_St} : c_fs s h h := fun _ _ _ _ => rfl
theorem c_fs.trans' {s : Nat} {h h1 h2 : nv_St} (a : c_fs s h h1) (b : c_fs s h1 h2) : c_fs s h h2 := fun t i x y => (b t i x y).trans (a t i x y)
theorem m_fr.s {s : Nat} {h h' : nv_St} (a : m_fr 1 h h') : c_fs s h h' := fun t i _ y => a t i y
theorem c_fs.up {s : Nat} {h h1 : nv_St} (a : c_fs s h h1) {t j : Nat} {x : Int} (ht : t = 16 ∨ t = 17) : c_fs s h (nv_up h1 t s j x) := by
  intro t' i hx hy
  rw [← a t' i hx hy]
  funext q
  unfold nv_up
  rw [if_neg]
  rintro ⟨rfl, rfl, -⟩
  exact hx ⟨ht, rfl⟩
theorem c_fs.hi {s : Nat} {h h' : nv_St} (hf : c_fs s h h') : ∀ t i, 19 ≤ t → h' t i = h t i := fun t i ht => hf t i (by omega) (by omega)
theorem CI.wS {h h' : nv_St} {a : a_S} (C : CI h a) {s : Nat} {l n : Int} {f : Nat → Int} (hs : s < 4) (hf : c_fs s h h') (h1 : h' 16 s 1 = l) (h2 : h' 16 s 2 = n) (hl : -1 ≤ l ∧ l ≤ 3) (hn : 0 ≤ n ∧ n ≤ 24) (hk : ∀ k, k < 24 → 0 ≤ l → h' 17 s k = f k ∧ nv_InL (f k)) : CI h' (a_wS a s l n f) := by
  obtain ⟨k1, k2, k3, k4, k5, k6⟩ := C
  refine ⟨k1.kept (fun t _ => hf t 0 (by omega) (by omega)) (hf 11 0 (by omega) (by omega)) (fun t q _ _ => hf t _ (by omega) (by omega)), k2.kept (hf 18 0 (by omega) (by omega)) (fun t _ => hf t 2 (by omega) (by omega)) (hf 11 1 (by omega) (by omega)) (fun t q _ _ => hf t _ (by omega) (by omega)),
    k3.kept (by rw [hf 13 0 (by omega) (by omega)]) (hf 14 0 (by omega) (by omega)), ?_, k5.kept (hf 8 0 (by omega) (by omega)) (hf 10 0 (by omega) (by omega)) (fun t _ => hf t 19 (by omega) (by omega)), k6.kept (hf 8 1 (by omega) (by omega)) (hf 10 1 (by omega) (by omega)) (fun t _ => hf t 20 (by omega) (by omega))⟩
  intro q hq
  show h' 16 q 1 = (if q = s then l else a_sl a q) ∧ h' 16 q 2 = (if q = s then n else a_sn a q) ∧ (-1 ≤ (if q = s then l else a_sl a q) ∧ (if q = s then l else a_sl a q) ≤ 3) ∧ (0 ≤ (if q = s then n else a_sn a q) ∧ (if q = s then n else a_sn a q) ≤ 24) ∧ ∀ k, k < 24 → 0 ≤ (if q = s then l else a_sl a q) → h' 17 q k = (if q = s then f else a_si a q) k ∧ nv_InL ((if q = s then f else a_si a q) k)
  by_cases e : q = s
  · subst e
    simp only [if_true]
    exact ⟨h1, h2, hl, hn, hk⟩
  · simp only [if_neg e]
    rw [hf 16 q (by omega) (by omega), hf 17 q (by omega) (by omega)]
    exact k4 q hq
section nvS3
variable {h : nv_St} {a : a_S}
theorem CI.sh (C : CI h a) {s : Nat} (hs : s < 4) : h 16 s 1 = a_sl a s ∧ h 16 s 2 = a_sn a s ∧ (-1 ≤ a_sl a s ∧ a_sl a s ≤ 3) ∧ (0 ≤ a_sn a s ∧ a_sn a s ≤ 24) ∧ ∀ k, k < 24 → 0 ≤ a_sl a s → h 17 s k = a_si a s k ∧ nv_InL (a_si a s k) := C.2.2.2.1 s hs
set_option maxRecDepth 100000 in
theorem r_noSheet {v : Int} (hv : nv_InR v) : nv_R M_X5_noSheet [vi v] h (fun r h' => h' = h ∧ r = some (vi (nv_b (a_out v 0 3)))) := by
  refine nv_R.of rfl rfl (Nat.le_of_ble_eq_true rfl) ?_
  refine nv_go ok_X5_noSheet [] 30 ?_
  refine w_call (r_outA hv (by omega) (by omega)) (fun r h' hr => ?_)
  obtain ⟨rfl, rfl⟩ := hr
  exact And.intro (nv_b01 _) ⟨rfl, rfl⟩
set_option maxRecDepth 100000 in
theorem r_noLane {v : Int} (hv : nv_InR v) : nv_R M_X5_noLane [vi v] h (fun r h' => h' = h ∧ r = some (vi (nv_b (a_out v 0 3)))) := by
  refine nv_R.of rfl rfl (Nat.le_of_ble_eq_true rfl) ?_
  refine nv_go ok_X5_noLane [] 30 ?_
  refine w_call (r_outA hv (by omega) (by omega)) (fun r h' hr => ?_)
  obtain ⟨rfl, rfl⟩ := hr
  exact And.intro (nv_b01 _) ⟨rfl, rfl⟩
set_option maxRecDepth 100000 in
theorem r_isNothing {s : Nat} (hl : -1 ≤ h 16 s 1 ∧ h 16 s 1 ≤ 3) : nv_R M_X3_isNothing [vr 16 s] h (fun r h' => h' = h ∧ r = some (vi (nv_b (decide (h 16 s 1 = -1))))) := by
  refine nv_R.of rfl rfl (Nat.le_of_ble_eq_true rfl) ?_
  refine nv_go ok_X3_isNothing [] 30 ?_
  refine w_ic (by omega) (by omega) (fun c => ?_) (fun c => ?_)
  · exact And.intro (Or.inr rfl) ⟨rfl, by rw [decide_eq_true (show h 16 s 1 = -1 from c)]; rfl⟩
  · exact And.intro (Or.inl rfl) ⟨rfl, by rw [decide_eq_false (show ¬ h 16 s 1 = -1 from c)]; rfl⟩
set_option maxRecDepth 100000 in
theorem r_lacks {s : Nat} {i n : Int} (hl : 0 ≤ h 16 s 2 ∧ h 16 s 2 ≤ 24) (hi : nv_InR i) (hn : nv_InR n) : nv_R M_X3_lacks [vr 16 s, vi i, vi n] h (fun r h' => h' = h ∧ r = some (vi (nv_b (a_lk (h 16 s 2) i n)))) := by
  refine nv_R.of rfl rfl (Nat.le_of_ble_eq_true rfl) ?_
  refine nv_go ok_X3_lacks [] 30 ?_
  unfold a_lk
  refine w_if hn (fun c => ?_) (fun c => ?_)
  · have c : n < 0 := c
    exact And.intro (Or.inr rfl) ⟨rfl, by rw [decide_eq_true c]; rfl⟩
  · have c : ¬ n < 0 := c
    refine w_if hi (fun c2 => ?_) (fun c2 => ?_)
    · have c2 : i < 0 := c2
      exact And.intro (Or.inr rfl) ⟨rfl, by rw [decide_eq_true c2, decide_eq_false c]; rfl⟩
    · have c2 : ¬ i < 0 := c2
      refine w_ic hi (by omega) (fun c3 => ?_) (fun c3 => ?_)
      · have c3 : i ≤ h 16 s 2 - n := c3
        exact And.intro (Or.inl rfl) ⟨rfl, by rw [decide_eq_false c, decide_eq_false c2, decide_eq_false (show ¬ h 16 s 2 - n < i by omega)]; rfl⟩
      · have c3 : ¬ i ≤ h 16 s 2 - n := c3
        exact And.intro (Or.inr rfl) ⟨rfl, by rw [decide_eq_false c, decide_eq_false c2, decide_eq_true (show h 16 s 2 - n < i by omega)]; rfl⟩
set_option maxRecDepth 100000 in
theorem r_refusal (C : CI h a) {s : Nat} (hs : s < 4) {l i n : Int} (hl : nv_InR l) (hi : nv_InR i) (hn : nv_InR n) : nv_R M_X3_refusal [vr 16 s, vi l, vi i, vi n] h (fun r h' => h' = h ∧ r = some (vi (a_ref a s l i n))) := by
  obtain ⟨e1, e2, r1, r2, -⟩ := C.sh hs
  refine nv_R.of rfl rfl (Nat.le_of_ble_eq_true rfl) ?_
  refine nv_go ok_X3_refusal [] 30 ?_
  unfold a_ref
  refine w_call (r_isNothing (by omega)) (fun r h' hr => ?_)
  obtain ⟨rfl, rfl⟩ := hr
  refine w_ifb (fun c => ?_) (fun c => ?_)
  · have d := of_decide_eq_false c
    rw [e1] at d
    refine w_ic (by omega) hl (fun c2 => ?_) (fun c2 => ?_)
    · have d2 : h' 16 s 1 = l := c2
      rw [e1] at d2
      refine w_call (r_lacks (by omega) hi hn) (fun r h2 hr => ?_)
      obtain ⟨rfl, rfl⟩ := hr
      rw [e2]
      refine w_ifb (fun c3 => ?_) (fun c3 => ?_)
      · exact ⟨rfl, by rw [if_neg d, if_neg (fun q => q d2), c3]; rfl⟩
      · exact ⟨rfl, by rw [if_neg d, if_neg (fun q => q d2), c3]; rfl⟩
    · have c2 : ¬ h' 16 s 1 = l := c2
      rw [e1] at c2
      exact ⟨rfl, by rw [if_neg d, if_pos c2]⟩
  · have c := of_decide_eq_true c
    rw [e1] at c
    exact ⟨rfl, by rw [if_pos c]⟩
set_option maxRecDepth 100000 in
theorem r_beginS {s : Nat} {l n : Int} : nv_R M_X3_begin [vr 16 s, vi l, vi n] h (fun r h' => r = none ∧ c_fs s h h' ∧ h' 16 s 1 = l ∧ h' 16 s 2 = n ∧ ∀ k, k < 24 → h' 17 s k = 0) := by
  refine nv_R.of rfl rfl (Nat.le_of_ble_eq_true rfl) ?_
  have loop := m_down (n := 24) (G := fun k => ∀ (j : Int) (h1 : nv_St), j = k → c_fs s h h1 → h1 16 s 1 = l → h1 16 s 2 = n → (∀ q, q < k → h1 17 s q = 0) → nv_V M_X3_begin 12 [(0, vr 16 s), (1, vi l), (2, vi n), (3, vi j)] [] h1 (fun r h' => r = none ∧ c_fs s h h' ∧ h' 16 s 1 = l ∧ h' 16 s 2 = n ∧ ∀ k, k < 24 → h' 17 s k = 0)) ?_ ?_
  · refine nv_go ok_X3_begin [12] 20 ?_
    exact loop 0 (by omega) _ _ rfl ((c_fs.rfl'.up (Or.inl rfl)).up (Or.inl rfl)) (by rw [nv_up_ne (by omega), nv_up_same]) (by rw [nv_up_same]) (fun q hq => absurd hq (by omega))
  · intro j h1 hj hf h1l h1n hz
    refine nv_go ok_X3_begin [12] 20 ?_
    refine w_ic (by omega) (by omega) (fun c => ?_) (fun c => ?_)
    · exact ⟨rfl, hf, h1l, h1n, hz⟩
    · exact absurd (by show (24 : Int) ≤ j; omega) c
  · intro k hk ih j h1 hj hf h1l h1n hz
    refine nv_go ok_X3_begin [12] 20 ?_
    refine w_ic (by omega) (by omega) (fun c => ?_) (fun c => ?_)
    · exact absurd c (by show ¬ (24 : Int) ≤ j; omega)
    · refine w_ix k hj (by omega) ?_
      refine ih _ _ (by omega) (hf.up (Or.inr rfl)) (by simpa [nv_up] using h1l) (by simpa [nv_up] using h1n) (fun q hq => ?_)
      by_cases e : q = k
      · subst e; rw [nv_up_same]
      · rw [nv_up_ne e]; exact hz q (by omega)
set_option maxRecDepth 100000 in
theorem r_clearS {s : Nat} (hl : -1 ≤ h 16 s 1 ∧ h 16 s 1 ≤ 3) : nv_R M_X3_clear [vr 16 s] h (fun r h' => (h 16 s 1 = -1 ∧ h' = h ∧ r = some (vi (-11))) ∨ (¬ h 16 s 1 = -1 ∧ h' = nv_up h 16 s 1 (-1) ∧ r = some (vi (h 16 s 2)))) := by
  refine nv_R.of rfl rfl (Nat.le_of_ble_eq_true rfl) ?_
  refine nv_go ok_X3_clear [] 30 ?_
  refine w_call (r_isNothing hl) (fun r h' hr => ?_)
  obtain ⟨rfl, rfl⟩ := hr
  refine w_ifb (fun c => ?_) (fun c => ?_)
  · exact Or.inr ⟨of_decide_eq_false c, rfl, by rw [show nv_up h' 16 s 1 (-1) 16 s 2 = h' 16 s 2 from nv_up_ne (by omega)]⟩
  · exact Or.inl ⟨of_decide_eq_true c, rfl, rfl⟩
set_option maxRecDepth 100000 in
theorem r_putS {s q : Nat} {i v : Int} (hl : 0 ≤ h 16 s 1 ∧ h 16 s 1 ≤ 3) (hi : i = q) (hq : q < 24) : nv_R M_X3_put [vr 16 s, vi i, vl v] h (fun r h' => r = none ∧ h' = nv_up h 17 s q (a_nar (h 16 s 1) v)) := by
  refine nv_R.of rfl rfl (Nat.le_of_ble_eq_true rfl) ?_
  refine nv_go ok_X3_put [] 30 ?_
  unfold a_nar
  refine And.intro (by omega) (And.intro (fun c => ?_) (And.intro (fun c => ?_) (And.intro (fun c => ?_) (And.intro (fun c => ?_) trivial))))
  · have c : h 16 s 1 < 0 ∨ (0 : Int) + 3 ≤ h 16 s 1 := c
    refine w_ix q hi (by omega) ?_
    exact ⟨rfl, by rw [if_neg (by omega), if_neg (by omega), if_neg (by omega)]⟩
  · refine w_i2l ?_
    refine w_ix q hi (by omega) ?_
    exact ⟨rfl, by rw [if_pos (by omega)]⟩
  · refine w_i2l ?_
    refine w_ix q hi (by omega) ?_
    exact ⟨rfl, by rw [if_neg (by omega), if_pos (by omega)]⟩
  · refine w_i2l ?_
    refine w_ix q hi (by omega) ?_
    exact ⟨rfl, by rw [if_neg (by omega), if_neg (by omega), if_pos (by omega)]⟩
def a_shtB (v l n : Int) : Bool := a_out v 0 3 || (a_out l 0 3 || decide (24 < n))
def a_sht (v l n : Int) : Int := if a_shtB v l n = true then -1 else if n < 0 then -14 else n
def a_shtS (a : a_S) (v l n : Int) : a_S := if a_shtB v l n = true then a else if n < 0 then a else a_wS a v.toNat l n (fun _ => 0)
set_option maxRecDepth 100000 in
theorem r_sheet_c (C : CI h a) {v l n : Int} (hv : nv_InR v) (hl : nv_InR l) (hn : nv_InR n) : nv_R M_X5_sheet [vr 18 0, vi v, vi l, vi n] h (cQ h (a_shtS a v l n) (a_sht v l n)) := by
  have bad : a_shtB v l n = true → cQ h (a_shtS a v l n) (a_sht v l n) (some (vi (-1))) h := fun hb => by
    unfold a_shtS a_sht; rw [if_pos hb, if_pos hb]; exact cQ.same C
  refine nv_R.of rfl rfl (Nat.le_of_ble_eq_true rfl) ?_
  refine nv_go ok_X5_sheet [] 40 ?_
  refine w_call (r_noSheet hv) (fun r h' hr => ?_)
  obtain ⟨rfl, rfl⟩ := hr
  refine w_ifb (fun c => ?_) (fun c => ?_)
  · refine w_call (r_noLane hl) (fun r h2 hr => ?_)
    obtain ⟨rfl, rfl⟩ := hr
    refine w_ifb (fun c2 => ?_) (fun c2 => ?_)
    · refine w_ic hn (by omega) (fun c3 => ?_) (fun c3 => ?_)
      · have c3 : n ≤ 24 := c3
        have nb : ¬ a_shtB v l n = true := by unfold a_shtB; rw [c, c2, decide_eq_false (show ¬ 24 < n by omega)]; decide
        have g1 := a_out_f c
        have g2 := a_out_f c2
        unfold a_shtS a_sht
        refine w_if hn (fun c4 => ?_) (fun c4 => ?_)
        · have c4 : 0 ≤ n := c4
          obtain ⟨s, rfl⟩ : ∃ s : Nat, v = s := ⟨v.toNat, by omega⟩
          refine w_ix s rfl (by omega) ?_
          refine w_call r_beginS (fun r h3 hr => ?_)
          obtain ⟨rfl, hf, x1, x2, x3⟩ := hr
          rw [if_neg nb, if_neg nb, if_neg (by omega), if_neg (by omega)]
          exact ⟨rfl, C.wS (by omega) hf x1 x2 (by omega) (by omega) (fun k hk _ => ⟨x3 k hk, by constructor <;> decide⟩), hf.hi⟩
        · have c4 : ¬ 0 ≤ n := c4
          rw [if_neg nb, if_neg nb, if_pos (by omega), if_pos (by omega)]
          exact cQ.same C
      · have c3 : ¬ n ≤ 24 := c3
        exact bad (by unfold a_shtB; rw [decide_eq_true (show 24 < n by omega)]; simp)
    · exact bad (by unfold a_shtB; rw [c2]; simp)
  · exact bad (by unfold a_shtB; rw [c]; simp)
def a_dro (a : a_S) (v : Int) : Int := if a_out v 0 3 = true then -1 else if a_sl a v.toNat = -1 then -11 else a_sn a v.toNat
def a_droS (a : a_S) (v : Int) : a_S := if a_out v 0 3 = true then a else if a_sl a v.toNat = -1 then a else a_wS a v.toNat (-1) (a_sn a v.toNat) (a_si a v.toNat)
set_option maxRecDepth 100000 in
theorem r_drop_c (C : CI h a) {v : Int} (hv : nv_InR v) : nv_R M_X5_drop [vr 18 0, vi v] h (cQ h (a_droS a v) (a_dro a v)) := by
  refine nv_R.of rfl rfl (Nat.le_of_ble_eq_true rfl) ?_
  refine nv_go ok_X5_drop [] 40 ?_
  unfold a_droS a_dro
  refine w_call (r_noSheet hv) (fun r h' hr => ?_)
  obtain ⟨rfl, rfl⟩ := hr
  refine w_ifb (fun c => ?_) (fun c => ?_)
  · have g1 := a_out_f c
    have nb : ¬ a_out v 0 3 = true := by rw [c]; decide
    obtain ⟨s, rfl⟩ : ∃ s : Nat, v = s := ⟨v.toNat, by omega⟩
    have hs : s < 4 := by omega
    obtain ⟨e1, e2, r1, r2, r3⟩ := C.sh hs
    refine w_ix s rfl (by omega) ?_
    refine w_call (r_clearS (by omega)) (fun r h3 hr => ?_)
    rcases hr with ⟨c2, rfl, rfl⟩ | ⟨c2, rfl, rfl⟩
    · have c2 : a_sl a (s : Int).toNat = -1 := e1.symm.trans c2
      rw [if_neg nb, if_neg nb, if_pos c2, if_pos c2]
      exact cQ.same C
    · have c2 : ¬ a_sl a (s : Int).toNat = -1 := fun q => c2 (e1.trans q)
      rw [if_neg nb, if_neg nb, if_neg c2, if_neg c2]
      refine cQ.eq e2 ⟨rfl, C.wS (s := s) hs (c_fs.rfl'.up (Or.inl rfl)) (nv_up_same _ _ _ _ _) (by rw [nv_up_ne (by omega)]; exact e2) (by omega) r2 (fun k _ q => absurd q (by omega)), (c_fs.rfl'.up (s := s) (Or.inl rfl)).hi⟩
  · rw [if_pos c, if_pos c]
    exact cQ.same C
def a_itB (v l : Int) : Bool := a_out v 0 3 || a_out l 0 3
def a_it1 (a : a_S) (v l i : Int) : Int := if a_itB v l = true then -1 else if ¬ a_ref a v.toNat l i 1 = 0 then a_ref a v.toNat l i 1 else 1
def a_itS (a : a_S) (v l i x : Int) : a_S := if a_itB v l = true then a else if ¬ a_ref a v.toNat l i 1 = 0 then a else a_wS a v.toNat (a_sl a v.toNat) (a_sn a v.toNat) (fun k => if k = i.toNat then a_nar l x else a_si a v.toNat k)
set_option maxRecDepth 100000 in
theorem r_item_c (C : CI h a) {v l i x : Int} (hv : nv_InR v) (hl : nv_InR l) (hi : nv_InR i) (hx : nv_InL x) : nv_R M_X5_item [vr 18 0, vi v, vi l, vi i, vl x] h (cQ h (a_itS a v l i x) (a_it1 a v l i)) := by
  have bad : a_itB v l = true → cQ h (a_itS a v l i x) (a_it1 a v l i) (some (vi (-1))) h := fun hb => by
    unfold a_itS a_it1; rw [if_pos hb, if_pos hb]; exact cQ.same C
  refine nv_R.of rfl rfl (Nat.le_of_ble_eq_true rfl) ?_
  refine nv_go ok_X5_item [] 40 ?_
  refine w_call (r_noSheet hv) (fun r h' hr => ?_)
  obtain ⟨rfl, rfl⟩ := hr
  refine w_ifb (fun c => ?_) (fun c => ?_)
  · refine w_call (r_noLane hl) (fun r h2 hr => ?_)
    obtain ⟨rfl, rfl⟩ := hr
    refine w_ifb (fun c2 => ?_) (fun c2 => ?_)
    · have nb : ¬ a_itB v l = true := by unfold a_itB; rw [c, c2]; decide
      have g1 := a_out_f c
      have g2 := a_out_f c2
      obtain ⟨s, rfl⟩ : ∃ s : Nat, v = s := ⟨v.toNat, by omega⟩
      have hs : s < 4 := by omega
      obtain ⟨e1, e2, r1, r2, r3⟩ := C.sh hs
      have hrr := a_ref_r a s l i 1
      unfold a_itS a_it1
      refine w_ix s rfl (by omega) ?_
      refine w_call (r_refusal C hs hl hi (by omega)) (fun r h3 hr => ?_)
      obtain ⟨rfl, rfl⟩ := hr
      refine w_if (by omega) (fun c3 => ?_) (fun c3 => ?_)
      · have c3 : a_ref a s l i 1 = 0 := c3
        obtain ⟨z1, z2, z3⟩ := a_ref_0 c3
        have z4 := a_lk_f z3
        refine w_ix s rfl (by omega) ?_
        refine w_call (r_putS (q := i.toNat) (by omega) (by omega) (by omega)) (fun r h4 hr => ?_)
        obtain ⟨rfl, rfl⟩ := hr
        have nb2 : ¬ ¬ a_ref a (s : Int).toNat l i 1 = 0 := fun q => q c3
        rw [if_neg nb, if_neg nb, if_neg nb2, if_neg nb2]
        have hf : c_fs s h3 (nv_up h3 17 s i.toNat (a_nar (h3 16 s 1) x)) := c_fs.rfl'.up (Or.inr rfl)
        refine ⟨rfl, C.wS (s := s) hs hf ?_ ?_ r1 r2 (fun k hk q => ?_), hf.hi⟩
        · rw [show nv_up h3 17 s i.toNat (a_nar (h3 16 s 1) x) 16 s 1 = h3 16 s 1 by simp [nv_up]]; exact e1
        · rw [show nv_up h3 17 s i.toNat (a_nar (h3 16 s 1) x) 16 s 2 = h3 16 s 2 by simp [nv_up]]; exact e2
        · show nv_up h3 17 s i.toNat (a_nar (h3 16 s 1) x) 17 s k = (if k = i.toNat then a_nar l x else a_si a s k) ∧ nv_InL (if k = i.toNat then a_nar l x else a_si a s k)
          by_cases e : k = i.toNat
          · rw [if_pos e, e, nv_up_same, e1, z2]
            exact ⟨rfl, a_nar_r hx⟩
          · rw [if_neg e, nv_up_ne e]
            exact r3 k hk q
      · have c3 : ¬ a_ref a s l i 1 = 0 := c3
        have c4 : ¬ a_ref a (s : Int).toNat l i 1 = 0 := c3
        rw [if_neg nb, if_neg nb, if_pos c4, if_pos c4]
        exact cQ.same C
    · exact bad (by unfold a_itB; rw [c2]; simp)
  · exact bad (by unfold a_itB; rw [c]; simp)
def a_cpB (v w : Int) : Bool := a_out v 0 3 || a_out w 0 3
def a_cpy (a : a_S) (v i w j n : Int) : Int := if a_cpB v w = true then -1 else if a_sl a v.toNat = -1 ∨ a_sl a w.toNat = -1 then -11 else if ¬ a_sl a v.toNat = a_sl a w.toNat then -12 else if (a_lk (a_sn a v.toNat) i n || a_lk (a_sn a w.toNat) j n) = true then -13 else n
def a_cpyS (a : a_S) (v i w j n : Int) : a_S := if a_cpB v w = true then a else if a_sl a v.toNat = -1 ∨ a_sl a w.toNat = -1 then a else if ¬ a_sl a v.toNat = a_sl a w.toNat then a else if (a_lk (a_sn a v.toNat) i n || a_lk (a_sn a w.toNat) j n) = true then a else a_wS a w.toNat (a_sl a w.toNat) (a_sn a w.toNat) (fun k => if j.toNat ≤ k ∧ k < j.toNat + n.toNat then a_si a v.toNat (i.toNat + (k - j.toNat)) else a_si a w.toNat k)
set_option maxRecDepth 100000 in
theorem r_copy_c (C : CI h a) {v i w j n : Int} (hv : nv_InR v) (hi : nv_InR i) (hw : nv_InR w) (hj : nv_InR j) (hn : nv_InR n) : nv_R M_X5_copy [vr 18 0, vi v, vi i, vi w, vi j, vi n] h (cQ h (a_cpyS a v i w j n) (a_cpy a v i w j n)) := by
  have bad : a_cpB v w = true → cQ h (a_cpyS a v i w j n) (a_cpy a v i w j n) (some (vi (-1))) h := fun hb => by
    unfold a_cpyS a_cpy; rw [if_pos hb, if_pos hb]; exact cQ.same C
  refine nv_R.of rfl rfl (Nat.le_of_ble_eq_true rfl) ?_
  refine nv_go ok_X5_copy [] 80 ?_
  refine w_call (r_noSheet hv) (fun r h' hr => ?_)
  obtain ⟨rfl, rfl⟩ := hr
  refine w_ifb (fun c => ?_) (fun c => ?_)
  · refine w_call (r_noSheet hw) (fun r h2 hr => ?_)
    obtain ⟨rfl, rfl⟩ := hr
    refine w_ifb (fun c2 => ?_) (fun c2 => ?_)
    · have nb : ¬ a_cpB v w = true := by unfold a_cpB; rw [c, c2]; decide
      have g1 := a_out_f c
      have g2 := a_out_f c2
      obtain ⟨s, rfl⟩ : ∃ s : Nat, v = s := ⟨v.toNat, by omega⟩
      obtain ⟨t, rfl⟩ : ∃ t : Nat, w = t := ⟨w.toNat, by omega⟩
      have hs : s < 4 := by omega
      have ht : t < 4 := by omega
      obtain ⟨e1, e2, r1, r2, r3⟩ := C.sh hs
      obtain ⟨f1, f2, t1, t2, t3⟩ := C.sh ht
      have no : (a_sl a s = -1 ∨ a_sl a t = -1) → cQ h2 (a_cpyS a s i t j n) (a_cpy a s i t j n) (some (vi (-11))) h2 := fun q => by
        have q : a_sl a (s : Int).toNat = -1 ∨ a_sl a (t : Int).toNat = -1 := q
        unfold a_cpyS a_cpy
        rw [if_neg nb, if_neg nb, if_pos q, if_pos q]
        exact cQ.same C
      refine w_ix s rfl (by omega) ?_
      refine w_ix t rfl (by omega) ?_
      refine w_call (r_isNothing (by omega)) (fun r h3 hr => ?_)
      obtain ⟨rfl, rfl⟩ := hr
      refine w_ifb (fun c3 => ?_) (fun c3 => ?_)
      · have d3 := of_decide_eq_false c3
        rw [e1] at d3
        refine w_call (r_isNothing (by omega)) (fun r h4 hr => ?_)
        obtain ⟨rfl, rfl⟩ := hr
        refine w_ifb (fun c4 => ?_) (fun c4 => ?_)
        · have c4 := of_decide_eq_false c4
          rw [f1] at c4
          have q1 : ¬ (a_sl a (s : Int).toNat = -1 ∨ a_sl a (t : Int).toNat = -1) := by
            rintro (q | q)
            · exact d3 q
            · exact c4 q
          refine w_ic (by omega) (by omega) (fun c5 => ?_) (fun c5 => ?_)
          · have c5 : h4 16 s 1 = h4 16 t 1 := c5
            have q2 : ¬ ¬ a_sl a (s : Int).toNat = a_sl a (t : Int).toNat := fun q => q (by show a_sl a s = a_sl a t; rw [← e1, ← f1]; exact c5)
            have ix : (a_lk (a_sn a s) i n || a_lk (a_sn a t) j n) = true → cQ h4 (a_cpyS a s i t j n) (a_cpy a s i t j n) (some (vi (-13))) h4 := fun q => by
              have q : (a_lk (a_sn a (s : Int).toNat) i n || a_lk (a_sn a (t : Int).toNat) j n) = true := q
              unfold a_cpyS a_cpy
              rw [if_neg nb, if_neg nb, if_neg q1, if_neg q1, if_neg q2, if_neg q2, if_pos q, if_pos q]
              exact cQ.same C
            refine w_call (r_lacks (by omega) hi hn) (fun r h5 hr => ?_)
            obtain ⟨rfl, rfl⟩ := hr
            rw [e2]
            refine w_ifb (fun c6 => ?_) (fun c6 => ?_)
            · refine w_call (r_lacks (by omega) hj hn) (fun r h6 hr => ?_)
              obtain ⟨rfl, rfl⟩ := hr
              rw [f2]
              refine w_ifb (fun c7 => ?_) (fun c7 => ?_)
              · have z1 := a_lk_f c6
                have z2 := a_lk_f c7
                have q3 : ¬ (a_lk (a_sn a (s : Int).toNat) i n || a_lk (a_sn a (t : Int).toNat) j n) = true := by
                  show ¬ (a_lk (a_sn a s) i n || a_lk (a_sn a t) j n) = true
                  rw [c6, c7]; decide
                refine w_cp i.toNat j.toNat n.toNat (by omega) (by omega) (by omega) (by omega) (by omega) ?_
                unfold a_cpyS a_cpy
                rw [if_neg nb, if_neg nb, if_neg q1, if_neg q1, if_neg q2, if_neg q2, if_neg q3, if_neg q3]
                have hf : c_fs t h6 (nv_row h6 17 t (va_cpy (h6 17 s) (h6 17 t) i.toNat j.toNat n.toNat)) := by
                  intro t' i' hx hy
                  funext q
                  unfold nv_row
                  rw [if_neg]
                  rintro ⟨rfl, rfl⟩
                  exact hx ⟨Or.inr rfl, rfl⟩
                refine ⟨rfl, C.wS (s := t) ht hf ?_ ?_ t1 t2 (fun k hk q => ?_), hf.hi⟩
                · rw [show nv_row h6 17 t (va_cpy (h6 17 s) (h6 17 t) i.toNat j.toNat n.toNat) 16 t 1 = h6 16 t 1 by simp [nv_row]]; exact f1
                · rw [show nv_row h6 17 t (va_cpy (h6 17 s) (h6 17 t) i.toNat j.toNat n.toNat) 16 t 2 = h6 16 t 2 by simp [nv_row]]; exact f2
                · show nv_row h6 17 t (va_cpy (h6 17 s) (h6 17 t) i.toNat j.toNat n.toNat) 17 t k = (if j.toNat ≤ k ∧ k < j.toNat + n.toNat then a_si a s (i.toNat + (k - j.toNat)) else a_si a t k) ∧ nv_InL (if j.toNat ≤ k ∧ k < j.toNat + n.toNat then a_si a s (i.toNat + (k - j.toNat)) else a_si a t k)
                  rw [show nv_row h6 17 t (va_cpy (h6 17 s) (h6 17 t) i.toNat j.toNat n.toNat) 17 t k = va_cpy (h6 17 s) (h6 17 t) i.toNat j.toNat n.toNat k by simp [nv_row]]
                  unfold va_cpy
                  by_cases e : j.toNat ≤ k ∧ k < j.toNat + n.toNat
                  · rw [if_pos e, if_pos e]
                    exact r3 _ (by omega) (by omega)
                  · rw [if_neg e, if_neg e]
                    exact t3 k hk q
              · exact ix (by rw [c7, Bool.or_true])
            · exact ix (by rw [c6]; rfl)
          · have c5 : ¬ h4 16 s 1 = h4 16 t 1 := c5
            have q2 : ¬ a_sl a (s : Int).toNat = a_sl a (t : Int).toNat := fun q => c5 (by rw [e1, f1]; exact q)
            unfold a_cpyS a_cpy
            rw [if_neg nb, if_neg nb, if_neg q1, if_neg q1, if_pos q2, if_pos q2]
            exact cQ.same C
        · have c4 := of_decide_eq_true c4
          rw [f1] at c4
          exact no (Or.inr c4)
      · have c3 := of_decide_eq_true c3
        rw [e1] at c3
        exact no (Or.inl c3)
    · exact bad (by unfold a_cpB; rw [c2]; simp)
  · exact bad (by unfold a_cpB; rw [c]; simp)
def a_fiB (a : a_S) (v n s l : Int) : Bool := a_bp (a_P a) v || (a_out n 1 24 || (a_out s 0 3 || a_out l 0 3))
def a_fi (a : a_S) (v n s l i : Int) : Int := if a_fiB a v n s l = true then -1 else if ¬ a_ref a s.toNat l i n = 0 then a_ref a s.toNat l i n else n
def a_fiS (a : a_S) (v n s l i : Int) : a_S := if a_fiB a v n s l = true then a else if ¬ a_ref a s.toNat l i n = 0 then a else a_wS a s.toNat (a_sl a s.toNat) (a_sn a s.toNat) (fun k => if i.toNat ≤ k ∧ k < i.toNat + n.toNat then a_nar l (m_it (k - i.toNat + 1) (a_N a) 3 v.toNat) else a_si a s.toNat k)
theorem m_it_in {N : m_NN} {P S p : Nat} {B : Int} (hN : m_ok N P S B) (hp : p < P) (n : Nat) : nv_InL (m_it n N 3 p) := by
  have := ((m_it_ok hN n).2.2.2.2.2.2.1 p hp).2.2
  exact ⟨by omega, by omega⟩
set_option maxHeartbeats 1000000 in
set_option maxRecDepth 100000 in
theorem r_film_c (C : CI h a) {v n s l i : Int} (hv : nv_InR v) (hn : nv_InR n) (hs : nv_InR s) (hl : nv_InR l) (hi : nv_InR i) : nv_R M_X5_film [vr 18 0, vi v, vi n, vi s, vi l, vi i] h (cQ h (a_fiS a v n s l i) (a_fi a v n s l i)) := by
  obtain ⟨hok, he, hNok⟩ := C.now
  obtain ⟨hP5, hS5, hP, hS, hH, hDr, hpl, hsw⟩ := hok.h
  have bad : a_fiB a v n s l = true → cQ h (a_fiS a v n s l i) (a_fi a v n s l i) (some (vi (-1))) h := fun hb => by
    unfold a_fiS a_fi; rw [if_pos hb, if_pos hb]; exact cQ.same C
  refine nv_R.of rfl rfl (Nat.le_of_ble_eq_true rfl) ?_
  refine nv_go ok_X5_film [73] 80 ?_
  refine w_call (r_noPlank hP5 hP hv) (fun r h' hr => ?_)
  obtain ⟨rfl, rfl⟩ := hr
  refine w_ifb (fun c => ?_) (fun c => ?_)
  · refine w_call (r_outA hn (by omega) (by omega)) (fun r h2 hr => ?_)
    obtain ⟨rfl, rfl⟩ := hr
    refine w_ifb (fun c2 => ?_) (fun c2 => ?_)
    · refine w_call (r_noSheet hs) (fun r h3 hr => ?_)
      obtain ⟨rfl, rfl⟩ := hr
      refine w_ifb (fun c3 => ?_) (fun c3 => ?_)
      · refine w_call (r_noLane hl) (fun r h4 hr => ?_)
        obtain ⟨rfl, rfl⟩ := hr
        refine w_ifb (fun c4 => ?_) (fun c4 => ?_)
        · have nb : ¬ a_fiB a v n s l = true := by unfold a_fiB; rw [c, c2, c3, c4]; decide
          obtain ⟨p, rfl, hp⟩ := a_bp_f c
          have g2 := a_out_f c2
          have g3 := a_out_f c3
          have g4 := a_out_f c4
          obtain ⟨m, rfl⟩ : ∃ m : Nat, n = m := ⟨n.toNat, by omega⟩
          obtain ⟨q, rfl⟩ : ∃ q : Nat, s = q := ⟨s.toNat, by omega⟩
          have hq : q < 4 := by omega
          obtain ⟨e1, e2, r1, r2, r3⟩ := C.sh hq
          have hrr := a_ref_r a q l i m
          refine w_ix q rfl (by omega) ?_
          refine w_call (r_refusal C hq hl hi (by omega)) (fun r h5 hr => ?_)
          obtain ⟨rfl, rfl⟩ := hr
          refine w_if (by omega) (fun c5 => ?_) (fun c5 => ?_)
          · have c5 : a_ref a q l i m = 0 := c5
            obtain ⟨z1, z2, z3⟩ := a_ref_0 c5
            have z4 := a_lk_f z3
            obtain ⟨i, rfl⟩ : ∃ i' : Nat, i = i' := ⟨i.toNat, by omega⟩
            have nb2 : ¬ ¬ a_ref a (q : Int).toNat l i m = 0 := fun x => x c5
            have ea : a_fi a p m q l i = m := by unfold a_fi; rw [if_neg nb, if_neg nb2]
            have eS : a_fiS a p m q l i = a_wS a q (a_sl a q) (a_sn a q) (fun k => if i ≤ k ∧ k < i + m then a_nar l (m_it (k - i + 1) (a_N a) 3 p) else a_si a q k) := by unfold a_fiS; rw [if_neg nb, if_neg nb2]; rfl
            rw [ea, eS]
            have loop := m_down (n := m) (G := fun k => ∀ (j z : Int) (h1 : nv_St), j = k → m_eq (a_P a) (a_Sw a) (m_nn h1 1) (m_it k (a_N a)) → c_fs q h5 h1 → h1 16 q = h5 16 q → (∀ x, x < 24 → h1 17 q x = if i ≤ x ∧ x < i + k then a_nar l (m_it (x - i + 1) (a_N a) 3 p) else a_si a q x) → nv_V M_X5_film 73 [(0, vr 18 0), (1, vi p), (2, vi m), (3, vi q), (4, vi l), (5, vi i), (6, vi z), (7, vi j)] [] h1 (cQ h5 (a_wS a q (a_sl a q) (a_sn a q) (fun k => if i ≤ k ∧ k < i + m then a_nar l (m_it (k - i + 1) (a_N a) 3 p) else a_si a q k)) m)) ?_ ?_
            · refine w_call (r_takeAll (o := 1) (b := 0) (by decide)) (fun r h6 hr => ?_)
              obtain ⟨rfl, ht⟩ := hr
              have hf := ht.1
              refine loop 0 (by omega) _ _ _ rfl ((ht.eq hP5 hS5).trans' he) hf.s (hf 16 q (by omega)) (fun x hx => ?_)
              rw [if_neg (by omega), hf 17 q (by omega)]
              exact (r3 x hx (by omega)).1
            · intro j z h1 hj he1 hf h16 hx
              refine nv_go ok_X5_film [73] 80 ?_
              refine w_ic (by omega) (by omega) (fun c6 => ?_) (fun c6 => ?_)
              · refine ⟨rfl, C.wS hq hf (by rw [h16]; exact e1) (by rw [h16]; exact e2) r1 r2 (fun k hk q0 => ⟨hx k hk, ?_⟩), hf.hi⟩
                show nv_InL (if i ≤ k ∧ k < i + m then a_nar l (m_it (k - i + 1) (a_N a) 3 p) else a_si a q k)
                split
                · exact a_nar_r (m_it_in hNok hp _)
                · exact (r3 k hk q0).2
              · exact absurd (by show (m : Int) ≤ j; omega) c6
            · intro k hk ih j z h1 hj he1 hf h16 hx
              have hok1 := he1.ok (m_it_ok hNok k)
              refine nv_go ok_X5_film [73] 80 ?_
              refine w_ic (by omega) (by omega) (fun c6 => ?_) (fun c6 => ?_)
              · exact absurd c6 (by show ¬ (m : Int) ≤ j; omega)
              · refine w_call (r_passHour hok1 (by omega)) (fun r h6 hr => ?_)
                obtain ⟨rfl, he6, hf6⟩ := hr
                have he7 : m_eq (a_P a) (a_Sw a) (m_nn h6 1) (m_it (k + 1) (a_N a)) := he6.trans' (m_hour_eq he1 hok1)
                have e3 : h6 3 1 p = m_it (k + 1) (a_N a) 3 p := (he7.2.1 p hp).2.2
                have h39 := ((m_it_ok hNok (k + 1)).2.2.2.2.2.2.1 p hp).2.2
                have h166 : h6 16 q = h5 16 q := (hf6 16 q (by omega)).trans h16
                refine w_ix q rfl (by omega) ?_
                refine w_ix p rfl (by omega) ?_
                refine w_i2r (by omega) ?_
                refine w_call (r_putS (q := i + k) (by rw [h166]; omega) (by omega) (by omega)) (fun r h7 hr => ?_)
                obtain ⟨rfl, rfl⟩ := hr
                refine ih _ _ _ (by omega) ?_ ((hf.trans' hf6.s).up (Or.inr rfl)) ?_ (fun x hx2 => ?_)
                · rw [m_nn_ext (h := h6) (fun t ht => by funext y; simp [nv_up, show ¬ t = 17 by omega])]
                  exact he7
                · rw [← h166]; funext y; simp [nv_up]
                · have e16 : h6 16 q 1 = l := by rw [h166, e1, z2]
                  by_cases ex : x = i + k
                  · rw [ex, nv_up_same, e16, if_pos (by omega), e3, show i + k - i + 1 = k + 1 by omega]
                  · rw [nv_up_ne ex, hf6 17 q (by omega), hx x hx2]
                    by_cases ey : i ≤ x ∧ x < i + k
                    · rw [if_pos ey, if_pos (by omega)]
                    · rw [if_neg ey, if_neg (by omega)]
          · have c5 : ¬ a_ref a q l i m = 0 := c5
            have c6 : ¬ a_ref a (q : Int).toNat l i m = 0 := c5
            unfold a_fiS a_fi
            rw [if_neg nb, if_neg nb, if_pos c6, if_pos c6]
            exact cQ.same C
        · exact bad (by unfold a_fiB; rw [c4]; simp)
      · exact bad (by unfold a_fiB; rw [c3]; simp)
    · exact bad (by unfold a_fiB; rw [c2]; simp)
  · exact bad (by unfold a_fiB; rw [c]; simp)
end nvS3
