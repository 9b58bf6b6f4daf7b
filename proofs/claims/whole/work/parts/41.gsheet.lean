/-! ===== sheets: the reference ===== -/
def g_fs (h h' : nv_St) : Prop := ∀ t i, ¬ ((t = 20 ∨ t = 21 ∨ t = 22 ∨ t = 25 ∨ t = 28) ∧ i = 0) → h' t i = h t i
theorem g_fs.rfl' {h : nv_St} : g_fs h h := fun _ _ _ => rfl
theorem g_fs.trans' {h h1 h2 : nv_St} (a : g_fs h h1) (b : g_fs h1 h2) : g_fs h h2 := fun t i x => (b t i x).trans (a t i x)
theorem m_frM.s {h h' : nv_St} (a : m_frM 25 h h') : g_fs h h' := fun t i y => a t i (by omega)
theorem g_fs.up {h h1 : nv_St} (a : g_fs h h1) {t j : Nat} {x : Int} (ht : t = 20 ∨ t = 21 ∨ t = 22) : g_fs h (nv_up h1 t 0 j x) := by
  intro t' i hx
  rw [← a t' i hx]
  funext q
  unfold nv_up
  rw [if_neg]
  rintro ⟨rfl, rfl, -⟩
  exact hx ⟨by omega, rfl⟩
theorem g_fs.lo {h h' : nv_St} (hf : g_fs h h') : ∀ t i, t < 19 → h' t i = h t i := fun t i ht => hf t i (by omega)
theorem MI.wS {h h' : nv_St} {a : a_S} (C : MI h a) {s : Nat} {l n : Int} {f : Nat → Int} (hf : g_fs h h') (h1 : h' 20 0 s = l) (h2 : h' 21 0 s = n) (hl : -1 ≤ l ∧ l ≤ 3) (hn : 0 ≤ n ∧ n ≤ 24) (hk : ∀ k, k < 24 → 0 ≤ l → h' 22 0 (24 * s + k) = f k ∧ nv_InL (f k)) (o1 : ∀ q, q < 4 → ¬ q = s → h' 20 0 q = h 20 0 q) (o2 : ∀ q, q < 4 → ¬ q = s → h' 21 0 q = h 21 0 q) (o3 : ∀ q, q < 4 → ¬ q = s → ∀ k, k < 24 → h' 22 0 (24 * q + k) = h 22 0 (24 * q + k)) : MI h' (a_wS a s l n f) := by
  obtain ⟨k1, k2, k3, k4⟩ := C
  refine ⟨k1.kept (hf 24 0 (by omega)), ?_, ⟨by rw [hf 19 0 (by omega)]; exact k3.1, k3.2.1, fun i x hx => by rw [hf 23 0 (by omega)]; exact k3.2.2 i x hx⟩, ?_⟩
  · show g_im h' a.2.1
    generalize a.2.1 = im at k2
    cases im with
    | none => show h' 19 0 11 = 0; rw [hf 19 0 (by omega)]; exact k2
    | some w => exact ⟨by rw [hf 19 0 (by omega)]; exact k2.1, k2.2.kept (hf 27 0 (by omega))⟩
  intro q hq
  show h' 20 0 q = (if q = s then l else a_sl a q) ∧ h' 21 0 q = (if q = s then n else a_sn a q) ∧ (-1 ≤ (if q = s then l else a_sl a q) ∧ (if q = s then l else a_sl a q) ≤ 3) ∧ (0 ≤ (if q = s then n else a_sn a q) ∧ (if q = s then n else a_sn a q) ≤ 24) ∧ ∀ k, k < 24 → 0 ≤ (if q = s then l else a_sl a q) → h' 22 0 (24 * q + k) = (if q = s then f else a_si a q) k ∧ nv_InL ((if q = s then f else a_si a q) k)
  by_cases e : q = s
  · subst e
    simp only [if_true]
    exact ⟨h1, h2, hl, hn, hk⟩
  · simp only [if_neg e]
    rw [o1 q hq e, o2 q hq e]
    obtain ⟨x1, x2, x3, x4, x5⟩ := k4 q hq
    exact ⟨x1, x2, x3, x4, fun k hk2 h0 => by rw [o3 q hq e k hk2]; exact x5 k hk2 h0⟩
section nvS6
variable {h : nv_St} {a : a_S}
theorem MI.sh (C : MI h a) {s : Nat} (hs : s < 4) : h 20 0 s = a_sl a s ∧ h 21 0 s = a_sn a s ∧ (-1 ≤ a_sl a s ∧ a_sl a s ≤ 3) ∧ (0 ≤ a_sn a s ∧ a_sn a s ≤ 24) ∧ ∀ k, k < 24 → 0 ≤ a_sl a s → h 22 0 (24 * s + k) = a_si a s k ∧ nv_InL (a_si a s k) := C.2.2.2 s hs
set_option maxRecDepth 100000 in
theorem r_isSheetA {v : Int} (hv : nv_InR v) : nv_R M_X6_isSheet [vi v] h (fun r h' => h' = h ∧ r = some (vi (nv_b (!a_out v 0 3)))) := by
  refine nv_R.of rfl rfl (Nat.le_of_ble_eq_true rfl) ?_
  refine nv_go ok_X6_isSheet [] 30 ?_
  refine w_call (r_inA hv (by omega) (by omega)) (fun r h' hr => ?_)
  obtain ⟨rfl, rfl⟩ := hr
  exact And.intro (nv_b01 _) ⟨rfl, rfl⟩
set_option maxRecDepth 100000 in
theorem r_isPart {i n ln : Int} (hl : 0 ≤ ln ∧ ln ≤ 24) (hi : nv_InR i) (hn : nv_InR n) : nv_R M_X6_isPart [vi i, vi n, vi ln] h (fun r h' => h' = h ∧ r = some (vi (nv_b (!a_lk ln i n)))) := by
  refine nv_R.of rfl rfl (Nat.le_of_ble_eq_true rfl) ?_
  refine nv_go ok_X6_isPart [] 30 ?_
  unfold a_lk
  refine w_if hn (fun c => ?_) (fun c => ?_)
  · have c : n < 0 := c
    exact And.intro (Or.inl rfl) ⟨rfl, by rw [decide_eq_true c]; rfl⟩
  · have c : ¬ n < 0 := c
    refine w_if hi (fun c2 => ?_) (fun c2 => ?_)
    · have c2 : i < 0 := c2
      exact And.intro (Or.inl rfl) ⟨rfl, by rw [decide_eq_true c2, decide_eq_false c]; rfl⟩
    · have c2 : ¬ i < 0 := c2
      refine w_ic hn (by omega) (fun c4 => ?_) (fun c4 => ?_)
      · have c4 : ln < n := c4
        exact And.intro (Or.inl rfl) ⟨rfl, by rw [decide_eq_false c, decide_eq_false c2, decide_eq_true (show ln - n < i by omega)]; rfl⟩
      · refine w_ic hi (by omega) (fun c3 => ?_) (fun c3 => ?_)
        · have c3 : ln - n < i := c3
          exact And.intro (Or.inl rfl) ⟨rfl, by rw [decide_eq_false c, decide_eq_false c2, decide_eq_true c3]; rfl⟩
        · have c3 : ¬ ln - n < i := c3
          exact And.intro (Or.inr rfl) ⟨rfl, by rw [decide_eq_false c, decide_eq_false c2, decide_eq_false c3]; rfl⟩
set_option maxRecDepth 100000 in
theorem r_wrong (C : MI h a) {s : Nat} (hs : s < 4) {l i n : Int} (hl : nv_InR l) (hi : nv_InR i) (hn : nv_InR n) : nv_R M_X6_wrong [vr 19 0, vi s, vi l, vi i, vi n] h (fun r h' => h' = h ∧ r = some (vi (a_ref a s l i n))) := by
  obtain ⟨e1, e2, r1, r2, -⟩ := C.sh hs
  refine nv_R.of rfl rfl (Nat.le_of_ble_eq_true rfl) ?_
  refine nv_go ok_X6_wrong [] 40 ?_
  unfold a_ref
  refine w_ix s rfl (by omega) ?_
  refine w_if (by omega) (fun c => ?_) (fun c => ?_)
  · have c : 0 ≤ h 20 0 s := c
    have d : ¬ a_sl a s = -1 := by omega
    refine w_ix s rfl (by omega) ?_
    refine w_ic (by omega) hl (fun c2 => ?_) (fun c2 => ?_)
    · have d2 : h 20 0 s = l := c2
      rw [e1] at d2
      refine w_ix s rfl (by omega) ?_
      refine w_call (r_isPart (by omega) hi hn) (fun r h2 hr => ?_)
      obtain ⟨rfl, rfl⟩ := hr
      rw [e2]
      refine w_ifb (fun c3 => ?_) (fun c3 => ?_)
      · exact ⟨rfl, by rw [if_neg d, if_neg (fun q => q d2), bn_f c3]; rfl⟩
      · exact ⟨rfl, by rw [if_neg d, if_neg (fun q => q d2), bn_t c3]; rfl⟩
    · have c2 : ¬ h 20 0 s = l := c2
      rw [e1] at c2
      exact ⟨rfl, by rw [if_neg d, if_pos c2]⟩
  · have c : ¬ 0 ≤ h 20 0 s := c
    exact ⟨rfl, by rw [if_pos (by omega)]⟩
set_option maxRecDepth 100000 in
theorem r_cutTo {l v : Int} (hl : nv_InR l) : nv_R M_X6_cutTo [vi l, vl v] h (fun r h' => h' = h ∧ r = some (vl (a_nar l v))) := by
  refine nv_R.of rfl rfl (Nat.le_of_ble_eq_true rfl) ?_
  refine nv_go ok_X6_cutTo [] 40 ?_
  unfold a_nar
  refine w_if hl (fun c => ?_) (fun c => ?_)
  · refine w_i2l ?_
    exact ⟨rfl, by rw [if_pos (show l = 0 from c)]⟩
  · refine w_ic hl (by omega) (fun c2 => ?_) (fun c2 => ?_)
    · refine w_i2l ?_
      exact ⟨rfl, by rw [if_neg (show ¬ l = 0 from c), if_pos (show l = 1 from c2)]⟩
    · refine w_ic hl (by omega) (fun c3 => ?_) (fun c3 => ?_)
      · refine w_i2l ?_
        exact ⟨rfl, by rw [if_neg (show ¬ l = 0 from c), if_neg (show ¬ l = 1 from c2), if_pos (show l = 2 from c3)]⟩
      · exact ⟨rfl, by rw [if_neg (show ¬ l = 0 from c), if_neg (show ¬ l = 1 from c2), if_neg (show ¬ l = 2 from c3)]⟩
set_option maxRecDepth 100000 in
theorem r_sheet_g (C : MI h a) {v l n : Int} (hv : nv_InR v) (hl : nv_InR l) (hn : nv_InR n) : nv_R M_X6_sheet [vr 19 0, vi v, vi l, vi n] h (gQ h (a_shtS a v l n) (a_sht v l n)) := by
  have bad : a_shtB v l n = true → gQ h (a_shtS a v l n) (a_sht v l n) (some (vi (-1))) h := fun hb => by
    unfold a_shtS a_sht; rw [if_pos hb, if_pos hb]; exact gQ.same C
  refine nv_R.of rfl rfl (Nat.le_of_ble_eq_true rfl) ?_
  refine nv_go ok_X6_sheet [48] 40 ?_
  refine w_call (r_isSheetA hv) (fun r h' hr => ?_)
  obtain ⟨rfl, rfl⟩ := hr
  refine w_ifb (fun c => ?_) (fun c => ?_)
  · exact bad (by unfold a_shtB; rw [bn_f c]; simp)
  · have c := bn_t c
    refine w_call (r_inA hl (by omega) (by omega)) (fun r h2 hr => ?_)
    obtain ⟨rfl, rfl⟩ := hr
    refine w_ifb (fun c2 => ?_) (fun c2 => ?_)
    · exact bad (by unfold a_shtB; rw [bn_f c2]; simp)
    · have c2 := bn_t c2
      refine w_ic hn (by omega) (fun c3 => ?_) (fun c3 => ?_)
      · have c3 : n ≤ 24 := c3
        have nb : ¬ a_shtB v l n = true := by unfold a_shtB; rw [c, c2, decide_eq_false (show ¬ 24 < n by omega)]; decide
        have g1 := a_out_f c
        have g2 := a_out_f c2
        refine w_if hn (fun c4 => ?_) (fun c4 => ?_)
        · have c4 : 0 ≤ n := c4
          obtain ⟨s, rfl⟩ : ∃ s : Nat, v = s := ⟨v.toNat, by omega⟩
          have ea : a_sht s l n = n := by unfold a_sht; rw [if_neg nb, if_neg (by omega)]
          have eS : a_shtS a s l n = a_wS a s l n (fun _ => 0) := by unfold a_shtS; rw [if_neg nb, if_neg (by omega)]; rfl
          rw [ea, eS]
          have loop := m_down (n := 24) (G := fun k => ∀ (j : Int) (h1 : nv_St), j = k → g_fs h2 h1 → h1 20 0 s = l → h1 21 0 s = n → (∀ q, ¬ q = s → h1 20 0 q = h2 20 0 q) → (∀ q, ¬ q = s → h1 21 0 q = h2 21 0 q) → (∀ q, q < k → h1 22 0 (24 * s + q) = 0) → (∀ q, ¬ (24 * s ≤ q ∧ q < 24 * s + 24) → h1 22 0 q = h2 22 0 q) → nv_V M_X6_sheet 48 [(0, vr 19 0), (1, vi s), (2, vi l), (3, vi n), (4, vi j)] [] h1 (gQ h2 (a_wS a s l n (fun _ => 0)) n)) ?_ ?_
          · refine w_ix s rfl (by omega) ?_
            refine w_ix s rfl (by omega) ?_
            refine loop 0 (by omega) _ _ rfl ((g_fs.rfl'.up (by omega)).up (by omega)) ?_ (nv_up_same _ _ _ _ _) (fun q hq => ?_) (fun q hq => ?_) (fun q hq => absurd hq (by omega)) (fun q hq => ?_)
            · simp [nv_up]
            · simp [nv_up, hq]
            · rw [nv_up_ne hq]; simp [nv_up]
            · simp [nv_up]
          · intro j h1 hj hf x1 x2 o1 o2 x3 o3
            refine nv_go ok_X6_sheet [48] 40 ?_
            refine w_ic (by omega) (by omega) (fun c5 => ?_) (fun c5 => ?_)
            · exact ⟨rfl, C.wS hf x1 x2 (by omega) (by omega) (fun k hk _ => ⟨x3 k hk, by constructor <;> decide⟩) (fun q _ hq => o1 q hq) (fun q _ hq => o2 q hq) (fun q _ hq k hk => o3 _ (by omega)), hf.lo⟩
            · exact absurd (by show (24 : Int) ≤ j; omega) c5
          · intro k hk ih j h1 hj hf x1 x2 o1 o2 x3 o3
            refine nv_go ok_X6_sheet [48] 40 ?_
            refine w_ic (by omega) (by omega) (fun c5 => ?_) (fun c5 => ?_)
            · exact absurd c5 (by show ¬ (24 : Int) ≤ j; omega)
            · refine w_ix (24 * s + k) (by omega) (by omega) ?_
              refine ih _ _ (by omega) (hf.up (by omega)) (by simpa [nv_up] using x1) (by simpa [nv_up] using x2) (fun q hq => by rw [← o1 q hq]; simp [nv_up]) (fun q hq => by rw [← o2 q hq]; simp [nv_up]) (fun q hq => ?_) (fun q hq => ?_)
              · by_cases e : q = k
                · rw [e, nv_up_same]
                · rw [nv_up_ne (by omega)]; exact x3 q (by omega)
              · rw [nv_up_ne (by omega)]; exact o3 q hq
        · have c4 : ¬ 0 ≤ n := c4
          unfold a_shtS a_sht
          rw [if_neg nb, if_neg nb, if_pos (by omega), if_pos (by omega)]
          exact gQ.same C
      · have c3 : ¬ n ≤ 24 := c3
        exact bad (by unfold a_shtB; rw [decide_eq_true (show 24 < n by omega)]; simp)
set_option maxRecDepth 100000 in
theorem r_drop_g (C : MI h a) {v : Int} (hv : nv_InR v) : nv_R M_X6_drop [vr 19 0, vi v] h (gQ h (a_droS a v) (a_dro a v)) := by
  refine nv_R.of rfl rfl (Nat.le_of_ble_eq_true rfl) ?_
  refine nv_go ok_X6_drop [] 40 ?_
  unfold a_droS a_dro
  refine w_call (r_isSheetA hv) (fun r h' hr => ?_)
  obtain ⟨rfl, rfl⟩ := hr
  refine w_ifb (fun c => ?_) (fun c => ?_)
  · rw [if_pos (bn_f c), if_pos (bn_f c)]
    exact gQ.same C
  · have c := bn_t c
    have g1 := a_out_f c
    have nb : ¬ a_out v 0 3 = true := by rw [c]; decide
    obtain ⟨s, rfl⟩ : ∃ s : Nat, v = s := ⟨v.toNat, by omega⟩
    have hs : s < 4 := by omega
    obtain ⟨e1, e2, r1, r2, r3⟩ := C.sh hs
    refine w_ix s rfl (by omega) ?_
    refine w_if (by omega) (fun c2 => ?_) (fun c2 => ?_)
    · have c2 : 0 ≤ h' 20 0 s := c2
      have c2 : ¬ a_sl a (s : Int).toNat = -1 := by show ¬ a_sl a s = -1; omega
      refine w_ix s rfl (by omega) ?_
      refine w_ix s rfl (by omega) ?_
      rw [if_neg nb, if_neg nb, if_neg c2, if_neg c2]
      have hf : g_fs h' (nv_up h' 20 0 s (-1)) := g_fs.rfl'.up (by omega)
      refine gQ.eq (by rw [show nv_up h' 20 0 s (-1) 21 0 s = h' 21 0 s by simp [nv_up]]; exact e2) ⟨rfl, C.wS (s := s) hf (nv_up_same _ _ _ _ _) (by rw [show nv_up h' 20 0 s (-1) 21 0 s = h' 21 0 s by simp [nv_up]]; exact e2) (by omega) r2 (fun k _ q => absurd q (by omega)) (fun q _ hq => nv_up_ne hq) (fun q _ hq => by simp [nv_up]) (fun q _ hq k _ => by simp [nv_up]), hf.lo⟩
    · have c2 : ¬ 0 ≤ h' 20 0 s := c2
      have c2 : a_sl a (s : Int).toNat = -1 := by show a_sl a s = -1; omega
      rw [if_neg nb, if_neg nb, if_pos c2, if_pos c2]
      exact gQ.same C
set_option maxRecDepth 100000 in
theorem r_item_g (C : MI h a) {v l i x : Int} (hv : nv_InR v) (hl : nv_InR l) (hi : nv_InR i) (hx : nv_InL x) : nv_R M_X6_item [vr 19 0, vi v, vi l, vi i, vl x] h (gQ h (a_itS a v l i x) (a_it1 a v l i)) := by
  have bad : a_itB v l = true → gQ h (a_itS a v l i x) (a_it1 a v l i) (some (vi (-1))) h := fun hb => by
    unfold a_itS a_it1; rw [if_pos hb, if_pos hb]; exact gQ.same C
  refine nv_R.of rfl rfl (Nat.le_of_ble_eq_true rfl) ?_
  refine nv_go ok_X6_item [85] 40 ?_
  refine w_call (r_isSheetA hv) (fun r h' hr => ?_)
  obtain ⟨rfl, rfl⟩ := hr
  refine w_ifb (fun c => ?_) (fun c => ?_)
  · exact bad (by unfold a_itB; rw [bn_f c]; simp)
  · have c := bn_t c
    refine w_call (r_inA hl (by omega) (by omega)) (fun r h2 hr => ?_)
    obtain ⟨rfl, rfl⟩ := hr
    refine w_ifb (fun c2 => ?_) (fun c2 => ?_)
    · exact bad (by unfold a_itB; rw [bn_f c2]; simp)
    · have c2 := bn_t c2
      have nb : ¬ a_itB v l = true := by unfold a_itB; rw [c, c2]; decide
      have g1 := a_out_f c
      have g2 := a_out_f c2
      obtain ⟨s, rfl⟩ : ∃ s : Nat, v = s := ⟨v.toNat, by omega⟩
      have hs : s < 4 := by omega
      obtain ⟨e1, e2, r1, r2, r3⟩ := C.sh hs
      have hrr := a_ref_r a s l i 1
      refine w_call (r_wrong C hs hl hi (by omega)) (fun r h3 hr => ?_)
      obtain ⟨rfl, rfl⟩ := hr
      refine w_if (by omega) (fun c3 => ?_) (fun c3 => ?_)
      · have c3 : a_ref a s l i 1 = 0 := c3
        obtain ⟨z1, z2, z3⟩ := a_ref_0 c3
        have z4 := a_lk_f z3
        have nb2 : ¬ ¬ a_ref a (s : Int).toNat l i 1 = 0 := fun q => q c3
        have j85 : ∀ z y : Int, z = a_nar l x → nv_V M_X6_item 85 [(0, vr 19 0), (1, vi s), (2, vi l), (3, vi i), (4, vl x), (6, vi y)] [vl z, vi (24 * s + i), vr 22 0] h3 (gQ h3 (a_itS a s l i x) (a_it1 a s l i)) := by
          intro z y hz
          refine nv_go ok_X6_item [] 40 ?_
          refine w_ix (24 * s + i.toNat) (by omega) (by omega) ?_
          unfold a_itS a_it1
          rw [if_neg nb, if_neg nb, if_neg nb2, if_neg nb2]
          have hf : g_fs h3 (nv_up h3 22 0 (24 * s + i.toNat) z) := g_fs.rfl'.up (by omega)
          refine ⟨rfl, C.wS (s := s) hf ?_ ?_ r1 r2 (fun k hk q => ?_) (fun q _ hq => by simp [nv_up]) (fun q _ hq => by simp [nv_up]) (fun q _ hq k hk => nv_up_ne (by omega)), hf.lo⟩
          · rw [show nv_up h3 22 0 (24 * s + i.toNat) z 20 0 s = h3 20 0 s by simp [nv_up]]; exact e1
          · rw [show nv_up h3 22 0 (24 * s + i.toNat) z 21 0 s = h3 21 0 s by simp [nv_up]]; exact e2
          · show nv_up h3 22 0 (24 * s + i.toNat) z 22 0 (24 * s + k) = (if k = i.toNat then a_nar l x else a_si a s k) ∧ nv_InL (if k = i.toNat then a_nar l x else a_si a s k)
            by_cases e : k = i.toNat
            · rw [if_pos e, e, nv_up_same]
              exact ⟨hz, a_nar_r hx⟩
            · rw [if_neg e, nv_up_ne (by omega)]
              exact r3 k hk q
        refine w_if hl (fun c4 => ?_) (fun c4 => ?_)
        · refine w_i2l ?_
          exact j85 _ _ (by unfold a_nar; rw [if_pos (show l = 0 from c4)])
        · refine w_ic hl (by omega) (fun c5 => ?_) (fun c5 => ?_)
          · refine w_i2l ?_
            exact j85 _ _ (by unfold a_nar; rw [if_neg (show ¬ l = 0 from c4), if_pos (show l = 1 from c5)])
          · refine w_ic hl (by omega) (fun c6 => ?_) (fun c6 => ?_)
            · refine w_i2l ?_
              exact j85 _ _ (by unfold a_nar; rw [if_neg (show ¬ l = 0 from c4), if_neg (show ¬ l = 1 from c5), if_pos (show l = 2 from c6)])
            · exact j85 _ _ (by unfold a_nar; rw [if_neg (show ¬ l = 0 from c4), if_neg (show ¬ l = 1 from c5), if_neg (show ¬ l = 2 from c6)])
      · have c3 : ¬ a_ref a s l i 1 = 0 := c3
        have c4 : ¬ a_ref a (s : Int).toNat l i 1 = 0 := c3
        unfold a_itS a_it1
        rw [if_neg nb, if_neg nb, if_pos c4, if_pos c4]
        exact gQ.same C
set_option maxHeartbeats 1000000 in
set_option maxRecDepth 100000 in
theorem r_copy_g (C : MI h a) {v i w j n : Int} (hv : nv_InR v) (hi : nv_InR i) (hw : nv_InR w) (hj : nv_InR j) (hn : nv_InR n) : nv_R M_X6_copy [vr 19 0, vi v, vi i, vi w, vi j, vi n] h (gQ h (a_cpyS a v i w j n) (a_cpy a v i w j n)) := by
  have bad : a_cpB v w = true → gQ h (a_cpyS a v i w j n) (a_cpy a v i w j n) (some (vi (-1))) h := fun hb => by
    unfold a_cpyS a_cpy; rw [if_pos hb, if_pos hb]; exact gQ.same C
  refine nv_R.of rfl rfl (Nat.le_of_ble_eq_true rfl) ?_
  refine nv_go ok_X6_copy [105] 80 ?_
  refine w_call (r_isSheetA hv) (fun r h' hr => ?_)
  obtain ⟨rfl, rfl⟩ := hr
  refine w_ifb (fun c => ?_) (fun c => ?_)
  · exact bad (by unfold a_cpB; rw [bn_f c]; simp)
  · have c := bn_t c
    refine w_call (r_isSheetA hw) (fun r h2 hr => ?_)
    obtain ⟨rfl, rfl⟩ := hr
    refine w_ifb (fun c2 => ?_) (fun c2 => ?_)
    · exact bad (by unfold a_cpB; rw [bn_f c2]; simp)
    · have c2 := bn_t c2
      have nb : ¬ a_cpB v w = true := by unfold a_cpB; rw [c, c2]; decide
      have g1 := a_out_f c
      have g2 := a_out_f c2
      obtain ⟨s, rfl⟩ : ∃ s : Nat, v = s := ⟨v.toNat, by omega⟩
      obtain ⟨t, rfl⟩ : ∃ t : Nat, w = t := ⟨w.toNat, by omega⟩
      have hs : s < 4 := by omega
      have ht : t < 4 := by omega
      obtain ⟨e1, e2, r1, r2, r3⟩ := C.sh hs
      obtain ⟨f1, f2, t1, t2, t3⟩ := C.sh ht
      have no : (a_sl a s = -1 ∨ a_sl a t = -1) → gQ h2 (a_cpyS a s i t j n) (a_cpy a s i t j n) (some (vi (-11))) h2 := fun q => by
        have q : a_sl a (s : Int).toNat = -1 ∨ a_sl a (t : Int).toNat = -1 := q
        unfold a_cpyS a_cpy
        rw [if_neg nb, if_neg nb, if_pos q, if_pos q]
        exact gQ.same C
      refine w_ix s rfl (by omega) ?_
      refine w_if (by omega) (fun c3 => ?_) (fun c3 => ?_)
      · have c3 : h2 20 0 s < 0 := c3
        exact no (by omega)
      · have c3 : ¬ h2 20 0 s < 0 := c3
        refine w_ix t rfl (by omega) ?_
        refine w_if (by omega) (fun c4 => ?_) (fun c4 => ?_)
        · have c4 : 0 ≤ h2 20 0 t := c4
          have q1 : ¬ (a_sl a (s : Int).toNat = -1 ∨ a_sl a (t : Int).toNat = -1) := by
            show ¬ (a_sl a s = -1 ∨ a_sl a t = -1)
            omega
          refine w_ix s rfl (by omega) ?_
          refine w_ix t rfl (by omega) ?_
          refine w_ic (by omega) (by omega) (fun c5 => ?_) (fun c5 => ?_)
          · have c5 : h2 20 0 s = h2 20 0 t := c5
            have q2 : ¬ ¬ a_sl a (s : Int).toNat = a_sl a (t : Int).toNat := fun q => q (by show a_sl a s = a_sl a t; rw [← e1, ← f1]; exact c5)
            have ix : (a_lk (a_sn a s) i n || a_lk (a_sn a t) j n) = true → gQ h2 (a_cpyS a s i t j n) (a_cpy a s i t j n) (some (vi (-13))) h2 := fun q => by
              have q : (a_lk (a_sn a (s : Int).toNat) i n || a_lk (a_sn a (t : Int).toNat) j n) = true := q
              unfold a_cpyS a_cpy
              rw [if_neg nb, if_neg nb, if_neg q1, if_neg q1, if_neg q2, if_neg q2, if_pos q, if_pos q]
              exact gQ.same C
            refine w_ix s rfl (by omega) ?_
            refine w_call (r_isPart (by omega) hi hn) (fun r h5 hr => ?_)
            obtain ⟨rfl, rfl⟩ := hr
            rw [e2]
            refine w_ifb (fun c6 => ?_) (fun c6 => ?_)
            · exact ix (by rw [bn_f c6]; rfl)
            · have c6 := bn_t c6
              refine w_ix t rfl (by omega) ?_
              refine w_call (r_isPart (by omega) hj hn) (fun r h6 hr => ?_)
              obtain ⟨rfl, rfl⟩ := hr
              rw [f2]
              refine w_ifb (fun c7 => ?_) (fun c7 => ?_)
              · exact ix (by rw [bn_f c7, Bool.or_true])
              · have c7 := bn_t c7
                have z1 := a_lk_f c6
                have z2 := a_lk_f c7
                have q3 : ¬ (a_lk (a_sn a (s : Int).toNat) i n || a_lk (a_sn a (t : Int).toNat) j n) = true := by
                  show ¬ (a_lk (a_sn a s) i n || a_lk (a_sn a t) j n) = true
                  rw [c6, c7]; decide
                obtain ⟨m, rfl⟩ : ∃ m : Nat, n = m := ⟨n.toNat, by omega⟩
                obtain ⟨i, rfl⟩ : ∃ i' : Nat, i = i' := ⟨i.toNat, by omega⟩
                obtain ⟨j, rfl⟩ : ∃ j' : Nat, j = j' := ⟨j.toNat, by omega⟩
                have ea : a_cpy a s i t j m = m := by unfold a_cpy; rw [if_neg nb, if_neg q1, if_neg q2, if_neg q3]
                have eS : a_cpyS a s i t j m = a_wS a t (a_sl a t) (a_sn a t) (fun k => if j ≤ k ∧ k < j + m then a_si a s (i + (k - j)) else a_si a t k) := by unfold a_cpyS; rw [if_neg nb, if_neg q1, if_neg q2, if_neg q3]; rfl
                rw [ea, eS]
                generalize hQ : gQ h6 (a_wS a t (a_sl a t) (a_sn a t) (fun k => if j ≤ k ∧ k < j + m then a_si a s (i + (k - j)) else a_si a t k)) m = Q
                have j110 : ∀ u : Bool, u = decide (s = t ∧ i < j) → nv_V M_X6_copy 105 [(0, vr 19 0), (1, vi s), (2, vi i), (3, vi t), (4, vi j), (5, vi m)] [vi (nv_b u)] h6 Q := by
                  intro u hu
                  have hu1 : u = true → s = t ∧ i < j := fun q => of_decide_eq_true (hu.symm.trans q)
                  have hu2 : u = false → ¬ (s = t ∧ i < j) := fun q => of_decide_eq_false (hu.symm.trans q)
                  have loop := m_down (n := m) (G := fun k => ∀ (x : Int) (h1 : nv_St), x = k → g_fs h6 h1 → h1 20 0 = h6 20 0 → h1 21 0 = h6 21 0 → (∀ y, y < 96 → h1 22 0 y = if (24 * t + j + (if u = true then m - k else 0) ≤ y ∧ y < 24 * t + j + (if u = true then m else k)) then h6 22 0 (24 * s + i + (y - (24 * t + j))) else h6 22 0 y) → nv_V M_X6_copy 110 [(0, vr 19 0), (1, vi s), (2, vi i), (3, vi t), (4, vi j), (5, vi m), (6, vi (nv_b u)), (7, vi x)] [] h1 Q) ?_ ?_
                  · refine nv_go ok_X6_copy [110] 80 ?_
                    refine loop 0 (by omega) _ _ rfl g_fs.rfl' rfl rfl (fun y hy => ?_)
                    cases u with
                    | true => rw [if_pos rfl, if_pos rfl, if_neg (by omega)]
                    | false => rw [if_neg (show ¬ false = true by decide), if_neg (show ¬ false = true by decide), if_neg (by omega)]
                  · intro x h1 hx hf h20 h21 h22
                    refine nv_go ok_X6_copy [110] 80 ?_
                    refine w_ic (by omega) (by omega) (fun c8 => ?_) (fun c8 => ?_)
                    · rw [← hQ]
                      have hy : ∀ y, y < 96 → h1 22 0 y = if 24 * t + j ≤ y ∧ y < 24 * t + j + m then h6 22 0 (24 * s + i + (y - (24 * t + j))) else h6 22 0 y := by
                        intro y hy
                        rw [h22 y hy]
                        cases u with
                        | true => simp only [if_true, Nat.sub_self, Nat.add_zero]
                        | false => simp only [Bool.false_eq_true, if_false, Nat.add_zero]
                      refine ⟨rfl, C.wS hf (by rw [h20]; exact f1) (by rw [h21]; exact f2) t1 t2 (fun k hk q => ?_) (fun q _ _ => by rw [h20]) (fun q _ _ => by rw [h21]) (fun q hq4 hq k hk => ?_), hf.lo⟩
                      · show h1 22 0 (24 * t + k) = (if j ≤ k ∧ k < j + m then a_si a s (i + (k - j)) else a_si a t k) ∧ nv_InL (if j ≤ k ∧ k < j + m then a_si a s (i + (k - j)) else a_si a t k)
                        rw [hy _ (by omega)]
                        by_cases e : j ≤ k ∧ k < j + m
                        · rw [if_pos e, if_pos (by omega), show 24 * s + i + (24 * t + k - (24 * t + j)) = 24 * s + (i + (k - j)) by omega]
                          exact r3 _ (by omega) (by omega)
                        · rw [if_neg e, if_neg (by omega)]
                          exact t3 k hk q
                      · rw [hy _ (by omega), if_neg (by omega)]
                    · exact absurd (by show (m : Int) ≤ x; omega) c8
                  · intro k hk ih x h1 hx hf h20 h21 h22
                    have j134 : ∀ (z : Int) (q : Nat), z = q → q = (if u = true then m - 1 - k else k) → nv_V M_X6_copy 134 [(0, vr 19 0), (1, vi s), (2, vi i), (3, vi t), (4, vi j), (5, vi m), (6, vi (nv_b u)), (7, vi x)] [vi z] h1 Q := by
                      intro z q hz hq
                      have hqm : q < m := by
                        rw [hq]
                        split <;> omega
                      refine nv_go ok_X6_copy [110] 80 ?_
                      refine w_ix (24 * s + i + q) (by omega) (by omega) ?_
                      refine w_ix (24 * t + j + q) (by omega) (by omega) ?_
                      refine nv_V.take 8 (ih _ _ (by omega) (hf.up (by omega)) (by rw [← h20]; funext y; simp [nv_up]) (by rw [← h21]; funext y; simp [nv_up]) (fun y hy => ?_))
                      have er : h1 22 0 (24 * s + i + q) = h6 22 0 (24 * s + i + q) := by
                        rw [h22 _ (by omega), if_neg]
                        cases u with
                        | true =>
                          have := hu1 rfl
                          simp only [if_true] at hq ⊢
                          omega
                        | false =>
                          have := hu2 rfl
                          simp only [Bool.false_eq_true, if_false] at hq ⊢
                          omega
                      by_cases ey : y = 24 * t + j + q
                      · rw [ey, nv_up_same, er]
                        cases u with
                        | true =>
                          simp only [if_true] at hq ⊢
                          rw [if_pos (by omega)]
                          congr 1
                          omega
                        | false =>
                          simp only [Bool.false_eq_true, if_false] at hq ⊢
                          rw [if_pos (by omega)]
                          congr 1
                          omega
                      · rw [nv_up_ne ey, h22 y hy]
                        cases u with
                        | true =>
                          simp only [if_true] at hq ⊢
                          by_cases eb : 24 * t + j + (m - k) ≤ y ∧ y < 24 * t + j + m
                          · rw [if_pos eb, if_pos (by omega)]
                          · rw [if_neg eb, if_neg (by omega)]
                        | false =>
                          simp only [Bool.false_eq_true, if_false] at hq ⊢
                          by_cases eb : 24 * t + j + 0 ≤ y ∧ y < 24 * t + j + k
                          · rw [if_pos eb, if_pos (by omega)]
                          · rw [if_neg eb, if_neg (by omega)]
                    refine nv_go ok_X6_copy [134] 80 ?_
                    refine w_ic (by omega) (by omega) (fun c8 => ?_) (fun c8 => ?_)
                    · exact absurd c8 (by show ¬ (m : Int) ≤ x; omega)
                    · refine w_ifb (fun c9 => ?_) (fun c9 => ?_)
                      · exact j134 _ k hx (by rw [c9, if_neg (by decide)])
                      · exact j134 _ (m - 1 - k) (by omega) (by rw [c9, if_pos rfl])
                refine w_ic (by omega) (by omega) (fun c8 => ?_) (fun c8 => ?_)
                · have c8 : (s : Int) = t := c8
                  refine w_ic (by omega) (by omega) (fun c9 => ?_) (fun c9 => ?_)
                  · have c9 : (j : Int) ≤ i := c9
                    exact j110 false (decide_eq_false (by omega)).symm
                  · have c9 : ¬ (j : Int) ≤ i := c9
                    exact j110 true (decide_eq_true (by omega)).symm
                · have c8 : ¬ (s : Int) = t := c8
                  exact j110 false (decide_eq_false (by omega)).symm
          · have c5 : ¬ h2 20 0 s = h2 20 0 t := c5
            have q2 : ¬ a_sl a (s : Int).toNat = a_sl a (t : Int).toNat := fun q => c5 (by rw [e1, f1]; exact q)
            unfold a_cpyS a_cpy
            rw [if_neg nb, if_neg nb, if_neg q1, if_neg q1, if_pos q2, if_pos q2]
            exact gQ.same C
        · have c4 : ¬ 0 ≤ h2 20 0 t := c4
          exact no (by omega)
set_option maxHeartbeats 1000000 in
set_option maxRecDepth 100000 in
theorem r_film_g (C : MI h a) {v n s l i : Int} (hv : nv_InR v) (hn : nv_InR n) (hs : nv_InR s) (hl : nv_InR l) (hi : nv_InR i) : nv_R M_X6_film [vr 19 0, vi v, vi n, vi s, vi l, vi i] h (gQ h (a_fiS a v n s l i) (a_fi a v n s l i)) := by
  obtain ⟨hok, he, hNok⟩ := C.now
  obtain ⟨hP5, hS5, hP, hS, hH, hDr, hpl, hsw⟩ := hok.m
  have bad : a_fiB a v n s l = true → gQ h (a_fiS a v n s l i) (a_fi a v n s l i) (some (vi (-1))) h := fun hb => by
    unfold a_fiS a_fi; rw [if_pos hb, if_pos hb]; exact gQ.same C
  refine nv_R.of rfl rfl (Nat.le_of_ble_eq_true rfl) ?_
  refine nv_go ok_X6_film [64] 80 ?_
  refine w_call (r_isPlankA hP5 hP hv) (fun r h' hr => ?_)
  obtain ⟨rfl, rfl⟩ := hr
  refine w_ifb (fun c => ?_) (fun c => ?_)
  · exact bad (by unfold a_fiB; rw [bn_f c]; simp)
  · have c := bn_t c
    refine w_call (r_inA hn (by omega) (by omega)) (fun r h2 hr => ?_)
    obtain ⟨rfl, rfl⟩ := hr
    refine w_ifb (fun c2 => ?_) (fun c2 => ?_)
    · exact bad (by unfold a_fiB; rw [bn_f c2]; simp)
    · have c2 := bn_t c2
      refine w_call (r_isSheetA hs) (fun r h3 hr => ?_)
      obtain ⟨rfl, rfl⟩ := hr
      refine w_ifb (fun c3 => ?_) (fun c3 => ?_)
      · exact bad (by unfold a_fiB; rw [bn_f c3]; simp)
      · have c3 := bn_t c3
        refine w_call (r_inA hl (by omega) (by omega)) (fun r h4 hr => ?_)
        obtain ⟨rfl, rfl⟩ := hr
        refine w_ifb (fun c4 => ?_) (fun c4 => ?_)
        · exact bad (by unfold a_fiB; rw [bn_f c4]; simp)
        · have c4 := bn_t c4
          have nb : ¬ a_fiB a v n s l = true := by unfold a_fiB; rw [c, c2, c3, c4]; decide
          obtain ⟨p, rfl, hp⟩ := a_bp_f c
          have g2 := a_out_f c2
          have g3 := a_out_f c3
          have g4 := a_out_f c4
          obtain ⟨m, rfl⟩ : ∃ m : Nat, n = m := ⟨n.toNat, by omega⟩
          obtain ⟨q, rfl⟩ : ∃ q : Nat, s = q := ⟨s.toNat, by omega⟩
          have hq : q < 4 := by omega
          obtain ⟨e1, e2, r1, r2, r3⟩ := C.sh hq
          have hrr := a_ref_r a q l i m
          refine w_call (r_wrong C hq hl hi (by omega)) (fun r h5 hr => ?_)
          obtain ⟨rfl, rfl⟩ := hr
          refine w_if (by omega) (fun c5 => ?_) (fun c5 => ?_)
          · have c5 : a_ref a q l i m = 0 := c5
            obtain ⟨z1, z2, z3⟩ := a_ref_0 c5
            have z4 := a_lk_f z3
            obtain ⟨i, rfl⟩ : ∃ i' : Nat, i = i' := ⟨i.toNat, by omega⟩
            have nb2 : ¬ ¬ a_ref a (q : Int).toNat l i m = 0 := fun x => x c5
            have ea : a_fi a p m q l i = m := by unfold a_fi; rw [if_neg nb, if_neg nb2]
            have eS : a_fiS a p m q l i = a_wS a q (a_sl a q) (a_sn a q) (fun k => if i ≤ k ∧ k < i + m then a_nar l (m_it (k - i + 1) (a_N a) 3 p) else a_si a q k) := by unfold a_fiS; rw [if_neg nb, if_neg nb2]; rfl
            rw [ea, eS]
            have loop := m_down (n := m) (G := fun k => ∀ (j z : Int) (h1 : nv_St), j = k → m_eq (a_P a) (a_Sw a) (m_mm h1 25) (m_it k (a_N a)) → g_fs h5 h1 → h1 20 0 = h5 20 0 → h1 21 0 = h5 21 0 → (∀ x, x < 24 → h1 22 0 (24 * q + x) = if i ≤ x ∧ x < i + k then a_nar l (m_it (x - i + 1) (a_N a) 3 p) else a_si a q x) → (∀ y, ¬ (24 * q ≤ y ∧ y < 24 * q + 24) → h1 22 0 y = h5 22 0 y) → nv_V M_X6_film 64 [(0, vr 19 0), (1, vi p), (2, vi m), (3, vi q), (4, vi l), (5, vi i), (6, vi z), (7, vi j)] [] h1 (gQ h5 (a_wS a q (a_sl a q) (a_sn a q) (fun k => if i ≤ k ∧ k < i + m then a_nar l (m_it (k - i + 1) (a_N a) 3 p) else a_si a q k)) m)) ?_ ?_
            · refine w_call r_begin (fun r h6 hr => ?_)
              obtain ⟨rfl, hb, hf⟩ := hr
              refine loop 0 (by omega) _ _ _ rfl ((g_eq hP5 hS5 hb).trans' he) (m_frM.beg hf).s (hf 20 0 (by omega)) (hf 21 0 (by omega)) (fun x hx => ?_) (fun y _ => by rw [hf 22 0 (by omega)])
              rw [if_neg (by omega), hf 22 0 (by omega)]
              exact (r3 x hx (by omega)).1
            · intro j z h1 hj he1 hf h20 h21 hx ho
              refine nv_go ok_X6_film [64] 80 ?_
              refine w_ic (by omega) (by omega) (fun c6 => ?_) (fun c6 => ?_)
              · refine ⟨rfl, C.wS hf (by rw [h20]; exact e1) (by rw [h21]; exact e2) r1 r2 (fun k hk q0 => ⟨hx k hk, ?_⟩) (fun _ _ _ => by rw [h20]) (fun _ _ _ => by rw [h21]) (fun y hy4 hy k hk => ho _ (by omega)), hf.lo⟩
                show nv_InL (if i ≤ k ∧ k < i + m then a_nar l (m_it (k - i + 1) (a_N a) 3 p) else a_si a q k)
                split
                · exact a_nar_r (m_it_in hNok hp _)
                · exact (r3 k hk q0).2
              · exact absurd (by show (m : Int) ≤ j; omega) c6
            · intro k hk ih j z h1 hj he1 hf h20 h21 hx ho
              have hok1 := he1.ok (m_it_ok hNok k)
              refine nv_go ok_X6_film [64] 80 ?_
              refine w_ic (by omega) (by omega) (fun c6 => ?_) (fun c6 => ?_)
              · exact absurd c6 (by show ¬ (m : Int) ≤ j; omega)
              · refine w_call (r_hourIn_25 hok1 (by omega) (hop := 0) (by decide) (by decide)) (fun r h6 hr => ?_)
                obtain ⟨rfl, he6, -, hf6⟩ := hr
                rw [m_hc_0, m_hourC_cut] at he6
                have he7 : m_eq (a_P a) (a_Sw a) (m_mm h6 25) (m_it (k + 1) (a_N a)) := he6.trans' (m_hour_eq he1 hok1)
                have e3 : h6 25 0 (2 + p) = m_it (k + 1) (a_N a) 3 p := (he7.2.1 p hp).2.2
                have h39 := ((m_it_ok hNok (k + 1)).2.2.2.2.2.2.1 p hp).2.2
                refine w_ix (2 + p) (by omega) (by omega) ?_
                refine w_i2r (by omega) ?_
                refine w_call (r_cutTo hl) (fun r h7 hr => ?_)
                obtain ⟨rfl, rfl⟩ := hr
                refine w_ix (24 * q + i + k) (by omega) (by omega) ?_
                refine ih _ _ _ (by omega) ?_ ((hf.trans' hf6.s).up (by omega)) (by rw [← h20, ← hf6 20 0 (by omega)]; funext y; simp [nv_up]) (by rw [← h21, ← hf6 21 0 (by omega)]; funext y; simp [nv_up]) (fun x hx2 => ?_) (fun y hy => ?_)
                · rw [m_mm_ext (h := h7) (by funext y; simp [nv_up])]
                  exact he7
                · by_cases ex : x = i + k
                  · rw [ex, show 24 * q + (i + k) = 24 * q + i + k by omega, nv_up_same, if_pos (by omega), e3, show i + k - i + 1 = k + 1 by omega]
                  · rw [nv_up_ne (by omega), hf6 22 0 (by omega), hx x hx2]
                    by_cases ey : i ≤ x ∧ x < i + k
                    · rw [if_pos ey, if_pos (by omega)]
                    · rw [if_neg ey, if_neg (by omega)]
                · rw [nv_up_ne (by omega), hf6 22 0 (by omega)]
                  exact ho y hy
          · have c5 : ¬ a_ref a q l i m = 0 := c5
            have c6 : ¬ a_ref a (q : Int).toNat l i m = 0 := c5
            unfold a_fiS a_fi
            rw [if_neg nb, if_neg nb, if_pos c6, if_pos c6]
            exact gQ.same C
end nvS6
