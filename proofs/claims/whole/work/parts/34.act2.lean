/-! ===== what is done: the class, further ===== -/
def a_setB (a : a_S) (v p : Int) : Bool := a_bp (a_Sw a) v || (decide (¬ p = -4) && a_bp (a_P a) p)
def a_set (a : a_S) (v p : Int) : Int := if a_setB a v p = true then -1 else if a_N a 6 v.toNat = p then -2 else a_N a 6 v.toNat
def a_setS (a : a_S) (v p : Int) : a_S := if a_setB a v p = true then a else if a_N a 6 v.toNat = p then a else (a_step (fun N => m_put N 6 v.toNat p) a.1, a.2)
def a_shaB (a : a_S) (v n : Int) : Bool := a_bp (a_Sw a) v || a_out n 1 9
def a_sha (a : a_S) (v n : Int) : Int := if a_shaB a v n = true then -1 else if a_N a 5 v.toNat = 9 then -2 else min 9 (a_N a 5 v.toNat + n)
def a_shaS (a : a_S) (v n : Int) : a_S := if a_shaB a v n = true then a else if a_N a 5 v.toNat = 9 then a else (a_step (fun N => m_put N 5 v.toNat (min 9 (N 5 v.toNat + n))) a.1, a.2)
def a_soB (a : a_S) (v n : Int) : Bool := a_bp (a_P a) v || a_out n 1 99
def a_so (a : a_S) (v n : Int) : Int := if a_soB a v n = true then -1 else if a_N a 3 v.toNat = 0 ∨ a_N a 3 v.toNat = 99 then -2 else min 99 (a_N a 3 v.toNat + n)
def a_soS (a : a_S) (v n : Int) : a_S := if a_soB a v n = true then a else if a_N a 3 v.toNat = 0 ∨ a_N a 3 v.toNat = 99 then a else (a_step (fun N => m_put N 3 v.toNat (min 99 (N 3 v.toNat + n))) a.1, a.2)
def a_un (a : a_S) : Int := match a_pl a with
  | [] => -4
  | _ :: r => (r.length : Int)
def a_unS (a : a_S) : a_S := match a_pl a with
  | [] => a
  | M :: r => ((a_P a, a_Sw a, m_mom (a_N a) M, r), a.2)
def a_seed (a : a_S) (v : Int) : Int := if v < 0 then -1 else a_N a 0 3
def a_seedS (a : a_S) (v : Int) : a_S := if v < 0 then a else ((a_P a, a_Sw a, m_put (a_N a) 0 3 v, a_pl a), a.2)
theorem m_put_ok0 {N : m_NN} {P S : Nat} {B x : Int} (hN : m_ok N P S B) (hx : 0 ≤ x ∧ x < 2147483648) : m_ok (m_put N 0 3 x) P S B := by
  obtain ⟨h1, h2, h3, h4, h5, h6, h7, h8⟩ := hN
  exact ⟨h1, h2, by simpa [m_put] using h3, by simpa [m_put] using h4, by simpa [m_put] using h5, by simpa [m_put] using hx, fun p hp => by simpa [m_put] using h7 p hp, fun q hq => by simpa [m_put] using h8 q hq⟩
section nvA2
variable {h : nv_St} {a : a_S}
set_option maxRecDepth 100000 in
theorem r_set_c (C : CI h a) {v p : Int} (hv : nv_InR v) (hp : nv_InR p) : nv_R M_X5_set [vr 18 0, vi v, vi p] h (cQ h (a_setS a v p) (a_set a v p)) := by
  obtain ⟨hok, he, hNok⟩ := C.now
  obtain ⟨hP5, hS5, hP, hS, hH, hDr, hpl, hsw⟩ := hok.h
  have bad : a_setB a v p = true → cQ h (a_setS a v p) (a_set a v p) (some (vi (-1))) h := fun hb => by
    unfold a_setS a_set; rw [if_pos hb, if_pos hb]; exact cQ.same C
  have h24 : a_setB a v p = false → (∃ s : Nat, v = s ∧ s < a_Sw a) → (p = -4 ∨ (0 ≤ p ∧ p < a_P a)) → nv_V M_X5_set 24 [(0, vr 18 0), (1, vi v), (2, vi p)] [] h (cQ h (a_setS a v p) (a_set a v p)) := by
    rintro hb ⟨s, rfl, hs⟩ hpr
    have nb : ¬ a_setB a (s : Int) p = true := by rw [hb]; decide
    have e6 : h 6 0 s = a_N a 6 s := (he.2.2 s hs).2.2
    have h6 := (hsw s hs).2.2
    refine nv_go ok_X5_set [] 40 ?_
    refine w_ix s rfl (by omega) ?_
    refine w_ic (by omega) hp (fun c => ?_) (fun c => ?_)
    · have c : a_N a 6 (s : Int).toNat = p := by rw [← c]; exact e6.symm
      unfold a_setS a_set
      rw [if_neg nb, if_pos c, if_neg nb, if_pos c]
      exact cQ.same C
    · have c : ¬ a_N a 6 (s : Int).toNat = p := fun q => c (by show h 6 0 s = p; rw [e6]; exact q)
      refine w_call (r_keepW C.1) (fun r h3 hr => ?_)
      obtain ⟨rfl, hW3, h03, hf3⟩ := hr
      refine w_ix s rfl (by omega) ?_
      unfold a_setS a_set
      rw [if_neg nb, if_neg c, if_neg nb, if_neg c]
      refine cQ.eq e6 ⟨rfl, C.upd (hf3.trans' (m_fr.rfl'.up (o := 0) (by decide)).c0) ?_⟩
      exact hW3.step (w := a.1) (m_fr.rfl'.up (by decide)) (N' := m_put a.1.2.2.1 6 s p) (by rw [m_nn_put (by decide)]; exact m_put_eq hW3.2.1) (m_put_ok6 hW3.1 hpr)
  refine nv_R.of rfl rfl (Nat.le_of_ble_eq_true rfl) ?_
  refine nv_go ok_X5_set [24] 40 ?_
  refine w_call (r_noSawyer hS5 hS hv) (fun r h' hr => ?_)
  obtain ⟨rfl, rfl⟩ := hr
  refine w_ifb (fun c => ?_) (fun c => ?_)
  · refine w_ic hp (by omega) (fun c2 => ?_) (fun c2 => ?_)
    · have c2 : p = -4 := c2
      exact h24 (by unfold a_setB; rw [c, c2]; rfl) (a_bp_f c) (Or.inl c2)
    · have c2 : ¬ p = -4 := c2
      refine w_call (r_noPlank hP5 hP hp) (fun r h2 hr => ?_)
      obtain ⟨rfl, rfl⟩ := hr
      refine w_ifb (fun c3 => ?_) (fun c3 => ?_)
      · obtain ⟨q, hq, hq2⟩ := a_bp_f c3
        exact h24 (by unfold a_setB; rw [c, c3, Bool.and_false]; rfl) (a_bp_f c) (Or.inr (by omega))
      · exact bad (by unfold a_setB; rw [c3, decide_eq_true c2]; simp)
  · exact bad (by unfold a_setB; rw [c]; rfl)
set_option maxRecDepth 100000 in
theorem r_sharpen_c (C : CI h a) {v n : Int} (hv : nv_InR v) (hn : nv_InR n) : nv_R M_X5_sharpen [vr 18 0, vi v, vi n] h (cQ h (a_shaS a v n) (a_sha a v n)) := by
  obtain ⟨hok, he, hNok⟩ := C.now
  obtain ⟨hP5, hS5, hP, hS, hH, hDr, hpl, hsw⟩ := hok.h
  have bad : a_shaB a v n = true → cQ h (a_shaS a v n) (a_sha a v n) (some (vi (-1))) h := fun hb => by
    unfold a_shaS a_sha; rw [if_pos hb, if_pos hb]; exact cQ.same C
  refine nv_R.of rfl rfl (Nat.le_of_ble_eq_true rfl) ?_
  refine nv_go ok_X5_sharpen [] 60 ?_
  refine w_call (r_noSawyer hS5 hS hv) (fun r h' hr => ?_)
  obtain ⟨rfl, rfl⟩ := hr
  refine w_ifb (fun c => ?_) (fun c => ?_)
  · refine w_call (r_outA hn (by omega) (by omega)) (fun r h2 hr => ?_)
    obtain ⟨rfl, rfl⟩ := hr
    refine w_ifb (fun c2 => ?_) (fun c2 => ?_)
    · have nb : ¬ a_shaB a v n = true := by unfold a_shaB; rw [c, c2]; decide
      obtain ⟨s, rfl, hs⟩ := a_bp_f c
      have g2 := a_out_f c2
      have e5 : h2 5 0 s = a_N a 5 s := (he.2.2 s hs).2.1
      have h5 := (hsw s hs).2.1
      refine w_ix s rfl (by omega) ?_
      refine w_ic (by omega) (by omega) (fun c3 => ?_) (fun c3 => ?_)
      · have c3 : a_N a 5 (s : Int).toNat = 9 := e5.symm.trans c3
        unfold a_shaS a_sha
        rw [if_neg nb, if_pos c3, if_neg nb, if_pos c3]
        exact cQ.same C
      · have c3 : ¬ a_N a 5 (s : Int).toNat = 9 := fun q => c3 (e5.trans q)
        refine w_call (r_keepW C.1) (fun r h3 hr => ?_)
        obtain ⟨rfl, hW3, h03, hf3⟩ := hr
        have e53 : h3 5 0 s = h2 5 0 s := by rw [h03 5 (by omega)]
        refine w_call (r_addTeeth (by omega) (by omega) (by omega)) (fun r h4 hr => ?_)
        obtain ⟨rfl, rfl⟩ := hr
        refine w_ix s rfl (by omega) ?_
        unfold a_shaS a_sha
        rw [if_neg nb, if_neg c3, if_neg nb, if_neg c3]
        refine cQ.eq (by rw [nv_up_same, e53, e5]; rfl) ⟨rfl, C.upd (hf3.trans' (m_fr.rfl'.up (o := 0) (by decide)).c0) ?_⟩
        refine hW3.step (w := a.1) (m_fr.rfl'.up (by decide)) (N' := m_put a.1.2.2.1 5 s (min 9 (a.1.2.2.1 5 s + n))) ?_ (m_put_ok5 hW3.1 ?_)
        · rw [m_nn_put (by decide), e53, e5]; exact m_put_eq hW3.2.1
        · have : a.1.2.2.1 5 s = a_N a 5 s := rfl
          omega
    · exact bad (by unfold a_shaB; rw [c2, Bool.or_true])
  · exact bad (by unfold a_shaB; rw [c]; rfl)
set_option maxRecDepth 100000 in
theorem r_soak_c (C : CI h a) {v n : Int} (hv : nv_InR v) (hn : nv_InR n) : nv_R M_X5_soak [vr 18 0, vi v, vi n] h (cQ h (a_soS a v n) (a_so a v n)) := by
  obtain ⟨hok, he, hNok⟩ := C.now
  obtain ⟨hP5, hS5, hP, hS, hH, hDr, hpl, hsw⟩ := hok.h
  have bad : a_soB a v n = true → cQ h (a_soS a v n) (a_so a v n) (some (vi (-1))) h := fun hb => by
    unfold a_soS a_so; rw [if_pos hb, if_pos hb]; exact cQ.same C
  refine nv_R.of rfl rfl (Nat.le_of_ble_eq_true rfl) ?_
  refine nv_go ok_X5_soak [] 60 ?_
  refine w_call (r_noPlank hP5 hP hv) (fun r h' hr => ?_)
  obtain ⟨rfl, rfl⟩ := hr
  refine w_ifb (fun c => ?_) (fun c => ?_)
  · refine w_call (r_outA hn (by omega) (by omega)) (fun r h2 hr => ?_)
    obtain ⟨rfl, rfl⟩ := hr
    refine w_ifb (fun c2 => ?_) (fun c2 => ?_)
    · have nb : ¬ a_soB a v n = true := by unfold a_soB; rw [c, c2]; decide
      obtain ⟨p, rfl, hp⟩ := a_bp_f c
      have g2 := a_out_f c2
      have e3 : h2 3 0 p = a_N a 3 p := (he.2.1 p hp).2.2
      have h3r := (hpl p hp).2.2
      have no : (h2 3 0 p = 0 ∨ h2 3 0 p = 99) → cQ h2 (a_soS a p n) (a_so a p n) (some (vi (-2))) h2 := fun hb => by
        have hb2 : a_N a 3 (p : Int).toNat = 0 ∨ a_N a 3 (p : Int).toNat = 99 := by show a_N a 3 p = 0 ∨ a_N a 3 p = 99; omega
        unfold a_soS a_so
        rw [if_neg nb, if_pos hb2, if_neg nb, if_pos hb2]
        exact cQ.same C
      refine w_ix p rfl (by omega) ?_
      refine w_if (by omega) (fun c3 => ?_) (fun c3 => ?_)
      · exact no (Or.inl c3)
      · have c3 : ¬ h2 3 0 p = 0 := c3
        refine w_ix p rfl (by omega) ?_
        refine w_ic (by omega) (by omega) (fun c4 => ?_) (fun c4 => ?_)
        · exact no (Or.inr c4)
        · have c4 : ¬ h2 3 0 p = 99 := c4
          have nn : ¬ (a_N a 3 (p : Int).toNat = 0 ∨ a_N a 3 (p : Int).toNat = 99) := by show ¬ (a_N a 3 p = 0 ∨ a_N a 3 p = 99); omega
          refine w_call (r_keepW C.1) (fun r h3 hr => ?_)
          obtain ⟨rfl, hW3, h03, hf3⟩ := hr
          have e33 : h3 3 0 p = h2 3 0 p := by rw [h03 3 (by omega)]
          refine w_ix p rfl (by omega) ?_
          refine w_mx (by omega) (by omega) ?_
          refine w_ix p rfl (by omega) ?_
          refine w_ix p rfl (by omega) ?_
          unfold a_soS a_so
          rw [if_neg nb, if_neg nn, if_neg nb, if_neg nn]
          refine cQ.eq (by rw [nv_up_same, e33, e3]; rfl) ⟨rfl, C.upd (hf3.trans' (m_fr.rfl'.up (o := 0) (by decide)).c0) ?_⟩
          refine hW3.step (w := a.1) (m_fr.rfl'.up (by decide)) (N' := m_put a.1.2.2.1 3 p (min 99 (a.1.2.2.1 3 p + n))) ?_ (m_put_ok3 hW3.1 ?_)
          · rw [m_nn_put (by decide), e33, e3]; exact m_put_eq hW3.2.1
          · have : a.1.2.2.1 3 p = a_N a 3 p := rfl
            omega
    · exact bad (by unfold a_soB; rw [c2, Bool.or_true])
  · exact bad (by unfold a_soB; rw [c]; rfl)
set_option maxRecDepth 100000 in
theorem r_undo_c (C : CI h a) : nv_R M_X5_undo [vr 18 0] h (cQ h (a_unS a) (a_un a)) := by
  obtain ⟨hok, he, hNok⟩ := C.now
  refine nv_R.of rfl rfl (Nat.le_of_ble_eq_true rfl) ?_
  refine nv_go ok_X5_undo [] 60 ?_
  refine w_call (r_giveBack hok.1 hok.2.1 (by decide) C.1.2.2.1) (fun r h' hr => ?_)
  rcases hr with ⟨hpl, rfl, rfl⟩ | ⟨M, r', hpl, rfl, hp, hm, hf⟩
  · refine w_if (by omega) (fun _ => ?_) (fun c => absurd rfl c)
    have hpl : a_pl a = [] := hpl
    unfold a_unS a_un
    rw [hpl]
    exact cQ.same C
  · refine w_if (by omega) (fun c => absurd c (by decide)) (fun _ => ?_)
    have hpl : a_pl a = M :: r' := hpl
    have hM : m_okm (a_P a) (a_Sw a) M := C.1.2.2.2 M (by show M ∈ a_pl a; rw [hpl]; exact List.mem_cons_self)
    have hl : m_okl (a_P a) (a_Sw a) r' := fun M' hM' => C.1.2.2.2 M' (by show M' ∈ a_pl a; rw [hpl]; exact List.mem_cons_of_mem _ hM')
    obtain ⟨nx, n1, n2, n3, n4, n5⟩ := id hp
    unfold a_unS a_un
    rw [hpl]
    refine cQ.eq n3 ⟨rfl, C.upd (w := (a_P a, a_Sw a, m_mom (a_N a) M, r')) (fun t i x y => hf t i y (by omega)) ⟨m_mom_ok hNok hM, hm.trans' (m_mom_eq he), hp, hl⟩⟩
set_option maxRecDepth 100000 in
theorem r_seed_c (C : CI h a) {v : Int} (hv : nv_InR v) : nv_R M_X5_seed [vr 18 0, vi v] h (cQ h (a_seedS a v) (a_seed a v)) := by
  obtain ⟨hok, he, hNok⟩ := C.now
  have e3 : h 0 0 3 = a_N a 0 3 := he.1 3 (by omega)
  refine nv_R.of rfl rfl (Nat.le_of_ble_eq_true rfl) ?_
  refine nv_go ok_X5_seed [] 60 ?_
  refine w_if hv (fun c => ?_) (fun c => ?_)
  · have c : 0 ≤ v := c
    unfold a_seedS a_seed
    rw [if_neg (by omega), if_neg (by omega)]
    refine cQ.eq e3 ⟨rfl, C.upd (w := (a_P a, a_Sw a, m_put (a_N a) 0 3 v, a_pl a)) (m_fr.rfl'.up (o := 0) (by decide)).c0 ⟨m_put_ok0 hNok ⟨c, hv.2⟩, ?_, ?_, C.1.2.2.2⟩⟩
    · rw [m_nn_put (by decide)]; exact m_put_eq he
    · exact C.1.2.2.1.kept (by funext q; simp [nv_up]) (fun t q _ _ => by funext r; unfold nv_up; rw [if_neg]; rintro ⟨-, h1, -⟩; omega)
  · have c : ¬ 0 ≤ v := c
    unfold a_seedS a_seed
    rw [if_pos (by omega), if_pos (by omega)]
    exact cQ.same C
set_option maxRecDepth 100000 in
theorem r_image_c (C : CI h a) : nv_R M_X5_image [vr 18 0] h (cQ h (a.1, some a.1, a.2.2) 1) := by
  obtain ⟨hok, he, hNok⟩ := C.now
  obtain ⟨k1, k2, k3, k4, k5, k6⟩ := id C
  refine nv_R.of rfl rfl (Nat.le_of_ble_eq_true rfl) ?_
  refine nv_go ok_X5_image [] 60 ?_
  refine w_call (r_takeAll (o := 2) (b := 0) (by decide)) (fun r h' hr => ?_)
  obtain ⟨rfl, ht⟩ := hr
  have hf := ht.1
  have kp : c_past h' 0 (a_P a) (a_Sw a) (a_pl a) := k1.2.2.1.kept (hf 11 0 (by omega)) (fun t q _ _ => hf t _ (by omega))
  refine w_call (r_takePast hok.1 hok.2.1 (a := 1) (b := 0) (Or.inr ⟨rfl, rfl⟩) kp) (fun r h2 hr => ?_)
  obtain ⟨rfl, hp2, hf2⟩ := hr
  refine And.intro (Or.inr rfl) ?_
  show cQ h (a.1, some a.1, a.2.2) 1 (some (vi 1)) (nv_up h2 18 0 4 1)
  generalize hg : nv_up h2 18 0 4 1 = g
  have gs : ∀ t i, ¬ (t = 18 ∧ i = 0) → g t i = h2 t i := by
    intro t i hn
    rw [← hg]
    funext q
    unfold nv_up
    rw [if_neg]
    rintro ⟨rfl, rfl, -⟩
    exact hn ⟨rfl, rfl⟩
  have gf : ∀ t i, ¬ (t < 8 ∧ (i = 2 ∨ (11 ≤ i ∧ i < 19))) → ¬ (t = 11 ∧ i = 1) → ¬ (t = 18 ∧ i = 0) → g t i = h t i := fun t i x y z => by
    rw [gs t i z, hf2 t i y (by omega), hf t i (by omega)]
  refine ⟨rfl, ⟨k1.kept (fun t _ => gf t 0 (by omega) (by omega) (by omega)) (gf 11 0 (by omega) (by omega) (by omega)) (fun t q _ _ => gf t _ (by omega) (by omega) (by omega)), ⟨?_, hNok, ?_, ?_, k1.2.2.2⟩, k3.kept (by rw [gf 13 0 (by omega) (by omega) (by omega)]) (gf 14 0 (by omega) (by omega) (by omega)), k4.kept (fun s _ => ⟨gf 16 s (by omega) (by omega) (by omega), gf 17 s (by omega) (by omega) (by omega)⟩), k5.kept (gf 8 0 (by omega) (by omega) (by omega)) (gf 10 0 (by omega) (by omega) (by omega)) (fun t _ => gf t 19 (by omega) (by omega) (by omega)), k6.kept (gf 8 1 (by omega) (by omega) (by omega)) (gf 10 1 (by omega) (by omega) (by omega)) (fun t _ => gf t 20 (by omega) (by omega) (by omega))⟩, fun t i h19 => gf t i (by omega) (by omega) (by omega)⟩
  · rw [← hg, nv_up_same]
  · rw [m_nn_ext (h := h') (fun t _ => (gs t 2 (by omega)).trans (hf2 t 2 (by omega) (by omega)))]
    exact (ht.eq hok.1 hok.2.1).trans' he
  · exact hp2.kept (gs 11 1 (by omega)) (fun t q _ _ => gs t _ (by omega))
set_option maxRecDepth 100000 in
theorem r_restore_c (C : CI h a) : nv_R M_X5_restore [vr 18 0] h (cQ h (match a.2.1 with | none => a | some w => (w, a.2)) (match a.2.1 with | none => -4 | some _ => 1)) := by
  obtain ⟨k1, k2, k3, k4, k5, k6⟩ := id C
  refine nv_R.of rfl rfl (Nat.le_of_ble_eq_true rfl) ?_
  refine nv_go ok_X5_restore [] 60 ?_
  cases him : a.2.1 with
  | none =>
    rw [him] at k2
    have k2 : h 18 0 4 = 0 := k2
    refine w_if (by omega) (fun _ => ?_) (fun c => absurd k2 c)
    exact cQ.same C
  | some w =>
    rw [him] at k2
    obtain ⟨k20, k21⟩ := k2
    have hok2 := k21.2.1.ok k21.1
    refine w_if (by omega) (fun c => absurd (k20.symm.trans c) (by decide)) (fun _ => ?_)
    refine w_call (r_takeAll (o := 0) (b := 2) (by decide)) (fun r h' hr => ?_)
    obtain ⟨rfl, ht⟩ := hr
    have hf := ht.1
    have kp : c_past h' 1 w.1 w.2.1 w.2.2.2 := k21.2.2.1.kept (hf 11 1 (by omega)) (fun t q _ _ => hf t _ (by omega))
    refine w_call (r_takePast hok2.1 hok2.2.1 (a := 0) (b := 1) (Or.inl ⟨rfl, rfl⟩) kp) (fun r h2 hr => ?_)
    obtain ⟨rfl, hp2, hf2⟩ := hr
    refine ⟨rfl, C.upd (w := w) (hf.c0.trans' (fun t i x y => hf2 t i y (by omega))) ⟨k21.1, ?_, hp2, k21.2.2.2⟩⟩
    rw [m_nn_ext (h := h') (fun t _ => hf2 t 0 (by omega) (by omega))]
    exact (ht.eq hok2.1 hok2.2.1).trans' k21.2.1
end nvA2
