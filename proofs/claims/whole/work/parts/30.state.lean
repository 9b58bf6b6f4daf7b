/-! ===== the state of both: what is now, the image, the tape, the sheets ===== -/
abbrev a_W : Type := Nat × Nat × m_NN × List m_NN
abbrev a_S : Type := a_W × Option a_W × List Int × (Nat → Int) × (Nat → Int) × (Nat → Nat → Int)
def m_okm (P S : Nat) (M : m_NN) : Prop := (0 ≤ M 0 2 ∧ M 0 2 ≤ 9999) ∧ (0 ≤ M 0 3 ∧ M 0 3 < 2147483648) ∧ (∀ p, p < P → 0 ≤ M 3 p ∧ M 3 p ≤ 99) ∧ ∀ s, s < S → (0 ≤ M 5 s ∧ M 5 s ≤ 9) ∧ (M 6 s = -4 ∨ (0 ≤ M 6 s ∧ M 6 s < P))
def m_okl (P S : Nat) (pl : List m_NN) : Prop := ∀ M ∈ pl, m_okm P S M
theorem m_ok.mo {N : m_NN} {P S : Nat} (h : m_ok N P S 9999) : m_okm P S N := ⟨h.2.2.2.2.1, h.2.2.2.2.2.1, fun p hp => (h.2.2.2.2.2.2.1 p hp).2.2, fun s hs => (h.2.2.2.2.2.2.2 s hs).2⟩
theorem m_mom_ok {N M : m_NN} {P S : Nat} (h : m_ok N P S 9999) (k : m_okm P S M) : m_ok (m_mom N M) P S 9999 := by
  obtain ⟨h1, h2, h3, h4, h5, h6, h7, h8⟩ := h
  obtain ⟨k1, k2, k3, k4⟩ := k
  exact ⟨h1, h2, h3, h4, k1, k2, fun p hp => ⟨(h7 p hp).1, (h7 p hp).2.1, k3 p hp⟩, fun s hs => ⟨(h8 s hs).1, (k4 s hs).1, (k4 s hs).2⟩⟩
theorem m_mom_eq {N N' M : m_NN} {P S : Nat} (h : m_eq P S N N') : m_eq P S (m_mom N M) (m_mom N' M) := by
  refine ⟨fun j hj => ?_, fun p hp => ⟨(h.2.1 p hp).1, (h.2.1 p hp).2.1, rfl⟩, fun s hs => ⟨(h.2.2 s hs).1, rfl, rfl⟩⟩
  show (if j = 2 then M 0 2 else if j = 3 then M 0 3 else N 0 j) = (if j = 2 then M 0 2 else if j = 3 then M 0 3 else N' 0 j)
  rw [h.1 j hj]
def c_W (h : nv_St) (o j : Nat) (w : a_W) : Prop := m_ok w.2.2.1 w.1 w.2.1 9999 ∧ m_eq w.1 w.2.1 (m_nn h o) w.2.2.1 ∧ c_past h j w.1 w.2.1 w.2.2.2 ∧ m_okl w.1 w.2.1 w.2.2.2
def g_W (h : nv_St) (c : Nat) (w : a_W) : Prop := m_ok w.2.2.1 w.1 w.2.1 9999 ∧ m_eq w.1 w.2.1 (m_mm h c) w.2.2.1 ∧ g_past h c w.1 w.2.1 w.2.2.2 ∧ m_okl w.1 w.2.1 w.2.2.2
def c_tape (h : nv_St) (tp : List Int) : Prop := h 13 0 1 = tp.length ∧ tp.length ≤ 80 ∧ ∀ k x, tp[k]? = some x → h 14 0 k = x ∧ 32 ≤ x ∧ x ≤ 126
def g_tape (h : nv_St) (tp : List Int) : Prop := h 19 0 3 = tp.length ∧ tp.length ≤ 80 ∧ ∀ k x, tp[k]? = some x → h 23 0 k = x ∧ 32 ≤ x ∧ x ≤ 126
def c_sh (h : nv_St) (sl sn : Nat → Int) (si : Nat → Nat → Int) : Prop := ∀ s, s < 4 → h 16 s 1 = sl s ∧ h 16 s 2 = sn s ∧ (-1 ≤ sl s ∧ sl s ≤ 3) ∧ (0 ≤ sn s ∧ sn s ≤ 24) ∧ ∀ k, k < 24 → 0 ≤ sl s → h 17 s k = si s k ∧ nv_InL (si s k)
def g_sh (h : nv_St) (sl sn : Nat → Int) (si : Nat → Nat → Int) : Prop := ∀ s, s < 4 → h 20 0 s = sl s ∧ h 21 0 s = sn s ∧ (-1 ≤ sl s ∧ sl s ≤ 3) ∧ (0 ≤ sn s ∧ sn s ≤ 24) ∧ ∀ k, k < 24 → 0 ≤ sl s → h 22 0 (24 * s + k) = si s k ∧ nv_InL (si s k)
def c_im (h : nv_St) (im : Option a_W) : Prop := match im with
  | none => h 18 0 4 = 0
  | some w => h 18 0 4 = 1 ∧ c_W h 2 1 w
def g_im (h : nv_St) (im : Option a_W) : Prop := match im with
  | none => h 19 0 11 = 0
  | some w => h 19 0 11 = 1 ∧ g_W h 27 w
/-! the search: all ways to set all, in order -/
def m_wseat (P S k s : Nat) : Int := ((k / P ^ (S - 1 - s) % P : Nat) : Int)
def m_wayN (N : m_NN) (P S k : Nat) : m_NN := fun t j => match t with
  | 6 => m_wseat P S k j
  | t => N t j
def m_mv (N : m_NN) (P S k : Nat) : Int := m_sum (fun s => if m_wseat P S k s = N 6 s then 0 else 1) S
def m_wv (N : m_NN) (P S hrs k : Nat) : Int := if hrs = 0 then (if m_noon (m_wayN N P S k) P = -4 then 99 else m_noon (m_wayN N P S k) P) else m_std (m_wayN N P S k) P hrs
def m_best (w mv : Nat → Int) : Nat → Int × Int × Nat
  | 0 => (100, 0, 0)
  | n + 1 => if w n < (m_best w mv n).1 ∨ (w n = (m_best w mv n).1 ∧ mv n < (m_best w mv n).2.1) then (w n, mv n, n) else m_best w mv n
def m_res (N : m_NN) (P S hrs : Nat) : Int × Int × Nat := m_best (m_wv N P S hrs) (m_mv N P S) (P ^ S)
def c_sr (h : nv_St) (i : Nat) : Prop := h 8 i 3 = 0 ∨ (h 8 i 3 = 1 ∧ ∃ P S hrs : Nat, 1 ≤ P ∧ 1 ≤ S ∧ m_ok (m_nn h (19 + i)) P S 9999 ∧ h 8 i 4 = hrs ∧ hrs ≤ 30 ∧ h 8 i 5 = (if (m_res (m_nn h (19 + i)) P S hrs).1 = 99 then 61 else (m_res (m_nn h (19 + i)) P S hrs).1) ∧ h 8 i 6 = (m_res (m_nn h (19 + i)) P S hrs).2.1 ∧ ∀ s, s < S → h 10 i s = m_wseat P S (m_res (m_nn h (19 + i)) P S hrs).2.2 s)
/-- the class's state, the reference's state -/
def CI (h : nv_St) (a : a_S) : Prop := c_W h 0 0 a.1 ∧ c_im h a.2.1 ∧ c_tape h a.2.2.1 ∧ c_sh h a.2.2.2.1 a.2.2.2.2.1 a.2.2.2.2.2 ∧ c_sr h 0 ∧ c_sr h 1
def MI (h : nv_St) (a : a_S) : Prop := g_W h 24 a.1 ∧ g_im h a.2.1 ∧ g_tape h a.2.2.1 ∧ g_sh h a.2.2.2.1 a.2.2.2.2.1 a.2.2.2.2.2
theorem c_W.kept {h h' : nv_St} {o j : Nat} {w : a_W} (k : c_W h o j w) (h1 : ∀ t, t < 7 → h' t o = h t o) (h2 : h' 11 j = h 11 j) (h3 : ∀ t q, t < 7 → q < 8 → h' t (3 + 8 * j + q) = h t (3 + 8 * j + q)) : c_W h' o j w :=
  ⟨k.1, by rw [m_nn_ext h1]; exact k.2.1, k.2.2.1.kept h2 h3, k.2.2.2⟩
theorem c_im.kept {h h' : nv_St} {im : Option a_W} (k : c_im h im) (h0 : h' 18 0 = h 18 0) (h1 : ∀ t, t < 7 → h' t 2 = h t 2) (h2 : h' 11 1 = h 11 1) (h3 : ∀ t q, t < 7 → q < 8 → h' t (11 + q) = h t (11 + q)) : c_im h' im := by
  cases im with
  | none => show h' 18 0 4 = 0; rw [h0]; exact k
  | some w => exact ⟨by rw [h0]; exact k.1, k.2.kept h1 h2 h3⟩
theorem c_tape.kept {h h' : nv_St} {tp : List Int} (k : c_tape h tp) (h1 : h' 13 0 1 = h 13 0 1) (h2 : h' 14 0 = h 14 0) : c_tape h' tp := ⟨by rw [h1]; exact k.1, k.2.1, fun i x hx => by rw [h2]; exact k.2.2 i x hx⟩
theorem c_sh.kept {h h' : nv_St} {sl sn : Nat → Int} {si : Nat → Nat → Int} (k : c_sh h sl sn si) (h1 : ∀ s, s < 4 → h' 16 s = h 16 s ∧ h' 17 s = h 17 s) : c_sh h' sl sn si := by
  intro s hs
  obtain ⟨a, b⟩ := h1 s hs
  rw [a, b]
  exact k s hs
theorem c_sr.kept {h h' : nv_St} {i : Nat} (k : c_sr h i) (h1 : h' 8 i = h 8 i) (h2 : h' 10 i = h 10 i) (h3 : ∀ t, t < 7 → h' t (19 + i) = h t (19 + i)) : c_sr h' i := by
  unfold c_sr at k ⊢
  rw [h1, h2, m_nn_ext h3]
  exact k
/-- only what is tried has changed -/
theorem CI.trial {h h' : nv_St} {a : a_S} (k : CI h a) (hf : m_fr 1 h h') : CI h' a := by
  obtain ⟨k1, k2, k3, k4, k5, k6⟩ := k
  exact ⟨k1.kept (fun t _ => hf t 0 (by omega)) (hf 11 0 (by omega)) (fun t q _ _ => hf t _ (by omega)), k2.kept (hf 18 0 (by omega)) (fun t _ => hf t 2 (by omega)) (hf 11 1 (by omega)) (fun t q _ _ => hf t _ (by omega)),
    k3.kept (by rw [hf 13 0 (by omega)]) (hf 14 0 (by omega)), k4.kept (fun s _ => ⟨hf 16 s (by omega), hf 17 s (by omega)⟩), k5.kept (hf 8 0 (by omega)) (hf 10 0 (by omega)) (fun t _ => hf t 19 (by omega)), k6.kept (hf 8 1 (by omega)) (hf 10 1 (by omega)) (fun t _ => hf t 20 (by omega))⟩
theorem m_fr.hi {o : Nat} {h h' : nv_St} (hf : m_fr o h h') : ∀ t i, 19 ≤ t → h' t i = h t i := fun t i ht => hf t i (by omega)
/-- the class's state does not hang on the reference's cells, nor the other way -/
theorem CI.hi {h h' : nv_St} {a : a_S} (k : CI h a) (hf : ∀ t i, t < 19 → h' t i = h t i) : CI h' a := by
  obtain ⟨k1, k2, k3, k4, k5, k6⟩ := k
  exact ⟨k1.kept (fun t _ => hf t 0 (by omega)) (hf 11 0 (by omega)) (fun t q _ _ => hf t _ (by omega)), k2.kept (hf 18 0 (by omega)) (fun t _ => hf t 2 (by omega)) (hf 11 1 (by omega)) (fun t q _ _ => hf t _ (by omega)),
    k3.kept (by rw [hf 13 0 (by omega)]) (hf 14 0 (by omega)), k4.kept (fun s _ => ⟨hf 16 s (by omega), hf 17 s (by omega)⟩), k5.kept (hf 8 0 (by omega)) (hf 10 0 (by omega)) (fun t _ => hf t 19 (by omega)), k6.kept (hf 8 1 (by omega)) (hf 10 1 (by omega)) (fun t _ => hf t 20 (by omega))⟩
theorem g_W.kept {h h' : nv_St} {c : Nat} {w : a_W} (k : g_W h c w) (e : h' c 0 = h c 0) : g_W h' c w := ⟨k.1, by rw [m_mm_ext e]; exact k.2.1, k.2.2.1.kept (fun q _ => by rw [e]), k.2.2.2⟩
theorem MI.kept {h h' : nv_St} {a : a_S} (k : MI h a) (h24 : h' 24 0 = h 24 0) (h27 : h' 27 0 = h 27 0) (h3 : h' 19 0 3 = h 19 0 3) (h11 : h' 19 0 11 = h 19 0 11) (h23 : h' 23 0 = h 23 0) (h20 : h' 20 0 = h 20 0) (h21 : h' 21 0 = h 21 0) (h22 : h' 22 0 = h 22 0) : MI h' a := by
  obtain ⟨k1, k2, k3, k4⟩ := k
  refine ⟨k1.kept h24, ?_, ⟨by rw [h3]; exact k3.1, k3.2.1, fun i x hx => by rw [h23]; exact k3.2.2 i x hx⟩, fun s hs => by rw [h20, h21, h22]; exact k4 s hs⟩
  generalize a.2.1 = im at k2
  cases im with
  | none => show h' 19 0 11 = 0; rw [h11]; exact k2
  | some w => exact ⟨by rw [h11]; exact k2.1, k2.2.kept h27⟩
theorem MI.lo {h h' : nv_St} {a : a_S} (k : MI h a) (hf : ∀ t i, 19 ≤ t → h' t i = h t i) : MI h' a :=
  k.kept (hf 24 0 (by omega)) (hf 27 0 (by omega)) (by rw [hf 19 0 (by omega)]) (by rw [hf 19 0 (by omega)]) (hf 23 0 (by omega)) (hf 20 0 (by omega)) (hf 21 0 (by omega)) (hf 22 0 (by omega))
/-- only what is tried has changed -/
theorem MI.tried {h h' : nv_St} {a : a_S} (k : MI h a) (hf : m_frM 25 h h') : MI h' a :=
  k.kept (hf 24 0 (by omega)) (hf 27 0 (by omega)) (by rw [hf 19 0 (by omega)]) (by rw [hf 19 0 (by omega)]) (hf 23 0 (by omega)) (hf 20 0 (by omega)) (hf 21 0 (by omega)) (hf 22 0 (by omega))
theorem m_frM.lo {h h' : nv_St} (hf : m_frM 25 h h') : ∀ t i, t < 19 → h' t i = h t i := fun t i ht => hf t i (by omega)
/-- what a call answers and leaves: of the class, of the reference -/
def cQ (h : nv_St) (a : a_S) (x : Int) : nv_PT := fun r h' => r = some (vi x) ∧ CI h' a ∧ ∀ t i, 19 ≤ t → h' t i = h t i
def gQ (h : nv_St) (a : a_S) (x : Int) : nv_PT := fun r h' => r = some (vi x) ∧ MI h' a ∧ ∀ t i, t < 19 → h' t i = h t i
theorem cQ.trial {h h' : nv_St} {a : a_S} {x : Int} (k : CI h a) (hf : m_fr 1 h h') : cQ h a x (some (vi x)) h' := ⟨rfl, k.trial hf, hf.hi⟩
theorem gQ.tried {h h' : nv_St} {a : a_S} {x : Int} (k : MI h a) (hf : m_frM 25 h h') : gQ h a x (some (vi x)) h' := ⟨rfl, k.tried hf, hf.lo⟩
