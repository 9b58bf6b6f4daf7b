/-! ===== what may be undone ===== -/
def m_eqm (P S : Nat) (N N' : m_NN) : Prop := N 0 2 = N' 0 2 ∧ N 0 3 = N' 0 3 ∧ (∀ p, p < P → N 3 p = N' 3 p) ∧ (∀ s, s < S → N 5 s = N' 5 s ∧ N 6 s = N' 6 s)
theorem m_eqm.trans' {P S : Nat} {N N' N2 : m_NN} (h : m_eqm P S N N') (k : m_eqm P S N' N2) : m_eqm P S N N2 :=
  ⟨h.1.trans k.1, h.2.1.trans k.2.1, fun p hp => (h.2.2.1 p hp).trans (k.2.2.1 p hp), fun s hs => ⟨(h.2.2.2 s hs).1.trans (k.2.2.2 s hs).1, (h.2.2.2 s hs).2.trans (k.2.2.2 s hs).2⟩⟩
theorem m_eq.m {P S : Nat} {N N' : m_NN} (h : m_eq P S N N') : m_eqm P S N N' := ⟨h.1 2 (by omega), h.1 3 (by omega), fun p hp => (h.2.1 p hp).2.2, fun s hs => (h.2.2 s hs).2⟩
/-- the class's past j: the latest moment first -/
def c_past (h : nv_St) (j P S : Nat) (pl : List m_NN) : Prop := ∃ nx : Nat, nx < 8 ∧ h 11 j 2 = nx ∧ h 11 j 1 = pl.length ∧ pl.length ≤ 8 ∧ ∀ k (M : m_NN), pl[k]? = some M → m_eqm P S (m_nn h (3 + 8 * j + (nx + 7 - k) % 8)) M
/-- nothing of past j has changed -/
theorem c_past.kept {h h' : nv_St} {j P S : Nat} {pl : List m_NN} (k : c_past h j P S pl) (h1 : h' 11 j = h 11 j) (h2 : ∀ t q, t < 7 → q < 8 → h' t (3 + 8 * j + q) = h t (3 + 8 * j + q)) : c_past h' j P S pl := by
  obtain ⟨nx, a1, a2, a3, a4, a5⟩ := k
  refine ⟨nx, a1, by rw [h1]; exact a2, by rw [h1]; exact a3, a4, fun i M hM => ?_⟩
  rw [m_nn_ext (fun t ht => h2 t ((nx + 7 - i) % 8) ht (by omega))]
  exact a5 i M hM
set_option maxRecDepth 100000 in
theorem r_forget {h : nv_St} {j : Nat} : nv_R M_X1_forget [vr 11 j] h (fun r h' => r = none ∧ h' = nv_up h 11 j 1 0) := by
  refine nv_R.of rfl rfl (Nat.le_of_ble_eq_true rfl) ?_
  refine nv_go ok_X1_forget [] 20 ?_
  exact ⟨rfl, rfl⟩
theorem c_past.forget {h : nv_St} {j P S P' S' : Nat} {pl : List m_NN} (k : c_past h j P S pl) : c_past (nv_up h 11 j 1 0) j P' S' [] := by
  obtain ⟨nx, a1, a2, a3, a4, a5⟩ := k
  exact ⟨nx, a1, by simpa [nv_up] using a2, by simp [nv_up], by simp, fun i M hM => by simp at hM⟩
set_option maxRecDepth 100000 in
theorem r_keep {h : nv_St} {j o P S : Nat} {pl : List m_NN} (hP : P ≤ 5) (hS : S ≤ 5) (hj : j < 2) (ho : o < 3) (k : c_past h j P S pl) :
    nv_R M_X1_keep [vr 11 j, vr 0 o] h (fun r h' => r = none ∧ c_past h' j P S ((m_nn h o :: pl).take 8) ∧ ∀ t i, ¬ (t = 11 ∧ i = j) → ¬ (t < 8 ∧ 3 + 8 * j ≤ i ∧ i < 11 + 8 * j) → h' t i = h t i) := by
  obtain ⟨nx, a1, a2, a3, a4, a5⟩ := k
  refine nv_R.of rfl rfl (Nat.le_of_ble_eq_true rfl) ?_
  refine nv_go ok_X1_keep [] 60 ?_
  refine w_ix nx a2 (by omega) ?_
  refine w_call (r_takeMoment (o := 3 + 8 * j + nx) (b := o)) (fun v h' hv => ?_)
  obtain ⟨rfl, f1, ⟨b0, b1, b2, b3⟩, ⟨d1, d2, d4⟩, hj5⟩ := hv
  have e11 : h' 11 j = h 11 j := f1 11 j (by omega)
  have e2 : h' 11 j 2 = nx := by rw [e11]; exact a2
  have e1 : h' 11 j 1 = pl.length := by rw [e11]; exact a3
  refine w_dv (by omega) (by omega) ?_
  refine w_mx (by omega) (by have : nv_up h' 11 j 2 ((h' 11 j 2 + 1) % 8) 11 j 1 = h' 11 j 1 := by simp [nv_up]
                             rw [this]; omega) ?_
  refine ⟨rfl, ⟨(nx + 1) % 8, by omega, ?_, ?_, ?_, fun i M hM => ?_⟩, fun t i hn1 hn2 => ?_⟩
  · simp [nv_up]; omega
  · simp [nv_up]; omega
  · simp; omega
  · have hn : ∀ q, m_nn (nv_up (nv_up h' 11 j 2 ((h' 11 j 2 + 1) % 8)) 11 j 1 (min 8 (nv_up h' 11 j 2 ((h' 11 j 2 + 1) % 8) 11 j 1 + 1))) q = m_nn h' q := by
      intro q
      apply m_nn_ext
      intro t ht
      funext k
      simp [nv_up, show ¬ t = 11 by omega]
    rw [hn]
    cases i with
    | zero =>
      simp at hM
      subst hM
      have e : ((nx + 1) % 8 + 7 - 0) % 8 = nx := by omega
      rw [e]
      exact ⟨b2, b3, fun p hp => (hj5 p (by omega)).1, fun s hs => (hj5 s (by omega)).2⟩
    | succ i =>
      have hi : i < 7 ∧ pl[i]? = some M := by
        rw [List.getElem?_take] at hM
        split at hM
        · exact ⟨by omega, by simpa using hM⟩
        · simp at hM
      have e : ((nx + 1) % 8 + 7 - (i + 1)) % 8 = (nx + 7 - i) % 8 := by omega
      rw [e, m_nn_ext (fun t ht => f1 t (3 + 8 * j + (nx + 7 - i) % 8) (by omega))]
      exact a5 i M hi.2
  · have : nv_up (nv_up h' 11 j 2 ((h' 11 j 2 + 1) % 8)) 11 j 1 (min 8 (nv_up h' 11 j 2 ((h' 11 j 2 + 1) % 8) 11 j 1 + 1)) t i = h' t i := by
      funext q
      unfold nv_up
      rw [if_neg (by rintro ⟨rfl, rfl, -⟩; exact hn1 ⟨rfl, rfl⟩), if_neg (by rintro ⟨rfl, rfl, -⟩; exact hn1 ⟨rfl, rfl⟩)]
    rw [this]
    exact f1 t i (by omega)
/-- a moment given back -/
def m_mom (N M : m_NN) : m_NN := fun t j => match t with
  | 0 => if j = 2 then M 0 2 else if j = 3 then M 0 3 else N 0 j
  | 3 => M 3 j
  | 5 => M 5 j
  | 6 => M 6 j
  | t => N t j
set_option maxRecDepth 100000 in
theorem r_giveBack {h : nv_St} {j P S : Nat} {pl : List m_NN} (hP : P ≤ 5) (hS : S ≤ 5) (hj : j < 2) (k : c_past h j P S pl) :
    nv_R M_X1_giveBack [vr 11 j, vr 0 0] h (fun r h' => (pl = [] ∧ r = some (vi 0) ∧ h' = h) ∨ ∃ M r', pl = M :: r' ∧ r = some (vi 1) ∧ c_past h' j P S r' ∧ m_eq P S (m_nn h' 0) (m_mom (m_nn h 0) M) ∧ ∀ t i, ¬ (t = 11 ∧ i = j) → ¬ (t < 8 ∧ i = 0) → h' t i = h t i) := by
  obtain ⟨nx, a1, a2, a3, a4, a5⟩ := k
  refine nv_R.of rfl rfl (Nat.le_of_ble_eq_true rfl) ?_
  refine nv_go ok_X1_giveBack [] 60 ?_
  refine w_if (by omega) (fun c => ?_) (fun c => ?_)
  · have c : h 11 j 1 = 0 := c
    refine And.intro (Or.inl rfl) (Or.inl ⟨?_, rfl, rfl⟩)
    exact List.length_eq_zero_iff.mp (by omega)
  · have c : ¬ h 11 j 1 = 0 := c
    match pl, a3, a4, a5 with
    | [], a3, _, _ => exact absurd (by simpa using a3) c
    | M :: r', a3, a4, a5 =>
      simp at a3 a4
      have u2 : ∀ x, nv_up h 11 j 1 x 11 j 2 = nx := fun x => by simpa [nv_up] using a2
      refine w_dv (by rw [u2]; omega) (by omega) ?_
      refine w_ix ((nx + 7) % 8) (by rw [nv_up_same, u2]; omega) (by omega) ?_
      refine w_call (r_takeMoment (o := 0) (b := 3 + 8 * j + (nx + 7) % 8)) (fun v h' hv => ?_)
      obtain ⟨rfl, f1, ⟨b0, b1, b2, b3⟩, ⟨d1, d2, d4⟩, hj5⟩ := hv
      generalize hg : nv_up (nv_up h 11 j 1 (h 11 j 1 - 1)) 11 j 2 ((nv_up h 11 j 1 (h 11 j 1 - 1) 11 j 2 + 8 - 1) % 8) = g at f1 b0 b1 b2 b3 d1 d2 d4 hj5
      have gs : ∀ t i, ¬ (t = 11 ∧ i = j) → g t i = h t i := by
        intro t i hn
        rw [← hg]
        funext q
        unfold nv_up
        rw [if_neg (by rintro ⟨rfl, rfl, -⟩; exact hn ⟨rfl, rfl⟩), if_neg (by rintro ⟨rfl, rfl, -⟩; exact hn ⟨rfl, rfl⟩)]
      have e11 : h' 11 j = g 11 j := f1 11 j (by omega)
      have hM := a5 0 M (by simp)
      have eN : m_nn g (3 + 8 * j + (nx + 7) % 8) = m_nn h (3 + 8 * j + (nx + 7) % 8) := m_nn_ext (fun t ht => gs t _ (by omega))
      refine And.intro (Or.inr rfl) (Or.inr ⟨M, r', rfl, rfl, ⟨(nx + 7) % 8, by omega, ?_, ?_, by omega, fun i M' hM' => ?_⟩, ?_, fun t i hn1 hn2 => ?_⟩)
      · rw [e11, ← hg, nv_up_same, u2]; omega
      · rw [e11, ← hg]; simp [nv_up]; omega
      · have e : ((nx + 7) % 8 + 7 - i) % 8 = (nx + 7 - (i + 1)) % 8 := by
          have hi := (List.getElem?_eq_some_iff.mp hM').1
          omega
        rw [e, m_nn_ext (fun t ht => (f1 t (3 + 8 * j + (nx + 7 - (i + 1)) % 8) (by omega)).trans (gs t _ (by omega)))]
        exact a5 (i + 1) M' (by simpa using hM')
      · have hb2 : g 0 (3 + 8 * j + (nx + 7) % 8) 2 = M 0 2 := by rw [gs 0 _ (by omega)]; exact hM.1
        have hb3 : g 0 (3 + 8 * j + (nx + 7) % 8) 3 = M 0 3 := by rw [gs 0 _ (by omega)]; exact hM.2.1
        refine ⟨fun q hq => ?_, fun p hp => ⟨?_, ?_, ?_⟩, fun s hs => ⟨?_, ?_, ?_⟩⟩
        · have : q = 0 ∨ q = 1 ∨ q = 2 ∨ q = 3 := by omega
          rcases this with rfl | rfl | rfl | rfl
          · show h' 0 0 0 = h 0 0 0
            rw [b0, gs 0 0 (by omega)]
          · show h' 0 0 1 = h 0 0 1
            rw [b1, gs 0 0 (by omega)]
          · show h' 0 0 2 = M 0 2
            rw [b2]; exact hb2
          · show h' 0 0 3 = M 0 3
            rw [b3]; exact hb3
        · show h' 1 0 p = h 1 0 p
          rw [d1, gs 1 0 (by omega)]
        · show h' 2 0 p = h 2 0 p
          rw [d2, gs 2 0 (by omega)]
        · show h' 3 0 p = M 3 p
          rw [(hj5 p (by omega)).1, gs 3 _ (by omega)]; exact hM.2.2.1 p hp
        · show h' 4 0 s = h 4 0 s
          rw [d4, gs 4 0 (by omega)]
        · show h' 5 0 s = M 5 s
          rw [(hj5 s (by omega)).2.1, gs 5 _ (by omega)]; exact (hM.2.2.2 s hs).1
        · show h' 6 0 s = M 6 s
          rw [(hj5 s (by omega)).2.2, gs 6 _ (by omega)]; exact (hM.2.2.2 s hs).2
      · rw [f1 t i (by omega), gs t i hn1]
set_option maxRecDepth 100000 in
theorem r_takePast {h : nv_St} {a b P S : Nat} {pl : List m_NN} (hP : P ≤ 5) (hS : S ≤ 5) (hab : (a = 0 ∧ b = 1) ∨ (a = 1 ∧ b = 0)) (k : c_past h b P S pl) :
    nv_R M_X1_takePast [vr 11 a, vr 11 b] h (fun r h' => r = none ∧ c_past h' a P S pl ∧ ∀ t i, ¬ (t = 11 ∧ i = a) → ¬ (t < 8 ∧ 3 + 8 * a ≤ i ∧ i < 11 + 8 * a) → h' t i = h t i) := by
  obtain ⟨nx, a1, a2, a3, a4, a5⟩ := k
  refine nv_R.of rfl rfl (Nat.le_of_ble_eq_true rfl) ?_
  have loop := m_down (n := 8) (G := fun p => ∀ (x : Int) (h1 : nv_St), x = p → (∀ t i, ¬ (t = 11 ∧ i = a) → ¬ (t < 8 ∧ 3 + 8 * a ≤ i ∧ i < 11 + 8 * a) → h1 t i = h t i) → h1 11 a 2 = nx → h1 11 a 1 = pl.length → (∀ q, q < p → m_eqm P S (m_nn h1 (3 + 8 * a + q)) (m_nn h (3 + 8 * b + q))) → nv_V M_X1_takePast 18 [(0, vr 11 a), (1, vr 11 b), (2, vi x)] [] h1 (fun r h' => r = none ∧ c_past h' a P S pl ∧ ∀ t i, ¬ (t = 11 ∧ i = a) → ¬ (t < 8 ∧ 3 + 8 * a ≤ i ∧ i < 11 + 8 * a) → h' t i = h t i)) ?_ ?_
  · refine nv_go ok_X1_takePast [18] 30 ?_
    refine loop 0 (by omega) _ _ rfl (fun t i hn _ => ?_) ?_ ?_ (fun q hq => absurd hq (by omega))
    · funext q
      unfold nv_up
      rw [if_neg (by rintro ⟨rfl, rfl, -⟩; exact hn ⟨rfl, rfl⟩), if_neg (by rintro ⟨rfl, rfl, -⟩; exact hn ⟨rfl, rfl⟩)]
    · rw [nv_up_same, ← a2]; simp [nv_up]
    · rw [nv_up_ne (by decide), nv_up_same]; exact a3
  · intro x h1 hx hf e2 e1 hq
    refine nv_go ok_X1_takePast [18] 30 ?_
    refine w_ic (by omega) (by omega) (fun c => ?_) (fun c => ?_)
    · refine ⟨rfl, ⟨nx, a1, e2, e1, a4, fun i M hM => ?_⟩, hf⟩
      exact (hq ((nx + 7 - i) % 8) (by omega)).trans' (a5 i M hM)
    · exact absurd (by show (8 : Int) ≤ x; omega) c
  · intro p hp ih x h1 hx hf e2 e1 hq
    refine nv_go ok_X1_takePast [18] 30 ?_
    refine w_ic (by omega) (by omega) (fun c => ?_) (fun c => ?_)
    · exact absurd c (by show ¬ ((8 : Int) ≤ x); omega)
    · refine w_ix p hx (by omega) ?_
      refine w_ix p hx (by omega) ?_
      refine w_call (r_takeMoment (o := 3 + 8 * a + p) (b := 3 + 8 * b + p)) (fun v h' hv => ?_)
      obtain ⟨rfl, f1, ⟨b0, b1, b2, b3⟩, ⟨d1, d2, d4⟩, hj5⟩ := hv
      have eb : ∀ t, h1 t (3 + 8 * b + p) = h t (3 + 8 * b + p) := fun t => hf t _ (by omega) (by omega)
      refine ih _ _ (by omega) (fun t i hn1 hn2 => (f1 t i (by omega)).trans (hf t i hn1 hn2)) (by rw [f1 11 a (by omega)]; exact e2) (by rw [f1 11 a (by omega)]; exact e1) (fun q hqp => ?_)
      by_cases e : q = p
      · subst e
        refine ⟨?_, ?_, fun p hp => ?_, fun s hs => ⟨?_, ?_⟩⟩
        · show h' 0 (3 + 8 * a + q) 2 = h 0 (3 + 8 * b + q) 2
          rw [b2, eb 0]
        · show h' 0 (3 + 8 * a + q) 3 = h 0 (3 + 8 * b + q) 3
          rw [b3, eb 0]
        · show h' 3 (3 + 8 * a + q) p = h 3 (3 + 8 * b + q) p
          rw [(hj5 p (by omega)).1, eb 3]
        · show h' 5 (3 + 8 * a + q) s = h 5 (3 + 8 * b + q) s
          rw [(hj5 s (by omega)).2.1, eb 5]
        · show h' 6 (3 + 8 * a + q) s = h 6 (3 + 8 * b + q) s
          rw [(hj5 s (by omega)).2.2, eb 6]
      · rw [m_nn_ext (fun t ht => f1 t (3 + 8 * a + q) (by omega))]
        exact hq q (by omega)
