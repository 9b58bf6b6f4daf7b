/-! ===== a noon takes what another has; planks, sawyers, teeth, draws ===== -/
theorem nv_up_ne {h : nv_St} {t i j k : Nat} {x : Int} (hk : k ≠ j) : nv_up h t i j x t i k = h t i k := by simp [nv_up, hk]
theorem w_cp {sp dp n : Int} {n0 n1 : Nat} {F : Nat → Nat → Nat → Prop} (a b c : Nat) (h1 : sp = (a : Int)) (h2 : dp = (b : Int)) (h3 : n = (c : Int)) (h4 : a + c ≤ n0) (h5 : b + c ≤ n1) (hF : F a b c) : ∃ a b c : Nat, sp = (a : Int) ∧ dp = (b : Int) ∧ n = (c : Int) ∧ a + c ≤ n0 ∧ b + c ≤ n1 ∧ F a b c := ⟨a, b, c, h1, h2, h3, h4, h5, hF⟩
def m_tm (o b : Nat) (h h' : nv_St) : Prop := m_fr o h h' ∧ (h' 0 o 0 = h 0 o 0 ∧ h' 0 o 1 = h 0 o 1 ∧ h' 0 o 2 = h 0 b 2 ∧ h' 0 o 3 = h 0 b 3) ∧ (h' 1 o = h 1 o ∧ h' 2 o = h 2 o ∧ h' 4 o = h 4 o) ∧ ∀ j, j < 5 → h' 3 o j = h 3 b j ∧ h' 5 o j = h 5 b j ∧ h' 6 o j = h 6 b j
set_option maxRecDepth 100000 in
theorem r_takeMoment {h : nv_St} {o b : Nat} : nv_R M_X0_takeMoment [vr 0 o, vr 0 b] h (fun r h' => r = none ∧ m_tm o b h h') := by
  refine nv_R.of rfl rfl (Nat.le_of_ble_eq_true rfl) ?_
  refine nv_go ok_X0_takeMoment [] 60 ?_
  refine w_cp 0 0 5 rfl rfl rfl (by decide) (by decide) ?_
  refine w_cp 0 0 5 rfl rfl rfl (by decide) (by decide) ?_
  refine w_cp 0 0 5 rfl rfl rfl (by decide) (by decide) ?_
  refine ⟨rfl, ((((m_fr.rfl'.up (by decide)).up (by decide)).row (by decide)).row (by decide)).row (by decide), ⟨?_, ?_, ?_, ?_⟩, ⟨?_, ?_, ?_⟩, fun j hj => ⟨?_, ?_, ?_⟩⟩
  · simp [nv_row, nv_up]
  · simp [nv_row, nv_up]
  · simp [nv_row, nv_up]
  · simp [nv_row, nv_up]
  · funext k; simp [nv_row, nv_up]
  · funext k; simp [nv_row, nv_up]
  · funext k; simp [nv_row, nv_up]
  · simp [nv_row, nv_up, va_cpy, hj]
  · simp [nv_row, nv_up, va_cpy, hj]
  · simp [nv_row, nv_up, va_cpy, hj]
def m_ta (o b : Nat) (h h' : nv_St) : Prop := m_fr o h h' ∧ (∀ k, k < 4 → h' 0 o k = h 0 b k) ∧ ∀ t, 1 ≤ t → t < 7 → ∀ j, j < 5 → h' t o j = h t b j
set_option maxRecDepth 100000 in
theorem r_takeAll {h : nv_St} {o b : Nat} (hob : o ≠ b) : nv_R M_X0_takeAll [vr 0 o, vr 0 b] h (fun r h' => r = none ∧ m_ta o b h h') := by
  refine nv_R.of rfl rfl (Nat.le_of_ble_eq_true rfl) ?_
  refine nv_go ok_X0_takeAll [] 60 ?_
  refine w_cp 0 0 5 rfl rfl rfl (by decide) (by decide) ?_
  refine w_cp 0 0 5 rfl rfl rfl (by decide) (by decide) ?_
  refine w_cp 0 0 5 rfl rfl rfl (by decide) (by decide) ?_
  refine w_call r_takeMoment (fun v h' hv => ?_)
  obtain ⟨rfl, f1, ⟨a0, a1, a2, a3⟩, ⟨b1, b2, b4⟩, hj⟩ := hv
  refine ⟨rfl, (((((m_fr.rfl'.up (by decide)).up (by decide)).row (by decide)).row (by decide)).row (by decide)).trans' f1, fun k hk => ?_, fun t h1 h7 j hj5 => ?_⟩
  · have : k = 0 ∨ k = 1 ∨ k = 2 ∨ k = 3 := by omega
    rcases this with rfl | rfl | rfl | rfl
    · rw [a0]; simp [nv_row, nv_up]
    · rw [a1]; simp [nv_row, nv_up]
    · rw [a2]; simp [nv_row, nv_up]
    · rw [a3]; simp [nv_row, nv_up]
  · obtain ⟨c3, c5, c6⟩ := hj j hj5
    have : t = 1 ∨ t = 2 ∨ t = 3 ∨ t = 4 ∨ t = 5 ∨ t = 6 := by omega
    rcases this with rfl | rfl | rfl | rfl | rfl | rfl
    · rw [b1]; simp [nv_row, nv_up, va_cpy, hj5]
    · rw [b2]; simp [nv_row, nv_up, va_cpy, hj5]
    · rw [c3]; simp [nv_row, nv_up]
    · rw [b4]; simp [nv_row, nv_up, va_cpy, hj5]
    · rw [c5]; simp [nv_row, nv_up]
    · rw [c6]; simp [nv_row, nv_up]
theorem m_ta.eq {o b P S : Nat} {h h' : nv_St} (hP : P ≤ 5) (hS : S ≤ 5) (k : m_ta o b h h') : m_eq P S (m_nn h' o) (m_nn h b) :=
  ⟨fun j hj => k.2.1 j hj, fun p hp => ⟨k.2.2 1 (by omega) (by omega) p (by omega), k.2.2 2 (by omega) (by omega) p (by omega), k.2.2 3 (by omega) (by omega) p (by omega)⟩, fun s hs => ⟨k.2.2 4 (by omega) (by omega) s (by omega), k.2.2 5 (by omega) (by omega) s (by omega), k.2.2 6 (by omega) (by omega) s (by omega)⟩⟩
set_option maxRecDepth 100000 in
theorem r_empty {h : nv_St} {o : Nat} : nv_R M_X0_empty [vr 0 o] h (fun r h' => r = none ∧ m_fr o h h' ∧ h' 0 o 0 = 0 ∧ h' 0 o 1 = 0 ∧ h' 0 o 2 = 0 ∧ h' 0 o 3 = h 0 o 3) := by
  refine nv_R.of rfl rfl (Nat.le_of_ble_eq_true rfl) ?_
  refine nv_go ok_X0_empty [] 60 ?_
  refine ⟨rfl, ((m_fr.rfl'.up (by decide)).up (by decide)).up (by decide), ?_, ?_, ?_, ?_⟩ <;> simp [nv_up]
/-- a plank, a sawyer more -/
def m_addP (N : m_NN) (a b c : Int) : m_NN := fun t j => match t with
  | 0 => if j = 0 then N 0 0 + 1 else N 0 j
  | 1 => if j = m_P N then a else N 1 j
  | 2 => if j = m_P N then b else N 2 j
  | 3 => if j = m_P N then c else N 3 j
  | t => N t j
def m_addS (N : m_NN) (a b c : Int) : m_NN := fun t j => match t with
  | 0 => if j = 1 then N 0 1 + 1 else N 0 j
  | 4 => if j = m_S N then a else N 4 j
  | 5 => if j = m_S N then b else N 5 j
  | 6 => if j = m_S N then c else N 6 j
  | t => N t j
set_option maxRecDepth 100000 in
theorem r_addPlank {h : nv_St} {o P : Nat} {a b c : Int} (hP : h 0 o 0 = P) (hP5 : P ≤ 5) : nv_R M_X0_addPlank [vr 0 o, vi a, vi b, vi c] h (fun r h' => (P = 5 ∧ r = some (vi (-3)) ∧ h' = h) ∨ (P < 5 ∧ r = some (vi P) ∧ m_fr o h h' ∧ m_nn h' o = m_addP (m_nn h o) a b c)) := by
  refine nv_R.of rfl rfl (Nat.le_of_ble_eq_true rfl) ?_
  refine nv_go ok_X0_addPlank [] 60 ?_
  refine w_ic (by omega) (by omega) (fun c1 => ?_) (fun c1 => ?_)
  · have c1 : h 0 o 0 < 5 := c1
    refine w_ix P hP (by omega) ?_
    refine w_ix P (by simpa [nv_up] using hP) (by omega) ?_
    refine w_ix P (by simpa [nv_up] using hP) (by omega) ?_
    refine Or.inr ⟨by omega, ?_, (((m_fr.rfl'.up (by decide)).up (by decide)).up (by decide)).up (by decide), ?_⟩
    · simp [nv_up, hP]
    · have hm : m_P (m_nn h o) = P := by unfold m_P; show (h 0 o 0).toNat = P; omega
      funext t j
      unfold m_addP
      rw [hm]
      have : t = 0 ∨ t = 1 ∨ t = 2 ∨ t = 3 ∨ (t = 4 ∨ t = 5 ∨ t = 6) ∨ 7 ≤ t := by omega
      rcases this with rfl | rfl | rfl | rfl | (rfl | rfl | rfl) | ht
      · simp [m_nn, nv_up]
      · simp [m_nn, nv_up]
      · simp [m_nn, nv_up]
      · simp [m_nn, nv_up]
      · simp [m_nn, nv_up]
      · simp [m_nn, nv_up]
      · simp [m_nn, nv_up]
      · match t, ht with
        | t + 7, _ => simp [m_nn, show ¬ (t + 7 < 7) by omega]
  · have c1 : ¬ h 0 o 0 < 5 := c1
    exact Or.inl ⟨by omega, rfl, rfl⟩
set_option maxRecDepth 100000 in
theorem r_addSawyer {h : nv_St} {o S : Nat} {a b c : Int} (hS : h 0 o 1 = S) (hS5 : S ≤ 5) : nv_R M_X0_addSawyer [vr 0 o, vi a, vi b, vi c] h (fun r h' => (S = 5 ∧ r = some (vi (-3)) ∧ h' = h) ∨ (S < 5 ∧ r = some (vi S) ∧ m_fr o h h' ∧ m_nn h' o = m_addS (m_nn h o) a b c)) := by
  refine nv_R.of rfl rfl (Nat.le_of_ble_eq_true rfl) ?_
  refine nv_go ok_X0_addSawyer [] 60 ?_
  refine w_ic (by omega) (by omega) (fun c1 => ?_) (fun c1 => ?_)
  · have c1 : h 0 o 1 < 5 := c1
    refine w_ix S hS (by omega) ?_
    refine w_ix S (by simpa [nv_up] using hS) (by omega) ?_
    refine w_ix S (by simpa [nv_up] using hS) (by omega) ?_
    refine Or.inr ⟨by omega, ?_, (((m_fr.rfl'.up (by decide)).up (by decide)).up (by decide)).up (by decide), ?_⟩
    · simp [nv_up, hS]
    · have hm : m_S (m_nn h o) = S := by unfold m_S; show (h 0 o 1).toNat = S; omega
      funext t j
      unfold m_addS
      rw [hm]
      have : t = 0 ∨ t = 1 ∨ t = 2 ∨ t = 3 ∨ (t = 4 ∨ t = 5 ∨ t = 6) ∨ 7 ≤ t := by omega
      rcases this with rfl | rfl | rfl | rfl | (rfl | rfl | rfl) | ht
      · simp [m_nn, nv_up]
      · simp [m_nn, nv_up]
      · simp [m_nn, nv_up]
      · simp [m_nn, nv_up]
      · simp [m_nn, nv_up]
      · simp [m_nn, nv_up]
      · simp [m_nn, nv_up]
      · match t, ht with
        | t + 7, _ => simp [m_nn, show ¬ (t + 7 < 7) by omega]
  · have c1 : ¬ h 0 o 1 < 5 := c1
    exact Or.inl ⟨by omega, rfl, rfl⟩
/-- one value of a noon is another -/
def m_put (N : m_NN) (t j : Nat) (x : Int) : m_NN := fun t' j' => if t' = t ∧ j' = j then x else N t' j'
theorem m_nn_put {h : nv_St} {o t j : Nat} {x : Int} (ht : t < 7) : m_nn (nv_up h t o j x) o = m_put (m_nn h o) t j x := by
  funext t' j'
  unfold m_put m_nn nv_up
  by_cases e : t' = t ∧ j' = j
  · obtain ⟨rfl, rfl⟩ := e
    simp [ht]
  · rw [if_neg e]
    split
    · rw [if_neg (fun q => e ⟨q.1, q.2.2⟩)]
    · rfl
set_option maxRecDepth 100000 in
theorem r_addTeeth {h : nv_St} {o s : Nat} {n : Int} (hs : s < 5) (h5 : 0 ≤ h 5 o s ∧ h 5 o s ≤ 9) (hn : 0 ≤ n ∧ n ≤ 9) : nv_R M_X0_addTeeth [vr 0 o, vi s, vi n] h (fun r h' => r = none ∧ h' = nv_up h 5 o s (min 9 (h 5 o s + n))) := by
  refine nv_R.of rfl rfl (Nat.le_of_ble_eq_true rfl) ?_
  refine nv_go ok_X0_addTeeth [] 60 ?_
  refine w_ix s rfl (by omega) ?_
  refine w_mx (by omega) (by omega) ?_
  refine w_ix s rfl (by omega) ?_
  exact ⟨rfl, rfl⟩
set_option maxRecDepth 100000 in
theorem r_suppose {h : nv_St} {o s : Nat} {w g : Int} (hs : s < 5) (hw : 0 ≤ w ∧ w ≤ 2) : nv_R M_X0_suppose [vr 0 o, vi s, vi w, vi g] h (fun r h' => r = none ∧ h' = nv_up h (4 + w.toNat) o s g) := by
  refine nv_R.of rfl rfl (Nat.le_of_ble_eq_true rfl) ?_
  refine nv_go ok_X0_suppose [] 60 ?_
  refine w_if (by omega) (fun c => ?_) (fun c => ?_)
  · have c : w = 0 := c
    refine w_ix s rfl (by omega) ?_
    exact ⟨rfl, by rw [c]; rfl⟩
  · have c : ¬ w = 0 := c
    refine w_ic (by omega) (by omega) (fun c2 => ?_) (fun c2 => ?_)
    · have c2 : w = 1 := c2
      refine w_ix s rfl (by omega) ?_
      exact ⟨rfl, by rw [c2]; rfl⟩
    · have c2 : ¬ w = 1 := c2
      refine w_ix s rfl (by omega) ?_
      exact ⟨rfl, by rw [show w = 2 by omega]; rfl⟩
theorem nv_and_mask (z : Int) : nv_and z 2147483647 = z % 2147483648 := by
  unfold nv_and
  rw [pk_and (Int32.ofInt z) (m := Int32.ofInt 2147483647) 31 (by decide)]
  rw [Int32.toBitVec_ofInt, BitVec.toNat_ofInt]
  have h1 : ((z % ((2 ^ 32 : Nat) : Int)).toNat % 2 ^ 31 : Nat) < 2 ^ 31 := Nat.mod_lt _ (by decide)
  rw [nI_toInt h1]
  have e : ((2 ^ 32 : Nat) : Int) = 4294967296 := by decide
  rw [e]
  omega
def m_draw (d : Int) : Int := (d * 1103515245 + 12345) % 2147483648
def m_drift (N : m_NN) : m_NN := if 0 < N 0 0 ∧ 0 < N 0 1 then m_put (m_put N 0 3 (m_draw (N 0 3))) 6 (m_draw (N 0 3) / 65536 % N 0 1).toNat (m_draw (N 0 3) / 128 % N 0 0) else m_put N 0 3 (m_draw (N 0 3))
set_option maxRecDepth 100000 in
theorem r_drawAndSet {h : nv_St} {o P S : Nat} {B : Int} (hN : m_ok (m_nn h o) P S B) : nv_R M_X0_drawAndSet [vr 0 o] h (fun r h' => r = none ∧ m_fr o h h' ∧ m_nn h' o = m_drift (m_nn h o)) := by
  obtain ⟨hP5, hS5, hP, hS, hH, hDr, hpl, hsw⟩ := hN.h
  have ed : nv_and (h 0 o 3 * 1103515245 + 12345) 2147483647 = m_draw (h 0 o 3) := nv_and_mask _
  have hd : 0 ≤ m_draw (h 0 o 3) ∧ m_draw (h 0 o 3) < 2147483648 := by unfold m_draw; omega
  refine nv_R.of rfl rfl (Nat.le_of_ble_eq_true rfl) ?_
  refine nv_go ok_X0_drawAndSet [18] 60 ?_
  have h18 : ∀ x, x = m_draw (h 0 o 3) → nv_V M_X0_drawAndSet 18 [(0, vr 0 o)] [] (nv_up h 0 o 3 x) (fun r h' => r = none ∧ m_fr o h h' ∧ m_nn h' o = m_drift (m_nn h o)) := by
    intro x hx
    have e0 : nv_up h 0 o 3 x 0 o 0 = P := by simpa [nv_up] using hP
    have e1 : nv_up h 0 o 3 x 0 o 1 = S := by simpa [nv_up] using hS
    have e3 : nv_up h 0 o 3 x 0 o 3 = x := nv_up_same _ _ _ _ _
    have no : ¬ (0 < m_nn h o 0 0 ∧ 0 < m_nn h o 0 1) → m_fr o h (nv_up h 0 o 3 x) ∧ m_nn (nv_up h 0 o 3 x) o = m_drift (m_nn h o) := by
      intro hz
      refine ⟨m_fr.rfl'.up (by decide), ?_⟩
      rw [m_nn_put (by decide)]
      unfold m_drift
      rw [if_neg hz, hx]
      rfl
    refine nv_go ok_X0_drawAndSet [] 60 ?_
    refine w_if (by omega) (fun c => ?_) (fun c => ?_)
    · have c : nv_up h 0 o 3 x 0 o 0 ≤ 0 := c
      exact ⟨rfl, no (fun q => by have q0 : 0 < h 0 o 0 := q.1; omega)⟩
    · have c : ¬ nv_up h 0 o 3 x 0 o 0 ≤ 0 := c
      refine w_if (by omega) (fun c2 => ?_) (fun c2 => ?_)
      · have c2 : nv_up h 0 o 3 x 0 o 1 ≤ 0 := c2
        exact ⟨rfl, no (fun q => by have q0 : 0 < h 0 o 1 := q.2; omega)⟩
      · have c2 : ¬ nv_up h 0 o 3 x 0 o 1 ≤ 0 := c2
        have hr := Int.emod_nonneg (x / 65536) (show (S : Int) ≠ 0 by omega)
        have hr2 := Int.emod_lt_of_pos (x / 65536) (show (0 : Int) < S by omega)
        refine w_dv (by omega) (by omega) ?_
        refine w_dv (by rw [e3]; omega) (by omega) ?_
        refine w_dv (by omega) (by omega) ?_
        refine w_dv (by rw [e3]; omega) (by omega) ?_
        refine w_ix (x / 65536 % (S : Int)).toNat (by rw [e3, e1]; omega) (by omega) ?_
        refine ⟨rfl, (m_fr.rfl'.up (by decide)).up (by decide), ?_⟩
        rw [m_nn_put (by decide), m_nn_put (by decide), e3, e0]
        unfold m_drift
        have q1 : m_nn h o 0 0 = P := hP
        have q2 : m_nn h o 0 1 = S := hS
        rw [if_pos ⟨by omega, by omega⟩, q1, q2, hx]
        rfl
  exact h18 _ ed
