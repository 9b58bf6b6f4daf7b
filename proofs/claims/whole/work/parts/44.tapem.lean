/-! ===== how a noon is told by letters: what is meant ===== -/
abbrev y_T : Type := Int × Int × Int
section nvTm
variable (n : Nat) (f : Nat → Int)
def t_sk : Nat → Nat → Nat
  | 0, k => k
  | d + 1, k => if k < n ∧ f k = 32 then t_sk d (k + 1) else k
def t_s (k : Nat) : Nat := t_sk n f (n - k) k
theorem t_s_eq (k : Nat) : t_s n f k = if k < n ∧ f k = 32 then t_s n f (k + 1) else k := by
  unfold t_s
  by_cases h : k < n
  · rw [show n - k = (n - (k + 1)) + 1 by omega]
    rfl
  · rw [if_neg (fun q => h q.1), show n - k = 0 by omega]
    rfl
theorem t_sk_le : ∀ (d k : Nat), k ≤ t_sk n f d k ∧ (k ≤ n → t_sk n f d k ≤ n)
  | 0, k => ⟨Nat.le_refl _, id⟩
  | d + 1, k => by
    have := t_sk_le d (k + 1)
    unfold t_sk
    split
    · exact ⟨by omega, fun _ => this.2 (by omega)⟩
    · exact ⟨Nat.le_refl _, id⟩
theorem t_s_le (k : Nat) : k ≤ t_s n f k ∧ (k ≤ n → t_s n f k ≤ n) := t_sk_le n f _ _
def t_x (k : Nat) : Int := if t_s n f k < n then f (t_s n f k) else 0
def t_take (c : Int) (k : Nat) : Bool × Nat := if t_x n f k = c then (true, t_s n f k + 1) else (false, t_s n f k)
def t_dig (hi : Int) (k : Nat) : Option Int × Nat := if (48 ≤ t_x n f k ∧ t_x n f k ≤ 57) ∧ t_x n f k - 48 ≤ hi then (some (t_x n f k - 48), t_s n f k + 1) else (none, t_s n f k)
def t_dg (k : Nat) : Bool := decide (k < n ∧ 48 ≤ f k ∧ f k ≤ 57)
def t_nv (k : Nat) : Int := if t_dg n f (t_s n f k + 1) = true then 10 * (t_x n f k - 48) + (f (t_s n f k + 1) - 48) else t_x n f k - 48
def t_nk (k : Nat) : Nat := if t_dg n f (t_s n f k + 1) = true then t_s n f k + 2 else t_s n f k + 1
def t_num (lo hi : Int) (k : Nat) : Option Int × Nat := if ¬ (48 ≤ t_x n f k ∧ t_x n f k ≤ 57) then (none, t_s n f k) else if lo ≤ t_nv n f k ∧ t_nv n f k ≤ hi then (some (t_nv n f k), t_nk n f k) else (none, t_s n f k)
def t_numR (lo hi : Int) (k : Nat) : Option Int × Nat := if (t_num n f lo hi k).1.isSome = true ∧ t_dg n f (t_num n f lo hi k).2 = true then (none, (t_num n f lo hi k).2) else t_num n f lo hi k
/-- a plank -/
def t_p2 (t : Int) (k1 : Nat) : Option Int × Nat := if (t_take n f 37 k1).1 = true then t_dig n f 9 (t_take n f 37 k1).2 else (some 0, (t_take n f 37 k1).2)
def t_p3 (t : Int) (k3 : Nat) : Option Int × Nat := if (t_take n f 45 k3).1 = true then t_numR n f 0 t (t_take n f 45 k3).2 else (some 0, (t_take n f 45 k3).2)
def t_pI (k : Nat) : Option y_T × Nat := match (t_numR n f 1 99 k).1 with
  | none => (none, (t_numR n f 1 99 k).2)
  | some t => (match (t_p2 n f t (t_numR n f 1 99 k).2).1 with
    | none => (none, (t_p2 n f t (t_numR n f 1 99 k).2).2)
    | some kn => (match (t_p3 n f t (t_p2 n f t (t_numR n f 1 99 k).2).2).1 with
      | none => (none, (t_p3 n f t (t_p2 n f t (t_numR n f 1 99 k).2).2).2)
      | some ct => (some (t, kn, t - ct), (t_p3 n f t (t_p2 n f t (t_numR n f 1 99 k).2).2).2)))
def t_ps : Nat → Nat → List y_T → Option (List y_T) × Nat
  | 0, k, ps => (some ps, k)
  | r + 1, k, ps => match (t_pI n f k).1 with
    | none => (none, (t_pI n f k).2)
    | some x => if r = 0 then (some (ps ++ [x]), (t_pI n f k).2) else if (t_take n f 44 (t_pI n f k).2).1 = true then t_ps r (t_take n f 44 (t_pI n f k).2).2 (ps ++ [x]) else (some (ps ++ [x]), (t_take n f 44 (t_pI n f k).2).2)
/-- a sawyer, there being P planks -/
def t_w3 (P : Nat) (k : Nat) : Option Int × Nat := if (t_take n f 64 k).1 = true then t_dig n f ((P : Int) - 1) (t_take n f 64 k).2 else (some (-4), (t_take n f 64 k).2)
def t_wI (P : Nat) (k : Nat) : Option y_T × Nat := if t_kind (t_x n f k) < 0 then (none, t_s n f k) else match (t_dig n f 9 (t_s n f k + 1)).1 with
  | none => (none, (t_dig n f 9 (t_s n f k + 1)).2)
  | some te => (match (t_w3 n f P (t_dig n f 9 (t_s n f k + 1)).2).1 with
    | none => (none, (t_w3 n f P (t_dig n f 9 (t_s n f k + 1)).2).2)
    | some se => (some (t_kind (t_x n f k), te, se), (t_w3 n f P (t_dig n f 9 (t_s n f k + 1)).2).2))
def t_wss (P : Nat) : Nat → Nat → List y_T → Option (List y_T) × Nat
  | 0, k, ss => (some ss, k)
  | r + 1, k, ss => match (t_wI n f P k).1 with
    | none => (none, (t_wI n f P k).2)
    | some x => if r = 0 then (some (ss ++ [x]), (t_wI n f P k).2) else if (t_take n f 44 (t_wI n f P k).2).1 = true then t_wss P r (t_take n f 44 (t_wI n f P k).2).2 (ss ++ [x]) else (some (ss ++ [x]), (t_take n f 44 (t_wI n f P k).2).2)
/-- all: the planks and the sawyers, or where it fails -/
def t_end (ps ss : List y_T) (k : Nat) : Option (List y_T × List y_T) × Nat := if t_x n f k = 0 then (some (ps, ss), t_s n f k) else (none, t_s n f k)
def t_all : Option (List y_T × List y_T) × Nat := match (t_ps n f 5 0 []).1 with
  | none => (none, (t_ps n f 5 0 []).2)
  | some ps => if (t_take n f 59 (t_ps n f 5 0 []).2).1 = true then (match (t_wss n f ps.length 5 (t_take n f 59 (t_ps n f 5 0 []).2).2 []).1 with
      | none => (none, (t_wss n f ps.length 5 (t_take n f 59 (t_ps n f 5 0 []).2).2 []).2)
      | some ss => t_end n f ps ss (t_wss n f ps.length 5 (t_take n f 59 (t_ps n f 5 0 []).2).2 []).2)
    else t_end n f ps [] (t_take n f 59 (t_ps n f 5 0 []).2).2
/-! where a number is followed by a digit nothing more is taken -/
variable {n f}
theorem t_dg_s {k : Nat} (h : t_dg n f k = true) : t_s n f k = k ∧ t_x n f k = f k ∧ k < n ∧ 48 ≤ f k ∧ f k ≤ 57 := by
  have h := of_decide_eq_true h
  have e : t_s n f k = k := by rw [t_s_eq, if_neg (by omega)]
  refine ⟨e, ?_, h.1, h.2.1, h.2.2⟩
  unfold t_x
  rw [e, if_pos h.1]
theorem t_dg_take {k : Nat} {c : Int} (h : t_dg n f k = true) (hc : c < 48 ∨ 57 < c) : t_take n f c k = (false, k) := by
  have := t_dg_s h
  unfold t_take
  rw [this.1, this.2.1, if_neg (by omega)]
theorem t_take_le {c : Int} {k : Nat} (hc : ¬ c = 0) (hk : k ≤ n) : (t_take n f c k).2 ≤ n := by
  have := t_s_le n f k
  unfold t_take
  split
  · next h =>
    show t_s n f k + 1 ≤ n
    unfold t_x at h
    split at h
    · omega
    · exact absurd h.symm hc
  · exact this.2 hk
theorem t_x_lt {k : Nat} (h : ¬ t_x n f k = 0) : t_s n f k < n := by
  unfold t_x at h
  split at h
  · assumption
  · exact absurd rfl h
theorem t_dig_le {hi : Int} {k : Nat} (hk : k ≤ n) : (t_dig n f hi k).2 ≤ n := by
  have := t_s_le n f k
  unfold t_dig
  split
  · next h =>
    have := t_x_lt (n := n) (f := f) (k := k) (by omega)
    show t_s n f k + 1 ≤ n
    omega
  · exact this.2 hk
theorem t_num_le {lo hi : Int} {k : Nat} (hk : k ≤ n) : (t_num n f lo hi k).2 ≤ n := by
  have := t_s_le n f k
  unfold t_num
  split
  · exact this.2 hk
  · next h =>
    have h2 := t_x_lt (n := n) (f := f) (k := k) (by omega)
    split
    · show t_nk n f k ≤ n
      unfold t_nk
      split
      · next h3 =>
        have := (t_dg_s h3).2.2.1
        omega
      · omega
    · exact this.2 hk
theorem t_numR_2 {lo hi : Int} {k : Nat} : (t_numR n f lo hi k).2 = (t_num n f lo hi k).2 := by
  unfold t_numR
  split <;> rfl
theorem t_num_r {lo hi v : Int} {k : Nat} (h : (t_num n f lo hi k).1 = some v) : lo ≤ v ∧ v ≤ hi := by
  unfold t_num at h
  split at h
  · cases h
  · split at h
    · next h2 => cases h; exact h2
    · cases h
theorem t_numR_1 {lo hi v : Int} {k : Nat} (h : (t_numR n f lo hi k).1 = some v) : (t_num n f lo hi k).1 = some v ∧ t_dg n f (t_num n f lo hi k).2 = false := by
  unfold t_numR at h
  by_cases hb : (t_num n f lo hi k).1.isSome = true ∧ t_dg n f (t_num n f lo hi k).2 = true
  · rw [if_pos hb] at h; cases h
  · rw [if_neg hb] at h
    refine ⟨h, ?_⟩
    cases hd : t_dg n f (t_num n f lo hi k).2 with
    | false => rfl
    | true => exact absurd ⟨by rw [h]; rfl, hd⟩ hb
theorem t_dig_r {hi v : Int} {k : Nat} (h : (t_dig n f hi k).1 = some v) : 0 ≤ v ∧ v ≤ hi ∧ v ≤ 9 := by
  unfold t_dig at h
  split at h
  · next h2 => cases h; omega
  · cases h
theorem t_p2_r {t v : Int} {k : Nat} (h : (t_p2 n f t k).1 = some v) : 0 ≤ v ∧ v ≤ 9 := by
  unfold t_p2 at h
  split at h
  · have := t_dig_r h; omega
  · cases h; omega
theorem t_p2_le {t : Int} {k : Nat} (hk : k ≤ n) : (t_p2 n f t k).2 ≤ n := by
  unfold t_p2
  split
  · exact t_dig_le (t_take_le (by decide) hk)
  · exact t_take_le (by decide) hk
theorem t_p3_r {t v : Int} {k : Nat} (ht : 0 ≤ t) (h : (t_p3 n f t k).1 = some v) : 0 ≤ v ∧ v ≤ t := by
  unfold t_p3 at h
  split at h
  · exact t_num_r (t_numR_1 h).1
  · cases h; omega
theorem t_p3_le {t : Int} {k : Nat} (hk : k ≤ n) : (t_p3 n f t k).2 ≤ n := by
  unfold t_p3
  split
  · rw [t_numR_2]; exact t_num_le (t_take_le (by decide) hk)
  · exact t_take_le (by decide) hk
def t_okP (x : y_T) : Prop := (1 ≤ x.1 ∧ x.1 ≤ 99) ∧ (0 ≤ x.2.1 ∧ x.2.1 ≤ 9) ∧ (0 ≤ x.2.2 ∧ x.2.2 ≤ 99)
def t_okS (P : Nat) (x : y_T) : Prop := (0 ≤ x.1 ∧ x.1 ≤ 4) ∧ (0 ≤ x.2.1 ∧ x.2.1 ≤ 9) ∧ (x.2.2 = -4 ∨ (0 ≤ x.2.2 ∧ x.2.2 < P))
/-- the steps of a plank, one by one -/
theorem t_pI_1 {k : Nat} (h : (t_numR n f 1 99 k).1 = none) : t_pI n f k = (none, (t_num n f 1 99 k).2) := by
  unfold t_pI
  simp only [h]
  rw [t_numR_2]
theorem t_pI_2 {k : Nat} {t : Int} (h : (t_numR n f 1 99 k).1 = some t) (h2 : (t_p2 n f t (t_num n f 1 99 k).2).1 = none) : t_pI n f k = (none, (t_p2 n f t (t_num n f 1 99 k).2).2) := by
  unfold t_pI
  simp only [h]
  rw [t_numR_2]
  simp only [h2]
theorem t_pI_3 {k : Nat} {t kn : Int} (h : (t_numR n f 1 99 k).1 = some t) (h2 : (t_p2 n f t (t_num n f 1 99 k).2).1 = some kn) (h3 : (t_p3 n f t (t_p2 n f t (t_num n f 1 99 k).2).2).1 = none) : t_pI n f k = (none, (t_p3 n f t (t_p2 n f t (t_num n f 1 99 k).2).2).2) := by
  unfold t_pI
  simp only [h]
  rw [t_numR_2]
  simp only [h2, h3]
theorem t_pI_4 {k : Nat} {t kn ct : Int} (h : (t_numR n f 1 99 k).1 = some t) (h2 : (t_p2 n f t (t_num n f 1 99 k).2).1 = some kn) (h3 : (t_p3 n f t (t_p2 n f t (t_num n f 1 99 k).2).2).1 = some ct) : t_pI n f k = (some (t, kn, t - ct), (t_p3 n f t (t_p2 n f t (t_num n f 1 99 k).2).2).2) := by
  unfold t_pI
  simp only [h]
  rw [t_numR_2]
  simp only [h2, h3]
theorem t_pI_ok {k : Nat} {x : y_T} (h : (t_pI n f k).1 = some x) : t_okP x := by
  cases h1 : (t_numR n f 1 99 k).1 with
  | none => rw [t_pI_1 h1] at h; cases h
  | some t =>
    have r1 := t_num_r (t_numR_1 h1).1
    cases h2 : (t_p2 n f t (t_num n f 1 99 k).2).1 with
    | none => rw [t_pI_2 h1 h2] at h; cases h
    | some kn =>
      have r2 := t_p2_r h2
      cases h3 : (t_p3 n f t (t_p2 n f t (t_num n f 1 99 k).2).2).1 with
      | none => rw [t_pI_3 h1 h2 h3] at h; cases h
      | some ct =>
        have r3 := t_p3_r (by omega) h3
        rw [t_pI_4 h1 h2 h3] at h
        cases h
        refine ⟨r1, r2, ?_⟩
        show 0 ≤ t - ct ∧ t - ct ≤ 99
        omega
theorem t_pI_le {k : Nat} (hk : k ≤ n) : (t_pI n f k).2 ≤ n := by
  have k1 := t_num_le (n := n) (f := f) (lo := 1) (hi := 99) hk
  cases h1 : (t_numR n f 1 99 k).1 with
  | none => rw [t_pI_1 h1]; exact k1
  | some t =>
    have k2 := t_p2_le (n := n) (f := f) (t := t) k1
    cases h2 : (t_p2 n f t (t_num n f 1 99 k).2).1 with
    | none => rw [t_pI_2 h1 h2]; exact k2
    | some kn =>
      have k3 := t_p3_le (n := n) (f := f) (t := t) k2
      cases h3 : (t_p3 n f t (t_p2 n f t (t_num n f 1 99 k).2).2).1 with
      | none => rw [t_pI_3 h1 h2 h3]; exact k3
      | some ct => rw [t_pI_4 h1 h2 h3]; exact k3
theorem t_kind_r (c : Int) : (t_kind c = -1 ∨ (0 ≤ t_kind c ∧ t_kind c ≤ 4)) ∧ (¬ t_kind c = -1 → ¬ c = 0) := by
  unfold t_kind
  split
  · omega
  · split
    · omega
    · split
      · omega
      · split
        · omega
        · split <;> omega
theorem t_w3_le {P k : Nat} (hk : k ≤ n) : (t_w3 n f P k).2 ≤ n := by
  unfold t_w3
  split
  · exact t_dig_le (t_take_le (by decide) hk)
  · exact t_take_le (by decide) hk
theorem t_wI_1 {P k : Nat} (h : t_kind (t_x n f k) < 0) : t_wI n f P k = (none, t_s n f k) := by
  unfold t_wI
  rw [if_pos h]
theorem t_wI_2 {P k : Nat} (h : ¬ t_kind (t_x n f k) < 0) (h2 : (t_dig n f 9 (t_s n f k + 1)).1 = none) : t_wI n f P k = (none, (t_dig n f 9 (t_s n f k + 1)).2) := by
  unfold t_wI
  rw [if_neg h]
  simp only [h2]
theorem t_wI_3 {P k : Nat} {te : Int} (h : ¬ t_kind (t_x n f k) < 0) (h2 : (t_dig n f 9 (t_s n f k + 1)).1 = some te) (h3 : (t_w3 n f P (t_dig n f 9 (t_s n f k + 1)).2).1 = none) : t_wI n f P k = (none, (t_w3 n f P (t_dig n f 9 (t_s n f k + 1)).2).2) := by
  unfold t_wI
  rw [if_neg h]
  simp only [h2, h3]
theorem t_wI_4 {P k : Nat} {te se : Int} (h : ¬ t_kind (t_x n f k) < 0) (h2 : (t_dig n f 9 (t_s n f k + 1)).1 = some te) (h3 : (t_w3 n f P (t_dig n f 9 (t_s n f k + 1)).2).1 = some se) : t_wI n f P k = (some (t_kind (t_x n f k), te, se), (t_w3 n f P (t_dig n f 9 (t_s n f k + 1)).2).2) := by
  unfold t_wI
  rw [if_neg h]
  simp only [h2, h3]
theorem t_w3_r {P k : Nat} {v : Int} (h : (t_w3 n f P k).1 = some v) : v = -4 ∨ (0 ≤ v ∧ v < P) := by
  unfold t_w3 at h
  split at h
  · have := t_dig_r h; omega
  · cases h; exact Or.inl rfl
theorem t_wI_ok {P k : Nat} {x : y_T} (h : (t_wI n f P k).1 = some x) : t_okS P x := by
  by_cases h0 : t_kind (t_x n f k) < 0
  · rw [t_wI_1 h0] at h; cases h
  · have kr := (t_kind_r (t_x n f k)).1
    cases h2 : (t_dig n f 9 (t_s n f k + 1)).1 with
    | none => rw [t_wI_2 h0 h2] at h; cases h
    | some te =>
      have r2 := t_dig_r h2
      cases h3 : (t_w3 n f P (t_dig n f 9 (t_s n f k + 1)).2).1 with
      | none => rw [t_wI_3 h0 h2 h3] at h; cases h
      | some se =>
        have r3 := t_w3_r h3
        rw [t_wI_4 h0 h2 h3] at h
        cases h
        refine ⟨?_, ?_, r3⟩
        · show 0 ≤ t_kind (t_x n f k) ∧ t_kind (t_x n f k) ≤ 4
          omega
        · show 0 ≤ te ∧ te ≤ 9
          omega
end nvTm
/-- the noon that is told -/
def m_bld (d : Int) (ps ss : List y_T) : m_NN := fun t j => match t with
  | 0 => (match j with | 0 => (ps.length : Int) | 1 => (ss.length : Int) | 2 => 0 | 3 => d | _ => 0)
  | 1 => (ps.getD j (0, 0, 0)).1
  | 2 => (ps.getD j (0, 0, 0)).2.1
  | 3 => (ps.getD j (0, 0, 0)).2.2
  | 4 => (ss.getD j (0, 0, 0)).1
  | 5 => (ss.getD j (0, 0, 0)).2.1
  | 6 => (ss.getD j (0, 0, 0)).2.2
  | _ => 0
theorem getD_app {x : y_T} : ∀ (l : List y_T) (j : Nat), j < l.length + 1 → (l ++ [x]).getD j (0, 0, 0) = if j = l.length then x else l.getD j (0, 0, 0)
  | [], j, h => by
    have : j = 0 := by simp at h; omega
    subst this
    rfl
  | y :: l, 0, h => by simp
  | y :: l, j + 1, h => by
    have := getD_app (x := x) l j (by simp at h; omega)
    simp at this ⊢
    exact this
theorem m_bld_ok {d : Int} {ps ss : List y_T} (hd : 0 ≤ d ∧ d < 2147483648) (h1 : ps.length ≤ 5) (h2 : ss.length ≤ 5) (hp : ∀ x ∈ ps, t_okP x) (hs : ∀ x ∈ ss, t_okS ps.length x) : m_ok (m_bld d ps ss) ps.length ss.length 9999 := by
  refine ⟨h1, h2, rfl, rfl, ⟨by show (0 : Int) ≤ 0; omega, by show (0 : Int) ≤ 9999; omega⟩, hd, fun p hp2 => ?_, fun s hs2 => ?_⟩
  · have e : ps.getD p (0, 0, 0) = ps[p] := by simp [List.getD, hp2]
    have := hp _ (List.getElem_mem hp2)
    show (0 ≤ (ps.getD p (0, 0, 0)).1 ∧ (ps.getD p (0, 0, 0)).1 ≤ 99) ∧ (0 ≤ (ps.getD p (0, 0, 0)).2.1 ∧ (ps.getD p (0, 0, 0)).2.1 ≤ 9) ∧ (0 ≤ (ps.getD p (0, 0, 0)).2.2 ∧ (ps.getD p (0, 0, 0)).2.2 ≤ 99)
    rw [e]
    obtain ⟨a, b, c⟩ := this
    exact ⟨⟨by omega, a.2⟩, b, c⟩
  · have e : ss.getD s (0, 0, 0) = ss[s] := by simp [List.getD, hs2]
    have := hs _ (List.getElem_mem hs2)
    show (0 ≤ (ss.getD s (0, 0, 0)).1 ∧ (ss.getD s (0, 0, 0)).1 ≤ 4) ∧ (0 ≤ (ss.getD s (0, 0, 0)).2.1 ∧ (ss.getD s (0, 0, 0)).2.1 ≤ 9) ∧ ((ss.getD s (0, 0, 0)).2.2 = -4 ∨ (0 ≤ (ss.getD s (0, 0, 0)).2.2 ∧ (ss.getD s (0, 0, 0)).2.2 < ps.length))
    rw [e]
    exact this
theorem m_bld_P {d : Int} {ps ss : List y_T} {x : y_T} {N : m_NN} {S : Nat} (he : m_eq ps.length S N (m_bld d ps ss)) : m_eq (ps.length + 1) S (m_addP N x.1 x.2.1 x.2.2) (m_bld d (ps ++ [x]) ss) := by
  have hP : m_P N = ps.length := by
    unfold m_P
    rw [he.1 0 (by omega)]
    show ((ps.length : Int)).toNat = _
    omega
  refine ⟨fun j hj => ?_, fun p hp => ?_, fun s hs => he.2.2 s hs⟩
  · have : j = 0 ∨ j = 1 ∨ j = 2 ∨ j = 3 := by omega
    rcases this with rfl | rfl | rfl | rfl
    · show N 0 0 + 1 = ((ps ++ [x]).length : Int)
      rw [he.1 0 (by omega)]
      simp [m_bld]
    · exact he.1 1 (by omega)
    · exact he.1 2 (by omega)
    · exact he.1 3 (by omega)
  · show (if p = m_P N then x.1 else N 1 p) = ((ps ++ [x]).getD p (0, 0, 0)).1 ∧ (if p = m_P N then x.2.1 else N 2 p) = ((ps ++ [x]).getD p (0, 0, 0)).2.1 ∧ (if p = m_P N then x.2.2 else N 3 p) = ((ps ++ [x]).getD p (0, 0, 0)).2.2
    rw [hP, getD_app ps p hp]
    by_cases e : p = ps.length
    · simp only [e, if_true, and_self]
    · simp only [if_neg e]
      exact he.2.1 p (by omega)
theorem m_bld_S {d : Int} {ps ss : List y_T} {x : y_T} {N : m_NN} {P : Nat} (he : m_eq P ss.length N (m_bld d ps ss)) : m_eq P (ss.length + 1) (m_addS N x.1 x.2.1 x.2.2) (m_bld d ps (ss ++ [x])) := by
  have hS : m_S N = ss.length := by
    unfold m_S
    rw [he.1 1 (by omega)]
    show ((ss.length : Int)).toNat = _
    omega
  refine ⟨fun j hj => ?_, fun p hp => he.2.1 p hp, fun s hs => ?_⟩
  · have : j = 0 ∨ j = 1 ∨ j = 2 ∨ j = 3 := by omega
    rcases this with rfl | rfl | rfl | rfl
    · exact he.1 0 (by omega)
    · show N 0 1 + 1 = ((ss ++ [x]).length : Int)
      rw [he.1 1 (by omega)]
      simp [m_bld]
    · exact he.1 2 (by omega)
    · exact he.1 3 (by omega)
  · show (if s = m_S N then x.1 else N 4 s) = ((ss ++ [x]).getD s (0, 0, 0)).1 ∧ (if s = m_S N then x.2.1 else N 5 s) = ((ss ++ [x]).getD s (0, 0, 0)).2.1 ∧ (if s = m_S N then x.2.2 else N 6 s) = ((ss ++ [x]).getD s (0, 0, 0)).2.2
    rw [hS, getD_app ss s hs]
    by_cases e : s = ss.length
    · simp only [e, if_true, and_self]
    · simp only [if_neg e]
      exact he.2.2 s (by omega)
