/-! ===== the start: both states ===== -/
def k_N0 : m_NN := fun t j => if t = 0 then (if j = 3 then 1 else 0) else 0
def k_a0 : a_S := ((0, 0, k_N0, []), none, [], fun _ => -1, fun _ => 0, fun _ _ => 0)
theorem k_ok0 : m_ok k_N0 0 0 9999 := ⟨by decide, by decide, rfl, rfl, ⟨by decide, by decide⟩, ⟨by decide, by decide⟩, fun p hp => absurd hp (by omega), fun s hs => absurd hs (by omega)⟩
theorem k_CI : CI k_h0 k_a0 := by
  refine ⟨⟨k_ok0, ⟨fun j hj => ?_, fun p hp => absurd hp (Nat.not_lt_zero p), fun s hs => absurd hs (Nat.not_lt_zero s)⟩, ⟨0, by decide, rfl, rfl, Nat.zero_le _, fun k M hk => by cases hk⟩, fun M hM => by cases hM⟩, rfl, ⟨rfl, Nat.zero_le _, fun k x hk => by cases hk⟩, fun s hs => ⟨rfl, rfl, ⟨(by decide : (-1 : Int) ≤ -1), (by decide : (-1 : Int) ≤ 3)⟩, ⟨(by decide : (0 : Int) ≤ 0), (by decide : (0 : Int) ≤ 24)⟩, fun k hk h0 => absurd h0 (by decide : ¬ (0 : Int) ≤ -1)⟩, Or.inl rfl, Or.inl rfl⟩
  have : j = 0 ∨ j = 1 ∨ j = 2 ∨ j = 3 := by omega
  rcases this with rfl | rfl | rfl | rfl <;> rfl
theorem k_MI : MI k_h0 k_a0 := by
  refine ⟨⟨k_ok0, ⟨fun j hj => ?_, fun p hp => absurd hp (Nat.not_lt_zero p), fun s hs => absurd hs (Nat.not_lt_zero s)⟩, ⟨rfl, Nat.zero_le _, fun k M hk => by cases hk⟩, fun M hM => by cases hM⟩, rfl, ⟨rfl, Nat.zero_le _, fun k x hk => by cases hk⟩, fun s hs => ⟨rfl, rfl, ⟨(by decide : (-1 : Int) ≤ -1), (by decide : (-1 : Int) ≤ 3)⟩, ⟨(by decide : (0 : Int) ≤ 0), (by decide : (0 : Int) ≤ 24)⟩, fun k hk h0 => absurd h0 (by decide : ¬ (0 : Int) ≤ -1)⟩⟩
  have : j = 0 ∨ j = 1 ∨ j = 2 ∨ j = 3 := by omega
  rcases this with rfl | rfl | rfl | rfl <;> rfl
