/-! ===== Integer.bitCount of what is below 32 ===== -/
def m_bits (x : Int) : Int := x % 2 + x / 2 % 2 + x / 4 % 2 + x / 8 % 2 + x / 16 % 2
theorem w_su {a b : Int} {F : Nat → Prop} (ha : 0 ≤ a ∧ a < 2147483648) (n : Nat) (hb : b = (n : Int)) (hn : n < 32) (hF : F n) : (0 ≤ a ∧ a < 2147483648) ∧ ∃ n : Nat, b = (n : Int) ∧ n < 32 ∧ F n := ⟨ha, n, hb, hn, hF⟩
set_option maxHeartbeats 4000000 in
set_option maxRecDepth 100000 in
theorem r_bitCount {h : nv_St} {x : Int} (h0 : 0 ≤ x) (h1 : x < 32) : nv_R M_J6_bitCount_0f7a4 [vi x] h (fun r h' => h' = h ∧ r = some (vi (m_bits x))) := by
  refine nv_R.of (by decide +kernel) rfl (Nat.le_of_ble_eq_true rfl) ?_
  refine nv_go ok_J6_bitCount_0f7a4 [] 60 ?_
  have hx : x = 0 ∨ x = 1 ∨ x = 2 ∨ x = 3 ∨ x = 4 ∨ x = 5 ∨ x = 6 ∨ x = 7 ∨ x = 8 ∨ x = 9 ∨ x = 10 ∨ x = 11 ∨ x = 12 ∨ x = 13 ∨ x = 14 ∨ x = 15 ∨ x = 16 ∨ x = 17 ∨ x = 18 ∨ x = 19 ∨ x = 20 ∨ x = 21 ∨ x = 22 ∨ x = 23 ∨ x = 24 ∨ x = 25 ∨ x = 26 ∨ x = 27 ∨ x = 28 ∨ x = 29 ∨ x = 30 ∨ x = 31 := by omega
  rcases hx with rfl | rfl | rfl | rfl | rfl | rfl | rfl | rfl | rfl | rfl | rfl | rfl | rfl | rfl | rfl | rfl | rfl | rfl | rfl | rfl | rfl | rfl | rfl | rfl | rfl | rfl | rfl | rfl | rfl | rfl | rfl | rfl
  all_goals
    refine w_su (by decide +kernel) 1 rfl (by decide) ?_
    refine w_su (by decide +kernel) 2 rfl (by decide) ?_
    refine w_su (by decide +kernel) 4 rfl (by decide) ?_
    refine w_su (by decide +kernel) 8 rfl (by decide) ?_
    refine w_su (by decide +kernel) 16 rfl (by decide) ?_
    exact ⟨rfl, congrArg (fun z => some (vi z)) (by decide +kernel)⟩
