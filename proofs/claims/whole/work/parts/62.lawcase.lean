/-! ===== printed by wip/whole/gen_law.py: each case of the law; its loop ===== -/
section nvLaw
variable {X : nv_X} {bb LL : Nat} {xx : Nat → Int32} {h : nv_St} {a : a_S} {i : Nat}
set_option maxRecDepth 100000 in
set_option maxHeartbeats 4000000 in
theorem lc_plank (C : CI h a) (D : MI h a) (hi : i + 8 ≤ LL) (next : ∀ h' a', CI h' a' → MI h' a' → lq_V X bb LL xx 1263 [(0, vr 32 0), (1, vr 18 0), (2, vr 19 0), (3, vi (i : Int))] [] h') : lq_V X bb LL xx 180 [(0, vr 32 0), (1, vr 18 0), (2, vr 19 0), (3, vi (i : Int))] [] h := by
  refine lq_go okL_plank [1263] 30 ?_
  refine w_ix (i + 1) (by omega) (by omega) ?_
  refine w_ix (i + 2) (by omega) (by omega) ?_
  refine w_call (r_plank_c C (lq_r _) (lq_r _)) (fun r h1 hr => ?_)
  obtain ⟨rfl, C1, f1⟩ := hr
  refine w_ix (i + 1) (by omega) (by omega) ?_
  refine w_ix (i + 2) (by omega) (by omega) ?_
  refine w_call (r_plank_g (D.lo f1) (lq_r _) (lq_r _)) (fun r h2 hr => ?_)
  obtain ⟨rfl, D2, f2⟩ := hr
  refine And.intro rfl ?_
  exact next h2 _ (C1.hi f2) D2
set_option maxRecDepth 100000 in
set_option maxHeartbeats 4000000 in
theorem lc_sawyer (C : CI h a) (D : MI h a) (hi : i + 8 ≤ LL) (next : ∀ h' a', CI h' a' → MI h' a' → lq_V X bb LL xx 1263 [(0, vr 32 0), (1, vr 18 0), (2, vr 19 0), (3, vi (i : Int))] [] h') : lq_V X bb LL xx 213 [(0, vr 32 0), (1, vr 18 0), (2, vr 19 0), (3, vi (i : Int))] [] h := by
  refine lq_go okL_sawyer [1263] 30 ?_
  refine w_ix (i + 1) (by omega) (by omega) ?_
  refine w_ix (i + 2) (by omega) (by omega) ?_
  refine w_call (r_sawyer_c C (lq_r _) (lq_r _)) (fun r h1 hr => ?_)
  obtain ⟨rfl, C1, f1⟩ := hr
  refine w_ix (i + 1) (by omega) (by omega) ?_
  refine w_ix (i + 2) (by omega) (by omega) ?_
  refine w_call (r_sawyer_g (D.lo f1) (lq_r _) (lq_r _)) (fun r h2 hr => ?_)
  obtain ⟨rfl, D2, f2⟩ := hr
  refine And.intro rfl ?_
  exact next h2 _ (C1.hi f2) D2
set_option maxRecDepth 100000 in
set_option maxHeartbeats 4000000 in
theorem lc_of (C : CI h a) (D : MI h a) (hi : i + 8 ≤ LL) (next : ∀ h' a', CI h' a' → MI h' a' → lq_V X bb LL xx 1263 [(0, vr 32 0), (1, vr 18 0), (2, vr 19 0), (3, vi (i : Int))] [] h') : lq_V X bb LL xx 246 [(0, vr 32 0), (1, vr 18 0), (2, vr 19 0), (3, vi (i : Int))] [] h := by
  refine lq_go okL_of [1263] 30 ?_
  refine w_ix (i + 1) (by omega) (by omega) ?_
  refine w_ix (i + 2) (by omega) (by omega) ?_
  refine w_call (r_of_c C (lq_r _) (lq_r _)) (fun r h1 hr => ?_)
  obtain ⟨rfl, C1, f1⟩ := hr
  refine w_ix (i + 1) (by omega) (by omega) ?_
  refine w_ix (i + 2) (by omega) (by omega) ?_
  refine w_call (r_of_g (D.lo f1) (lq_r _) (lq_r _)) (fun r h2 hr => ?_)
  obtain ⟨rfl, D2, f2⟩ := hr
  refine And.intro rfl ?_
  exact next h2 _ (C1.hi f2) D2
set_option maxRecDepth 100000 in
set_option maxHeartbeats 4000000 in
theorem lc_at (C : CI h a) (D : MI h a) (hi : i + 8 ≤ LL) (next : ∀ h' a', CI h' a' → MI h' a' → lq_V X bb LL xx 1263 [(0, vr 32 0), (1, vr 18 0), (2, vr 19 0), (3, vi (i : Int))] [] h') : lq_V X bb LL xx 279 [(0, vr 32 0), (1, vr 18 0), (2, vr 19 0), (3, vi (i : Int))] [] h := by
  refine lq_go okL_at [1263] 30 ?_
  refine w_ix (i + 1) (by omega) (by omega) ?_
  refine w_ix (i + 2) (by omega) (by omega) ?_
  refine w_call (r_at_c C (lq_r _) (lq_r _)) (fun r h1 hr => ?_)
  obtain ⟨rfl, C1, f1⟩ := hr
  refine w_ix (i + 1) (by omega) (by omega) ?_
  refine w_ix (i + 2) (by omega) (by omega) ?_
  refine w_call (r_at_g (D.lo f1) (lq_r _) (lq_r _)) (fun r h2 hr => ?_)
  obtain ⟨rfl, D2, f2⟩ := hr
  refine And.intro rfl ?_
  exact next h2 _ (C1.hi f2) D2
set_option maxRecDepth 100000 in
set_option maxHeartbeats 4000000 in
theorem lc_type (C : CI h a) (D : MI h a) (hi : i + 8 ≤ LL) (next : ∀ h' a', CI h' a' → MI h' a' → lq_V X bb LL xx 1263 [(0, vr 32 0), (1, vr 18 0), (2, vr 19 0), (3, vi (i : Int))] [] h') : lq_V X bb LL xx 312 [(0, vr 32 0), (1, vr 18 0), (2, vr 19 0), (3, vi (i : Int))] [] h := by
  refine lq_go okL_type [1263] 20 ?_
  refine w_ix (i + 1) (by omega) (by omega) ?_
  refine w_call (r_type_c C (lq_r _)) (fun r h1 hr => ?_)
  obtain ⟨rfl, C1, f1⟩ := hr
  refine w_ix (i + 1) (by omega) (by omega) ?_
  refine w_call (r_type_g (D.lo f1) (lq_r _)) (fun r h2 hr => ?_)
  obtain ⟨rfl, D2, f2⟩ := hr
  refine And.intro rfl ?_
  exact next h2 _ (C1.hi f2) D2
set_option maxRecDepth 100000 in
set_option maxHeartbeats 4000000 in
theorem lc_read (C : CI h a) (D : MI h a) (hi : i + 8 ≤ LL) (next : ∀ h' a', CI h' a' → MI h' a' → lq_V X bb LL xx 1263 [(0, vr 32 0), (1, vr 18 0), (2, vr 19 0), (3, vi (i : Int))] [] h') : lq_V X bb LL xx 335 [(0, vr 32 0), (1, vr 18 0), (2, vr 19 0), (3, vi (i : Int))] [] h := by
  refine lq_go okL_read [1263] 10 ?_
  refine w_call (r_read_c C ) (fun r h1 hr => ?_)
  obtain ⟨rfl, C1, f1⟩ := hr
  refine w_call (r_read_g (D.lo f1) ) (fun r h2 hr => ?_)
  obtain ⟨rfl, D2, f2⟩ := hr
  refine And.intro rfl ?_
  exact next h2 _ (C1.hi f2) D2
set_option maxRecDepth 100000 in
set_option maxHeartbeats 4000000 in
theorem lc_count (C : CI h a) (D : MI h a) (hi : i + 8 ≤ LL) (next : ∀ h' a', CI h' a' → MI h' a' → lq_V X bb LL xx 1263 [(0, vr 32 0), (1, vr 18 0), (2, vr 19 0), (3, vi (i : Int))] [] h') : lq_V X bb LL xx 348 [(0, vr 32 0), (1, vr 18 0), (2, vr 19 0), (3, vi (i : Int))] [] h := by
  refine lq_go okL_count [1263] 20 ?_
  refine w_ix (i + 1) (by omega) (by omega) ?_
  refine w_call (r_count_c C (lq_r _)) (fun r h1 hr => ?_)
  obtain ⟨rfl, C1, f1⟩ := hr
  refine w_ix (i + 1) (by omega) (by omega) ?_
  refine w_call (r_count_g (D.lo f1) (lq_r _)) (fun r h2 hr => ?_)
  obtain ⟨rfl, D2, f2⟩ := hr
  refine And.intro rfl ?_
  exact next h2 _ (C1.hi f2) D2
set_option maxRecDepth 100000 in
set_option maxHeartbeats 4000000 in
theorem lc_hours (C : CI h a) (D : MI h a) (hi : i + 8 ≤ LL) (next : ∀ h' a', CI h' a' → MI h' a' → lq_V X bb LL xx 1263 [(0, vr 32 0), (1, vr 18 0), (2, vr 19 0), (3, vi (i : Int))] [] h') : lq_V X bb LL xx 371 [(0, vr 32 0), (1, vr 18 0), (2, vr 19 0), (3, vi (i : Int))] [] h := by
  refine lq_go okL_hours [1263] 20 ?_
  refine w_ix (i + 1) (by omega) (by omega) ?_
  refine w_call (r_hours_c C (lq_r _)) (fun r h1 hr => ?_)
  obtain ⟨rfl, C1, f1⟩ := hr
  refine w_ix (i + 1) (by omega) (by omega) ?_
  refine w_call (r_hours_g (D.lo f1) (lq_r _)) (fun r h2 hr => ?_)
  obtain ⟨rfl, D2, f2⟩ := hr
  refine And.intro rfl ?_
  exact next h2 _ (C1.hi f2) D2
set_option maxRecDepth 100000 in
set_option maxHeartbeats 4000000 in
theorem lc_set (C : CI h a) (D : MI h a) (hi : i + 8 ≤ LL) (next : ∀ h' a', CI h' a' → MI h' a' → lq_V X bb LL xx 1263 [(0, vr 32 0), (1, vr 18 0), (2, vr 19 0), (3, vi (i : Int))] [] h') : lq_V X bb LL xx 394 [(0, vr 32 0), (1, vr 18 0), (2, vr 19 0), (3, vi (i : Int))] [] h := by
  refine lq_go okL_set [1263] 30 ?_
  refine w_ix (i + 1) (by omega) (by omega) ?_
  refine w_ix (i + 2) (by omega) (by omega) ?_
  refine w_call (r_set_c C (lq_r _) (lq_r _)) (fun r h1 hr => ?_)
  obtain ⟨rfl, C1, f1⟩ := hr
  refine w_ix (i + 1) (by omega) (by omega) ?_
  refine w_ix (i + 2) (by omega) (by omega) ?_
  refine w_call (r_set_g (D.lo f1) (lq_r _) (lq_r _)) (fun r h2 hr => ?_)
  obtain ⟨rfl, D2, f2⟩ := hr
  refine And.intro rfl ?_
  exact next h2 _ (C1.hi f2) D2
set_option maxRecDepth 100000 in
set_option maxHeartbeats 4000000 in
theorem lc_sharpen (C : CI h a) (D : MI h a) (hi : i + 8 ≤ LL) (next : ∀ h' a', CI h' a' → MI h' a' → lq_V X bb LL xx 1263 [(0, vr 32 0), (1, vr 18 0), (2, vr 19 0), (3, vi (i : Int))] [] h') : lq_V X bb LL xx 427 [(0, vr 32 0), (1, vr 18 0), (2, vr 19 0), (3, vi (i : Int))] [] h := by
  refine lq_go okL_sharpen [1263] 30 ?_
  refine w_ix (i + 1) (by omega) (by omega) ?_
  refine w_ix (i + 2) (by omega) (by omega) ?_
  refine w_call (r_sharpen_c C (lq_r _) (lq_r _)) (fun r h1 hr => ?_)
  obtain ⟨rfl, C1, f1⟩ := hr
  refine w_ix (i + 1) (by omega) (by omega) ?_
  refine w_ix (i + 2) (by omega) (by omega) ?_
  refine w_call (r_sharpen_g (D.lo f1) (lq_r _) (lq_r _)) (fun r h2 hr => ?_)
  obtain ⟨rfl, D2, f2⟩ := hr
  refine And.intro rfl ?_
  exact next h2 _ (C1.hi f2) D2
set_option maxRecDepth 100000 in
set_option maxHeartbeats 4000000 in
theorem lc_soak (C : CI h a) (D : MI h a) (hi : i + 8 ≤ LL) (next : ∀ h' a', CI h' a' → MI h' a' → lq_V X bb LL xx 1263 [(0, vr 32 0), (1, vr 18 0), (2, vr 19 0), (3, vi (i : Int))] [] h') : lq_V X bb LL xx 460 [(0, vr 32 0), (1, vr 18 0), (2, vr 19 0), (3, vi (i : Int))] [] h := by
  refine lq_go okL_soak [1263] 30 ?_
  refine w_ix (i + 1) (by omega) (by omega) ?_
  refine w_ix (i + 2) (by omega) (by omega) ?_
  refine w_call (r_soak_c C (lq_r _) (lq_r _)) (fun r h1 hr => ?_)
  obtain ⟨rfl, C1, f1⟩ := hr
  refine w_ix (i + 1) (by omega) (by omega) ?_
  refine w_ix (i + 2) (by omega) (by omega) ?_
  refine w_call (r_soak_g (D.lo f1) (lq_r _) (lq_r _)) (fun r h2 hr => ?_)
  obtain ⟨rfl, D2, f2⟩ := hr
  refine And.intro rfl ?_
  exact next h2 _ (C1.hi f2) D2
set_option maxRecDepth 100000 in
set_option maxHeartbeats 4000000 in
theorem lc_drift (C : CI h a) (D : MI h a) (hi : i + 8 ≤ LL) (next : ∀ h' a', CI h' a' → MI h' a' → lq_V X bb LL xx 1263 [(0, vr 32 0), (1, vr 18 0), (2, vr 19 0), (3, vi (i : Int))] [] h') : lq_V X bb LL xx 493 [(0, vr 32 0), (1, vr 18 0), (2, vr 19 0), (3, vi (i : Int))] [] h := by
  refine lq_go okL_drift [1263] 20 ?_
  refine w_ix (i + 1) (by omega) (by omega) ?_
  refine w_call (r_drift_c C (lq_r _)) (fun r h1 hr => ?_)
  obtain ⟨rfl, C1, f1⟩ := hr
  refine w_ix (i + 1) (by omega) (by omega) ?_
  refine w_call (r_drift_g (D.lo f1) (lq_r _)) (fun r h2 hr => ?_)
  obtain ⟨rfl, D2, f2⟩ := hr
  refine And.intro rfl ?_
  exact next h2 _ (C1.hi f2) D2
set_option maxRecDepth 100000 in
set_option maxHeartbeats 4000000 in
theorem lc_undo (C : CI h a) (D : MI h a) (hi : i + 8 ≤ LL) (next : ∀ h' a', CI h' a' → MI h' a' → lq_V X bb LL xx 1263 [(0, vr 32 0), (1, vr 18 0), (2, vr 19 0), (3, vi (i : Int))] [] h') : lq_V X bb LL xx 516 [(0, vr 32 0), (1, vr 18 0), (2, vr 19 0), (3, vi (i : Int))] [] h := by
  refine lq_go okL_undo [1263] 10 ?_
  refine w_call (r_undo_c C ) (fun r h1 hr => ?_)
  obtain ⟨rfl, C1, f1⟩ := hr
  refine w_call (r_undo_g (D.lo f1) ) (fun r h2 hr => ?_)
  obtain ⟨rfl, D2, f2⟩ := hr
  refine And.intro rfl ?_
  exact next h2 _ (C1.hi f2) D2
set_option maxRecDepth 100000 in
set_option maxHeartbeats 4000000 in
theorem lc_seed (C : CI h a) (D : MI h a) (hi : i + 8 ≤ LL) (next : ∀ h' a', CI h' a' → MI h' a' → lq_V X bb LL xx 1263 [(0, vr 32 0), (1, vr 18 0), (2, vr 19 0), (3, vi (i : Int))] [] h') : lq_V X bb LL xx 529 [(0, vr 32 0), (1, vr 18 0), (2, vr 19 0), (3, vi (i : Int))] [] h := by
  refine lq_go okL_seed [1263] 20 ?_
  refine w_ix (i + 1) (by omega) (by omega) ?_
  refine w_call (r_seed_c C (lq_r _)) (fun r h1 hr => ?_)
  obtain ⟨rfl, C1, f1⟩ := hr
  refine w_ix (i + 1) (by omega) (by omega) ?_
  refine w_call (r_seed_g (D.lo f1) (lq_r _)) (fun r h2 hr => ?_)
  obtain ⟨rfl, D2, f2⟩ := hr
  refine And.intro rfl ?_
  exact next h2 _ (C1.hi f2) D2
set_option maxRecDepth 100000 in
set_option maxHeartbeats 4000000 in
theorem lc_left (C : CI h a) (D : MI h a) (hi : i + 8 ≤ LL) (next : ∀ h' a', CI h' a' → MI h' a' → lq_V X bb LL xx 1263 [(0, vr 32 0), (1, vr 18 0), (2, vr 19 0), (3, vi (i : Int))] [] h') : lq_V X bb LL xx 552 [(0, vr 32 0), (1, vr 18 0), (2, vr 19 0), (3, vi (i : Int))] [] h := by
  refine lq_go okL_left [1263] 30 ?_
  refine w_ix (i + 1) (by omega) (by omega) ?_
  refine w_ix (i + 2) (by omega) (by omega) ?_
  refine w_call (r_left_c C (lq_r _) (lq_r _)) (fun r h1 hr => ?_)
  obtain ⟨rfl, C1, f1⟩ := hr
  refine w_ix (i + 1) (by omega) (by omega) ?_
  refine w_ix (i + 2) (by omega) (by omega) ?_
  refine w_call (r_left_g (D.lo f1) (lq_r _) (lq_r _)) (fun r h2 hr => ?_)
  obtain ⟨rfl, D2, f2⟩ := hr
  refine And.intro rfl ?_
  exact next h2 _ (C1.hi f2) D2
set_option maxRecDepth 100000 in
set_option maxHeartbeats 4000000 in
theorem lc_ahead (C : CI h a) (D : MI h a) (hi : i + 8 ≤ LL) (next : ∀ h' a', CI h' a' → MI h' a' → lq_V X bb LL xx 1263 [(0, vr 32 0), (1, vr 18 0), (2, vr 19 0), (3, vi (i : Int))] [] h') : lq_V X bb LL xx 585 [(0, vr 32 0), (1, vr 18 0), (2, vr 19 0), (3, vi (i : Int))] [] h := by
  refine lq_go okL_ahead [1263] 40 ?_
  refine w_ix (i + 1) (by omega) (by omega) ?_
  refine w_ix (i + 2) (by omega) (by omega) ?_
  refine w_ix (i + 3) (by omega) (by omega) ?_
  refine w_call (r_ahead_c C (lq_r _) (lq_r _) (lq_r _)) (fun r h1 hr => ?_)
  obtain ⟨rfl, C1, f1⟩ := hr
  refine w_ix (i + 1) (by omega) (by omega) ?_
  refine w_ix (i + 2) (by omega) (by omega) ?_
  refine w_ix (i + 3) (by omega) (by omega) ?_
  refine w_call (r_ahead_g (D.lo f1) (lq_r _) (lq_r _) (lq_r _)) (fun r h2 hr => ?_)
  obtain ⟨rfl, D2, f2⟩ := hr
  refine And.intro rfl ?_
  exact next h2 _ (C1.hi f2) D2
set_option maxRecDepth 100000 in
set_option maxHeartbeats 4000000 in
theorem lc_then (C : CI h a) (D : MI h a) (hi : i + 8 ≤ LL) (next : ∀ h' a', CI h' a' → MI h' a' → lq_V X bb LL xx 1263 [(0, vr 32 0), (1, vr 18 0), (2, vr 19 0), (3, vi (i : Int))] [] h') : lq_V X bb LL xx 628 [(0, vr 32 0), (1, vr 18 0), (2, vr 19 0), (3, vi (i : Int))] [] h := by
  refine lq_go okL_then [1263] 20 ?_
  refine w_ix (i + 1) (by omega) (by omega) ?_
  refine w_call (r_then_c C (lq_r _)) (fun r h1 hr => ?_)
  obtain ⟨rfl, C1, f1⟩ := hr
  refine w_ix (i + 1) (by omega) (by omega) ?_
  refine w_call (r_then_g (D.lo f1) (lq_r _)) (fun r h2 hr => ?_)
  obtain ⟨rfl, D2, f2⟩ := hr
  refine And.intro rfl ?_
  exact next h2 _ (C1.hi f2) D2
set_option maxRecDepth 100000 in
set_option maxHeartbeats 4000000 in
theorem lc_falls (C : CI h a) (D : MI h a) (hi : i + 8 ≤ LL) (next : ∀ h' a', CI h' a' → MI h' a' → lq_V X bb LL xx 1263 [(0, vr 32 0), (1, vr 18 0), (2, vr 19 0), (3, vi (i : Int))] [] h') : lq_V X bb LL xx 651 [(0, vr 32 0), (1, vr 18 0), (2, vr 19 0), (3, vi (i : Int))] [] h := by
  refine lq_go okL_falls [1263] 20 ?_
  refine w_ix (i + 1) (by omega) (by omega) ?_
  refine w_call (r_falls_c C (lq_r _)) (fun r h1 hr => ?_)
  obtain ⟨rfl, C1, f1⟩ := hr
  refine w_ix (i + 1) (by omega) (by omega) ?_
  refine w_call (r_falls_g (D.lo f1) (lq_r _)) (fun r h2 hr => ?_)
  obtain ⟨rfl, D2, f2⟩ := hr
  refine And.intro rfl ?_
  exact next h2 _ (C1.hi f2) D2
set_option maxRecDepth 100000 in
set_option maxHeartbeats 4000000 in
theorem lc_noon (C : CI h a) (D : MI h a) (hi : i + 8 ≤ LL) (next : ∀ h' a', CI h' a' → MI h' a' → lq_V X bb LL xx 1263 [(0, vr 32 0), (1, vr 18 0), (2, vr 19 0), (3, vi (i : Int))] [] h') : lq_V X bb LL xx 674 [(0, vr 32 0), (1, vr 18 0), (2, vr 19 0), (3, vi (i : Int))] [] h := by
  refine lq_go okL_noon [1263] 10 ?_
  refine w_call (r_noon_c C ) (fun r h1 hr => ?_)
  obtain ⟨rfl, C1, f1⟩ := hr
  refine w_call (r_noon_g (D.lo f1) ) (fun r h2 hr => ?_)
  obtain ⟨rfl, D2, f2⟩ := hr
  refine And.intro rfl ?_
  exact next h2 _ (C1.hi f2) D2
set_option maxRecDepth 100000 in
set_option maxHeartbeats 4000000 in
theorem lc_best (C : CI h a) (D : MI h a) (hi : i + 8 ≤ LL) (next : ∀ h' a', CI h' a' → MI h' a' → lq_V X bb LL xx 1263 [(0, vr 32 0), (1, vr 18 0), (2, vr 19 0), (3, vi (i : Int))] [] h') : lq_V X bb LL xx 687 [(0, vr 32 0), (1, vr 18 0), (2, vr 19 0), (3, vi (i : Int))] [] h := by
  refine lq_go okL_best [1263] 20 ?_
  refine w_ix (i + 1) (by omega) (by omega) ?_
  refine w_call (r_best_c C (lq_r _)) (fun r h1 hr => ?_)
  obtain ⟨rfl, C1, f1⟩ := hr
  refine w_ix (i + 1) (by omega) (by omega) ?_
  refine w_call (r_best_g (D.lo f1) (lq_r _)) (fun r h2 hr => ?_)
  obtain ⟨rfl, D2, f2⟩ := hr
  refine And.intro rfl ?_
  exact next h2 _ (C1.hi f2) D2
set_option maxRecDepth 100000 in
set_option maxHeartbeats 4000000 in
theorem lc_most (C : CI h a) (D : MI h a) (hi : i + 8 ≤ LL) (next : ∀ h' a', CI h' a' → MI h' a' → lq_V X bb LL xx 1263 [(0, vr 32 0), (1, vr 18 0), (2, vr 19 0), (3, vi (i : Int))] [] h') : lq_V X bb LL xx 710 [(0, vr 32 0), (1, vr 18 0), (2, vr 19 0), (3, vi (i : Int))] [] h := by
  refine lq_go okL_most [1263] 30 ?_
  refine w_ix (i + 1) (by omega) (by omega) ?_
  refine w_ix (i + 2) (by omega) (by omega) ?_
  refine w_call (r_most_c C (lq_r _) (lq_r _)) (fun r h1 hr => ?_)
  obtain ⟨rfl, C1, f1⟩ := hr
  refine w_ix (i + 1) (by omega) (by omega) ?_
  refine w_ix (i + 2) (by omega) (by omega) ?_
  refine w_call (r_most_g (D.lo f1) (lq_r _) (lq_r _)) (fun r h2 hr => ?_)
  obtain ⟨rfl, D2, f2⟩ := hr
  refine And.intro rfl ?_
  exact next h2 _ (C1.hi f2) D2
set_option maxRecDepth 100000 in
set_option maxHeartbeats 4000000 in
theorem lc_sharp (C : CI h a) (D : MI h a) (hi : i + 8 ≤ LL) (next : ∀ h' a', CI h' a' → MI h' a' → lq_V X bb LL xx 1263 [(0, vr 32 0), (1, vr 18 0), (2, vr 19 0), (3, vi (i : Int))] [] h') : lq_V X bb LL xx 743 [(0, vr 32 0), (1, vr 18 0), (2, vr 19 0), (3, vi (i : Int))] [] h := by
  refine lq_go okL_sharp [1263] 30 ?_
  refine w_ix (i + 1) (by omega) (by omega) ?_
  refine w_ix (i + 2) (by omega) (by omega) ?_
  refine w_call (r_sharp_c C (lq_r _) (lq_r _)) (fun r h1 hr => ?_)
  obtain ⟨rfl, C1, f1⟩ := hr
  refine w_ix (i + 1) (by omega) (by omega) ?_
  refine w_ix (i + 2) (by omega) (by omega) ?_
  refine w_call (r_sharp_g (D.lo f1) (lq_r _) (lq_r _)) (fun r h2 hr => ?_)
  obtain ⟨rfl, D2, f2⟩ := hr
  refine And.intro rfl ?_
  exact next h2 _ (C1.hi f2) D2
set_option maxRecDepth 100000 in
set_option maxHeartbeats 4000000 in
theorem lc_without (C : CI h a) (D : MI h a) (hi : i + 8 ≤ LL) (next : ∀ h' a', CI h' a' → MI h' a' → lq_V X bb LL xx 1263 [(0, vr 32 0), (1, vr 18 0), (2, vr 19 0), (3, vi (i : Int))] [] h') : lq_V X bb LL xx 776 [(0, vr 32 0), (1, vr 18 0), (2, vr 19 0), (3, vi (i : Int))] [] h := by
  refine lq_go okL_without [1263] 20 ?_
  refine w_ix (i + 1) (by omega) (by omega) ?_
  refine w_call (r_without_c C (lq_r _)) (fun r h1 hr => ?_)
  obtain ⟨rfl, C1, f1⟩ := hr
  refine w_ix (i + 1) (by omega) (by omega) ?_
  refine w_call (r_without_g (D.lo f1) (lq_r _)) (fun r h2 hr => ?_)
  obtain ⟨rfl, D2, f2⟩ := hr
  refine And.intro rfl ?_
  exact next h2 _ (C1.hi f2) D2
set_option maxRecDepth 100000 in
set_option maxHeartbeats 4000000 in
theorem lc_thickest (C : CI h a) (D : MI h a) (hi : i + 8 ≤ LL) (next : ∀ h' a', CI h' a' → MI h' a' → lq_V X bb LL xx 1263 [(0, vr 32 0), (1, vr 18 0), (2, vr 19 0), (3, vi (i : Int))] [] h') : lq_V X bb LL xx 799 [(0, vr 32 0), (1, vr 18 0), (2, vr 19 0), (3, vi (i : Int))] [] h := by
  refine lq_go okL_thickest [1263] 30 ?_
  refine w_ix (i + 1) (by omega) (by omega) ?_
  refine w_ix (i + 2) (by omega) (by omega) ?_
  refine w_call (r_thickest_c C (lq_r _) (lq_r _)) (fun r h1 hr => ?_)
  obtain ⟨rfl, C1, f1⟩ := hr
  refine w_ix (i + 1) (by omega) (by omega) ?_
  refine w_ix (i + 2) (by omega) (by omega) ?_
  refine w_call (r_thickest_g (D.lo f1) (lq_r _) (lq_r _)) (fun r h2 hr => ?_)
  obtain ⟨rfl, D2, f2⟩ := hr
  refine And.intro rfl ?_
  exact next h2 _ (C1.hi f2) D2
set_option maxRecDepth 100000 in
set_option maxHeartbeats 4000000 in
theorem lc_hops (C : CI h a) (D : MI h a) (hi : i + 8 ≤ LL) (next : ∀ h' a', CI h' a' → MI h' a' → lq_V X bb LL xx 1263 [(0, vr 32 0), (1, vr 18 0), (2, vr 19 0), (3, vi (i : Int))] [] h') : lq_V X bb LL xx 832 [(0, vr 32 0), (1, vr 18 0), (2, vr 19 0), (3, vi (i : Int))] [] h := by
  refine lq_go okL_hops [1263] 40 ?_
  refine w_ix (i + 1) (by omega) (by omega) ?_
  refine w_ix (i + 2) (by omega) (by omega) ?_
  refine w_ix (i + 3) (by omega) (by omega) ?_
  refine w_call (r_hops_c C (lq_r _) (lq_r _) (lq_r _)) (fun r h1 hr => ?_)
  obtain ⟨rfl, C1, f1⟩ := hr
  refine w_ix (i + 1) (by omega) (by omega) ?_
  refine w_ix (i + 2) (by omega) (by omega) ?_
  refine w_ix (i + 3) (by omega) (by omega) ?_
  refine w_call (r_hops_g (D.lo f1) (lq_r _) (lq_r _) (lq_r _)) (fun r h2 hr => ?_)
  obtain ⟨rfl, D2, f2⟩ := hr
  refine And.intro rfl ?_
  exact next h2 _ (C1.hi f2) D2
set_option maxRecDepth 100000 in
set_option maxHeartbeats 4000000 in
theorem lc_image (C : CI h a) (D : MI h a) (hi : i + 8 ≤ LL) (next : ∀ h' a', CI h' a' → MI h' a' → lq_V X bb LL xx 1263 [(0, vr 32 0), (1, vr 18 0), (2, vr 19 0), (3, vi (i : Int))] [] h') : lq_V X bb LL xx 875 [(0, vr 32 0), (1, vr 18 0), (2, vr 19 0), (3, vi (i : Int))] [] h := by
  refine lq_go okL_image [1263] 10 ?_
  refine w_call (r_image_c C ) (fun r h1 hr => ?_)
  obtain ⟨rfl, C1, f1⟩ := hr
  refine w_call (r_image_g (D.lo f1) ) (fun r h2 hr => ?_)
  obtain ⟨rfl, D2, f2⟩ := hr
  refine And.intro rfl ?_
  exact next h2 _ (C1.hi f2) D2
set_option maxRecDepth 100000 in
set_option maxHeartbeats 4000000 in
theorem lc_restore (C : CI h a) (D : MI h a) (hi : i + 8 ≤ LL) (next : ∀ h' a', CI h' a' → MI h' a' → lq_V X bb LL xx 1263 [(0, vr 32 0), (1, vr 18 0), (2, vr 19 0), (3, vi (i : Int))] [] h') : lq_V X bb LL xx 888 [(0, vr 32 0), (1, vr 18 0), (2, vr 19 0), (3, vi (i : Int))] [] h := by
  refine lq_go okL_restore [1263] 10 ?_
  refine w_call (r_restore_c C ) (fun r h1 hr => ?_)
  obtain ⟨rfl, C1, f1⟩ := hr
  refine w_call (r_restore_g (D.lo f1) ) (fun r h2 hr => ?_)
  obtain ⟨rfl, D2, f2⟩ := hr
  refine And.intro rfl ?_
  exact next h2 _ (C1.hi f2) D2
set_option maxRecDepth 100000 in
set_option maxHeartbeats 4000000 in
theorem lc_dust (C : CI h a) (D : MI h a) (hi : i + 8 ≤ LL) (next : ∀ h' a', CI h' a' → MI h' a' → lq_V X bb LL xx 1263 [(0, vr 32 0), (1, vr 18 0), (2, vr 19 0), (3, vi (i : Int))] [] h') : lq_V X bb LL xx 901 [(0, vr 32 0), (1, vr 18 0), (2, vr 19 0), (3, vi (i : Int))] [] h := by
  refine lq_go okL_dust [1263] 80 ?_
  refine w_ix (i + 1) (by omega) (by omega) ?_
  refine w_ix (i + 2) (by omega) (by omega) ?_
  refine w_ix (i + 3) (by omega) (by omega) ?_
  refine w_ix (i + 4) (by omega) (by omega) ?_
  refine w_ix (i + 5) (by omega) (by omega) ?_
  refine w_ix (i + 6) (by omega) (by omega) ?_
  refine w_ix (i + 7) (by omega) (by omega) ?_
  refine w_call (r_dust_c C (lq_r _) (lq_r _) (lq_r _) (lq_r _) (lq_r _) (lq_r _) (lq_r _)) (fun r h1 hr => ?_)
  obtain ⟨rfl, C1, f1⟩ := hr
  refine w_ix (i + 1) (by omega) (by omega) ?_
  refine w_ix (i + 2) (by omega) (by omega) ?_
  refine w_ix (i + 3) (by omega) (by omega) ?_
  refine w_ix (i + 4) (by omega) (by omega) ?_
  refine w_ix (i + 5) (by omega) (by omega) ?_
  refine w_ix (i + 6) (by omega) (by omega) ?_
  refine w_ix (i + 7) (by omega) (by omega) ?_
  refine w_call (r_dust_g (D.lo f1) (lq_r _) (lq_r _) (lq_r _) (lq_r _) (lq_r _) (lq_r _) (lq_r _)) (fun r h2 hr => ?_)
  obtain ⟨rfl, D2, f2⟩ := hr
  refine And.intro rfl ?_
  exact next h2 _ (C1.hi f2) D2
set_option maxRecDepth 100000 in
set_option maxHeartbeats 4000000 in
theorem lc_film (C : CI h a) (D : MI h a) (hi : i + 8 ≤ LL) (next : ∀ h' a', CI h' a' → MI h' a' → lq_V X bb LL xx 1263 [(0, vr 32 0), (1, vr 18 0), (2, vr 19 0), (3, vi (i : Int))] [] h') : lq_V X bb LL xx 988 [(0, vr 32 0), (1, vr 18 0), (2, vr 19 0), (3, vi (i : Int))] [] h := by
  refine lq_go okL_film [1263] 60 ?_
  refine w_ix (i + 1) (by omega) (by omega) ?_
  refine w_ix (i + 2) (by omega) (by omega) ?_
  refine w_ix (i + 3) (by omega) (by omega) ?_
  refine w_ix (i + 4) (by omega) (by omega) ?_
  refine w_ix (i + 5) (by omega) (by omega) ?_
  refine w_call (r_film_c C (lq_r _) (lq_r _) (lq_r _) (lq_r _) (lq_r _)) (fun r h1 hr => ?_)
  obtain ⟨rfl, C1, f1⟩ := hr
  refine w_ix (i + 1) (by omega) (by omega) ?_
  refine w_ix (i + 2) (by omega) (by omega) ?_
  refine w_ix (i + 3) (by omega) (by omega) ?_
  refine w_ix (i + 4) (by omega) (by omega) ?_
  refine w_ix (i + 5) (by omega) (by omega) ?_
  refine w_call (r_film_g (D.lo f1) (lq_r _) (lq_r _) (lq_r _) (lq_r _) (lq_r _)) (fun r h2 hr => ?_)
  obtain ⟨rfl, D2, f2⟩ := hr
  refine And.intro rfl ?_
  exact next h2 _ (C1.hi f2) D2
set_option maxRecDepth 100000 in
set_option maxHeartbeats 4000000 in
theorem lc_sheet (C : CI h a) (D : MI h a) (hi : i + 8 ≤ LL) (next : ∀ h' a', CI h' a' → MI h' a' → lq_V X bb LL xx 1263 [(0, vr 32 0), (1, vr 18 0), (2, vr 19 0), (3, vi (i : Int))] [] h') : lq_V X bb LL xx 1051 [(0, vr 32 0), (1, vr 18 0), (2, vr 19 0), (3, vi (i : Int))] [] h := by
  refine lq_go okL_sheet [1263] 40 ?_
  refine w_ix (i + 1) (by omega) (by omega) ?_
  refine w_ix (i + 2) (by omega) (by omega) ?_
  refine w_ix (i + 3) (by omega) (by omega) ?_
  refine w_call (r_sheet_c C (lq_r _) (lq_r _) (lq_r _)) (fun r h1 hr => ?_)
  obtain ⟨rfl, C1, f1⟩ := hr
  refine w_ix (i + 1) (by omega) (by omega) ?_
  refine w_ix (i + 2) (by omega) (by omega) ?_
  refine w_ix (i + 3) (by omega) (by omega) ?_
  refine w_call (r_sheet_g (D.lo f1) (lq_r _) (lq_r _) (lq_r _)) (fun r h2 hr => ?_)
  obtain ⟨rfl, D2, f2⟩ := hr
  refine And.intro rfl ?_
  exact next h2 _ (C1.hi f2) D2
set_option maxRecDepth 100000 in
set_option maxHeartbeats 4000000 in
theorem lc_drop (C : CI h a) (D : MI h a) (hi : i + 8 ≤ LL) (next : ∀ h' a', CI h' a' → MI h' a' → lq_V X bb LL xx 1263 [(0, vr 32 0), (1, vr 18 0), (2, vr 19 0), (3, vi (i : Int))] [] h') : lq_V X bb LL xx 1094 [(0, vr 32 0), (1, vr 18 0), (2, vr 19 0), (3, vi (i : Int))] [] h := by
  refine lq_go okL_drop [1263] 20 ?_
  refine w_ix (i + 1) (by omega) (by omega) ?_
  refine w_call (r_drop_c C (lq_r _)) (fun r h1 hr => ?_)
  obtain ⟨rfl, C1, f1⟩ := hr
  refine w_ix (i + 1) (by omega) (by omega) ?_
  refine w_call (r_drop_g (D.lo f1) (lq_r _)) (fun r h2 hr => ?_)
  obtain ⟨rfl, D2, f2⟩ := hr
  refine And.intro rfl ?_
  exact next h2 _ (C1.hi f2) D2
set_option maxRecDepth 100000 in
set_option maxHeartbeats 4000000 in
theorem lc_item (C : CI h a) (D : MI h a) (hi : i + 8 ≤ LL) (next : ∀ h' a', CI h' a' → MI h' a' → lq_V X bb LL xx 1263 [(0, vr 32 0), (1, vr 18 0), (2, vr 19 0), (3, vi (i : Int))] [] h') : lq_V X bb LL xx 1117 [(0, vr 32 0), (1, vr 18 0), (2, vr 19 0), (3, vi (i : Int))] [] h := by
  refine lq_go okL_item [1263] 74 ?_
  refine w_ix (i + 1) (by omega) (by omega) ?_
  refine w_ix (i + 2) (by omega) (by omega) ?_
  refine w_ix (i + 3) (by omega) (by omega) ?_
  refine w_ix (i + 4) (by omega) (by omega) ?_
  refine w_i2l ?_
  refine w_ix (i + 5) (by omega) (by omega) ?_
  refine w_i2l ?_
  refine w_call (r_item_c C (lq_r _) (lq_r _) (lq_r _) (lq_rl _)) (fun r h1 hr => ?_)
  obtain ⟨rfl, C1, f1⟩ := hr
  refine w_ix (i + 1) (by omega) (by omega) ?_
  refine w_ix (i + 2) (by omega) (by omega) ?_
  refine w_ix (i + 3) (by omega) (by omega) ?_
  refine w_ix (i + 4) (by omega) (by omega) ?_
  refine w_i2l ?_
  refine w_ix (i + 5) (by omega) (by omega) ?_
  refine w_i2l ?_
  refine w_call (r_item_g (D.lo f1) (lq_r _) (lq_r _) (lq_r _) (lq_rl _)) (fun r h2 hr => ?_)
  obtain ⟨rfl, D2, f2⟩ := hr
  refine And.intro rfl ?_
  exact next h2 _ (C1.hi f2) D2
set_option maxRecDepth 100000 in
set_option maxHeartbeats 4000000 in
theorem lc_copy (C : CI h a) (D : MI h a) (hi : i + 8 ≤ LL) (next : ∀ h' a', CI h' a' → MI h' a' → lq_V X bb LL xx 1263 [(0, vr 32 0), (1, vr 18 0), (2, vr 19 0), (3, vi (i : Int))] [] h') : lq_V X bb LL xx 1200 [(0, vr 32 0), (1, vr 18 0), (2, vr 19 0), (3, vi (i : Int))] [] h := by
  refine lq_go okL_copy [1263] 60 ?_
  refine w_ix (i + 1) (by omega) (by omega) ?_
  refine w_ix (i + 2) (by omega) (by omega) ?_
  refine w_ix (i + 3) (by omega) (by omega) ?_
  refine w_ix (i + 4) (by omega) (by omega) ?_
  refine w_ix (i + 5) (by omega) (by omega) ?_
  refine w_call (r_copy_c C (lq_r _) (lq_r _) (lq_r _) (lq_r _) (lq_r _)) (fun r h1 hr => ?_)
  obtain ⟨rfl, C1, f1⟩ := hr
  refine w_ix (i + 1) (by omega) (by omega) ?_
  refine w_ix (i + 2) (by omega) (by omega) ?_
  refine w_ix (i + 3) (by omega) (by omega) ?_
  refine w_ix (i + 4) (by omega) (by omega) ?_
  refine w_ix (i + 5) (by omega) (by omega) ?_
  refine w_call (r_copy_g (D.lo f1) (lq_r _) (lq_r _) (lq_r _) (lq_r _) (lq_r _)) (fun r h2 hr => ?_)
  obtain ⟨rfl, D2, f2⟩ := hr
  refine And.intro rfl ?_
  exact next h2 _ (C1.hi f2) D2
end nvLaw
section nvLaw2
variable {X : nv_X} {bb LL : Nat} {xx : Nat → Int32}
set_option maxRecDepth 100000 in
set_option maxHeartbeats 4000000 in
theorem lc_loop (hL : LL ≤ 512) : ∀ (d i : Nat) (h : nv_St) (a : a_S), LL < i + d → i ≤ 520 → CI h a → MI h a → lq_V X bb LL xx 18 [(0, vr 32 0), (1, vr 18 0), (2, vr 19 0), (3, vi (i : Int))] [] h := by
  intro d
  induction d with
  | zero =>
    intro i h a hd hi C D
    refine lq_go okL_head [] 20 ?_
    refine w_ic (by omega) (by omega) (fun c => ?_) (fun c => ?_)
    · exact rfl
    · exact absurd (by show (LL : Int) - 8 < (i : Int); omega) c
  | succ d ih =>
    intro i h a hd hi C D
    have next : ∀ h' a', i + 8 ≤ LL → CI h' a' → MI h' a' → lq_V X bb LL xx 1263 [(0, vr 32 0), (1, vr 18 0), (2, vr 19 0), (3, vi (i : Int))] [] h' := by
      intro h' a' h8 C' D'
      refine lq_go okL_tail [18] 5 ?_
      exact ih (i + 8) h' a' (by omega) (by omega) C' D'
    refine lq_go okL_head [180, 213, 246, 279, 312, 335, 348, 371, 394, 427, 460, 493, 516, 529, 552, 585, 628, 651, 674, 687, 710, 743, 776, 799, 832, 875, 888, 901, 988, 1051, 1094, 1117, 1200, 1263] 20 ?_
    refine w_ic (by omega) (by omega) (fun c => ?_) (fun c => ?_)
    · exact rfl
    · have c : ¬ (LL : Int) - 8 < (i : Int) := c
      have h8 : i + 8 ≤ LL := by omega
      refine w_ix i rfl (by omega) ?_
      refine w_sw (lq_and _ _) (next h a h8 C D) ?_
      refine w_sc (fun _ => lc_plank C D h8 (fun h' a' => next h' a' h8)) ?_
      refine w_sc (fun _ => lc_sawyer C D h8 (fun h' a' => next h' a' h8)) ?_
      refine w_sc (fun _ => lc_of C D h8 (fun h' a' => next h' a' h8)) ?_
      refine w_sc (fun _ => lc_at C D h8 (fun h' a' => next h' a' h8)) ?_
      refine w_sc (fun _ => lc_type C D h8 (fun h' a' => next h' a' h8)) ?_
      refine w_sc (fun _ => lc_read C D h8 (fun h' a' => next h' a' h8)) ?_
      refine w_sc (fun _ => lc_count C D h8 (fun h' a' => next h' a' h8)) ?_
      refine w_sc (fun _ => lc_hours C D h8 (fun h' a' => next h' a' h8)) ?_
      refine w_sc (fun _ => lc_set C D h8 (fun h' a' => next h' a' h8)) ?_
      refine w_sc (fun _ => lc_sharpen C D h8 (fun h' a' => next h' a' h8)) ?_
      refine w_sc (fun _ => lc_soak C D h8 (fun h' a' => next h' a' h8)) ?_
      refine w_sc (fun _ => lc_drift C D h8 (fun h' a' => next h' a' h8)) ?_
      refine w_sc (fun _ => lc_undo C D h8 (fun h' a' => next h' a' h8)) ?_
      refine w_sc (fun _ => lc_seed C D h8 (fun h' a' => next h' a' h8)) ?_
      refine w_sc (fun _ => lc_left C D h8 (fun h' a' => next h' a' h8)) ?_
      refine w_sc (fun _ => lc_ahead C D h8 (fun h' a' => next h' a' h8)) ?_
      refine w_sc (fun _ => lc_then C D h8 (fun h' a' => next h' a' h8)) ?_
      refine w_sc (fun _ => lc_falls C D h8 (fun h' a' => next h' a' h8)) ?_
      refine w_sc (fun _ => lc_noon C D h8 (fun h' a' => next h' a' h8)) ?_
      refine w_sc (fun _ => lc_best C D h8 (fun h' a' => next h' a' h8)) ?_
      refine w_sc (fun _ => lc_most C D h8 (fun h' a' => next h' a' h8)) ?_
      refine w_sc (fun _ => lc_sharp C D h8 (fun h' a' => next h' a' h8)) ?_
      refine w_sc (fun _ => lc_without C D h8 (fun h' a' => next h' a' h8)) ?_
      refine w_sc (fun _ => lc_thickest C D h8 (fun h' a' => next h' a' h8)) ?_
      refine w_sc (fun _ => lc_hops C D h8 (fun h' a' => next h' a' h8)) ?_
      refine w_sc (fun _ => lc_image C D h8 (fun h' a' => next h' a' h8)) ?_
      refine w_sc (fun _ => lc_restore C D h8 (fun h' a' => next h' a' h8)) ?_
      refine w_sc (fun _ => lc_dust C D h8 (fun h' a' => next h' a' h8)) ?_
      refine w_sc (fun _ => lc_film C D h8 (fun h' a' => next h' a' h8)) ?_
      refine w_sc (fun _ => lc_sheet C D h8 (fun h' a' => next h' a' h8)) ?_
      refine w_sc (fun _ => lc_drop C D h8 (fun h' a' => next h' a' h8)) ?_
      refine w_sc (fun _ => lc_item C D h8 (fun h' a' => next h' a' h8)) ?_
      refine w_sc (fun _ => lc_copy C D h8 (fun h' a' => next h' a' h8)) ?_
      exact trivial
end nvLaw2
