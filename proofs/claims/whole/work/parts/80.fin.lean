/-! ===== printed by wip/whole/gen_fin.py: the cells that the constructors made, as the layer has them ===== -/
def k_h0 : nv_St := fun t _ j => match t with
  | 0 => if j = 3 then 1 else 0
  | 16 => if j = 1 then -1 else 0
  | 20 => -1
  | 24 => if j = 1 then 1 else 0
  | _ => 0
def k_ad (nn : List (Nat × (Nat → Nat))) (s0 s1 x0 x1 y0 y1 p0 p1 q0 q1 tp tq sh : Nat) (hl : List (Nat × Nat)) (a mm r1 r2 r3 r4 r5 r6 r7 r8 r9 r10 st sv bb : Nat) : Nat → Nat → Nat := fun t i => match t with
  | 0 => (nn.getD i (0, fun _ => 0)).1
  | 1 => (nn.getD i (0, fun _ => 0)).2 1
  | 2 => (nn.getD i (0, fun _ => 0)).2 2
  | 3 => (nn.getD i (0, fun _ => 0)).2 3
  | 4 => (nn.getD i (0, fun _ => 0)).2 4
  | 5 => (nn.getD i (0, fun _ => 0)).2 5
  | 6 => (nn.getD i (0, fun _ => 0)).2 6
  | 7 => (nn.getD i (0, fun _ => 0)).2 7
  | 8 => if i = 0 then s0 else s1
  | 9 => if i = 0 then x0 else x1
  | 10 => if i = 0 then y0 else y1
  | 11 => if i = 0 then p0 else p1
  | 12 => if i = 0 then q0 else q1
  | 13 => tp
  | 14 => tq
  | 15 => sh
  | 16 => (hl.getD i (0, 0)).1
  | 17 => (hl.getD i (0, 0)).2
  | 18 => a
  | 19 => mm
  | 20 => r1
  | 21 => r2
  | 22 => r3
  | 23 => r4
  | 24 => r5
  | 25 => r6
  | 26 => r7
  | 27 => r8
  | 28 => r9
  | 29 => r10
  | 30 => st
  | 31 => sv
  | 32 => bb
  | _ => 0
set_option maxRecDepth 100000 in
theorem nv_cells_lit : nv_cells = [(0, 0), (0, 1), (0, 2), (0, 3), (0, 4), (0, 5), (0, 6), (0, 7), (0, 8), (0, 9), (0, 10), (0, 11), (0, 12), (0, 13), (0, 14), (0, 15), (0, 16), (0, 17), (0, 18), (0, 19), (0, 20), (1, 0), (1, 1), (1, 2), (1, 3), (1, 4), (1, 5), (1, 6), (1, 7), (1, 8), (1, 9), (1, 10), (1, 11), (1, 12), (1, 13), (1, 14), (1, 15), (1, 16), (1, 17), (1, 18), (1, 19), (1, 20), (2, 0), (2, 1), (2, 2), (2, 3), (2, 4), (2, 5), (2, 6), (2, 7), (2, 8), (2, 9), (2, 10), (2, 11), (2, 12), (2, 13), (2, 14), (2, 15), (2, 16), (2, 17), (2, 18), (2, 19), (2, 20), (3, 0), (3, 1), (3, 2), (3, 3), (3, 4), (3, 5), (3, 6), (3, 7), (3, 8), (3, 9), (3, 10), (3, 11), (3, 12), (3, 13), (3, 14), (3, 15), (3, 16), (3, 17), (3, 18), (3, 19), (3, 20), (4, 0), (4, 1), (4, 2), (4, 3), (4, 4), (4, 5), (4, 6), (4, 7), (4, 8), (4, 9), (4, 10), (4, 11), (4, 12), (4, 13), (4, 14), (4, 15), (4, 16), (4, 17), (4, 18), (4, 19), (4, 20), (5, 0), (5, 1), (5, 2), (5, 3), (5, 4), (5, 5), (5, 6), (5, 7), (5, 8), (5, 9), (5, 10), (5, 11), (5, 12), (5, 13), (5, 14), (5, 15), (5, 16), (5, 17), (5, 18), (5, 19), (5, 20), (6, 0), (6, 1), (6, 2), (6, 3), (6, 4), (6, 5), (6, 6), (6, 7), (6, 8), (6, 9), (6, 10), (6, 11), (6, 12), (6, 13), (6, 14), (6, 15), (6, 16), (6, 17), (6, 18), (6, 19), (6, 20), (7, 0), (7, 1), (7, 2), (7, 3), (7, 4), (7, 5), (7, 6), (7, 7), (7, 8), (7, 9), (7, 10), (7, 11), (7, 12), (7, 13), (7, 14), (7, 15), (7, 16), (7, 17), (7, 18), (7, 19), (7, 20), (8, 0), (8, 1), (9, 0), (9, 1), (10, 0), (10, 1), (11, 0), (11, 1), (12, 0), (12, 1), (13, 0), (14, 0), (15, 0), (16, 0), (16, 1), (16, 2), (16, 3), (17, 0), (17, 1), (17, 2), (17, 3), (18, 0), (19, 0), (20, 0), (21, 0), (22, 0), (23, 0), (24, 0), (25, 0), (26, 0), (27, 0), (28, 0), (29, 0)] := by decide +kernel
theorem k_Dfin {A : Nat → Prop} {ws : va_W} {AL : List Nat} {D : va_G} {ad : Nat → Nat → Nat} {cA : Nat → ClassId} {L2 : List (Nat × Nat × Nat)} (hD : va_D A ws) (hal : ws.map (fun q => q.1) = AL) (hc : nv_cells = L2.map (fun x => (x.1, x.2.1))) (hn : va_nd (L2.map (fun x => x.2.2)) = true) (hs : ∀ x ∈ L2, AL[x.2.2]? = some (ad x.1 x.2.1)) (h : nv_St) : va_D (nv_A (D, ad, cA)) (nv_ws (D, ad, cA) h) ∧ ∀ q, nv_A (D, ad, cA) q → A q := by
  have key : ∀ (k : Nat) (c : Nat × Nat), nv_cells[k]? = some c → ∃ (i : Nat) (e : va_E), (L2.map (fun x => x.2.2))[k]? = some i ∧ ws[i]? = some (ad c.1 c.2, e) := by
    intro k c hk
    rw [hc, List.getElem?_map] at hk
    cases hx : L2[k]? with
    | none => rw [hx] at hk; cases hk
    | some x =>
      rw [hx] at hk
      have e : (x.1, x.2.1) = c := Option.some.inj hk
      subst e
      have h1 := hs x (List.mem_of_getElem? hx)
      rw [← hal, List.getElem?_map] at h1
      cases hw : ws[x.2.2]? with
      | none => rw [hw] at h1; cases h1
      | some q =>
        rw [hw] at h1
        refine ⟨x.2.2, q.2, by rw [List.getElem?_map, hx]; rfl, ?_⟩
        have h3 : q.1 = ad x.1 x.2.1 := Option.some.inj h1
        rw [hw, ← h3]
  have at' : ∀ (k : Nat) (q : Nat × va_E), (nv_ws (D, ad, cA) h)[k]? = some q → ∃ c, nv_cells[k]? = some c ∧ q.1 = ad c.1 c.2 := by
    intro k q hq
    rw [nv_ws, List.getElem?_map] at hq
    cases hc : nv_cells[k]? with
    | none => rw [hc] at hq; cases hq
    | some c => rw [hc] at hq; cases hq; exact ⟨c, rfl, rfl⟩
  refine ⟨⟨fun i j x y hx hy hxy => ?_, fun k q hq => ?_⟩, fun q hq => ?_⟩
  · obtain ⟨c, h1, h2⟩ := at' i x hx
    obtain ⟨c', h3, h4⟩ := at' j y hy
    obtain ⟨k, e, h5, h6⟩ := key i c h1
    obtain ⟨k', e', h7, h8⟩ := key j c' h3
    have := hD.1 k k' _ _ h6 h8 (by show ad c.1 c.2 = ad c'.1 c'.2; rw [← h2, ← h4]; exact hxy)
    subst this
    exact va_nd_inj _ hn i j k h5 h7
  · obtain ⟨c, h1, h2⟩ := at' k q hq
    exact ⟨c, List.mem_of_getElem? h1, h2⟩
  · obtain ⟨c, h1, rfl⟩ := hq
    obtain ⟨k, hk⟩ := List.getElem?_of_mem h1
    obtain ⟨i, e, -, h3⟩ := key k c hk
    exact hD.2 i _ h3
theorem k_arr {c : ClassId} {n : Nat} {f g : Nat → Value} (h : ∀ j, j < n → f j = g j) : arrV c n f = arrV c n g := by
  unfold arrV
  congr 2
  funext j
  exact h j.val j.isLt
theorem k_atq {D : va_G} {cl : List vw_C} {q n : Nat} {c : ClassId} {f g : Nat → Option Nat} {H : Heap} (h : va_at D cl (q, .inl (c, n, .inr (.inr (.inr (.inr f))))) H) (hfg : ∀ j, j < n → f j = g j) : va_at D cl (q, .inl (c, n, .inr (.inr (.inr (.inr g))))) H := by
  have h1 : H[q]? = some (vp_cell c (n, .inr (.inr (.inr (.inr f))))) := h
  show H[q]? = some (vp_cell c (n, .inr (.inr (.inr (.inr g)))))
  rw [h1, vp_cell_q, vp_cell_q, k_arr (fun j hj => by rw [hfg j hj])]
theorem k_ati {D : va_G} {cl : List vw_C} {q n : Nat} {c : ClassId} {f g : Nat → Int32} {H : Heap} (h : va_at D cl (q, .inl (c, n, .inl f)) H) (hfg : ∀ j, j < n → f j = g j) : va_at D cl (q, .inl (c, n, .inl g)) H := by
  have h1 : H[q]? = some (vp_cell c (n, .inl f)) := h
  show H[q]? = some (vp_cell c (n, .inl g))
  rw [h1, vp_cell_i, vp_cell_i, k_arr (fun j hj => by rw [hfg j hj])]
theorem k_Pfin {D : va_G} {ad : Nat → Nat → Nat} {cA : Nat → ClassId} {H : Heap} {h : nv_St} (hk : ∀ c ∈ nv_cells, va_at D vwCl (ad c.1 c.2, nv_cell (D, ad, cA) h c.1 c.2) H) : va_P D vwCl (nv_ws (D, ad, cA) h) H := by
  intro k q hq
  rw [nv_ws, List.getElem?_map] at hq
  cases hc : nv_cells[k]? with
  | none => rw [hc] at hq; cases hq
  | some c => rw [hc] at hq; cases hq; exact hk c (List.mem_of_getElem? hc)
theorem k_l8 {α : Type} {l : List α} (h : l.length = 8) : ∃ v0 v1 v2 v3 v4 v5 v6 v7, l = [v0, v1, v2, v3, v4, v5, v6, v7] := by
  rcases l with _ | ⟨v0, l⟩
  · simp at h
  rcases l with _ | ⟨v1, l⟩
  · simp at h
  rcases l with _ | ⟨v2, l⟩
  · simp at h
  rcases l with _ | ⟨v3, l⟩
  · simp at h
  rcases l with _ | ⟨v4, l⟩
  · simp at h
  rcases l with _ | ⟨v5, l⟩
  · simp at h
  rcases l with _ | ⟨v6, l⟩
  · simp at h
  rcases l with _ | ⟨v7, l⟩
  · simp at h
  rcases l with _ | ⟨z, l⟩
  · exact ⟨v0, v1, v2, v3, v4, v5, v6, v7, rfl⟩
  · simp at h
theorem k_l4 {α : Type} {l : List α} (h : l.length = 4) : ∃ v0 v1 v2 v3, l = [v0, v1, v2, v3] := by
  rcases l with _ | ⟨v0, l⟩
  · simp at h
  rcases l with _ | ⟨v1, l⟩
  · simp at h
  rcases l with _ | ⟨v2, l⟩
  · simp at h
  rcases l with _ | ⟨v3, l⟩
  · simp at h
  rcases l with _ | ⟨z, l⟩
  · exact ⟨v0, v1, v2, v3, rfl⟩
  · simp at h
theorem k_now (j : Nat) : upd (fun _ => 0) (Int32.ofInt 1).toNatClampNeg (Int32.ofInt 1) j = Int32.ofInt (k_h0 24 0 j) := by
  have e : (Int32.ofInt 1).toNatClampNeg = 1 := by decide +kernel
  rw [e]
  show (if j = 1 then Int32.ofInt 1 else 0) = Int32.ofInt (if j = 1 then 1 else 0)
  split <;> rfl
theorem k_noonP {D : va_G} {ad : Nat → Nat → Nat} {cA : Nat → ClassId} {H : Heap} {nn : List (Nat × (Nat → Nat))} (hNN : ∀ x ∈ nn, ∀ q ∈ kN cA x.1 x.2, va_at D vwCl q H) {i : Nat} (hi : i < nn.length) (h0 : ad 0 i = (nn.getD i (0, fun _ => 0)).1) (h1 : ad 1 i = (nn.getD i (0, fun _ => 0)).2 1) (h2 : ad 2 i = (nn.getD i (0, fun _ => 0)).2 2) (h3 : ad 3 i = (nn.getD i (0, fun _ => 0)).2 3) (h4 : ad 4 i = (nn.getD i (0, fun _ => 0)).2 4) (h5 : ad 5 i = (nn.getD i (0, fun _ => 0)).2 5) (h6 : ad 6 i = (nn.getD i (0, fun _ => 0)).2 6) (h7 : ad 7 i = (nn.getD i (0, fun _ => 0)).2 7) : ∀ t, t < 8 → va_at D vwCl (ad t i, nv_cell (D, ad, cA) k_h0 t i) H := by
  have hx : nn.getD i (0, fun _ => 0) ∈ nn := by
    rw [List.getD_eq_getElem?_getD, List.getElem?_eq_getElem hi]
    exact List.getElem_mem hi
  generalize nn.getD i (0, fun _ => 0) = x at *
  have hx := hNN x hx
  intro t ht
  have c0 : nv_cell (D, ad, cA) k_h0 0 i = .inr (0, [.int 0, .int 0, .int 0, .int (Int32.ofInt 1), .ref (ad 1 i), .ref (ad 2 i), .ref (ad 3 i), .ref (ad 4 i), .ref (ad 5 i), .ref (ad 6 i), .ref (ad 7 i)]) := rfl
  rcases (show t = 0 ∨ t = 1 ∨ t = 2 ∨ t = 3 ∨ t = 4 ∨ t = 5 ∨ t = 6 ∨ t = 7 by omega) with rfl | rfl | rfl | rfl | rfl | rfl | rfl | rfl
  · rw [c0, h0, h1, h2, h3, h4, h5, h6, h7]; exact hx _ (List.mem_of_getElem? (i := 0) rfl)
  · rw [show nv_cell (D, ad, cA) k_h0 1 i = .inl (cA 0, 5, .inl fun _ => 0) from rfl, h1]; exact hx _ (List.mem_of_getElem? (i := 1) rfl)
  · rw [show nv_cell (D, ad, cA) k_h0 2 i = .inl (cA 0, 5, .inl fun _ => 0) from rfl, h2]; exact hx _ (List.mem_of_getElem? (i := 2) rfl)
  · rw [show nv_cell (D, ad, cA) k_h0 3 i = .inl (cA 0, 5, .inl fun _ => 0) from rfl, h3]; exact hx _ (List.mem_of_getElem? (i := 3) rfl)
  · rw [show nv_cell (D, ad, cA) k_h0 4 i = .inl (cA 0, 5, .inl fun _ => 0) from rfl, h4]; exact hx _ (List.mem_of_getElem? (i := 4) rfl)
  · rw [show nv_cell (D, ad, cA) k_h0 5 i = .inl (cA 0, 5, .inl fun _ => 0) from rfl, h5]; exact hx _ (List.mem_of_getElem? (i := 5) rfl)
  · rw [show nv_cell (D, ad, cA) k_h0 6 i = .inl (cA 0, 5, .inl fun _ => 0) from rfl, h6]; exact hx _ (List.mem_of_getElem? (i := 6) rfl)
  · rw [show nv_cell (D, ad, cA) k_h0 7 i = .inl (cA 0, 5, .inl fun _ => 0) from rfl, h7]; exact hx _ (List.mem_of_getElem? (i := 7) rfl)
section kFin
variable {D : va_G} {cA : Nat → ClassId} {H : Heap} {A : Nat → Prop} {a n0 n1 n2 p0 p1 q0 q1 s0 s1 m0 m1 x0 x1 y0 y1 tp tq sh mm r1 r2 r3 r4 r5 r6 r7 r8 r9 r10 : Nat} {f0 f1 f2 g0 g1 : Nat → Nat} {u0 u1 u2 u3 u4 u5 u6 u7 w0 w1 w2 w3 w4 w5 w6 w7 : Nat × (Nat → Nat)} {e0 e1 e2 e3 : Nat × Nat} {g : Nat → Int32} (st sv bb : Nat)
def k_L2 : List (Nat × Nat × Nat) := [(0, 0, 1), (0, 1, 149), (0, 2, 75), (0, 3, 11), (0, 4, 19), (0, 5, 27), (0, 6, 35), (0, 7, 43), (0, 8, 51), (0, 9, 59), (0, 10, 67), (0, 11, 85), (0, 12, 93), (0, 13, 101), (0, 14, 109), (0, 15, 117), (0, 16, 125), (0, 17, 133), (0, 18, 141), (0, 19, 158), (0, 20, 169), (1, 0, 2), (1, 1, 150), (1, 2, 76), (1, 3, 12), (1, 4, 20), (1, 5, 28), (1, 6, 36), (1, 7, 44), (1, 8, 52), (1, 9, 60), (1, 10, 68), (1, 11, 86), (1, 12, 94), (1, 13, 102), (1, 14, 110), (1, 15, 118), (1, 16, 126), (1, 17, 134), (1, 18, 142), (1, 19, 159), (1, 20, 170), (2, 0, 3), (2, 1, 151), (2, 2, 77), (2, 3, 13), (2, 4, 21), (2, 5, 29), (2, 6, 37), (2, 7, 45), (2, 8, 53), (2, 9, 61), (2, 10, 69), (2, 11, 87), (2, 12, 95), (2, 13, 103), (2, 14, 111), (2, 15, 119), (2, 16, 127), (2, 17, 135), (2, 18, 143), (2, 19, 160), (2, 20, 171), (3, 0, 4), (3, 1, 152), (3, 2, 78), (3, 3, 14), (3, 4, 22), (3, 5, 30), (3, 6, 38), (3, 7, 46), (3, 8, 54), (3, 9, 62), (3, 10, 70), (3, 11, 88), (3, 12, 96), (3, 13, 104), (3, 14, 112), (3, 15, 120), (3, 16, 128), (3, 17, 136), (3, 18, 144), (3, 19, 161), (3, 20, 172), (4, 0, 5), (4, 1, 153), (4, 2, 79), (4, 3, 15), (4, 4, 23), (4, 5, 31), (4, 6, 39), (4, 7, 47), (4, 8, 55), (4, 9, 63), (4, 10, 71), (4, 11, 89), (4, 12, 97), (4, 13, 105), (4, 14, 113), (4, 15, 121), (4, 16, 129), (4, 17, 137), (4, 18, 145), (4, 19, 162), (4, 20, 173), (5, 0, 6), (5, 1, 154), (5, 2, 80), (5, 3, 16), (5, 4, 24), (5, 5, 32), (5, 6, 40), (5, 7, 48), (5, 8, 56), (5, 9, 64), (5, 10, 72), (5, 11, 90), (5, 12, 98), (5, 13, 106), (5, 14, 114), (5, 15, 122), (5, 16, 130), (5, 17, 138), (5, 18, 146), (5, 19, 163), (5, 20, 174), (6, 0, 7), (6, 1, 155), (6, 2, 81), (6, 3, 17), (6, 4, 25), (6, 5, 33), (6, 6, 41), (6, 7, 49), (6, 8, 57), (6, 9, 65), (6, 10, 73), (6, 11, 91), (6, 12, 99), (6, 13, 107), (6, 14, 115), (6, 15, 123), (6, 16, 131), (6, 17, 139), (6, 18, 147), (6, 19, 164), (6, 20, 175), (7, 0, 8), (7, 1, 156), (7, 2, 82), (7, 3, 18), (7, 4, 26), (7, 5, 34), (7, 6, 42), (7, 7, 50), (7, 8, 58), (7, 9, 66), (7, 10, 74), (7, 11, 92), (7, 12, 100), (7, 13, 108), (7, 14, 116), (7, 15, 124), (7, 16, 132), (7, 17, 140), (7, 18, 148), (7, 19, 165), (7, 20, 176), (8, 0, 157), (8, 1, 168), (9, 0, 166), (9, 1, 177), (10, 0, 167), (10, 1, 178), (11, 0, 9), (11, 1, 83), (12, 0, 10), (12, 1, 84), (13, 0, 179), (14, 0, 180), (15, 0, 181), (16, 0, 182), (16, 1, 184), (16, 2, 186), (16, 3, 188), (17, 0, 183), (17, 1, 185), (17, 2, 187), (17, 3, 189), (18, 0, 0), (19, 0, 190), (20, 0, 191), (21, 0, 192), (22, 0, 193), (23, 0, 194), (24, 0, 195), (25, 0, 196), (26, 0, 197), (27, 0, 198), (28, 0, 199), (29, 0, 200)]
set_option maxRecDepth 100000 in
theorem k_L2c : nv_cells = k_L2.map (fun x => (x.1, x.2.1)) := by decide +kernel
set_option maxRecDepth 100000 in
theorem k_L2n : va_nd (k_L2.map (fun x => x.2.2)) = true := by decide +kernel
set_option maxRecDepth 100000 in
set_option maxHeartbeats 4000000 in
theorem k_AL : (kX cA a n0 f0 p0 q0 [u0, u1, u2, u3, u4, u5, u6, u7] n2 f2 p1 q1 [w0, w1, w2, w3, w4, w5, w6, w7] n1 f1 s0 m0 g0 x0 y0 s1 m1 g1 x1 y1 tp tq sh [e0, e1, e2, e3] ++ kM cA mm r1 r2 r3 r4 r5 r6 r7 r8 r9 r10 g).map (fun q => q.1) = [a, n0, f0 1, f0 2, f0 3, f0 4, f0 5, f0 6, f0 7, p0, q0, u0.1, u0.2 1, u0.2 2, u0.2 3, u0.2 4, u0.2 5, u0.2 6, u0.2 7, u1.1, u1.2 1, u1.2 2, u1.2 3, u1.2 4, u1.2 5, u1.2 6, u1.2 7, u2.1, u2.2 1, u2.2 2, u2.2 3, u2.2 4, u2.2 5, u2.2 6, u2.2 7, u3.1, u3.2 1, u3.2 2, u3.2 3, u3.2 4, u3.2 5, u3.2 6, u3.2 7, u4.1, u4.2 1, u4.2 2, u4.2 3, u4.2 4, u4.2 5, u4.2 6, u4.2 7, u5.1, u5.2 1, u5.2 2, u5.2 3, u5.2 4, u5.2 5, u5.2 6, u5.2 7, u6.1, u6.2 1, u6.2 2, u6.2 3, u6.2 4, u6.2 5, u6.2 6, u6.2 7, u7.1, u7.2 1, u7.2 2, u7.2 3, u7.2 4, u7.2 5, u7.2 6, u7.2 7, n2, f2 1, f2 2, f2 3, f2 4, f2 5, f2 6, f2 7, p1, q1, w0.1, w0.2 1, w0.2 2, w0.2 3, w0.2 4, w0.2 5, w0.2 6, w0.2 7, w1.1, w1.2 1, w1.2 2, w1.2 3, w1.2 4, w1.2 5, w1.2 6, w1.2 7, w2.1, w2.2 1, w2.2 2, w2.2 3, w2.2 4, w2.2 5, w2.2 6, w2.2 7, w3.1, w3.2 1, w3.2 2, w3.2 3, w3.2 4, w3.2 5, w3.2 6, w3.2 7, w4.1, w4.2 1, w4.2 2, w4.2 3, w4.2 4, w4.2 5, w4.2 6, w4.2 7, w5.1, w5.2 1, w5.2 2, w5.2 3, w5.2 4, w5.2 5, w5.2 6, w5.2 7, w6.1, w6.2 1, w6.2 2, w6.2 3, w6.2 4, w6.2 5, w6.2 6, w6.2 7, w7.1, w7.2 1, w7.2 2, w7.2 3, w7.2 4, w7.2 5, w7.2 6, w7.2 7, n1, f1 1, f1 2, f1 3, f1 4, f1 5, f1 6, f1 7, s0, m0, g0 1, g0 2, g0 3, g0 4, g0 5, g0 6, g0 7, x0, y0, s1, m1, g1 1, g1 2, g1 3, g1 4, g1 5, g1 6, g1 7, x1, y1, tp, tq, sh, e0.1, e0.2, e1.1, e1.2, e2.1, e2.2, e3.1, e3.2, mm, r1, r2, r3, r4, r5, r6, r7, r8, r9, r10] := by
  simp only [kX, kM, kN, kP, kS, kT, kH, k_ns, k_hs, k_i, List.flatMap_cons, List.flatMap_nil, List.cons_append, List.nil_append, List.append_nil, List.append_assoc, List.map_cons, List.map_nil]
set_option maxRecDepth 100000 in
set_option maxHeartbeats 4000000 in
theorem k_ADL : ∀ x ∈ k_L2, ([a, n0, f0 1, f0 2, f0 3, f0 4, f0 5, f0 6, f0 7, p0, q0, u0.1, u0.2 1, u0.2 2, u0.2 3, u0.2 4, u0.2 5, u0.2 6, u0.2 7, u1.1, u1.2 1, u1.2 2, u1.2 3, u1.2 4, u1.2 5, u1.2 6, u1.2 7, u2.1, u2.2 1, u2.2 2, u2.2 3, u2.2 4, u2.2 5, u2.2 6, u2.2 7, u3.1, u3.2 1, u3.2 2, u3.2 3, u3.2 4, u3.2 5, u3.2 6, u3.2 7, u4.1, u4.2 1, u4.2 2, u4.2 3, u4.2 4, u4.2 5, u4.2 6, u4.2 7, u5.1, u5.2 1, u5.2 2, u5.2 3, u5.2 4, u5.2 5, u5.2 6, u5.2 7, u6.1, u6.2 1, u6.2 2, u6.2 3, u6.2 4, u6.2 5, u6.2 6, u6.2 7, u7.1, u7.2 1, u7.2 2, u7.2 3, u7.2 4, u7.2 5, u7.2 6, u7.2 7, n2, f2 1, f2 2, f2 3, f2 4, f2 5, f2 6, f2 7, p1, q1, w0.1, w0.2 1, w0.2 2, w0.2 3, w0.2 4, w0.2 5, w0.2 6, w0.2 7, w1.1, w1.2 1, w1.2 2, w1.2 3, w1.2 4, w1.2 5, w1.2 6, w1.2 7, w2.1, w2.2 1, w2.2 2, w2.2 3, w2.2 4, w2.2 5, w2.2 6, w2.2 7, w3.1, w3.2 1, w3.2 2, w3.2 3, w3.2 4, w3.2 5, w3.2 6, w3.2 7, w4.1, w4.2 1, w4.2 2, w4.2 3, w4.2 4, w4.2 5, w4.2 6, w4.2 7, w5.1, w5.2 1, w5.2 2, w5.2 3, w5.2 4, w5.2 5, w5.2 6, w5.2 7, w6.1, w6.2 1, w6.2 2, w6.2 3, w6.2 4, w6.2 5, w6.2 6, w6.2 7, w7.1, w7.2 1, w7.2 2, w7.2 3, w7.2 4, w7.2 5, w7.2 6, w7.2 7, n1, f1 1, f1 2, f1 3, f1 4, f1 5, f1 6, f1 7, s0, m0, g0 1, g0 2, g0 3, g0 4, g0 5, g0 6, g0 7, x0, y0, s1, m1, g1 1, g1 2, g1 3, g1 4, g1 5, g1 6, g1 7, x1, y1, tp, tq, sh, e0.1, e0.2, e1.1, e1.2, e2.1, e2.2, e3.1, e3.2, mm, r1, r2, r3, r4, r5, r6, r7, r8, r9, r10] : List Nat)[x.2.2]? = some ((k_ad [(n0, f0), (n1, f1), (n2, f2), u0, u1, u2, u3, u4, u5, u6, u7, w0, w1, w2, w3, w4, w5, w6, w7, (m0, g0), (m1, g1)] s0 s1 x0 x1 y0 y1 p0 p1 q0 q1 tp tq sh [e0, e1, e2, e3] a mm r1 r2 r3 r4 r5 r6 r7 r8 r9 r10 st sv bb) x.1 x.2.1) := by
  unfold k_L2
  refine List.forall_mem_cons.mpr ⟨rfl, ?_⟩
  refine List.forall_mem_cons.mpr ⟨rfl, ?_⟩
  refine List.forall_mem_cons.mpr ⟨rfl, ?_⟩
  refine List.forall_mem_cons.mpr ⟨rfl, ?_⟩
  refine List.forall_mem_cons.mpr ⟨rfl, ?_⟩
  refine List.forall_mem_cons.mpr ⟨rfl, ?_⟩
  refine List.forall_mem_cons.mpr ⟨rfl, ?_⟩
  refine List.forall_mem_cons.mpr ⟨rfl, ?_⟩
  refine List.forall_mem_cons.mpr ⟨rfl, ?_⟩
  refine List.forall_mem_cons.mpr ⟨rfl, ?_⟩
  refine List.forall_mem_cons.mpr ⟨rfl, ?_⟩
  refine List.forall_mem_cons.mpr ⟨rfl, ?_⟩
  refine List.forall_mem_cons.mpr ⟨rfl, ?_⟩
  refine List.forall_mem_cons.mpr ⟨rfl, ?_⟩
  refine List.forall_mem_cons.mpr ⟨rfl, ?_⟩
  refine List.forall_mem_cons.mpr ⟨rfl, ?_⟩
  refine List.forall_mem_cons.mpr ⟨rfl, ?_⟩
  refine List.forall_mem_cons.mpr ⟨rfl, ?_⟩
  refine List.forall_mem_cons.mpr ⟨rfl, ?_⟩
  refine List.forall_mem_cons.mpr ⟨rfl, ?_⟩
  refine List.forall_mem_cons.mpr ⟨rfl, ?_⟩
  refine List.forall_mem_cons.mpr ⟨rfl, ?_⟩
  refine List.forall_mem_cons.mpr ⟨rfl, ?_⟩
  refine List.forall_mem_cons.mpr ⟨rfl, ?_⟩
  refine List.forall_mem_cons.mpr ⟨rfl, ?_⟩
  refine List.forall_mem_cons.mpr ⟨rfl, ?_⟩
  refine List.forall_mem_cons.mpr ⟨rfl, ?_⟩
  refine List.forall_mem_cons.mpr ⟨rfl, ?_⟩
  refine List.forall_mem_cons.mpr ⟨rfl, ?_⟩
  refine List.forall_mem_cons.mpr ⟨rfl, ?_⟩
  refine List.forall_mem_cons.mpr ⟨rfl, ?_⟩
  refine List.forall_mem_cons.mpr ⟨rfl, ?_⟩
  refine List.forall_mem_cons.mpr ⟨rfl, ?_⟩
  refine List.forall_mem_cons.mpr ⟨rfl, ?_⟩
  refine List.forall_mem_cons.mpr ⟨rfl, ?_⟩
  refine List.forall_mem_cons.mpr ⟨rfl, ?_⟩
  refine List.forall_mem_cons.mpr ⟨rfl, ?_⟩
  refine List.forall_mem_cons.mpr ⟨rfl, ?_⟩
  refine List.forall_mem_cons.mpr ⟨rfl, ?_⟩
  refine List.forall_mem_cons.mpr ⟨rfl, ?_⟩
  refine List.forall_mem_cons.mpr ⟨rfl, ?_⟩
  refine List.forall_mem_cons.mpr ⟨rfl, ?_⟩
  refine List.forall_mem_cons.mpr ⟨rfl, ?_⟩
  refine List.forall_mem_cons.mpr ⟨rfl, ?_⟩
  refine List.forall_mem_cons.mpr ⟨rfl, ?_⟩
  refine List.forall_mem_cons.mpr ⟨rfl, ?_⟩
  refine List.forall_mem_cons.mpr ⟨rfl, ?_⟩
  refine List.forall_mem_cons.mpr ⟨rfl, ?_⟩
  refine List.forall_mem_cons.mpr ⟨rfl, ?_⟩
  refine List.forall_mem_cons.mpr ⟨rfl, ?_⟩
  refine List.forall_mem_cons.mpr ⟨rfl, ?_⟩
  refine List.forall_mem_cons.mpr ⟨rfl, ?_⟩
  refine List.forall_mem_cons.mpr ⟨rfl, ?_⟩
  refine List.forall_mem_cons.mpr ⟨rfl, ?_⟩
  refine List.forall_mem_cons.mpr ⟨rfl, ?_⟩
  refine List.forall_mem_cons.mpr ⟨rfl, ?_⟩
  refine List.forall_mem_cons.mpr ⟨rfl, ?_⟩
  refine List.forall_mem_cons.mpr ⟨rfl, ?_⟩
  refine List.forall_mem_cons.mpr ⟨rfl, ?_⟩
  refine List.forall_mem_cons.mpr ⟨rfl, ?_⟩
  refine List.forall_mem_cons.mpr ⟨rfl, ?_⟩
  refine List.forall_mem_cons.mpr ⟨rfl, ?_⟩
  refine List.forall_mem_cons.mpr ⟨rfl, ?_⟩
  refine List.forall_mem_cons.mpr ⟨rfl, ?_⟩
  refine List.forall_mem_cons.mpr ⟨rfl, ?_⟩
  refine List.forall_mem_cons.mpr ⟨rfl, ?_⟩
  refine List.forall_mem_cons.mpr ⟨rfl, ?_⟩
  refine List.forall_mem_cons.mpr ⟨rfl, ?_⟩
  refine List.forall_mem_cons.mpr ⟨rfl, ?_⟩
  refine List.forall_mem_cons.mpr ⟨rfl, ?_⟩
  refine List.forall_mem_cons.mpr ⟨rfl, ?_⟩
  refine List.forall_mem_cons.mpr ⟨rfl, ?_⟩
  refine List.forall_mem_cons.mpr ⟨rfl, ?_⟩
  refine List.forall_mem_cons.mpr ⟨rfl, ?_⟩
  refine List.forall_mem_cons.mpr ⟨rfl, ?_⟩
  refine List.forall_mem_cons.mpr ⟨rfl, ?_⟩
  refine List.forall_mem_cons.mpr ⟨rfl, ?_⟩
  refine List.forall_mem_cons.mpr ⟨rfl, ?_⟩
  refine List.forall_mem_cons.mpr ⟨rfl, ?_⟩
  refine List.forall_mem_cons.mpr ⟨rfl, ?_⟩
  refine List.forall_mem_cons.mpr ⟨rfl, ?_⟩
  refine List.forall_mem_cons.mpr ⟨rfl, ?_⟩
  refine List.forall_mem_cons.mpr ⟨rfl, ?_⟩
  refine List.forall_mem_cons.mpr ⟨rfl, ?_⟩
  refine List.forall_mem_cons.mpr ⟨rfl, ?_⟩
  refine List.forall_mem_cons.mpr ⟨rfl, ?_⟩
  refine List.forall_mem_cons.mpr ⟨rfl, ?_⟩
  refine List.forall_mem_cons.mpr ⟨rfl, ?_⟩
  refine List.forall_mem_cons.mpr ⟨rfl, ?_⟩
  refine List.forall_mem_cons.mpr ⟨rfl, ?_⟩
  refine List.forall_mem_cons.mpr ⟨rfl, ?_⟩
  refine List.forall_mem_cons.mpr ⟨rfl, ?_⟩
  refine List.forall_mem_cons.mpr ⟨rfl, ?_⟩
  refine List.forall_mem_cons.mpr ⟨rfl, ?_⟩
  refine List.forall_mem_cons.mpr ⟨rfl, ?_⟩
  refine List.forall_mem_cons.mpr ⟨rfl, ?_⟩
  refine List.forall_mem_cons.mpr ⟨rfl, ?_⟩
  refine List.forall_mem_cons.mpr ⟨rfl, ?_⟩
  refine List.forall_mem_cons.mpr ⟨rfl, ?_⟩
  refine List.forall_mem_cons.mpr ⟨rfl, ?_⟩
  refine List.forall_mem_cons.mpr ⟨rfl, ?_⟩
  refine List.forall_mem_cons.mpr ⟨rfl, ?_⟩
  refine List.forall_mem_cons.mpr ⟨rfl, ?_⟩
  refine List.forall_mem_cons.mpr ⟨rfl, ?_⟩
  refine List.forall_mem_cons.mpr ⟨rfl, ?_⟩
  refine List.forall_mem_cons.mpr ⟨rfl, ?_⟩
  refine List.forall_mem_cons.mpr ⟨rfl, ?_⟩
  refine List.forall_mem_cons.mpr ⟨rfl, ?_⟩
  refine List.forall_mem_cons.mpr ⟨rfl, ?_⟩
  refine List.forall_mem_cons.mpr ⟨rfl, ?_⟩
  refine List.forall_mem_cons.mpr ⟨rfl, ?_⟩
  refine List.forall_mem_cons.mpr ⟨rfl, ?_⟩
  refine List.forall_mem_cons.mpr ⟨rfl, ?_⟩
  refine List.forall_mem_cons.mpr ⟨rfl, ?_⟩
  refine List.forall_mem_cons.mpr ⟨rfl, ?_⟩
  refine List.forall_mem_cons.mpr ⟨rfl, ?_⟩
  refine List.forall_mem_cons.mpr ⟨rfl, ?_⟩
  refine List.forall_mem_cons.mpr ⟨rfl, ?_⟩
  refine List.forall_mem_cons.mpr ⟨rfl, ?_⟩
  refine List.forall_mem_cons.mpr ⟨rfl, ?_⟩
  refine List.forall_mem_cons.mpr ⟨rfl, ?_⟩
  refine List.forall_mem_cons.mpr ⟨rfl, ?_⟩
  refine List.forall_mem_cons.mpr ⟨rfl, ?_⟩
  refine List.forall_mem_cons.mpr ⟨rfl, ?_⟩
  refine List.forall_mem_cons.mpr ⟨rfl, ?_⟩
  refine List.forall_mem_cons.mpr ⟨rfl, ?_⟩
  refine List.forall_mem_cons.mpr ⟨rfl, ?_⟩
  refine List.forall_mem_cons.mpr ⟨rfl, ?_⟩
  refine List.forall_mem_cons.mpr ⟨rfl, ?_⟩
  refine List.forall_mem_cons.mpr ⟨rfl, ?_⟩
  refine List.forall_mem_cons.mpr ⟨rfl, ?_⟩
  refine List.forall_mem_cons.mpr ⟨rfl, ?_⟩
  refine List.forall_mem_cons.mpr ⟨rfl, ?_⟩
  refine List.forall_mem_cons.mpr ⟨rfl, ?_⟩
  refine List.forall_mem_cons.mpr ⟨rfl, ?_⟩
  refine List.forall_mem_cons.mpr ⟨rfl, ?_⟩
  refine List.forall_mem_cons.mpr ⟨rfl, ?_⟩
  refine List.forall_mem_cons.mpr ⟨rfl, ?_⟩
  refine List.forall_mem_cons.mpr ⟨rfl, ?_⟩
  refine List.forall_mem_cons.mpr ⟨rfl, ?_⟩
  refine List.forall_mem_cons.mpr ⟨rfl, ?_⟩
  refine List.forall_mem_cons.mpr ⟨rfl, ?_⟩
  refine List.forall_mem_cons.mpr ⟨rfl, ?_⟩
  refine List.forall_mem_cons.mpr ⟨rfl, ?_⟩
  refine List.forall_mem_cons.mpr ⟨rfl, ?_⟩
  refine List.forall_mem_cons.mpr ⟨rfl, ?_⟩
  refine List.forall_mem_cons.mpr ⟨rfl, ?_⟩
  refine List.forall_mem_cons.mpr ⟨rfl, ?_⟩
  refine List.forall_mem_cons.mpr ⟨rfl, ?_⟩
  refine List.forall_mem_cons.mpr ⟨rfl, ?_⟩
  refine List.forall_mem_cons.mpr ⟨rfl, ?_⟩
  refine List.forall_mem_cons.mpr ⟨rfl, ?_⟩
  refine List.forall_mem_cons.mpr ⟨rfl, ?_⟩
  refine List.forall_mem_cons.mpr ⟨rfl, ?_⟩
  refine List.forall_mem_cons.mpr ⟨rfl, ?_⟩
  refine List.forall_mem_cons.mpr ⟨rfl, ?_⟩
  refine List.forall_mem_cons.mpr ⟨rfl, ?_⟩
  refine List.forall_mem_cons.mpr ⟨rfl, ?_⟩
  refine List.forall_mem_cons.mpr ⟨rfl, ?_⟩
  refine List.forall_mem_cons.mpr ⟨rfl, ?_⟩
  refine List.forall_mem_cons.mpr ⟨rfl, ?_⟩
  refine List.forall_mem_cons.mpr ⟨rfl, ?_⟩
  refine List.forall_mem_cons.mpr ⟨rfl, ?_⟩
  refine List.forall_mem_cons.mpr ⟨rfl, ?_⟩
  refine List.forall_mem_cons.mpr ⟨rfl, ?_⟩
  refine List.forall_mem_cons.mpr ⟨rfl, ?_⟩
  refine List.forall_mem_cons.mpr ⟨rfl, ?_⟩
  refine List.forall_mem_cons.mpr ⟨rfl, ?_⟩
  refine List.forall_mem_cons.mpr ⟨rfl, ?_⟩
  refine List.forall_mem_cons.mpr ⟨rfl, ?_⟩
  refine List.forall_mem_cons.mpr ⟨rfl, ?_⟩
  refine List.forall_mem_cons.mpr ⟨rfl, ?_⟩
  refine List.forall_mem_cons.mpr ⟨rfl, ?_⟩
  refine List.forall_mem_cons.mpr ⟨rfl, ?_⟩
  refine List.forall_mem_cons.mpr ⟨rfl, ?_⟩
  refine List.forall_mem_cons.mpr ⟨rfl, ?_⟩
  refine List.forall_mem_cons.mpr ⟨rfl, ?_⟩
  refine List.forall_mem_cons.mpr ⟨rfl, ?_⟩
  refine List.forall_mem_cons.mpr ⟨rfl, ?_⟩
  refine List.forall_mem_cons.mpr ⟨rfl, ?_⟩
  refine List.forall_mem_cons.mpr ⟨rfl, ?_⟩
  refine List.forall_mem_cons.mpr ⟨rfl, ?_⟩
  refine List.forall_mem_cons.mpr ⟨rfl, ?_⟩
  refine List.forall_mem_cons.mpr ⟨rfl, ?_⟩
  refine List.forall_mem_cons.mpr ⟨rfl, ?_⟩
  refine List.forall_mem_cons.mpr ⟨rfl, ?_⟩
  refine List.forall_mem_cons.mpr ⟨rfl, ?_⟩
  refine List.forall_mem_cons.mpr ⟨rfl, ?_⟩
  refine List.forall_mem_cons.mpr ⟨rfl, ?_⟩
  refine List.forall_mem_cons.mpr ⟨rfl, ?_⟩
  refine List.forall_mem_cons.mpr ⟨rfl, ?_⟩
  refine List.forall_mem_cons.mpr ⟨rfl, ?_⟩
  refine List.forall_mem_cons.mpr ⟨rfl, ?_⟩
  refine List.forall_mem_cons.mpr ⟨rfl, ?_⟩
  refine List.forall_mem_cons.mpr ⟨rfl, ?_⟩
  refine List.forall_mem_cons.mpr ⟨rfl, ?_⟩
  refine List.forall_mem_cons.mpr ⟨rfl, ?_⟩
  refine List.forall_mem_cons.mpr ⟨rfl, ?_⟩
  refine List.forall_mem_cons.mpr ⟨rfl, ?_⟩
  refine List.forall_mem_cons.mpr ⟨rfl, ?_⟩
  refine List.forall_mem_cons.mpr ⟨rfl, ?_⟩
  exact fun _ h => absurd h List.not_mem_nil
theorem k_finD (hD : va_D A (kX cA a n0 f0 p0 q0 [u0, u1, u2, u3, u4, u5, u6, u7] n2 f2 p1 q1 [w0, w1, w2, w3, w4, w5, w6, w7] n1 f1 s0 m0 g0 x0 y0 s1 m1 g1 x1 y1 tp tq sh [e0, e1, e2, e3] ++ kM cA mm r1 r2 r3 r4 r5 r6 r7 r8 r9 r10 g)) (h : nv_St) : va_D (nv_A (D, (k_ad [(n0, f0), (n1, f1), (n2, f2), u0, u1, u2, u3, u4, u5, u6, u7, w0, w1, w2, w3, w4, w5, w6, w7, (m0, g0), (m1, g1)] s0 s1 x0 x1 y0 y1 p0 p1 q0 q1 tp tq sh [e0, e1, e2, e3] a mm r1 r2 r3 r4 r5 r6 r7 r8 r9 r10 st sv bb), cA)) (nv_ws (D, (k_ad [(n0, f0), (n1, f1), (n2, f2), u0, u1, u2, u3, u4, u5, u6, u7, w0, w1, w2, w3, w4, w5, w6, w7, (m0, g0), (m1, g1)] s0 s1 x0 x1 y0 y1 p0 p1 q0 q1 tp tq sh [e0, e1, e2, e3] a mm r1 r2 r3 r4 r5 r6 r7 r8 r9 r10 st sv bb), cA) h) ∧ ∀ q, nv_A (D, (k_ad [(n0, f0), (n1, f1), (n2, f2), u0, u1, u2, u3, u4, u5, u6, u7, w0, w1, w2, w3, w4, w5, w6, w7, (m0, g0), (m1, g1)] s0 s1 x0 x1 y0 y1 p0 p1 q0 q1 tp tq sh [e0, e1, e2, e3] a mm r1 r2 r3 r4 r5 r6 r7 r8 r9 r10 st sv bb), cA) q → A q :=
  k_Dfin hD k_AL k_L2c k_L2n (k_ADL st sv bb) h
set_option maxRecDepth 100000 in
set_option maxHeartbeats 4000000 in
theorem k_finP (hg : ∀ j, j < 4 → g j = Int32.ofInt (-1)) (hM : va_P D vwCl (kX cA a n0 f0 p0 q0 [u0, u1, u2, u3, u4, u5, u6, u7] n2 f2 p1 q1 [w0, w1, w2, w3, w4, w5, w6, w7] n1 f1 s0 m0 g0 x0 y0 s1 m1 g1 x1 y1 tp tq sh [e0, e1, e2, e3] ++ kM cA mm r1 r2 r3 r4 r5 r6 r7 r8 r9 r10 g) H) : va_P D vwCl (nv_ws (D, (k_ad [(n0, f0), (n1, f1), (n2, f2), u0, u1, u2, u3, u4, u5, u6, u7, w0, w1, w2, w3, w4, w5, w6, w7, (m0, g0), (m1, g1)] s0 s1 x0 x1 y0 y1 p0 p1 q0 q1 tp tq sh [e0, e1, e2, e3] a mm r1 r2 r3 r4 r5 r6 r7 r8 r9 r10 st sv bb), cA) k_h0) H := by
  have hA : ∀ q ∈ (kX cA a n0 f0 p0 q0 [u0, u1, u2, u3, u4, u5, u6, u7] n2 f2 p1 q1 [w0, w1, w2, w3, w4, w5, w6, w7] n1 f1 s0 m0 g0 x0 y0 s1 m1 g1 x1 y1 tp tq sh [e0, e1, e2, e3] ++ kM cA mm r1 r2 r3 r4 r5 r6 r7 r8 r9 r10 g), va_at D vwCl q H := fun q hq => by
    obtain ⟨k, hk⟩ := List.getElem?_of_mem hq
    exact hM k q hk
  obtain ⟨hX, hK⟩ := List.forall_mem_append.mp hA
  unfold kX at hX
  obtain ⟨o1, hX⟩ := List.forall_mem_cons.mp hX
  obtain ⟨hX, hsh⟩ := List.forall_mem_append.mp hX
  obtain ⟨hX, hTp⟩ := List.forall_mem_append.mp hX
  obtain ⟨hX, hS1⟩ := List.forall_mem_append.mp hX
  obtain ⟨hX, hS0⟩ := List.forall_mem_append.mp hX
  obtain ⟨hX, hN1⟩ := List.forall_mem_append.mp hX
  obtain ⟨hX, hP1⟩ := List.forall_mem_append.mp hX
  obtain ⟨hX, hN2⟩ := List.forall_mem_append.mp hX
  obtain ⟨hX, hP0⟩ := List.forall_mem_append.mp hX
  obtain ⟨-, hN0⟩ := List.forall_mem_append.mp hX
  unfold kP at hP0 hP1
  obtain ⟨b1, hP0⟩ := List.forall_mem_cons.mp hP0
  obtain ⟨b2, hP0⟩ := List.forall_mem_cons.mp hP0
  obtain ⟨d1, hP1⟩ := List.forall_mem_cons.mp hP1
  obtain ⟨d2, hP1⟩ := List.forall_mem_cons.mp hP1
  unfold kS at hS0 hS1
  obtain ⟨c1, hS0⟩ := List.forall_mem_cons.mp hS0
  obtain ⟨hM0, hS0⟩ := List.forall_mem_append.mp hS0
  obtain ⟨c2, hS0⟩ := List.forall_mem_cons.mp hS0
  obtain ⟨c3, -⟩ := List.forall_mem_cons.mp hS0
  obtain ⟨c4, hS1⟩ := List.forall_mem_cons.mp hS1
  obtain ⟨hM1, hS1⟩ := List.forall_mem_append.mp hS1
  obtain ⟨c5, hS1⟩ := List.forall_mem_cons.mp hS1
  obtain ⟨c6, -⟩ := List.forall_mem_cons.mp hS1
  unfold kT at hTp
  obtain ⟨t1, hTp⟩ := List.forall_mem_cons.mp hTp
  obtain ⟨t2, -⟩ := List.forall_mem_cons.mp hTp
  obtain ⟨z1, hsh⟩ := List.forall_mem_cons.mp hsh
  unfold kM at hK
  obtain ⟨k0, hK⟩ := List.forall_mem_cons.mp hK
  obtain ⟨k1, hK⟩ := List.forall_mem_cons.mp hK
  obtain ⟨k2, hK⟩ := List.forall_mem_cons.mp hK
  obtain ⟨k3, hK⟩ := List.forall_mem_cons.mp hK
  obtain ⟨k4, hK⟩ := List.forall_mem_cons.mp hK
  obtain ⟨k5, hK⟩ := List.forall_mem_cons.mp hK
  obtain ⟨k6, hK⟩ := List.forall_mem_cons.mp hK
  obtain ⟨k7, hK⟩ := List.forall_mem_cons.mp hK
  obtain ⟨k8, hK⟩ := List.forall_mem_cons.mp hK
  obtain ⟨k9, hK⟩ := List.forall_mem_cons.mp hK
  obtain ⟨k10, hK⟩ := List.forall_mem_cons.mp hK
  have hH : ∀ x ∈ [e0, e1, e2, e3], ∀ q ∈ kH cA x.1 x.2, va_at D vwCl q H := fun x hx q hq => hsh q (List.mem_flatMap.mpr ⟨x, hx, hq⟩)
  have hU : ∀ x ∈ [u0, u1, u2, u3, u4, u5, u6, u7], ∀ q ∈ kN cA x.1 x.2, va_at D vwCl q H := fun x hx q hq => hP0 q (List.mem_flatMap.mpr ⟨x, hx, hq⟩)
  have hV : ∀ x ∈ [w0, w1, w2, w3, w4, w5, w6, w7], ∀ q ∈ kN cA x.1 x.2, va_at D vwCl q H := fun x hx q hq => hP1 q (List.mem_flatMap.mpr ⟨x, hx, hq⟩)
  have hNN : ∀ x ∈ (n0, f0) :: (n1, f1) :: (n2, f2) :: ([u0, u1, u2, u3, u4, u5, u6, u7] ++ ([w0, w1, w2, w3, w4, w5, w6, w7] ++ [(m0, g0), (m1, g1)])), ∀ q ∈ kN cA x.1 x.2, va_at D vwCl q H := by
    refine List.forall_mem_cons.mpr ⟨hN0, List.forall_mem_cons.mpr ⟨hN1, List.forall_mem_cons.mpr ⟨hN2, List.forall_mem_append.mpr ⟨hU, List.forall_mem_append.mpr ⟨hV, List.forall_mem_cons.mpr ⟨hM0, List.forall_mem_cons.mpr ⟨hM1, fun _ h => absurd h List.not_mem_nil⟩⟩⟩⟩⟩⟩⟩
  have hNN : ∀ x ∈ [(n0, f0), (n1, f1), (n2, f2), u0, u1, u2, u3, u4, u5, u6, u7, w0, w1, w2, w3, w4, w5, w6, w7, (m0, g0), (m1, g1)], ∀ q ∈ kN cA x.1 x.2, va_at D vwCl q H := hNN
  have hHq : ∀ (k : Nat) (x : Nat × Nat), [e0, e1, e2, e3][k]? = some x → va_at D vwCl (x.1, .inr (3, [.ref x.2, .int (Int32.ofInt (-1)), .int 0])) H ∧ va_at D vwCl (x.2, .inl (cA 1, 24, .inr (.inl fun _ => 0))) H := fun k x hx => ⟨hH x (List.mem_of_getElem? hx) _ (List.mem_of_getElem? (i := 0) rfl), hH x (List.mem_of_getElem? hx) _ (List.mem_of_getElem? (i := 1) rfl)⟩
  refine k_Pfin (fun c hc => ?_)
  obtain ⟨t, i⟩ := c
  obtain ⟨ht, hi⟩ := nv_mem.mp hc
  by_cases h8 : t < 8
  · have e : nv_cnt t = 21 := by unfold nv_cnt; rw [if_pos h8]
    exact k_noonP (nn := [(n0, f0), (n1, f1), (n2, f2), u0, u1, u2, u3, u4, u5, u6, u7, w0, w1, w2, w3, w4, w5, w6, w7, (m0, g0), (m1, g1)]) hNN (by rw [e] at hi; exact hi) rfl rfl rfl rfl rfl rfl rfl rfl t h8
  · rcases (show t = 8 ∨ t = 9 ∨ t = 10 ∨ t = 11 ∨ t = 12 ∨ t = 13 ∨ t = 14 ∨ t = 15 ∨ t = 16 ∨ t = 17 ∨ t = 18 ∨ t = 19 ∨ t = 20 ∨ t = 21 ∨ t = 22 ∨ t = 23 ∨ t = 24 ∨ t = 25 ∨ t = 26 ∨ t = 27 ∨ t = 28 ∨ t = 29 by omega) with rfl | rfl | rfl | rfl | rfl | rfl | rfl | rfl | rfl | rfl | rfl | rfl | rfl | rfl | rfl | rfl | rfl | rfl | rfl | rfl | rfl | rfl
    · have hi : i < 2 := hi
      rcases (show i = 0 ∨ i = 1 by omega) with rfl | rfl
      · exact c1
      · exact c4
    · have hi : i < 2 := hi
      rcases (show i = 0 ∨ i = 1 by omega) with rfl | rfl
      · exact c2
      · exact c5
    · have hi : i < 2 := hi
      rcases (show i = 0 ∨ i = 1 by omega) with rfl | rfl
      · exact c3
      · exact c6
    · have hi : i < 2 := hi
      rcases (show i = 0 ∨ i = 1 by omega) with rfl | rfl
      · exact b1
      · exact d1
    · have hi : i < 2 := hi
      rcases (show i = 0 ∨ i = 1 by omega) with rfl | rfl
      · exact k_atq b2 (fun j hj => by rcases (show j = 0 ∨ j = 1 ∨ j = 2 ∨ j = 3 ∨ j = 4 ∨ j = 5 ∨ j = 6 ∨ j = 7 by omega) with rfl | rfl | rfl | rfl | rfl | rfl | rfl | rfl <;> rfl)
      · exact k_atq d2 (fun j hj => by rcases (show j = 0 ∨ j = 1 ∨ j = 2 ∨ j = 3 ∨ j = 4 ∨ j = 5 ∨ j = 6 ∨ j = 7 by omega) with rfl | rfl | rfl | rfl | rfl | rfl | rfl | rfl <;> rfl)
    · have hi : i < 1 := hi
      have e : i = 0 := by omega
      subst e
      exact t1
    · have hi : i < 1 := hi
      have e : i = 0 := by omega
      subst e
      exact t2
    · have hi : i < 1 := hi
      have e : i = 0 := by omega
      subst e
      exact k_atq z1 (fun j hj => by rcases (show j = 0 ∨ j = 1 ∨ j = 2 ∨ j = 3 by omega) with rfl | rfl | rfl | rfl <;> rfl)
    · have hi : i < 4 := hi
      rcases (show i = 0 ∨ i = 1 ∨ i = 2 ∨ i = 3 by omega) with rfl | rfl | rfl | rfl
      · exact (hHq 0 _ rfl).1
      · exact (hHq 1 _ rfl).1
      · exact (hHq 2 _ rfl).1
      · exact (hHq 3 _ rfl).1
    · have hi : i < 4 := hi
      rcases (show i = 0 ∨ i = 1 ∨ i = 2 ∨ i = 3 by omega) with rfl | rfl | rfl | rfl
      · exact (hHq 0 _ rfl).2
      · exact (hHq 1 _ rfl).2
      · exact (hHq 2 _ rfl).2
      · exact (hHq 3 _ rfl).2
    · have hi : i < 1 := hi
      have e : i = 0 := by omega
      subst e
      exact o1
    · have hi : i < 1 := hi
      have e : i = 0 := by omega
      subst e
      exact k0
    · have hi : i < 1 := hi
      have e : i = 0 := by omega
      subst e
      exact k_ati k1 hg
    · have hi : i < 1 := hi
      have e : i = 0 := by omega
      subst e
      exact k2
    · have hi : i < 1 := hi
      have e : i = 0 := by omega
      subst e
      exact k3
    · have hi : i < 1 := hi
      have e : i = 0 := by omega
      subst e
      exact k4
    · have hi : i < 1 := hi
      have e : i = 0 := by omega
      subst e
      exact k_ati k5 (fun j _ => k_now j)
    · have hi : i < 1 := hi
      have e : i = 0 := by omega
      subst e
      exact k6
    · have hi : i < 1 := hi
      have e : i = 0 := by omega
      subst e
      exact k7
    · have hi : i < 1 := hi
      have e : i = 0 := by omega
      subst e
      exact k8
    · have hi : i < 1 := hi
      have e : i = 0 := by omega
      subst e
      exact k9
    · have hi : i < 1 := hi
      have e : i = 0 := by omega
      subst e
      exact k10
end kFin
theorem k_fin {D : va_G} {cA : Nat → ClassId} {H : Heap} {A : Nat → Prop} {a mm : Nat} {T5 T6 : va_W} (st sv bb : Nat) (h5 : kF5 cA a T5) (h6 : kF6 cA mm T6) (hP : va_P D vwCl (T5 ++ T6) H) (hD : va_D A (T5 ++ T6)) :
    ∃ ad : Nat → Nat → Nat, ad 18 0 = a ∧ ad 19 0 = mm ∧ ad 30 0 = st ∧ ad 31 0 = sv ∧ ad 32 0 = bb ∧ va_P D vwCl (nv_ws (D, ad, cA) k_h0) H ∧ va_D (nv_A (D, ad, cA)) (nv_ws (D, ad, cA) k_h0) ∧ ∀ q, nv_A (D, ad, cA) q → A q := by
  obtain ⟨n0, f0, p0, q0, pl0, n2, f2, p1, q1, pl1, n1, f1, s0, m0, g0, x0, y0, s1, m1, g1, x1, y1, tp, tq, sh, hl, hp0, hp1, hh, rfl⟩ := h5
  obtain ⟨r1, r2, r3, r4, r5, r6, r7, r8, r9, r10, g, hg, rfl⟩ := h6
  obtain ⟨u0, u1, u2, u3, u4, u5, u6, u7, rfl⟩ := k_l8 hp0
  obtain ⟨w0, w1, w2, w3, w4, w5, w6, w7, rfl⟩ := k_l8 hp1
  obtain ⟨e0, e1, e2, e3, rfl⟩ := k_l4 hh
  obtain ⟨d1, d2⟩ := k_finD (D := D) st sv bb hD k_h0
  exact ⟨_, rfl, rfl, rfl, rfl, rfl, k_finP st sv bb hg hP, d1, d2⟩
