/-! (C) the law's loop -/
theorem lw_gt {L i : Nat} (hL : L ≤ 3072) (hi : i ≤ 3072) (h : ¬ nI L - (6 : Int32) < nI i) : i + 6 ≤ L := by
  have e1 : (nI i).toInt = i := nI_toInt (by omega)
  by_cases h6 : 6 ≤ L
  · have e2 : nI L - (6 : Int32) = nI (L - 6) := nI_sub (b := 6) h6
    rw [e2] at h
    have e3 : (nI (L - 6)).toInt = ((L - 6 : Nat) : Int) := nI_toInt (by omega)
    have h9 : ¬ (nI (L - 6)).toInt < (nI i).toInt := fun q => h (Int32.lt_iff_toInt_lt.mpr q)
    rw [e3, e1] at h9
    omega
  · exfalso
    apply h
    rw [Int32.lt_iff_toInt_lt, e1]
    have h7 : ∀ k : Fin 6, (nI k.val - (6 : Int32)).toInt < 0 := by decide
    have h8 : (nI L - (6 : Int32)).toInt < 0 := h7 ⟨L, by omega⟩
    omega
section Lw
variable {X b L n0 i : Nat} {xs : Nat → Int32} {C R : St} {z y : Nat}
theorem tX_of (h : Rel X C R) : sT C X = 10 := (h.2.ck.1 0 _ rfl).1
theorem tM_of (h : Rel X C R) : sT R (X + 34) = 11 := (h.2.rk.1 0 _ rfl).1
theorem lt_cut {x k : Int} (h : ¬ x < k) (h2 : x < k + 1) : x = k := by omega
set_option maxRecDepth 20000 in
theorem lw_c0 (hL : L ≤ 3072) (hi : i + 6 ≤ L) (hR : Rel X C R) (hz : z ≤ n0 + 80 + 4 * 512) (hy : y ≤ 70000 + 400 * 512) (hk : ∀ C1 R1, Rel X C1 R1 → ∀ z1 y1, z1 ≤ z + 4 → y1 ≤ y + 400 → EvL b L xs n0 1338 [(3, iv (nI i)), (0, qv (some b)), (1, qv (some X)), (2, qv (some (X + 34)))] [] C1 R1 z1 y1) (w : Int32) (h : w.toInt = 0) : EvL b L xs n0 33 [(3, iv (nI i)), (0, qv (some b)), (1, qv (some X)), (2, qv (some (X + 34)))] [iv w] C R z y := by
  refine el_tabIn (pc' := 184) dL_law_33 (by rw [h]; decide) (by rw [h]; decide) (by rw [h]; rfl) (by decide) ?_
  exact lc_0 (X := X) (M := X + 34) (fun _ _ _ _ _ _ h => h.sy) (fun _ _ h => h.ap) hL hi hR (tX_of hR) (tM_of hR) (Nat.le_trans hz (Nat.le_add_right _ _)) hy (bt_sheet X) hk
set_option maxRecDepth 20000 in
theorem lw_c1 (hL : L ≤ 3072) (hi : i + 6 ≤ L) (hR : Rel X C R) (hz : z ≤ n0 + 80 + 4 * 512) (hy : y ≤ 70000 + 400 * 512) (hk : ∀ C1 R1, Rel X C1 R1 → ∀ z1 y1, z1 ≤ z + 4 → y1 ≤ y + 400 → EvL b L xs n0 1338 [(3, iv (nI i)), (0, qv (some b)), (1, qv (some X)), (2, qv (some (X + 34)))] [] C1 R1 z1 y1) (w : Int32) (h : w.toInt = 1) : EvL b L xs n0 33 [(3, iv (nI i)), (0, qv (some b)), (1, qv (some X)), (2, qv (some (X + 34)))] [iv w] C R z y := by
  refine el_tabIn (pc' := 227) dL_law_33 (by rw [h]; decide) (by rw [h]; decide) (by rw [h]; rfl) (by decide) ?_
  exact lc_1 (X := X) (M := X + 34) (fun _ _ _ _ _ _ h => h.sy) (fun _ _ h => h.ap) hL hi hR (tX_of hR) (tM_of hR) (Nat.le_trans hz (Nat.le_add_right _ _)) hy (bt_set X) hk
set_option maxRecDepth 20000 in
theorem lw_c2 (hL : L ≤ 3072) (hi : i + 6 ≤ L) (hR : Rel X C R) (hz : z ≤ n0 + 80 + 4 * 512) (hy : y ≤ 70000 + 400 * 512) (hk : ∀ C1 R1, Rel X C1 R1 → ∀ z1 y1, z1 ≤ z + 4 → y1 ≤ y + 400 → EvL b L xs n0 1338 [(3, iv (nI i)), (0, qv (some b)), (1, qv (some X)), (2, qv (some (X + 34)))] [] C1 R1 z1 y1) (w : Int32) (h : w.toInt = 2) : EvL b L xs n0 33 [(3, iv (nI i)), (0, qv (some b)), (1, qv (some X)), (2, qv (some (X + 34)))] [iv w] C R z y := by
  refine el_tabIn (pc' := 301) dL_law_33 (by rw [h]; decide) (by rw [h]; decide) (by rw [h]; rfl) (by decide) ?_
  exact lc_2 (X := X) (M := X + 34) (fun _ _ _ _ _ _ h => h.sy) (fun _ _ h => h.ap) hL hi hR (tX_of hR) (tM_of hR) (Nat.le_trans hz (Nat.le_add_right _ _)) hy (bt_copy X) hk
set_option maxRecDepth 20000 in
theorem lw_c3 (hL : L ≤ 3072) (hi : i + 6 ≤ L) (hR : Rel X C R) (hz : z ≤ n0 + 80 + 4 * 512) (hy : y ≤ 70000 + 400 * 512) (hk : ∀ C1 R1, Rel X C1 R1 → ∀ z1 y1, z1 ≤ z + 4 → y1 ≤ y + 400 → EvL b L xs n0 1338 [(3, iv (nI i)), (0, qv (some b)), (1, qv (some X)), (2, qv (some (X + 34)))] [] C1 R1 z1 y1) (w : Int32) (h : w.toInt = 3) : EvL b L xs n0 33 [(3, iv (nI i)), (0, qv (some b)), (1, qv (some X)), (2, qv (some (X + 34)))] [iv w] C R z y := by
  refine el_tabIn (pc' := 364) dL_law_33 (by rw [h]; decide) (by rw [h]; decide) (by rw [h]; rfl) (by decide) ?_
  exact lc_3 (X := X) (M := X + 34) (fun _ _ _ _ _ _ h => h.sy) (fun _ _ h => h.ap) hL hi hR (tX_of hR) (tM_of hR) (Nat.le_trans hz (Nat.le_add_right _ _)) hy (bt_drop X) hk
set_option maxRecDepth 20000 in
theorem lw_c4 (hL : L ≤ 3072) (hi : i + 6 ≤ L) (hR : Rel X C R) (hz : z ≤ n0 + 80 + 4 * 512) (hy : y ≤ 70000 + 400 * 512) (hk : ∀ C1 R1, Rel X C1 R1 → ∀ z1 y1, z1 ≤ z + 4 → y1 ≤ y + 400 → EvL b L xs n0 1338 [(3, iv (nI i)), (0, qv (some b)), (1, qv (some X)), (2, qv (some (X + 34)))] [] C1 R1 z1 y1) (w : Int32) (h : w.toInt = 4) : EvL b L xs n0 33 [(3, iv (nI i)), (0, qv (some b)), (1, qv (some X)), (2, qv (some (X + 34)))] [iv w] C R z y := by
  refine el_tabIn (pc' := 387) dL_law_33 (by rw [h]; decide) (by rw [h]; decide) (by rw [h]; rfl) (by decide) ?_
  exact lc_4 (X := X) (M := X + 34) (fun _ _ _ _ _ _ h => h.sy) (fun _ _ h => h.ap) hL hi hR (tX_of hR) (tM_of hR) (Nat.le_trans hz (Nat.le_add_right _ _)) hy (bt_part X) hk
set_option maxRecDepth 20000 in
theorem lw_c5 (hL : L ≤ 3072) (hi : i + 6 ≤ L) (hR : Rel X C R) (hz : z ≤ n0 + 80 + 4 * 512) (hy : y ≤ 70000 + 400 * 512) (hk : ∀ C1 R1, Rel X C1 R1 → ∀ z1 y1, z1 ≤ z + 4 → y1 ≤ y + 400 → EvL b L xs n0 1338 [(3, iv (nI i)), (0, qv (some b)), (1, qv (some X)), (2, qv (some (X + 34)))] [] C1 R1 z1 y1) (w : Int32) (h : w.toInt = 5) : EvL b L xs n0 33 [(3, iv (nI i)), (0, qv (some b)), (1, qv (some X)), (2, qv (some (X + 34)))] [iv w] C R z y := by
  refine el_tabIn (pc' := 450) dL_law_33 (by rw [h]; decide) (by rw [h]; decide) (by rw [h]; rfl) (by decide) ?_
  exact lc_5 (X := X) (M := X + 34) (fun _ _ _ _ _ _ h => h.sy) (fun _ _ h => h.ap) hL hi hR (tX_of hR) (tM_of hR) (Nat.le_trans hz (Nat.le_add_right _ _)) hy (bt_layers X) hk
set_option maxRecDepth 20000 in
theorem lw_c6 (hL : L ≤ 3072) (hi : i + 6 ≤ L) (hR : Rel X C R) (hz : z ≤ n0 + 80 + 4 * 512) (hy : y ≤ 70000 + 400 * 512) (hk : ∀ C1 R1, Rel X C1 R1 → ∀ z1 y1, z1 ≤ z + 4 → y1 ≤ y + 400 → EvL b L xs n0 1338 [(3, iv (nI i)), (0, qv (some b)), (1, qv (some X)), (2, qv (some (X + 34)))] [] C1 R1 z1 y1) (w : Int32) (h : w.toInt = 6) : EvL b L xs n0 33 [(3, iv (nI i)), (0, qv (some b)), (1, qv (some X)), (2, qv (some (X + 34)))] [iv w] C R z y := by
  refine el_tabIn (pc' := 513) dL_law_33 (by rw [h]; decide) (by rw [h]; decide) (by rw [h]; rfl) (by decide) ?_
  exact lc_6 (X := X) (M := X + 34) (fun _ _ _ _ _ _ h => h.sy) (fun _ _ h => h.ap) hL hi hR (tX_of hR) (tM_of hR) (Nat.le_trans hz (Nat.le_add_right _ _)) hy (bt_clear X) hk
set_option maxRecDepth 20000 in
theorem lw_c7 (hL : L ≤ 3072) (hi : i + 6 ≤ L) (hR : Rel X C R) (hz : z ≤ n0 + 80 + 4 * 512) (hy : y ≤ 70000 + 400 * 512) (hk : ∀ C1 R1, Rel X C1 R1 → ∀ z1 y1, z1 ≤ z + 4 → y1 ≤ y + 400 → EvL b L xs n0 1338 [(3, iv (nI i)), (0, qv (some b)), (1, qv (some X)), (2, qv (some (X + 34)))] [] C1 R1 z1 y1) (w : Int32) (h : w.toInt = 7) : EvL b L xs n0 33 [(3, iv (nI i)), (0, qv (some b)), (1, qv (some X)), (2, qv (some (X + 34)))] [iv w] C R z y := by
  refine el_tabIn (pc' := 536) dL_law_33 (by rw [h]; decide) (by rw [h]; decide) (by rw [h]; rfl) (by decide) ?_
  exact lc_7 (X := X) (M := X + 34) (fun _ _ _ _ _ _ h => h.sy) (fun _ _ h => h.ap) hL hi hR (tX_of hR) (tM_of hR) (Nat.le_trans hz (Nat.le_add_right _ _)) hy (bt_kind X) hk
set_option maxRecDepth 20000 in
theorem lw_c8 (hL : L ≤ 3072) (hi : i + 6 ≤ L) (hR : Rel X C R) (hz : z ≤ n0 + 80 + 4 * 512) (hy : y ≤ 70000 + 400 * 512) (hk : ∀ C1 R1, Rel X C1 R1 → ∀ z1 y1, z1 ≤ z + 4 → y1 ≤ y + 400 → EvL b L xs n0 1338 [(3, iv (nI i)), (0, qv (some b)), (1, qv (some X)), (2, qv (some (X + 34)))] [] C1 R1 z1 y1) (w : Int32) (h : w.toInt = 8) : EvL b L xs n0 33 [(3, iv (nI i)), (0, qv (some b)), (1, qv (some X)), (2, qv (some (X + 34)))] [iv w] C R z y := by
  refine el_tabIn (pc' := 559) dL_law_33 (by rw [h]; decide) (by rw [h]; decide) (by rw [h]; rfl) (by decide) ?_
  exact lc_8 (X := X) (M := X + 34) (fun _ _ _ _ _ _ h => h.sy) (fun _ _ h => h.ap) hL hi hR (tX_of hR) (tM_of hR) (Nat.le_trans hz (Nat.le_add_right _ _)) hy (bt_is X) hk
set_option maxRecDepth 20000 in
theorem lw_c9 (hL : L ≤ 3072) (hi : i + 6 ≤ L) (hR : Rel X C R) (hz : z ≤ n0 + 80 + 4 * 512) (hy : y ≤ 70000 + 400 * 512) (hk : ∀ C1 R1, Rel X C1 R1 → ∀ z1 y1, z1 ≤ z + 4 → y1 ≤ y + 400 → EvL b L xs n0 1338 [(3, iv (nI i)), (0, qv (some b)), (1, qv (some X)), (2, qv (some (X + 34)))] [] C1 R1 z1 y1) (w : Int32) (h : w.toInt = 9) : EvL b L xs n0 33 [(3, iv (nI i)), (0, qv (some b)), (1, qv (some X)), (2, qv (some (X + 34)))] [iv w] C R z y := by
  refine el_tabIn (pc' := 592) dL_law_33 (by rw [h]; decide) (by rw [h]; decide) (by rw [h]; rfl) (by decide) ?_
  exact lc_9 (X := X) (M := X + 34) (fun _ _ _ _ _ _ h => h.sy) (fun _ _ h => h.ap) hL hi hR (tX_of hR) (tM_of hR) (Nat.le_trans hz (Nat.le_add_right _ _)) hy (bt_ask X) hk
set_option maxRecDepth 20000 in
theorem lw_c10 (hL : L ≤ 3072) (hi : i + 6 ≤ L) (hR : Rel X C R) (hz : z ≤ n0 + 80 + 4 * 512) (hy : y ≤ 70000 + 400 * 512) (hk : ∀ C1 R1, Rel X C1 R1 → ∀ z1 y1, z1 ≤ z + 4 → y1 ≤ y + 400 → EvL b L xs n0 1338 [(3, iv (nI i)), (0, qv (some b)), (1, qv (some X)), (2, qv (some (X + 34)))] [] C1 R1 z1 y1) (w : Int32) (h : w.toInt = 10) : EvL b L xs n0 33 [(3, iv (nI i)), (0, qv (some b)), (1, qv (some X)), (2, qv (some (X + 34)))] [iv w] C R z y := by
  refine el_tabIn (pc' := 625) dL_law_33 (by rw [h]; decide) (by rw [h]; decide) (by rw [h]; rfl) (by decide) ?_
  exact lc_10 (X := X) (M := X + 34) (fun _ _ _ _ _ _ h => h.sy) (fun _ _ h => h.ap) hL hi hR (tX_of hR) (tM_of hR) (Nat.le_trans hz (Nat.le_add_right _ _)) hy (bt_trace X) hk
set_option maxRecDepth 20000 in
theorem lw_c11 (hL : L ≤ 3072) (hi : i + 6 ≤ L) (hR : Rel X C R) (hz : z ≤ n0 + 80 + 4 * 512) (hy : y ≤ 70000 + 400 * 512) (hk : ∀ C1 R1, Rel X C1 R1 → ∀ z1 y1, z1 ≤ z + 4 → y1 ≤ y + 400 → EvL b L xs n0 1338 [(3, iv (nI i)), (0, qv (some b)), (1, qv (some X)), (2, qv (some (X + 34)))] [] C1 R1 z1 y1) (w : Int32) (h : w.toInt = 11) : EvL b L xs n0 33 [(3, iv (nI i)), (0, qv (some b)), (1, qv (some X)), (2, qv (some (X + 34)))] [iv w] C R z y := by
  refine el_tabIn (pc' := 648) dL_law_33 (by rw [h]; decide) (by rw [h]; decide) (by rw [h]; rfl) (by decide) ?_
  exact lc_11 (X := X) (M := X + 34) (fun _ _ _ _ _ _ h => h.sy) (fun _ _ h => h.ap) hL hi hR (tX_of hR) (tM_of hR) (Nat.le_trans hz (Nat.le_add_right _ _)) hy (bt_gate X) hk
set_option maxRecDepth 20000 in
theorem lw_c12 (hL : L ≤ 3072) (hi : i + 6 ≤ L) (hR : Rel X C R) (hz : z ≤ n0 + 80 + 4 * 512) (hy : y ≤ 70000 + 400 * 512) (hk : ∀ C1 R1, Rel X C1 R1 → ∀ z1 y1, z1 ≤ z + 4 → y1 ≤ y + 400 → EvL b L xs n0 1338 [(3, iv (nI i)), (0, qv (some b)), (1, qv (some X)), (2, qv (some (X + 34)))] [] C1 R1 z1 y1) (w : Int32) (h : w.toInt = 12) : EvL b L xs n0 33 [(3, iv (nI i)), (0, qv (some b)), (1, qv (some X)), (2, qv (some (X + 34)))] [iv w] C R z y := by
  refine el_tabIn (pc' := 681) dL_law_33 (by rw [h]; decide) (by rw [h]; decide) (by rw [h]; rfl) (by decide) ?_
  exact lc_12 (X := X) (M := X + 34) (fun _ _ _ _ _ _ h => h.sy) (fun _ _ h => h.ap) hL hi hR (tX_of hR) (tM_of hR) (Nat.le_trans hz (Nat.le_add_right _ _)) hy (bt_vent X) hk
set_option maxRecDepth 20000 in
theorem lw_c13 (hL : L ≤ 3072) (hi : i + 6 ≤ L) (hR : Rel X C R) (hz : z ≤ n0 + 80 + 4 * 512) (hy : y ≤ 70000 + 400 * 512) (hk : ∀ C1 R1, Rel X C1 R1 → ∀ z1 y1, z1 ≤ z + 4 → y1 ≤ y + 400 → EvL b L xs n0 1338 [(3, iv (nI i)), (0, qv (some b)), (1, qv (some X)), (2, qv (some (X + 34)))] [] C1 R1 z1 y1) (w : Int32) (h : w.toInt = 13) : EvL b L xs n0 33 [(3, iv (nI i)), (0, qv (some b)), (1, qv (some X)), (2, qv (some (X + 34)))] [iv w] C R z y := by
  refine el_tabIn (pc' := 714) dL_law_33 (by rw [h]; decide) (by rw [h]; decide) (by rw [h]; rfl) (by decide) ?_
  exact lc_13 (X := X) (M := X + 34) (fun _ _ _ _ _ _ h => h.sy) (fun _ _ h => h.ap) hL hi hR (tX_of hR) (tM_of hR) (Nat.le_trans hz (Nat.le_add_right _ _)) hy (bt_cell X) hk
set_option maxRecDepth 20000 in
theorem lw_c14 (hL : L ≤ 3072) (hi : i + 6 ≤ L) (hR : Rel X C R) (hz : z ≤ n0 + 80 + 4 * 512) (hy : y ≤ 70000 + 400 * 512) (hk : ∀ C1 R1, Rel X C1 R1 → ∀ z1 y1, z1 ≤ z + 4 → y1 ≤ y + 400 → EvL b L xs n0 1338 [(3, iv (nI i)), (0, qv (some b)), (1, qv (some X)), (2, qv (some (X + 34)))] [] C1 R1 z1 y1) (w : Int32) (h : w.toInt = 14) : EvL b L xs n0 33 [(3, iv (nI i)), (0, qv (some b)), (1, qv (some X)), (2, qv (some (X + 34)))] [iv w] C R z y := by
  refine el_tabIn (pc' := 757) dL_law_33 (by rw [h]; decide) (by rw [h]; decide) (by rw [h]; rfl) (by decide) ?_
  exact lc_14 (X := X) (M := X + 34) (fun _ _ _ _ _ _ h => h.sy) (fun _ _ h => h.ap) hL hi hR (tX_of hR) (tM_of hR) (Nat.le_trans hz (Nat.le_add_right _ _)) hy (bt_meeting X) hk
set_option maxRecDepth 20000 in
theorem lw_c15 (hL : L ≤ 3072) (hi : i + 6 ≤ L) (hR : Rel X C R) (hz : z ≤ n0 + 80 + 4 * 512) (hy : y ≤ 70000 + 400 * 512) (hk : ∀ C1 R1, Rel X C1 R1 → ∀ z1 y1, z1 ≤ z + 4 → y1 ≤ y + 400 → EvL b L xs n0 1338 [(3, iv (nI i)), (0, qv (some b)), (1, qv (some X)), (2, qv (some (X + 34)))] [] C1 R1 z1 y1) (w : Int32) (h : w.toInt = 15) : EvL b L xs n0 33 [(3, iv (nI i)), (0, qv (some b)), (1, qv (some X)), (2, qv (some (X + 34)))] [iv w] C R z y := by
  refine el_tabIn (pc' := 800) dL_law_33 (by rw [h]; decide) (by rw [h]; decide) (by rw [h]; rfl) (by decide) ?_
  exact lc_15 (X := X) (M := X + 34) (fun _ _ _ _ _ _ h => h.sy) (fun _ _ h => h.ap) hL hi hR (tX_of hR) (tM_of hR) (Nat.le_trans hz (Nat.le_add_right _ _)) hy (bt_trap X) hk
set_option maxRecDepth 20000 in
theorem lw_c16 (hL : L ≤ 3072) (hi : i + 6 ≤ L) (hR : Rel X C R) (hz : z ≤ n0 + 80 + 4 * 512) (hy : y ≤ 70000 + 400 * 512) (hk : ∀ C1 R1, Rel X C1 R1 → ∀ z1 y1, z1 ≤ z + 4 → y1 ≤ y + 400 → EvL b L xs n0 1338 [(3, iv (nI i)), (0, qv (some b)), (1, qv (some X)), (2, qv (some (X + 34)))] [] C1 R1 z1 y1) (w : Int32) (h : w.toInt = 16) : EvL b L xs n0 33 [(3, iv (nI i)), (0, qv (some b)), (1, qv (some X)), (2, qv (some (X + 34)))] [iv w] C R z y := by
  refine el_tabIn (pc' := 833) dL_law_33 (by rw [h]; decide) (by rw [h]; decide) (by rw [h]; rfl) (by decide) ?_
  exact lc_16 (X := X) (M := X + 34) (fun _ _ _ _ _ _ h => h.sy) (fun _ _ h => h.ap) hL hi hR (tX_of hR) (tM_of hR) (Nat.le_trans hz (Nat.le_add_right _ _)) hy (bt_force X) hk
set_option maxRecDepth 20000 in
theorem lw_c17 (hL : L ≤ 3072) (hi : i + 6 ≤ L) (hR : Rel X C R) (hz : z ≤ n0 + 80 + 4 * 512) (hy : y ≤ 70000 + 400 * 512) (hk : ∀ C1 R1, Rel X C1 R1 → ∀ z1 y1, z1 ≤ z + 4 → y1 ≤ y + 400 → EvL b L xs n0 1338 [(3, iv (nI i)), (0, qv (some b)), (1, qv (some X)), (2, qv (some (X + 34)))] [] C1 R1 z1 y1) (w : Int32) (h : w.toInt = 17) : EvL b L xs n0 33 [(3, iv (nI i)), (0, qv (some b)), (1, qv (some X)), (2, qv (some (X + 34)))] [iv w] C R z y := by
  refine el_tabIn (pc' := 867) dL_law_33 (by rw [h]; decide) (by rw [h]; decide) (by rw [h]; rfl) (by decide) ?_
  exact lc_17 (X := X) (M := X + 34) (fun _ _ _ _ _ _ h => h.sy) (fun _ _ h => h.ap) hL hi hR (tX_of hR) (tM_of hR) (Nat.le_trans hz (Nat.le_add_right _ _)) hy (bt_best X) hk
set_option maxRecDepth 20000 in
theorem lw_c18 (hL : L ≤ 3072) (hi : i + 6 ≤ L) (hR : Rel X C R) (hz : z ≤ n0 + 80 + 4 * 512) (hy : y ≤ 70000 + 400 * 512) (hk : ∀ C1 R1, Rel X C1 R1 → ∀ z1 y1, z1 ≤ z + 4 → y1 ≤ y + 400 → EvL b L xs n0 1338 [(3, iv (nI i)), (0, qv (some b)), (1, qv (some X)), (2, qv (some (X + 34)))] [] C1 R1 z1 y1) (w : Int32) (h : w.toInt = 18) : EvL b L xs n0 33 [(3, iv (nI i)), (0, qv (some b)), (1, qv (some X)), (2, qv (some (X + 34)))] [iv w] C R z y := by
  refine el_tabIn (pc' := 890) dL_law_33 (by rw [h]; decide) (by rw [h]; decide) (by rw [h]; rfl) (by decide) ?_
  exact lc_18 (X := X) (M := X + 34) (fun _ _ _ _ _ _ h => h.sy) (fun _ _ h => h.ap) hL hi hR (tX_of hR) (tM_of hR) (Nat.le_trans hz (Nat.le_add_right _ _)) hy (bt_branch X) hk
set_option maxRecDepth 20000 in
theorem lw_c19 (hL : L ≤ 3072) (hi : i + 6 ≤ L) (hR : Rel X C R) (hz : z ≤ n0 + 80 + 4 * 512) (hy : y ≤ 70000 + 400 * 512) (hk : ∀ C1 R1, Rel X C1 R1 → ∀ z1 y1, z1 ≤ z + 4 → y1 ≤ y + 400 → EvL b L xs n0 1338 [(3, iv (nI i)), (0, qv (some b)), (1, qv (some X)), (2, qv (some (X + 34)))] [] C1 R1 z1 y1) (w : Int32) (h : w.toInt = 19) : EvL b L xs n0 33 [(3, iv (nI i)), (0, qv (some b)), (1, qv (some X)), (2, qv (some (X + 34)))] [iv w] C R z y := by
  refine el_tabIn (pc' := 933) dL_law_33 (by rw [h]; decide) (by rw [h]; decide) (by rw [h]; rfl) (by decide) ?_
  exact lc_19 (X := X) (M := X + 34) (fun _ _ _ _ _ _ h => h.sy) (fun _ _ h => h.ap) hL hi hR (tX_of hR) (tM_of hR) (Nat.le_trans hz (Nat.le_add_right _ _)) hy (bt_hang X) hk
set_option maxRecDepth 20000 in
theorem lw_c20 (hL : L ≤ 3072) (hi : i + 6 ≤ L) (hR : Rel X C R) (hz : z ≤ n0 + 80 + 4 * 512) (hy : y ≤ 70000 + 400 * 512) (hk : ∀ C1 R1, Rel X C1 R1 → ∀ z1 y1, z1 ≤ z + 4 → y1 ≤ y + 400 → EvL b L xs n0 1338 [(3, iv (nI i)), (0, qv (some b)), (1, qv (some X)), (2, qv (some (X + 34)))] [] C1 R1 z1 y1) (w : Int32) (h : w.toInt = 20) : EvL b L xs n0 33 [(3, iv (nI i)), (0, qv (some b)), (1, qv (some X)), (2, qv (some (X + 34)))] [iv w] C R z y := by
  refine el_tabIn (pc' := 966) dL_law_33 (by rw [h]; decide) (by rw [h]; decide) (by rw [h]; rfl) (by decide) ?_
  exact lc_20 (X := X) (M := X + 34) (fun _ _ _ _ _ _ h => h.sy) (fun _ _ h => h.ap) hL hi hR (tX_of hR) (tM_of hR) (Nat.le_trans hz (Nat.le_add_right _ _)) hy (bt_strip X) hk
set_option maxRecDepth 20000 in
theorem lw_c21 (hL : L ≤ 3072) (hi : i + 6 ≤ L) (hR : Rel X C R) (hz : z ≤ n0 + 80 + 4 * 512) (hy : y ≤ 70000 + 400 * 512) (hk : ∀ C1 R1, Rel X C1 R1 → ∀ z1 y1, z1 ≤ z + 4 → y1 ≤ y + 400 → EvL b L xs n0 1338 [(3, iv (nI i)), (0, qv (some b)), (1, qv (some X)), (2, qv (some (X + 34)))] [] C1 R1 z1 y1) (w : Int32) (h : w.toInt = 21) : EvL b L xs n0 33 [(3, iv (nI i)), (0, qv (some b)), (1, qv (some X)), (2, qv (some (X + 34)))] [iv w] C R z y := by
  refine el_tabIn (pc' := 979) dL_law_33 (by rw [h]; decide) (by rw [h]; decide) (by rw [h]; rfl) (by decide) ?_
  exact lc_21 (X := X) (M := X + 34) (fun _ _ _ _ _ _ h => h.sy) (fun _ _ h => h.ap) hL hi hR (tX_of hR) (tM_of hR) (Nat.le_trans hz (Nat.le_add_right _ _)) hy (bt_end X) hk
set_option maxRecDepth 20000 in
theorem lw_c22 (hL : L ≤ 3072) (hi : i + 6 ≤ L) (hR : Rel X C R) (hz : z ≤ n0 + 80 + 4 * 512) (hy : y ≤ 70000 + 400 * 512) (hk : ∀ C1 R1, Rel X C1 R1 → ∀ z1 y1, z1 ≤ z + 4 → y1 ≤ y + 400 → EvL b L xs n0 1338 [(3, iv (nI i)), (0, qv (some b)), (1, qv (some X)), (2, qv (some (X + 34)))] [] C1 R1 z1 y1) (w : Int32) (h : w.toInt = 22) : EvL b L xs n0 33 [(3, iv (nI i)), (0, qv (some b)), (1, qv (some X)), (2, qv (some (X + 34)))] [iv w] C R z y := by
  refine el_tabIn (pc' := 1002) dL_law_33 (by rw [h]; decide) (by rw [h]; decide) (by rw [h]; rfl) (by decide) ?_
  exact lc_22 (X := X) (M := X + 34) (fun _ _ _ _ _ _ h => h.sy) (fun _ _ h => h.ap) hL hi hR (tX_of hR) (tM_of hR) (Nat.le_trans hz (Nat.le_add_right _ _)) hy (bt_runners X) hk
set_option maxRecDepth 20000 in
theorem lw_c23 (hL : L ≤ 3072) (hi : i + 6 ≤ L) (hR : Rel X C R) (hz : z ≤ n0 + 80 + 4 * 512) (hy : y ≤ 70000 + 400 * 512) (hk : ∀ C1 R1, Rel X C1 R1 → ∀ z1 y1, z1 ≤ z + 4 → y1 ≤ y + 400 → EvL b L xs n0 1338 [(3, iv (nI i)), (0, qv (some b)), (1, qv (some X)), (2, qv (some (X + 34)))] [] C1 R1 z1 y1) (w : Int32) (h : w.toInt = 23) : EvL b L xs n0 33 [(3, iv (nI i)), (0, qv (some b)), (1, qv (some X)), (2, qv (some (X + 34)))] [iv w] C R z y := by
  refine el_tabIn (pc' := 1025) dL_law_33 (by rw [h]; decide) (by rw [h]; decide) (by rw [h]; rfl) (by decide) ?_
  exact lc_23 (X := X) (M := X + 34) (fun _ _ _ _ _ _ h => h.sy) (fun _ _ h => h.ap) hL hi hR (tX_of hR) (tM_of hR) (Nat.le_trans hz (Nat.le_add_right _ _)) hy (bt_balance X) hk
set_option maxRecDepth 20000 in
theorem lw_c24 (hL : L ≤ 3072) (hi : i + 6 ≤ L) (hR : Rel X C R) (hz : z ≤ n0 + 80 + 4 * 512) (hy : y ≤ 70000 + 400 * 512) (hk : ∀ C1 R1, Rel X C1 R1 → ∀ z1 y1, z1 ≤ z + 4 → y1 ≤ y + 400 → EvL b L xs n0 1338 [(3, iv (nI i)), (0, qv (some b)), (1, qv (some X)), (2, qv (some (X + 34)))] [] C1 R1 z1 y1) (w : Int32) (h : w.toInt = 24) : EvL b L xs n0 33 [(3, iv (nI i)), (0, qv (some b)), (1, qv (some X)), (2, qv (some (X + 34)))] [iv w] C R z y := by
  refine el_tabIn (pc' := 1048) dL_law_33 (by rw [h]; decide) (by rw [h]; decide) (by rw [h]; rfl) (by decide) ?_
  exact lc_24 (X := X) (M := X + 34) (fun _ _ _ _ _ _ h => h.sy) (fun _ _ h => h.ap) hL hi hR (tX_of hR) (tM_of hR) (Nat.le_trans hz (Nat.le_add_right _ _)) hy (bt_size X) hk
set_option maxRecDepth 20000 in
theorem lw_c25 (hL : L ≤ 3072) (hi : i + 6 ≤ L) (hR : Rel X C R) (hz : z ≤ n0 + 80 + 4 * 512) (hy : y ≤ 70000 + 400 * 512) (hk : ∀ C1 R1, Rel X C1 R1 → ∀ z1 y1, z1 ≤ z + 4 → y1 ≤ y + 400 → EvL b L xs n0 1338 [(3, iv (nI i)), (0, qv (some b)), (1, qv (some X)), (2, qv (some (X + 34)))] [] C1 R1 z1 y1) (w : Int32) (h : w.toInt = 25) : EvL b L xs n0 33 [(3, iv (nI i)), (0, qv (some b)), (1, qv (some X)), (2, qv (some (X + 34)))] [iv w] C R z y := by
  refine el_tabIn (pc' := 1071) dL_law_33 (by rw [h]; decide) (by rw [h]; decide) (by rw [h]; rfl) (by decide) ?_
  exact lc_25 (X := X) (M := X + 34) (fun _ _ _ _ _ _ h => h.sy) (fun _ _ h => h.ap) hL hi hR (tX_of hR) (tM_of hR) (Nat.le_trans hz (Nat.le_add_right _ _)) hy (bt_beat X) hk
set_option maxRecDepth 20000 in
theorem lw_c26 (hL : L ≤ 3072) (hi : i + 6 ≤ L) (hR : Rel X C R) (hz : z ≤ n0 + 80 + 4 * 512) (hy : y ≤ 70000 + 400 * 512) (hk : ∀ C1 R1, Rel X C1 R1 → ∀ z1 y1, z1 ≤ z + 4 → y1 ≤ y + 400 → EvL b L xs n0 1338 [(3, iv (nI i)), (0, qv (some b)), (1, qv (some X)), (2, qv (some (X + 34)))] [] C1 R1 z1 y1) (w : Int32) (h : w.toInt = 26) : EvL b L xs n0 33 [(3, iv (nI i)), (0, qv (some b)), (1, qv (some X)), (2, qv (some (X + 34)))] [iv w] C R z y := by
  refine el_tabIn (pc' := 1124) dL_law_33 (by rw [h]; decide) (by rw [h]; decide) (by rw [h]; rfl) (by decide) ?_
  exact lc_26 (X := X) (M := X + 34) (fun _ _ _ _ _ _ h => h.sy) (fun _ _ h => h.ap) hL hi hR (tX_of hR) (tM_of hR) (Nat.le_trans hz (Nat.le_add_right _ _)) hy (bt_warmth X) hk
set_option maxRecDepth 20000 in
theorem lw_c27 (hL : L ≤ 3072) (hi : i + 6 ≤ L) (hR : Rel X C R) (hz : z ≤ n0 + 80 + 4 * 512) (hy : y ≤ 70000 + 400 * 512) (hk : ∀ C1 R1, Rel X C1 R1 → ∀ z1 y1, z1 ≤ z + 4 → y1 ≤ y + 400 → EvL b L xs n0 1338 [(3, iv (nI i)), (0, qv (some b)), (1, qv (some X)), (2, qv (some (X + 34)))] [] C1 R1 z1 y1) (w : Int32) (h : w.toInt = 27) : EvL b L xs n0 33 [(3, iv (nI i)), (0, qv (some b)), (1, qv (some X)), (2, qv (some (X + 34)))] [iv w] C R z y := by
  refine el_tabIn (pc' := 1157) dL_law_33 (by rw [h]; decide) (by rw [h]; decide) (by rw [h]; rfl) (by decide) ?_
  exact lc_27 (X := X) (M := X + 34) (fun _ _ _ _ _ _ h => h.sy) (fun _ _ h => h.ap) hL hi hR (tX_of hR) (tM_of hR) (Nat.le_trans hz (Nat.le_add_right _ _)) hy (bt_press X) hk
set_option maxRecDepth 20000 in
theorem lw_c28 (hL : L ≤ 3072) (hi : i + 6 ≤ L) (hR : Rel X C R) (hz : z ≤ n0 + 80 + 4 * 512) (hy : y ≤ 70000 + 400 * 512) (hk : ∀ C1 R1, Rel X C1 R1 → ∀ z1 y1, z1 ≤ z + 4 → y1 ≤ y + 400 → EvL b L xs n0 1338 [(3, iv (nI i)), (0, qv (some b)), (1, qv (some X)), (2, qv (some (X + 34)))] [] C1 R1 z1 y1) (w : Int32) (h : w.toInt = 28) : EvL b L xs n0 33 [(3, iv (nI i)), (0, qv (some b)), (1, qv (some X)), (2, qv (some (X + 34)))] [iv w] C R z y := by
  refine el_tabIn (pc' := 1180) dL_law_33 (by rw [h]; decide) (by rw [h]; decide) (by rw [h]; rfl) (by decide) ?_
  exact lc_28 (X := X) (M := X + 34) (fun _ _ _ _ _ _ h => h.sy) (fun _ _ h => h.ap) hL hi hR (tX_of hR) (tM_of hR) (Nat.le_trans hz (Nat.le_add_right _ _)) hy (bt_job X) hk
set_option maxRecDepth 20000 in
theorem lw_c29 (hL : L ≤ 3072) (hi : i + 6 ≤ L) (hR : Rel X C R) (hz : z ≤ n0 + 80 + 4 * 512) (hy : y ≤ 70000 + 400 * 512) (hk : ∀ C1 R1, Rel X C1 R1 → ∀ z1 y1, z1 ≤ z + 4 → y1 ≤ y + 400 → EvL b L xs n0 1338 [(3, iv (nI i)), (0, qv (some b)), (1, qv (some X)), (2, qv (some (X + 34)))] [] C1 R1 z1 y1) (w : Int32) (h : w.toInt = 29) : EvL b L xs n0 33 [(3, iv (nI i)), (0, qv (some b)), (1, qv (some X)), (2, qv (some (X + 34)))] [iv w] C R z y := by
  refine el_tabIn (pc' := 1223) dL_law_33 (by rw [h]; decide) (by rw [h]; decide) (by rw [h]; rfl) (by decide) ?_
  exact lc_29 (X := X) (M := X + 34) (fun _ _ _ _ _ _ h => h.sy) (fun _ _ h => h.ap) hL hi hR (tX_of hR) (tM_of hR) (Nat.le_trans hz (Nat.le_add_right _ _)) hy (bt_plan X) hk
set_option maxRecDepth 20000 in
theorem lw_c30 (hL : L ≤ 3072) (hi : i + 6 ≤ L) (hR : Rel X C R) (hz : z ≤ n0 + 80 + 4 * 512) (hy : y ≤ 70000 + 400 * 512) (hk : ∀ C1 R1, Rel X C1 R1 → ∀ z1 y1, z1 ≤ z + 4 → y1 ≤ y + 400 → EvL b L xs n0 1338 [(3, iv (nI i)), (0, qv (some b)), (1, qv (some X)), (2, qv (some (X + 34)))] [] C1 R1 z1 y1) (w : Int32) (h : w.toInt = 30) : EvL b L xs n0 33 [(3, iv (nI i)), (0, qv (some b)), (1, qv (some X)), (2, qv (some (X + 34)))] [iv w] C R z y := by
  refine el_tabIn (pc' := 1236) dL_law_33 (by rw [h]; decide) (by rw [h]; decide) (by rw [h]; rfl) (by decide) ?_
  exact lc_30 (X := X) (M := X + 34) (fun _ _ _ _ _ _ h => h.sy) (fun _ _ h => h.ap) hL hi hR (tX_of hR) (tM_of hR) (Nat.le_trans hz (Nat.le_add_right _ _)) hy (bt_planned X) hk
set_option maxRecDepth 20000 in
theorem lw_c31 (hL : L ≤ 3072) (hi : i + 6 ≤ L) (hR : Rel X C R) (hz : z ≤ n0 + 80 + 4 * 512) (hy : y ≤ 70000 + 400 * 512) (hk : ∀ C1 R1, Rel X C1 R1 → ∀ z1 y1, z1 ≤ z + 4 → y1 ≤ y + 400 → EvL b L xs n0 1338 [(3, iv (nI i)), (0, qv (some b)), (1, qv (some X)), (2, qv (some (X + 34)))] [] C1 R1 z1 y1) (w : Int32) (h : w.toInt = 31) : EvL b L xs n0 33 [(3, iv (nI i)), (0, qv (some b)), (1, qv (some X)), (2, qv (some (X + 34)))] [iv w] C R z y := by
  refine el_tabIn (pc' := 1269) dL_law_33 (by rw [h]; decide) (by rw [h]; decide) (by rw [h]; rfl) (by decide) ?_
  exact lc_31 (X := X) (M := X + 34) (fun _ _ _ _ _ _ h => h.sy) (fun _ _ h => h.ap) hL hi hR (tX_of hR) (tM_of hR) (Nat.le_trans hz (Nat.le_add_right _ _)) hy (bt_load X) hk
set_option maxRecDepth 20000 in
theorem lw_c32 (hL : L ≤ 3072) (hi : i + 6 ≤ L) (hR : Rel X C R) (hz : z ≤ n0 + 80 + 4 * 512) (hy : y ≤ 70000 + 400 * 512) (hk : ∀ C1 R1, Rel X C1 R1 → ∀ z1 y1, z1 ≤ z + 4 → y1 ≤ y + 400 → EvL b L xs n0 1338 [(3, iv (nI i)), (0, qv (some b)), (1, qv (some X)), (2, qv (some (X + 34)))] [] C1 R1 z1 y1) (w : Int32) (h : w.toInt = 32) : EvL b L xs n0 33 [(3, iv (nI i)), (0, qv (some b)), (1, qv (some X)), (2, qv (some (X + 34)))] [iv w] C R z y := by
  refine el_tabIn (pc' := 1302) dL_law_33 (by rw [h]; decide) (by rw [h]; decide) (by rw [h]; rfl) (by decide) ?_
  exact lc_32 (X := X) (M := X + 34) (fun _ _ _ _ _ _ h => h.sy) (fun _ _ h => h.ap) hL hi hR (tX_of hR) (tM_of hR) (Nat.le_trans hz (Nat.le_add_right _ _)) hy (bt_count X) hk
set_option maxRecDepth 20000 in
theorem lw_c33 (hL : L ≤ 3072) (hi : i + 6 ≤ L) (hR : Rel X C R) (hz : z ≤ n0 + 80 + 4 * 512) (hy : y ≤ 70000 + 400 * 512) (hk : ∀ C1 R1, Rel X C1 R1 → ∀ z1 y1, z1 ≤ z + 4 → y1 ≤ y + 400 → EvL b L xs n0 1338 [(3, iv (nI i)), (0, qv (some b)), (1, qv (some X)), (2, qv (some (X + 34)))] [] C1 R1 z1 y1) (w : Int32) (h : w.toInt = 33) : EvL b L xs n0 33 [(3, iv (nI i)), (0, qv (some b)), (1, qv (some X)), (2, qv (some (X + 34)))] [iv w] C R z y := by
  refine el_tabIn (pc' := 1325) dL_law_33 (by rw [h]; decide) (by rw [h]; decide) (by rw [h]; rfl) (by decide) ?_
  exact lc_33 (X := X) (M := X + 34) (fun _ _ _ _ _ _ h => h.sy) (fun _ _ h => h.ap) hL hi hR (tX_of hR) (tM_of hR) (Nat.le_trans hz (Nat.le_add_right _ _)) hy (bt_status X) hk
theorem lw_case (hL : L ≤ 3072) (hi : i + 6 ≤ L) (hR : Rel X C R) (hz : z ≤ n0 + 80 + 4 * 512) (hy : y ≤ 70000 + 400 * 512) (hk : ∀ C1 R1, Rel X C1 R1 → ∀ z1 y1, z1 ≤ z + 4 → y1 ≤ y + 400 → EvL b L xs n0 1338 [(3, iv (nI i)), (0, qv (some b)), (1, qv (some X)), (2, qv (some (X + 34)))] [] C1 R1 z1 y1) (w : Int32) : EvL b L xs n0 33 [(3, iv (nI i)), (0, qv (some b)), (1, qv (some X)), (2, qv (some (X + 34)))] [iv w] C R z y := by
  by_cases g0a : w.toInt < 0
  · refine el_tabOut (pc' := 1338) dL_law_33 (Or.inl g0a) (by decide) ?_
    exact hk C R hR z y (Nat.le_add_right _ _) (Nat.le_add_right _ _)
  by_cases g0 : w.toInt < 1
  · exact lw_c0 hL hi hR hz hy hk w (lt_cut g0a g0)
  by_cases g1 : w.toInt < 2
  · exact lw_c1 hL hi hR hz hy hk w (lt_cut g0 g1)
  by_cases g2 : w.toInt < 3
  · exact lw_c2 hL hi hR hz hy hk w (lt_cut g1 g2)
  by_cases g3 : w.toInt < 4
  · exact lw_c3 hL hi hR hz hy hk w (lt_cut g2 g3)
  by_cases g4 : w.toInt < 5
  · exact lw_c4 hL hi hR hz hy hk w (lt_cut g3 g4)
  by_cases g5 : w.toInt < 6
  · exact lw_c5 hL hi hR hz hy hk w (lt_cut g4 g5)
  by_cases g6 : w.toInt < 7
  · exact lw_c6 hL hi hR hz hy hk w (lt_cut g5 g6)
  by_cases g7 : w.toInt < 8
  · exact lw_c7 hL hi hR hz hy hk w (lt_cut g6 g7)
  by_cases g8 : w.toInt < 9
  · exact lw_c8 hL hi hR hz hy hk w (lt_cut g7 g8)
  by_cases g9 : w.toInt < 10
  · exact lw_c9 hL hi hR hz hy hk w (lt_cut g8 g9)
  by_cases g10 : w.toInt < 11
  · exact lw_c10 hL hi hR hz hy hk w (lt_cut g9 g10)
  by_cases g11 : w.toInt < 12
  · exact lw_c11 hL hi hR hz hy hk w (lt_cut g10 g11)
  by_cases g12 : w.toInt < 13
  · exact lw_c12 hL hi hR hz hy hk w (lt_cut g11 g12)
  by_cases g13 : w.toInt < 14
  · exact lw_c13 hL hi hR hz hy hk w (lt_cut g12 g13)
  by_cases g14 : w.toInt < 15
  · exact lw_c14 hL hi hR hz hy hk w (lt_cut g13 g14)
  by_cases g15 : w.toInt < 16
  · exact lw_c15 hL hi hR hz hy hk w (lt_cut g14 g15)
  by_cases g16 : w.toInt < 17
  · exact lw_c16 hL hi hR hz hy hk w (lt_cut g15 g16)
  by_cases g17 : w.toInt < 18
  · exact lw_c17 hL hi hR hz hy hk w (lt_cut g16 g17)
  by_cases g18 : w.toInt < 19
  · exact lw_c18 hL hi hR hz hy hk w (lt_cut g17 g18)
  by_cases g19 : w.toInt < 20
  · exact lw_c19 hL hi hR hz hy hk w (lt_cut g18 g19)
  by_cases g20 : w.toInt < 21
  · exact lw_c20 hL hi hR hz hy hk w (lt_cut g19 g20)
  by_cases g21 : w.toInt < 22
  · exact lw_c21 hL hi hR hz hy hk w (lt_cut g20 g21)
  by_cases g22 : w.toInt < 23
  · exact lw_c22 hL hi hR hz hy hk w (lt_cut g21 g22)
  by_cases g23 : w.toInt < 24
  · exact lw_c23 hL hi hR hz hy hk w (lt_cut g22 g23)
  by_cases g24 : w.toInt < 25
  · exact lw_c24 hL hi hR hz hy hk w (lt_cut g23 g24)
  by_cases g25 : w.toInt < 26
  · exact lw_c25 hL hi hR hz hy hk w (lt_cut g24 g25)
  by_cases g26 : w.toInt < 27
  · exact lw_c26 hL hi hR hz hy hk w (lt_cut g25 g26)
  by_cases g27 : w.toInt < 28
  · exact lw_c27 hL hi hR hz hy hk w (lt_cut g26 g27)
  by_cases g28 : w.toInt < 29
  · exact lw_c28 hL hi hR hz hy hk w (lt_cut g27 g28)
  by_cases g29 : w.toInt < 30
  · exact lw_c29 hL hi hR hz hy hk w (lt_cut g28 g29)
  by_cases g30 : w.toInt < 31
  · exact lw_c30 hL hi hR hz hy hk w (lt_cut g29 g30)
  by_cases g31 : w.toInt < 32
  · exact lw_c31 hL hi hR hz hy hk w (lt_cut g30 g31)
  by_cases g32 : w.toInt < 33
  · exact lw_c32 hL hi hR hz hy hk w (lt_cut g31 g32)
  by_cases g33 : w.toInt < 34
  · exact lw_c33 hL hi hR hz hy hk w (lt_cut g32 g33)
  refine el_tabOut (pc' := 1338) dL_law_33 (Or.inr (by omega)) (by decide) ?_
  exact hk C R hR z y (Nat.le_add_right _ _) (Nat.le_add_right _ _)
set_option maxRecDepth 20000 in
theorem lw_loop (hL : L ≤ 3072) : ∀ (f i : Nat) (C R : St) (z y : Nat), L < i + 6 * f + 6 → i ≤ 6 * 512 → Rel X C R → z ≤ n0 + 80 + 4 * (i / 6) → y ≤ 70000 + 400 * (i / 6) → EvL b L xs n0 18 [(3, iv (nI i)), (0, qv (some b)), (1, qv (some X)), (2, qv (some (X + 34)))] [] C R z y := by
  intro f
  induction f with
  | zero =>
    intro i C R z y hf hi hR hz hy
    refine el_iload_n (pc' := 19) dL_law_18 rfl rfl ?_
    refine el_aload_n (pc' := 20) dL_law_19 rfl rfl ?_
    refine el_slen (pc' := 21) dL_law_20 rfl ?_
    refine el_bipush (pc' := 23) (6 : Int32) dL_law_21 (by decide) rfl ?_
    refine el_isub (pc' := 24) dL_law_23 rfl ?_
    refine el_icmp_gt (pc' := 27) (pc1 := 1344) dL_law_24 (by decide) rfl (fun _ => ?_) (fun h => ?_)
    · refine el_iconst (pc' := 1345) (1 : Int32) dL_law_1344 (by decide) rfl ?_
      exact el_ret dL_law_1345
    · exfalso
      have := lw_gt (L := L) (i := i) (by omega) (by omega) h
      omega
  | succ f ih =>
    intro i C R z y hf hi hR hz hy
    refine el_iload_n (pc' := 19) dL_law_18 rfl rfl ?_
    refine el_aload_n (pc' := 20) dL_law_19 rfl rfl ?_
    refine el_slen (pc' := 21) dL_law_20 rfl ?_
    refine el_bipush (pc' := 23) (6 : Int32) dL_law_21 (by decide) rfl ?_
    refine el_isub (pc' := 24) dL_law_23 rfl ?_
    refine el_icmp_gt (pc' := 27) (pc1 := 1344) dL_law_24 (by decide) rfl (fun _ => ?_) (fun h => ?_)
    · refine el_iconst (pc' := 1345) (1 : Int32) dL_law_1344 (by decide) rfl ?_
      exact el_ret dL_law_1345
    · have hle := lw_gt (L := L) (i := i) (by omega) (by omega) h
      refine el_aload_n (pc' := 28) dL_law_27 rfl rfl ?_
      refine el_iload_n (pc' := 29) dL_law_28 rfl rfl ?_
      refine el_sld (n := i) (pc' := 30) rfl (by omega) (by omega) dL_law_29 rfl ?_
      refine el_bipush (pc' := 32) (63 : Int32) dL_law_30 (by decide) rfl ?_
      refine el_iand (pc' := 33) dL_law_32 rfl ?_
      refine lw_case hL hle hR (by omega) (by omega) (fun C1 R1 hR1 z1 y1 h1 h2 => ?_) _
      refine el_iinc (pc' := 1341) (nI (i + 6)) [(3, iv (nI (i + 6))), (0, qv (some b)), (1, qv (some X)), (2, qv (some (X + 34)))] dL_law_1338 rfl (nI_add i 6) (by decide) rfl rfl ?_
      refine el_goto (pc' := 18) dL_law_1341 (by decide) ?_
      exact ih (i + 6) C1 R1 z1 y1 (by omega) (by omega) hR1 (by omega) (by omega)
end Lw
