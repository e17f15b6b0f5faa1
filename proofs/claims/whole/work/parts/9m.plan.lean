/-! (B) plan: all jobs, and the orders -/
section Pk
variable {X m j : Nat} {C C1 R R1 : St}
/-- a job goes on a press -/
theorem putOn_x {p i n : Nat} {ap so : Nat → Nat} (hC : CK X C) (hd : HDt X C R m j) (hi : i < j) (hp : p < m) (pq : PQ (colR X R) (timR X R) i n ap so) (pr : PR X C R (timR X R) p n ap so) : ∃ C1 so', pX5_putOn (X + 20) (nI p) (nI i) C = some ((), C1) ∧ OnI (fun a => (X + 26 ≤ a ∧ a ≤ X + 33)) C C1 ∧ (∀ q, q ≠ p → sI C1 (X + 32) q = sI C (X + 32) q ∧ sI C1 (X + 33) q = sI C (X + 33) q) ∧ (∀ q, q < 6 → q ≠ p → sI C1 (X + 26 + q) = sI C (X + 26 + q)) ∧ PQ (colR X R) (timR X R) (i + 1) (n + 1) (fun t => if t = n then i else ap t) so' ∧ PR X C1 (wI (wI R (X + 67) (12 * p + n) (nI i)) (X + 68) p (nI (n + 1))) (timR X R) p (n + 1) (fun t => if t = n then i else ap t) so' := by
  obtain ⟨d1, d2, d3, d4, d5, d6, d7, d8, d9, d10⟩ := hd
  obtain ⟨r1, r2, r3, r4, r5⟩ := pr
  have n12 := pq.1
  have sl := pq.so_lt
  obtain ⟨c1, c2, c3⟩ := hC.rw (by omega : p < 6)
  obtain ⟨r, A, w1, w2, w3, w4, w5, w6, w7⟩ := ins2_L (X := X) (p := p) (i := i) (f := n) (cl := colR X R) (so := so) (by omega) (by omega) (by omega) (fun q hq => by have := sl q hq; omega) n FL C hC (fun q hq hz => by
    have qj : q < j := by
      rcases hz with z | ⟨t, t1, t2⟩
      · omega
      · have := sl t t1
        omega
    exact ⟨(d9 q qj).1, (d9 q qj).2.2⟩) (Nat.le_refl _) r3 (fun q h1 h2 => by omega) (by unfold FL; omega)
  have h2 : ∀ q, q < r → colR X R (so q) ≤ colR X R i := fun q hq => by
    rcases w7 with z | z
    · omega
    · by_cases g : q = r - 1
      · rw [g]; exact z
      · have := pq.2.2.2.2.2.1 q (r - 1) (by omega) (by omega)
        unfold lxj at this
        omega
  have pq1 := pq.add w3 w6 h2
  have hA := w2.ck hC
  obtain ⟨e1, e2, e3⟩ := hA.rw (by omega : p < 6)
  have tb := (d10 i hi).2.2
  have sm := sumN_le (f := fun t => timR X R (so t)) (b := 1000) n (fun t ht => (d10 _ (by have := sl t ht; omega)).2.2)
  have i32 : sI A (X + 32) p = nI n := by rw [w2.I (by omega)]; exact r1
  have i33 : sI A (X + 33) p = nI (sumN (fun t => timR X R (so t)) n) := by rw [w2.I (by omega)]; exact r5
  have i24 : sI A (X + 24) i = nI (timR X R i) := by rw [w2.I (by omega)]; exact (d10 i hi).1
  have sn : sumN (fun t => timR X R ((fun q => if q < r then so q else if q = r then i else so (q - 1)) t)) (n + 1) = sumN (fun t => timR X R (so t)) n + timR X R i := sumN_ins n w3
  refine ⟨wI (wI (wI A (X + 26 + p) r (nI i)) (X + 32) p (nI (n + 1))) (X + 33) p (nI (sumN (fun t => timR X R (so t)) n + timR X R i)), fun q => if q < r then so q else if q = r then i else so (q - 1), ?_, OnI.wI (OnI.wI (OnI.wI (w2.mono (fun a ha => by omega)) (by omega)) (by omega)) (by omega), fun q hq => ?_, fun q q6 hq => ?_, pq1, ⟨?_, ?_, fun t ht => ?_, fun t ht => ?_, ?_⟩⟩
  · have u1 := hA.t20
    have u2 := hA.f20_5
    have u3 := hA.t32
    have u4 := hA.n32
    have u5 := hA.f20_6
    have u6 := hA.t33
    have u7 := hA.n33
    have u8 := hA.f20_3
    have u9 := hA.t24
    have u10 := hA.n24
    have mm := mn_t (a := n) (b := 11) (by omega) (by omega)
    generalize hsm : sumN (fun t => timR X R (so t)) n = sm' at *
    simp -implicitDefEqProofs (maxSteps := 2000000) (disch := first | omega | exact hgp | exact RK.mv hR rfl rfl rfl | exact CK.mv hC rfl rfl rfl | decide | (simp -implicitDefEqProofs only [wI_X, wJ_X, wF_X, nw_X]; first | done | omega)) only [pX5_putOn, c1, c2, c3, r1, mm, w1, e2, e3, u1, u2, u3, u4, u5, u6, u7, u8, u9, u10, i32, i33, i24, ng_x, b01, ite_clB, clB_id, clB_ie, nar_0, nar_1, wI_se, wI_ne, wJ_se, wJ_ne, wF_se, wF_ne, nw_Te, nw_Tn, nw_Ne, nw_Nn, nw_In, nw_Jn, nw_Fn, nw_X, nw_S, nI_pre, ↓gI_x, ↓gF_x, ↓pI_x, ↓pF_x, ↓pZ_x, ↓ldI_x, ↓stI_x, ↓ldZ_x, ↓stZ_x, ↓ldJ_x, ↓stJ_x, ↓ldF_x, ↓stF_x, ↓ln_x, ↓nO_x, ↓nA_x, onT_x, or2_x, un_s, nu_s, nu_n, ↓lt_x, ↓rt_x, ↓clB_x, ↓rtZ_x, iO_s, iO_n, ↓cO_x, dv_x, rm_x, ↓fl_x, below_x, among_x, in_x, l_toInt, inB_x, uN_nI, ↓ite_S, clB_s, clB_n, wI_T, wI_N, wI_F, wI_J, wI_X, wI_S, wJ_T, wJ_N, wJ_I, wJ_F, wJ_X, wJ_S, wF_T, wF_N, wF_I, wF_J, wF_X, wF_S, wIr_T, wIr_N, wIr_J, wIr_F, wIr_X, wIr_S, wJr_T, wJr_N, wJr_I, wJr_F, wJr_X, wJr_S, fit_10_10, fit_11_11, fit_12_1, fit_12_3, fit_12_4, fit_12_5, fit_1_1, fit_1_3, fit_1_4, fit_1_5, fit_2_2, fit_3_1, fit_3_3, fit_3_4, fit_3_5, fit_4_1, fit_4_3, fit_4_4, fit_4_5, fit_5_5, fit_6_6, fit_7_7, fit_8_8, fit_9_9, L_0, L_1, L_2, L_3, L_4, L_5, L_6, L_7, L_8, L_9, L_10, L_11, L_12, L_13, L_14, L_15, L_16, L_17, L_18, L_19, L_20, L_21, L_22, L_23, L_24, L_25, L_26, L_27, L_28, L_29, L_30, L_31, L_32, L_33, L_34, L_35, L_36, L_37, L_38, L_39, L_40, L_48, L_49, L_50, L_63, L_72, L_100, L_143, L_144, L_200, L_576, L_1000, L_1022, L_1151, L_1152, L_1440, L_5000, L_10000, L_1000000, L_2147483647, J_0, J_1, J_2, J_3, J_4, J_5, J_6, J_7, J_8, J_9, J_10, J_11, J_12, J_13, J_14, J_15, J_16, J_17, J_18, J_19, J_20, J_21, J_22, J_23, J_24, J_25, J_26, J_27, J_28, J_29, J_30, J_31, J_32, J_33, J_34, J_35, J_36, J_37, J_38, J_39, J_40, J_48, J_49, J_50, J_63, J_72, J_100, J_143, J_144, J_200, J_576, J_1000, J_1022, J_1151, J_1152, J_1440, J_5000, J_10000, J_1000000, J_2147483647, N_1, N_1000000, N_1000001, N_1000002, N_1000003, N_1000010, nI_toInt, nI_add, nI_mul, nI_et, nI_ef, nI_lt_t, nI_lt_f, nI_le_t, nI_le_f, inR_t, inR_f, nI_mI, mI_nI, mI_lt, nI_lm, mI_le, nI_em, Int.cast_ofNat_Int, Nat.reduceBEq, or_true, true_or, or_false, false_or, Bool.true_and, Bool.and_true, Bool.false_and, Bool.and_false, Bool.or_true, Bool.true_or, Bool.or_false, Bool.false_or, beq_self_eq_true, not_false_eq_true, if_true, if_false, ite_true, ite_false, eq_self, and_true, true_and, and_false, false_and, not_true_eq_false, not_false_eq_true, reduceCtorEq, and_self, Nat.reduceLeDiff, Nat.reduceEqDiff, Nat.reduceLT, Nat.reduceSub, Int.reduceSub, Int.reduceLE, ne_eq, ↓reduceIte, Nat.reduceMul, Nat.reduceAdd, hC.t0, hC.t1, hC.n1, hC.t2, hC.n2, hC.t3, hC.t4, hC.n4, hC.t5, hC.t6, hC.n6, hC.t7, hC.n7, hC.t8, hC.n8, hC.t9, hC.n9, hC.t10, hC.n10, hC.t11, hC.n11, hC.t12, hC.t13, hC.n13, hC.t14, hC.n14, hC.t15, hC.n15, hC.t16, hC.n16, hC.t17, hC.n17, hC.t18, hC.n18, hC.t19, hC.n19, hC.t20, hC.t21, hC.n21, hC.t22, hC.n22, hC.t23, hC.n23, hC.t24, hC.n24, hC.t25, hC.n25, hC.t26, hC.n26, hC.t27, hC.n27, hC.t28, hC.n28, hC.t29, hC.n29, hC.t30, hC.n30, hC.t31, hC.n31, hC.t32, hC.n32, hC.t33, hC.n33, hC.f0_0, hC.f0_1, hC.f0_2, hC.f0_3, hC.f0_4, hC.f0_5, hC.f3_0, hC.f5_0, hC.f5_1, hC.f5_2, hC.f5_3, hC.f5_4, hC.f5_5, hC.f12_0, hC.f12_1, hC.f12_2, hC.f12_3, hC.f12_5, hC.f12_6, hC.f12_7, hC.f20_0, hC.f20_1, hC.f20_2, hC.f20_3, hC.f20_4, hC.f20_5, hC.f20_6, hC.f25_0, hC.f25_1, hC.f25_2, hC.f25_3, hC.f25_4, hC.f25_5]
  · have a := w2.I (a := X + 32) (by omega)
    have b := w2.I (a := X + 33) (by omega)
    simp -implicitDefEqProofs (maxSteps := 2000000) (disch := first | omega | (simp -implicitDefEqProofs only [wI_X, wJ_X, wF_X, nw_X]; first | done | omega)) only [ a, b, wI_se, wI_ne, wJ_se, wJ_ne, wF_se, wF_ne, nw_Te, nw_Tn, nw_Ne, nw_Nn, nw_In, nw_Jn, nw_Fn, nw_X, nw_S, wI_row, wJ_row, wF_row, wIr_row, wJr_row, wIr_at, wJr_at, wI_T, wI_N, wI_F, wI_J, wI_X, wI_S, wJ_T, wJ_N, wJ_I, wJ_F, wJ_X, wJ_S, wF_T, wF_N, wF_I, wF_J, wF_X, wF_S, wIr_T, wIr_N, wIr_J, wIr_F, wIr_X, wIr_S, wJr_T, wJr_N, wJr_I, wJr_F, wJr_X, wJr_S]
    exact ⟨trivial, trivial⟩
  · have a := w2.I (a := X + 26 + q) (by omega)
    simp -implicitDefEqProofs (maxSteps := 2000000) (disch := first | omega | (simp -implicitDefEqProofs only [wI_X, wJ_X, wF_X, nw_X]; first | done | omega)) only [ wI_se, wI_ne, wJ_se, wJ_ne, wF_se, wF_ne, nw_Te, nw_Tn, nw_Ne, nw_Nn, nw_In, nw_Jn, nw_Fn, nw_X, nw_S, wI_row, wJ_row, wF_row, wIr_row, wJr_row, wIr_at, wJr_at, wI_T, wI_N, wI_F, wI_J, wI_X, wI_S, wJ_T, wJ_N, wJ_I, wJ_F, wJ_X, wJ_S, wF_T, wF_N, wF_I, wF_J, wF_X, wF_S, wIr_T, wIr_N, wIr_J, wIr_F, wIr_X, wIr_S, wJr_T, wJr_N, wJr_I, wJr_F, wJr_X, wJr_S]
    exact a
  · simp -implicitDefEqProofs (maxSteps := 2000000) (disch := first | omega | (simp -implicitDefEqProofs only [wI_X, wJ_X, wF_X, nw_X]; first | done | omega)) only [ wI_se, wI_ne, wJ_se, wJ_ne, wF_se, wF_ne, nw_Te, nw_Tn, nw_Ne, nw_Nn, nw_In, nw_Jn, nw_Fn, nw_X, nw_S, wI_row, wJ_row, wF_row, wIr_row, wJr_row, wIr_at, wJr_at, wI_T, wI_N, wI_F, wI_J, wI_X, wI_S, wJ_T, wJ_N, wJ_I, wJ_F, wJ_X, wJ_S, wF_T, wF_N, wF_I, wF_J, wF_X, wF_S, wIr_T, wIr_N, wIr_J, wIr_F, wIr_X, wIr_S, wJr_T, wJr_N, wJr_I, wJr_F, wJr_X, wJr_S]
  · simp -implicitDefEqProofs (maxSteps := 2000000) (disch := first | omega | (simp -implicitDefEqProofs only [wI_X, wJ_X, wF_X, nw_X]; first | done | omega)) only [ wI_se, wI_ne, wJ_se, wJ_ne, wF_se, wF_ne, nw_Te, nw_Tn, nw_Ne, nw_Nn, nw_In, nw_Jn, nw_Fn, nw_X, nw_S, wI_row, wJ_row, wF_row, wIr_row, wJr_row, wIr_at, wJr_at, wI_T, wI_N, wI_F, wI_J, wI_X, wI_S, wJ_T, wJ_N, wJ_I, wJ_F, wJ_X, wJ_S, wF_T, wF_N, wF_I, wF_J, wF_X, wF_S, wIr_T, wIr_N, wIr_J, wIr_F, wIr_X, wIr_S, wJr_T, wJr_N, wJr_I, wJr_F, wJr_X, wJr_S]
  · dsimp only
    by_cases g1 : t < r
    · rw [if_pos g1]
      have := w4 t g1
      simp -implicitDefEqProofs (maxSteps := 2000000) (disch := first | omega | (simp -implicitDefEqProofs only [wI_X, wJ_X, wF_X, nw_X]; first | done | omega)) only [ wI_se, wI_ne, wJ_se, wJ_ne, wF_se, wF_ne, nw_Te, nw_Tn, nw_Ne, nw_Nn, nw_In, nw_Jn, nw_Fn, nw_X, nw_S, wI_row, wJ_row, wF_row, wIr_row, wJr_row, wIr_at, wJr_at, wI_T, wI_N, wI_F, wI_J, wI_X, wI_S, wJ_T, wJ_N, wJ_I, wJ_F, wJ_X, wJ_S, wF_T, wF_N, wF_I, wF_J, wF_X, wF_S, wIr_T, wIr_N, wIr_J, wIr_F, wIr_X, wIr_S, wJr_T, wJr_N, wJr_I, wJr_F, wJr_X, wJr_S]
      exact this
    · rw [if_neg g1]
      by_cases g2 : t = r
      · rw [if_pos g2, g2]
        simp -implicitDefEqProofs (maxSteps := 2000000) (disch := first | omega | (simp -implicitDefEqProofs only [wI_X, wJ_X, wF_X, nw_X]; first | done | omega)) only [ wI_se, wI_ne, wJ_se, wJ_ne, wF_se, wF_ne, nw_Te, nw_Tn, nw_Ne, nw_Nn, nw_In, nw_Jn, nw_Fn, nw_X, nw_S, wI_row, wJ_row, wF_row, wIr_row, wJr_row, wIr_at, wJr_at, wI_T, wI_N, wI_F, wI_J, wI_X, wI_S, wJ_T, wJ_N, wJ_I, wJ_F, wJ_X, wJ_S, wF_T, wF_N, wF_I, wF_J, wF_X, wF_S, wIr_T, wIr_N, wIr_J, wIr_F, wIr_X, wIr_S, wJr_T, wJr_N, wJr_I, wJr_F, wJr_X, wJr_S]
      · rw [if_neg g2]
        have := w5 t (by omega) (by omega)
        simp -implicitDefEqProofs (maxSteps := 2000000) (disch := first | omega | (simp -implicitDefEqProofs only [wI_X, wJ_X, wF_X, nw_X]; first | done | omega)) only [ wI_se, wI_ne, wJ_se, wJ_ne, wF_se, wF_ne, nw_Te, nw_Tn, nw_Ne, nw_Nn, nw_In, nw_Jn, nw_Fn, nw_X, nw_S, wI_row, wJ_row, wF_row, wIr_row, wJr_row, wIr_at, wJr_at, wI_T, wI_N, wI_F, wI_J, wI_X, wI_S, wJ_T, wJ_N, wJ_I, wJ_F, wJ_X, wJ_S, wF_T, wF_N, wF_I, wF_J, wF_X, wF_S, wIr_T, wIr_N, wIr_J, wIr_F, wIr_X, wIr_S, wJr_T, wJr_N, wJr_I, wJr_F, wJr_X, wJr_S]
        exact this
  · dsimp only
    by_cases g1 : t = n
    · rw [if_pos g1, g1]
      simp -implicitDefEqProofs (maxSteps := 2000000) (disch := first | omega | (simp -implicitDefEqProofs only [wI_X, wJ_X, wF_X, nw_X]; first | done | omega)) only [ wI_se, wI_ne, wJ_se, wJ_ne, wF_se, wF_ne, nw_Te, nw_Tn, nw_Ne, nw_Nn, nw_In, nw_Jn, nw_Fn, nw_X, nw_S, wI_row, wJ_row, wF_row, wIr_row, wJr_row, wIr_at, wJr_at, wI_T, wI_N, wI_F, wI_J, wI_X, wI_S, wJ_T, wJ_N, wJ_I, wJ_F, wJ_X, wJ_S, wF_T, wF_N, wF_I, wF_J, wF_X, wF_S, wIr_T, wIr_N, wIr_J, wIr_F, wIr_X, wIr_S, wJr_T, wJr_N, wJr_I, wJr_F, wJr_X, wJr_S]
    · rw [if_neg g1]
      have := r4 t (by omega)
      simp -implicitDefEqProofs (maxSteps := 2000000) (disch := first | omega | (simp -implicitDefEqProofs only [wI_X, wJ_X, wF_X, nw_X]; first | done | omega)) only [ wI_se, wI_ne, wJ_se, wJ_ne, wF_se, wF_ne, nw_Te, nw_Tn, nw_Ne, nw_Nn, nw_In, nw_Jn, nw_Fn, nw_X, nw_S, wI_row, wJ_row, wF_row, wIr_row, wJr_row, wIr_at, wJr_at, wI_T, wI_N, wI_F, wI_J, wI_X, wI_S, wJ_T, wJ_N, wJ_I, wJ_F, wJ_X, wJ_S, wF_T, wF_N, wF_I, wF_J, wF_X, wF_S, wIr_T, wIr_N, wIr_J, wIr_F, wIr_X, wIr_S, wJr_T, wJr_N, wJr_I, wJr_F, wJr_X, wJr_S]
      exact this
  · rw [sn]
    simp -implicitDefEqProofs (maxSteps := 2000000) (disch := first | omega | (simp -implicitDefEqProofs only [wI_X, wJ_X, wF_X, nw_X]; first | done | omega)) only [ wI_se, wI_ne, wJ_se, wJ_ne, wF_se, wF_ne, nw_Te, nw_Tn, nw_Ne, nw_Nn, nw_In, nw_Jn, nw_Fn, nw_X, nw_S, wI_row, wJ_row, wF_row, wIr_row, wJr_row, wIr_at, wJr_at, wI_T, wI_N, wI_F, wI_J, wI_X, wI_S, wJ_T, wJ_N, wJ_I, wJ_F, wJ_X, wJ_S, wF_T, wF_N, wF_I, wF_J, wF_X, wF_S, wIr_T, wIr_N, wIr_J, wIr_F, wIr_X, wIr_S, wJr_T, wJr_N, wJr_I, wJr_F, wJr_X, wJr_S]
theorem jobs_L : ∀ (l i fuC fuR left : Nat) (cn : Nat → Nat) (ap so : Nat → Nat → Nat) (C R : St), CK X C → RK X R → HDt X C R m j → PL X m i C R (colR X R) (timR X R) cn ap so → i + l = j → l < fuC → l < fuR → ∃ left' cn' ap' so' C1 R1, (∀ K, pX5_makePlan_L8 (X + 20) K fuC (nI left) (nI i) C = K (nI left') C1) ∧ (∀ K, pX11_plan_L37 (X + 34) K fuR (nI left) (nI i) R = K (nI left') R1) ∧ HDt X C1 R1 m j ∧ PL X m j C1 R1 (colR X R1) (timR X R1) cn' ap' so' ∧ OnI (fun a => (X + 26 ≤ a ∧ a ≤ X + 33)) C C1 ∧ OnI (fun a => a = X + 67 ∨ a = X + 68) R R1 := by
  intro l
  induction l with
  | zero =>
    intro i fuC fuR left cn ap so C R hC hR hd pl hi h1 h2
    obtain ⟨f1, rfl⟩ : ∃ f, fuC = f + 1 := ⟨fuC - 1, by omega⟩
    obtain ⟨f2, rfl⟩ : ∃ f, fuR = f + 1 := ⟨fuR - 1, by omega⟩
    obtain ⟨d1, d2, d3, d4, d5, d6, -⟩ := id hd
    have e : i = j := by omega
    refine ⟨left, cn, ap, so, C, R, fun K => ?_, fun K => ?_, hd, e ▸ pl, OnI.rf, OnI.rf⟩
    · simp -implicitDefEqProofs (maxSteps := 2000000) (disch := first | omega | exact hgp | exact RK.mv hR rfl rfl rfl | exact CK.mv hC rfl rfl rfl | decide | (simp -implicitDefEqProofs only [wI_X, wJ_X, wF_X, nw_X]; first | done | omega)) only [pX5_makePlan_L8, d5, ng_x, b01, ite_clB, clB_id, clB_ie, nar_0, nar_1, wI_se, wI_ne, wJ_se, wJ_ne, wF_se, wF_ne, nw_Te, nw_Tn, nw_Ne, nw_Nn, nw_In, nw_Jn, nw_Fn, nw_X, nw_S, nI_pre, ↓gI_x, ↓gF_x, ↓pI_x, ↓pF_x, ↓pZ_x, ↓ldI_x, ↓stI_x, ↓ldZ_x, ↓stZ_x, ↓ldJ_x, ↓stJ_x, ↓ldF_x, ↓stF_x, ↓ln_x, ↓nO_x, ↓nA_x, onT_x, or2_x, un_s, nu_s, nu_n, ↓lt_x, ↓rt_x, ↓clB_x, ↓rtZ_x, iO_s, iO_n, ↓cO_x, dv_x, rm_x, ↓fl_x, below_x, among_x, in_x, l_toInt, inB_x, uN_nI, ↓ite_S, clB_s, clB_n, wI_T, wI_N, wI_F, wI_J, wI_X, wI_S, wJ_T, wJ_N, wJ_I, wJ_F, wJ_X, wJ_S, wF_T, wF_N, wF_I, wF_J, wF_X, wF_S, wIr_T, wIr_N, wIr_J, wIr_F, wIr_X, wIr_S, wJr_T, wJr_N, wJr_I, wJr_F, wJr_X, wJr_S, fit_10_10, fit_11_11, fit_12_1, fit_12_3, fit_12_4, fit_12_5, fit_1_1, fit_1_3, fit_1_4, fit_1_5, fit_2_2, fit_3_1, fit_3_3, fit_3_4, fit_3_5, fit_4_1, fit_4_3, fit_4_4, fit_4_5, fit_5_5, fit_6_6, fit_7_7, fit_8_8, fit_9_9, L_0, L_1, L_2, L_3, L_4, L_5, L_6, L_7, L_8, L_9, L_10, L_11, L_12, L_13, L_14, L_15, L_16, L_17, L_18, L_19, L_20, L_21, L_22, L_23, L_24, L_25, L_26, L_27, L_28, L_29, L_30, L_31, L_32, L_33, L_34, L_35, L_36, L_37, L_38, L_39, L_40, L_48, L_49, L_50, L_63, L_72, L_100, L_143, L_144, L_200, L_576, L_1000, L_1022, L_1151, L_1152, L_1440, L_5000, L_10000, L_1000000, L_2147483647, J_0, J_1, J_2, J_3, J_4, J_5, J_6, J_7, J_8, J_9, J_10, J_11, J_12, J_13, J_14, J_15, J_16, J_17, J_18, J_19, J_20, J_21, J_22, J_23, J_24, J_25, J_26, J_27, J_28, J_29, J_30, J_31, J_32, J_33, J_34, J_35, J_36, J_37, J_38, J_39, J_40, J_48, J_49, J_50, J_63, J_72, J_100, J_143, J_144, J_200, J_576, J_1000, J_1022, J_1151, J_1152, J_1440, J_5000, J_10000, J_1000000, J_2147483647, N_1, N_1000000, N_1000001, N_1000002, N_1000003, N_1000010, nI_toInt, nI_add, nI_mul, nI_et, nI_ef, nI_lt_t, nI_lt_f, nI_le_t, nI_le_f, inR_t, inR_f, nI_mI, mI_nI, mI_lt, nI_lm, mI_le, nI_em, Int.cast_ofNat_Int, Nat.reduceBEq, or_true, true_or, or_false, false_or, Bool.true_and, Bool.and_true, Bool.false_and, Bool.and_false, Bool.or_true, Bool.true_or, Bool.or_false, Bool.false_or, beq_self_eq_true, not_false_eq_true, if_true, if_false, ite_true, ite_false, eq_self, and_true, true_and, and_false, false_and, not_true_eq_false, not_false_eq_true, reduceCtorEq, and_self, Nat.reduceLeDiff, Nat.reduceEqDiff, Nat.reduceLT, Nat.reduceSub, Int.reduceSub, Int.reduceLE, ne_eq, ↓reduceIte, Nat.reduceMul, Nat.reduceAdd, hC.t0, hC.t1, hC.n1, hC.t2, hC.n2, hC.t3, hC.t4, hC.n4, hC.t5, hC.t6, hC.n6, hC.t7, hC.n7, hC.t8, hC.n8, hC.t9, hC.n9, hC.t10, hC.n10, hC.t11, hC.n11, hC.t12, hC.t13, hC.n13, hC.t14, hC.n14, hC.t15, hC.n15, hC.t16, hC.n16, hC.t17, hC.n17, hC.t18, hC.n18, hC.t19, hC.n19, hC.t20, hC.t21, hC.n21, hC.t22, hC.n22, hC.t23, hC.n23, hC.t24, hC.n24, hC.t25, hC.n25, hC.t26, hC.n26, hC.t27, hC.n27, hC.t28, hC.n28, hC.t29, hC.n29, hC.t30, hC.n30, hC.t31, hC.n31, hC.t32, hC.n32, hC.t33, hC.n33, hC.f0_0, hC.f0_1, hC.f0_2, hC.f0_3, hC.f0_4, hC.f0_5, hC.f3_0, hC.f5_0, hC.f5_1, hC.f5_2, hC.f5_3, hC.f5_4, hC.f5_5, hC.f12_0, hC.f12_1, hC.f12_2, hC.f12_3, hC.f12_5, hC.f12_6, hC.f12_7, hC.f20_0, hC.f20_1, hC.f20_2, hC.f20_3, hC.f20_4, hC.f20_5, hC.f20_6, hC.f25_0, hC.f25_1, hC.f25_2, hC.f25_3, hC.f25_4, hC.f25_5]
    · simp -implicitDefEqProofs (maxSteps := 2000000) (disch := first | omega | exact hgp | exact RK.mv hR rfl rfl rfl | exact CK.mv hC rfl rfl rfl | decide | (simp -implicitDefEqProofs only [wI_X, wJ_X, wF_X, nw_X]; first | done | omega)) only [pX11_plan_L37, d6, ng_x, b01, ite_clB, clB_id, clB_ie, nar_0, nar_1, wI_se, wI_ne, wJ_se, wJ_ne, wF_se, wF_ne, nw_Te, nw_Tn, nw_Ne, nw_Nn, nw_In, nw_Jn, nw_Fn, nw_X, nw_S, nI_pre, ↓gI_x, ↓gF_x, ↓pI_x, ↓pF_x, ↓pZ_x, ↓ldI_x, ↓stI_x, ↓ldZ_x, ↓stZ_x, ↓ldJ_x, ↓stJ_x, ↓ldF_x, ↓stF_x, ↓ln_x, ↓nO_x, ↓nA_x, onT_x, or2_x, un_s, nu_s, nu_n, ↓lt_x, ↓rt_x, ↓clB_x, ↓rtZ_x, iO_s, iO_n, ↓cO_x, dv_x, rm_x, ↓fl_x, below_x, among_x, in_x, l_toInt, inB_x, uN_nI, ↓ite_S, clB_s, clB_n, wI_T, wI_N, wI_F, wI_J, wI_X, wI_S, wJ_T, wJ_N, wJ_I, wJ_F, wJ_X, wJ_S, wF_T, wF_N, wF_I, wF_J, wF_X, wF_S, wIr_T, wIr_N, wIr_J, wIr_F, wIr_X, wIr_S, wJr_T, wJr_N, wJr_I, wJr_F, wJr_X, wJr_S, fit_10_10, fit_11_11, fit_12_1, fit_12_3, fit_12_4, fit_12_5, fit_1_1, fit_1_3, fit_1_4, fit_1_5, fit_2_2, fit_3_1, fit_3_3, fit_3_4, fit_3_5, fit_4_1, fit_4_3, fit_4_4, fit_4_5, fit_5_5, fit_6_6, fit_7_7, fit_8_8, fit_9_9, L_0, L_1, L_2, L_3, L_4, L_5, L_6, L_7, L_8, L_9, L_10, L_11, L_12, L_13, L_14, L_15, L_16, L_17, L_18, L_19, L_20, L_21, L_22, L_23, L_24, L_25, L_26, L_27, L_28, L_29, L_30, L_31, L_32, L_33, L_34, L_35, L_36, L_37, L_38, L_39, L_40, L_48, L_49, L_50, L_63, L_72, L_100, L_143, L_144, L_200, L_576, L_1000, L_1022, L_1151, L_1152, L_1440, L_5000, L_10000, L_1000000, L_2147483647, J_0, J_1, J_2, J_3, J_4, J_5, J_6, J_7, J_8, J_9, J_10, J_11, J_12, J_13, J_14, J_15, J_16, J_17, J_18, J_19, J_20, J_21, J_22, J_23, J_24, J_25, J_26, J_27, J_28, J_29, J_30, J_31, J_32, J_33, J_34, J_35, J_36, J_37, J_38, J_39, J_40, J_48, J_49, J_50, J_63, J_72, J_100, J_143, J_144, J_200, J_576, J_1000, J_1022, J_1151, J_1152, J_1440, J_5000, J_10000, J_1000000, J_2147483647, N_1, N_1000000, N_1000001, N_1000002, N_1000003, N_1000010, nI_toInt, nI_add, nI_mul, nI_et, nI_ef, nI_lt_t, nI_lt_f, nI_le_t, nI_le_f, inR_t, inR_f, nI_mI, mI_nI, mI_lt, nI_lm, mI_le, nI_em, Int.cast_ofNat_Int, Nat.reduceBEq, or_true, true_or, or_false, false_or, Bool.true_and, Bool.and_true, Bool.false_and, Bool.and_false, Bool.or_true, Bool.true_or, Bool.or_false, Bool.false_or, beq_self_eq_true, not_false_eq_true, if_true, if_false, ite_true, ite_false, eq_self, and_true, true_and, and_false, false_and, not_true_eq_false, not_false_eq_true, reduceCtorEq, and_self, Nat.reduceLeDiff, Nat.reduceEqDiff, Nat.reduceLT, Nat.reduceSub, Int.reduceSub, Int.reduceLE, ne_eq, ↓reduceIte, Nat.reduceMul, Nat.reduceAdd, hR.t34, hR.t35, hR.n35, hR.t36, hR.n36, hR.t37, hR.n37, hR.t38, hR.n38, hR.t39, hR.n39, hR.t40, hR.n40, hR.t41, hR.n41, hR.t42, hR.n42, hR.t43, hR.n43, hR.t44, hR.n44, hR.t45, hR.n45, hR.t46, hR.n46, hR.t47, hR.n47, hR.t48, hR.n48, hR.t49, hR.n49, hR.t50, hR.n50, hR.t51, hR.n51, hR.t52, hR.n52, hR.t53, hR.n53, hR.t54, hR.n54, hR.t55, hR.n55, hR.t56, hR.n56, hR.t57, hR.n57, hR.t58, hR.n58, hR.t59, hR.n59, hR.t60, hR.n60, hR.t61, hR.n61, hR.t62, hR.n62, hR.t63, hR.n63, hR.t64, hR.n64, hR.t65, hR.n65, hR.t66, hR.n66, hR.t67, hR.n67, hR.t68, hR.n68, hR.t69, hR.n69, hR.t70, hR.n70, hR.t71, hR.n71, hR.f2, hR.f3, hR.f4, hR.f5, hR.f6, hR.f7, hR.f8, hR.f9, hR.f10, hR.f11, hR.f12, hR.f13, hR.f14, hR.f15, hR.f16, hR.f18, hR.f19, hR.f20, hR.f21, hR.f22, hR.f25, hR.f26, hR.f27, hR.f28, hR.f29, hR.f30, hR.f31, hR.f32, hR.f34, hR.f36, hR.f37, hR.f38, hR.f40, hR.f41, hR.f42, hR.f43, hR.f44]
  | succ l ih =>
    intro i fuC fuR left cn ap so C R hC hR hd pl hi h1 h2
    obtain ⟨f1, rfl⟩ : ∃ f, fuC = f + 1 := ⟨fuC - 1, by omega⟩
    obtain ⟨f2, rfl⟩ : ∃ f, fuR = f + 1 := ⟨fuR - 1, by omega⟩
    obtain ⟨d1, d2, d3, d4, d5, d6, -⟩ := id hd
    obtain ⟨v, v1, v2, v3⟩ := press_L (v0 := nI left) hC hR hd (by omega : i < j) pl m 0 FL FL (mI 1000000) (by omega) (by unfold FL; omega) (by unfold FL; omega) (Or.inl rfl)
    have c20 := hC.t20
    have v2 := v2 (fun v => rt v)
    have v2 : pX5_pressFor_L5 (X + 20) (nI i) (fun v => rt v) FL (mI 1000000) (nI 0) C = some (v, C) := v2
    rcases v1 with v1 | ⟨p, p1, p2⟩
    · subst v1
      obtain ⟨left', cn', ap', so', C1, R1, z1, z2, z3⟩ := ih (i + 1) f1 f2 (left + 1) cn ap so C R hC hR hd (fun p hp => ⟨(pl p hp).1.up, (pl p hp).2⟩) (by omega) (by omega) (by omega)
      refine ⟨left', cn', ap', so', C1, R1, fun K => Eq.trans ?_ (z1 K), fun K => Eq.trans ?_ (z2 K), z3⟩
      · simp -implicitDefEqProofs (maxSteps := 2000000) (disch := first | omega | exact hgp | exact RK.mv hR rfl rfl rfl | exact CK.mv hC rfl rfl rfl | decide | (simp -implicitDefEqProofs only [wI_X, wJ_X, wF_X, nw_X]; first | done | omega)) only [pX5_makePlan_L8, pX5_pressFor, d5, v2, ng_x, b01, ite_clB, clB_id, clB_ie, nar_0, nar_1, wI_se, wI_ne, wJ_se, wJ_ne, wF_se, wF_ne, nw_Te, nw_Tn, nw_Ne, nw_Nn, nw_In, nw_Jn, nw_Fn, nw_X, nw_S, nI_pre, ↓gI_x, ↓gF_x, ↓pI_x, ↓pF_x, ↓pZ_x, ↓ldI_x, ↓stI_x, ↓ldZ_x, ↓stZ_x, ↓ldJ_x, ↓stJ_x, ↓ldF_x, ↓stF_x, ↓ln_x, ↓nO_x, ↓nA_x, onT_x, or2_x, un_s, nu_s, nu_n, ↓lt_x, ↓rt_x, ↓clB_x, ↓rtZ_x, iO_s, iO_n, ↓cO_x, dv_x, rm_x, ↓fl_x, below_x, among_x, in_x, l_toInt, inB_x, uN_nI, ↓ite_S, clB_s, clB_n, wI_T, wI_N, wI_F, wI_J, wI_X, wI_S, wJ_T, wJ_N, wJ_I, wJ_F, wJ_X, wJ_S, wF_T, wF_N, wF_I, wF_J, wF_X, wF_S, wIr_T, wIr_N, wIr_J, wIr_F, wIr_X, wIr_S, wJr_T, wJr_N, wJr_I, wJr_F, wJr_X, wJr_S, fit_10_10, fit_11_11, fit_12_1, fit_12_3, fit_12_4, fit_12_5, fit_1_1, fit_1_3, fit_1_4, fit_1_5, fit_2_2, fit_3_1, fit_3_3, fit_3_4, fit_3_5, fit_4_1, fit_4_3, fit_4_4, fit_4_5, fit_5_5, fit_6_6, fit_7_7, fit_8_8, fit_9_9, L_0, L_1, L_2, L_3, L_4, L_5, L_6, L_7, L_8, L_9, L_10, L_11, L_12, L_13, L_14, L_15, L_16, L_17, L_18, L_19, L_20, L_21, L_22, L_23, L_24, L_25, L_26, L_27, L_28, L_29, L_30, L_31, L_32, L_33, L_34, L_35, L_36, L_37, L_38, L_39, L_40, L_48, L_49, L_50, L_63, L_72, L_100, L_143, L_144, L_200, L_576, L_1000, L_1022, L_1151, L_1152, L_1440, L_5000, L_10000, L_1000000, L_2147483647, J_0, J_1, J_2, J_3, J_4, J_5, J_6, J_7, J_8, J_9, J_10, J_11, J_12, J_13, J_14, J_15, J_16, J_17, J_18, J_19, J_20, J_21, J_22, J_23, J_24, J_25, J_26, J_27, J_28, J_29, J_30, J_31, J_32, J_33, J_34, J_35, J_36, J_37, J_38, J_39, J_40, J_48, J_49, J_50, J_63, J_72, J_100, J_143, J_144, J_200, J_576, J_1000, J_1022, J_1151, J_1152, J_1440, J_5000, J_10000, J_1000000, J_2147483647, N_1, N_1000000, N_1000001, N_1000002, N_1000003, N_1000010, nI_toInt, nI_add, nI_mul, nI_et, nI_ef, nI_lt_t, nI_lt_f, nI_le_t, nI_le_f, inR_t, inR_f, nI_mI, mI_nI, mI_lt, nI_lm, mI_le, nI_em, Int.cast_ofNat_Int, Nat.reduceBEq, or_true, true_or, or_false, false_or, Bool.true_and, Bool.and_true, Bool.false_and, Bool.and_false, Bool.or_true, Bool.true_or, Bool.or_false, Bool.false_or, beq_self_eq_true, not_false_eq_true, if_true, if_false, ite_true, ite_false, eq_self, and_true, true_and, and_false, false_and, not_true_eq_false, not_false_eq_true, reduceCtorEq, and_self, Nat.reduceLeDiff, Nat.reduceEqDiff, Nat.reduceLT, Nat.reduceSub, Int.reduceSub, Int.reduceLE, ne_eq, ↓reduceIte, Nat.reduceMul, Nat.reduceAdd, hC.t0, hC.t1, hC.n1, hC.t2, hC.n2, hC.t3, hC.t4, hC.n4, hC.t5, hC.t6, hC.n6, hC.t7, hC.n7, hC.t8, hC.n8, hC.t9, hC.n9, hC.t10, hC.n10, hC.t11, hC.n11, hC.t12, hC.t13, hC.n13, hC.t14, hC.n14, hC.t15, hC.n15, hC.t16, hC.n16, hC.t17, hC.n17, hC.t18, hC.n18, hC.t19, hC.n19, hC.t20, hC.t21, hC.n21, hC.t22, hC.n22, hC.t23, hC.n23, hC.t24, hC.n24, hC.t25, hC.n25, hC.t26, hC.n26, hC.t27, hC.n27, hC.t28, hC.n28, hC.t29, hC.n29, hC.t30, hC.n30, hC.t31, hC.n31, hC.t32, hC.n32, hC.t33, hC.n33, hC.f0_0, hC.f0_1, hC.f0_2, hC.f0_3, hC.f0_4, hC.f0_5, hC.f3_0, hC.f5_0, hC.f5_1, hC.f5_2, hC.f5_3, hC.f5_4, hC.f5_5, hC.f12_0, hC.f12_1, hC.f12_2, hC.f12_3, hC.f12_5, hC.f12_6, hC.f12_7, hC.f20_0, hC.f20_1, hC.f20_2, hC.f20_3, hC.f20_4, hC.f20_5, hC.f20_6, hC.f25_0, hC.f25_1, hC.f25_2, hC.f25_3, hC.f25_4, hC.f25_5]
      · simp -implicitDefEqProofs (maxSteps := 2000000) (disch := first | omega | exact hgp | exact RK.mv hR rfl rfl rfl | exact CK.mv hC rfl rfl rfl | decide | (simp -implicitDefEqProofs only [wI_X, wJ_X, wF_X, nw_X]; first | done | omega)) only [pX11_plan_L37, d6, v3, ng_x, b01, ite_clB, clB_id, clB_ie, nar_0, nar_1, wI_se, wI_ne, wJ_se, wJ_ne, wF_se, wF_ne, nw_Te, nw_Tn, nw_Ne, nw_Nn, nw_In, nw_Jn, nw_Fn, nw_X, nw_S, nI_pre, ↓gI_x, ↓gF_x, ↓pI_x, ↓pF_x, ↓pZ_x, ↓ldI_x, ↓stI_x, ↓ldZ_x, ↓stZ_x, ↓ldJ_x, ↓stJ_x, ↓ldF_x, ↓stF_x, ↓ln_x, ↓nO_x, ↓nA_x, onT_x, or2_x, un_s, nu_s, nu_n, ↓lt_x, ↓rt_x, ↓clB_x, ↓rtZ_x, iO_s, iO_n, ↓cO_x, dv_x, rm_x, ↓fl_x, below_x, among_x, in_x, l_toInt, inB_x, uN_nI, ↓ite_S, clB_s, clB_n, wI_T, wI_N, wI_F, wI_J, wI_X, wI_S, wJ_T, wJ_N, wJ_I, wJ_F, wJ_X, wJ_S, wF_T, wF_N, wF_I, wF_J, wF_X, wF_S, wIr_T, wIr_N, wIr_J, wIr_F, wIr_X, wIr_S, wJr_T, wJr_N, wJr_I, wJr_F, wJr_X, wJr_S, fit_10_10, fit_11_11, fit_12_1, fit_12_3, fit_12_4, fit_12_5, fit_1_1, fit_1_3, fit_1_4, fit_1_5, fit_2_2, fit_3_1, fit_3_3, fit_3_4, fit_3_5, fit_4_1, fit_4_3, fit_4_4, fit_4_5, fit_5_5, fit_6_6, fit_7_7, fit_8_8, fit_9_9, L_0, L_1, L_2, L_3, L_4, L_5, L_6, L_7, L_8, L_9, L_10, L_11, L_12, L_13, L_14, L_15, L_16, L_17, L_18, L_19, L_20, L_21, L_22, L_23, L_24, L_25, L_26, L_27, L_28, L_29, L_30, L_31, L_32, L_33, L_34, L_35, L_36, L_37, L_38, L_39, L_40, L_48, L_49, L_50, L_63, L_72, L_100, L_143, L_144, L_200, L_576, L_1000, L_1022, L_1151, L_1152, L_1440, L_5000, L_10000, L_1000000, L_2147483647, J_0, J_1, J_2, J_3, J_4, J_5, J_6, J_7, J_8, J_9, J_10, J_11, J_12, J_13, J_14, J_15, J_16, J_17, J_18, J_19, J_20, J_21, J_22, J_23, J_24, J_25, J_26, J_27, J_28, J_29, J_30, J_31, J_32, J_33, J_34, J_35, J_36, J_37, J_38, J_39, J_40, J_48, J_49, J_50, J_63, J_72, J_100, J_143, J_144, J_200, J_576, J_1000, J_1022, J_1151, J_1152, J_1440, J_5000, J_10000, J_1000000, J_2147483647, N_1, N_1000000, N_1000001, N_1000002, N_1000003, N_1000010, nI_toInt, nI_add, nI_mul, nI_et, nI_ef, nI_lt_t, nI_lt_f, nI_le_t, nI_le_f, inR_t, inR_f, nI_mI, mI_nI, mI_lt, nI_lm, mI_le, nI_em, Int.cast_ofNat_Int, Nat.reduceBEq, or_true, true_or, or_false, false_or, Bool.true_and, Bool.and_true, Bool.false_and, Bool.and_false, Bool.or_true, Bool.true_or, Bool.or_false, Bool.false_or, beq_self_eq_true, not_false_eq_true, if_true, if_false, ite_true, ite_false, eq_self, and_true, true_and, and_false, false_and, not_true_eq_false, not_false_eq_true, reduceCtorEq, and_self, Nat.reduceLeDiff, Nat.reduceEqDiff, Nat.reduceLT, Nat.reduceSub, Int.reduceSub, Int.reduceLE, ne_eq, ↓reduceIte, Nat.reduceMul, Nat.reduceAdd, hR.t34, hR.t35, hR.n35, hR.t36, hR.n36, hR.t37, hR.n37, hR.t38, hR.n38, hR.t39, hR.n39, hR.t40, hR.n40, hR.t41, hR.n41, hR.t42, hR.n42, hR.t43, hR.n43, hR.t44, hR.n44, hR.t45, hR.n45, hR.t46, hR.n46, hR.t47, hR.n47, hR.t48, hR.n48, hR.t49, hR.n49, hR.t50, hR.n50, hR.t51, hR.n51, hR.t52, hR.n52, hR.t53, hR.n53, hR.t54, hR.n54, hR.t55, hR.n55, hR.t56, hR.n56, hR.t57, hR.n57, hR.t58, hR.n58, hR.t59, hR.n59, hR.t60, hR.n60, hR.t61, hR.n61, hR.t62, hR.n62, hR.t63, hR.n63, hR.t64, hR.n64, hR.t65, hR.n65, hR.t66, hR.n66, hR.t67, hR.n67, hR.t68, hR.n68, hR.t69, hR.n69, hR.t70, hR.n70, hR.t71, hR.n71, hR.f2, hR.f3, hR.f4, hR.f5, hR.f6, hR.f7, hR.f8, hR.f9, hR.f10, hR.f11, hR.f12, hR.f13, hR.f14, hR.f15, hR.f16, hR.f18, hR.f19, hR.f20, hR.f21, hR.f22, hR.f25, hR.f26, hR.f27, hR.f28, hR.f29, hR.f30, hR.f31, hR.f32, hR.f34, hR.f36, hR.f37, hR.f38, hR.f40, hR.f41, hR.f42, hR.f43, hR.f44]
    · subst p2
      obtain ⟨pq, pr⟩ := pl p p1
      have n12 := pq.1
      obtain ⟨C1, so1, w1, w2, w3, w4, w5, w6⟩ := putOn_x hC hd (by omega : i < j) p1 pq pr
      have onR : OnI (fun a => a = X + 67 ∨ a = X + 68) R (wI (wI R (X + 67) (12 * p + cn p) (nI i)) (X + 68) p (nI (cn p + 1))) := OnI.wI (OnI.wI OnI.rf (by exact Or.inl rfl)) (by exact Or.inr rfl)
      obtain ⟨hd1, ec, et⟩ := hd.on w2 onR
      obtain ⟨left', cn', ap', so', C2, R2, z1, z2, z3, z4, z5, z6⟩ := ih (i + 1) f1 f2 left (fun q => if q = p then cn p + 1 else cn q) (fun q => if q = p then (fun t => if t = cn p then i else ap p t) else ap q) (fun q => if q = p then so1 else so q) C1 (wI (wI R (X + 67) (12 * p + cn p) (nI i)) (X + 68) p (nI (cn p + 1))) (w2.ck hC) (onR.rk hR) hd1 (fun q hq => by
        rw [ec, et]
        dsimp only
        by_cases e : q = p
        · rw [if_pos e, if_pos e, if_pos e, e]
          exact ⟨w5, w6⟩
        · rw [if_neg e, if_neg e, if_neg e]
          obtain ⟨a1, a2⟩ := pl q hq
          refine ⟨a1.up, ?_⟩
          obtain ⟨b1, b2, b3, b4, b5⟩ := a2
          have q12 := a1.1
          refine ⟨by rw [(w3 q e).1]; exact b1, ?_, by rw [w4 q (by omega) e]; exact b3, fun t ht => ?_, by rw [(w3 q e).2]; exact b5⟩
          · simp -implicitDefEqProofs (maxSteps := 2000000) (disch := first | omega | (simp -implicitDefEqProofs only [wI_X, wJ_X, wF_X, nw_X]; first | done | omega)) only [ wI_se, wI_ne, wJ_se, wJ_ne, wF_se, wF_ne, nw_Te, nw_Tn, nw_Ne, nw_Nn, nw_In, nw_Jn, nw_Fn, nw_X, nw_S, wI_row, wJ_row, wF_row, wIr_row, wJr_row, wIr_at, wJr_at, wI_T, wI_N, wI_F, wI_J, wI_X, wI_S, wJ_T, wJ_N, wJ_I, wJ_F, wJ_X, wJ_S, wF_T, wF_N, wF_I, wF_J, wF_X, wF_S, wIr_T, wIr_N, wIr_J, wIr_F, wIr_X, wIr_S, wJr_T, wJr_N, wJr_I, wJr_F, wJr_X, wJr_S]
            exact b2
          · have := b4 t ht
            simp -implicitDefEqProofs (maxSteps := 2000000) (disch := first | omega | (simp -implicitDefEqProofs only [wI_X, wJ_X, wF_X, nw_X]; first | done | omega)) only [ wI_se, wI_ne, wJ_se, wJ_ne, wF_se, wF_ne, nw_Te, nw_Tn, nw_Ne, nw_Nn, nw_In, nw_Jn, nw_Fn, nw_X, nw_S, wI_row, wJ_row, wF_row, wIr_row, wJr_row, wIr_at, wJr_at, wI_T, wI_N, wI_F, wI_J, wI_X, wI_S, wJ_T, wJ_N, wJ_I, wJ_F, wJ_X, wJ_S, wF_T, wF_N, wF_I, wF_J, wF_X, wF_S, wIr_T, wIr_N, wIr_J, wIr_F, wIr_X, wIr_S, wJr_T, wJr_N, wJr_I, wJr_F, wJr_X, wJr_S]
            exact this) (by omega) (by omega) (by omega)
      refine ⟨left', cn', ap', so', C2, R2, fun K => Eq.trans ?_ (z1 K), fun K => Eq.trans ?_ (z2 K), z3, z4, w2.tr z5, onR.tr z6⟩
      · simp -implicitDefEqProofs (maxSteps := 2000000) (disch := first | omega | exact hgp | exact RK.mv hR rfl rfl rfl | exact CK.mv hC rfl rfl rfl | decide | (simp -implicitDefEqProofs only [wI_X, wJ_X, wF_X, nw_X]; first | done | omega)) only [pX5_makePlan_L8, pX5_pressFor, d5, v2, w1, ng_x, b01, ite_clB, clB_id, clB_ie, nar_0, nar_1, wI_se, wI_ne, wJ_se, wJ_ne, wF_se, wF_ne, nw_Te, nw_Tn, nw_Ne, nw_Nn, nw_In, nw_Jn, nw_Fn, nw_X, nw_S, nI_pre, ↓gI_x, ↓gF_x, ↓pI_x, ↓pF_x, ↓pZ_x, ↓ldI_x, ↓stI_x, ↓ldZ_x, ↓stZ_x, ↓ldJ_x, ↓stJ_x, ↓ldF_x, ↓stF_x, ↓ln_x, ↓nO_x, ↓nA_x, onT_x, or2_x, un_s, nu_s, nu_n, ↓lt_x, ↓rt_x, ↓clB_x, ↓rtZ_x, iO_s, iO_n, ↓cO_x, dv_x, rm_x, ↓fl_x, below_x, among_x, in_x, l_toInt, inB_x, uN_nI, ↓ite_S, clB_s, clB_n, wI_T, wI_N, wI_F, wI_J, wI_X, wI_S, wJ_T, wJ_N, wJ_I, wJ_F, wJ_X, wJ_S, wF_T, wF_N, wF_I, wF_J, wF_X, wF_S, wIr_T, wIr_N, wIr_J, wIr_F, wIr_X, wIr_S, wJr_T, wJr_N, wJr_I, wJr_F, wJr_X, wJr_S, fit_10_10, fit_11_11, fit_12_1, fit_12_3, fit_12_4, fit_12_5, fit_1_1, fit_1_3, fit_1_4, fit_1_5, fit_2_2, fit_3_1, fit_3_3, fit_3_4, fit_3_5, fit_4_1, fit_4_3, fit_4_4, fit_4_5, fit_5_5, fit_6_6, fit_7_7, fit_8_8, fit_9_9, L_0, L_1, L_2, L_3, L_4, L_5, L_6, L_7, L_8, L_9, L_10, L_11, L_12, L_13, L_14, L_15, L_16, L_17, L_18, L_19, L_20, L_21, L_22, L_23, L_24, L_25, L_26, L_27, L_28, L_29, L_30, L_31, L_32, L_33, L_34, L_35, L_36, L_37, L_38, L_39, L_40, L_48, L_49, L_50, L_63, L_72, L_100, L_143, L_144, L_200, L_576, L_1000, L_1022, L_1151, L_1152, L_1440, L_5000, L_10000, L_1000000, L_2147483647, J_0, J_1, J_2, J_3, J_4, J_5, J_6, J_7, J_8, J_9, J_10, J_11, J_12, J_13, J_14, J_15, J_16, J_17, J_18, J_19, J_20, J_21, J_22, J_23, J_24, J_25, J_26, J_27, J_28, J_29, J_30, J_31, J_32, J_33, J_34, J_35, J_36, J_37, J_38, J_39, J_40, J_48, J_49, J_50, J_63, J_72, J_100, J_143, J_144, J_200, J_576, J_1000, J_1022, J_1151, J_1152, J_1440, J_5000, J_10000, J_1000000, J_2147483647, N_1, N_1000000, N_1000001, N_1000002, N_1000003, N_1000010, nI_toInt, nI_add, nI_mul, nI_et, nI_ef, nI_lt_t, nI_lt_f, nI_le_t, nI_le_f, inR_t, inR_f, nI_mI, mI_nI, mI_lt, nI_lm, mI_le, nI_em, Int.cast_ofNat_Int, Nat.reduceBEq, or_true, true_or, or_false, false_or, Bool.true_and, Bool.and_true, Bool.false_and, Bool.and_false, Bool.or_true, Bool.true_or, Bool.or_false, Bool.false_or, beq_self_eq_true, not_false_eq_true, if_true, if_false, ite_true, ite_false, eq_self, and_true, true_and, and_false, false_and, not_true_eq_false, not_false_eq_true, reduceCtorEq, and_self, Nat.reduceLeDiff, Nat.reduceEqDiff, Nat.reduceLT, Nat.reduceSub, Int.reduceSub, Int.reduceLE, ne_eq, ↓reduceIte, Nat.reduceMul, Nat.reduceAdd, hC.t0, hC.t1, hC.n1, hC.t2, hC.n2, hC.t3, hC.t4, hC.n4, hC.t5, hC.t6, hC.n6, hC.t7, hC.n7, hC.t8, hC.n8, hC.t9, hC.n9, hC.t10, hC.n10, hC.t11, hC.n11, hC.t12, hC.t13, hC.n13, hC.t14, hC.n14, hC.t15, hC.n15, hC.t16, hC.n16, hC.t17, hC.n17, hC.t18, hC.n18, hC.t19, hC.n19, hC.t20, hC.t21, hC.n21, hC.t22, hC.n22, hC.t23, hC.n23, hC.t24, hC.n24, hC.t25, hC.n25, hC.t26, hC.n26, hC.t27, hC.n27, hC.t28, hC.n28, hC.t29, hC.n29, hC.t30, hC.n30, hC.t31, hC.n31, hC.t32, hC.n32, hC.t33, hC.n33, hC.f0_0, hC.f0_1, hC.f0_2, hC.f0_3, hC.f0_4, hC.f0_5, hC.f3_0, hC.f5_0, hC.f5_1, hC.f5_2, hC.f5_3, hC.f5_4, hC.f5_5, hC.f12_0, hC.f12_1, hC.f12_2, hC.f12_3, hC.f12_5, hC.f12_6, hC.f12_7, hC.f20_0, hC.f20_1, hC.f20_2, hC.f20_3, hC.f20_4, hC.f20_5, hC.f20_6, hC.f25_0, hC.f25_1, hC.f25_2, hC.f25_3, hC.f25_4, hC.f25_5]
      · have e68 := pr.2.1
        simp -implicitDefEqProofs (maxSteps := 2000000) (disch := first | omega | exact hgp | exact RK.mv hR rfl rfl rfl | exact CK.mv hC rfl rfl rfl | decide | (simp -implicitDefEqProofs only [wI_X, wJ_X, wF_X, nw_X]; first | done | omega)) only [pX11_plan_L37, d6, v3, e68, ng_x, b01, ite_clB, clB_id, clB_ie, nar_0, nar_1, wI_se, wI_ne, wJ_se, wJ_ne, wF_se, wF_ne, nw_Te, nw_Tn, nw_Ne, nw_Nn, nw_In, nw_Jn, nw_Fn, nw_X, nw_S, nI_pre, ↓gI_x, ↓gF_x, ↓pI_x, ↓pF_x, ↓pZ_x, ↓ldI_x, ↓stI_x, ↓ldZ_x, ↓stZ_x, ↓ldJ_x, ↓stJ_x, ↓ldF_x, ↓stF_x, ↓ln_x, ↓nO_x, ↓nA_x, onT_x, or2_x, un_s, nu_s, nu_n, ↓lt_x, ↓rt_x, ↓clB_x, ↓rtZ_x, iO_s, iO_n, ↓cO_x, dv_x, rm_x, ↓fl_x, below_x, among_x, in_x, l_toInt, inB_x, uN_nI, ↓ite_S, clB_s, clB_n, wI_T, wI_N, wI_F, wI_J, wI_X, wI_S, wJ_T, wJ_N, wJ_I, wJ_F, wJ_X, wJ_S, wF_T, wF_N, wF_I, wF_J, wF_X, wF_S, wIr_T, wIr_N, wIr_J, wIr_F, wIr_X, wIr_S, wJr_T, wJr_N, wJr_I, wJr_F, wJr_X, wJr_S, fit_10_10, fit_11_11, fit_12_1, fit_12_3, fit_12_4, fit_12_5, fit_1_1, fit_1_3, fit_1_4, fit_1_5, fit_2_2, fit_3_1, fit_3_3, fit_3_4, fit_3_5, fit_4_1, fit_4_3, fit_4_4, fit_4_5, fit_5_5, fit_6_6, fit_7_7, fit_8_8, fit_9_9, L_0, L_1, L_2, L_3, L_4, L_5, L_6, L_7, L_8, L_9, L_10, L_11, L_12, L_13, L_14, L_15, L_16, L_17, L_18, L_19, L_20, L_21, L_22, L_23, L_24, L_25, L_26, L_27, L_28, L_29, L_30, L_31, L_32, L_33, L_34, L_35, L_36, L_37, L_38, L_39, L_40, L_48, L_49, L_50, L_63, L_72, L_100, L_143, L_144, L_200, L_576, L_1000, L_1022, L_1151, L_1152, L_1440, L_5000, L_10000, L_1000000, L_2147483647, J_0, J_1, J_2, J_3, J_4, J_5, J_6, J_7, J_8, J_9, J_10, J_11, J_12, J_13, J_14, J_15, J_16, J_17, J_18, J_19, J_20, J_21, J_22, J_23, J_24, J_25, J_26, J_27, J_28, J_29, J_30, J_31, J_32, J_33, J_34, J_35, J_36, J_37, J_38, J_39, J_40, J_48, J_49, J_50, J_63, J_72, J_100, J_143, J_144, J_200, J_576, J_1000, J_1022, J_1151, J_1152, J_1440, J_5000, J_10000, J_1000000, J_2147483647, N_1, N_1000000, N_1000001, N_1000002, N_1000003, N_1000010, nI_toInt, nI_add, nI_mul, nI_et, nI_ef, nI_lt_t, nI_lt_f, nI_le_t, nI_le_f, inR_t, inR_f, nI_mI, mI_nI, mI_lt, nI_lm, mI_le, nI_em, Int.cast_ofNat_Int, Nat.reduceBEq, or_true, true_or, or_false, false_or, Bool.true_and, Bool.and_true, Bool.false_and, Bool.and_false, Bool.or_true, Bool.true_or, Bool.or_false, Bool.false_or, beq_self_eq_true, not_false_eq_true, if_true, if_false, ite_true, ite_false, eq_self, and_true, true_and, and_false, false_and, not_true_eq_false, not_false_eq_true, reduceCtorEq, and_self, Nat.reduceLeDiff, Nat.reduceEqDiff, Nat.reduceLT, Nat.reduceSub, Int.reduceSub, Int.reduceLE, ne_eq, ↓reduceIte, Nat.reduceMul, Nat.reduceAdd, hR.t34, hR.t35, hR.n35, hR.t36, hR.n36, hR.t37, hR.n37, hR.t38, hR.n38, hR.t39, hR.n39, hR.t40, hR.n40, hR.t41, hR.n41, hR.t42, hR.n42, hR.t43, hR.n43, hR.t44, hR.n44, hR.t45, hR.n45, hR.t46, hR.n46, hR.t47, hR.n47, hR.t48, hR.n48, hR.t49, hR.n49, hR.t50, hR.n50, hR.t51, hR.n51, hR.t52, hR.n52, hR.t53, hR.n53, hR.t54, hR.n54, hR.t55, hR.n55, hR.t56, hR.n56, hR.t57, hR.n57, hR.t58, hR.n58, hR.t59, hR.n59, hR.t60, hR.n60, hR.t61, hR.n61, hR.t62, hR.n62, hR.t63, hR.n63, hR.t64, hR.n64, hR.t65, hR.n65, hR.t66, hR.n66, hR.t67, hR.n67, hR.t68, hR.n68, hR.t69, hR.n69, hR.t70, hR.n70, hR.t71, hR.n71, hR.f2, hR.f3, hR.f4, hR.f5, hR.f6, hR.f7, hR.f8, hR.f9, hR.f10, hR.f11, hR.f12, hR.f13, hR.f14, hR.f15, hR.f16, hR.f18, hR.f19, hR.f20, hR.f21, hR.f22, hR.f25, hR.f26, hR.f27, hR.f28, hR.f29, hR.f30, hR.f31, hR.f32, hR.f34, hR.f36, hR.f37, hR.f38, hR.f40, hR.f41, hR.f42, hR.f43, hR.f44]
/-- one order only -/
theorem so_uq {cl : Nat → Nat} {n : Nat} {a b : Nat → Nat} (ha : ∀ t u, t < u → u < n → lxj cl (a t) (a u)) (hb : ∀ t u, t < u → u < n → lxj cl (b t) (b u)) (ab : ∀ t, t < n → ∃ u, u < n ∧ b u = a t) (ba : ∀ t, t < n → ∃ u, u < n ∧ a u = b t) : ∀ r, r < n → a r = b r := by
  intro r
  induction r using Nat.strongRecOn with
  | ind r ih =>
    intro hr
    obtain ⟨t, t1, t2⟩ := ab r hr
    obtain ⟨s, s1, s2⟩ := ba r hr
    have q1 : r ≤ t := Classical.byContradiction fun q => by
      have e := ih t (by omega) (by omega)
      have := ha t r (by omega) hr
      rw [e, t2] at this
      unfold lxj at this
      omega
    have q2 : r ≤ s := Classical.byContradiction fun q => by
      have e := ih s (by omega) (by omega)
      have := hb s r (by omega) hr
      rw [← e, s2] at this
      unfold lxj at this
      omega
    by_cases e1 : r = t
    · rw [e1, t2, e1]
    · by_cases e2 : r = s
      · rw [← s2, ← e2]
      · have u := hb r t (by omega) t1
        have v := ha r s (by omega) s1
        rw [t2] at u
        rw [s2] at v
        unfold lxj at u v
        omega
/-- a press's row in the end -/
theorem fin_x {n : Nat} {ap so g : Nat → Nat} (hd : HDt X C R m j) (pq : PQ (colR X R) (timR X R) j n ap so) (og : ∃ left', OG n (fun k => colR X R (ap k)) n left' g) : (∀ t, t < n → ap (g t) = so t) ∧ ∀ pv, 0 < n → PF n (fun k => colR X R (ap k)) g pv → pv = colR X R (so (n - 1)) - colR X R (so 0) ∧ colR X R (so 0) ≤ colR X R (so (n - 1)) := by
  obtain ⟨left', og⟩ := og
  obtain ⟨a1, a2, a3, a4, a5, a6, a7⟩ := pq
  have inj := og.inj
  have mono : ∀ t u, t < n → u < n → t < u → ap t < ap u := fun t u _ h2 h3 => a3 t u h3 h2
  have srt : ∀ t u, t < u → u < n → lxj (colR X R) (ap (g t)) (ap (g u)) := fun t u h1 h2 => by
    have := og.2.1 t u h1 h2
    unfold lxl at this
    unfold lxj
    rcases this with q | ⟨q1, q2⟩
    · exact Or.inl q
    · exact Or.inr ⟨q1, mono _ _ (og.1 t (by omega)) (og.1 u h2) q2⟩
  have surj : ∀ i, i < n → ∃ t, t < n ∧ g t = i := fun i hi => Classical.byContradiction fun q => by
    -- one place more than there are
    have := pigeon n (n + 1) (fun t => if t = n then i else g t) (fun r hr => by
      show (if r = n then i else g r) < n
      split
      · exact hi
      · exact og.1 r (by omega)) (fun r s h1 h2 => by
      show (if r = n then i else g r) ≠ (if s = n then i else g s)
      rw [if_neg (by omega)]
      split
      · exact fun z => q ⟨r, by omega, z⟩
      · exact inj r s h1 (by omega))
    omega
  have eq := so_uq (a := fun t => ap (g t)) (b := so) srt a6 (fun t ht => by
    obtain ⟨u, u1, u2⟩ := a5 (g t) (og.1 t ht)
    exact ⟨u, u1, u2⟩) (fun t ht => by
    obtain ⟨u, u1, u2⟩ := a4 t ht
    obtain ⟨w, w1, w2⟩ := surj u u1
    exact ⟨w, w1, by show ap (g w) = so t; rw [w2, u2]⟩)
  refine ⟨eq, fun pv n0 pf => ?_⟩
  have top : ∀ t, t < n → colR X R (so t) ≤ colR X R (so (n - 1)) := fun t ht => by
    by_cases e : t = n - 1
    · rw [e]; exact Nat.le_refl _
    · have := a6 t (n - 1) (by omega) (by omega)
      unfold lxj at this
      omega
  have e0 : ap (g 0) = so 0 := eq 0 n0
  obtain ⟨f1, a, f2, f3⟩ := pf
  have l0 := top 0 n0
  have el : ap (g (n - 1)) = so (n - 1) := eq (n - 1) (by omega)
  have b1 := f1 (g (n - 1)) (og.1 _ (by omega))
  obtain ⟨t, t1, t2⟩ := surj a f2
  have et : ap (g t) = so t := eq t t1
  have b2 := top t t1
  have b1 : colR X R (ap (g (n - 1))) - colR X R (ap (g 0)) ≤ pv := b1
  have f3 : pv = colR X R (ap a) - colR X R (ap (g 0)) := f3
  rw [el, e0] at b1
  rw [← t2, et, e0] at f3
  exact ⟨by omega, l0⟩
theorem orders_L {cn : Nat → Nat} {ap so : Nat → Nat → Nat} {v : Int32} : ∀ (l p fuel : Nat) (R : St), RK X R → HDt X C R m j → (∀ q, q < m → PQ (colR X R) (timR X R) j (cn q) (ap q) (so q)) → (∀ q, q < m → sI R (X + 68) q = nI (cn q)) → (∀ q, p ≤ q → q < m → ∀ t, t < cn q → sI R (X + 67) (12 * q + t) = nI (ap q t)) → (∀ q, q < p → (∀ t, t < cn q → sI R (X + 67) (12 * q + t) = nI (so q t)) ∧ sI R (X + 69) q = nI (if cn q = 0 then 0 else colR X R (so q (cn q - 1)) - colR X R (so q 0)) ∧ (0 < cn q → colR X R (so q 0) ≤ colR X R (so q (cn q - 1)))) → p + l = m → l < fuel → ∃ R1, (∀ K, pX11_plan_L152 (X + 34) v K fuel (nI p) R = K R1) ∧ OnI (fun a => a = X + 67 ∨ a = X + 69 ∨ a = X + 70 ∨ a = X + 71) R R1 ∧ ∀ q, q < m → (∀ t, t < cn q → sI R1 (X + 67) (12 * q + t) = nI (so q t)) ∧ sI R1 (X + 69) q = nI (if cn q = 0 then 0 else colR X R (so q (cn q - 1)) - colR X R (so q 0)) ∧ (0 < cn q → colR X R (so q 0) ≤ colR X R (so q (cn q - 1))) := by
  intro l
  induction l with
  | zero =>
    intro p fuel R hR hd pq r68 r67 done hp hf
    obtain ⟨f, rfl⟩ : ∃ f, fuel = f + 1 := ⟨fuel - 1, by omega⟩
    obtain ⟨d1, d2, d3, d4, -⟩ := id hd
    refine ⟨R, fun K => ?_, OnI.rf, fun q hq => done q (by omega)⟩
    simp -implicitDefEqProofs (maxSteps := 2000000) (disch := first | omega | exact hgp | exact RK.mv hR rfl rfl rfl | exact CK.mv hC rfl rfl rfl | decide | (simp -implicitDefEqProofs only [wI_X, wJ_X, wF_X, nw_X]; first | done | omega)) only [pX11_plan_L152, d4, ng_x, b01, ite_clB, clB_id, clB_ie, nar_0, nar_1, wI_se, wI_ne, wJ_se, wJ_ne, wF_se, wF_ne, nw_Te, nw_Tn, nw_Ne, nw_Nn, nw_In, nw_Jn, nw_Fn, nw_X, nw_S, nI_pre, ↓gI_x, ↓gF_x, ↓pI_x, ↓pF_x, ↓pZ_x, ↓ldI_x, ↓stI_x, ↓ldZ_x, ↓stZ_x, ↓ldJ_x, ↓stJ_x, ↓ldF_x, ↓stF_x, ↓ln_x, ↓nO_x, ↓nA_x, onT_x, or2_x, un_s, nu_s, nu_n, ↓lt_x, ↓rt_x, ↓clB_x, ↓rtZ_x, iO_s, iO_n, ↓cO_x, dv_x, rm_x, ↓fl_x, below_x, among_x, in_x, l_toInt, inB_x, uN_nI, ↓ite_S, clB_s, clB_n, wI_T, wI_N, wI_F, wI_J, wI_X, wI_S, wJ_T, wJ_N, wJ_I, wJ_F, wJ_X, wJ_S, wF_T, wF_N, wF_I, wF_J, wF_X, wF_S, wIr_T, wIr_N, wIr_J, wIr_F, wIr_X, wIr_S, wJr_T, wJr_N, wJr_I, wJr_F, wJr_X, wJr_S, fit_10_10, fit_11_11, fit_12_1, fit_12_3, fit_12_4, fit_12_5, fit_1_1, fit_1_3, fit_1_4, fit_1_5, fit_2_2, fit_3_1, fit_3_3, fit_3_4, fit_3_5, fit_4_1, fit_4_3, fit_4_4, fit_4_5, fit_5_5, fit_6_6, fit_7_7, fit_8_8, fit_9_9, L_0, L_1, L_2, L_3, L_4, L_5, L_6, L_7, L_8, L_9, L_10, L_11, L_12, L_13, L_14, L_15, L_16, L_17, L_18, L_19, L_20, L_21, L_22, L_23, L_24, L_25, L_26, L_27, L_28, L_29, L_30, L_31, L_32, L_33, L_34, L_35, L_36, L_37, L_38, L_39, L_40, L_48, L_49, L_50, L_63, L_72, L_100, L_143, L_144, L_200, L_576, L_1000, L_1022, L_1151, L_1152, L_1440, L_5000, L_10000, L_1000000, L_2147483647, J_0, J_1, J_2, J_3, J_4, J_5, J_6, J_7, J_8, J_9, J_10, J_11, J_12, J_13, J_14, J_15, J_16, J_17, J_18, J_19, J_20, J_21, J_22, J_23, J_24, J_25, J_26, J_27, J_28, J_29, J_30, J_31, J_32, J_33, J_34, J_35, J_36, J_37, J_38, J_39, J_40, J_48, J_49, J_50, J_63, J_72, J_100, J_143, J_144, J_200, J_576, J_1000, J_1022, J_1151, J_1152, J_1440, J_5000, J_10000, J_1000000, J_2147483647, N_1, N_1000000, N_1000001, N_1000002, N_1000003, N_1000010, nI_toInt, nI_add, nI_mul, nI_et, nI_ef, nI_lt_t, nI_lt_f, nI_le_t, nI_le_f, inR_t, inR_f, nI_mI, mI_nI, mI_lt, nI_lm, mI_le, nI_em, Int.cast_ofNat_Int, Nat.reduceBEq, or_true, true_or, or_false, false_or, Bool.true_and, Bool.and_true, Bool.false_and, Bool.and_false, Bool.or_true, Bool.true_or, Bool.or_false, Bool.false_or, beq_self_eq_true, not_false_eq_true, if_true, if_false, ite_true, ite_false, eq_self, and_true, true_and, and_false, false_and, not_true_eq_false, not_false_eq_true, reduceCtorEq, and_self, Nat.reduceLeDiff, Nat.reduceEqDiff, Nat.reduceLT, Nat.reduceSub, Int.reduceSub, Int.reduceLE, ne_eq, ↓reduceIte, Nat.reduceMul, Nat.reduceAdd, hR.t34, hR.t35, hR.n35, hR.t36, hR.n36, hR.t37, hR.n37, hR.t38, hR.n38, hR.t39, hR.n39, hR.t40, hR.n40, hR.t41, hR.n41, hR.t42, hR.n42, hR.t43, hR.n43, hR.t44, hR.n44, hR.t45, hR.n45, hR.t46, hR.n46, hR.t47, hR.n47, hR.t48, hR.n48, hR.t49, hR.n49, hR.t50, hR.n50, hR.t51, hR.n51, hR.t52, hR.n52, hR.t53, hR.n53, hR.t54, hR.n54, hR.t55, hR.n55, hR.t56, hR.n56, hR.t57, hR.n57, hR.t58, hR.n58, hR.t59, hR.n59, hR.t60, hR.n60, hR.t61, hR.n61, hR.t62, hR.n62, hR.t63, hR.n63, hR.t64, hR.n64, hR.t65, hR.n65, hR.t66, hR.n66, hR.t67, hR.n67, hR.t68, hR.n68, hR.t69, hR.n69, hR.t70, hR.n70, hR.t71, hR.n71, hR.f2, hR.f3, hR.f4, hR.f5, hR.f6, hR.f7, hR.f8, hR.f9, hR.f10, hR.f11, hR.f12, hR.f13, hR.f14, hR.f15, hR.f16, hR.f18, hR.f19, hR.f20, hR.f21, hR.f22, hR.f25, hR.f26, hR.f27, hR.f28, hR.f29, hR.f30, hR.f31, hR.f32, hR.f34, hR.f36, hR.f37, hR.f38, hR.f40, hR.f41, hR.f42, hR.f43, hR.f44]
  | succ l ih =>
    intro p fuel R hR hd pq r68 r67 done hp hf
    obtain ⟨f, rfl⟩ : ∃ f, fuel = f + 1 := ⟨fuel - 1, by omega⟩
    obtain ⟨d1, d2, d3, d4, d5, d6, d7, d8, d9, d10⟩ := id hd
    have n12 := (pq p (by omega)).1
    obtain ⟨A, g, a1, a2, a3, a4, a5, a6, a7⟩ := orderR_x (X := X) (p := p) (n := cn p) (ap := ap p) (c := colR X R) (by omega) (by omega) hR (r68 p (by omega)) (fun t ht => by
      have x := (pq p (by omega)).2.1 t ht
      exact ⟨r67 p (Nat.le_refl _) (by omega) t ht, by omega, (d9 _ x).2.1, (d9 _ x).2.2⟩)
    obtain ⟨f1, f2⟩ := fin_x hd (pq p (by omega)) a5
    have ec : colR X A = colR X R := by unfold colR; rw [a2.I (by omega)]
    have et : timR X A = timR X R := by unfold timR; rw [a2.I (by omega)]
    have hdA : HDt X C A m j := by
      unfold HDt
      rw [ec, et, a2.I (a := X + 34) (by omega), a2.I (a := X + 63) (by omega), a2.I (a := X + 64) (by omega), a2.I (a := X + 65) (by omega), a2.I (a := X + 66) (by omega)]
      exact hd
    obtain ⟨R1, z1, z2, z3⟩ := ih (p + 1) f A (a2.rk hR) hdA (fun q hq => by rw [ec, et]; exact pq q hq) (fun q hq => by rw [a2.I (by omega)]; exact r68 q hq) (fun q h1 h2 t ht => by
      have q12 := (pq q h2).1
      rw [a3 _ (by omega)]
      exact r67 q (by omega) h2 t ht) (fun q hq => by
      rw [ec]
      by_cases e : q = p
      · subst e
        refine ⟨fun t ht => by rw [a6 t ht, f1 t ht], ?_, fun n0 => ?_⟩
        · rcases a7 with ⟨z1, z2⟩ | ⟨z1, pv, z2, z3⟩
          · rw [if_pos z1]; exact z2
          · rw [if_neg (by omega), z2, (f2 pv z1 z3).1]
        · rcases a7 with ⟨z1, -⟩ | ⟨z1, pv, z2, z3⟩
          · omega
          · exact (f2 pv z1 z3).2
      · obtain ⟨b1, b2, b3⟩ := done q (by omega)
        have q12 := (pq q (by omega)).1
        refine ⟨fun t ht => ?_, by rw [a4 q e]; exact b2, b3⟩
        rw [a3 _ (by omega)]
        exact b1 t ht) (by omega) (by omega)
    rw [ec] at z3
    refine ⟨R1, fun K => Eq.trans ?_ (z1 K), a2.tr z2, z3⟩
    have r34 := hR.t34
    simp -implicitDefEqProofs (maxSteps := 2000000) (disch := first | omega | exact hgp | exact RK.mv hR rfl rfl rfl | exact CK.mv hC rfl rfl rfl | decide | (simp -implicitDefEqProofs only [wI_X, wJ_X, wF_X, nw_X]; first | done | omega)) only [pX11_plan_L152, d4, a1, ng_x, b01, ite_clB, clB_id, clB_ie, nar_0, nar_1, wI_se, wI_ne, wJ_se, wJ_ne, wF_se, wF_ne, nw_Te, nw_Tn, nw_Ne, nw_Nn, nw_In, nw_Jn, nw_Fn, nw_X, nw_S, nI_pre, ↓gI_x, ↓gF_x, ↓pI_x, ↓pF_x, ↓pZ_x, ↓ldI_x, ↓stI_x, ↓ldZ_x, ↓stZ_x, ↓ldJ_x, ↓stJ_x, ↓ldF_x, ↓stF_x, ↓ln_x, ↓nO_x, ↓nA_x, onT_x, or2_x, un_s, nu_s, nu_n, ↓lt_x, ↓rt_x, ↓clB_x, ↓rtZ_x, iO_s, iO_n, ↓cO_x, dv_x, rm_x, ↓fl_x, below_x, among_x, in_x, l_toInt, inB_x, uN_nI, ↓ite_S, clB_s, clB_n, wI_T, wI_N, wI_F, wI_J, wI_X, wI_S, wJ_T, wJ_N, wJ_I, wJ_F, wJ_X, wJ_S, wF_T, wF_N, wF_I, wF_J, wF_X, wF_S, wIr_T, wIr_N, wIr_J, wIr_F, wIr_X, wIr_S, wJr_T, wJr_N, wJr_I, wJr_F, wJr_X, wJr_S, fit_10_10, fit_11_11, fit_12_1, fit_12_3, fit_12_4, fit_12_5, fit_1_1, fit_1_3, fit_1_4, fit_1_5, fit_2_2, fit_3_1, fit_3_3, fit_3_4, fit_3_5, fit_4_1, fit_4_3, fit_4_4, fit_4_5, fit_5_5, fit_6_6, fit_7_7, fit_8_8, fit_9_9, L_0, L_1, L_2, L_3, L_4, L_5, L_6, L_7, L_8, L_9, L_10, L_11, L_12, L_13, L_14, L_15, L_16, L_17, L_18, L_19, L_20, L_21, L_22, L_23, L_24, L_25, L_26, L_27, L_28, L_29, L_30, L_31, L_32, L_33, L_34, L_35, L_36, L_37, L_38, L_39, L_40, L_48, L_49, L_50, L_63, L_72, L_100, L_143, L_144, L_200, L_576, L_1000, L_1022, L_1151, L_1152, L_1440, L_5000, L_10000, L_1000000, L_2147483647, J_0, J_1, J_2, J_3, J_4, J_5, J_6, J_7, J_8, J_9, J_10, J_11, J_12, J_13, J_14, J_15, J_16, J_17, J_18, J_19, J_20, J_21, J_22, J_23, J_24, J_25, J_26, J_27, J_28, J_29, J_30, J_31, J_32, J_33, J_34, J_35, J_36, J_37, J_38, J_39, J_40, J_48, J_49, J_50, J_63, J_72, J_100, J_143, J_144, J_200, J_576, J_1000, J_1022, J_1151, J_1152, J_1440, J_5000, J_10000, J_1000000, J_2147483647, N_1, N_1000000, N_1000001, N_1000002, N_1000003, N_1000010, nI_toInt, nI_add, nI_mul, nI_et, nI_ef, nI_lt_t, nI_lt_f, nI_le_t, nI_le_f, inR_t, inR_f, nI_mI, mI_nI, mI_lt, nI_lm, mI_le, nI_em, Int.cast_ofNat_Int, Nat.reduceBEq, or_true, true_or, or_false, false_or, Bool.true_and, Bool.and_true, Bool.false_and, Bool.and_false, Bool.or_true, Bool.true_or, Bool.or_false, Bool.false_or, beq_self_eq_true, not_false_eq_true, if_true, if_false, ite_true, ite_false, eq_self, and_true, true_and, and_false, false_and, not_true_eq_false, not_false_eq_true, reduceCtorEq, and_self, Nat.reduceLeDiff, Nat.reduceEqDiff, Nat.reduceLT, Nat.reduceSub, Int.reduceSub, Int.reduceLE, ne_eq, ↓reduceIte, Nat.reduceMul, Nat.reduceAdd, hR.t34, hR.t35, hR.n35, hR.t36, hR.n36, hR.t37, hR.n37, hR.t38, hR.n38, hR.t39, hR.n39, hR.t40, hR.n40, hR.t41, hR.n41, hR.t42, hR.n42, hR.t43, hR.n43, hR.t44, hR.n44, hR.t45, hR.n45, hR.t46, hR.n46, hR.t47, hR.n47, hR.t48, hR.n48, hR.t49, hR.n49, hR.t50, hR.n50, hR.t51, hR.n51, hR.t52, hR.n52, hR.t53, hR.n53, hR.t54, hR.n54, hR.t55, hR.n55, hR.t56, hR.n56, hR.t57, hR.n57, hR.t58, hR.n58, hR.t59, hR.n59, hR.t60, hR.n60, hR.t61, hR.n61, hR.t62, hR.n62, hR.t63, hR.n63, hR.t64, hR.n64, hR.t65, hR.n65, hR.t66, hR.n66, hR.t67, hR.n67, hR.t68, hR.n68, hR.t69, hR.n69, hR.t70, hR.n70, hR.t71, hR.n71, hR.f2, hR.f3, hR.f4, hR.f5, hR.f6, hR.f7, hR.f8, hR.f9, hR.f10, hR.f11, hR.f12, hR.f13, hR.f14, hR.f15, hR.f16, hR.f18, hR.f19, hR.f20, hR.f21, hR.f22, hR.f25, hR.f26, hR.f27, hR.f28, hR.f29, hR.f30, hR.f31, hR.f32, hR.f34, hR.f36, hR.f37, hR.f38, hR.f40, hR.f41, hR.f42, hR.f43, hR.f44]
theorem lined_L (hm : m ≤ 6) : ∀ (l i fuel : Nat) (R : St), RK X R → sI R (X + 34) 33 = nI m → i + l = m → l < fuel → ∃ R1, (∀ K, pX11_plan_L12 (X + 34) K fuel (nI i) R = K R1) ∧ OnI (fun a => a = X + 68) R R1 ∧ (∀ q, i ≤ q → q < m → sI R1 (X + 68) q = nI 0) ∧ ∀ q, q < i → sI R1 (X + 68) q = sI R (X + 68) q := by
  intro l
  induction l with
  | zero =>
    intro i fuel R hR e33 hi hf
    obtain ⟨f, rfl⟩ : ∃ f, fuel = f + 1 := ⟨fuel - 1, by omega⟩
    refine ⟨R, fun K => ?_, OnI.rf, fun q h1 h2 => by omega, fun _ _ => rfl⟩
    simp -implicitDefEqProofs (maxSteps := 2000000) (disch := first | omega | exact hgp | exact RK.mv hR rfl rfl rfl | exact CK.mv hC rfl rfl rfl | decide | (simp -implicitDefEqProofs only [wI_X, wJ_X, wF_X, nw_X]; first | done | omega)) only [pX11_plan_L12, e33, ng_x, b01, ite_clB, clB_id, clB_ie, nar_0, nar_1, wI_se, wI_ne, wJ_se, wJ_ne, wF_se, wF_ne, nw_Te, nw_Tn, nw_Ne, nw_Nn, nw_In, nw_Jn, nw_Fn, nw_X, nw_S, nI_pre, ↓gI_x, ↓gF_x, ↓pI_x, ↓pF_x, ↓pZ_x, ↓ldI_x, ↓stI_x, ↓ldZ_x, ↓stZ_x, ↓ldJ_x, ↓stJ_x, ↓ldF_x, ↓stF_x, ↓ln_x, ↓nO_x, ↓nA_x, onT_x, or2_x, un_s, nu_s, nu_n, ↓lt_x, ↓rt_x, ↓clB_x, ↓rtZ_x, iO_s, iO_n, ↓cO_x, dv_x, rm_x, ↓fl_x, below_x, among_x, in_x, l_toInt, inB_x, uN_nI, ↓ite_S, clB_s, clB_n, wI_T, wI_N, wI_F, wI_J, wI_X, wI_S, wJ_T, wJ_N, wJ_I, wJ_F, wJ_X, wJ_S, wF_T, wF_N, wF_I, wF_J, wF_X, wF_S, wIr_T, wIr_N, wIr_J, wIr_F, wIr_X, wIr_S, wJr_T, wJr_N, wJr_I, wJr_F, wJr_X, wJr_S, fit_10_10, fit_11_11, fit_12_1, fit_12_3, fit_12_4, fit_12_5, fit_1_1, fit_1_3, fit_1_4, fit_1_5, fit_2_2, fit_3_1, fit_3_3, fit_3_4, fit_3_5, fit_4_1, fit_4_3, fit_4_4, fit_4_5, fit_5_5, fit_6_6, fit_7_7, fit_8_8, fit_9_9, L_0, L_1, L_2, L_3, L_4, L_5, L_6, L_7, L_8, L_9, L_10, L_11, L_12, L_13, L_14, L_15, L_16, L_17, L_18, L_19, L_20, L_21, L_22, L_23, L_24, L_25, L_26, L_27, L_28, L_29, L_30, L_31, L_32, L_33, L_34, L_35, L_36, L_37, L_38, L_39, L_40, L_48, L_49, L_50, L_63, L_72, L_100, L_143, L_144, L_200, L_576, L_1000, L_1022, L_1151, L_1152, L_1440, L_5000, L_10000, L_1000000, L_2147483647, J_0, J_1, J_2, J_3, J_4, J_5, J_6, J_7, J_8, J_9, J_10, J_11, J_12, J_13, J_14, J_15, J_16, J_17, J_18, J_19, J_20, J_21, J_22, J_23, J_24, J_25, J_26, J_27, J_28, J_29, J_30, J_31, J_32, J_33, J_34, J_35, J_36, J_37, J_38, J_39, J_40, J_48, J_49, J_50, J_63, J_72, J_100, J_143, J_144, J_200, J_576, J_1000, J_1022, J_1151, J_1152, J_1440, J_5000, J_10000, J_1000000, J_2147483647, N_1, N_1000000, N_1000001, N_1000002, N_1000003, N_1000010, nI_toInt, nI_add, nI_mul, nI_et, nI_ef, nI_lt_t, nI_lt_f, nI_le_t, nI_le_f, inR_t, inR_f, nI_mI, mI_nI, mI_lt, nI_lm, mI_le, nI_em, Int.cast_ofNat_Int, Nat.reduceBEq, or_true, true_or, or_false, false_or, Bool.true_and, Bool.and_true, Bool.false_and, Bool.and_false, Bool.or_true, Bool.true_or, Bool.or_false, Bool.false_or, beq_self_eq_true, not_false_eq_true, if_true, if_false, ite_true, ite_false, eq_self, and_true, true_and, and_false, false_and, not_true_eq_false, not_false_eq_true, reduceCtorEq, and_self, Nat.reduceLeDiff, Nat.reduceEqDiff, Nat.reduceLT, Nat.reduceSub, Int.reduceSub, Int.reduceLE, ne_eq, ↓reduceIte, Nat.reduceMul, Nat.reduceAdd, hR.t34, hR.t35, hR.n35, hR.t36, hR.n36, hR.t37, hR.n37, hR.t38, hR.n38, hR.t39, hR.n39, hR.t40, hR.n40, hR.t41, hR.n41, hR.t42, hR.n42, hR.t43, hR.n43, hR.t44, hR.n44, hR.t45, hR.n45, hR.t46, hR.n46, hR.t47, hR.n47, hR.t48, hR.n48, hR.t49, hR.n49, hR.t50, hR.n50, hR.t51, hR.n51, hR.t52, hR.n52, hR.t53, hR.n53, hR.t54, hR.n54, hR.t55, hR.n55, hR.t56, hR.n56, hR.t57, hR.n57, hR.t58, hR.n58, hR.t59, hR.n59, hR.t60, hR.n60, hR.t61, hR.n61, hR.t62, hR.n62, hR.t63, hR.n63, hR.t64, hR.n64, hR.t65, hR.n65, hR.t66, hR.n66, hR.t67, hR.n67, hR.t68, hR.n68, hR.t69, hR.n69, hR.t70, hR.n70, hR.t71, hR.n71, hR.f2, hR.f3, hR.f4, hR.f5, hR.f6, hR.f7, hR.f8, hR.f9, hR.f10, hR.f11, hR.f12, hR.f13, hR.f14, hR.f15, hR.f16, hR.f18, hR.f19, hR.f20, hR.f21, hR.f22, hR.f25, hR.f26, hR.f27, hR.f28, hR.f29, hR.f30, hR.f31, hR.f32, hR.f34, hR.f36, hR.f37, hR.f38, hR.f40, hR.f41, hR.f42, hR.f43, hR.f44]
  | succ l ih =>
    intro i fuel R hR e33 hi hf
    obtain ⟨f, rfl⟩ : ∃ f, fuel = f + 1 := ⟨fuel - 1, by omega⟩
    have on1 : OnI (fun a => a = X + 68) R (wI R (X + 68) i (nI 0)) := OnI.wI OnI.rf (by exact rfl)
    obtain ⟨R1, w1, w2, w3, w4⟩ := ih (i + 1) f (wI R (X + 68) i (nI 0)) (on1.rk hR) (by simp -implicitDefEqProofs (maxSteps := 2000000) (disch := first | omega | (simp -implicitDefEqProofs only [wI_X, wJ_X, wF_X, nw_X]; first | done | omega)) only [ wI_se, wI_ne, wJ_se, wJ_ne, wF_se, wF_ne, nw_Te, nw_Tn, nw_Ne, nw_Nn, nw_In, nw_Jn, nw_Fn, nw_X, nw_S, wI_row, wJ_row, wF_row, wIr_row, wJr_row, wIr_at, wJr_at, wI_T, wI_N, wI_F, wI_J, wI_X, wI_S, wJ_T, wJ_N, wJ_I, wJ_F, wJ_X, wJ_S, wF_T, wF_N, wF_I, wF_J, wF_X, wF_S, wIr_T, wIr_N, wIr_J, wIr_F, wIr_X, wIr_S, wJr_T, wJr_N, wJr_I, wJr_F, wJr_X, wJr_S]; exact e33) (by omega) (by omega)
    refine ⟨R1, fun K => Eq.trans ?_ (w1 K), on1.tr w2, fun q h1 h2 => ?_, fun q hq => ?_⟩
    · simp -implicitDefEqProofs (maxSteps := 2000000) (disch := first | omega | exact hgp | exact RK.mv hR rfl rfl rfl | exact CK.mv hC rfl rfl rfl | decide | (simp -implicitDefEqProofs only [wI_X, wJ_X, wF_X, nw_X]; first | done | omega)) only [pX11_plan_L12, e33, ng_x, b01, ite_clB, clB_id, clB_ie, nar_0, nar_1, wI_se, wI_ne, wJ_se, wJ_ne, wF_se, wF_ne, nw_Te, nw_Tn, nw_Ne, nw_Nn, nw_In, nw_Jn, nw_Fn, nw_X, nw_S, nI_pre, ↓gI_x, ↓gF_x, ↓pI_x, ↓pF_x, ↓pZ_x, ↓ldI_x, ↓stI_x, ↓ldZ_x, ↓stZ_x, ↓ldJ_x, ↓stJ_x, ↓ldF_x, ↓stF_x, ↓ln_x, ↓nO_x, ↓nA_x, onT_x, or2_x, un_s, nu_s, nu_n, ↓lt_x, ↓rt_x, ↓clB_x, ↓rtZ_x, iO_s, iO_n, ↓cO_x, dv_x, rm_x, ↓fl_x, below_x, among_x, in_x, l_toInt, inB_x, uN_nI, ↓ite_S, clB_s, clB_n, wI_T, wI_N, wI_F, wI_J, wI_X, wI_S, wJ_T, wJ_N, wJ_I, wJ_F, wJ_X, wJ_S, wF_T, wF_N, wF_I, wF_J, wF_X, wF_S, wIr_T, wIr_N, wIr_J, wIr_F, wIr_X, wIr_S, wJr_T, wJr_N, wJr_I, wJr_F, wJr_X, wJr_S, fit_10_10, fit_11_11, fit_12_1, fit_12_3, fit_12_4, fit_12_5, fit_1_1, fit_1_3, fit_1_4, fit_1_5, fit_2_2, fit_3_1, fit_3_3, fit_3_4, fit_3_5, fit_4_1, fit_4_3, fit_4_4, fit_4_5, fit_5_5, fit_6_6, fit_7_7, fit_8_8, fit_9_9, L_0, L_1, L_2, L_3, L_4, L_5, L_6, L_7, L_8, L_9, L_10, L_11, L_12, L_13, L_14, L_15, L_16, L_17, L_18, L_19, L_20, L_21, L_22, L_23, L_24, L_25, L_26, L_27, L_28, L_29, L_30, L_31, L_32, L_33, L_34, L_35, L_36, L_37, L_38, L_39, L_40, L_48, L_49, L_50, L_63, L_72, L_100, L_143, L_144, L_200, L_576, L_1000, L_1022, L_1151, L_1152, L_1440, L_5000, L_10000, L_1000000, L_2147483647, J_0, J_1, J_2, J_3, J_4, J_5, J_6, J_7, J_8, J_9, J_10, J_11, J_12, J_13, J_14, J_15, J_16, J_17, J_18, J_19, J_20, J_21, J_22, J_23, J_24, J_25, J_26, J_27, J_28, J_29, J_30, J_31, J_32, J_33, J_34, J_35, J_36, J_37, J_38, J_39, J_40, J_48, J_49, J_50, J_63, J_72, J_100, J_143, J_144, J_200, J_576, J_1000, J_1022, J_1151, J_1152, J_1440, J_5000, J_10000, J_1000000, J_2147483647, N_1, N_1000000, N_1000001, N_1000002, N_1000003, N_1000010, nI_toInt, nI_add, nI_mul, nI_et, nI_ef, nI_lt_t, nI_lt_f, nI_le_t, nI_le_f, inR_t, inR_f, nI_mI, mI_nI, mI_lt, nI_lm, mI_le, nI_em, Int.cast_ofNat_Int, Nat.reduceBEq, or_true, true_or, or_false, false_or, Bool.true_and, Bool.and_true, Bool.false_and, Bool.and_false, Bool.or_true, Bool.true_or, Bool.or_false, Bool.false_or, beq_self_eq_true, not_false_eq_true, if_true, if_false, ite_true, ite_false, eq_self, and_true, true_and, and_false, false_and, not_true_eq_false, not_false_eq_true, reduceCtorEq, and_self, Nat.reduceLeDiff, Nat.reduceEqDiff, Nat.reduceLT, Nat.reduceSub, Int.reduceSub, Int.reduceLE, ne_eq, ↓reduceIte, Nat.reduceMul, Nat.reduceAdd, hR.t34, hR.t35, hR.n35, hR.t36, hR.n36, hR.t37, hR.n37, hR.t38, hR.n38, hR.t39, hR.n39, hR.t40, hR.n40, hR.t41, hR.n41, hR.t42, hR.n42, hR.t43, hR.n43, hR.t44, hR.n44, hR.t45, hR.n45, hR.t46, hR.n46, hR.t47, hR.n47, hR.t48, hR.n48, hR.t49, hR.n49, hR.t50, hR.n50, hR.t51, hR.n51, hR.t52, hR.n52, hR.t53, hR.n53, hR.t54, hR.n54, hR.t55, hR.n55, hR.t56, hR.n56, hR.t57, hR.n57, hR.t58, hR.n58, hR.t59, hR.n59, hR.t60, hR.n60, hR.t61, hR.n61, hR.t62, hR.n62, hR.t63, hR.n63, hR.t64, hR.n64, hR.t65, hR.n65, hR.t66, hR.n66, hR.t67, hR.n67, hR.t68, hR.n68, hR.t69, hR.n69, hR.t70, hR.n70, hR.t71, hR.n71, hR.f2, hR.f3, hR.f4, hR.f5, hR.f6, hR.f7, hR.f8, hR.f9, hR.f10, hR.f11, hR.f12, hR.f13, hR.f14, hR.f15, hR.f16, hR.f18, hR.f19, hR.f20, hR.f21, hR.f22, hR.f25, hR.f26, hR.f27, hR.f28, hR.f29, hR.f30, hR.f31, hR.f32, hR.f34, hR.f36, hR.f37, hR.f38, hR.f40, hR.f41, hR.f42, hR.f43, hR.f44]
    · by_cases e : q = i
      · subst e
        rw [w4 q (by omega)]
        simp -implicitDefEqProofs (maxSteps := 2000000) (disch := first | omega | (simp -implicitDefEqProofs only [wI_X, wJ_X, wF_X, nw_X]; first | done | omega)) only [ wI_se, wI_ne, wJ_se, wJ_ne, wF_se, wF_ne, nw_Te, nw_Tn, nw_Ne, nw_Nn, nw_In, nw_Jn, nw_Fn, nw_X, nw_S, wI_row, wJ_row, wF_row, wIr_row, wJr_row, wIr_at, wJr_at, wI_T, wI_N, wI_F, wI_J, wI_X, wI_S, wJ_T, wJ_N, wJ_I, wJ_F, wJ_X, wJ_S, wF_T, wF_N, wF_I, wF_J, wF_X, wF_S, wIr_T, wIr_N, wIr_J, wIr_F, wIr_X, wIr_S, wJr_T, wJr_N, wJr_I, wJr_F, wJr_X, wJr_S]
      · exact w3 q (by omega) h2
    · rw [w4 q (by omega)]
      simp -implicitDefEqProofs (maxSteps := 2000000) (disch := first | omega | (simp -implicitDefEqProofs only [wI_X, wJ_X, wF_X, nw_X]; first | done | omega)) only [ wI_se, wI_ne, wJ_se, wJ_ne, wF_se, wF_ne, nw_Te, nw_Tn, nw_Ne, nw_Nn, nw_In, nw_Jn, nw_Fn, nw_X, nw_S, wI_row, wJ_row, wF_row, wIr_row, wJr_row, wIr_at, wJr_at, wI_T, wI_N, wI_F, wI_J, wI_X, wI_S, wJ_T, wJ_N, wJ_I, wJ_F, wJ_X, wJ_S, wF_T, wF_N, wF_I, wF_J, wF_X, wF_S, wIr_T, wIr_N, wIr_J, wIr_F, wIr_X, wIr_S, wJr_T, wJr_N, wJr_I, wJr_F, wJr_X, wJr_S]
end Pk
set_option maxHeartbeats 16000000 in
theorem bt_plan (X : Nat) : Alike (Rel X) (pX10_plan X) (pX11_plan (X + 34)) := by
  intro C R h dC dR
  have hC := h.2.ck
  have hR := h.2.rk
  have hX : X + 71 < sX C := dR _ (by rw [hR.t71]; decide)
  obtain ⟨m, j, k1, k2, k3, k4, k5, k6, k7, k8, k9, k10, -⟩ := id h.2.kh
  obtain ⟨A, a1, a2, a3⟩ := forget_x hC
  have hA := a2.ck hC
  have on0 : OnI (fun a => a = X + 34 ∨ (X + 67 ≤ a ∧ a ≤ X + 71)) R (wI (wI R (X + 34) 0 (nI 0)) (X + 34) 39 (nI 1)) := OnI.wI (OnI.wI OnI.rf (by exact Or.inl rfl)) (by exact Or.inl rfl)
  obtain ⟨B, b1, b2, b3, -⟩ := lined_L (X := X) k1 m 0 FL (wI (wI R (X + 34) 0 (nI 0)) (X + 34) 39 (nI 1)) (on0.rk hR) (by simp -implicitDefEqProofs (maxSteps := 2000000) (disch := first | omega | (simp -implicitDefEqProofs only [wI_X, wJ_X, wF_X, nw_X]; first | done | omega)) only [ wI_se, wI_ne, wJ_se, wJ_ne, wF_se, wF_ne, nw_Te, nw_Tn, nw_Ne, nw_Nn, nw_In, nw_Jn, nw_Fn, nw_X, nw_S, wI_row, wJ_row, wF_row, wIr_row, wJr_row, wIr_at, wJr_at, wI_T, wI_N, wI_F, wI_J, wI_X, wI_S, wJ_T, wJ_N, wJ_I, wJ_F, wJ_X, wJ_S, wF_T, wF_N, wF_I, wF_J, wF_X, wF_S, wIr_T, wIr_N, wIr_J, wIr_F, wIr_X, wIr_S, wJr_T, wJr_N, wJr_I, wJr_F, wJr_X, wJr_S]; exact k4) (by omega) (by unfold FL; omega)
  have onB := on0.tr (b2.mono (fun a ha => by omega))
  have hB := onB.rk hR
  have i34 : ∀ q, q ≠ 0 → q ≠ 39 → sI B (X + 34) q = sI R (X + 34) q := fun q q0 q39 => by
    rw [b2.I (by omega)]
    simp -implicitDefEqProofs (maxSteps := 2000000) (disch := first | omega | (simp -implicitDefEqProofs only [wI_X, wJ_X, wF_X, nw_X]; first | done | omega)) only [ wI_se, wI_ne, wJ_se, wJ_ne, wF_se, wF_ne, nw_Te, nw_Tn, nw_Ne, nw_Nn, nw_In, nw_Jn, nw_Fn, nw_X, nw_S, wI_row, wJ_row, wF_row, wIr_row, wJr_row, wIr_at, wJr_at, wI_T, wI_N, wI_F, wI_J, wI_X, wI_S, wJ_T, wJ_N, wJ_I, wJ_F, wJ_X, wJ_S, wF_T, wF_N, wF_I, wF_J, wF_X, wF_S, wIr_T, wIr_N, wIr_J, wIr_F, wIr_X, wIr_S, wJr_T, wJr_N, wJr_I, wJr_F, wJr_X, wJr_S]
  have i39 : sI B (X + 34) 39 = nI 1 := by
    rw [b2.I (by omega)]
    simp -implicitDefEqProofs (maxSteps := 2000000) (disch := first | omega | (simp -implicitDefEqProofs only [wI_X, wJ_X, wF_X, nw_X]; first | done | omega)) only [ wI_se, wI_ne, wJ_se, wJ_ne, wF_se, wF_ne, nw_Te, nw_Tn, nw_Ne, nw_Nn, nw_In, nw_Jn, nw_Fn, nw_X, nw_S, wI_row, wJ_row, wF_row, wIr_row, wJr_row, wIr_at, wJr_at, wI_T, wI_N, wI_F, wI_J, wI_X, wI_S, wJ_T, wJ_N, wJ_I, wJ_F, wJ_X, wJ_S, wF_T, wF_N, wF_I, wF_J, wF_X, wF_S, wIr_T, wIr_N, wIr_J, wIr_F, wIr_X, wIr_S, wJr_T, wJr_N, wJr_I, wJr_F, wJr_X, wJr_S]
  have ecB : colR X B = colR X R := by unfold colR; rw [onB.I (by omega)]
  have etB : timR X B = timR X R := by unfold timR; rw [onB.I (by omega)]
  have hcol : ∀ i, i < j → sI R (X + 65) i = nI (colR X R i) ∧ colR X R i ≤ 9 := fun i hi => by
    obtain ⟨-, c, c1, c2⟩ := k9 i hi
    unfold colR
    rw [c2, uN_nI (by omega)]
    exact ⟨rfl, c1⟩
  have htim : ∀ i, i < j → sI R (X + 66) i = nI (timR X R i) ∧ timR X R i ≤ 1000 := fun i hi => by
    obtain ⟨-, t, t1, t2, t3⟩ := k10 i hi
    unfold timR
    rw [t3, uN_nI (by omega)]
    exact ⟨rfl, t2⟩
  have hd : HDt X A B m j := by
    unfold HDt
    rw [ecB, etB, a2.I (a := X + 20) (by omega), a2.I (a := X + 21) (by omega), a2.I (a := X + 22) (by omega), a2.I (a := X + 23) (by omega), a2.I (a := X + 24) (by omega), i34 33 (by omega) (by omega), i34 35 (by omega) (by omega), onB.I (a := X + 63) (by omega), onB.I (a := X + 64) (by omega), onB.I (a := X + 65) (by omega), onB.I (a := X + 66) (by omega)]
    exact ⟨k1, k2, k3, k4, k5, k6, k7, k8, fun i hi => ⟨by rw [(k9 i hi).1]; exact (hcol i hi).1, (hcol i hi).1, (hcol i hi).2⟩, fun i hi => ⟨by rw [(k10 i hi).1]; exact (htim i hi).1, (htim i hi).1, (htim i hi).2⟩⟩
  have pl0 : PL X m 0 A B (colR X B) (timR X B) (fun _ => 0) (fun _ _ => 0) (fun _ _ => 0) := fun p hp => ⟨⟨Nat.le_refl _, fun t ht => absurd ht (Nat.not_lt_zero _), fun t u _ hu => absurd hu (Nat.not_lt_zero _), fun t ht => absurd ht (Nat.not_lt_zero _), fun u hu => absurd hu (Nat.not_lt_zero _), fun t u _ hu => absurd hu (Nat.not_lt_zero _), rfl⟩, (a3 p (by omega)).1, b3 p (by omega) hp, fun t ht => absurd ht (Nat.not_lt_zero _), fun t ht => absurd ht (Nat.not_lt_zero _), (a3 p (by omega)).2⟩
  obtain ⟨left, cn, ap, so, C1, R1, z1, z2, z3, z4, z5, z6⟩ := jobs_L (X := X) (m := m) (j := j) j 0 FL FL 0 _ _ _ A B hA hB hd pl0 (by omega) (by unfold FL; omega) (by unfold FL; omega)
  have hR1 := z6.rk hB
  obtain ⟨R2, y1, y2, y3⟩ := orders_L (X := X) (C := C1) (v := nI left) m 0 FL R1 hR1 z3 (fun q hq => (z4 q hq).1) (fun q hq => (z4 q hq).2.2.1) (fun q _ hq => (z4 q hq).2.2.2.2.1) (fun q hq => by omega) (by omega) (by unfold FL; omega)
  have onC : OnI (fun a => ∃ k, 20 ≤ k ∧ k ≤ 33 ∧ a = X + k) C C1 := (a2.mono (fun a ha => by rcases ha with q | q; exact ⟨32, by omega⟩; exact ⟨33, by omega⟩)).tr (z5.mono (fun a ha => ⟨a - X, by omega⟩))
  have onR : OnI (fun a => a = X + 34 ∨ (X + 67 ≤ a ∧ a ≤ X + 71)) R R2 := (onB.tr (z6.mono (fun a ha => by omega))).tr (y2.mono (fun a ha => by omega))
  have e34 : sI R2 (X + 34) = sI B (X + 34) := by rw [y2.I (by omega), z6.I (by omega)]
  have ec1 : colR X R1 = colR X R := by unfold colR; rw [z6.I (by omega), onB.I (by omega)]
  have et1 : timR X R1 = timR X R := by unfold timR; rw [z6.I (by omega), onB.I (by omega)]
  have c20 := hC.t20
  have cA20 := hA.t20
  have z1 := z1 (fun v => rt v)
  have z1 : pX5_makePlan_L8 (X + 20) (fun v => rt v) FL (nI 0) (nI 0) A = some (nI left, C1) := z1
  have y1 := y1 (rt (nI left))
  have y1 : pX11_plan_L152 (X + 34) (nI left) (rt (nI left)) FL (nI 0) R1 = some (nI left, R2) := y1
  simp -implicitDefEqProofs (maxSteps := 2000000) (disch := first | omega | exact hgp | exact RK.mv hR rfl rfl rfl | exact CK.mv hC rfl rfl rfl | decide | (simp -implicitDefEqProofs only [wI_X, wJ_X, wF_X, nw_X]; first | done | omega)) only [pX10_plan, pX11_plan, pX5_makePlan, a1, z1, b1, z2, y1, ng_x, b01, ite_clB, clB_id, clB_ie, nar_0, nar_1, wI_se, wI_ne, wJ_se, wJ_ne, wF_se, wF_ne, nw_Te, nw_Tn, nw_Ne, nw_Nn, nw_In, nw_Jn, nw_Fn, nw_X, nw_S, nI_pre, ↓gI_x, ↓gF_x, ↓pI_x, ↓pF_x, ↓pZ_x, ↓ldI_x, ↓stI_x, ↓ldZ_x, ↓stZ_x, ↓ldJ_x, ↓stJ_x, ↓ldF_x, ↓stF_x, ↓ln_x, ↓nO_x, ↓nA_x, onT_x, or2_x, un_s, nu_s, nu_n, ↓lt_x, ↓rt_x, ↓clB_x, ↓rtZ_x, iO_s, iO_n, ↓cO_x, dv_x, rm_x, ↓fl_x, below_x, among_x, in_x, l_toInt, inB_x, uN_nI, ↓ite_S, clB_s, clB_n, wI_T, wI_N, wI_F, wI_J, wI_X, wI_S, wJ_T, wJ_N, wJ_I, wJ_F, wJ_X, wJ_S, wF_T, wF_N, wF_I, wF_J, wF_X, wF_S, wIr_T, wIr_N, wIr_J, wIr_F, wIr_X, wIr_S, wJr_T, wJr_N, wJr_I, wJr_F, wJr_X, wJr_S, fit_10_10, fit_11_11, fit_12_1, fit_12_3, fit_12_4, fit_12_5, fit_1_1, fit_1_3, fit_1_4, fit_1_5, fit_2_2, fit_3_1, fit_3_3, fit_3_4, fit_3_5, fit_4_1, fit_4_3, fit_4_4, fit_4_5, fit_5_5, fit_6_6, fit_7_7, fit_8_8, fit_9_9, L_0, L_1, L_2, L_3, L_4, L_5, L_6, L_7, L_8, L_9, L_10, L_11, L_12, L_13, L_14, L_15, L_16, L_17, L_18, L_19, L_20, L_21, L_22, L_23, L_24, L_25, L_26, L_27, L_28, L_29, L_30, L_31, L_32, L_33, L_34, L_35, L_36, L_37, L_38, L_39, L_40, L_48, L_49, L_50, L_63, L_72, L_100, L_143, L_144, L_200, L_576, L_1000, L_1022, L_1151, L_1152, L_1440, L_5000, L_10000, L_1000000, L_2147483647, J_0, J_1, J_2, J_3, J_4, J_5, J_6, J_7, J_8, J_9, J_10, J_11, J_12, J_13, J_14, J_15, J_16, J_17, J_18, J_19, J_20, J_21, J_22, J_23, J_24, J_25, J_26, J_27, J_28, J_29, J_30, J_31, J_32, J_33, J_34, J_35, J_36, J_37, J_38, J_39, J_40, J_48, J_49, J_50, J_63, J_72, J_100, J_143, J_144, J_200, J_576, J_1000, J_1022, J_1151, J_1152, J_1440, J_5000, J_10000, J_1000000, J_2147483647, N_1, N_1000000, N_1000001, N_1000002, N_1000003, N_1000010, nI_toInt, nI_add, nI_mul, nI_et, nI_ef, nI_lt_t, nI_lt_f, nI_le_t, nI_le_f, inR_t, inR_f, nI_mI, mI_nI, mI_lt, nI_lm, mI_le, nI_em, Int.cast_ofNat_Int, Nat.reduceBEq, or_true, true_or, or_false, false_or, Bool.true_and, Bool.and_true, Bool.false_and, Bool.and_false, Bool.or_true, Bool.true_or, Bool.or_false, Bool.false_or, beq_self_eq_true, not_false_eq_true, if_true, if_false, ite_true, ite_false, eq_self, and_true, true_and, and_false, false_and, not_true_eq_false, not_false_eq_true, reduceCtorEq, and_self, Nat.reduceLeDiff, Nat.reduceEqDiff, Nat.reduceLT, Nat.reduceSub, Int.reduceSub, Int.reduceLE, ne_eq, ↓reduceIte, Nat.reduceMul, Nat.reduceAdd, hC.t0, hC.t1, hC.n1, hC.t2, hC.n2, hC.t3, hC.t4, hC.n4, hC.t5, hC.t6, hC.n6, hC.t7, hC.n7, hC.t8, hC.n8, hC.t9, hC.n9, hC.t10, hC.n10, hC.t11, hC.n11, hC.t12, hC.t13, hC.n13, hC.t14, hC.n14, hC.t15, hC.n15, hC.t16, hC.n16, hC.t17, hC.n17, hC.t18, hC.n18, hC.t19, hC.n19, hC.t20, hC.t21, hC.n21, hC.t22, hC.n22, hC.t23, hC.n23, hC.t24, hC.n24, hC.t25, hC.n25, hC.t26, hC.n26, hC.t27, hC.n27, hC.t28, hC.n28, hC.t29, hC.n29, hC.t30, hC.n30, hC.t31, hC.n31, hC.t32, hC.n32, hC.t33, hC.n33, hC.f0_0, hC.f0_1, hC.f0_2, hC.f0_3, hC.f0_4, hC.f0_5, hC.f3_0, hC.f5_0, hC.f5_1, hC.f5_2, hC.f5_3, hC.f5_4, hC.f5_5, hC.f12_0, hC.f12_1, hC.f12_2, hC.f12_3, hC.f12_5, hC.f12_6, hC.f12_7, hC.f20_0, hC.f20_1, hC.f20_2, hC.f20_3, hC.f20_4, hC.f20_5, hC.f20_6, hC.f25_0, hC.f25_1, hC.f25_2, hC.f25_3, hC.f25_4, hC.f25_5, hR.t34, hR.t35, hR.n35, hR.t36, hR.n36, hR.t37, hR.n37, hR.t38, hR.n38, hR.t39, hR.n39, hR.t40, hR.n40, hR.t41, hR.n41, hR.t42, hR.n42, hR.t43, hR.n43, hR.t44, hR.n44, hR.t45, hR.n45, hR.t46, hR.n46, hR.t47, hR.n47, hR.t48, hR.n48, hR.t49, hR.n49, hR.t50, hR.n50, hR.t51, hR.n51, hR.t52, hR.n52, hR.t53, hR.n53, hR.t54, hR.n54, hR.t55, hR.n55, hR.t56, hR.n56, hR.t57, hR.n57, hR.t58, hR.n58, hR.t59, hR.n59, hR.t60, hR.n60, hR.t61, hR.n61, hR.t62, hR.n62, hR.t63, hR.n63, hR.t64, hR.n64, hR.t65, hR.n65, hR.t66, hR.n66, hR.t67, hR.n67, hR.t68, hR.n68, hR.t69, hR.n69, hR.t70, hR.n70, hR.t71, hR.n71, hR.f2, hR.f3, hR.f4, hR.f5, hR.f6, hR.f7, hR.f8, hR.f9, hR.f10, hR.f11, hR.f12, hR.f13, hR.f14, hR.f15, hR.f16, hR.f18, hR.f19, hR.f20, hR.f21, hR.f22, hR.f25, hR.f26, hR.f27, hR.f28, hR.f29, hR.f30, hR.f31, hR.f32, hR.f34, hR.f36, hR.f37, hR.f38, hR.f40, hR.f41, hR.f42, hR.f43, hR.f44]
  refine al_fi rfl ((h.2.hall (C1 := C1) (R1 := R2) onC ⟨m, j, k1, k2, ?_⟩ onR.T onR.N onR.F (congrFun onR.J _) (fun k hk => onR.I (by omega)) (fun q hq => by rw [e34]; exact i34 q (by omega) (by omega))).ka ?_) onR.nx onR.ns onR.T onC.nx onC.ns
  · obtain ⟨d1, d2, d3, d4, d5, d6, d7, d8, d9, d10⟩ := z3
    have r65 := y2.I (a := X + 65) (by omega)
    have r66 := y2.I (a := X + 66) (by omega)
    refine ⟨d3, by rw [e34, i34 33 (by omega) (by omega)]; exact k4, d5, by rw [e34, i34 35 (by omega) (by omega)]; exact k6, by rw [y2.I (by omega)]; exact d7, by rw [y2.I (by omega)]; exact d8, fun i hi => ?_, fun i hi => ?_, Or.inr ⟨by rw [e34]; exact i39, fun p hp => ?_⟩⟩
    · rw [r65]
      obtain ⟨q1, q2, q3⟩ := d9 i hi
      exact ⟨by rw [q1, q2], _, q3, q2⟩
    · rw [r66]
      obtain ⟨q1, q2, q3⟩ := d10 i hi
      refine ⟨by rw [q1, q2], _, ?_, q3, q2⟩
      obtain ⟨-, t, t1, t2, t3⟩ := k10 i hi
      rw [et1]
      unfold timR
      rw [t3, uN_nI (by omega)]
      exact t1
    · obtain ⟨pq, pr⟩ := z4 p hp
      obtain ⟨f1, f2, f3⟩ := y3 p hp
      refine ⟨cn p, so p, pq.1, pr.1, by rw [y2.I (by omega)]; exact pr.2.1, fun t ht => ⟨pq.so_lt t ht, pr.2.2.1 t ht, f1 t ht⟩, ?_, ?_, ?_⟩
      · rw [r66]
        exact pr.2.2.2.2
      · rw [r65]
        exact f2
      · rw [r65]
        by_cases n0 : cn p = 0
        · rw [n0]
          exact Nat.le_refl _
        · exact f3 (by omega)
  · rw [onC.I (fun ⟨k, q1, q2, q3⟩ => by omega), e34, i34 1 (by omega) (by omega)]
    exact h.1
