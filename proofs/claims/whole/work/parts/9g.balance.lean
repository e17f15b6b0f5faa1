/-! (B) balance -/
section Bb
variable {X : Nat} {C C1 R R1 : St} {a1 : Int32}
def bsP (a : Int32) (s : Nat) : Bool := decide (a >>> (nI s &&& nI 31) &&& nI 1 = nI 1)
/-- the sizes in a set, from i on -/
def chl (p : Nat → Bool) : Nat → Nat → List Nat
  | _, 0 => []
  | i, m + 1 => if p i = true then i :: chl p (i + 1) m else chl p (i + 1) m
theorem chl_len (p : Nat → Bool) : ∀ m i, (chl p i m).length = cnt p i m := by
  intro m
  induction m with
  | zero => intro i; rfl
  | succ m ih =>
    intro i
    show (if p i = true then i :: chl p (i + 1) m else chl p (i + 1) m).length = (if p i = true then 1 else 0) + cnt p (i + 1) m
    by_cases g : p i = true
    · rw [if_pos g, if_pos g, List.length_cons, ih]
      omega
    · rw [if_neg g, if_neg g, ih]
      omega
theorem chl_in (p : Nat → Bool) : ∀ m i j, j < (chl p i m).length → i ≤ (chl p i m).getD j 0 ∧ (chl p i m).getD j 0 < i + m := by
  intro m
  induction m with
  | zero => intro i j hj; exact absurd hj (Nat.not_lt_zero _)
  | succ m ih =>
    intro i j
    show j < (if p i = true then i :: chl p (i + 1) m else chl p (i + 1) m).length → i ≤ (if p i = true then i :: chl p (i + 1) m else chl p (i + 1) m).getD j 0 ∧ (if p i = true then i :: chl p (i + 1) m else chl p (i + 1) m).getD j 0 < i + (m + 1)
    by_cases g : p i = true
    · rw [if_pos g]
      intro hj
      rcases j with _ | j
      · rw [List.getD_cons_zero]; omega
      · rw [List.getD_cons_succ]
        rw [List.length_cons] at hj
        have := ih (i + 1) j (by omega)
        omega
    · rw [if_neg g]
      intro hj
      have := ih (i + 1) j hj
      omega
theorem cnt_le9 (p : Nat → Bool) : ∀ m i, cnt p i m ≤ m := by
  intro m
  induction m with
  | zero => intro i; exact Nat.le_refl _
  | succ m ih =>
    intro i
    show (if p i = true then 1 else 0) + cnt p (i + 1) m ≤ m + 1
    have := ih (i + 1)
    split <;> omega
theorem bitsR_L : ∀ (m i fuel n : Nat) (R : St), RK X R → i + m = 10 → m < fuel → n ≤ i → ∃ R1, (∀ K, pX11_balance_L9 (X + 34) a1 K fuel (nI n) (nI i) R = K (nI (n + cnt (bsP a1) i m)) R1) ∧ OnI (fun a => a = X + 60) R R1 ∧ (n + cnt (bsP a1) i m ≤ 3 → (∀ j, j < n → sI R1 (X + 60) j = sI R (X + 60) j) ∧ ∀ j, j < cnt (bsP a1) i m → sI R1 (X + 60) (n + j) = nI ((chl (bsP a1) i m).getD j 0)) := by
  intro m
  induction m with
  | zero =>
    intro i fuel n R hR hi hf hn
    obtain ⟨f, rfl⟩ : ∃ f, fuel = f + 1 := ⟨fuel - 1, by omega⟩
    have : i = 10 := by omega
    subst this
    refine ⟨R, fun K => ?_, OnI.rf, fun _ => ⟨fun _ _ => rfl, fun j hj => absurd hj (Nat.not_lt_zero _)⟩⟩
    show _ = K (nI n) R
    simp -implicitDefEqProofs (maxSteps := 2000000) (disch := first | omega | exact hgp | exact RK.mv hR rfl rfl rfl | exact CK.mv hC rfl rfl rfl | decide | (simp -implicitDefEqProofs only [wI_X, wJ_X, wF_X, nw_X]; first | done | omega)) only [pX11_balance_L9, ng_x, b01, ite_clB, clB_id, clB_ie, nar_0, nar_1, wI_se, wI_ne, wJ_se, wJ_ne, wF_se, wF_ne, nw_Te, nw_Tn, nw_Ne, nw_Nn, nw_In, nw_Jn, nw_Fn, nw_X, nw_S, nI_pre, ↓gI_x, ↓gF_x, ↓pI_x, ↓pF_x, ↓pZ_x, ↓ldI_x, ↓stI_x, ↓ldZ_x, ↓stZ_x, ↓ldJ_x, ↓stJ_x, ↓ldF_x, ↓stF_x, ↓ln_x, ↓nO_x, ↓nA_x, onT_x, or2_x, un_s, nu_s, nu_n, ↓lt_x, ↓rt_x, ↓clB_x, ↓rtZ_x, iO_s, iO_n, ↓cO_x, dv_x, rm_x, ↓fl_x, below_x, among_x, in_x, l_toInt, inB_x, uN_nI, ↓ite_S, clB_s, clB_n, wI_T, wI_N, wI_F, wI_J, wI_X, wI_S, wJ_T, wJ_N, wJ_I, wJ_F, wJ_X, wJ_S, wF_T, wF_N, wF_I, wF_J, wF_X, wF_S, wIr_T, wIr_N, wIr_J, wIr_F, wIr_X, wIr_S, wJr_T, wJr_N, wJr_I, wJr_F, wJr_X, wJr_S, fit_10_10, fit_11_11, fit_12_1, fit_12_3, fit_12_4, fit_12_5, fit_1_1, fit_1_3, fit_1_4, fit_1_5, fit_2_2, fit_3_1, fit_3_3, fit_3_4, fit_3_5, fit_4_1, fit_4_3, fit_4_4, fit_4_5, fit_5_5, fit_6_6, fit_7_7, fit_8_8, fit_9_9, L_0, L_1, L_2, L_3, L_4, L_5, L_6, L_7, L_8, L_9, L_10, L_11, L_12, L_13, L_14, L_15, L_16, L_17, L_18, L_19, L_20, L_21, L_22, L_23, L_24, L_25, L_26, L_27, L_28, L_29, L_30, L_31, L_32, L_33, L_34, L_35, L_36, L_37, L_38, L_39, L_40, L_48, L_49, L_50, L_63, L_72, L_100, L_143, L_144, L_200, L_576, L_1000, L_1022, L_1151, L_1152, L_1440, L_5000, L_10000, L_1000000, L_2147483647, J_0, J_1, J_2, J_3, J_4, J_5, J_6, J_7, J_8, J_9, J_10, J_11, J_12, J_13, J_14, J_15, J_16, J_17, J_18, J_19, J_20, J_21, J_22, J_23, J_24, J_25, J_26, J_27, J_28, J_29, J_30, J_31, J_32, J_33, J_34, J_35, J_36, J_37, J_38, J_39, J_40, J_48, J_49, J_50, J_63, J_72, J_100, J_143, J_144, J_200, J_576, J_1000, J_1022, J_1151, J_1152, J_1440, J_5000, J_10000, J_1000000, J_2147483647, N_1, N_1000000, N_1000001, N_1000002, N_1000003, N_1000010, nI_toInt, nI_add, nI_mul, nI_et, nI_ef, nI_lt_t, nI_lt_f, nI_le_t, nI_le_f, inR_t, inR_f, nI_mI, mI_nI, mI_lt, nI_lm, mI_le, nI_em, Int.cast_ofNat_Int, Nat.reduceBEq, or_true, true_or, or_false, false_or, Bool.true_and, Bool.and_true, Bool.false_and, Bool.and_false, Bool.or_true, Bool.true_or, Bool.or_false, Bool.false_or, beq_self_eq_true, not_false_eq_true, if_true, if_false, ite_true, ite_false, eq_self, and_true, true_and, and_false, false_and, not_true_eq_false, not_false_eq_true, reduceCtorEq, and_self, Nat.reduceLeDiff, Nat.reduceEqDiff, Nat.reduceLT, Nat.reduceSub, Int.reduceSub, Int.reduceLE, ne_eq, ↓reduceIte, Nat.reduceMul, Nat.reduceAdd, hR.t34, hR.t35, hR.n35, hR.t36, hR.n36, hR.t37, hR.n37, hR.t38, hR.n38, hR.t39, hR.n39, hR.t40, hR.n40, hR.t41, hR.n41, hR.t42, hR.n42, hR.t43, hR.n43, hR.t44, hR.n44, hR.t45, hR.n45, hR.t46, hR.n46, hR.t47, hR.n47, hR.t48, hR.n48, hR.t49, hR.n49, hR.t50, hR.n50, hR.t51, hR.n51, hR.t52, hR.n52, hR.t53, hR.n53, hR.t54, hR.n54, hR.t55, hR.n55, hR.t56, hR.n56, hR.t57, hR.n57, hR.t58, hR.n58, hR.t59, hR.n59, hR.t60, hR.n60, hR.t61, hR.n61, hR.t62, hR.n62, hR.t63, hR.n63, hR.t64, hR.n64, hR.t65, hR.n65, hR.t66, hR.n66, hR.t67, hR.n67, hR.t68, hR.n68, hR.t69, hR.n69, hR.t70, hR.n70, hR.t71, hR.n71, hR.f2, hR.f3, hR.f4, hR.f5, hR.f6, hR.f7, hR.f8, hR.f9, hR.f10, hR.f11, hR.f12, hR.f13, hR.f14, hR.f15, hR.f16, hR.f18, hR.f19, hR.f20, hR.f21, hR.f22, hR.f25, hR.f26, hR.f27, hR.f28, hR.f29, hR.f30, hR.f31, hR.f32, hR.f34, hR.f36, hR.f37, hR.f38, hR.f40, hR.f41, hR.f42, hR.f43, hR.f44]
  | succ m ih =>
    intro i fuel n R hR hi hf hn
    obtain ⟨f, rfl⟩ : ∃ f, fuel = f + 1 := ⟨fuel - 1, by omega⟩
    have cs : cnt (bsP a1) i (m + 1) = (if bsP a1 i = true then 1 else 0) + cnt (bsP a1) (i + 1) m := rfl
    have cl : chl (bsP a1) i (m + 1) = (if bsP a1 i = true then i :: chl (bsP a1) (i + 1) m else chl (bsP a1) (i + 1) m) := rfl
    by_cases g : bsP a1 i = true
    · rw [if_pos g] at cs cl
      have g' : (a1 >>> (nI i &&& nI 31) &&& nI 1 = nI 1) = True := eq_true (of_decide_eq_true g)
      rw [cs, cl]
      by_cases n3 : n < 3
      · have on1 : OnI (fun a => a = X + 60) R (wI R (X + 60) n (nI i)) := OnI.wI OnI.rf (by exact rfl)
        obtain ⟨R1, w1, w2, w3⟩ := ih (i + 1) f (n + 1) (wI R (X + 60) n (nI i)) (on1.rk hR) (by omega) (by omega) (by omega)
        refine ⟨R1, fun K => Eq.trans ?_ ((w1 K).trans (by rw [show n + 1 + cnt (bsP a1) (i + 1) m = n + (1 + cnt (bsP a1) (i + 1) m) from by omega])), on1.tr w2, fun q => ?_⟩
        · simp -implicitDefEqProofs (maxSteps := 2000000) (disch := first | omega | exact hgp | exact RK.mv hR rfl rfl rfl | exact CK.mv hC rfl rfl rfl | decide | (simp -implicitDefEqProofs only [wI_X, wJ_X, wF_X, nw_X]; first | done | omega)) only [pX11_balance_L9, g', ng_x, b01, ite_clB, clB_id, clB_ie, nar_0, nar_1, wI_se, wI_ne, wJ_se, wJ_ne, wF_se, wF_ne, nw_Te, nw_Tn, nw_Ne, nw_Nn, nw_In, nw_Jn, nw_Fn, nw_X, nw_S, nI_pre, ↓gI_x, ↓gF_x, ↓pI_x, ↓pF_x, ↓pZ_x, ↓ldI_x, ↓stI_x, ↓ldZ_x, ↓stZ_x, ↓ldJ_x, ↓stJ_x, ↓ldF_x, ↓stF_x, ↓ln_x, ↓nO_x, ↓nA_x, onT_x, or2_x, un_s, nu_s, nu_n, ↓lt_x, ↓rt_x, ↓clB_x, ↓rtZ_x, iO_s, iO_n, ↓cO_x, dv_x, rm_x, ↓fl_x, below_x, among_x, in_x, l_toInt, inB_x, uN_nI, ↓ite_S, clB_s, clB_n, wI_T, wI_N, wI_F, wI_J, wI_X, wI_S, wJ_T, wJ_N, wJ_I, wJ_F, wJ_X, wJ_S, wF_T, wF_N, wF_I, wF_J, wF_X, wF_S, wIr_T, wIr_N, wIr_J, wIr_F, wIr_X, wIr_S, wJr_T, wJr_N, wJr_I, wJr_F, wJr_X, wJr_S, fit_10_10, fit_11_11, fit_12_1, fit_12_3, fit_12_4, fit_12_5, fit_1_1, fit_1_3, fit_1_4, fit_1_5, fit_2_2, fit_3_1, fit_3_3, fit_3_4, fit_3_5, fit_4_1, fit_4_3, fit_4_4, fit_4_5, fit_5_5, fit_6_6, fit_7_7, fit_8_8, fit_9_9, L_0, L_1, L_2, L_3, L_4, L_5, L_6, L_7, L_8, L_9, L_10, L_11, L_12, L_13, L_14, L_15, L_16, L_17, L_18, L_19, L_20, L_21, L_22, L_23, L_24, L_25, L_26, L_27, L_28, L_29, L_30, L_31, L_32, L_33, L_34, L_35, L_36, L_37, L_38, L_39, L_40, L_48, L_49, L_50, L_63, L_72, L_100, L_143, L_144, L_200, L_576, L_1000, L_1022, L_1151, L_1152, L_1440, L_5000, L_10000, L_1000000, L_2147483647, J_0, J_1, J_2, J_3, J_4, J_5, J_6, J_7, J_8, J_9, J_10, J_11, J_12, J_13, J_14, J_15, J_16, J_17, J_18, J_19, J_20, J_21, J_22, J_23, J_24, J_25, J_26, J_27, J_28, J_29, J_30, J_31, J_32, J_33, J_34, J_35, J_36, J_37, J_38, J_39, J_40, J_48, J_49, J_50, J_63, J_72, J_100, J_143, J_144, J_200, J_576, J_1000, J_1022, J_1151, J_1152, J_1440, J_5000, J_10000, J_1000000, J_2147483647, N_1, N_1000000, N_1000001, N_1000002, N_1000003, N_1000010, nI_toInt, nI_add, nI_mul, nI_et, nI_ef, nI_lt_t, nI_lt_f, nI_le_t, nI_le_f, inR_t, inR_f, nI_mI, mI_nI, mI_lt, nI_lm, mI_le, nI_em, Int.cast_ofNat_Int, Nat.reduceBEq, or_true, true_or, or_false, false_or, Bool.true_and, Bool.and_true, Bool.false_and, Bool.and_false, Bool.or_true, Bool.true_or, Bool.or_false, Bool.false_or, beq_self_eq_true, not_false_eq_true, if_true, if_false, ite_true, ite_false, eq_self, and_true, true_and, and_false, false_and, not_true_eq_false, not_false_eq_true, reduceCtorEq, and_self, Nat.reduceLeDiff, Nat.reduceEqDiff, Nat.reduceLT, Nat.reduceSub, Int.reduceSub, Int.reduceLE, ne_eq, ↓reduceIte, Nat.reduceMul, Nat.reduceAdd, hR.t34, hR.t35, hR.n35, hR.t36, hR.n36, hR.t37, hR.n37, hR.t38, hR.n38, hR.t39, hR.n39, hR.t40, hR.n40, hR.t41, hR.n41, hR.t42, hR.n42, hR.t43, hR.n43, hR.t44, hR.n44, hR.t45, hR.n45, hR.t46, hR.n46, hR.t47, hR.n47, hR.t48, hR.n48, hR.t49, hR.n49, hR.t50, hR.n50, hR.t51, hR.n51, hR.t52, hR.n52, hR.t53, hR.n53, hR.t54, hR.n54, hR.t55, hR.n55, hR.t56, hR.n56, hR.t57, hR.n57, hR.t58, hR.n58, hR.t59, hR.n59, hR.t60, hR.n60, hR.t61, hR.n61, hR.t62, hR.n62, hR.t63, hR.n63, hR.t64, hR.n64, hR.t65, hR.n65, hR.t66, hR.n66, hR.t67, hR.n67, hR.t68, hR.n68, hR.t69, hR.n69, hR.t70, hR.n70, hR.t71, hR.n71, hR.f2, hR.f3, hR.f4, hR.f5, hR.f6, hR.f7, hR.f8, hR.f9, hR.f10, hR.f11, hR.f12, hR.f13, hR.f14, hR.f15, hR.f16, hR.f18, hR.f19, hR.f20, hR.f21, hR.f22, hR.f25, hR.f26, hR.f27, hR.f28, hR.f29, hR.f30, hR.f31, hR.f32, hR.f34, hR.f36, hR.f37, hR.f38, hR.f40, hR.f41, hR.f42, hR.f43, hR.f44]
        · obtain ⟨w4, w5⟩ := w3 (by omega)
          refine ⟨fun j hj => ?_, fun j hj => ?_⟩
          · rw [w4 j (by omega)]
            simp -implicitDefEqProofs (maxSteps := 2000000) (disch := first | omega | (simp -implicitDefEqProofs only [wI_X, wJ_X, wF_X, nw_X]; first | done | omega)) only [ wI_se, wI_ne, wJ_se, wJ_ne, wF_se, wF_ne, nw_Te, nw_Tn, nw_Ne, nw_Nn, nw_In, nw_Jn, nw_Fn, nw_X, nw_S, wI_row, wJ_row, wF_row, wIr_row, wJr_row, wIr_at, wJr_at, wI_T, wI_N, wI_F, wI_J, wI_X, wI_S, wJ_T, wJ_N, wJ_I, wJ_F, wJ_X, wJ_S, wF_T, wF_N, wF_I, wF_J, wF_X, wF_S, wIr_T, wIr_N, wIr_J, wIr_F, wIr_X, wIr_S, wJr_T, wJr_N, wJr_I, wJr_F, wJr_X, wJr_S]
          · rcases j with _ | j
            · rw [List.getD_cons_zero]
              show sI R1 (X + 60) n = nI i
              rw [w4 n (by omega)]
              simp -implicitDefEqProofs (maxSteps := 2000000) (disch := first | omega | (simp -implicitDefEqProofs only [wI_X, wJ_X, wF_X, nw_X]; first | done | omega)) only [ wI_se, wI_ne, wJ_se, wJ_ne, wF_se, wF_ne, nw_Te, nw_Tn, nw_Ne, nw_Nn, nw_In, nw_Jn, nw_Fn, nw_X, nw_S, wI_row, wJ_row, wF_row, wIr_row, wJr_row, wIr_at, wJr_at, wI_T, wI_N, wI_F, wI_J, wI_X, wI_S, wJ_T, wJ_N, wJ_I, wJ_F, wJ_X, wJ_S, wF_T, wF_N, wF_I, wF_J, wF_X, wF_S, wIr_T, wIr_N, wIr_J, wIr_F, wIr_X, wIr_S, wJr_T, wJr_N, wJr_I, wJr_F, wJr_X, wJr_S]
            · rw [List.getD_cons_succ, show n + (j + 1) = n + 1 + j from by omega]
              exact w5 j (by omega)
      · obtain ⟨R1, w1, w2, w3⟩ := ih (i + 1) f (n + 1) R hR (by omega) (by omega) (by omega)
        refine ⟨R1, fun K => Eq.trans ?_ ((w1 K).trans (by rw [show n + 1 + cnt (bsP a1) (i + 1) m = n + (1 + cnt (bsP a1) (i + 1) m) from by omega])), w2, fun q => by omega⟩
        simp -implicitDefEqProofs (maxSteps := 2000000) (disch := first | omega | exact hgp | exact RK.mv hR rfl rfl rfl | exact CK.mv hC rfl rfl rfl | decide | (simp -implicitDefEqProofs only [wI_X, wJ_X, wF_X, nw_X]; first | done | omega)) only [pX11_balance_L9, g', ng_x, b01, ite_clB, clB_id, clB_ie, nar_0, nar_1, wI_se, wI_ne, wJ_se, wJ_ne, wF_se, wF_ne, nw_Te, nw_Tn, nw_Ne, nw_Nn, nw_In, nw_Jn, nw_Fn, nw_X, nw_S, nI_pre, ↓gI_x, ↓gF_x, ↓pI_x, ↓pF_x, ↓pZ_x, ↓ldI_x, ↓stI_x, ↓ldZ_x, ↓stZ_x, ↓ldJ_x, ↓stJ_x, ↓ldF_x, ↓stF_x, ↓ln_x, ↓nO_x, ↓nA_x, onT_x, or2_x, un_s, nu_s, nu_n, ↓lt_x, ↓rt_x, ↓clB_x, ↓rtZ_x, iO_s, iO_n, ↓cO_x, dv_x, rm_x, ↓fl_x, below_x, among_x, in_x, l_toInt, inB_x, uN_nI, ↓ite_S, clB_s, clB_n, wI_T, wI_N, wI_F, wI_J, wI_X, wI_S, wJ_T, wJ_N, wJ_I, wJ_F, wJ_X, wJ_S, wF_T, wF_N, wF_I, wF_J, wF_X, wF_S, wIr_T, wIr_N, wIr_J, wIr_F, wIr_X, wIr_S, wJr_T, wJr_N, wJr_I, wJr_F, wJr_X, wJr_S, fit_10_10, fit_11_11, fit_12_1, fit_12_3, fit_12_4, fit_12_5, fit_1_1, fit_1_3, fit_1_4, fit_1_5, fit_2_2, fit_3_1, fit_3_3, fit_3_4, fit_3_5, fit_4_1, fit_4_3, fit_4_4, fit_4_5, fit_5_5, fit_6_6, fit_7_7, fit_8_8, fit_9_9, L_0, L_1, L_2, L_3, L_4, L_5, L_6, L_7, L_8, L_9, L_10, L_11, L_12, L_13, L_14, L_15, L_16, L_17, L_18, L_19, L_20, L_21, L_22, L_23, L_24, L_25, L_26, L_27, L_28, L_29, L_30, L_31, L_32, L_33, L_34, L_35, L_36, L_37, L_38, L_39, L_40, L_48, L_49, L_50, L_63, L_72, L_100, L_143, L_144, L_200, L_576, L_1000, L_1022, L_1151, L_1152, L_1440, L_5000, L_10000, L_1000000, L_2147483647, J_0, J_1, J_2, J_3, J_4, J_5, J_6, J_7, J_8, J_9, J_10, J_11, J_12, J_13, J_14, J_15, J_16, J_17, J_18, J_19, J_20, J_21, J_22, J_23, J_24, J_25, J_26, J_27, J_28, J_29, J_30, J_31, J_32, J_33, J_34, J_35, J_36, J_37, J_38, J_39, J_40, J_48, J_49, J_50, J_63, J_72, J_100, J_143, J_144, J_200, J_576, J_1000, J_1022, J_1151, J_1152, J_1440, J_5000, J_10000, J_1000000, J_2147483647, N_1, N_1000000, N_1000001, N_1000002, N_1000003, N_1000010, nI_toInt, nI_add, nI_mul, nI_et, nI_ef, nI_lt_t, nI_lt_f, nI_le_t, nI_le_f, inR_t, inR_f, nI_mI, mI_nI, mI_lt, nI_lm, mI_le, nI_em, Int.cast_ofNat_Int, Nat.reduceBEq, or_true, true_or, or_false, false_or, Bool.true_and, Bool.and_true, Bool.false_and, Bool.and_false, Bool.or_true, Bool.true_or, Bool.or_false, Bool.false_or, beq_self_eq_true, not_false_eq_true, if_true, if_false, ite_true, ite_false, eq_self, and_true, true_and, and_false, false_and, not_true_eq_false, not_false_eq_true, reduceCtorEq, and_self, Nat.reduceLeDiff, Nat.reduceEqDiff, Nat.reduceLT, Nat.reduceSub, Int.reduceSub, Int.reduceLE, ne_eq, ↓reduceIte, Nat.reduceMul, Nat.reduceAdd, hR.t34, hR.t35, hR.n35, hR.t36, hR.n36, hR.t37, hR.n37, hR.t38, hR.n38, hR.t39, hR.n39, hR.t40, hR.n40, hR.t41, hR.n41, hR.t42, hR.n42, hR.t43, hR.n43, hR.t44, hR.n44, hR.t45, hR.n45, hR.t46, hR.n46, hR.t47, hR.n47, hR.t48, hR.n48, hR.t49, hR.n49, hR.t50, hR.n50, hR.t51, hR.n51, hR.t52, hR.n52, hR.t53, hR.n53, hR.t54, hR.n54, hR.t55, hR.n55, hR.t56, hR.n56, hR.t57, hR.n57, hR.t58, hR.n58, hR.t59, hR.n59, hR.t60, hR.n60, hR.t61, hR.n61, hR.t62, hR.n62, hR.t63, hR.n63, hR.t64, hR.n64, hR.t65, hR.n65, hR.t66, hR.n66, hR.t67, hR.n67, hR.t68, hR.n68, hR.t69, hR.n69, hR.t70, hR.n70, hR.t71, hR.n71, hR.f2, hR.f3, hR.f4, hR.f5, hR.f6, hR.f7, hR.f8, hR.f9, hR.f10, hR.f11, hR.f12, hR.f13, hR.f14, hR.f15, hR.f16, hR.f18, hR.f19, hR.f20, hR.f21, hR.f22, hR.f25, hR.f26, hR.f27, hR.f28, hR.f29, hR.f30, hR.f31, hR.f32, hR.f34, hR.f36, hR.f37, hR.f38, hR.f40, hR.f41, hR.f42, hR.f43, hR.f44]
    · rw [if_neg g] at cs cl
      have g' : (a1 >>> (nI i &&& nI 31) &&& nI 1 = nI 1) = False := eq_false (fun q => g (decide_eq_true q))
      obtain ⟨R1, w1, w2, w3⟩ := ih (i + 1) f n R hR (by omega) (by omega) (by omega)
      rw [cs, cl, Nat.zero_add]
      refine ⟨R1, fun K => Eq.trans ?_ (w1 K), w2, w3⟩
      simp -implicitDefEqProofs (maxSteps := 2000000) (disch := first | omega | exact hgp | exact RK.mv hR rfl rfl rfl | exact CK.mv hC rfl rfl rfl | decide | (simp -implicitDefEqProofs only [wI_X, wJ_X, wF_X, nw_X]; first | done | omega)) only [pX11_balance_L9, g', ng_x, b01, ite_clB, clB_id, clB_ie, nar_0, nar_1, wI_se, wI_ne, wJ_se, wJ_ne, wF_se, wF_ne, nw_Te, nw_Tn, nw_Ne, nw_Nn, nw_In, nw_Jn, nw_Fn, nw_X, nw_S, nI_pre, ↓gI_x, ↓gF_x, ↓pI_x, ↓pF_x, ↓pZ_x, ↓ldI_x, ↓stI_x, ↓ldZ_x, ↓stZ_x, ↓ldJ_x, ↓stJ_x, ↓ldF_x, ↓stF_x, ↓ln_x, ↓nO_x, ↓nA_x, onT_x, or2_x, un_s, nu_s, nu_n, ↓lt_x, ↓rt_x, ↓clB_x, ↓rtZ_x, iO_s, iO_n, ↓cO_x, dv_x, rm_x, ↓fl_x, below_x, among_x, in_x, l_toInt, inB_x, uN_nI, ↓ite_S, clB_s, clB_n, wI_T, wI_N, wI_F, wI_J, wI_X, wI_S, wJ_T, wJ_N, wJ_I, wJ_F, wJ_X, wJ_S, wF_T, wF_N, wF_I, wF_J, wF_X, wF_S, wIr_T, wIr_N, wIr_J, wIr_F, wIr_X, wIr_S, wJr_T, wJr_N, wJr_I, wJr_F, wJr_X, wJr_S, fit_10_10, fit_11_11, fit_12_1, fit_12_3, fit_12_4, fit_12_5, fit_1_1, fit_1_3, fit_1_4, fit_1_5, fit_2_2, fit_3_1, fit_3_3, fit_3_4, fit_3_5, fit_4_1, fit_4_3, fit_4_4, fit_4_5, fit_5_5, fit_6_6, fit_7_7, fit_8_8, fit_9_9, L_0, L_1, L_2, L_3, L_4, L_5, L_6, L_7, L_8, L_9, L_10, L_11, L_12, L_13, L_14, L_15, L_16, L_17, L_18, L_19, L_20, L_21, L_22, L_23, L_24, L_25, L_26, L_27, L_28, L_29, L_30, L_31, L_32, L_33, L_34, L_35, L_36, L_37, L_38, L_39, L_40, L_48, L_49, L_50, L_63, L_72, L_100, L_143, L_144, L_200, L_576, L_1000, L_1022, L_1151, L_1152, L_1440, L_5000, L_10000, L_1000000, L_2147483647, J_0, J_1, J_2, J_3, J_4, J_5, J_6, J_7, J_8, J_9, J_10, J_11, J_12, J_13, J_14, J_15, J_16, J_17, J_18, J_19, J_20, J_21, J_22, J_23, J_24, J_25, J_26, J_27, J_28, J_29, J_30, J_31, J_32, J_33, J_34, J_35, J_36, J_37, J_38, J_39, J_40, J_48, J_49, J_50, J_63, J_72, J_100, J_143, J_144, J_200, J_576, J_1000, J_1022, J_1151, J_1152, J_1440, J_5000, J_10000, J_1000000, J_2147483647, N_1, N_1000000, N_1000001, N_1000002, N_1000003, N_1000010, nI_toInt, nI_add, nI_mul, nI_et, nI_ef, nI_lt_t, nI_lt_f, nI_le_t, nI_le_f, inR_t, inR_f, nI_mI, mI_nI, mI_lt, nI_lm, mI_le, nI_em, Int.cast_ofNat_Int, Nat.reduceBEq, or_true, true_or, or_false, false_or, Bool.true_and, Bool.and_true, Bool.false_and, Bool.and_false, Bool.or_true, Bool.true_or, Bool.or_false, Bool.false_or, beq_self_eq_true, not_false_eq_true, if_true, if_false, ite_true, ite_false, eq_self, and_true, true_and, and_false, false_and, not_true_eq_false, not_false_eq_true, reduceCtorEq, and_self, Nat.reduceLeDiff, Nat.reduceEqDiff, Nat.reduceLT, Nat.reduceSub, Int.reduceSub, Int.reduceLE, ne_eq, ↓reduceIte, Nat.reduceMul, Nat.reduceAdd, hR.t34, hR.t35, hR.n35, hR.t36, hR.n36, hR.t37, hR.n37, hR.t38, hR.n38, hR.t39, hR.n39, hR.t40, hR.n40, hR.t41, hR.n41, hR.t42, hR.n42, hR.t43, hR.n43, hR.t44, hR.n44, hR.t45, hR.n45, hR.t46, hR.n46, hR.t47, hR.n47, hR.t48, hR.n48, hR.t49, hR.n49, hR.t50, hR.n50, hR.t51, hR.n51, hR.t52, hR.n52, hR.t53, hR.n53, hR.t54, hR.n54, hR.t55, hR.n55, hR.t56, hR.n56, hR.t57, hR.n57, hR.t58, hR.n58, hR.t59, hR.n59, hR.t60, hR.n60, hR.t61, hR.n61, hR.t62, hR.n62, hR.t63, hR.n63, hR.t64, hR.n64, hR.t65, hR.n65, hR.t66, hR.n66, hR.t67, hR.n67, hR.t68, hR.n68, hR.t69, hR.n69, hR.t70, hR.n70, hR.t71, hR.n71, hR.f2, hR.f3, hR.f4, hR.f5, hR.f6, hR.f7, hR.f8, hR.f9, hR.f10, hR.f11, hR.f12, hR.f13, hR.f14, hR.f15, hR.f16, hR.f18, hR.f19, hR.f20, hR.f21, hR.f22, hR.f25, hR.f26, hR.f27, hR.f28, hR.f29, hR.f30, hR.f31, hR.f32, hR.f34, hR.f36, hR.f37, hR.f38, hR.f40, hR.f41, hR.f42, hR.f43, hR.f44]
theorem bitsC_L : ∀ (m i fuel n : Nat) (C : St), CK X C → i + m = 10 → m < fuel → n + cnt (bsP a1) i m ≤ 3 → sI C (X + 12) 8 = nI n → ∃ C1, (∀ K, pX6_takeBestSizes_L7 (X + 12) a1 K fuel (nI i) C = K C1) ∧ OnI (fun a => a = X + 12 ∨ a = X + 19) C C1 ∧ (∀ j, j ≠ 8 → sI C1 (X + 12) j = sI C (X + 12) j) ∧ sI C1 (X + 12) 8 = nI (n + cnt (bsP a1) i m) ∧ (∀ j, j < n → sI C1 (X + 19) j = sI C (X + 19) j) ∧ ∀ j, j < cnt (bsP a1) i m → sI C1 (X + 19) (n + j) = nI ((chl (bsP a1) i m).getD j 0) := by
  intro m
  induction m with
  | zero =>
    intro i fuel n C hC hi hf hn e8
    obtain ⟨f, rfl⟩ : ∃ f, fuel = f + 1 := ⟨fuel - 1, by omega⟩
    have : i = 10 := by omega
    subst this
    refine ⟨C, fun K => ?_, OnI.rf, fun _ _ => rfl, e8, fun _ _ => rfl, fun j hj => absurd hj (Nat.not_lt_zero _)⟩
    simp -implicitDefEqProofs (maxSteps := 2000000) (disch := first | omega | exact hgp | exact RK.mv hR rfl rfl rfl | exact CK.mv hC rfl rfl rfl | decide | (simp -implicitDefEqProofs only [wI_X, wJ_X, wF_X, nw_X]; first | done | omega)) only [pX6_takeBestSizes_L7, ng_x, b01, ite_clB, clB_id, clB_ie, nar_0, nar_1, wI_se, wI_ne, wJ_se, wJ_ne, wF_se, wF_ne, nw_Te, nw_Tn, nw_Ne, nw_Nn, nw_In, nw_Jn, nw_Fn, nw_X, nw_S, nI_pre, ↓gI_x, ↓gF_x, ↓pI_x, ↓pF_x, ↓pZ_x, ↓ldI_x, ↓stI_x, ↓ldZ_x, ↓stZ_x, ↓ldJ_x, ↓stJ_x, ↓ldF_x, ↓stF_x, ↓ln_x, ↓nO_x, ↓nA_x, onT_x, or2_x, un_s, nu_s, nu_n, ↓lt_x, ↓rt_x, ↓clB_x, ↓rtZ_x, iO_s, iO_n, ↓cO_x, dv_x, rm_x, ↓fl_x, below_x, among_x, in_x, l_toInt, inB_x, uN_nI, ↓ite_S, clB_s, clB_n, wI_T, wI_N, wI_F, wI_J, wI_X, wI_S, wJ_T, wJ_N, wJ_I, wJ_F, wJ_X, wJ_S, wF_T, wF_N, wF_I, wF_J, wF_X, wF_S, wIr_T, wIr_N, wIr_J, wIr_F, wIr_X, wIr_S, wJr_T, wJr_N, wJr_I, wJr_F, wJr_X, wJr_S, fit_10_10, fit_11_11, fit_12_1, fit_12_3, fit_12_4, fit_12_5, fit_1_1, fit_1_3, fit_1_4, fit_1_5, fit_2_2, fit_3_1, fit_3_3, fit_3_4, fit_3_5, fit_4_1, fit_4_3, fit_4_4, fit_4_5, fit_5_5, fit_6_6, fit_7_7, fit_8_8, fit_9_9, L_0, L_1, L_2, L_3, L_4, L_5, L_6, L_7, L_8, L_9, L_10, L_11, L_12, L_13, L_14, L_15, L_16, L_17, L_18, L_19, L_20, L_21, L_22, L_23, L_24, L_25, L_26, L_27, L_28, L_29, L_30, L_31, L_32, L_33, L_34, L_35, L_36, L_37, L_38, L_39, L_40, L_48, L_49, L_50, L_63, L_72, L_100, L_143, L_144, L_200, L_576, L_1000, L_1022, L_1151, L_1152, L_1440, L_5000, L_10000, L_1000000, L_2147483647, J_0, J_1, J_2, J_3, J_4, J_5, J_6, J_7, J_8, J_9, J_10, J_11, J_12, J_13, J_14, J_15, J_16, J_17, J_18, J_19, J_20, J_21, J_22, J_23, J_24, J_25, J_26, J_27, J_28, J_29, J_30, J_31, J_32, J_33, J_34, J_35, J_36, J_37, J_38, J_39, J_40, J_48, J_49, J_50, J_63, J_72, J_100, J_143, J_144, J_200, J_576, J_1000, J_1022, J_1151, J_1152, J_1440, J_5000, J_10000, J_1000000, J_2147483647, N_1, N_1000000, N_1000001, N_1000002, N_1000003, N_1000010, nI_toInt, nI_add, nI_mul, nI_et, nI_ef, nI_lt_t, nI_lt_f, nI_le_t, nI_le_f, inR_t, inR_f, nI_mI, mI_nI, mI_lt, nI_lm, mI_le, nI_em, Int.cast_ofNat_Int, Nat.reduceBEq, or_true, true_or, or_false, false_or, Bool.true_and, Bool.and_true, Bool.false_and, Bool.and_false, Bool.or_true, Bool.true_or, Bool.or_false, Bool.false_or, beq_self_eq_true, not_false_eq_true, if_true, if_false, ite_true, ite_false, eq_self, and_true, true_and, and_false, false_and, not_true_eq_false, not_false_eq_true, reduceCtorEq, and_self, Nat.reduceLeDiff, Nat.reduceEqDiff, Nat.reduceLT, Nat.reduceSub, Int.reduceSub, Int.reduceLE, ne_eq, ↓reduceIte, Nat.reduceMul, Nat.reduceAdd, hC.t0, hC.t1, hC.n1, hC.t2, hC.n2, hC.t3, hC.t4, hC.n4, hC.t5, hC.t6, hC.n6, hC.t7, hC.n7, hC.t8, hC.n8, hC.t9, hC.n9, hC.t10, hC.n10, hC.t11, hC.n11, hC.t12, hC.t13, hC.n13, hC.t14, hC.n14, hC.t15, hC.n15, hC.t16, hC.n16, hC.t17, hC.n17, hC.t18, hC.n18, hC.t19, hC.n19, hC.t20, hC.t21, hC.n21, hC.t22, hC.n22, hC.t23, hC.n23, hC.t24, hC.n24, hC.t25, hC.n25, hC.t26, hC.n26, hC.t27, hC.n27, hC.t28, hC.n28, hC.t29, hC.n29, hC.t30, hC.n30, hC.t31, hC.n31, hC.t32, hC.n32, hC.t33, hC.n33, hC.f0_0, hC.f0_1, hC.f0_2, hC.f0_3, hC.f0_4, hC.f0_5, hC.f3_0, hC.f5_0, hC.f5_1, hC.f5_2, hC.f5_3, hC.f5_4, hC.f5_5, hC.f12_0, hC.f12_1, hC.f12_2, hC.f12_3, hC.f12_5, hC.f12_6, hC.f12_7, hC.f20_0, hC.f20_1, hC.f20_2, hC.f20_3, hC.f20_4, hC.f20_5, hC.f20_6, hC.f25_0, hC.f25_1, hC.f25_2, hC.f25_3, hC.f25_4, hC.f25_5]
  | succ m ih =>
    intro i fuel n C hC hi hf hn e8
    obtain ⟨f, rfl⟩ : ∃ f, fuel = f + 1 := ⟨fuel - 1, by omega⟩
    have cs : cnt (bsP a1) i (m + 1) = (if bsP a1 i = true then 1 else 0) + cnt (bsP a1) (i + 1) m := rfl
    have cl : chl (bsP a1) i (m + 1) = (if bsP a1 i = true then i :: chl (bsP a1) (i + 1) m else chl (bsP a1) (i + 1) m) := rfl
    by_cases g : bsP a1 i = true
    · rw [if_pos g] at cs cl
      have g' : (a1 >>> (nI i &&& nI 31) &&& nI 1 = nI 1) = True := eq_true (of_decide_eq_true g)
      rw [cs] at hn
      rw [cs, cl]
      have on1 : OnI (fun a => a = X + 12 ∨ a = X + 19) C (wI (wI C (X + 19) n (nI i)) (X + 12) 8 (nI (n + 1))) := OnI.wI (OnI.wI OnI.rf (by exact Or.inr rfl)) (by exact Or.inl rfl)
      obtain ⟨C1, w1, w2, w3, w4, w5, w6⟩ := ih (i + 1) f (n + 1) (wI (wI C (X + 19) n (nI i)) (X + 12) 8 (nI (n + 1))) (on1.ck hC) (by omega) (by omega) (by omega) (by simp -implicitDefEqProofs (maxSteps := 2000000) (disch := first | omega | (simp -implicitDefEqProofs only [wI_X, wJ_X, wF_X, nw_X]; first | done | omega)) only [ wI_se, wI_ne, wJ_se, wJ_ne, wF_se, wF_ne, nw_Te, nw_Tn, nw_Ne, nw_Nn, nw_In, nw_Jn, nw_Fn, nw_X, nw_S, wI_row, wJ_row, wF_row, wIr_row, wJr_row, wIr_at, wJr_at, wI_T, wI_N, wI_F, wI_J, wI_X, wI_S, wJ_T, wJ_N, wJ_I, wJ_F, wJ_X, wJ_S, wF_T, wF_N, wF_I, wF_J, wF_X, wF_S, wIr_T, wIr_N, wIr_J, wIr_F, wIr_X, wIr_S, wJr_T, wJr_N, wJr_I, wJr_F, wJr_X, wJr_S])
      refine ⟨C1, fun K => Eq.trans ?_ (w1 K), on1.tr w2, fun j hj => ?_, by rw [w4, show n + 1 + cnt (bsP a1) (i + 1) m = n + (1 + cnt (bsP a1) (i + 1) m) from by omega], fun j hj => ?_, fun j hj => ?_⟩
      · simp -implicitDefEqProofs (maxSteps := 2000000) (disch := first | omega | exact hgp | exact RK.mv hR rfl rfl rfl | exact CK.mv hC rfl rfl rfl | decide | (simp -implicitDefEqProofs only [wI_X, wJ_X, wF_X, nw_X]; first | done | omega)) only [pX6_takeBestSizes_L7, g', e8, ng_x, b01, ite_clB, clB_id, clB_ie, nar_0, nar_1, wI_se, wI_ne, wJ_se, wJ_ne, wF_se, wF_ne, nw_Te, nw_Tn, nw_Ne, nw_Nn, nw_In, nw_Jn, nw_Fn, nw_X, nw_S, nI_pre, ↓gI_x, ↓gF_x, ↓pI_x, ↓pF_x, ↓pZ_x, ↓ldI_x, ↓stI_x, ↓ldZ_x, ↓stZ_x, ↓ldJ_x, ↓stJ_x, ↓ldF_x, ↓stF_x, ↓ln_x, ↓nO_x, ↓nA_x, onT_x, or2_x, un_s, nu_s, nu_n, ↓lt_x, ↓rt_x, ↓clB_x, ↓rtZ_x, iO_s, iO_n, ↓cO_x, dv_x, rm_x, ↓fl_x, below_x, among_x, in_x, l_toInt, inB_x, uN_nI, ↓ite_S, clB_s, clB_n, wI_T, wI_N, wI_F, wI_J, wI_X, wI_S, wJ_T, wJ_N, wJ_I, wJ_F, wJ_X, wJ_S, wF_T, wF_N, wF_I, wF_J, wF_X, wF_S, wIr_T, wIr_N, wIr_J, wIr_F, wIr_X, wIr_S, wJr_T, wJr_N, wJr_I, wJr_F, wJr_X, wJr_S, fit_10_10, fit_11_11, fit_12_1, fit_12_3, fit_12_4, fit_12_5, fit_1_1, fit_1_3, fit_1_4, fit_1_5, fit_2_2, fit_3_1, fit_3_3, fit_3_4, fit_3_5, fit_4_1, fit_4_3, fit_4_4, fit_4_5, fit_5_5, fit_6_6, fit_7_7, fit_8_8, fit_9_9, L_0, L_1, L_2, L_3, L_4, L_5, L_6, L_7, L_8, L_9, L_10, L_11, L_12, L_13, L_14, L_15, L_16, L_17, L_18, L_19, L_20, L_21, L_22, L_23, L_24, L_25, L_26, L_27, L_28, L_29, L_30, L_31, L_32, L_33, L_34, L_35, L_36, L_37, L_38, L_39, L_40, L_48, L_49, L_50, L_63, L_72, L_100, L_143, L_144, L_200, L_576, L_1000, L_1022, L_1151, L_1152, L_1440, L_5000, L_10000, L_1000000, L_2147483647, J_0, J_1, J_2, J_3, J_4, J_5, J_6, J_7, J_8, J_9, J_10, J_11, J_12, J_13, J_14, J_15, J_16, J_17, J_18, J_19, J_20, J_21, J_22, J_23, J_24, J_25, J_26, J_27, J_28, J_29, J_30, J_31, J_32, J_33, J_34, J_35, J_36, J_37, J_38, J_39, J_40, J_48, J_49, J_50, J_63, J_72, J_100, J_143, J_144, J_200, J_576, J_1000, J_1022, J_1151, J_1152, J_1440, J_5000, J_10000, J_1000000, J_2147483647, N_1, N_1000000, N_1000001, N_1000002, N_1000003, N_1000010, nI_toInt, nI_add, nI_mul, nI_et, nI_ef, nI_lt_t, nI_lt_f, nI_le_t, nI_le_f, inR_t, inR_f, nI_mI, mI_nI, mI_lt, nI_lm, mI_le, nI_em, Int.cast_ofNat_Int, Nat.reduceBEq, or_true, true_or, or_false, false_or, Bool.true_and, Bool.and_true, Bool.false_and, Bool.and_false, Bool.or_true, Bool.true_or, Bool.or_false, Bool.false_or, beq_self_eq_true, not_false_eq_true, if_true, if_false, ite_true, ite_false, eq_self, and_true, true_and, and_false, false_and, not_true_eq_false, not_false_eq_true, reduceCtorEq, and_self, Nat.reduceLeDiff, Nat.reduceEqDiff, Nat.reduceLT, Nat.reduceSub, Int.reduceSub, Int.reduceLE, ne_eq, ↓reduceIte, Nat.reduceMul, Nat.reduceAdd, hC.t0, hC.t1, hC.n1, hC.t2, hC.n2, hC.t3, hC.t4, hC.n4, hC.t5, hC.t6, hC.n6, hC.t7, hC.n7, hC.t8, hC.n8, hC.t9, hC.n9, hC.t10, hC.n10, hC.t11, hC.n11, hC.t12, hC.t13, hC.n13, hC.t14, hC.n14, hC.t15, hC.n15, hC.t16, hC.n16, hC.t17, hC.n17, hC.t18, hC.n18, hC.t19, hC.n19, hC.t20, hC.t21, hC.n21, hC.t22, hC.n22, hC.t23, hC.n23, hC.t24, hC.n24, hC.t25, hC.n25, hC.t26, hC.n26, hC.t27, hC.n27, hC.t28, hC.n28, hC.t29, hC.n29, hC.t30, hC.n30, hC.t31, hC.n31, hC.t32, hC.n32, hC.t33, hC.n33, hC.f0_0, hC.f0_1, hC.f0_2, hC.f0_3, hC.f0_4, hC.f0_5, hC.f3_0, hC.f5_0, hC.f5_1, hC.f5_2, hC.f5_3, hC.f5_4, hC.f5_5, hC.f12_0, hC.f12_1, hC.f12_2, hC.f12_3, hC.f12_5, hC.f12_6, hC.f12_7, hC.f20_0, hC.f20_1, hC.f20_2, hC.f20_3, hC.f20_4, hC.f20_5, hC.f20_6, hC.f25_0, hC.f25_1, hC.f25_2, hC.f25_3, hC.f25_4, hC.f25_5]
      · rw [w3 j hj]
        simp -implicitDefEqProofs (maxSteps := 2000000) (disch := first | omega | (simp -implicitDefEqProofs only [wI_X, wJ_X, wF_X, nw_X]; first | done | omega)) only [ wI_se, wI_ne, wJ_se, wJ_ne, wF_se, wF_ne, nw_Te, nw_Tn, nw_Ne, nw_Nn, nw_In, nw_Jn, nw_Fn, nw_X, nw_S, wI_row, wJ_row, wF_row, wIr_row, wJr_row, wIr_at, wJr_at, wI_T, wI_N, wI_F, wI_J, wI_X, wI_S, wJ_T, wJ_N, wJ_I, wJ_F, wJ_X, wJ_S, wF_T, wF_N, wF_I, wF_J, wF_X, wF_S, wIr_T, wIr_N, wIr_J, wIr_F, wIr_X, wIr_S, wJr_T, wJr_N, wJr_I, wJr_F, wJr_X, wJr_S]
      · rw [w5 j (by omega)]
        simp -implicitDefEqProofs (maxSteps := 2000000) (disch := first | omega | (simp -implicitDefEqProofs only [wI_X, wJ_X, wF_X, nw_X]; first | done | omega)) only [ wI_se, wI_ne, wJ_se, wJ_ne, wF_se, wF_ne, nw_Te, nw_Tn, nw_Ne, nw_Nn, nw_In, nw_Jn, nw_Fn, nw_X, nw_S, wI_row, wJ_row, wF_row, wIr_row, wJr_row, wIr_at, wJr_at, wI_T, wI_N, wI_F, wI_J, wI_X, wI_S, wJ_T, wJ_N, wJ_I, wJ_F, wJ_X, wJ_S, wF_T, wF_N, wF_I, wF_J, wF_X, wF_S, wIr_T, wIr_N, wIr_J, wIr_F, wIr_X, wIr_S, wJr_T, wJr_N, wJr_I, wJr_F, wJr_X, wJr_S]
      · rcases j with _ | j
        · rw [List.getD_cons_zero]
          show sI C1 (X + 19) n = nI i
          rw [w5 n (by omega)]
          simp -implicitDefEqProofs (maxSteps := 2000000) (disch := first | omega | (simp -implicitDefEqProofs only [wI_X, wJ_X, wF_X, nw_X]; first | done | omega)) only [ wI_se, wI_ne, wJ_se, wJ_ne, wF_se, wF_ne, nw_Te, nw_Tn, nw_Ne, nw_Nn, nw_In, nw_Jn, nw_Fn, nw_X, nw_S, wI_row, wJ_row, wF_row, wIr_row, wJr_row, wIr_at, wJr_at, wI_T, wI_N, wI_F, wI_J, wI_X, wI_S, wJ_T, wJ_N, wJ_I, wJ_F, wJ_X, wJ_S, wF_T, wF_N, wF_I, wF_J, wF_X, wF_S, wIr_T, wIr_N, wIr_J, wIr_F, wIr_X, wIr_S, wJr_T, wJr_N, wJr_I, wJr_F, wJr_X, wJr_S]
        · rw [List.getD_cons_succ, show n + (j + 1) = n + 1 + j from by omega]
          exact w6 j (by omega)
    · rw [if_neg g] at cs cl
      have g' : (a1 >>> (nI i &&& nI 31) &&& nI 1 = nI 1) = False := eq_false (fun q => g (decide_eq_true q))
      rw [cs, Nat.zero_add] at hn
      obtain ⟨C1, w1, w2⟩ := ih (i + 1) f n C hC (by omega) (by omega) hn e8
      rw [cs, cl, Nat.zero_add]
      refine ⟨C1, fun K => Eq.trans ?_ (w1 K), w2⟩
      simp -implicitDefEqProofs (maxSteps := 2000000) (disch := first | omega | exact hgp | exact RK.mv hR rfl rfl rfl | exact CK.mv hC rfl rfl rfl | decide | (simp -implicitDefEqProofs only [wI_X, wJ_X, wF_X, nw_X]; first | done | omega)) only [pX6_takeBestSizes_L7, g', ng_x, b01, ite_clB, clB_id, clB_ie, nar_0, nar_1, wI_se, wI_ne, wJ_se, wJ_ne, wF_se, wF_ne, nw_Te, nw_Tn, nw_Ne, nw_Nn, nw_In, nw_Jn, nw_Fn, nw_X, nw_S, nI_pre, ↓gI_x, ↓gF_x, ↓pI_x, ↓pF_x, ↓pZ_x, ↓ldI_x, ↓stI_x, ↓ldZ_x, ↓stZ_x, ↓ldJ_x, ↓stJ_x, ↓ldF_x, ↓stF_x, ↓ln_x, ↓nO_x, ↓nA_x, onT_x, or2_x, un_s, nu_s, nu_n, ↓lt_x, ↓rt_x, ↓clB_x, ↓rtZ_x, iO_s, iO_n, ↓cO_x, dv_x, rm_x, ↓fl_x, below_x, among_x, in_x, l_toInt, inB_x, uN_nI, ↓ite_S, clB_s, clB_n, wI_T, wI_N, wI_F, wI_J, wI_X, wI_S, wJ_T, wJ_N, wJ_I, wJ_F, wJ_X, wJ_S, wF_T, wF_N, wF_I, wF_J, wF_X, wF_S, wIr_T, wIr_N, wIr_J, wIr_F, wIr_X, wIr_S, wJr_T, wJr_N, wJr_I, wJr_F, wJr_X, wJr_S, fit_10_10, fit_11_11, fit_12_1, fit_12_3, fit_12_4, fit_12_5, fit_1_1, fit_1_3, fit_1_4, fit_1_5, fit_2_2, fit_3_1, fit_3_3, fit_3_4, fit_3_5, fit_4_1, fit_4_3, fit_4_4, fit_4_5, fit_5_5, fit_6_6, fit_7_7, fit_8_8, fit_9_9, L_0, L_1, L_2, L_3, L_4, L_5, L_6, L_7, L_8, L_9, L_10, L_11, L_12, L_13, L_14, L_15, L_16, L_17, L_18, L_19, L_20, L_21, L_22, L_23, L_24, L_25, L_26, L_27, L_28, L_29, L_30, L_31, L_32, L_33, L_34, L_35, L_36, L_37, L_38, L_39, L_40, L_48, L_49, L_50, L_63, L_72, L_100, L_143, L_144, L_200, L_576, L_1000, L_1022, L_1151, L_1152, L_1440, L_5000, L_10000, L_1000000, L_2147483647, J_0, J_1, J_2, J_3, J_4, J_5, J_6, J_7, J_8, J_9, J_10, J_11, J_12, J_13, J_14, J_15, J_16, J_17, J_18, J_19, J_20, J_21, J_22, J_23, J_24, J_25, J_26, J_27, J_28, J_29, J_30, J_31, J_32, J_33, J_34, J_35, J_36, J_37, J_38, J_39, J_40, J_48, J_49, J_50, J_63, J_72, J_100, J_143, J_144, J_200, J_576, J_1000, J_1022, J_1151, J_1152, J_1440, J_5000, J_10000, J_1000000, J_2147483647, N_1, N_1000000, N_1000001, N_1000002, N_1000003, N_1000010, nI_toInt, nI_add, nI_mul, nI_et, nI_ef, nI_lt_t, nI_lt_f, nI_le_t, nI_le_f, inR_t, inR_f, nI_mI, mI_nI, mI_lt, nI_lm, mI_le, nI_em, Int.cast_ofNat_Int, Nat.reduceBEq, or_true, true_or, or_false, false_or, Bool.true_and, Bool.and_true, Bool.false_and, Bool.and_false, Bool.or_true, Bool.true_or, Bool.or_false, Bool.false_or, beq_self_eq_true, not_false_eq_true, if_true, if_false, ite_true, ite_false, eq_self, and_true, true_and, and_false, false_and, not_true_eq_false, not_false_eq_true, reduceCtorEq, and_self, Nat.reduceLeDiff, Nat.reduceEqDiff, Nat.reduceLT, Nat.reduceSub, Int.reduceSub, Int.reduceLE, ne_eq, ↓reduceIte, Nat.reduceMul, Nat.reduceAdd, hC.t0, hC.t1, hC.n1, hC.t2, hC.n2, hC.t3, hC.t4, hC.n4, hC.t5, hC.t6, hC.n6, hC.t7, hC.n7, hC.t8, hC.n8, hC.t9, hC.n9, hC.t10, hC.n10, hC.t11, hC.n11, hC.t12, hC.t13, hC.n13, hC.t14, hC.n14, hC.t15, hC.n15, hC.t16, hC.n16, hC.t17, hC.n17, hC.t18, hC.n18, hC.t19, hC.n19, hC.t20, hC.t21, hC.n21, hC.t22, hC.n22, hC.t23, hC.n23, hC.t24, hC.n24, hC.t25, hC.n25, hC.t26, hC.n26, hC.t27, hC.n27, hC.t28, hC.n28, hC.t29, hC.n29, hC.t30, hC.n30, hC.t31, hC.n31, hC.t32, hC.n32, hC.t33, hC.n33, hC.f0_0, hC.f0_1, hC.f0_2, hC.f0_3, hC.f0_4, hC.f0_5, hC.f3_0, hC.f5_0, hC.f5_1, hC.f5_2, hC.f5_3, hC.f5_4, hC.f5_5, hC.f12_0, hC.f12_1, hC.f12_2, hC.f12_3, hC.f12_5, hC.f12_6, hC.f12_7, hC.f20_0, hC.f20_1, hC.f20_2, hC.f20_3, hC.f20_4, hC.f20_5, hC.f20_6, hC.f25_0, hC.f25_1, hC.f25_2, hC.f25_3, hC.f25_4, hC.f25_5]
theorem mask_of (h : a1 &&& (-1023 : Int32) = 0) : ∃ k, k < 512 ∧ a1 = nI (2 * k) := by
  have hb : a1.toBitVec &&& (-1023 : Int32).toBitVec = 0#32 := by
    have := congrArg Int32.toBitVec h
    exact this
  have hi : ∀ i, i < 32 → (i = 0 ∨ 10 ≤ i) → a1.toBitVec.getLsbD i = false := fun i i1 i2 => by
    have := congrArg (fun x : BitVec 32 => x.getLsbD i) hb
    have e : (a1.toBitVec &&& (-1023 : Int32).toBitVec).getLsbD i = (0#32).getLsbD i := this
    rw [BitVec.getLsbD_and] at e
    have m : ∀ i, i < 32 → (i = 0 ∨ 10 ≤ i) → (-1023 : Int32).toBitVec.getLsbD i = true := by decide
    rw [m i i1 i2, Bool.and_true, BitVec.getLsbD_zero] at e
    exact e
  have t : ∀ i, i ≥ 10 → a1.toBitVec.toNat.testBit i = false := fun i q => by
    rw [BitVec.testBit_toNat]
    by_cases i32 : i < 32
    · exact hi i i32 (Or.inr q)
    · exact BitVec.getLsbD_of_ge _ _ (by omega)
  have l := Nat.lt_pow_two_of_testBit _ t
  have t0 : a1.toBitVec.toNat.testBit 0 = false := by
    rw [BitVec.testBit_toNat]
    exact hi 0 (by omega) (Or.inl rfl)
  rw [Nat.testBit_zero] at t0
  have ev : a1.toBitVec.toNat % 2 = 0 := by
    have := of_decide_eq_false t0
    omega
  refine ⟨a1.toBitVec.toNat / 2, by omega, ?_⟩
  rw [show 2 * (a1.toBitVec.toNat / 2) = a1.toBitVec.toNat from by omega]
  apply Int32.toBitVec_inj.mp
  apply BitVec.eq_of_toNat_eq
  rw [pk_tn (by omega)]
def bcV (a : Int32) : Int32 :=
  let v1 := a - (((Int32.toUInt32 a >>> (Int32.toUInt32 (1 : Int32) &&& Int32.toUInt32 31)).toInt32) &&& (1431655765 : Int32))
  let v2 := (v1 &&& (858993459 : Int32)) + (((Int32.toUInt32 v1 >>> (Int32.toUInt32 (2 : Int32) &&& Int32.toUInt32 31)).toInt32) &&& (858993459 : Int32))
  let v3 := (v2 + ((Int32.toUInt32 v2 >>> (Int32.toUInt32 (4 : Int32) &&& Int32.toUInt32 31)).toInt32)) &&& (252645135 : Int32)
  let v4 := v3 + ((Int32.toUInt32 v3 >>> (Int32.toUInt32 (8 : Int32) &&& Int32.toUInt32 31)).toInt32)
  let v5 := v4 + ((Int32.toUInt32 v4 >>> (Int32.toUInt32 (16 : Int32) &&& Int32.toUInt32 31)).toInt32)
  v5 &&& (63 : Int32)
theorem bc_x (a : Int32) (S : St) : pJ6_bitCount_0f7a4 a S = some (bcV a, S) := rfl
theorem bc_all : ∀ k, k < 512 → bcV (nI (2 * k)) = nI (cnt (bsP (nI (2 * k))) 1 9) ∧ (k = 0 ∨ 1 ≤ cnt (bsP (nI (2 * k))) 1 9) := by decide +kernel
theorem BS.uq {F G : Nat → Nat} {K bs bm ks bs' bm' ks' : Nat} (hK : 0 < K) (h : BS F G K bs bm ks) (g : BS F G K bs' bm' ks') : ks = ks' := by
  rcases h with ⟨h1, -⟩ | ⟨h1, h2, h3, h4, h5⟩
  · omega
  · rcases g with ⟨g1, -⟩ | ⟨g1, g2, g3, g4, g5⟩
    · omega
    · rcases Nat.lt_trichotomy ks ks' with q | q | q
      · have a := g5 ks q
        have b := h4 ks' g1
        rw [h2, h3] at a
        rw [g2, g3] at b
        exact absurd a b
      · exact q
      · have a := h5 ks' q
        have b := g4 ks h1
        rw [g2, g3] at a
        rw [h2, h3] at b
        exact absurd a b
theorem wI_id {S : St} {a k : Nat} {v : Int32} (h : sI S a k = v) : wI S a k v = S := by
  subst h
  show (sT S, sN S, va_up (sI S) a (upd (sI S a) k (sI S a k)), sJ S, sF S, sX S, sS S) = S
  rw [show va_up (sI S) a (upd (sI S a) k (sI S a k)) = sI S from by
    funext b j
    have := wI_I S a k (sI S a k) b j
    refine this.trans ?_
    split
    · rename_i q; rw [q.1, q.2]
    · rfl]
  rfl
/-- the class takes the best sizes -/
theorem takes_x {n c : Nat} {ch : Nat → Nat} {par : Nat → Option Nat} {len : Nat → Nat} {en : Nat → Option Nat} (hC : CK X C) (tc : TC X C n par len en) (c1 : 1 ≤ c) (c3 : c ≤ 3) (hch : ∀ i, i < c → ch i = (chl (bsP a1) 1 9).getD i 0 ∧ 1 ≤ ch i ∧ ch i ≤ 9) (hc : c = cnt (bsP a1) 1 9) : ∃ C1 bs bm ks, pX6_takeBestSizes (X + 12) a1 C = some ((), C1) ∧ OnI (fun a => a = X + 12 ∨ a = X + 15 ∨ (X + 17 ≤ a ∧ a ≤ X + 19)) C C1 ∧ sI C1 (X + 12) 4 = sI C (X + 12) 4 ∧ BS (bF n c ch par len en) (bGm n c ch len) (c ^ n) bs bm ks ∧ ∀ b, b < n → sI C1 (X + 15) b = nI (szK n c ch ks b) := by
  have n8 := tc.2.1
  have on0 : OnI (fun a => a = X + 12 ∨ a = X + 15 ∨ (X + 17 ≤ a ∧ a ≤ X + 19)) C (wI C (X + 12) 8 (nI 0)) := OnI.wI OnI.rf (by exact Or.inl rfl)
  obtain ⟨A, b1, b2, b3, b4, -, b6⟩ := bitsC_L (X := X) (a1 := a1) 9 1 FL 0 (wI C (X + 12) 8 (nI 0)) (on0.ck hC) (by omega) (by unfold FL; omega) (by omega) (by simp -implicitDefEqProofs (maxSteps := 2000000) (disch := first | omega | (simp -implicitDefEqProofs only [wI_X, wJ_X, wF_X, nw_X]; first | done | omega)) only [ wI_se, wI_ne, wJ_se, wJ_ne, wF_se, wF_ne, nw_Te, nw_Tn, nw_Ne, nw_Nn, nw_In, nw_Jn, nw_Fn, nw_X, nw_S, wI_row, wJ_row, wF_row, wIr_row, wJr_row, wIr_at, wJr_at, wI_T, wI_N, wI_F, wI_J, wI_X, wI_S, wJ_T, wJ_N, wJ_I, wJ_F, wJ_X, wJ_S, wF_T, wF_N, wF_I, wF_J, wF_X, wF_S, wIr_T, wIr_N, wIr_J, wIr_F, wIr_X, wIr_S, wJr_T, wJr_N, wJr_I, wJr_F, wJr_X, wJr_S])
  have onA := on0.tr (b2.mono (fun a ha => by omega))
  have hA := onA.ck hC
  rw [Nat.zero_add, ← hc] at b4
  have on1 : OnI (fun a => a = X + 12 ∨ a = X + 15 ∨ (X + 17 ≤ a ∧ a ≤ X + 19)) C (wI (wI A (X + 12) 9 (nI 2147483647)) (X + 12) 10 (nI 2147483647)) := OnI.wI (OnI.wI onA (by exact Or.inl rfl)) (by exact Or.inl rfl)
  have e4 : sI (wI (wI A (X + 12) 9 (nI 2147483647)) (X + 12) 10 (nI 2147483647)) (X + 12) 4 = sI C (X + 12) 4 := by
    simp -implicitDefEqProofs (maxSteps := 2000000) (disch := first | omega | (simp -implicitDefEqProofs only [wI_X, wJ_X, wF_X, nw_X]; first | done | omega)) only [ wI_se, wI_ne, wJ_se, wJ_ne, wF_se, wF_ne, nw_Te, nw_Tn, nw_Ne, nw_Nn, nw_In, nw_Jn, nw_Fn, nw_X, nw_S, wI_row, wJ_row, wF_row, wIr_row, wJr_row, wIr_at, wJr_at, wI_T, wI_N, wI_F, wI_J, wI_X, wI_S, wJ_T, wJ_N, wJ_I, wJ_F, wJ_X, wJ_S, wF_T, wF_N, wF_I, wF_J, wF_X, wF_S, wIr_T, wIr_N, wIr_J, wIr_F, wIr_X, wIr_S, wJr_T, wJr_N, wJr_I, wJr_F, wJr_X, wJr_S]
    rw [b3 4 (by omega)]
    simp -implicitDefEqProofs (maxSteps := 2000000) (disch := first | omega | (simp -implicitDefEqProofs only [wI_X, wJ_X, wF_X, nw_X]; first | done | omega)) only [ wI_se, wI_ne, wJ_se, wJ_ne, wF_se, wF_ne, nw_Te, nw_Tn, nw_Ne, nw_Nn, nw_In, nw_Jn, nw_Fn, nw_X, nw_S, wI_row, wJ_row, wF_row, wIr_row, wJr_row, wIr_at, wJr_at, wI_T, wI_N, wI_F, wI_J, wI_X, wI_S, wJ_T, wJ_N, wJ_I, wJ_F, wJ_X, wJ_S, wF_T, wF_N, wF_I, wF_J, wF_X, wF_S, wIr_T, wIr_N, wIr_J, wIr_F, wIr_X, wIr_S, wJr_T, wJr_N, wJr_I, wJr_F, wJr_X, wJr_S]
  have tc1 : TC X (wI (wI A (X + 12) 9 (nI 2147483647)) (X + 12) 10 (nI 2147483647)) n par len en := by
    obtain ⟨h1, h2, h3, h4, h5⟩ := tc
    refine ⟨by rw [e4]; exact h1, h2, by rw [on1.I (a := X + 13) (by omega)]; exact h3, by rw [on1.I (a := X + 14) (by omega)]; exact h4, fun b hb => ?_⟩
    rw [on1.F]
    rcases h5 b hb with q | ⟨a, e, q1, q2, q3, q4, q5⟩
    · exact Or.inl q
    · exact Or.inr ⟨a, e, q1, q2, by rw [on1.T]; exact q3, q4, by rw [on1.I (a := a) (by omega)]; exact q5⟩
  have ts : TS X n c ch par len en (wI (wI A (X + 12) 9 (nI 2147483647)) (X + 12) 10 (nI 2147483647)) (0 * c ^ (n - 0)) NO NO 0 := by
    refine ⟨on1.ck hC, tc1, ?_, fun i hi => ?_, ?_, ?_, Or.inl ⟨Nat.zero_mul _, rfl, rfl⟩, fun q => by rw [Nat.zero_mul] at q; omega⟩
    · simp -implicitDefEqProofs (maxSteps := 2000000) (disch := first | omega | (simp -implicitDefEqProofs only [wI_X, wJ_X, wF_X, nw_X]; first | done | omega)) only [ wI_se, wI_ne, wJ_se, wJ_ne, wF_se, wF_ne, nw_Te, nw_Tn, nw_Ne, nw_Nn, nw_In, nw_Jn, nw_Fn, nw_X, nw_S, wI_row, wJ_row, wF_row, wIr_row, wJr_row, wIr_at, wJr_at, wI_T, wI_N, wI_F, wI_J, wI_X, wI_S, wJ_T, wJ_N, wJ_I, wJ_F, wJ_X, wJ_S, wF_T, wF_N, wF_I, wF_J, wF_X, wF_S, wIr_T, wIr_N, wIr_J, wIr_F, wIr_X, wIr_S, wJr_T, wJr_N, wJr_I, wJr_F, wJr_X, wJr_S]
      exact b4
    · have := b6 i (by omega)
      rw [Nat.zero_add] at this
      rw [(hch i hi).1]
      simp -implicitDefEqProofs (maxSteps := 2000000) (disch := first | omega | (simp -implicitDefEqProofs only [wI_X, wJ_X, wF_X, nw_X]; first | done | omega)) only [ wI_se, wI_ne, wJ_se, wJ_ne, wF_se, wF_ne, nw_Te, nw_Tn, nw_Ne, nw_Nn, nw_In, nw_Jn, nw_Fn, nw_X, nw_S, wI_row, wJ_row, wF_row, wIr_row, wJr_row, wIr_at, wJr_at, wI_T, wI_N, wI_F, wI_J, wI_X, wI_S, wJ_T, wJ_N, wJ_I, wJ_F, wJ_X, wJ_S, wF_T, wF_N, wF_I, wF_J, wF_X, wF_S, wIr_T, wIr_N, wIr_J, wIr_F, wIr_X, wIr_S, wJr_T, wJr_N, wJr_I, wJr_F, wJr_X, wJr_S]
      exact this
    · show _ = nI 2147483647
      simp -implicitDefEqProofs (maxSteps := 2000000) (disch := first | omega | (simp -implicitDefEqProofs only [wI_X, wJ_X, wF_X, nw_X]; first | done | omega)) only [ wI_se, wI_ne, wJ_se, wJ_ne, wF_se, wF_ne, nw_Te, nw_Tn, nw_Ne, nw_Nn, nw_In, nw_Jn, nw_Fn, nw_X, nw_S, wI_row, wJ_row, wF_row, wIr_row, wJr_row, wIr_at, wJr_at, wI_T, wI_N, wI_F, wI_J, wI_X, wI_S, wJ_T, wJ_N, wJ_I, wJ_F, wJ_X, wJ_S, wF_T, wF_N, wF_I, wF_J, wF_X, wF_S, wIr_T, wIr_N, wIr_J, wIr_F, wIr_X, wIr_S, wJr_T, wJr_N, wJr_I, wJr_F, wJr_X, wJr_S]
    · show _ = nI 2147483647
      simp -implicitDefEqProofs (maxSteps := 2000000) (disch := first | omega | (simp -implicitDefEqProofs only [wI_X, wJ_X, wF_X, nw_X]; first | done | omega)) only [ wI_se, wI_ne, wJ_se, wJ_ne, wF_se, wF_ne, nw_Te, nw_Tn, nw_Ne, nw_Nn, nw_In, nw_Jn, nw_Fn, nw_X, nw_S, wI_row, wJ_row, wF_row, wIr_row, wJr_row, wIr_at, wJr_at, wI_T, wI_N, wI_F, wI_J, wI_X, wI_S, wJ_T, wJ_N, wJ_I, wJ_F, wJ_X, wJ_S, wF_T, wF_N, wF_I, wF_J, wF_X, wF_S, wIr_T, wIr_N, wIr_J, wIr_F, wIr_X, wIr_S, wJr_T, wJr_N, wJr_I, wJr_F, wJr_X, wJr_S]
  obtain ⟨C1, bs, bm, ks, w1, w2, w3, w4, -, -⟩ := try_x (X := X) (par := par) (len := len) (en := en) c1 c3 (fun i hi => (hch i hi).2) n8 n 12 0 0 NO NO 0 (fun _ => 0) _ (by omega) (by omega) ts ⟨fun x hx => by omega, fun x hx => by omega, fun k _ x hx => by omega⟩ (Or.inl (by show btw NO 0 < NO; unfold btw; rw [if_pos (Nat.zero_le _)]; unfold NO; omega))
  have w4 : TS X n c ch par len en C1 ((0 + 1) * c ^ (n - 0)) bs bm ks := w4
  rw [Nat.zero_add, Nat.one_mul, Nat.sub_zero] at w4
  refine ⟨C1, bs, bm, ks, ?_, on1.tr (w2.mono (fun a ha => by omega)), by rw [w3 4 (by omega) (by omega), e4], w4.2.2.2.2.2.2.1, w4.2.2.2.2.2.2.2 (pw_pos c1 n)⟩
  have w1 : pX6_tryFrom 12 (X + 12) (nI 0) (nI 2147483647) (nI 0) (nI 0) (wI (wI A (X + 12) 9 (nI 2147483647)) (X + 12) 10 (nI 2147483647)) = some ((), C1) := w1
  have t12 := hA.t12
  simp -implicitDefEqProofs (maxSteps := 2000000) (disch := first | omega | exact hgp | exact RK.mv hR rfl rfl rfl | exact CK.mv hC rfl rfl rfl | decide | (simp -implicitDefEqProofs only [wI_X, wJ_X, wF_X, nw_X]; first | done | omega)) only [pX6_takeBestSizes, b1, t12, w1, ng_x, b01, ite_clB, clB_id, clB_ie, nar_0, nar_1, wI_se, wI_ne, wJ_se, wJ_ne, wF_se, wF_ne, nw_Te, nw_Tn, nw_Ne, nw_Nn, nw_In, nw_Jn, nw_Fn, nw_X, nw_S, nI_pre, ↓gI_x, ↓gF_x, ↓pI_x, ↓pF_x, ↓pZ_x, ↓ldI_x, ↓stI_x, ↓ldZ_x, ↓stZ_x, ↓ldJ_x, ↓stJ_x, ↓ldF_x, ↓stF_x, ↓ln_x, ↓nO_x, ↓nA_x, onT_x, or2_x, un_s, nu_s, nu_n, ↓lt_x, ↓rt_x, ↓clB_x, ↓rtZ_x, iO_s, iO_n, ↓cO_x, dv_x, rm_x, ↓fl_x, below_x, among_x, in_x, l_toInt, inB_x, uN_nI, ↓ite_S, clB_s, clB_n, wI_T, wI_N, wI_F, wI_J, wI_X, wI_S, wJ_T, wJ_N, wJ_I, wJ_F, wJ_X, wJ_S, wF_T, wF_N, wF_I, wF_J, wF_X, wF_S, wIr_T, wIr_N, wIr_J, wIr_F, wIr_X, wIr_S, wJr_T, wJr_N, wJr_I, wJr_F, wJr_X, wJr_S, fit_10_10, fit_11_11, fit_12_1, fit_12_3, fit_12_4, fit_12_5, fit_1_1, fit_1_3, fit_1_4, fit_1_5, fit_2_2, fit_3_1, fit_3_3, fit_3_4, fit_3_5, fit_4_1, fit_4_3, fit_4_4, fit_4_5, fit_5_5, fit_6_6, fit_7_7, fit_8_8, fit_9_9, L_0, L_1, L_2, L_3, L_4, L_5, L_6, L_7, L_8, L_9, L_10, L_11, L_12, L_13, L_14, L_15, L_16, L_17, L_18, L_19, L_20, L_21, L_22, L_23, L_24, L_25, L_26, L_27, L_28, L_29, L_30, L_31, L_32, L_33, L_34, L_35, L_36, L_37, L_38, L_39, L_40, L_48, L_49, L_50, L_63, L_72, L_100, L_143, L_144, L_200, L_576, L_1000, L_1022, L_1151, L_1152, L_1440, L_5000, L_10000, L_1000000, L_2147483647, J_0, J_1, J_2, J_3, J_4, J_5, J_6, J_7, J_8, J_9, J_10, J_11, J_12, J_13, J_14, J_15, J_16, J_17, J_18, J_19, J_20, J_21, J_22, J_23, J_24, J_25, J_26, J_27, J_28, J_29, J_30, J_31, J_32, J_33, J_34, J_35, J_36, J_37, J_38, J_39, J_40, J_48, J_49, J_50, J_63, J_72, J_100, J_143, J_144, J_200, J_576, J_1000, J_1022, J_1151, J_1152, J_1440, J_5000, J_10000, J_1000000, J_2147483647, N_1, N_1000000, N_1000001, N_1000002, N_1000003, N_1000010, nI_toInt, nI_add, nI_mul, nI_et, nI_ef, nI_lt_t, nI_lt_f, nI_le_t, nI_le_f, inR_t, inR_f, nI_mI, mI_nI, mI_lt, nI_lm, mI_le, nI_em, Int.cast_ofNat_Int, Nat.reduceBEq, or_true, true_or, or_false, false_or, Bool.true_and, Bool.and_true, Bool.false_and, Bool.and_false, Bool.or_true, Bool.true_or, Bool.or_false, Bool.false_or, beq_self_eq_true, not_false_eq_true, if_true, if_false, ite_true, ite_false, eq_self, and_true, true_and, and_false, false_and, not_true_eq_false, not_false_eq_true, reduceCtorEq, and_self, Nat.reduceLeDiff, Nat.reduceEqDiff, Nat.reduceLT, Nat.reduceSub, Int.reduceSub, Int.reduceLE, ne_eq, ↓reduceIte, Nat.reduceMul, Nat.reduceAdd, hC.t0, hC.t1, hC.n1, hC.t2, hC.n2, hC.t3, hC.t4, hC.n4, hC.t5, hC.t6, hC.n6, hC.t7, hC.n7, hC.t8, hC.n8, hC.t9, hC.n9, hC.t10, hC.n10, hC.t11, hC.n11, hC.t12, hC.t13, hC.n13, hC.t14, hC.n14, hC.t15, hC.n15, hC.t16, hC.n16, hC.t17, hC.n17, hC.t18, hC.n18, hC.t19, hC.n19, hC.t20, hC.t21, hC.n21, hC.t22, hC.n22, hC.t23, hC.n23, hC.t24, hC.n24, hC.t25, hC.n25, hC.t26, hC.n26, hC.t27, hC.n27, hC.t28, hC.n28, hC.t29, hC.n29, hC.t30, hC.n30, hC.t31, hC.n31, hC.t32, hC.n32, hC.t33, hC.n33, hC.f0_0, hC.f0_1, hC.f0_2, hC.f0_3, hC.f0_4, hC.f0_5, hC.f3_0, hC.f5_0, hC.f5_1, hC.f5_2, hC.f5_3, hC.f5_4, hC.f5_5, hC.f12_0, hC.f12_1, hC.f12_2, hC.f12_3, hC.f12_5, hC.f12_6, hC.f12_7, hC.f20_0, hC.f20_1, hC.f20_2, hC.f20_3, hC.f20_4, hC.f20_5, hC.f20_6, hC.f25_0, hC.f25_1, hC.f25_2, hC.f25_3, hC.f25_4, hC.f25_5]
end Bb
