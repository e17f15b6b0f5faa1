/-! (B) best: the class's -/
section Bc
variable {X p b : Nat} {C C1 R : St} {D : PD} {L : Nat → Nat} {k : Nat} {o : Nat → Nat}
theorem mx_n {a b : Nat} (ha : a < 2 ^ 31) (hb : b < 2 ^ 31) : mx (nI a) (nI b) = nI (Nat.max a b) := by
  unfold mx
  rcases Nat.lt_or_ge a b with h | h
  · rw [if_pos (nI_lt h hb)]
    congr 1
    exact (Nat.max_eq_right (Nat.le_of_lt h)).symm
  · rw [if_neg (nI_nlt h ha)]
    congr 1
    exact (Nat.max_eq_left h).symm
/-- the row of what ends are at least -/
def EA (X : Nat) (C : St) (D : PD) (ea : Nat → Nat) : Prop := ∀ c, c < pdN D → sI C (X + 11) c = nI (ea c) ∧ ea c ≤ 800000
theorem zero_L (hn : pdN D ≤ 144) : ∀ (m i fuel : Nat) (C : St), CK X C → sI C (X + 5) 6 = nI (pdN D) → i + m = pdN D → m < fuel → ∃ C1, (∀ K, pX1_bestGate_L19 (X + 5) K fuel (nI i) C = K C1) ∧ OnI (fun a => a = X + 11) C C1 ∧ (∀ c, i ≤ c → c < pdN D → sI C1 (X + 11) c = nI 0) ∧ ∀ c, c < i → sI C1 (X + 11) c = sI C (X + 11) c := by
  intro m
  induction m with
  | zero =>
    intro i fuel C hC e6 hi hf
    obtain ⟨f, rfl⟩ : ∃ f, fuel = f + 1 := ⟨fuel - 1, by omega⟩
    refine ⟨C, fun K => ?_, OnI.rf, fun c h1 h2 => by omega, fun _ _ => rfl⟩
    simp -implicitDefEqProofs (maxSteps := 2000000) (disch := first | omega | exact hgp | exact RK.mv hR rfl rfl rfl | exact CK.mv hC rfl rfl rfl | decide | (simp -implicitDefEqProofs only [wI_X, wJ_X, wF_X, nw_X]; first | done | omega)) only [pX1_bestGate_L19, e6, ng_x, b01, ite_clB, clB_id, clB_ie, nar_0, nar_1, wI_se, wI_ne, wJ_se, wJ_ne, wF_se, wF_ne, nw_Te, nw_Tn, nw_Ne, nw_Nn, nw_In, nw_Jn, nw_Fn, nw_X, nw_S, nI_pre, ↓gI_x, ↓gF_x, ↓pI_x, ↓pF_x, ↓pZ_x, ↓ldI_x, ↓stI_x, ↓ldZ_x, ↓stZ_x, ↓ldJ_x, ↓stJ_x, ↓ldF_x, ↓stF_x, ↓ln_x, ↓nO_x, ↓nA_x, onT_x, or2_x, un_s, nu_s, nu_n, ↓lt_x, ↓rt_x, ↓clB_x, ↓rtZ_x, iO_s, iO_n, ↓cO_x, dv_x, rm_x, ↓fl_x, below_x, among_x, in_x, l_toInt, inB_x, uN_nI, ↓ite_S, clB_s, clB_n, wI_T, wI_N, wI_F, wI_J, wI_X, wI_S, wJ_T, wJ_N, wJ_I, wJ_F, wJ_X, wJ_S, wF_T, wF_N, wF_I, wF_J, wF_X, wF_S, wIr_T, wIr_N, wIr_J, wIr_F, wIr_X, wIr_S, wJr_T, wJr_N, wJr_I, wJr_F, wJr_X, wJr_S, fit_10_10, fit_11_11, fit_12_1, fit_12_3, fit_12_4, fit_12_5, fit_1_1, fit_1_3, fit_1_4, fit_1_5, fit_2_2, fit_3_1, fit_3_3, fit_3_4, fit_3_5, fit_4_1, fit_4_3, fit_4_4, fit_4_5, fit_5_5, fit_6_6, fit_7_7, fit_8_8, fit_9_9, L_0, L_1, L_2, L_3, L_4, L_5, L_6, L_7, L_8, L_9, L_10, L_11, L_12, L_13, L_14, L_15, L_16, L_17, L_18, L_19, L_20, L_21, L_22, L_23, L_24, L_25, L_26, L_27, L_28, L_29, L_30, L_31, L_32, L_33, L_34, L_35, L_36, L_37, L_38, L_39, L_40, L_48, L_49, L_50, L_63, L_72, L_100, L_143, L_144, L_200, L_576, L_1000, L_1022, L_1151, L_1152, L_1440, L_5000, L_10000, L_1000000, L_2147483647, J_0, J_1, J_2, J_3, J_4, J_5, J_6, J_7, J_8, J_9, J_10, J_11, J_12, J_13, J_14, J_15, J_16, J_17, J_18, J_19, J_20, J_21, J_22, J_23, J_24, J_25, J_26, J_27, J_28, J_29, J_30, J_31, J_32, J_33, J_34, J_35, J_36, J_37, J_38, J_39, J_40, J_48, J_49, J_50, J_63, J_72, J_100, J_143, J_144, J_200, J_576, J_1000, J_1022, J_1151, J_1152, J_1440, J_5000, J_10000, J_1000000, J_2147483647, N_1, N_1000000, N_1000001, N_1000002, N_1000003, N_1000010, nI_toInt, nI_add, nI_mul, nI_et, nI_ef, nI_lt_t, nI_lt_f, nI_le_t, nI_le_f, inR_t, inR_f, nI_mI, mI_nI, mI_lt, nI_lm, mI_le, nI_em, Int.cast_ofNat_Int, Nat.reduceBEq, or_true, true_or, or_false, false_or, Bool.true_and, Bool.and_true, Bool.false_and, Bool.and_false, Bool.or_true, Bool.true_or, Bool.or_false, Bool.false_or, beq_self_eq_true, not_false_eq_true, if_true, if_false, ite_true, ite_false, eq_self, and_true, true_and, and_false, false_and, not_true_eq_false, not_false_eq_true, reduceCtorEq, and_self, Nat.reduceLeDiff, Nat.reduceEqDiff, Nat.reduceLT, Nat.reduceSub, Int.reduceSub, Int.reduceLE, ne_eq, ↓reduceIte, Nat.reduceMul, Nat.reduceAdd, hC.t0, hC.t1, hC.n1, hC.t2, hC.n2, hC.t3, hC.t4, hC.n4, hC.t5, hC.t6, hC.n6, hC.t7, hC.n7, hC.t8, hC.n8, hC.t9, hC.n9, hC.t10, hC.n10, hC.t11, hC.n11, hC.t12, hC.t13, hC.n13, hC.t14, hC.n14, hC.t15, hC.n15, hC.t16, hC.n16, hC.t17, hC.n17, hC.t18, hC.n18, hC.t19, hC.n19, hC.t20, hC.t21, hC.n21, hC.t22, hC.n22, hC.t23, hC.n23, hC.t24, hC.n24, hC.t25, hC.n25, hC.t26, hC.n26, hC.t27, hC.n27, hC.t28, hC.n28, hC.t29, hC.n29, hC.t30, hC.n30, hC.t31, hC.n31, hC.t32, hC.n32, hC.t33, hC.n33, hC.f0_0, hC.f0_1, hC.f0_2, hC.f0_3, hC.f0_4, hC.f0_5, hC.f3_0, hC.f5_0, hC.f5_1, hC.f5_2, hC.f5_3, hC.f5_4, hC.f5_5, hC.f12_0, hC.f12_1, hC.f12_2, hC.f12_3, hC.f12_5, hC.f12_6, hC.f12_7, hC.f20_0, hC.f20_1, hC.f20_2, hC.f20_3, hC.f20_4, hC.f20_5, hC.f20_6, hC.f25_0, hC.f25_1, hC.f25_2, hC.f25_3, hC.f25_4, hC.f25_5]
  | succ m ih =>
    intro i fuel C hC e6 hi hf
    obtain ⟨f, rfl⟩ : ∃ f, fuel = f + 1 := ⟨fuel - 1, by omega⟩
    have on1 : OnI (fun a => a = X + 11) C (wI C (X + 11) i (nI 0)) := OnI.wI OnI.rf (by exact rfl)
    obtain ⟨C1, w1, w2, w3, w4⟩ := ih (i + 1) f (wI C (X + 11) i (nI 0)) (on1.ck hC) (by simp -implicitDefEqProofs (maxSteps := 2000000) (disch := first | omega | (simp -implicitDefEqProofs only [wI_X, wJ_X, wF_X, nw_X]; first | done | omega)) only [ wI_se, wI_ne, wJ_se, wJ_ne, wF_se, wF_ne, nw_Te, nw_Tn, nw_Ne, nw_Nn, nw_In, nw_Jn, nw_Fn, nw_X, nw_S, wI_row, wJ_row, wF_row, wIr_row, wJr_row, wIr_at, wJr_at, wI_T, wI_N, wI_F, wI_J, wI_X, wI_S, wJ_T, wJ_N, wJ_I, wJ_F, wJ_X, wJ_S, wF_T, wF_N, wF_I, wF_J, wF_X, wF_S, wIr_T, wIr_N, wIr_J, wIr_F, wIr_X, wIr_S, wJr_T, wJr_N, wJr_I, wJr_F, wJr_X, wJr_S]; exact e6) (by omega) (by omega)
    refine ⟨C1, fun K => Eq.trans ?_ (w1 K), on1.tr w2, fun c h1 h2 => ?_, fun c hc => ?_⟩
    · simp -implicitDefEqProofs (maxSteps := 2000000) (disch := first | omega | exact hgp | exact RK.mv hR rfl rfl rfl | exact CK.mv hC rfl rfl rfl | decide | (simp -implicitDefEqProofs only [wI_X, wJ_X, wF_X, nw_X]; first | done | omega)) only [pX1_bestGate_L19, e6, ng_x, b01, ite_clB, clB_id, clB_ie, nar_0, nar_1, wI_se, wI_ne, wJ_se, wJ_ne, wF_se, wF_ne, nw_Te, nw_Tn, nw_Ne, nw_Nn, nw_In, nw_Jn, nw_Fn, nw_X, nw_S, nI_pre, ↓gI_x, ↓gF_x, ↓pI_x, ↓pF_x, ↓pZ_x, ↓ldI_x, ↓stI_x, ↓ldZ_x, ↓stZ_x, ↓ldJ_x, ↓stJ_x, ↓ldF_x, ↓stF_x, ↓ln_x, ↓nO_x, ↓nA_x, onT_x, or2_x, un_s, nu_s, nu_n, ↓lt_x, ↓rt_x, ↓clB_x, ↓rtZ_x, iO_s, iO_n, ↓cO_x, dv_x, rm_x, ↓fl_x, below_x, among_x, in_x, l_toInt, inB_x, uN_nI, ↓ite_S, clB_s, clB_n, wI_T, wI_N, wI_F, wI_J, wI_X, wI_S, wJ_T, wJ_N, wJ_I, wJ_F, wJ_X, wJ_S, wF_T, wF_N, wF_I, wF_J, wF_X, wF_S, wIr_T, wIr_N, wIr_J, wIr_F, wIr_X, wIr_S, wJr_T, wJr_N, wJr_I, wJr_F, wJr_X, wJr_S, fit_10_10, fit_11_11, fit_12_1, fit_12_3, fit_12_4, fit_12_5, fit_1_1, fit_1_3, fit_1_4, fit_1_5, fit_2_2, fit_3_1, fit_3_3, fit_3_4, fit_3_5, fit_4_1, fit_4_3, fit_4_4, fit_4_5, fit_5_5, fit_6_6, fit_7_7, fit_8_8, fit_9_9, L_0, L_1, L_2, L_3, L_4, L_5, L_6, L_7, L_8, L_9, L_10, L_11, L_12, L_13, L_14, L_15, L_16, L_17, L_18, L_19, L_20, L_21, L_22, L_23, L_24, L_25, L_26, L_27, L_28, L_29, L_30, L_31, L_32, L_33, L_34, L_35, L_36, L_37, L_38, L_39, L_40, L_48, L_49, L_50, L_63, L_72, L_100, L_143, L_144, L_200, L_576, L_1000, L_1022, L_1151, L_1152, L_1440, L_5000, L_10000, L_1000000, L_2147483647, J_0, J_1, J_2, J_3, J_4, J_5, J_6, J_7, J_8, J_9, J_10, J_11, J_12, J_13, J_14, J_15, J_16, J_17, J_18, J_19, J_20, J_21, J_22, J_23, J_24, J_25, J_26, J_27, J_28, J_29, J_30, J_31, J_32, J_33, J_34, J_35, J_36, J_37, J_38, J_39, J_40, J_48, J_49, J_50, J_63, J_72, J_100, J_143, J_144, J_200, J_576, J_1000, J_1022, J_1151, J_1152, J_1440, J_5000, J_10000, J_1000000, J_2147483647, N_1, N_1000000, N_1000001, N_1000002, N_1000003, N_1000010, nI_toInt, nI_add, nI_mul, nI_et, nI_ef, nI_lt_t, nI_lt_f, nI_le_t, nI_le_f, inR_t, inR_f, nI_mI, mI_nI, mI_lt, nI_lm, mI_le, nI_em, Int.cast_ofNat_Int, Nat.reduceBEq, or_true, true_or, or_false, false_or, Bool.true_and, Bool.and_true, Bool.false_and, Bool.and_false, Bool.or_true, Bool.true_or, Bool.or_false, Bool.false_or, beq_self_eq_true, not_false_eq_true, if_true, if_false, ite_true, ite_false, eq_self, and_true, true_and, and_false, false_and, not_true_eq_false, not_false_eq_true, reduceCtorEq, and_self, Nat.reduceLeDiff, Nat.reduceEqDiff, Nat.reduceLT, Nat.reduceSub, Int.reduceSub, Int.reduceLE, ne_eq, ↓reduceIte, Nat.reduceMul, Nat.reduceAdd, hC.t0, hC.t1, hC.n1, hC.t2, hC.n2, hC.t3, hC.t4, hC.n4, hC.t5, hC.t6, hC.n6, hC.t7, hC.n7, hC.t8, hC.n8, hC.t9, hC.n9, hC.t10, hC.n10, hC.t11, hC.n11, hC.t12, hC.t13, hC.n13, hC.t14, hC.n14, hC.t15, hC.n15, hC.t16, hC.n16, hC.t17, hC.n17, hC.t18, hC.n18, hC.t19, hC.n19, hC.t20, hC.t21, hC.n21, hC.t22, hC.n22, hC.t23, hC.n23, hC.t24, hC.n24, hC.t25, hC.n25, hC.t26, hC.n26, hC.t27, hC.n27, hC.t28, hC.n28, hC.t29, hC.n29, hC.t30, hC.n30, hC.t31, hC.n31, hC.t32, hC.n32, hC.t33, hC.n33, hC.f0_0, hC.f0_1, hC.f0_2, hC.f0_3, hC.f0_4, hC.f0_5, hC.f3_0, hC.f5_0, hC.f5_1, hC.f5_2, hC.f5_3, hC.f5_4, hC.f5_5, hC.f12_0, hC.f12_1, hC.f12_2, hC.f12_3, hC.f12_5, hC.f12_6, hC.f12_7, hC.f20_0, hC.f20_1, hC.f20_2, hC.f20_3, hC.f20_4, hC.f20_5, hC.f20_6, hC.f25_0, hC.f25_1, hC.f25_2, hC.f25_3, hC.f25_4, hC.f25_5]
    · by_cases e : c = i
      · subst e
        rw [w4 c (by omega)]
        simp -implicitDefEqProofs (maxSteps := 2000000) (disch := first | omega | (simp -implicitDefEqProofs only [wI_X, wJ_X, wF_X, nw_X]; first | done | omega)) only [ wI_se, wI_ne, wJ_se, wJ_ne, wF_se, wF_ne, nw_Te, nw_Tn, nw_Ne, nw_Nn, nw_In, nw_Jn, nw_Fn, nw_X, nw_S, wI_row, wJ_row, wF_row, wIr_row, wJr_row, wIr_at, wJr_at, wI_T, wI_N, wI_F, wI_J, wI_X, wI_S, wJ_T, wJ_N, wJ_I, wJ_F, wJ_X, wJ_S, wF_T, wF_N, wF_I, wF_J, wF_X, wF_S, wIr_T, wIr_N, wIr_J, wIr_F, wIr_X, wIr_S, wJr_T, wJr_N, wJr_I, wJr_F, wJr_X, wJr_S]
      · exact w3 c (by omega) h2
    · rw [w4 c (by omega)]
      simp -implicitDefEqProofs (maxSteps := 2000000) (disch := first | omega | (simp -implicitDefEqProofs only [wI_X, wJ_X, wF_X, nw_X]; first | done | omega)) only [ wI_se, wI_ne, wJ_se, wJ_ne, wF_se, wF_ne, nw_Te, nw_Tn, nw_Ne, nw_Nn, nw_In, nw_Jn, nw_Fn, nw_X, nw_S, wI_row, wJ_row, wF_row, wIr_row, wJr_row, wIr_at, wJr_at, wI_T, wI_N, wI_F, wI_J, wI_X, wI_S, wJ_T, wJ_N, wJ_I, wJ_F, wJ_X, wJ_S, wF_T, wF_N, wF_I, wF_J, wF_X, wF_S, wIr_T, wIr_N, wIr_J, wIr_F, wIr_X, wIr_S, wJr_T, wJr_N, wJr_I, wJr_F, wJr_X, wJr_S]
theorem trial_L (hn : pdN D ≤ 144) (hT : ∀ c, c < pdN D → pdT D c ≤ 9) (hb : ∀ c, c < pdN D → L c ≠ NO → L c ≤ 2880003) : ∀ (m i fuel e : Nat) (C : St) (ea : Nat → Nat), CK X C → Laid X C D → CL X C D L → EA X C D ea → e ≤ 800000 → (∀ x, x < i → 0 < pdT D x → L x ≠ NO ∧ L x / 4 ≤ e) → (e = 0 ∨ ∃ x, x < i ∧ 0 < pdT D x ∧ L x / 4 = e) → i + m = pdN D → m < fuel → ∃ C1 ea1 v, pX1_endsOfTrial_L4 (X + 5) (fun v => rt v) fuel (nI e) (nI i) C = some (nI v, C1) ∧ OnI (fun a => a = X + 11) C C1 ∧ EA X C1 D ea1 ∧ (∀ x, ea1 x = ea x ∨ (x < pdN D ∧ 0 < pdT D x ∧ L x ≠ NO ∧ ea1 x ≤ Nat.max (ea x) (L x / 4))) ∧ ((v = NO ∧ ∃ x, x < pdN D ∧ 0 < pdT D x ∧ L x = NO) ∨ (v ≤ 800000 ∧ (∀ x, x < pdN D → 0 < pdT D x → L x ≠ NO ∧ L x / 4 ≤ v) ∧ (v = 0 ∨ ∃ x, x < pdN D ∧ 0 < pdT D x ∧ L x / 4 = v))) := by
  intro m
  induction m with
  | zero =>
    intro i fuel e C ea hC la cl hea he h1 h2 hi hf
    obtain ⟨f, rfl⟩ : ∃ f, fuel = f + 1 := ⟨fuel - 1, by omega⟩
    have e6 := la.1
    have ei : i = pdN D := by omega
    subst ei
    refine ⟨C, ea, e, ?_, OnI.rf, hea, fun _ => Or.inl rfl, Or.inr ⟨he, h1, h2⟩⟩
    simp -implicitDefEqProofs (maxSteps := 2000000) (disch := first | omega | exact hgp | exact RK.mv hR rfl rfl rfl | exact CK.mv hC rfl rfl rfl | decide | (simp -implicitDefEqProofs only [wI_X, wJ_X, wF_X, nw_X]; first | done | omega)) only [pX1_endsOfTrial_L4, e6, ng_x, b01, ite_clB, clB_id, clB_ie, nar_0, nar_1, wI_se, wI_ne, wJ_se, wJ_ne, wF_se, wF_ne, nw_Te, nw_Tn, nw_Ne, nw_Nn, nw_In, nw_Jn, nw_Fn, nw_X, nw_S, nI_pre, ↓gI_x, ↓gF_x, ↓pI_x, ↓pF_x, ↓pZ_x, ↓ldI_x, ↓stI_x, ↓ldZ_x, ↓stZ_x, ↓ldJ_x, ↓stJ_x, ↓ldF_x, ↓stF_x, ↓ln_x, ↓nO_x, ↓nA_x, onT_x, or2_x, un_s, nu_s, nu_n, ↓lt_x, ↓rt_x, ↓clB_x, ↓rtZ_x, iO_s, iO_n, ↓cO_x, dv_x, rm_x, ↓fl_x, below_x, among_x, in_x, l_toInt, inB_x, uN_nI, ↓ite_S, clB_s, clB_n, wI_T, wI_N, wI_F, wI_J, wI_X, wI_S, wJ_T, wJ_N, wJ_I, wJ_F, wJ_X, wJ_S, wF_T, wF_N, wF_I, wF_J, wF_X, wF_S, wIr_T, wIr_N, wIr_J, wIr_F, wIr_X, wIr_S, wJr_T, wJr_N, wJr_I, wJr_F, wJr_X, wJr_S, fit_10_10, fit_11_11, fit_12_1, fit_12_3, fit_12_4, fit_12_5, fit_1_1, fit_1_3, fit_1_4, fit_1_5, fit_2_2, fit_3_1, fit_3_3, fit_3_4, fit_3_5, fit_4_1, fit_4_3, fit_4_4, fit_4_5, fit_5_5, fit_6_6, fit_7_7, fit_8_8, fit_9_9, L_0, L_1, L_2, L_3, L_4, L_5, L_6, L_7, L_8, L_9, L_10, L_11, L_12, L_13, L_14, L_15, L_16, L_17, L_18, L_19, L_20, L_21, L_22, L_23, L_24, L_25, L_26, L_27, L_28, L_29, L_30, L_31, L_32, L_33, L_34, L_35, L_36, L_37, L_38, L_39, L_40, L_48, L_49, L_50, L_63, L_72, L_100, L_143, L_144, L_200, L_576, L_1000, L_1022, L_1151, L_1152, L_1440, L_5000, L_10000, L_1000000, L_2147483647, J_0, J_1, J_2, J_3, J_4, J_5, J_6, J_7, J_8, J_9, J_10, J_11, J_12, J_13, J_14, J_15, J_16, J_17, J_18, J_19, J_20, J_21, J_22, J_23, J_24, J_25, J_26, J_27, J_28, J_29, J_30, J_31, J_32, J_33, J_34, J_35, J_36, J_37, J_38, J_39, J_40, J_48, J_49, J_50, J_63, J_72, J_100, J_143, J_144, J_200, J_576, J_1000, J_1022, J_1151, J_1152, J_1440, J_5000, J_10000, J_1000000, J_2147483647, N_1, N_1000000, N_1000001, N_1000002, N_1000003, N_1000010, nI_toInt, nI_add, nI_mul, nI_et, nI_ef, nI_lt_t, nI_lt_f, nI_le_t, nI_le_f, inR_t, inR_f, nI_mI, mI_nI, mI_lt, nI_lm, mI_le, nI_em, Int.cast_ofNat_Int, Nat.reduceBEq, or_true, true_or, or_false, false_or, Bool.true_and, Bool.and_true, Bool.false_and, Bool.and_false, Bool.or_true, Bool.true_or, Bool.or_false, Bool.false_or, beq_self_eq_true, not_false_eq_true, if_true, if_false, ite_true, ite_false, eq_self, and_true, true_and, and_false, false_and, not_true_eq_false, not_false_eq_true, reduceCtorEq, and_self, Nat.reduceLeDiff, Nat.reduceEqDiff, Nat.reduceLT, Nat.reduceSub, Int.reduceSub, Int.reduceLE, ne_eq, ↓reduceIte, Nat.reduceMul, Nat.reduceAdd, hC.t0, hC.t1, hC.n1, hC.t2, hC.n2, hC.t3, hC.t4, hC.n4, hC.t5, hC.t6, hC.n6, hC.t7, hC.n7, hC.t8, hC.n8, hC.t9, hC.n9, hC.t10, hC.n10, hC.t11, hC.n11, hC.t12, hC.t13, hC.n13, hC.t14, hC.n14, hC.t15, hC.n15, hC.t16, hC.n16, hC.t17, hC.n17, hC.t18, hC.n18, hC.t19, hC.n19, hC.t20, hC.t21, hC.n21, hC.t22, hC.n22, hC.t23, hC.n23, hC.t24, hC.n24, hC.t25, hC.n25, hC.t26, hC.n26, hC.t27, hC.n27, hC.t28, hC.n28, hC.t29, hC.n29, hC.t30, hC.n30, hC.t31, hC.n31, hC.t32, hC.n32, hC.t33, hC.n33, hC.f0_0, hC.f0_1, hC.f0_2, hC.f0_3, hC.f0_4, hC.f0_5, hC.f3_0, hC.f5_0, hC.f5_1, hC.f5_2, hC.f5_3, hC.f5_4, hC.f5_5, hC.f12_0, hC.f12_1, hC.f12_2, hC.f12_3, hC.f12_5, hC.f12_6, hC.f12_7, hC.f20_0, hC.f20_1, hC.f20_2, hC.f20_3, hC.f20_4, hC.f20_5, hC.f20_6, hC.f25_0, hC.f25_1, hC.f25_2, hC.f25_3, hC.f25_4, hC.f25_5]
  | succ m ih =>
    intro i fuel e C ea hC la cl hea he h1 h2 hi hf
    obtain ⟨f, rfl⟩ : ∃ f, fuel = f + 1 := ⟨fuel - 1, by omega⟩
    have e6 := la.1
    have hc : i < pdN D := by omega
    have dg := la.2.1 i hc
    have ex : ∀ x, x < i + 1 → x ≠ i → x < i := fun x a b => by omega
    by_cases t0 : pdT D i = 0
    · rw [if_pos t0] at dg
      obtain ⟨C1, ea1, v, w1, w2⟩ := ih (i + 1) f e C ea hC la cl hea he (fun x hx tx => h1 x (by
        have : x ≠ i := fun q => by rw [q] at tx; omega
        omega) tx) (by
        rcases h2 with q | ⟨x, x1, x2⟩
        · exact Or.inl q
        · exact Or.inr ⟨x, by omega, x2⟩) (by omega) (by omega)
      refine ⟨C1, ea1, v, Eq.trans ?_ w1, w2⟩
      simp -implicitDefEqProofs (maxSteps := 2000000) (disch := first | omega | exact hgp | exact RK.mv hR rfl rfl rfl | exact CK.mv hC rfl rfl rfl | decide | (simp -implicitDefEqProofs only [wI_X, wJ_X, wF_X, nw_X]; first | done | omega)) only [pX1_endsOfTrial_L4, e6, dg, ng_x, b01, ite_clB, clB_id, clB_ie, nar_0, nar_1, wI_se, wI_ne, wJ_se, wJ_ne, wF_se, wF_ne, nw_Te, nw_Tn, nw_Ne, nw_Nn, nw_In, nw_Jn, nw_Fn, nw_X, nw_S, nI_pre, ↓gI_x, ↓gF_x, ↓pI_x, ↓pF_x, ↓pZ_x, ↓ldI_x, ↓stI_x, ↓ldZ_x, ↓stZ_x, ↓ldJ_x, ↓stJ_x, ↓ldF_x, ↓stF_x, ↓ln_x, ↓nO_x, ↓nA_x, onT_x, or2_x, un_s, nu_s, nu_n, ↓lt_x, ↓rt_x, ↓clB_x, ↓rtZ_x, iO_s, iO_n, ↓cO_x, dv_x, rm_x, ↓fl_x, below_x, among_x, in_x, l_toInt, inB_x, uN_nI, ↓ite_S, clB_s, clB_n, wI_T, wI_N, wI_F, wI_J, wI_X, wI_S, wJ_T, wJ_N, wJ_I, wJ_F, wJ_X, wJ_S, wF_T, wF_N, wF_I, wF_J, wF_X, wF_S, wIr_T, wIr_N, wIr_J, wIr_F, wIr_X, wIr_S, wJr_T, wJr_N, wJr_I, wJr_F, wJr_X, wJr_S, fit_10_10, fit_11_11, fit_12_1, fit_12_3, fit_12_4, fit_12_5, fit_1_1, fit_1_3, fit_1_4, fit_1_5, fit_2_2, fit_3_1, fit_3_3, fit_3_4, fit_3_5, fit_4_1, fit_4_3, fit_4_4, fit_4_5, fit_5_5, fit_6_6, fit_7_7, fit_8_8, fit_9_9, L_0, L_1, L_2, L_3, L_4, L_5, L_6, L_7, L_8, L_9, L_10, L_11, L_12, L_13, L_14, L_15, L_16, L_17, L_18, L_19, L_20, L_21, L_22, L_23, L_24, L_25, L_26, L_27, L_28, L_29, L_30, L_31, L_32, L_33, L_34, L_35, L_36, L_37, L_38, L_39, L_40, L_48, L_49, L_50, L_63, L_72, L_100, L_143, L_144, L_200, L_576, L_1000, L_1022, L_1151, L_1152, L_1440, L_5000, L_10000, L_1000000, L_2147483647, J_0, J_1, J_2, J_3, J_4, J_5, J_6, J_7, J_8, J_9, J_10, J_11, J_12, J_13, J_14, J_15, J_16, J_17, J_18, J_19, J_20, J_21, J_22, J_23, J_24, J_25, J_26, J_27, J_28, J_29, J_30, J_31, J_32, J_33, J_34, J_35, J_36, J_37, J_38, J_39, J_40, J_48, J_49, J_50, J_63, J_72, J_100, J_143, J_144, J_200, J_576, J_1000, J_1022, J_1151, J_1152, J_1440, J_5000, J_10000, J_1000000, J_2147483647, N_1, N_1000000, N_1000001, N_1000002, N_1000003, N_1000010, nI_toInt, nI_add, nI_mul, nI_et, nI_ef, nI_lt_t, nI_lt_f, nI_le_t, nI_le_f, inR_t, inR_f, nI_mI, mI_nI, mI_lt, nI_lm, mI_le, nI_em, Int.cast_ofNat_Int, Nat.reduceBEq, or_true, true_or, or_false, false_or, Bool.true_and, Bool.and_true, Bool.false_and, Bool.and_false, Bool.or_true, Bool.true_or, Bool.or_false, Bool.false_or, beq_self_eq_true, not_false_eq_true, if_true, if_false, ite_true, ite_false, eq_self, and_true, true_and, and_false, false_and, not_true_eq_false, not_false_eq_true, reduceCtorEq, and_self, Nat.reduceLeDiff, Nat.reduceEqDiff, Nat.reduceLT, Nat.reduceSub, Int.reduceSub, Int.reduceLE, ne_eq, ↓reduceIte, Nat.reduceMul, Nat.reduceAdd, hC.t0, hC.t1, hC.n1, hC.t2, hC.n2, hC.t3, hC.t4, hC.n4, hC.t5, hC.t6, hC.n6, hC.t7, hC.n7, hC.t8, hC.n8, hC.t9, hC.n9, hC.t10, hC.n10, hC.t11, hC.n11, hC.t12, hC.t13, hC.n13, hC.t14, hC.n14, hC.t15, hC.n15, hC.t16, hC.n16, hC.t17, hC.n17, hC.t18, hC.n18, hC.t19, hC.n19, hC.t20, hC.t21, hC.n21, hC.t22, hC.n22, hC.t23, hC.n23, hC.t24, hC.n24, hC.t25, hC.n25, hC.t26, hC.n26, hC.t27, hC.n27, hC.t28, hC.n28, hC.t29, hC.n29, hC.t30, hC.n30, hC.t31, hC.n31, hC.t32, hC.n32, hC.t33, hC.n33, hC.f0_0, hC.f0_1, hC.f0_2, hC.f0_3, hC.f0_4, hC.f0_5, hC.f3_0, hC.f5_0, hC.f5_1, hC.f5_2, hC.f5_3, hC.f5_4, hC.f5_5, hC.f12_0, hC.f12_1, hC.f12_2, hC.f12_3, hC.f12_5, hC.f12_6, hC.f12_7, hC.f20_0, hC.f20_1, hC.f20_2, hC.f20_3, hC.f20_4, hC.f20_5, hC.f20_6, hC.f25_0, hC.f25_1, hC.f25_2, hC.f25_3, hC.f25_4, hC.f25_5]
    · rw [if_neg t0] at dg
      have tp : 0 < pdT D i := by omega
      have dp := dr_pos tp (hT i hc)
      have dle := dr_le (pdT D i)
      by_cases gl : L i = NO
      · have rc := reach_f hC hn e6 cl hc gl
        refine ⟨C, ea, NO, ?_, OnI.rf, hea, fun _ => Or.inl rfl, Or.inl ⟨rfl, i, hc, tp, gl⟩⟩
        show _ = some (nI 2147483647, C)
        simp -implicitDefEqProofs (maxSteps := 2000000) (disch := first | omega | exact hgp | exact RK.mv hR rfl rfl rfl | exact CK.mv hC rfl rfl rfl | decide | (simp -implicitDefEqProofs only [wI_X, wJ_X, wF_X, nw_X]; first | done | omega)) only [pX1_endsOfTrial_L4, e6, dg, rc, ng_x, b01, ite_clB, clB_id, clB_ie, nar_0, nar_1, wI_se, wI_ne, wJ_se, wJ_ne, wF_se, wF_ne, nw_Te, nw_Tn, nw_Ne, nw_Nn, nw_In, nw_Jn, nw_Fn, nw_X, nw_S, nI_pre, ↓gI_x, ↓gF_x, ↓pI_x, ↓pF_x, ↓pZ_x, ↓ldI_x, ↓stI_x, ↓ldZ_x, ↓stZ_x, ↓ldJ_x, ↓stJ_x, ↓ldF_x, ↓stF_x, ↓ln_x, ↓nO_x, ↓nA_x, onT_x, or2_x, un_s, nu_s, nu_n, ↓lt_x, ↓rt_x, ↓clB_x, ↓rtZ_x, iO_s, iO_n, ↓cO_x, dv_x, rm_x, ↓fl_x, below_x, among_x, in_x, l_toInt, inB_x, uN_nI, ↓ite_S, clB_s, clB_n, wI_T, wI_N, wI_F, wI_J, wI_X, wI_S, wJ_T, wJ_N, wJ_I, wJ_F, wJ_X, wJ_S, wF_T, wF_N, wF_I, wF_J, wF_X, wF_S, wIr_T, wIr_N, wIr_J, wIr_F, wIr_X, wIr_S, wJr_T, wJr_N, wJr_I, wJr_F, wJr_X, wJr_S, fit_10_10, fit_11_11, fit_12_1, fit_12_3, fit_12_4, fit_12_5, fit_1_1, fit_1_3, fit_1_4, fit_1_5, fit_2_2, fit_3_1, fit_3_3, fit_3_4, fit_3_5, fit_4_1, fit_4_3, fit_4_4, fit_4_5, fit_5_5, fit_6_6, fit_7_7, fit_8_8, fit_9_9, L_0, L_1, L_2, L_3, L_4, L_5, L_6, L_7, L_8, L_9, L_10, L_11, L_12, L_13, L_14, L_15, L_16, L_17, L_18, L_19, L_20, L_21, L_22, L_23, L_24, L_25, L_26, L_27, L_28, L_29, L_30, L_31, L_32, L_33, L_34, L_35, L_36, L_37, L_38, L_39, L_40, L_48, L_49, L_50, L_63, L_72, L_100, L_143, L_144, L_200, L_576, L_1000, L_1022, L_1151, L_1152, L_1440, L_5000, L_10000, L_1000000, L_2147483647, J_0, J_1, J_2, J_3, J_4, J_5, J_6, J_7, J_8, J_9, J_10, J_11, J_12, J_13, J_14, J_15, J_16, J_17, J_18, J_19, J_20, J_21, J_22, J_23, J_24, J_25, J_26, J_27, J_28, J_29, J_30, J_31, J_32, J_33, J_34, J_35, J_36, J_37, J_38, J_39, J_40, J_48, J_49, J_50, J_63, J_72, J_100, J_143, J_144, J_200, J_576, J_1000, J_1022, J_1151, J_1152, J_1440, J_5000, J_10000, J_1000000, J_2147483647, N_1, N_1000000, N_1000001, N_1000002, N_1000003, N_1000010, nI_toInt, nI_add, nI_mul, nI_et, nI_ef, nI_lt_t, nI_lt_f, nI_le_t, nI_le_f, inR_t, inR_f, nI_mI, mI_nI, mI_lt, nI_lm, mI_le, nI_em, Int.cast_ofNat_Int, Nat.reduceBEq, or_true, true_or, or_false, false_or, Bool.true_and, Bool.and_true, Bool.false_and, Bool.and_false, Bool.or_true, Bool.true_or, Bool.or_false, Bool.false_or, beq_self_eq_true, not_false_eq_true, if_true, if_false, ite_true, ite_false, eq_self, and_true, true_and, and_false, false_and, not_true_eq_false, not_false_eq_true, reduceCtorEq, and_self, Nat.reduceLeDiff, Nat.reduceEqDiff, Nat.reduceLT, Nat.reduceSub, Int.reduceSub, Int.reduceLE, ne_eq, ↓reduceIte, Nat.reduceMul, Nat.reduceAdd, hC.t0, hC.t1, hC.n1, hC.t2, hC.n2, hC.t3, hC.t4, hC.n4, hC.t5, hC.t6, hC.n6, hC.t7, hC.n7, hC.t8, hC.n8, hC.t9, hC.n9, hC.t10, hC.n10, hC.t11, hC.n11, hC.t12, hC.t13, hC.n13, hC.t14, hC.n14, hC.t15, hC.n15, hC.t16, hC.n16, hC.t17, hC.n17, hC.t18, hC.n18, hC.t19, hC.n19, hC.t20, hC.t21, hC.n21, hC.t22, hC.n22, hC.t23, hC.n23, hC.t24, hC.n24, hC.t25, hC.n25, hC.t26, hC.n26, hC.t27, hC.n27, hC.t28, hC.n28, hC.t29, hC.n29, hC.t30, hC.n30, hC.t31, hC.n31, hC.t32, hC.n32, hC.t33, hC.n33, hC.f0_0, hC.f0_1, hC.f0_2, hC.f0_3, hC.f0_4, hC.f0_5, hC.f3_0, hC.f5_0, hC.f5_1, hC.f5_2, hC.f5_3, hC.f5_4, hC.f5_5, hC.f12_0, hC.f12_1, hC.f12_2, hC.f12_3, hC.f12_5, hC.f12_6, hC.f12_7, hC.f20_0, hC.f20_1, hC.f20_2, hC.f20_3, hC.f20_4, hC.f20_5, hC.f20_6, hC.f25_0, hC.f25_1, hC.f25_2, hC.f25_3, hC.f25_4, hC.f25_5]
      · have rc := reach_t hC hn e6 cl hc gl
        have st := strain_t hC hn e6 cl hc gl
        have bi := hb i hc gl
        obtain ⟨a1, a2⟩ := hea i hc
        have m1 := mx_n (a := ea i) (b := L i / 4) (by omega) (by omega)
        have m2 := mx_n (a := e) (b := L i / 4) (by omega) (by omega)
        have mb1 : Nat.max (ea i) (L i / 4) ≤ 800000 := Nat.max_le.mpr ⟨a2, by omega⟩
        have mb2 : Nat.max e (L i / 4) ≤ 800000 := Nat.max_le.mpr ⟨he, by omega⟩
        have g1 : e ≤ Nat.max e (L i / 4) := Nat.le_max_left _ _
        have g2 : L i / 4 ≤ Nat.max e (L i / 4) := Nat.le_max_right _ _
        have on1 : OnI (fun a => a = X + 11) C (wI C (X + 11) i (nI (Nat.max (ea i) (L i / 4)))) := OnI.wI OnI.rf (by exact rfl)
        obtain ⟨C1, ea1, v, w1, w2, w3, w4, w5⟩ := ih (i + 1) f (Nat.max e (L i / 4)) (wI C (X + 11) i (nI (Nat.max (ea i) (L i / 4)))) (fun x => if x = i then Nat.max (ea i) (L i / 4) else ea x) (on1.ck hC) (la.on (on1.mono (fun a ha => by omega))) (cl.on (on1.mono (fun a ha => by omega))) (fun x hx => by
          dsimp only
          by_cases q : x = i
          · rw [if_pos q, q]
            refine ⟨?_, mb1⟩
            simp -implicitDefEqProofs (maxSteps := 2000000) (disch := first | omega | (simp -implicitDefEqProofs only [wI_X, wJ_X, wF_X, nw_X]; first | done | omega)) only [ wI_se, wI_ne, wJ_se, wJ_ne, wF_se, wF_ne, nw_Te, nw_Tn, nw_Ne, nw_Nn, nw_In, nw_Jn, nw_Fn, nw_X, nw_S, wI_row, wJ_row, wF_row, wIr_row, wJr_row, wIr_at, wJr_at, wI_T, wI_N, wI_F, wI_J, wI_X, wI_S, wJ_T, wJ_N, wJ_I, wJ_F, wJ_X, wJ_S, wF_T, wF_N, wF_I, wF_J, wF_X, wF_S, wIr_T, wIr_N, wIr_J, wIr_F, wIr_X, wIr_S, wJr_T, wJr_N, wJr_I, wJr_F, wJr_X, wJr_S]
          · rw [if_neg q]
            have := hea x hx
            simp -implicitDefEqProofs (maxSteps := 2000000) (disch := first | omega | (simp -implicitDefEqProofs only [wI_X, wJ_X, wF_X, nw_X]; first | done | omega)) only [ wI_se, wI_ne, wJ_se, wJ_ne, wF_se, wF_ne, nw_Te, nw_Tn, nw_Ne, nw_Nn, nw_In, nw_Jn, nw_Fn, nw_X, nw_S, wI_row, wJ_row, wF_row, wIr_row, wJr_row, wIr_at, wJr_at, wI_T, wI_N, wI_F, wI_J, wI_X, wI_S, wJ_T, wJ_N, wJ_I, wJ_F, wJ_X, wJ_S, wF_T, wF_N, wF_I, wF_J, wF_X, wF_S, wIr_T, wIr_N, wIr_J, wIr_F, wIr_X, wIr_S, wJr_T, wJr_N, wJr_I, wJr_F, wJr_X, wJr_S]
            exact this) mb2 (fun x hx tx => by
          by_cases q : x = i
          · rw [q]; exact ⟨gl, g2⟩
          · have := h1 x (by omega) tx
            exact ⟨this.1, by omega⟩) (by
          rcases Nat.le_total e (L i / 4) with q | q
          · exact Or.inr ⟨i, by omega, tp, (Nat.max_eq_right q).symm⟩
          · have : Nat.max e (L i / 4) = e := Nat.max_eq_left q
            rw [this]
            rcases h2 with z | ⟨x, x1, x2⟩
            · exact Or.inl z
            · exact Or.inr ⟨x, by omega, x2⟩) (by omega) (by omega)
        refine ⟨C1, ea1, v, Eq.trans ?_ w1, on1.tr w2, w3, fun x => ?_, w5⟩
        · simp -implicitDefEqProofs (maxSteps := 2000000) (disch := first | omega | exact hgp | exact RK.mv hR rfl rfl rfl | exact CK.mv hC rfl rfl rfl | decide | (simp -implicitDefEqProofs only [wI_X, wJ_X, wF_X, nw_X]; first | done | omega)) only [pX1_endsOfTrial_L4, e6, dg, rc, st, a1, m1, m2, ng_x, b01, ite_clB, clB_id, clB_ie, nar_0, nar_1, wI_se, wI_ne, wJ_se, wJ_ne, wF_se, wF_ne, nw_Te, nw_Tn, nw_Ne, nw_Nn, nw_In, nw_Jn, nw_Fn, nw_X, nw_S, nI_pre, ↓gI_x, ↓gF_x, ↓pI_x, ↓pF_x, ↓pZ_x, ↓ldI_x, ↓stI_x, ↓ldZ_x, ↓stZ_x, ↓ldJ_x, ↓stJ_x, ↓ldF_x, ↓stF_x, ↓ln_x, ↓nO_x, ↓nA_x, onT_x, or2_x, un_s, nu_s, nu_n, ↓lt_x, ↓rt_x, ↓clB_x, ↓rtZ_x, iO_s, iO_n, ↓cO_x, dv_x, rm_x, ↓fl_x, below_x, among_x, in_x, l_toInt, inB_x, uN_nI, ↓ite_S, clB_s, clB_n, wI_T, wI_N, wI_F, wI_J, wI_X, wI_S, wJ_T, wJ_N, wJ_I, wJ_F, wJ_X, wJ_S, wF_T, wF_N, wF_I, wF_J, wF_X, wF_S, wIr_T, wIr_N, wIr_J, wIr_F, wIr_X, wIr_S, wJr_T, wJr_N, wJr_I, wJr_F, wJr_X, wJr_S, fit_10_10, fit_11_11, fit_12_1, fit_12_3, fit_12_4, fit_12_5, fit_1_1, fit_1_3, fit_1_4, fit_1_5, fit_2_2, fit_3_1, fit_3_3, fit_3_4, fit_3_5, fit_4_1, fit_4_3, fit_4_4, fit_4_5, fit_5_5, fit_6_6, fit_7_7, fit_8_8, fit_9_9, L_0, L_1, L_2, L_3, L_4, L_5, L_6, L_7, L_8, L_9, L_10, L_11, L_12, L_13, L_14, L_15, L_16, L_17, L_18, L_19, L_20, L_21, L_22, L_23, L_24, L_25, L_26, L_27, L_28, L_29, L_30, L_31, L_32, L_33, L_34, L_35, L_36, L_37, L_38, L_39, L_40, L_48, L_49, L_50, L_63, L_72, L_100, L_143, L_144, L_200, L_576, L_1000, L_1022, L_1151, L_1152, L_1440, L_5000, L_10000, L_1000000, L_2147483647, J_0, J_1, J_2, J_3, J_4, J_5, J_6, J_7, J_8, J_9, J_10, J_11, J_12, J_13, J_14, J_15, J_16, J_17, J_18, J_19, J_20, J_21, J_22, J_23, J_24, J_25, J_26, J_27, J_28, J_29, J_30, J_31, J_32, J_33, J_34, J_35, J_36, J_37, J_38, J_39, J_40, J_48, J_49, J_50, J_63, J_72, J_100, J_143, J_144, J_200, J_576, J_1000, J_1022, J_1151, J_1152, J_1440, J_5000, J_10000, J_1000000, J_2147483647, N_1, N_1000000, N_1000001, N_1000002, N_1000003, N_1000010, nI_toInt, nI_add, nI_mul, nI_et, nI_ef, nI_lt_t, nI_lt_f, nI_le_t, nI_le_f, inR_t, inR_f, nI_mI, mI_nI, mI_lt, nI_lm, mI_le, nI_em, Int.cast_ofNat_Int, Nat.reduceBEq, or_true, true_or, or_false, false_or, Bool.true_and, Bool.and_true, Bool.false_and, Bool.and_false, Bool.or_true, Bool.true_or, Bool.or_false, Bool.false_or, beq_self_eq_true, not_false_eq_true, if_true, if_false, ite_true, ite_false, eq_self, and_true, true_and, and_false, false_and, not_true_eq_false, not_false_eq_true, reduceCtorEq, and_self, Nat.reduceLeDiff, Nat.reduceEqDiff, Nat.reduceLT, Nat.reduceSub, Int.reduceSub, Int.reduceLE, ne_eq, ↓reduceIte, Nat.reduceMul, Nat.reduceAdd, hC.t0, hC.t1, hC.n1, hC.t2, hC.n2, hC.t3, hC.t4, hC.n4, hC.t5, hC.t6, hC.n6, hC.t7, hC.n7, hC.t8, hC.n8, hC.t9, hC.n9, hC.t10, hC.n10, hC.t11, hC.n11, hC.t12, hC.t13, hC.n13, hC.t14, hC.n14, hC.t15, hC.n15, hC.t16, hC.n16, hC.t17, hC.n17, hC.t18, hC.n18, hC.t19, hC.n19, hC.t20, hC.t21, hC.n21, hC.t22, hC.n22, hC.t23, hC.n23, hC.t24, hC.n24, hC.t25, hC.n25, hC.t26, hC.n26, hC.t27, hC.n27, hC.t28, hC.n28, hC.t29, hC.n29, hC.t30, hC.n30, hC.t31, hC.n31, hC.t32, hC.n32, hC.t33, hC.n33, hC.f0_0, hC.f0_1, hC.f0_2, hC.f0_3, hC.f0_4, hC.f0_5, hC.f3_0, hC.f5_0, hC.f5_1, hC.f5_2, hC.f5_3, hC.f5_4, hC.f5_5, hC.f12_0, hC.f12_1, hC.f12_2, hC.f12_3, hC.f12_5, hC.f12_6, hC.f12_7, hC.f20_0, hC.f20_1, hC.f20_2, hC.f20_3, hC.f20_4, hC.f20_5, hC.f20_6, hC.f25_0, hC.f25_1, hC.f25_2, hC.f25_3, hC.f25_4, hC.f25_5]
        · rcases w4 x with q | ⟨q1, q2, q3, q4⟩
          · have q : ea1 x = if x = i then Nat.max (ea i) (L i / 4) else ea x := q
            by_cases z : x = i
            · rw [if_pos z] at q
              refine Or.inr ⟨by omega, by rw [z]; exact tp, by rw [z]; exact gl, ?_⟩
              rw [q, z]
              exact Nat.le_refl _
            · rw [if_neg z] at q
              exact Or.inl q
          · have q4 : ea1 x ≤ Nat.max (if x = i then Nat.max (ea i) (L i / 4) else ea x) (L x / 4) := q4
            refine Or.inr ⟨q1, q2, q3, ?_⟩
            by_cases z : x = i
            · rw [if_pos z] at q4
              rw [z] at q4 ⊢
              exact Nat.le_trans q4 (Nat.max_le.mpr ⟨Nat.le_refl _, Nat.le_max_right _ _⟩)
            · rw [if_neg z] at q4
              exact q4
theorem FS.top (fs : FS D L k o) {x : Nat} (hx : x < pdN D) (g : L x ≠ NO) : L x / 4 ≤ endsOf L k o := by
  obtain ⟨r, r1, rfl⟩ := fs.2.2.2.2.1 x hx g
  unfold endsOf
  rw [if_neg (by omega)]
  by_cases e : r = k - 1
  · rw [e]; exact Nat.le_refl _
  · have := fs.2.2.2.2.2.1 r (k - 1) (by omega) (by omega)
    omega
/-- what is said of ends stays right: a way is as long backwards -/
theorem Com.back {c x f : Nat} (hn : pdN D ≤ 144) (hT : ∀ c, c < pdN D → pdT D c ≤ 9) (hc : c < pdN D) (tc : 0 < pdT D c) (fs : FS (pd1 D c) L k o) (h : Com D x f) : L x / 4 ≤ f := by
  obtain ⟨Lx, kx, ox, a1, a2, a3⟩ := h
  have c0 : L c ≤ 4 * dr (pdT D c) + 0 := fs.2.2.2.2.2.2.1 0 (by show (0 : Nat) < 1; omega)
  have dle := dr_le (pdT D c)
  have n1 : L c ≠ NO := by unfold NO; omega
  obtain ⟨b1, b2⟩ := FS.back hn hT a1 fs (Lx c) c hc rfl (a2 c hc tc) n1
  have t := FS.top (D := pd1 D x) a1 (x := c) hc (a2 c hc tc)
  rw [a3]
  omega
theorem one_x {c : Nat} (hT : ∀ c, c < pdN D → pdT D c ≤ 9) (hn : pdN D ≤ 144) (hn1 : 1 ≤ pdN D) (hC : CK X C) (la : Laid X C D) (hc : c < pdN D) (tc : 0 < pdT D c) (fs : FS (pd1 D c) L k o) : ∃ C1, (∀ K : Prg Int32, cl (onT (X + 5) 2 (pX1_empty (X + 5))) (fun _ => cl (onT (X + 5) 2 (pX1_startAt (X + 5) (nI c) (nI 0))) fun _ => cl (onT (X + 5) 2 (pX1_flowOn (X + 5))) fun _ => K) C = K C1) ∧ OnI (fun a => a = X + 5 ∨ a = X + 8) C C1 ∧ (∀ j, j ≠ 7 → sI C1 (X + 5) j = sI C (X + 5) j) ∧ CL X C1 D (cutL (pdN D) L) := by
  have ld : LD X C D := ⟨la.1, la.2.1⟩
  obtain ⟨A, a1, a2, a3, a4, a5⟩ := empty_x hC ld hn
  have hA := a2.ck hC
  have laA : Laid X A D := by
    refine ⟨by rw [a5 6 (by omega)]; exact la.1, ?_⟩
    rw [a2.I (a := X + 6) (by omega), a2.I (a := X + 7) (by omega)]
    exact la.2
  have st := startC_x (j := 0) hA hn laA hc tc
  have on1 : OnI (fun a => a = X + 8) A (wI A (X + 8) c (nI (4 * dr (pdT D c) + 0))) := OnI.wI OnI.rf (by exact rfl)
  have dle := dr_le (pdT D c)
  have clB : CL X (wI A (X + 8) c (nI (4 * dr (pdT D c) + 0))) D (fun x => if x = c then 4 * dr (pdT D c) else NO) := ⟨fun x => by
    dsimp only
    split
    · unfold NO; omega
    · exact Nat.le_refl _, fun x hx => by
    dsimp only
    by_cases q : x = c
    · rw [if_pos q, q]
      simp -implicitDefEqProofs (maxSteps := 2000000) (disch := first | omega | (simp -implicitDefEqProofs only [wI_X, wJ_X, wF_X, nw_X]; first | done | omega)) only [ Nat.add_zero, wI_se, wI_ne, wJ_se, wJ_ne, wF_se, wF_ne, nw_Te, nw_Tn, nw_Ne, nw_Nn, nw_In, nw_Jn, nw_Fn, nw_X, nw_S, wI_row, wJ_row, wF_row, wIr_row, wJr_row, wIr_at, wJr_at, wI_T, wI_N, wI_F, wI_J, wI_X, wI_S, wJ_T, wJ_N, wJ_I, wJ_F, wJ_X, wJ_S, wF_T, wF_N, wF_I, wF_J, wF_X, wF_S, wIr_T, wIr_N, wIr_J, wIr_F, wIr_X, wIr_S, wJr_T, wJr_N, wJr_I, wJr_F, wJr_X, wJr_S]
    · rw [if_neg q]
      have := a3 x hx
      simp -implicitDefEqProofs (maxSteps := 2000000) (disch := first | omega | (simp -implicitDefEqProofs only [wI_X, wJ_X, wF_X, nw_X]; first | done | omega)) only [ wI_se, wI_ne, wJ_se, wJ_ne, wF_se, wF_ne, nw_Te, nw_Tn, nw_Ne, nw_Nn, nw_In, nw_Jn, nw_Fn, nw_X, nw_S, wI_row, wJ_row, wF_row, wIr_row, wJr_row, wIr_at, wJr_at, wI_T, wI_N, wI_F, wI_J, wI_X, wI_S, wJ_T, wJ_N, wJ_I, wJ_F, wJ_X, wJ_S, wF_T, wF_N, wF_I, wF_J, wF_X, wF_S, wIr_T, wIr_N, wIr_J, wIr_F, wIr_X, wIr_S, wJr_T, wJr_N, wJr_I, wJr_F, wJr_X, wJr_S]
      exact this⟩
  have fc := FS.cut (D := pd1 D c) (fun j _ => hc) fs
  have fl : Fl (pd1 D c) (cutL (pdN D) L) (fun x => if x = c then 4 * dr (pdT D c) else NO) 20003 := by
    refine ⟨clB.1, fun x hx q => ?_, fun x hx => ?_, fun j hj => ?_⟩
    · have q : (if x = c then 4 * dr (pdT D c) else NO) ≠ NO := q
      show (if x = c then 4 * dr (pdT D c) else NO) ≤ 20003
      by_cases z : x = c
      · rw [if_pos z]; omega
      · rw [if_neg z] at q; exact absurd rfl q
    · show cutL (pdN D) L x ≤ (if x = c then 4 * dr (pdT D c) else NO)
      by_cases z : x = c
      · rw [if_pos z, z]
        have : cutL (pdN D) L c ≤ 4 * dr (pdT D c) + 0 := fc.2.2.2.2.2.2.1 0 (by show (0 : Nat) < 1; omega)
        omega
      · rw [if_neg z]; exact fc.1 x hx
    · have hj : j < 1 := hj
      show (if c = c then 4 * dr (pdT D c) else NO) ≤ 4 * dr (pdT D c) + j
      rw [if_pos rfl]; omega
  have laB : Laid X (wI A (X + 8) c (nI (4 * dr (pdT D c) + 0))) (pd1 D c) := laA.on (on1.mono (fun a ha => by omega))
  obtain ⟨E, d1, d2, d3⟩ := flowOn_x (D := pd1 D c) fc hn hn1 hT (on1.ck hA) laB clB fl
  refine ⟨E, fun K => ?_, (a2.tr (on1.mono (fun a ha => Or.inr ha))).tr (d2.mono (fun a ha => Or.inr ha)), fun j hj => ?_, ⟨fun x => ?_, d3⟩⟩
  · have t1 := hC.t5
    have t2 := hA.t5
    have t3 := (on1.ck hA).t5
    simp -implicitDefEqProofs (maxSteps := 2000000) (disch := first | omega | decide) only [a1, st, d1, t1, t2, t3, ng_x, b01, ite_clB, clB_id, clB_ie, nar_0, nar_1, wI_se, wI_ne, wJ_se, wJ_ne, wF_se, wF_ne, nw_Te, nw_Tn, nw_Ne, nw_Nn, nw_In, nw_Jn, nw_Fn, nw_X, nw_S, nI_pre, ↓gI_x, ↓gF_x, ↓pI_x, ↓pF_x, ↓pZ_x, ↓ldI_x, ↓stI_x, ↓ldZ_x, ↓stZ_x, ↓ldJ_x, ↓stJ_x, ↓ldF_x, ↓stF_x, ↓ln_x, ↓nO_x, ↓nA_x, onT_x, or2_x, un_s, nu_s, nu_n, ↓lt_x, ↓rt_x, ↓clB_x, ↓rtZ_x, iO_s, iO_n, ↓cO_x, dv_x, rm_x, ↓fl_x, below_x, among_x, in_x, l_toInt, inB_x, uN_nI, ↓ite_S, clB_s, clB_n, wI_T, wI_N, wI_F, wI_J, wI_X, wI_S, wJ_T, wJ_N, wJ_I, wJ_F, wJ_X, wJ_S, wF_T, wF_N, wF_I, wF_J, wF_X, wF_S, wIr_T, wIr_N, wIr_J, wIr_F, wIr_X, wIr_S, wJr_T, wJr_N, wJr_I, wJr_F, wJr_X, wJr_S, fit_10_10, fit_11_11, fit_12_1, fit_12_3, fit_12_4, fit_12_5, fit_1_1, fit_1_3, fit_1_4, fit_1_5, fit_2_2, fit_3_1, fit_3_3, fit_3_4, fit_3_5, fit_4_1, fit_4_3, fit_4_4, fit_4_5, fit_5_5, fit_6_6, fit_7_7, fit_8_8, fit_9_9, L_0, L_1, L_2, L_3, L_4, L_5, L_6, L_7, L_8, L_9, L_10, L_11, L_12, L_13, L_14, L_15, L_16, L_17, L_18, L_19, L_20, L_21, L_22, L_23, L_24, L_25, L_26, L_27, L_28, L_29, L_30, L_31, L_32, L_33, L_34, L_35, L_36, L_37, L_38, L_39, L_40, L_48, L_49, L_50, L_63, L_72, L_100, L_143, L_144, L_200, L_576, L_1000, L_1022, L_1151, L_1152, L_1440, L_5000, L_10000, L_1000000, L_2147483647, J_0, J_1, J_2, J_3, J_4, J_5, J_6, J_7, J_8, J_9, J_10, J_11, J_12, J_13, J_14, J_15, J_16, J_17, J_18, J_19, J_20, J_21, J_22, J_23, J_24, J_25, J_26, J_27, J_28, J_29, J_30, J_31, J_32, J_33, J_34, J_35, J_36, J_37, J_38, J_39, J_40, J_48, J_49, J_50, J_63, J_72, J_100, J_143, J_144, J_200, J_576, J_1000, J_1022, J_1151, J_1152, J_1440, J_5000, J_10000, J_1000000, J_2147483647, N_1, N_1000000, N_1000001, N_1000002, N_1000003, N_1000010, nI_toInt, nI_add, nI_mul, nI_et, nI_ef, nI_lt_t, nI_lt_f, nI_le_t, nI_le_f, inR_t, inR_f, nI_mI, mI_nI, mI_lt, nI_lm, mI_le, nI_em, Int.cast_ofNat_Int, Nat.reduceBEq, or_true, true_or, or_false, false_or, Bool.true_and, Bool.and_true, Bool.false_and, Bool.and_false, Bool.or_true, Bool.true_or, Bool.or_false, Bool.false_or, beq_self_eq_true, not_false_eq_true, if_true, if_false, ite_true, ite_false, eq_self, and_true, true_and, and_false, false_and, not_true_eq_false, not_false_eq_true, reduceCtorEq, and_self, Nat.reduceLeDiff, Nat.reduceEqDiff, Nat.reduceLT, Nat.reduceSub, Int.reduceSub, Int.reduceLE, ne_eq, ↓reduceIte, Nat.reduceMul, Nat.reduceAdd]
  · rw [d2.I (a := X + 5) (by omega), on1.I (a := X + 5) (by omega)]
    exact a5 j hj
  · by_cases z : x < pdN D
    · exact fc.1 x z
    · unfold cutL; rw [if_neg z]; exact Nat.le_refl _
theorem FS.self {c : Nat} (fs : FS (pd1 D c) L k o) : L c ≠ NO := by
  have c0 : L c ≤ 4 * dr (pdT D c) + 0 := fs.2.2.2.2.2.2.1 0 (by show (0 : Nat) < 1; omega)
  have dle := dr_le (pdT D c)
  unfold NO
  omega
/-- a way is one backwards, too: where one cell can't reach all, none can -/
theorem Inc.all {i c : Nat} (hn : pdN D ≤ 144) (hT : ∀ c, c < pdN D → pdT D c ≤ 9) (ex : ∀ c, c < pdN D → 0 < pdT D c → ∃ L k o, FS (pd1 D c) L k o) (hi : i < pdN D) (ti : 0 < pdT D i) (h : Inc D i) (hc : c < pdN D) (tc : 0 < pdT D c) : Inc D c := by
  obtain ⟨Lc, kc, oc, fc⟩ := ex c hc tc
  refine Classical.byContradiction fun n => ?_
  have al : ∀ d, d < pdN D → 0 < pdT D d → Lc d ≠ NO := fun d d1 d2 d3 => n ⟨Lc, kc, oc, fc, d, d1, d2, d3⟩
  obtain ⟨Li, ki, oi, fi, x, x1, x2, x3⟩ := h
  obtain ⟨Lx, kx, ox, fx⟩ := ex x x1 x2
  have s1 := (FS.back hn hT fc fi (Lc i) i hi rfl (al i hi ti) fi.self).1
  have s2 := (FS.back hn hT fc fx (Lc x) x x1 rfl (al x x1 x2) fx.self).1
  exact (FS.back hn hT fx fi (Lx c) c hc rfl s2 s1).1 x3
/-- the best of the first i cells, as the class keeps it -/
theorem bestC_L (hT : ∀ c, c < pdN D → pdT D c ≤ 9) (hn : pdN D ≤ 144) (hn1 : 1 ≤ pdN D) (ex : ∀ c, c < pdN D → 0 < pdT D c → ∃ L k o, FS (pd1 D c) L k o) : ∀ (m i fuel e : Nat) (v : Int32) (C : St) (ea : Nat → Nat), CK X C → Laid X C D → EA X C D ea → (∀ x f, Com D x f → x < pdN D → ea x ≤ f) → Bst D i v e → ((v = mI 1000000 ∧ e = NO) ∨ (v ≠ mI 1000000 ∧ e ≤ 800000)) → i + m = pdN D → m < fuel → ∃ C1 v', pX1_bestGate_L45 (X + 5) (fun v => rt v) fuel v (nI e) (nI i) C = some (v', C1) ∧ BestS D v' ∧ OnI (fun a => X + 5 ≤ a ∧ a ≤ X + 11) C C1 := by
  intro m
  induction m with
  | zero =>
    intro i fuel e v C ea hC la hea hco bs hv hi hf
    obtain ⟨f, rfl⟩ : ∃ f, fuel = f + 1 := ⟨fuel - 1, by omega⟩
    have e6 := la.1
    have ei : i = pdN D := by omega
    have bs : Bst D (pdN D) v e := ei ▸ bs
    refine ⟨C, v, ?_, bs.fin, OnI.rf⟩
    simp -implicitDefEqProofs (maxSteps := 2000000) (disch := first | omega | exact hgp | exact RK.mv hR rfl rfl rfl | exact CK.mv hC rfl rfl rfl | decide | (simp -implicitDefEqProofs only [wI_X, wJ_X, wF_X, nw_X]; first | done | omega)) only [pX1_bestGate_L45, e6, ng_x, b01, ite_clB, clB_id, clB_ie, nar_0, nar_1, wI_se, wI_ne, wJ_se, wJ_ne, wF_se, wF_ne, nw_Te, nw_Tn, nw_Ne, nw_Nn, nw_In, nw_Jn, nw_Fn, nw_X, nw_S, nI_pre, ↓gI_x, ↓gF_x, ↓pI_x, ↓pF_x, ↓pZ_x, ↓ldI_x, ↓stI_x, ↓ldZ_x, ↓stZ_x, ↓ldJ_x, ↓stJ_x, ↓ldF_x, ↓stF_x, ↓ln_x, ↓nO_x, ↓nA_x, onT_x, or2_x, un_s, nu_s, nu_n, ↓lt_x, ↓rt_x, ↓clB_x, ↓rtZ_x, iO_s, iO_n, ↓cO_x, dv_x, rm_x, ↓fl_x, below_x, among_x, in_x, l_toInt, inB_x, uN_nI, ↓ite_S, clB_s, clB_n, wI_T, wI_N, wI_F, wI_J, wI_X, wI_S, wJ_T, wJ_N, wJ_I, wJ_F, wJ_X, wJ_S, wF_T, wF_N, wF_I, wF_J, wF_X, wF_S, wIr_T, wIr_N, wIr_J, wIr_F, wIr_X, wIr_S, wJr_T, wJr_N, wJr_I, wJr_F, wJr_X, wJr_S, fit_10_10, fit_11_11, fit_12_1, fit_12_3, fit_12_4, fit_12_5, fit_1_1, fit_1_3, fit_1_4, fit_1_5, fit_2_2, fit_3_1, fit_3_3, fit_3_4, fit_3_5, fit_4_1, fit_4_3, fit_4_4, fit_4_5, fit_5_5, fit_6_6, fit_7_7, fit_8_8, fit_9_9, L_0, L_1, L_2, L_3, L_4, L_5, L_6, L_7, L_8, L_9, L_10, L_11, L_12, L_13, L_14, L_15, L_16, L_17, L_18, L_19, L_20, L_21, L_22, L_23, L_24, L_25, L_26, L_27, L_28, L_29, L_30, L_31, L_32, L_33, L_34, L_35, L_36, L_37, L_38, L_39, L_40, L_48, L_49, L_50, L_63, L_72, L_100, L_143, L_144, L_200, L_576, L_1000, L_1022, L_1151, L_1152, L_1440, L_5000, L_10000, L_1000000, L_2147483647, J_0, J_1, J_2, J_3, J_4, J_5, J_6, J_7, J_8, J_9, J_10, J_11, J_12, J_13, J_14, J_15, J_16, J_17, J_18, J_19, J_20, J_21, J_22, J_23, J_24, J_25, J_26, J_27, J_28, J_29, J_30, J_31, J_32, J_33, J_34, J_35, J_36, J_37, J_38, J_39, J_40, J_48, J_49, J_50, J_63, J_72, J_100, J_143, J_144, J_200, J_576, J_1000, J_1022, J_1151, J_1152, J_1440, J_5000, J_10000, J_1000000, J_2147483647, N_1, N_1000000, N_1000001, N_1000002, N_1000003, N_1000010, nI_toInt, nI_add, nI_mul, nI_et, nI_ef, nI_lt_t, nI_lt_f, nI_le_t, nI_le_f, inR_t, inR_f, nI_mI, mI_nI, mI_lt, nI_lm, mI_le, nI_em, Int.cast_ofNat_Int, Nat.reduceBEq, or_true, true_or, or_false, false_or, Bool.true_and, Bool.and_true, Bool.false_and, Bool.and_false, Bool.or_true, Bool.true_or, Bool.or_false, Bool.false_or, beq_self_eq_true, not_false_eq_true, if_true, if_false, ite_true, ite_false, eq_self, and_true, true_and, and_false, false_and, not_true_eq_false, not_false_eq_true, reduceCtorEq, and_self, Nat.reduceLeDiff, Nat.reduceEqDiff, Nat.reduceLT, Nat.reduceSub, Int.reduceSub, Int.reduceLE, ne_eq, ↓reduceIte, Nat.reduceMul, Nat.reduceAdd, hC.t0, hC.t1, hC.n1, hC.t2, hC.n2, hC.t3, hC.t4, hC.n4, hC.t5, hC.t6, hC.n6, hC.t7, hC.n7, hC.t8, hC.n8, hC.t9, hC.n9, hC.t10, hC.n10, hC.t11, hC.n11, hC.t12, hC.t13, hC.n13, hC.t14, hC.n14, hC.t15, hC.n15, hC.t16, hC.n16, hC.t17, hC.n17, hC.t18, hC.n18, hC.t19, hC.n19, hC.t20, hC.t21, hC.n21, hC.t22, hC.n22, hC.t23, hC.n23, hC.t24, hC.n24, hC.t25, hC.n25, hC.t26, hC.n26, hC.t27, hC.n27, hC.t28, hC.n28, hC.t29, hC.n29, hC.t30, hC.n30, hC.t31, hC.n31, hC.t32, hC.n32, hC.t33, hC.n33, hC.f0_0, hC.f0_1, hC.f0_2, hC.f0_3, hC.f0_4, hC.f0_5, hC.f3_0, hC.f5_0, hC.f5_1, hC.f5_2, hC.f5_3, hC.f5_4, hC.f5_5, hC.f12_0, hC.f12_1, hC.f12_2, hC.f12_3, hC.f12_5, hC.f12_6, hC.f12_7, hC.f20_0, hC.f20_1, hC.f20_2, hC.f20_3, hC.f20_4, hC.f20_5, hC.f20_6, hC.f25_0, hC.f25_1, hC.f25_2, hC.f25_3, hC.f25_4, hC.f25_5]
  | succ m ih =>
    intro i fuel e v C ea hC la hea hco bs hv hi hf
    obtain ⟨f, rfl⟩ : ∃ f, fuel = f + 1 := ⟨fuel - 1, by omega⟩
    have e6 := la.1
    have hc : i < pdN D := by omega
    have dg := la.2.1 i hc
    have eb : e ≤ 2147483647 := by
      rcases hv with q | q
      · have := q.2; unfold NO at this; omega
      · omega
    by_cases t0 : pdT D i = 0
    · rw [if_pos t0] at dg
      obtain ⟨C1, v', w1, w2⟩ := ih (i + 1) f e v C ea hC la hea hco (bs.skip (fun q => by omega)) hv (by omega) (by omega)
      refine ⟨C1, v', Eq.trans ?_ w1, w2⟩
      simp -implicitDefEqProofs (maxSteps := 2000000) (disch := first | omega | exact hgp | exact RK.mv hR rfl rfl rfl | exact CK.mv hC rfl rfl rfl | decide | (simp -implicitDefEqProofs only [wI_X, wJ_X, wF_X, nw_X]; first | done | omega)) only [pX1_bestGate_L45, e6, dg, ng_x, b01, ite_clB, clB_id, clB_ie, nar_0, nar_1, wI_se, wI_ne, wJ_se, wJ_ne, wF_se, wF_ne, nw_Te, nw_Tn, nw_Ne, nw_Nn, nw_In, nw_Jn, nw_Fn, nw_X, nw_S, nI_pre, ↓gI_x, ↓gF_x, ↓pI_x, ↓pF_x, ↓pZ_x, ↓ldI_x, ↓stI_x, ↓ldZ_x, ↓stZ_x, ↓ldJ_x, ↓stJ_x, ↓ldF_x, ↓stF_x, ↓ln_x, ↓nO_x, ↓nA_x, onT_x, or2_x, un_s, nu_s, nu_n, ↓lt_x, ↓rt_x, ↓clB_x, ↓rtZ_x, iO_s, iO_n, ↓cO_x, dv_x, rm_x, ↓fl_x, below_x, among_x, in_x, l_toInt, inB_x, uN_nI, ↓ite_S, clB_s, clB_n, wI_T, wI_N, wI_F, wI_J, wI_X, wI_S, wJ_T, wJ_N, wJ_I, wJ_F, wJ_X, wJ_S, wF_T, wF_N, wF_I, wF_J, wF_X, wF_S, wIr_T, wIr_N, wIr_J, wIr_F, wIr_X, wIr_S, wJr_T, wJr_N, wJr_I, wJr_F, wJr_X, wJr_S, fit_10_10, fit_11_11, fit_12_1, fit_12_3, fit_12_4, fit_12_5, fit_1_1, fit_1_3, fit_1_4, fit_1_5, fit_2_2, fit_3_1, fit_3_3, fit_3_4, fit_3_5, fit_4_1, fit_4_3, fit_4_4, fit_4_5, fit_5_5, fit_6_6, fit_7_7, fit_8_8, fit_9_9, L_0, L_1, L_2, L_3, L_4, L_5, L_6, L_7, L_8, L_9, L_10, L_11, L_12, L_13, L_14, L_15, L_16, L_17, L_18, L_19, L_20, L_21, L_22, L_23, L_24, L_25, L_26, L_27, L_28, L_29, L_30, L_31, L_32, L_33, L_34, L_35, L_36, L_37, L_38, L_39, L_40, L_48, L_49, L_50, L_63, L_72, L_100, L_143, L_144, L_200, L_576, L_1000, L_1022, L_1151, L_1152, L_1440, L_5000, L_10000, L_1000000, L_2147483647, J_0, J_1, J_2, J_3, J_4, J_5, J_6, J_7, J_8, J_9, J_10, J_11, J_12, J_13, J_14, J_15, J_16, J_17, J_18, J_19, J_20, J_21, J_22, J_23, J_24, J_25, J_26, J_27, J_28, J_29, J_30, J_31, J_32, J_33, J_34, J_35, J_36, J_37, J_38, J_39, J_40, J_48, J_49, J_50, J_63, J_72, J_100, J_143, J_144, J_200, J_576, J_1000, J_1022, J_1151, J_1152, J_1440, J_5000, J_10000, J_1000000, J_2147483647, N_1, N_1000000, N_1000001, N_1000002, N_1000003, N_1000010, nI_toInt, nI_add, nI_mul, nI_et, nI_ef, nI_lt_t, nI_lt_f, nI_le_t, nI_le_f, inR_t, inR_f, nI_mI, mI_nI, mI_lt, nI_lm, mI_le, nI_em, Int.cast_ofNat_Int, Nat.reduceBEq, or_true, true_or, or_false, false_or, Bool.true_and, Bool.and_true, Bool.false_and, Bool.and_false, Bool.or_true, Bool.true_or, Bool.or_false, Bool.false_or, beq_self_eq_true, not_false_eq_true, if_true, if_false, ite_true, ite_false, eq_self, and_true, true_and, and_false, false_and, not_true_eq_false, not_false_eq_true, reduceCtorEq, and_self, Nat.reduceLeDiff, Nat.reduceEqDiff, Nat.reduceLT, Nat.reduceSub, Int.reduceSub, Int.reduceLE, ne_eq, ↓reduceIte, Nat.reduceMul, Nat.reduceAdd, hC.t0, hC.t1, hC.n1, hC.t2, hC.n2, hC.t3, hC.t4, hC.n4, hC.t5, hC.t6, hC.n6, hC.t7, hC.n7, hC.t8, hC.n8, hC.t9, hC.n9, hC.t10, hC.n10, hC.t11, hC.n11, hC.t12, hC.t13, hC.n13, hC.t14, hC.n14, hC.t15, hC.n15, hC.t16, hC.n16, hC.t17, hC.n17, hC.t18, hC.n18, hC.t19, hC.n19, hC.t20, hC.t21, hC.n21, hC.t22, hC.n22, hC.t23, hC.n23, hC.t24, hC.n24, hC.t25, hC.n25, hC.t26, hC.n26, hC.t27, hC.n27, hC.t28, hC.n28, hC.t29, hC.n29, hC.t30, hC.n30, hC.t31, hC.n31, hC.t32, hC.n32, hC.t33, hC.n33, hC.f0_0, hC.f0_1, hC.f0_2, hC.f0_3, hC.f0_4, hC.f0_5, hC.f3_0, hC.f5_0, hC.f5_1, hC.f5_2, hC.f5_3, hC.f5_4, hC.f5_5, hC.f12_0, hC.f12_1, hC.f12_2, hC.f12_3, hC.f12_5, hC.f12_6, hC.f12_7, hC.f20_0, hC.f20_1, hC.f20_2, hC.f20_3, hC.f20_4, hC.f20_5, hC.f20_6, hC.f25_0, hC.f25_1, hC.f25_2, hC.f25_3, hC.f25_4, hC.f25_5]
    · rw [if_neg t0] at dg
      have tp : 0 < pdT D i := by omega
      have dp := dr_pos tp (hT i hc)
      have dle := dr_le (pdT D i)
      obtain ⟨a1, a2⟩ := hea i hc
      obtain ⟨L, k, o, fs⟩ := ex i hc tp
      have fc := FS.cut (D := pd1 D i) (fun j _ => hc) fs
      have incorcom : Inc D i ∨ Com D i (endsOf (cutL (pdN D) L) k o) := by
        by_cases al : ∀ d, d < pdN D → 0 < pdT D d → cutL (pdN D) L d ≠ NO
        · exact Or.inr (Com.of fc al)
        · exact Or.inl (Classical.byContradiction fun n => al (fun d d1 d2 d3 => n ⟨_, k, o, fc, d, d1, d2, d3⟩))
      by_cases le : e ≤ ea i
      · obtain ⟨C1, v', w1, w2⟩ := ih (i + 1) f e v C ea hC la hea hco (bs.skip (fun _ => by
          rcases incorcom with q | q
          · exact Or.inl q
          · refine Or.inr ⟨?_, _, q, Nat.le_trans le (hco i _ q hc)⟩
            rcases hv with z | z
            · have := z.2; unfold NO at this; omega
            · exact z.1)) hv (by omega) (by omega)
        refine ⟨C1, v', Eq.trans ?_ w1, w2⟩
        simp -implicitDefEqProofs (maxSteps := 2000000) (disch := first | omega | exact hgp | exact RK.mv hR rfl rfl rfl | exact CK.mv hC rfl rfl rfl | decide | (simp -implicitDefEqProofs only [wI_X, wJ_X, wF_X, nw_X]; first | done | omega)) only [pX1_bestGate_L45, e6, dg, a1, ng_x, b01, ite_clB, clB_id, clB_ie, nar_0, nar_1, wI_se, wI_ne, wJ_se, wJ_ne, wF_se, wF_ne, nw_Te, nw_Tn, nw_Ne, nw_Nn, nw_In, nw_Jn, nw_Fn, nw_X, nw_S, nI_pre, ↓gI_x, ↓gF_x, ↓pI_x, ↓pF_x, ↓pZ_x, ↓ldI_x, ↓stI_x, ↓ldZ_x, ↓stZ_x, ↓ldJ_x, ↓stJ_x, ↓ldF_x, ↓stF_x, ↓ln_x, ↓nO_x, ↓nA_x, onT_x, or2_x, un_s, nu_s, nu_n, ↓lt_x, ↓rt_x, ↓clB_x, ↓rtZ_x, iO_s, iO_n, ↓cO_x, dv_x, rm_x, ↓fl_x, below_x, among_x, in_x, l_toInt, inB_x, uN_nI, ↓ite_S, clB_s, clB_n, wI_T, wI_N, wI_F, wI_J, wI_X, wI_S, wJ_T, wJ_N, wJ_I, wJ_F, wJ_X, wJ_S, wF_T, wF_N, wF_I, wF_J, wF_X, wF_S, wIr_T, wIr_N, wIr_J, wIr_F, wIr_X, wIr_S, wJr_T, wJr_N, wJr_I, wJr_F, wJr_X, wJr_S, fit_10_10, fit_11_11, fit_12_1, fit_12_3, fit_12_4, fit_12_5, fit_1_1, fit_1_3, fit_1_4, fit_1_5, fit_2_2, fit_3_1, fit_3_3, fit_3_4, fit_3_5, fit_4_1, fit_4_3, fit_4_4, fit_4_5, fit_5_5, fit_6_6, fit_7_7, fit_8_8, fit_9_9, L_0, L_1, L_2, L_3, L_4, L_5, L_6, L_7, L_8, L_9, L_10, L_11, L_12, L_13, L_14, L_15, L_16, L_17, L_18, L_19, L_20, L_21, L_22, L_23, L_24, L_25, L_26, L_27, L_28, L_29, L_30, L_31, L_32, L_33, L_34, L_35, L_36, L_37, L_38, L_39, L_40, L_48, L_49, L_50, L_63, L_72, L_100, L_143, L_144, L_200, L_576, L_1000, L_1022, L_1151, L_1152, L_1440, L_5000, L_10000, L_1000000, L_2147483647, J_0, J_1, J_2, J_3, J_4, J_5, J_6, J_7, J_8, J_9, J_10, J_11, J_12, J_13, J_14, J_15, J_16, J_17, J_18, J_19, J_20, J_21, J_22, J_23, J_24, J_25, J_26, J_27, J_28, J_29, J_30, J_31, J_32, J_33, J_34, J_35, J_36, J_37, J_38, J_39, J_40, J_48, J_49, J_50, J_63, J_72, J_100, J_143, J_144, J_200, J_576, J_1000, J_1022, J_1151, J_1152, J_1440, J_5000, J_10000, J_1000000, J_2147483647, N_1, N_1000000, N_1000001, N_1000002, N_1000003, N_1000010, nI_toInt, nI_add, nI_mul, nI_et, nI_ef, nI_lt_t, nI_lt_f, nI_le_t, nI_le_f, inR_t, inR_f, nI_mI, mI_nI, mI_lt, nI_lm, mI_le, nI_em, Int.cast_ofNat_Int, Nat.reduceBEq, or_true, true_or, or_false, false_or, Bool.true_and, Bool.and_true, Bool.false_and, Bool.and_false, Bool.or_true, Bool.true_or, Bool.or_false, Bool.false_or, beq_self_eq_true, not_false_eq_true, if_true, if_false, ite_true, ite_false, eq_self, and_true, true_and, and_false, false_and, not_true_eq_false, not_false_eq_true, reduceCtorEq, and_self, Nat.reduceLeDiff, Nat.reduceEqDiff, Nat.reduceLT, Nat.reduceSub, Int.reduceSub, Int.reduceLE, ne_eq, ↓reduceIte, Nat.reduceMul, Nat.reduceAdd, hC.t0, hC.t1, hC.n1, hC.t2, hC.n2, hC.t3, hC.t4, hC.n4, hC.t5, hC.t6, hC.n6, hC.t7, hC.n7, hC.t8, hC.n8, hC.t9, hC.n9, hC.t10, hC.n10, hC.t11, hC.n11, hC.t12, hC.t13, hC.n13, hC.t14, hC.n14, hC.t15, hC.n15, hC.t16, hC.n16, hC.t17, hC.n17, hC.t18, hC.n18, hC.t19, hC.n19, hC.t20, hC.t21, hC.n21, hC.t22, hC.n22, hC.t23, hC.n23, hC.t24, hC.n24, hC.t25, hC.n25, hC.t26, hC.n26, hC.t27, hC.n27, hC.t28, hC.n28, hC.t29, hC.n29, hC.t30, hC.n30, hC.t31, hC.n31, hC.t32, hC.n32, hC.t33, hC.n33, hC.f0_0, hC.f0_1, hC.f0_2, hC.f0_3, hC.f0_4, hC.f0_5, hC.f3_0, hC.f5_0, hC.f5_1, hC.f5_2, hC.f5_3, hC.f5_4, hC.f5_5, hC.f12_0, hC.f12_1, hC.f12_2, hC.f12_3, hC.f12_5, hC.f12_6, hC.f12_7, hC.f20_0, hC.f20_1, hC.f20_2, hC.f20_3, hC.f20_4, hC.f20_5, hC.f20_6, hC.f25_0, hC.f25_1, hC.f25_2, hC.f25_3, hC.f25_4, hC.f25_5]
      · obtain ⟨A, b1, b2, b3, b4⟩ := one_x hT hn hn1 hC la hc tp fs
        have hA := b2.ck hC
        have laA : Laid X A D := by
          refine ⟨by rw [b3 6 (by omega)]; exact la.1, ?_⟩
          rw [b2.I (a := X + 6) (by omega), b2.I (a := X + 7) (by omega)]
          exact la.2
        have heA : EA X A D ea := by
          unfold EA
          rw [b2.I (a := X + 11) (by omega)]
          exact hea
        obtain ⟨B, ea1, u, d1, d2, d3, d4, d5⟩ := trial_L (X := X) (D := D) hn hT (fun c hc' g => FS.bnd (D := pd1 D i) hT (by show (1 : Nat) ≤ 4; omega) hn fc hc' g) (pdN D) 0 FL 0 A ea hA laA b4 heA (by omega) (fun x hx => by omega) (Or.inl rfl) (by omega) (by unfold FL; omega)
        have hB := d2.ck hA
        have laB := laA.on (d2.mono (fun a ha => by omega))
        have on2 : OnI (fun a => X + 5 ≤ a ∧ a ≤ X + 11) C B := (b2.mono (fun a ha => by omega)).tr (d2.mono (fun a ha => by omega))
        have hco1 : ∀ x g, Com D x g → x < pdN D → ea1 x ≤ g := fun x g cm hx => by
          have z1 := hco x g cm hx
          rcases d4 x with q | ⟨q1, q2, q3, q4⟩
          · omega
          · have z2 := Com.back hn hT hc tp fc cm
            exact Nat.le_trans q4 (Nat.max_le.mpr ⟨z1, z2⟩)
        have tA := hA.t5
        have run : ∀ K, pX1_bestGate_L45 (X + 5) K (f + 1) v (nI e) (nI i) C = (if nI u = nI 2147483647 then some (mI 1000000, B) else if nI e ≤ nI u then pX1_bestGate_L45 (X + 5) K f v (nI e) (nI (i + 1)) B else pX1_bestGate_L45 (X + 5) K f (nI i) (nI u) (nI (i + 1)) B) := fun K => by
          have go : pX1_bestGate_L45 (X + 5) K (f + 1) v (nI e) (nI i) C = (cl (onT (X + 5) 2 (pX1_empty (X + 5))) (fun _ => cl (onT (X + 5) 2 (pX1_startAt (X + 5) (nI i) (nI 0))) fun _ => cl (onT (X + 5) 2 (pX1_flowOn (X + 5))) fun _ => cl (onT (X + 5) 2 (pX1_endsOfTrial (X + 5))) fun v120 => (if v120 = nI 2147483647 then rt (mI 1000000) else if nI e ≤ v120 then pX1_bestGate_L45 (X + 5) K f v (nI e) (nI (i + 1)) else pX1_bestGate_L45 (X + 5) K f (nI i) v120 (nI (i + 1)))) C) := by
            simp -implicitDefEqProofs (maxSteps := 2000000) (disch := first | omega | exact hgp | exact RK.mv hR rfl rfl rfl | exact CK.mv hC rfl rfl rfl | decide | (simp -implicitDefEqProofs only [wI_X, wJ_X, wF_X, nw_X]; first | done | omega)) only [pX1_bestGate_L45, e6, dg, a1, ng_x, b01, ite_clB, clB_id, clB_ie, nar_0, nar_1, wI_se, wI_ne, wJ_se, wJ_ne, wF_se, wF_ne, nw_Te, nw_Tn, nw_Ne, nw_Nn, nw_In, nw_Jn, nw_Fn, nw_X, nw_S, nI_pre, ↓gI_x, ↓gF_x, ↓pI_x, ↓pF_x, ↓pZ_x, ↓ldI_x, ↓stI_x, ↓ldZ_x, ↓stZ_x, ↓ldJ_x, ↓stJ_x, ↓ldF_x, ↓stF_x, ↓ln_x, ↓nO_x, ↓nA_x, onT_x, or2_x, un_s, nu_s, nu_n, ↓lt_x, ↓rt_x, ↓clB_x, ↓rtZ_x, iO_s, iO_n, ↓cO_x, dv_x, rm_x, ↓fl_x, below_x, among_x, in_x, l_toInt, inB_x, uN_nI, ↓ite_S, clB_s, clB_n, wI_T, wI_N, wI_F, wI_J, wI_X, wI_S, wJ_T, wJ_N, wJ_I, wJ_F, wJ_X, wJ_S, wF_T, wF_N, wF_I, wF_J, wF_X, wF_S, wIr_T, wIr_N, wIr_J, wIr_F, wIr_X, wIr_S, wJr_T, wJr_N, wJr_I, wJr_F, wJr_X, wJr_S, fit_10_10, fit_11_11, fit_12_1, fit_12_3, fit_12_4, fit_12_5, fit_1_1, fit_1_3, fit_1_4, fit_1_5, fit_2_2, fit_3_1, fit_3_3, fit_3_4, fit_3_5, fit_4_1, fit_4_3, fit_4_4, fit_4_5, fit_5_5, fit_6_6, fit_7_7, fit_8_8, fit_9_9, L_0, L_1, L_2, L_3, L_4, L_5, L_6, L_7, L_8, L_9, L_10, L_11, L_12, L_13, L_14, L_15, L_16, L_17, L_18, L_19, L_20, L_21, L_22, L_23, L_24, L_25, L_26, L_27, L_28, L_29, L_30, L_31, L_32, L_33, L_34, L_35, L_36, L_37, L_38, L_39, L_40, L_48, L_49, L_50, L_63, L_72, L_100, L_143, L_144, L_200, L_576, L_1000, L_1022, L_1151, L_1152, L_1440, L_5000, L_10000, L_1000000, L_2147483647, J_0, J_1, J_2, J_3, J_4, J_5, J_6, J_7, J_8, J_9, J_10, J_11, J_12, J_13, J_14, J_15, J_16, J_17, J_18, J_19, J_20, J_21, J_22, J_23, J_24, J_25, J_26, J_27, J_28, J_29, J_30, J_31, J_32, J_33, J_34, J_35, J_36, J_37, J_38, J_39, J_40, J_48, J_49, J_50, J_63, J_72, J_100, J_143, J_144, J_200, J_576, J_1000, J_1022, J_1151, J_1152, J_1440, J_5000, J_10000, J_1000000, J_2147483647, N_1, N_1000000, N_1000001, N_1000002, N_1000003, N_1000010, nI_toInt, nI_add, nI_mul, nI_et, nI_ef, nI_lt_t, nI_lt_f, nI_le_t, nI_le_f, inR_t, inR_f, nI_mI, mI_nI, mI_lt, nI_lm, mI_le, nI_em, Int.cast_ofNat_Int, Nat.reduceBEq, or_true, true_or, or_false, false_or, Bool.true_and, Bool.and_true, Bool.false_and, Bool.and_false, Bool.or_true, Bool.true_or, Bool.or_false, Bool.false_or, beq_self_eq_true, not_false_eq_true, if_true, if_false, ite_true, ite_false, eq_self, and_true, true_and, and_false, false_and, not_true_eq_false, not_false_eq_true, reduceCtorEq, and_self, Nat.reduceLeDiff, Nat.reduceEqDiff, Nat.reduceLT, Nat.reduceSub, Int.reduceSub, Int.reduceLE, ne_eq, ↓reduceIte, Nat.reduceMul, Nat.reduceAdd, hC.t0, hC.t1, hC.n1, hC.t2, hC.n2, hC.t3, hC.t4, hC.n4, hC.t5, hC.t6, hC.n6, hC.t7, hC.n7, hC.t8, hC.n8, hC.t9, hC.n9, hC.t10, hC.n10, hC.t11, hC.n11, hC.t12, hC.t13, hC.n13, hC.t14, hC.n14, hC.t15, hC.n15, hC.t16, hC.n16, hC.t17, hC.n17, hC.t18, hC.n18, hC.t19, hC.n19, hC.t20, hC.t21, hC.n21, hC.t22, hC.n22, hC.t23, hC.n23, hC.t24, hC.n24, hC.t25, hC.n25, hC.t26, hC.n26, hC.t27, hC.n27, hC.t28, hC.n28, hC.t29, hC.n29, hC.t30, hC.n30, hC.t31, hC.n31, hC.t32, hC.n32, hC.t33, hC.n33, hC.f0_0, hC.f0_1, hC.f0_2, hC.f0_3, hC.f0_4, hC.f0_5, hC.f3_0, hC.f5_0, hC.f5_1, hC.f5_2, hC.f5_3, hC.f5_4, hC.f5_5, hC.f12_0, hC.f12_1, hC.f12_2, hC.f12_3, hC.f12_5, hC.f12_6, hC.f12_7, hC.f20_0, hC.f20_1, hC.f20_2, hC.f20_3, hC.f20_4, hC.f20_5, hC.f20_6, hC.f25_0, hC.f25_1, hC.f25_2, hC.f25_3, hC.f25_4, hC.f25_5]
          rw [go]
          refine (b1 _).trans ?_
          have d1 : pX1_endsOfTrial_L4 (X + 5) (fun v => rt v) FL (nI 0) (nI 0) A = some (nI u, B) := d1
          simp -implicitDefEqProofs (maxSteps := 2000000) (disch := first | omega | decide) only [pX1_endsOfTrial, tA, d1, ng_x, b01, ite_clB, clB_id, clB_ie, nar_0, nar_1, wI_se, wI_ne, wJ_se, wJ_ne, wF_se, wF_ne, nw_Te, nw_Tn, nw_Ne, nw_Nn, nw_In, nw_Jn, nw_Fn, nw_X, nw_S, nI_pre, ↓gI_x, ↓gF_x, ↓pI_x, ↓pF_x, ↓pZ_x, ↓ldI_x, ↓stI_x, ↓ldZ_x, ↓stZ_x, ↓ldJ_x, ↓stJ_x, ↓ldF_x, ↓stF_x, ↓ln_x, ↓nO_x, ↓nA_x, onT_x, or2_x, un_s, nu_s, nu_n, ↓lt_x, ↓rt_x, ↓clB_x, ↓rtZ_x, iO_s, iO_n, ↓cO_x, dv_x, rm_x, ↓fl_x, below_x, among_x, in_x, l_toInt, inB_x, uN_nI, ↓ite_S, clB_s, clB_n, wI_T, wI_N, wI_F, wI_J, wI_X, wI_S, wJ_T, wJ_N, wJ_I, wJ_F, wJ_X, wJ_S, wF_T, wF_N, wF_I, wF_J, wF_X, wF_S, wIr_T, wIr_N, wIr_J, wIr_F, wIr_X, wIr_S, wJr_T, wJr_N, wJr_I, wJr_F, wJr_X, wJr_S, fit_10_10, fit_11_11, fit_12_1, fit_12_3, fit_12_4, fit_12_5, fit_1_1, fit_1_3, fit_1_4, fit_1_5, fit_2_2, fit_3_1, fit_3_3, fit_3_4, fit_3_5, fit_4_1, fit_4_3, fit_4_4, fit_4_5, fit_5_5, fit_6_6, fit_7_7, fit_8_8, fit_9_9, L_0, L_1, L_2, L_3, L_4, L_5, L_6, L_7, L_8, L_9, L_10, L_11, L_12, L_13, L_14, L_15, L_16, L_17, L_18, L_19, L_20, L_21, L_22, L_23, L_24, L_25, L_26, L_27, L_28, L_29, L_30, L_31, L_32, L_33, L_34, L_35, L_36, L_37, L_38, L_39, L_40, L_48, L_49, L_50, L_63, L_72, L_100, L_143, L_144, L_200, L_576, L_1000, L_1022, L_1151, L_1152, L_1440, L_5000, L_10000, L_1000000, L_2147483647, J_0, J_1, J_2, J_3, J_4, J_5, J_6, J_7, J_8, J_9, J_10, J_11, J_12, J_13, J_14, J_15, J_16, J_17, J_18, J_19, J_20, J_21, J_22, J_23, J_24, J_25, J_26, J_27, J_28, J_29, J_30, J_31, J_32, J_33, J_34, J_35, J_36, J_37, J_38, J_39, J_40, J_48, J_49, J_50, J_63, J_72, J_100, J_143, J_144, J_200, J_576, J_1000, J_1022, J_1151, J_1152, J_1440, J_5000, J_10000, J_1000000, J_2147483647, N_1, N_1000000, N_1000001, N_1000002, N_1000003, N_1000010, nI_toInt, nI_add, nI_mul, nI_et, nI_ef, nI_lt_t, nI_lt_f, nI_le_t, nI_le_f, inR_t, inR_f, nI_mI, mI_nI, mI_lt, nI_lm, mI_le, nI_em, Int.cast_ofNat_Int, Nat.reduceBEq, or_true, true_or, or_false, false_or, Bool.true_and, Bool.and_true, Bool.false_and, Bool.and_false, Bool.or_true, Bool.true_or, Bool.or_false, Bool.false_or, beq_self_eq_true, not_false_eq_true, if_true, if_false, ite_true, ite_false, eq_self, and_true, true_and, and_false, false_and, not_true_eq_false, not_false_eq_true, reduceCtorEq, and_self, Nat.reduceLeDiff, Nat.reduceEqDiff, Nat.reduceLT, Nat.reduceSub, Int.reduceSub, Int.reduceLE, ne_eq, ↓reduceIte, Nat.reduceMul, Nat.reduceAdd]
        rcases d5 with ⟨q1, x, x1, x2, x3⟩ | ⟨q1, q2, q3⟩
        · -- not all cells fill
          have inc : Inc D i := ⟨_, k, o, fc, x, x1, x2, x3⟩
          refine ⟨B, mI 1000000, (run _).trans (if_pos (show nI u = nI 2147483647 from congrArg nI q1)), Or.inl ⟨rfl, fun c hc' tc => Inc.all hn hT ex hc tp inc hc' tc⟩, on2⟩
        · have eu : u = endsOf (cutL (pdN D) L) k o := by
            have c0 := (q2 i hc tp).1
            obtain ⟨r, r1, r2⟩ := fc.2.2.2.2.1 i hc c0
            have k0 : k ≠ 0 := by omega
            obtain ⟨o1, o2⟩ := fc.2.2.2.1 (k - 1) (by omega)
            have le1 : endsOf (cutL (pdN D) L) k o ≤ u := by
              unfold endsOf
              rw [if_neg k0]
              exact (q2 _ o1 (fc.2.1 _ o1 o2)).2
            refine Nat.le_antisymm ?_ le1
            rcases q3 with z | ⟨x, x1, x2, x3⟩
            · omega
            · rw [← x3]
              exact FS.top (D := pd1 D i) fc x1 (q2 x x1 x2).1
          have cm : Com D i u := by
            rw [eu]
            exact Com.of fc (fun d d1 d2 => (q2 d d1 d2).1)
          have u1 : (nI u = nI 2147483647) = False := nI_ef (by omega) (by omega) (by omega)
          by_cases le2 : e ≤ u
          · have vn : v ≠ mI 1000000 := by
              rcases hv with z | z
              · have := z.2; unfold NO at this; omega
              · exact z.1
            obtain ⟨C1, v', w1, w2, w3⟩ := ih (i + 1) f e v B ea1 hB laB d3 hco1 (bs.skip (fun _ => Or.inr ⟨vn, _, cm, le2⟩)) hv (by omega) (by omega)
            refine ⟨C1, v', (run _).trans ?_, w2, on2.tr w3⟩
            rw [if_neg (of_eq_false u1), if_pos (nI_le le2 (by omega))]
            exact w1
          · obtain ⟨C1, v', w1, w2, w3⟩ := ih (i + 1) f u (nI i) B ea1 hB laB d3 hco1 (bs.take tp cm (Or.inr (by omega)) (by omega)) (Or.inr ⟨fun q => by
              rw [nI_mI (by omega) (by omega) (by omega)] at q
              exact q, q1⟩) (by omega) (by omega)
            refine ⟨C1, v', (run _).trans ?_, w2, on2.tr w3⟩
            rw [if_neg (of_eq_false u1), if_neg (by rw [nI_le_f (by omega) (by omega)]; exact id)]
            exact w1
theorem bestC_x (hC : CK X C) (pc : PC X C b D) (ex : ∀ c, c < pdN D → 0 < pdT D c → ∃ L k o, FS (pd1 D c) L k o) : ∃ C1 v, pX1_bestGate (X + 5) (some (b + 1)) C = some (v, C1) ∧ BestS D v ∧ FF X C C1 ∧ sF C1 (X + 5) 8 = none := by
  have hn := pc.n
  have hT : ∀ c, c < pdN D → pdT D c ≤ 9 := fun c hc => (pc.2.2.2.2.2.1 c hc).2
  have f0 : FF X C (wF C (X + 5) 8 none) := FF.wF
  have h0 := f0.ck hC
  obtain ⟨A, a1, a2, a3, a4, a5, a6⟩ := layOut_x h0 (f0.pc pc)
  have fA := f0.tr (FF.on a2 (fun a ha => by omega))
  have hA := fA.ck hC
  obtain ⟨B, b1, b2, b3, -⟩ := zero_L (D := D) hn (pdN D) 0 FL A hA a3.1 (by omega) (by unfold FL; omega)
  have fB := fA.tr (FF.on b2 (fun a ha => by omega))
  obtain ⟨E, v, d1, d2, d3⟩ := bestC_L hT hn pc.n1 ex (pdN D) 0 FL NO (mI 1000000) B (fun _ => 0) (b2.ck hA) (a3.on (b2.mono (fun a ha => by omega))) (fun c hc => ⟨b3 c (by omega) hc, Nat.zero_le _⟩) (fun x f _ _ => Nat.zero_le _) (Or.inl ⟨rfl, fun c hc => by omega⟩) (Or.inl ⟨rfl, rfl⟩) (by omega) (by unfold FL; omega)
  refine ⟨E, v, ?_, d2, fB.tr (FF.on d3 (fun a ha => ha)), ?_⟩
  · have t1 := h0.t5
    have d1 : pX1_bestGate_L45 (X + 5) (fun v => rt v) FL (mI 1000000) (nI 2147483647) (nI 0) B = some (v, E) := d1
    simp -implicitDefEqProofs (maxSteps := 2000000) (disch := first | omega | exact hgp | exact RK.mv hR rfl rfl rfl | exact CK.mv hC rfl rfl rfl | decide | (simp -implicitDefEqProofs only [wI_X, wJ_X, wF_X, nw_X]; first | done | omega)) only [pX1_bestGate, t1, a1, b1, d1, ng_x, b01, ite_clB, clB_id, clB_ie, nar_0, nar_1, wI_se, wI_ne, wJ_se, wJ_ne, wF_se, wF_ne, nw_Te, nw_Tn, nw_Ne, nw_Nn, nw_In, nw_Jn, nw_Fn, nw_X, nw_S, nI_pre, ↓gI_x, ↓gF_x, ↓pI_x, ↓pF_x, ↓pZ_x, ↓ldI_x, ↓stI_x, ↓ldZ_x, ↓stZ_x, ↓ldJ_x, ↓stJ_x, ↓ldF_x, ↓stF_x, ↓ln_x, ↓nO_x, ↓nA_x, onT_x, or2_x, un_s, nu_s, nu_n, ↓lt_x, ↓rt_x, ↓clB_x, ↓rtZ_x, iO_s, iO_n, ↓cO_x, dv_x, rm_x, ↓fl_x, below_x, among_x, in_x, l_toInt, inB_x, uN_nI, ↓ite_S, clB_s, clB_n, wI_T, wI_N, wI_F, wI_J, wI_X, wI_S, wJ_T, wJ_N, wJ_I, wJ_F, wJ_X, wJ_S, wF_T, wF_N, wF_I, wF_J, wF_X, wF_S, wIr_T, wIr_N, wIr_J, wIr_F, wIr_X, wIr_S, wJr_T, wJr_N, wJr_I, wJr_F, wJr_X, wJr_S, fit_10_10, fit_11_11, fit_12_1, fit_12_3, fit_12_4, fit_12_5, fit_1_1, fit_1_3, fit_1_4, fit_1_5, fit_2_2, fit_3_1, fit_3_3, fit_3_4, fit_3_5, fit_4_1, fit_4_3, fit_4_4, fit_4_5, fit_5_5, fit_6_6, fit_7_7, fit_8_8, fit_9_9, L_0, L_1, L_2, L_3, L_4, L_5, L_6, L_7, L_8, L_9, L_10, L_11, L_12, L_13, L_14, L_15, L_16, L_17, L_18, L_19, L_20, L_21, L_22, L_23, L_24, L_25, L_26, L_27, L_28, L_29, L_30, L_31, L_32, L_33, L_34, L_35, L_36, L_37, L_38, L_39, L_40, L_48, L_49, L_50, L_63, L_72, L_100, L_143, L_144, L_200, L_576, L_1000, L_1022, L_1151, L_1152, L_1440, L_5000, L_10000, L_1000000, L_2147483647, J_0, J_1, J_2, J_3, J_4, J_5, J_6, J_7, J_8, J_9, J_10, J_11, J_12, J_13, J_14, J_15, J_16, J_17, J_18, J_19, J_20, J_21, J_22, J_23, J_24, J_25, J_26, J_27, J_28, J_29, J_30, J_31, J_32, J_33, J_34, J_35, J_36, J_37, J_38, J_39, J_40, J_48, J_49, J_50, J_63, J_72, J_100, J_143, J_144, J_200, J_576, J_1000, J_1022, J_1151, J_1152, J_1440, J_5000, J_10000, J_1000000, J_2147483647, N_1, N_1000000, N_1000001, N_1000002, N_1000003, N_1000010, nI_toInt, nI_add, nI_mul, nI_et, nI_ef, nI_lt_t, nI_lt_f, nI_le_t, nI_le_f, inR_t, inR_f, nI_mI, mI_nI, mI_lt, nI_lm, mI_le, nI_em, Int.cast_ofNat_Int, Nat.reduceBEq, or_true, true_or, or_false, false_or, Bool.true_and, Bool.and_true, Bool.false_and, Bool.and_false, Bool.or_true, Bool.true_or, Bool.or_false, Bool.false_or, beq_self_eq_true, not_false_eq_true, if_true, if_false, ite_true, ite_false, eq_self, and_true, true_and, and_false, false_and, not_true_eq_false, not_false_eq_true, reduceCtorEq, and_self, Nat.reduceLeDiff, Nat.reduceEqDiff, Nat.reduceLT, Nat.reduceSub, Int.reduceSub, Int.reduceLE, ne_eq, ↓reduceIte, Nat.reduceMul, Nat.reduceAdd, hC.t0, hC.t1, hC.n1, hC.t2, hC.n2, hC.t3, hC.t4, hC.n4, hC.t5, hC.t6, hC.n6, hC.t7, hC.n7, hC.t8, hC.n8, hC.t9, hC.n9, hC.t10, hC.n10, hC.t11, hC.n11, hC.t12, hC.t13, hC.n13, hC.t14, hC.n14, hC.t15, hC.n15, hC.t16, hC.n16, hC.t17, hC.n17, hC.t18, hC.n18, hC.t19, hC.n19, hC.t20, hC.t21, hC.n21, hC.t22, hC.n22, hC.t23, hC.n23, hC.t24, hC.n24, hC.t25, hC.n25, hC.t26, hC.n26, hC.t27, hC.n27, hC.t28, hC.n28, hC.t29, hC.n29, hC.t30, hC.n30, hC.t31, hC.n31, hC.t32, hC.n32, hC.t33, hC.n33, hC.f0_0, hC.f0_1, hC.f0_2, hC.f0_3, hC.f0_4, hC.f0_5, hC.f3_0, hC.f5_0, hC.f5_1, hC.f5_2, hC.f5_3, hC.f5_4, hC.f5_5, hC.f12_0, hC.f12_1, hC.f12_2, hC.f12_3, hC.f12_5, hC.f12_6, hC.f12_7, hC.f20_0, hC.f20_1, hC.f20_2, hC.f20_3, hC.f20_4, hC.f20_5, hC.f20_6, hC.f25_0, hC.f25_1, hC.f25_2, hC.f25_3, hC.f25_4, hC.f25_5]
  · rw [d3.F, b2.F, a2.F]
    exact wF_se _ _ _ _
end Bc
