/-! (B) the class's fill: the whole of it; what it leaves as it was -/
section Fi
variable {X : Nat} {C C1 C2 R : St} {D : PD} {L : Nat → Nat} {b : Nat}
/-- only the flow's own rows, and which part it is of, change -/
def FF (X : Nat) (C C1 : St) : Prop := (sT C1 = sT C ∧ sN C1 = sN C ∧ sJ C1 = sJ C ∧ sX C1 = sX C ∧ sS C1 = sS C) ∧ (∀ a, ¬ (X + 5 ≤ a ∧ a ≤ X + 11) → sI C1 a = sI C a) ∧ (∀ a, a ≠ X + 5 → sF C1 a = sF C a) ∧ ∀ j, j ≠ 8 → sF C1 (X + 5) j = sF C (X + 5) j
theorem FF.rf : FF X C C := ⟨⟨rfl, rfl, rfl, rfl, rfl⟩, fun _ _ => rfl, fun _ _ => rfl, fun _ _ => rfl⟩
theorem FF.tr (h : FF X C C1) (g : FF X C1 C2) : FF X C C2 := ⟨⟨g.1.1.trans h.1.1, g.1.2.1.trans h.1.2.1, g.1.2.2.1.trans h.1.2.2.1, g.1.2.2.2.1.trans h.1.2.2.2.1, g.1.2.2.2.2.trans h.1.2.2.2.2⟩, fun a ha => (g.2.1 a ha).trans (h.2.1 a ha), fun a ha => (g.2.2.1 a ha).trans (h.2.2.1 a ha), fun j hj => (g.2.2.2 j hj).trans (h.2.2.2 j hj)⟩
theorem FF.on {W : Nat → Prop} (on : OnI W C C1) (hw : ∀ a, W a → X + 5 ≤ a ∧ a ≤ X + 11) : FF X C C1 := ⟨⟨on.T, on.N, on.J, on.nx, on.ns⟩, fun a ha => on.I (fun q => ha (hw a q)), fun a _ => congrFun on.F a, fun j _ => by rw [on.F]⟩
theorem FF.wF {v : Option Nat} : FF X C (wF C (X + 5) 8 v) := ⟨⟨rfl, rfl, rfl, rfl, rfl⟩, fun _ _ => rfl, fun a ha => wF_row _ _ _ _ ha, fun j hj => wF_ne _ _ _ _ (Or.inr hj)⟩
theorem FF.fr (h : FF X C C1) : Fr C C1 (fun a => X + 5 ≤ a ∧ a ≤ X + 11) (fun a => a = X + 5) := fun a _ => ⟨congrFun h.1.1 a, congrFun h.1.2.1 a, fun hw => ⟨h.2.1 a hw, congrFun h.1.2.2.1 a⟩, fun hv => h.2.2.1 a hv⟩
theorem FF.ck (h : FF X C C1) (hC : CK X C) : CK X C1 := hC.keep h.fr (by rw [h.1.1]; exact hC.2.2) (fun k hk q => by omega) (fun j hj => h.2.2.2 j (by omega))
theorem FF.pc (h : FF X C C1) (pc : PC X C b D) : PC X C1 b D := by
  have := pc.1
  unfold PC
  rw [h.1.1, h.1.2.1, h.2.2.1 (b + 1) (by omega), h.2.1 b (by omega), h.2.1 (b + 1) (by omega)]
  exact pc
/-- the gates, as the flow looks at them -/
def PG (X : Nat) (C : St) (b : Nat) (D : PD) : Prop := sF C (b + 1) 4 = some (b + 2) ∧ sT C (b + 2) = 20 ∧ sN C (b + 2) = 4 ∧ sI C (b + 1) 5 = nI (pdG D) ∧ ∀ j, j < pdG D → sI C (b + 2) j = nI (pdQ D j)
theorem FF.pg (h : FF X C C1) (hb : X + 72 ≤ b) (pg : PG X C b D) : PG X C1 b D := by
  unfold PG
  rw [h.1.1, h.1.2.1, h.2.2.1 (b + 1) (by omega), h.2.1 (b + 2) (by omega), h.2.1 (b + 1) (by omega)]
  exact pg
theorem startC_x {c j : Nat} (hC : CK X C) (hn : pdN D ≤ 144) (la : Laid X C D) (hc : c < pdN D) (tc : 0 < pdT D c) : pX1_startAt (X + 5) (nI c) (nI j) C = some ((), wI C (X + 8) c (nI (4 * dr (pdT D c) + j))) := by
  have e6 := la.1
  have dg := la.2.1 c hc
  rw [if_neg (by omega)] at dg
  simp -implicitDefEqProofs (maxSteps := 2000000) (disch := first | omega | exact hgp | exact RK.mv hR rfl rfl rfl | exact CK.mv hC rfl rfl rfl | decide | (simp -implicitDefEqProofs only [wI_X, wJ_X, wF_X, nw_X]; first | done | omega)) only [pX1_startAt, e6, dg, ng_x, b01, ite_clB, clB_id, clB_ie, nar_0, nar_1, wI_se, wI_ne, wJ_se, wJ_ne, wF_se, wF_ne, nw_Te, nw_Tn, nw_Ne, nw_Nn, nw_In, nw_Jn, nw_Fn, nw_X, nw_S, nI_pre, ↓gI_x, ↓gF_x, ↓pI_x, ↓pF_x, ↓pZ_x, ↓ldI_x, ↓stI_x, ↓ldZ_x, ↓stZ_x, ↓ldJ_x, ↓stJ_x, ↓ldF_x, ↓stF_x, ↓ln_x, ↓nO_x, ↓nA_x, onT_x, or2_x, un_s, nu_s, nu_n, ↓lt_x, ↓rt_x, ↓clB_x, ↓rtZ_x, iO_s, iO_n, ↓cO_x, dv_x, rm_x, ↓fl_x, below_x, among_x, in_x, l_toInt, inB_x, uN_nI, ↓ite_S, clB_s, clB_n, wI_T, wI_N, wI_F, wI_J, wI_X, wI_S, wJ_T, wJ_N, wJ_I, wJ_F, wJ_X, wJ_S, wF_T, wF_N, wF_I, wF_J, wF_X, wF_S, wIr_T, wIr_N, wIr_J, wIr_F, wIr_X, wIr_S, wJr_T, wJr_N, wJr_I, wJr_F, wJr_X, wJr_S, fit_10_10, fit_11_11, fit_12_1, fit_12_3, fit_12_4, fit_12_5, fit_1_1, fit_1_3, fit_1_4, fit_1_5, fit_2_2, fit_3_1, fit_3_3, fit_3_4, fit_3_5, fit_4_1, fit_4_3, fit_4_4, fit_4_5, fit_5_5, fit_6_6, fit_7_7, fit_8_8, fit_9_9, L_0, L_1, L_2, L_3, L_4, L_5, L_6, L_7, L_8, L_9, L_10, L_11, L_12, L_13, L_14, L_15, L_16, L_17, L_18, L_19, L_20, L_21, L_22, L_23, L_24, L_25, L_26, L_27, L_28, L_29, L_30, L_31, L_32, L_33, L_34, L_35, L_36, L_37, L_38, L_39, L_40, L_48, L_49, L_50, L_63, L_72, L_100, L_143, L_144, L_200, L_576, L_1000, L_1022, L_1151, L_1152, L_1440, L_5000, L_10000, L_1000000, L_2147483647, J_0, J_1, J_2, J_3, J_4, J_5, J_6, J_7, J_8, J_9, J_10, J_11, J_12, J_13, J_14, J_15, J_16, J_17, J_18, J_19, J_20, J_21, J_22, J_23, J_24, J_25, J_26, J_27, J_28, J_29, J_30, J_31, J_32, J_33, J_34, J_35, J_36, J_37, J_38, J_39, J_40, J_48, J_49, J_50, J_63, J_72, J_100, J_143, J_144, J_200, J_576, J_1000, J_1022, J_1151, J_1152, J_1440, J_5000, J_10000, J_1000000, J_2147483647, N_1, N_1000000, N_1000001, N_1000002, N_1000003, N_1000010, nI_toInt, nI_add, nI_mul, nI_et, nI_ef, nI_lt_t, nI_lt_f, nI_le_t, nI_le_f, inR_t, inR_f, nI_mI, mI_nI, mI_lt, nI_lm, mI_le, nI_em, Int.cast_ofNat_Int, Nat.reduceBEq, or_true, true_or, or_false, false_or, Bool.true_and, Bool.and_true, Bool.false_and, Bool.and_false, Bool.or_true, Bool.true_or, Bool.or_false, Bool.false_or, beq_self_eq_true, not_false_eq_true, if_true, if_false, ite_true, ite_false, eq_self, and_true, true_and, and_false, false_and, not_true_eq_false, not_false_eq_true, reduceCtorEq, and_self, Nat.reduceLeDiff, Nat.reduceEqDiff, Nat.reduceLT, Nat.reduceSub, Int.reduceSub, Int.reduceLE, ne_eq, ↓reduceIte, Nat.reduceMul, Nat.reduceAdd, hC.t0, hC.t1, hC.n1, hC.t2, hC.n2, hC.t3, hC.t4, hC.n4, hC.t5, hC.t6, hC.n6, hC.t7, hC.n7, hC.t8, hC.n8, hC.t9, hC.n9, hC.t10, hC.n10, hC.t11, hC.n11, hC.t12, hC.t13, hC.n13, hC.t14, hC.n14, hC.t15, hC.n15, hC.t16, hC.n16, hC.t17, hC.n17, hC.t18, hC.n18, hC.t19, hC.n19, hC.t20, hC.t21, hC.n21, hC.t22, hC.n22, hC.t23, hC.n23, hC.t24, hC.n24, hC.t25, hC.n25, hC.t26, hC.n26, hC.t27, hC.n27, hC.t28, hC.n28, hC.t29, hC.n29, hC.t30, hC.n30, hC.t31, hC.n31, hC.t32, hC.n32, hC.t33, hC.n33, hC.f0_0, hC.f0_1, hC.f0_2, hC.f0_3, hC.f0_4, hC.f0_5, hC.f3_0, hC.f5_0, hC.f5_1, hC.f5_2, hC.f5_3, hC.f5_4, hC.f5_5, hC.f12_0, hC.f12_1, hC.f12_2, hC.f12_3, hC.f12_5, hC.f12_6, hC.f12_7, hC.f20_0, hC.f20_1, hC.f20_2, hC.f20_3, hC.f20_4, hC.f20_5, hC.f20_6, hC.f25_0, hC.f25_1, hC.f25_2, hC.f25_3, hC.f25_4, hC.f25_5]
theorem startC_L (hn : pdN D ≤ 144) (hb : X + 72 ≤ b) (hg : GOk D) : ∀ (m i fuel : Nat) (C : St) (L : Nat → Nat), CK X C → isP (sT C (b + 1)) → PG X C b D → Laid X C D → CL X C D L → i + m = pdG D → m < fuel → ∃ C1 L1, (∀ K, pX1_fill_L27 (X + 5) (some (b + 1)) K fuel (nI i) C = K C1) ∧ OnI (fun a => a = X + 8) C C1 ∧ CL X C1 D L1 ∧ (∀ j, i ≤ j → j < pdG D → L1 (pdQ D j) = 4 * dr (pdT D (pdQ D j)) + j) ∧ ∀ x, (∀ j, i ≤ j → j < pdG D → pdQ D j ≠ x) → L1 x = L x := by
  intro m
  induction m with
  | zero =>
    intro i fuel C L hC ip pg la cl hi hf
    obtain ⟨fu, rfl⟩ : ∃ f, fuel = f + 1 := ⟨fuel - 1, by omega⟩
    obtain ⟨g1, g2, g3, g4, g5⟩ := id pg
    have f4 := fit_4p ip
    have h4 := hg.1
    refine ⟨C, L, fun K => ?_, OnI.rf, cl, fun j h1 h2 => by omega, fun _ _ => rfl⟩
    simp -implicitDefEqProofs (maxSteps := 2000000) (disch := first | omega | exact hgp | exact RK.mv hR rfl rfl rfl | exact CK.mv hC rfl rfl rfl | decide | (simp -implicitDefEqProofs only [wI_X, wJ_X, wF_X, nw_X]; first | done | omega)) only [pX1_fill_L27, f4, g4, ng_x, b01, ite_clB, clB_id, clB_ie, nar_0, nar_1, wI_se, wI_ne, wJ_se, wJ_ne, wF_se, wF_ne, nw_Te, nw_Tn, nw_Ne, nw_Nn, nw_In, nw_Jn, nw_Fn, nw_X, nw_S, nI_pre, ↓gI_x, ↓gF_x, ↓pI_x, ↓pF_x, ↓pZ_x, ↓ldI_x, ↓stI_x, ↓ldZ_x, ↓stZ_x, ↓ldJ_x, ↓stJ_x, ↓ldF_x, ↓stF_x, ↓ln_x, ↓nO_x, ↓nA_x, onT_x, or2_x, un_s, nu_s, nu_n, ↓lt_x, ↓rt_x, ↓clB_x, ↓rtZ_x, iO_s, iO_n, ↓cO_x, dv_x, rm_x, ↓fl_x, below_x, among_x, in_x, l_toInt, inB_x, uN_nI, ↓ite_S, clB_s, clB_n, wI_T, wI_N, wI_F, wI_J, wI_X, wI_S, wJ_T, wJ_N, wJ_I, wJ_F, wJ_X, wJ_S, wF_T, wF_N, wF_I, wF_J, wF_X, wF_S, wIr_T, wIr_N, wIr_J, wIr_F, wIr_X, wIr_S, wJr_T, wJr_N, wJr_I, wJr_F, wJr_X, wJr_S, fit_10_10, fit_11_11, fit_12_1, fit_12_3, fit_12_4, fit_12_5, fit_1_1, fit_1_3, fit_1_4, fit_1_5, fit_2_2, fit_3_1, fit_3_3, fit_3_4, fit_3_5, fit_4_1, fit_4_3, fit_4_4, fit_4_5, fit_5_5, fit_6_6, fit_7_7, fit_8_8, fit_9_9, L_0, L_1, L_2, L_3, L_4, L_5, L_6, L_7, L_8, L_9, L_10, L_11, L_12, L_13, L_14, L_15, L_16, L_17, L_18, L_19, L_20, L_21, L_22, L_23, L_24, L_25, L_26, L_27, L_28, L_29, L_30, L_31, L_32, L_33, L_34, L_35, L_36, L_37, L_38, L_39, L_40, L_48, L_49, L_50, L_63, L_72, L_100, L_143, L_144, L_200, L_576, L_1000, L_1022, L_1151, L_1152, L_1440, L_5000, L_10000, L_1000000, L_2147483647, J_0, J_1, J_2, J_3, J_4, J_5, J_6, J_7, J_8, J_9, J_10, J_11, J_12, J_13, J_14, J_15, J_16, J_17, J_18, J_19, J_20, J_21, J_22, J_23, J_24, J_25, J_26, J_27, J_28, J_29, J_30, J_31, J_32, J_33, J_34, J_35, J_36, J_37, J_38, J_39, J_40, J_48, J_49, J_50, J_63, J_72, J_100, J_143, J_144, J_200, J_576, J_1000, J_1022, J_1151, J_1152, J_1440, J_5000, J_10000, J_1000000, J_2147483647, N_1, N_1000000, N_1000001, N_1000002, N_1000003, N_1000010, nI_toInt, nI_add, nI_mul, nI_et, nI_ef, nI_lt_t, nI_lt_f, nI_le_t, nI_le_f, inR_t, inR_f, nI_mI, mI_nI, mI_lt, nI_lm, mI_le, nI_em, Int.cast_ofNat_Int, Nat.reduceBEq, or_true, true_or, or_false, false_or, Bool.true_and, Bool.and_true, Bool.false_and, Bool.and_false, Bool.or_true, Bool.true_or, Bool.or_false, Bool.false_or, beq_self_eq_true, not_false_eq_true, if_true, if_false, ite_true, ite_false, eq_self, and_true, true_and, and_false, false_and, not_true_eq_false, not_false_eq_true, reduceCtorEq, and_self, Nat.reduceLeDiff, Nat.reduceEqDiff, Nat.reduceLT, Nat.reduceSub, Int.reduceSub, Int.reduceLE, ne_eq, ↓reduceIte, Nat.reduceMul, Nat.reduceAdd, hC.t0, hC.t1, hC.n1, hC.t2, hC.n2, hC.t3, hC.t4, hC.n4, hC.t5, hC.t6, hC.n6, hC.t7, hC.n7, hC.t8, hC.n8, hC.t9, hC.n9, hC.t10, hC.n10, hC.t11, hC.n11, hC.t12, hC.t13, hC.n13, hC.t14, hC.n14, hC.t15, hC.n15, hC.t16, hC.n16, hC.t17, hC.n17, hC.t18, hC.n18, hC.t19, hC.n19, hC.t20, hC.t21, hC.n21, hC.t22, hC.n22, hC.t23, hC.n23, hC.t24, hC.n24, hC.t25, hC.n25, hC.t26, hC.n26, hC.t27, hC.n27, hC.t28, hC.n28, hC.t29, hC.n29, hC.t30, hC.n30, hC.t31, hC.n31, hC.t32, hC.n32, hC.t33, hC.n33, hC.f0_0, hC.f0_1, hC.f0_2, hC.f0_3, hC.f0_4, hC.f0_5, hC.f3_0, hC.f5_0, hC.f5_1, hC.f5_2, hC.f5_3, hC.f5_4, hC.f5_5, hC.f12_0, hC.f12_1, hC.f12_2, hC.f12_3, hC.f12_5, hC.f12_6, hC.f12_7, hC.f20_0, hC.f20_1, hC.f20_2, hC.f20_3, hC.f20_4, hC.f20_5, hC.f20_6, hC.f25_0, hC.f25_1, hC.f25_2, hC.f25_3, hC.f25_4, hC.f25_5]
  | succ m ih =>
    intro i fuel C L hC ip pg la cl hi hf
    obtain ⟨fu, rfl⟩ : ∃ f, fuel = f + 1 := ⟨fuel - 1, by omega⟩
    obtain ⟨g1, g2, g3, g4, g5⟩ := id pg
    have f4 := fit_4p ip
    have h4 := hg.1
    obtain ⟨qn, qt⟩ := hg.2.1 i (by omega)
    have e5 := g5 i (by omega)
    have st := startC_x (j := i) hC hn la qn qt
    have dle := dr_le (pdT D (pdQ D i))
    have on1 : OnI (fun a => a = X + 8) C (wI C (X + 8) (pdQ D i) (nI (4 * dr (pdT D (pdQ D i)) + i))) := OnI.wI OnI.rf (by exact rfl)
    have ff1 : FF X C _ := FF.on on1 (fun a ha => by omega)
    obtain ⟨C1, L1, w1, w2, w3, w4, w5⟩ := ih (i + 1) fu _ (fun x => if x = pdQ D i then 4 * dr (pdT D (pdQ D i)) + i else L x) (on1.ck hC) (by rw [on1.T]; exact ip) (ff1.pg hb pg) (la.on (on1.mono (fun a ha => by omega))) ⟨fun x => by
        dsimp only
        split
        · unfold NO; omega
        · exact cl.1 x, fun x hx => by
        dsimp only
        by_cases e : x = pdQ D i
        · rw [if_pos e, e]
          simp -implicitDefEqProofs (maxSteps := 2000000) (disch := first | omega | (simp -implicitDefEqProofs only [wI_X, wJ_X, wF_X, nw_X]; first | done | omega)) only [ wI_se, wI_ne, wJ_se, wJ_ne, wF_se, wF_ne, nw_Te, nw_Tn, nw_Ne, nw_Nn, nw_In, nw_Jn, nw_Fn, nw_X, nw_S, wI_row, wJ_row, wF_row, wIr_row, wJr_row, wIr_at, wJr_at, wI_T, wI_N, wI_F, wI_J, wI_X, wI_S, wJ_T, wJ_N, wJ_I, wJ_F, wJ_X, wJ_S, wF_T, wF_N, wF_I, wF_J, wF_X, wF_S, wIr_T, wIr_N, wIr_J, wIr_F, wIr_X, wIr_S, wJr_T, wJr_N, wJr_I, wJr_F, wJr_X, wJr_S]
        · rw [if_neg e]
          have := cl.2 x hx
          simp -implicitDefEqProofs (maxSteps := 2000000) (disch := first | omega | (simp -implicitDefEqProofs only [wI_X, wJ_X, wF_X, nw_X]; first | done | omega)) only [ wI_se, wI_ne, wJ_se, wJ_ne, wF_se, wF_ne, nw_Te, nw_Tn, nw_Ne, nw_Nn, nw_In, nw_Jn, nw_Fn, nw_X, nw_S, wI_row, wJ_row, wF_row, wIr_row, wJr_row, wIr_at, wJr_at, wI_T, wI_N, wI_F, wI_J, wI_X, wI_S, wJ_T, wJ_N, wJ_I, wJ_F, wJ_X, wJ_S, wF_T, wF_N, wF_I, wF_J, wF_X, wF_S, wIr_T, wIr_N, wIr_J, wIr_F, wIr_X, wIr_S, wJr_T, wJr_N, wJr_I, wJr_F, wJr_X, wJr_S]
          exact this⟩ (by omega) (by omega)
    refine ⟨C1, L1, fun K => Eq.trans ?_ (w1 K), on1.tr w2, w3, fun j h1 h2 => ?_, fun x hx => ?_⟩
    · simp -implicitDefEqProofs (maxSteps := 2000000) (disch := first | omega | exact hgp | exact RK.mv hR rfl rfl rfl | exact CK.mv hC rfl rfl rfl | decide | (simp -implicitDefEqProofs only [wI_X, wJ_X, wF_X, nw_X]; first | done | omega)) only [pX1_fill_L27, f4, g1, g2, g3, g4, e5, st, ng_x, b01, ite_clB, clB_id, clB_ie, nar_0, nar_1, wI_se, wI_ne, wJ_se, wJ_ne, wF_se, wF_ne, nw_Te, nw_Tn, nw_Ne, nw_Nn, nw_In, nw_Jn, nw_Fn, nw_X, nw_S, nI_pre, ↓gI_x, ↓gF_x, ↓pI_x, ↓pF_x, ↓pZ_x, ↓ldI_x, ↓stI_x, ↓ldZ_x, ↓stZ_x, ↓ldJ_x, ↓stJ_x, ↓ldF_x, ↓stF_x, ↓ln_x, ↓nO_x, ↓nA_x, onT_x, or2_x, un_s, nu_s, nu_n, ↓lt_x, ↓rt_x, ↓clB_x, ↓rtZ_x, iO_s, iO_n, ↓cO_x, dv_x, rm_x, ↓fl_x, below_x, among_x, in_x, l_toInt, inB_x, uN_nI, ↓ite_S, clB_s, clB_n, wI_T, wI_N, wI_F, wI_J, wI_X, wI_S, wJ_T, wJ_N, wJ_I, wJ_F, wJ_X, wJ_S, wF_T, wF_N, wF_I, wF_J, wF_X, wF_S, wIr_T, wIr_N, wIr_J, wIr_F, wIr_X, wIr_S, wJr_T, wJr_N, wJr_I, wJr_F, wJr_X, wJr_S, fit_10_10, fit_11_11, fit_12_1, fit_12_3, fit_12_4, fit_12_5, fit_1_1, fit_1_3, fit_1_4, fit_1_5, fit_2_2, fit_3_1, fit_3_3, fit_3_4, fit_3_5, fit_4_1, fit_4_3, fit_4_4, fit_4_5, fit_5_5, fit_6_6, fit_7_7, fit_8_8, fit_9_9, L_0, L_1, L_2, L_3, L_4, L_5, L_6, L_7, L_8, L_9, L_10, L_11, L_12, L_13, L_14, L_15, L_16, L_17, L_18, L_19, L_20, L_21, L_22, L_23, L_24, L_25, L_26, L_27, L_28, L_29, L_30, L_31, L_32, L_33, L_34, L_35, L_36, L_37, L_38, L_39, L_40, L_48, L_49, L_50, L_63, L_72, L_100, L_143, L_144, L_200, L_576, L_1000, L_1022, L_1151, L_1152, L_1440, L_5000, L_10000, L_1000000, L_2147483647, J_0, J_1, J_2, J_3, J_4, J_5, J_6, J_7, J_8, J_9, J_10, J_11, J_12, J_13, J_14, J_15, J_16, J_17, J_18, J_19, J_20, J_21, J_22, J_23, J_24, J_25, J_26, J_27, J_28, J_29, J_30, J_31, J_32, J_33, J_34, J_35, J_36, J_37, J_38, J_39, J_40, J_48, J_49, J_50, J_63, J_72, J_100, J_143, J_144, J_200, J_576, J_1000, J_1022, J_1151, J_1152, J_1440, J_5000, J_10000, J_1000000, J_2147483647, N_1, N_1000000, N_1000001, N_1000002, N_1000003, N_1000010, nI_toInt, nI_add, nI_mul, nI_et, nI_ef, nI_lt_t, nI_lt_f, nI_le_t, nI_le_f, inR_t, inR_f, nI_mI, mI_nI, mI_lt, nI_lm, mI_le, nI_em, Int.cast_ofNat_Int, Nat.reduceBEq, or_true, true_or, or_false, false_or, Bool.true_and, Bool.and_true, Bool.false_and, Bool.and_false, Bool.or_true, Bool.true_or, Bool.or_false, Bool.false_or, beq_self_eq_true, not_false_eq_true, if_true, if_false, ite_true, ite_false, eq_self, and_true, true_and, and_false, false_and, not_true_eq_false, not_false_eq_true, reduceCtorEq, and_self, Nat.reduceLeDiff, Nat.reduceEqDiff, Nat.reduceLT, Nat.reduceSub, Int.reduceSub, Int.reduceLE, ne_eq, ↓reduceIte, Nat.reduceMul, Nat.reduceAdd, hC.t0, hC.t1, hC.n1, hC.t2, hC.n2, hC.t3, hC.t4, hC.n4, hC.t5, hC.t6, hC.n6, hC.t7, hC.n7, hC.t8, hC.n8, hC.t9, hC.n9, hC.t10, hC.n10, hC.t11, hC.n11, hC.t12, hC.t13, hC.n13, hC.t14, hC.n14, hC.t15, hC.n15, hC.t16, hC.n16, hC.t17, hC.n17, hC.t18, hC.n18, hC.t19, hC.n19, hC.t20, hC.t21, hC.n21, hC.t22, hC.n22, hC.t23, hC.n23, hC.t24, hC.n24, hC.t25, hC.n25, hC.t26, hC.n26, hC.t27, hC.n27, hC.t28, hC.n28, hC.t29, hC.n29, hC.t30, hC.n30, hC.t31, hC.n31, hC.t32, hC.n32, hC.t33, hC.n33, hC.f0_0, hC.f0_1, hC.f0_2, hC.f0_3, hC.f0_4, hC.f0_5, hC.f3_0, hC.f5_0, hC.f5_1, hC.f5_2, hC.f5_3, hC.f5_4, hC.f5_5, hC.f12_0, hC.f12_1, hC.f12_2, hC.f12_3, hC.f12_5, hC.f12_6, hC.f12_7, hC.f20_0, hC.f20_1, hC.f20_2, hC.f20_3, hC.f20_4, hC.f20_5, hC.f20_6, hC.f25_0, hC.f25_1, hC.f25_2, hC.f25_3, hC.f25_4, hC.f25_5]
    · by_cases g : j = i
      · subst g
        have := w5 (pdQ D j) (fun l h3 h4 q => hg.2.2 j l (by omega) h4 q.symm)
        rw [this]
        exact if_pos rfl
      · exact w4 j (by omega) h2
    · rw [w5 x (fun j h1 h2 => hx j (by omega) h2)]
      exact if_neg (fun q => hx i (by omega) (by omega) q.symm)
theorem FS.sorted {Ls : Nat → Nat} {ks : Nat} {os : Nat → Nat} {f : Nat} {o : Nat → Nat} (hs : FS D Ls ks os) (sr : Srt Ls f o (pdN D)) : FS D Ls f o := by
  obtain ⟨a1, a2, a3, a4, a5, a6, a7, a8, a9⟩ := hs
  exact ⟨a1, a2, sr.1, sr.2.1, sr.2.2.1, sr.2.2.2, a7, a8, a9⟩
/-- beyond the part's places nothing is said of a solution: cut there -/
def cutL (N : Nat) (L : Nat → Nat) : Nat → Nat := fun c => if c < N then L c else NO
theorem cutL_t {N c : Nat} (h : c < N) : cutL N L c = L c := if_pos h
theorem FS.cut {Ls : Nat → Nat} {ks : Nat} {os : Nat → Nat} (hq : ∀ j, j < pdG D → pdQ D j < pdN D) (hs : FS D Ls ks os) : FS D (cutL (pdN D) Ls) ks os := by
  obtain ⟨a1, a2, a3, a4, a5, a6, a7, a8, a9⟩ := hs
  refine ⟨fun c hc => by rw [cutL_t hc]; exact a1 c hc, fun c hc => by rw [cutL_t hc]; exact a2 c hc, a3, fun r hr => by rw [cutL_t (a4 r hr).1]; exact a4 r hr, fun c hc => by rw [cutL_t hc]; exact a5 c hc, fun r s hr hs => by rw [cutL_t (a4 r (by omega)).1, cutL_t (a4 s hs).1]; exact a6 r s hr hs, fun j hj => by rw [cutL_t (hq j hj)]; exact a7 j hj, fun c d n => by rw [cutL_t n.1, cutL_t n.2.1]; exact a8 c d n, fun c hc => ?_⟩
  rw [cutL_t hc]
  intro q
  rcases a9 c hc q with g | ⟨d, d1, d2, d3⟩
  · exact Or.inl g
  · exact Or.inr ⟨d, d1, by rw [cutL_t d1.1]; exact d2, by rw [cutL_t d1.1]; exact d3⟩
/-- laid out, gated, flown, put in order -/
theorem flows_x {Ls : Nat → Nat} {ks : Nat} {os : Nat → Nat} (hs : FS D Ls ks os) (hg : GOk D) (hC : CK X C) (pc : PC X C b D) (pg : PG X C b D) : ∃ C1 L k o, (∀ K : Prg Unit, cl (onT (X + 5) 2 (pX1_layOut (X + 5) (some (b + 1)))) (fun _ => pX1_fill_L27 (X + 5) (some (b + 1)) (cl (onT (X + 5) 2 (pX1_flowOn (X + 5))) fun _ => cl (onT (X + 5) 2 (pX1_putInOrder (X + 5))) fun _ => K) FL (nI 0)) C = K C1) ∧ FF X C C1 ∧ (∀ j, j ≠ 6 → j ≠ 7 → sI C1 (X + 5) j = sI C (X + 5) j) ∧ FlowIs X C1 D L k o := by
  have hn := pc.n
  have hb := pc.1
  have h4 := hg.1
  have hT : ∀ c, c < pdN D → pdT D c ≤ 9 := fun c hc => (pc.2.2.2.2.2.1 c hc).2
  have hs := FS.cut (fun j hj => (hg.2.1 j hj).1) hs
  obtain ⟨A, a1, a2, a3, a4, a5, a6⟩ := layOut_x hC pc
  have fA : FF X C A := FF.on a2 (fun a ha => by omega)
  have hA := fA.ck hC
  obtain ⟨B, LB, b1, b2, b3, b4, b5⟩ := startC_L (b := b) hn hb hg (pdG D) 0 FL A (fun _ => NO) hA (by rw [a2.T]; exact pc.2.1) (fA.pg hb pg) a3 ⟨fun _ => Nat.le_refl _, a4⟩ (by omega) (by unfold FL; omega)
  have fB := fA.tr (FF.on b2 (fun a ha => by omega))
  have hB := fB.ck hC
  have laB := a3.on (b2.mono (fun a ha => by omega))
  have gate : ∀ c, LB c ≠ NO → ∃ j, j < pdG D ∧ pdQ D j = c := fun c q => Classical.byContradiction fun n => q (b5 c (fun j _ h2 h3 => n ⟨j, h2, h3⟩))
  have flB : Fl D (cutL (pdN D) Ls) LB 20003 := by
    refine ⟨b3.1, fun c hc q => ?_, fun c hc => ?_, fun j hj => Nat.le_of_eq (b4 j (by omega) hj)⟩
    · obtain ⟨j, j1, j2⟩ := gate c q
      have := b4 j (by omega) j1
      have := dr_le (pdT D (pdQ D j))
      rw [j2] at *
      omega
    · by_cases q : LB c = NO
      · rw [q]; exact hs.1 c hc
      · obtain ⟨j, j1, j2⟩ := gate c q
        have e := b4 j (by omega) j1
        have := hs.2.2.2.2.2.2.1 j j1
        rw [j2] at e this
        omega
  obtain ⟨E, d1, d2, d3⟩ := flowOn_x hs hn pc.n1 hT hB laB b3 flB
  have fE := fB.tr (FF.on d2 (fun a ha => by omega))
  have hE := fE.ck hC
  have laE := laB.on (d2.mono (fun a ha => by omega))
  have clE : CL X E D (cutL (pdN D) Ls) := ⟨fun c => by
    by_cases h : c < pdN D
    · exact hs.1 c h
    · unfold cutL; rw [if_neg h]; exact Nat.le_refl _, d3⟩
  obtain ⟨f, o, G, p1, p2, p3, p4, p5, p6, p7⟩ := put_x hn hE laE.1 clE
  have fG := fE.tr (FF.on p2 (fun a ha => by omega))
  refine ⟨G, _, f, o, fun K => ?_, fG, fun j h6 h7 => ?_, hs.sorted p7, ⟨?_, ?_⟩, fun c hc => ?_, p4, p5, p6⟩
  · have t1 := hC.t5
    have t2 := hA.t5
    have t3 := hB.t5
    have t4 := hE.t5
    simp -implicitDefEqProofs (maxSteps := 2000000) (disch := first | omega | decide) only [a1, b1, d1, p1, t1, t2, t3, t4, ng_x, b01, ite_clB, clB_id, clB_ie, nar_0, nar_1, wI_se, wI_ne, wJ_se, wJ_ne, wF_se, wF_ne, nw_Te, nw_Tn, nw_Ne, nw_Nn, nw_In, nw_Jn, nw_Fn, nw_X, nw_S, nI_pre, ↓gI_x, ↓gF_x, ↓pI_x, ↓pF_x, ↓pZ_x, ↓ldI_x, ↓stI_x, ↓ldZ_x, ↓stZ_x, ↓ldJ_x, ↓stJ_x, ↓ldF_x, ↓stF_x, ↓ln_x, ↓nO_x, ↓nA_x, onT_x, or2_x, un_s, nu_s, nu_n, ↓lt_x, ↓rt_x, ↓clB_x, ↓rtZ_x, iO_s, iO_n, ↓cO_x, dv_x, rm_x, ↓fl_x, below_x, among_x, in_x, l_toInt, inB_x, uN_nI, ↓ite_S, clB_s, clB_n, wI_T, wI_N, wI_F, wI_J, wI_X, wI_S, wJ_T, wJ_N, wJ_I, wJ_F, wJ_X, wJ_S, wF_T, wF_N, wF_I, wF_J, wF_X, wF_S, wIr_T, wIr_N, wIr_J, wIr_F, wIr_X, wIr_S, wJr_T, wJr_N, wJr_I, wJr_F, wJr_X, wJr_S, fit_10_10, fit_11_11, fit_12_1, fit_12_3, fit_12_4, fit_12_5, fit_1_1, fit_1_3, fit_1_4, fit_1_5, fit_2_2, fit_3_1, fit_3_3, fit_3_4, fit_3_5, fit_4_1, fit_4_3, fit_4_4, fit_4_5, fit_5_5, fit_6_6, fit_7_7, fit_8_8, fit_9_9, L_0, L_1, L_2, L_3, L_4, L_5, L_6, L_7, L_8, L_9, L_10, L_11, L_12, L_13, L_14, L_15, L_16, L_17, L_18, L_19, L_20, L_21, L_22, L_23, L_24, L_25, L_26, L_27, L_28, L_29, L_30, L_31, L_32, L_33, L_34, L_35, L_36, L_37, L_38, L_39, L_40, L_48, L_49, L_50, L_63, L_72, L_100, L_143, L_144, L_200, L_576, L_1000, L_1022, L_1151, L_1152, L_1440, L_5000, L_10000, L_1000000, L_2147483647, J_0, J_1, J_2, J_3, J_4, J_5, J_6, J_7, J_8, J_9, J_10, J_11, J_12, J_13, J_14, J_15, J_16, J_17, J_18, J_19, J_20, J_21, J_22, J_23, J_24, J_25, J_26, J_27, J_28, J_29, J_30, J_31, J_32, J_33, J_34, J_35, J_36, J_37, J_38, J_39, J_40, J_48, J_49, J_50, J_63, J_72, J_100, J_143, J_144, J_200, J_576, J_1000, J_1022, J_1151, J_1152, J_1440, J_5000, J_10000, J_1000000, J_2147483647, N_1, N_1000000, N_1000001, N_1000002, N_1000003, N_1000010, nI_toInt, nI_add, nI_mul, nI_et, nI_ef, nI_lt_t, nI_lt_f, nI_le_t, nI_le_f, inR_t, inR_f, nI_mI, mI_nI, mI_lt, nI_lm, mI_le, nI_em, Int.cast_ofNat_Int, Nat.reduceBEq, or_true, true_or, or_false, false_or, Bool.true_and, Bool.and_true, Bool.false_and, Bool.and_false, Bool.or_true, Bool.true_or, Bool.or_false, Bool.false_or, beq_self_eq_true, not_false_eq_true, if_true, if_false, ite_true, ite_false, eq_self, and_true, true_and, and_false, false_and, not_true_eq_false, not_false_eq_true, reduceCtorEq, and_self, Nat.reduceLeDiff, Nat.reduceEqDiff, Nat.reduceLT, Nat.reduceSub, Int.reduceSub, Int.reduceLE, ne_eq, ↓reduceIte, Nat.reduceMul, Nat.reduceAdd]
  · rw [p3 j h7, d2.I (a := X + 5) (by omega), b2.I (a := X + 5) (by omega), a6 j h6 h7]
  · rw [p3 6 (by omega)]; exact laE.1
  · rw [p2.I (a := X + 6) (by omega), p2.I (a := X + 7) (by omega)]; exact laE.2
  · rw [p2.I (a := X + 8) (by omega)]; exact d3 c hc
theorem fillC_x {Ls : Nat → Nat} {ks : Nat} {os : Nat → Nat} (hs : FS (PDof C b) Ls ks os) (hg : GOk (PDof C b)) (hC : CK X C) (pc : PC X C b (PDof C b)) (pg : PG X C b (PDof C b)) (kf : KF X C) : ∃ C1 L k o, pX1_fill (X + 5) (some (b + 1)) C = some ((), C1) ∧ FF X C C1 ∧ FlowIs X C1 (PDof C b) L k o ∧ sF C1 (X + 5) 8 = some (b + 1) ∧ sI C1 (X + 5) 9 = nI (pdG (PDof C b)) := by
  obtain ⟨g1, g2, g3, g4, g5⟩ := id pg
  have f4 := fit_4p pc.2.1
  have h4 := hg.1
  by_cases e : sF C (X + 5) 8 = some (b + 1) ∧ sI C (X + 5) 9 = nI (pdG (PDof C b))
  · obtain ⟨e1, e2⟩ := e
    obtain ⟨b', g, L, k, o, q1, q2, q3, q4, q5⟩ := kf _ e1
    have : b' = b := by omega
    subst this
    have : g = pdG (PDof C b') := (nI_eq (by omega) (by omega)).mp (q3.symm.trans e2)
    subst this
    refine ⟨C, L, k, o, ?_, FF.rf, q5, e1, e2⟩
    simp -implicitDefEqProofs (maxSteps := 2000000) (disch := first | omega | exact hgp | exact RK.mv hR rfl rfl rfl | exact CK.mv hC rfl rfl rfl | decide | (simp -implicitDefEqProofs only [wI_X, wJ_X, wF_X, nw_X]; first | done | omega)) only [pX1_fill, e1, e2, f4, g4, ng_x, b01, ite_clB, clB_id, clB_ie, nar_0, nar_1, wI_se, wI_ne, wJ_se, wJ_ne, wF_se, wF_ne, nw_Te, nw_Tn, nw_Ne, nw_Nn, nw_In, nw_Jn, nw_Fn, nw_X, nw_S, nI_pre, ↓gI_x, ↓gF_x, ↓pI_x, ↓pF_x, ↓pZ_x, ↓ldI_x, ↓stI_x, ↓ldZ_x, ↓stZ_x, ↓ldJ_x, ↓stJ_x, ↓ldF_x, ↓stF_x, ↓ln_x, ↓nO_x, ↓nA_x, onT_x, or2_x, un_s, nu_s, nu_n, ↓lt_x, ↓rt_x, ↓clB_x, ↓rtZ_x, iO_s, iO_n, ↓cO_x, dv_x, rm_x, ↓fl_x, below_x, among_x, in_x, l_toInt, inB_x, uN_nI, ↓ite_S, clB_s, clB_n, wI_T, wI_N, wI_F, wI_J, wI_X, wI_S, wJ_T, wJ_N, wJ_I, wJ_F, wJ_X, wJ_S, wF_T, wF_N, wF_I, wF_J, wF_X, wF_S, wIr_T, wIr_N, wIr_J, wIr_F, wIr_X, wIr_S, wJr_T, wJr_N, wJr_I, wJr_F, wJr_X, wJr_S, fit_10_10, fit_11_11, fit_12_1, fit_12_3, fit_12_4, fit_12_5, fit_1_1, fit_1_3, fit_1_4, fit_1_5, fit_2_2, fit_3_1, fit_3_3, fit_3_4, fit_3_5, fit_4_1, fit_4_3, fit_4_4, fit_4_5, fit_5_5, fit_6_6, fit_7_7, fit_8_8, fit_9_9, L_0, L_1, L_2, L_3, L_4, L_5, L_6, L_7, L_8, L_9, L_10, L_11, L_12, L_13, L_14, L_15, L_16, L_17, L_18, L_19, L_20, L_21, L_22, L_23, L_24, L_25, L_26, L_27, L_28, L_29, L_30, L_31, L_32, L_33, L_34, L_35, L_36, L_37, L_38, L_39, L_40, L_48, L_49, L_50, L_63, L_72, L_100, L_143, L_144, L_200, L_576, L_1000, L_1022, L_1151, L_1152, L_1440, L_5000, L_10000, L_1000000, L_2147483647, J_0, J_1, J_2, J_3, J_4, J_5, J_6, J_7, J_8, J_9, J_10, J_11, J_12, J_13, J_14, J_15, J_16, J_17, J_18, J_19, J_20, J_21, J_22, J_23, J_24, J_25, J_26, J_27, J_28, J_29, J_30, J_31, J_32, J_33, J_34, J_35, J_36, J_37, J_38, J_39, J_40, J_48, J_49, J_50, J_63, J_72, J_100, J_143, J_144, J_200, J_576, J_1000, J_1022, J_1151, J_1152, J_1440, J_5000, J_10000, J_1000000, J_2147483647, N_1, N_1000000, N_1000001, N_1000002, N_1000003, N_1000010, nI_toInt, nI_add, nI_mul, nI_et, nI_ef, nI_lt_t, nI_lt_f, nI_le_t, nI_le_f, inR_t, inR_f, nI_mI, mI_nI, mI_lt, nI_lm, mI_le, nI_em, Int.cast_ofNat_Int, Nat.reduceBEq, or_true, true_or, or_false, false_or, Bool.true_and, Bool.and_true, Bool.false_and, Bool.and_false, Bool.or_true, Bool.true_or, Bool.or_false, Bool.false_or, beq_self_eq_true, not_false_eq_true, if_true, if_false, ite_true, ite_false, eq_self, and_true, true_and, and_false, false_and, not_true_eq_false, not_false_eq_true, reduceCtorEq, and_self, Nat.reduceLeDiff, Nat.reduceEqDiff, Nat.reduceLT, Nat.reduceSub, Int.reduceSub, Int.reduceLE, ne_eq, ↓reduceIte, Nat.reduceMul, Nat.reduceAdd, hC.t0, hC.t1, hC.n1, hC.t2, hC.n2, hC.t3, hC.t4, hC.n4, hC.t5, hC.t6, hC.n6, hC.t7, hC.n7, hC.t8, hC.n8, hC.t9, hC.n9, hC.t10, hC.n10, hC.t11, hC.n11, hC.t12, hC.t13, hC.n13, hC.t14, hC.n14, hC.t15, hC.n15, hC.t16, hC.n16, hC.t17, hC.n17, hC.t18, hC.n18, hC.t19, hC.n19, hC.t20, hC.t21, hC.n21, hC.t22, hC.n22, hC.t23, hC.n23, hC.t24, hC.n24, hC.t25, hC.n25, hC.t26, hC.n26, hC.t27, hC.n27, hC.t28, hC.n28, hC.t29, hC.n29, hC.t30, hC.n30, hC.t31, hC.n31, hC.t32, hC.n32, hC.t33, hC.n33, hC.f0_0, hC.f0_1, hC.f0_2, hC.f0_3, hC.f0_4, hC.f0_5, hC.f3_0, hC.f5_0, hC.f5_1, hC.f5_2, hC.f5_3, hC.f5_4, hC.f5_5, hC.f12_0, hC.f12_1, hC.f12_2, hC.f12_3, hC.f12_5, hC.f12_6, hC.f12_7, hC.f20_0, hC.f20_1, hC.f20_2, hC.f20_3, hC.f20_4, hC.f20_5, hC.f20_6, hC.f25_0, hC.f25_1, hC.f25_2, hC.f25_3, hC.f25_4, hC.f25_5]
  · obtain ⟨C1, L, k, o, w1, w2, w3, w4⟩ := flows_x hs hg hC pc pg
    have hC1 := w2.ck hC
    have hb := pc.1
    have ip1 : isP (sT C1 (b + 1)) := by rw [w2.1.1]; exact pc.2.1
    have f41 := fit_4p ip1
    have t5 := hC1.t5
    have g41 : sI C1 (b + 1) 5 = nI (pdG (PDof C b)) := by rw [w2.2.1 (b + 1) (by omega)]; exact g4
    refine ⟨wI (wF C1 (X + 5) 8 (some (b + 1))) (X + 5) 9 (nI (pdG (PDof C b))), L, k, o, ?_, w2.tr (FF.wF.tr (FF.on (W := fun a => a = X + 5) (OnI.wI OnI.rf (by exact rfl)) (fun a ha => by omega))), ?_, ?_, ?_⟩
    · have go : ∀ K, _ := w1
      by_cases e1 : sF C (X + 5) 8 = some (b + 1)
      · have e2 : ¬ sI C (X + 5) 9 = nI (pdG (PDof C b)) := fun q => e ⟨e1, q⟩
        unfold pX1_fill
        rw [gF_x, hC.t5, if_pos (fit_2_2), lt_x, if_pos e1, gI_x, hC.t5, if_pos (fit_2_2), un_s, gI_x, if_pos f4, ite_S, if_neg (by rw [g4]; exact e2)]
        refine (w1 _).trans ?_
        simp -implicitDefEqProofs (maxSteps := 2000000) (disch := first | omega | decide) only [t5, f41, g41, ng_x, b01, ite_clB, clB_id, clB_ie, nar_0, nar_1, wI_se, wI_ne, wJ_se, wJ_ne, wF_se, wF_ne, nw_Te, nw_Tn, nw_Ne, nw_Nn, nw_In, nw_Jn, nw_Fn, nw_X, nw_S, nI_pre, ↓gI_x, ↓gF_x, ↓pI_x, ↓pF_x, ↓pZ_x, ↓ldI_x, ↓stI_x, ↓ldZ_x, ↓stZ_x, ↓ldJ_x, ↓stJ_x, ↓ldF_x, ↓stF_x, ↓ln_x, ↓nO_x, ↓nA_x, onT_x, or2_x, un_s, nu_s, nu_n, ↓lt_x, ↓rt_x, ↓clB_x, ↓rtZ_x, iO_s, iO_n, ↓cO_x, dv_x, rm_x, ↓fl_x, below_x, among_x, in_x, l_toInt, inB_x, uN_nI, ↓ite_S, clB_s, clB_n, wI_T, wI_N, wI_F, wI_J, wI_X, wI_S, wJ_T, wJ_N, wJ_I, wJ_F, wJ_X, wJ_S, wF_T, wF_N, wF_I, wF_J, wF_X, wF_S, wIr_T, wIr_N, wIr_J, wIr_F, wIr_X, wIr_S, wJr_T, wJr_N, wJr_I, wJr_F, wJr_X, wJr_S, fit_10_10, fit_11_11, fit_12_1, fit_12_3, fit_12_4, fit_12_5, fit_1_1, fit_1_3, fit_1_4, fit_1_5, fit_2_2, fit_3_1, fit_3_3, fit_3_4, fit_3_5, fit_4_1, fit_4_3, fit_4_4, fit_4_5, fit_5_5, fit_6_6, fit_7_7, fit_8_8, fit_9_9, L_0, L_1, L_2, L_3, L_4, L_5, L_6, L_7, L_8, L_9, L_10, L_11, L_12, L_13, L_14, L_15, L_16, L_17, L_18, L_19, L_20, L_21, L_22, L_23, L_24, L_25, L_26, L_27, L_28, L_29, L_30, L_31, L_32, L_33, L_34, L_35, L_36, L_37, L_38, L_39, L_40, L_48, L_49, L_50, L_63, L_72, L_100, L_143, L_144, L_200, L_576, L_1000, L_1022, L_1151, L_1152, L_1440, L_5000, L_10000, L_1000000, L_2147483647, J_0, J_1, J_2, J_3, J_4, J_5, J_6, J_7, J_8, J_9, J_10, J_11, J_12, J_13, J_14, J_15, J_16, J_17, J_18, J_19, J_20, J_21, J_22, J_23, J_24, J_25, J_26, J_27, J_28, J_29, J_30, J_31, J_32, J_33, J_34, J_35, J_36, J_37, J_38, J_39, J_40, J_48, J_49, J_50, J_63, J_72, J_100, J_143, J_144, J_200, J_576, J_1000, J_1022, J_1151, J_1152, J_1440, J_5000, J_10000, J_1000000, J_2147483647, N_1, N_1000000, N_1000001, N_1000002, N_1000003, N_1000010, nI_toInt, nI_add, nI_mul, nI_et, nI_ef, nI_lt_t, nI_lt_f, nI_le_t, nI_le_f, inR_t, inR_f, nI_mI, mI_nI, mI_lt, nI_lm, mI_le, nI_em, Int.cast_ofNat_Int, Nat.reduceBEq, or_true, true_or, or_false, false_or, Bool.true_and, Bool.and_true, Bool.false_and, Bool.and_false, Bool.or_true, Bool.true_or, Bool.or_false, Bool.false_or, beq_self_eq_true, not_false_eq_true, if_true, if_false, ite_true, ite_false, eq_self, and_true, true_and, and_false, false_and, not_true_eq_false, not_false_eq_true, reduceCtorEq, and_self, Nat.reduceLeDiff, Nat.reduceEqDiff, Nat.reduceLT, Nat.reduceSub, Int.reduceSub, Int.reduceLE, ne_eq, ↓reduceIte, Nat.reduceMul, Nat.reduceAdd]
      · unfold pX1_fill
        rw [gF_x, hC.t5, if_pos (fit_2_2), lt_x, if_neg e1]
        refine (w1 _).trans ?_
        simp -implicitDefEqProofs (maxSteps := 2000000) (disch := first | omega | decide) only [t5, f41, g41, ng_x, b01, ite_clB, clB_id, clB_ie, nar_0, nar_1, wI_se, wI_ne, wJ_se, wJ_ne, wF_se, wF_ne, nw_Te, nw_Tn, nw_Ne, nw_Nn, nw_In, nw_Jn, nw_Fn, nw_X, nw_S, nI_pre, ↓gI_x, ↓gF_x, ↓pI_x, ↓pF_x, ↓pZ_x, ↓ldI_x, ↓stI_x, ↓ldZ_x, ↓stZ_x, ↓ldJ_x, ↓stJ_x, ↓ldF_x, ↓stF_x, ↓ln_x, ↓nO_x, ↓nA_x, onT_x, or2_x, un_s, nu_s, nu_n, ↓lt_x, ↓rt_x, ↓clB_x, ↓rtZ_x, iO_s, iO_n, ↓cO_x, dv_x, rm_x, ↓fl_x, below_x, among_x, in_x, l_toInt, inB_x, uN_nI, ↓ite_S, clB_s, clB_n, wI_T, wI_N, wI_F, wI_J, wI_X, wI_S, wJ_T, wJ_N, wJ_I, wJ_F, wJ_X, wJ_S, wF_T, wF_N, wF_I, wF_J, wF_X, wF_S, wIr_T, wIr_N, wIr_J, wIr_F, wIr_X, wIr_S, wJr_T, wJr_N, wJr_I, wJr_F, wJr_X, wJr_S, fit_10_10, fit_11_11, fit_12_1, fit_12_3, fit_12_4, fit_12_5, fit_1_1, fit_1_3, fit_1_4, fit_1_5, fit_2_2, fit_3_1, fit_3_3, fit_3_4, fit_3_5, fit_4_1, fit_4_3, fit_4_4, fit_4_5, fit_5_5, fit_6_6, fit_7_7, fit_8_8, fit_9_9, L_0, L_1, L_2, L_3, L_4, L_5, L_6, L_7, L_8, L_9, L_10, L_11, L_12, L_13, L_14, L_15, L_16, L_17, L_18, L_19, L_20, L_21, L_22, L_23, L_24, L_25, L_26, L_27, L_28, L_29, L_30, L_31, L_32, L_33, L_34, L_35, L_36, L_37, L_38, L_39, L_40, L_48, L_49, L_50, L_63, L_72, L_100, L_143, L_144, L_200, L_576, L_1000, L_1022, L_1151, L_1152, L_1440, L_5000, L_10000, L_1000000, L_2147483647, J_0, J_1, J_2, J_3, J_4, J_5, J_6, J_7, J_8, J_9, J_10, J_11, J_12, J_13, J_14, J_15, J_16, J_17, J_18, J_19, J_20, J_21, J_22, J_23, J_24, J_25, J_26, J_27, J_28, J_29, J_30, J_31, J_32, J_33, J_34, J_35, J_36, J_37, J_38, J_39, J_40, J_48, J_49, J_50, J_63, J_72, J_100, J_143, J_144, J_200, J_576, J_1000, J_1022, J_1151, J_1152, J_1440, J_5000, J_10000, J_1000000, J_2147483647, N_1, N_1000000, N_1000001, N_1000002, N_1000003, N_1000010, nI_toInt, nI_add, nI_mul, nI_et, nI_ef, nI_lt_t, nI_lt_f, nI_le_t, nI_le_f, inR_t, inR_f, nI_mI, mI_nI, mI_lt, nI_lm, mI_le, nI_em, Int.cast_ofNat_Int, Nat.reduceBEq, or_true, true_or, or_false, false_or, Bool.true_and, Bool.and_true, Bool.false_and, Bool.and_false, Bool.or_true, Bool.true_or, Bool.or_false, Bool.false_or, beq_self_eq_true, not_false_eq_true, if_true, if_false, ite_true, ite_false, eq_self, and_true, true_and, and_false, false_and, not_true_eq_false, not_false_eq_true, reduceCtorEq, and_self, Nat.reduceLeDiff, Nat.reduceEqDiff, Nat.reduceLT, Nat.reduceSub, Int.reduceSub, Int.reduceLE, ne_eq, ↓reduceIte, Nat.reduceMul, Nat.reduceAdd]
    · obtain ⟨z1, z2, z3, z4, z5, z6⟩ := w4
      refine ⟨z1, ⟨?_, ?_⟩, fun c hc => ?_, ?_, fun r hr => ?_, fun r hr => ?_⟩
      · simp -implicitDefEqProofs (maxSteps := 2000000) (disch := first | omega | (simp -implicitDefEqProofs only [wI_X, wJ_X, wF_X, nw_X]; first | done | omega)) only [ wI_se, wI_ne, wJ_se, wJ_ne, wF_se, wF_ne, nw_Te, nw_Tn, nw_Ne, nw_Nn, nw_In, nw_Jn, nw_Fn, nw_X, nw_S, wI_row, wJ_row, wF_row, wIr_row, wJr_row, wIr_at, wJr_at, wI_T, wI_N, wI_F, wI_J, wI_X, wI_S, wJ_T, wJ_N, wJ_I, wJ_F, wJ_X, wJ_S, wF_T, wF_N, wF_I, wF_J, wF_X, wF_S, wIr_T, wIr_N, wIr_J, wIr_F, wIr_X, wIr_S, wJr_T, wJr_N, wJr_I, wJr_F, wJr_X, wJr_S]
        exact z2.1
      · simp -implicitDefEqProofs (maxSteps := 2000000) (disch := first | omega | (simp -implicitDefEqProofs only [wI_X, wJ_X, wF_X, nw_X]; first | done | omega)) only [ wI_se, wI_ne, wJ_se, wJ_ne, wF_se, wF_ne, nw_Te, nw_Tn, nw_Ne, nw_Nn, nw_In, nw_Jn, nw_Fn, nw_X, nw_S, wI_row, wJ_row, wF_row, wIr_row, wJr_row, wIr_at, wJr_at, wI_T, wI_N, wI_F, wI_J, wI_X, wI_S, wJ_T, wJ_N, wJ_I, wJ_F, wJ_X, wJ_S, wF_T, wF_N, wF_I, wF_J, wF_X, wF_S, wIr_T, wIr_N, wIr_J, wIr_F, wIr_X, wIr_S, wJr_T, wJr_N, wJr_I, wJr_F, wJr_X, wJr_S]
        exact z2.2
      · simp -implicitDefEqProofs (maxSteps := 2000000) (disch := first | omega | (simp -implicitDefEqProofs only [wI_X, wJ_X, wF_X, nw_X]; first | done | omega)) only [ wI_se, wI_ne, wJ_se, wJ_ne, wF_se, wF_ne, nw_Te, nw_Tn, nw_Ne, nw_Nn, nw_In, nw_Jn, nw_Fn, nw_X, nw_S, wI_row, wJ_row, wF_row, wIr_row, wJr_row, wIr_at, wJr_at, wI_T, wI_N, wI_F, wI_J, wI_X, wI_S, wJ_T, wJ_N, wJ_I, wJ_F, wJ_X, wJ_S, wF_T, wF_N, wF_I, wF_J, wF_X, wF_S, wIr_T, wIr_N, wIr_J, wIr_F, wIr_X, wIr_S, wJr_T, wJr_N, wJr_I, wJr_F, wJr_X, wJr_S]
        exact z3 c hc
      · simp -implicitDefEqProofs (maxSteps := 2000000) (disch := first | omega | (simp -implicitDefEqProofs only [wI_X, wJ_X, wF_X, nw_X]; first | done | omega)) only [ wI_se, wI_ne, wJ_se, wJ_ne, wF_se, wF_ne, nw_Te, nw_Tn, nw_Ne, nw_Nn, nw_In, nw_Jn, nw_Fn, nw_X, nw_S, wI_row, wJ_row, wF_row, wIr_row, wJr_row, wIr_at, wJr_at, wI_T, wI_N, wI_F, wI_J, wI_X, wI_S, wJ_T, wJ_N, wJ_I, wJ_F, wJ_X, wJ_S, wF_T, wF_N, wF_I, wF_J, wF_X, wF_S, wIr_T, wIr_N, wIr_J, wIr_F, wIr_X, wIr_S, wJr_T, wJr_N, wJr_I, wJr_F, wJr_X, wJr_S]
        exact z4
      · simp -implicitDefEqProofs (maxSteps := 2000000) (disch := first | omega | (simp -implicitDefEqProofs only [wI_X, wJ_X, wF_X, nw_X]; first | done | omega)) only [ wI_se, wI_ne, wJ_se, wJ_ne, wF_se, wF_ne, nw_Te, nw_Tn, nw_Ne, nw_Nn, nw_In, nw_Jn, nw_Fn, nw_X, nw_S, wI_row, wJ_row, wF_row, wIr_row, wJr_row, wIr_at, wJr_at, wI_T, wI_N, wI_F, wI_J, wI_X, wI_S, wJ_T, wJ_N, wJ_I, wJ_F, wJ_X, wJ_S, wF_T, wF_N, wF_I, wF_J, wF_X, wF_S, wIr_T, wIr_N, wIr_J, wIr_F, wIr_X, wIr_S, wJr_T, wJr_N, wJr_I, wJr_F, wJr_X, wJr_S]
        exact z5 r hr
      · simp -implicitDefEqProofs (maxSteps := 2000000) (disch := first | omega | (simp -implicitDefEqProofs only [wI_X, wJ_X, wF_X, nw_X]; first | done | omega)) only [ wI_se, wI_ne, wJ_se, wJ_ne, wF_se, wF_ne, nw_Te, nw_Tn, nw_Ne, nw_Nn, nw_In, nw_Jn, nw_Fn, nw_X, nw_S, wI_row, wJ_row, wF_row, wIr_row, wJr_row, wIr_at, wJr_at, wI_T, wI_N, wI_F, wI_J, wI_X, wI_S, wJ_T, wJ_N, wJ_I, wJ_F, wJ_X, wJ_S, wF_T, wF_N, wF_I, wF_J, wF_X, wF_S, wIr_T, wIr_N, wIr_J, wIr_F, wIr_X, wIr_S, wJr_T, wJr_N, wJr_I, wJr_F, wJr_X, wJr_S]
        exact z6 r hr
    · simp -implicitDefEqProofs (maxSteps := 2000000) (disch := first | omega | (simp -implicitDefEqProofs only [wI_X, wJ_X, wF_X, nw_X]; first | done | omega)) only [ wI_se, wI_ne, wJ_se, wJ_ne, wF_se, wF_ne, nw_Te, nw_Tn, nw_Ne, nw_Nn, nw_In, nw_Jn, nw_Fn, nw_X, nw_S, wI_row, wJ_row, wF_row, wIr_row, wJr_row, wIr_at, wJr_at, wI_T, wI_N, wI_F, wI_J, wI_X, wI_S, wJ_T, wJ_N, wJ_I, wJ_F, wJ_X, wJ_S, wF_T, wF_N, wF_I, wF_J, wF_X, wF_S, wIr_T, wIr_N, wIr_J, wIr_F, wIr_X, wIr_S, wJr_T, wJr_N, wJr_I, wJr_F, wJr_X, wJr_S]
    · simp -implicitDefEqProofs (maxSteps := 2000000) (disch := first | omega | (simp -implicitDefEqProofs only [wI_X, wJ_X, wF_X, nw_X]; first | done | omega)) only [ wI_se, wI_ne, wJ_se, wJ_ne, wF_se, wF_ne, nw_Te, nw_Tn, nw_Ne, nw_Nn, nw_In, nw_Jn, nw_Fn, nw_X, nw_S, wI_row, wJ_row, wF_row, wIr_row, wJr_row, wIr_at, wJr_at, wI_T, wI_N, wI_F, wI_J, wI_X, wI_S, wJ_T, wJ_N, wJ_I, wJ_F, wJ_X, wJ_S, wF_T, wF_N, wF_I, wF_J, wF_X, wF_S, wIr_T, wIr_N, wIr_J, wIr_F, wIr_X, wIr_S, wJr_T, wJr_N, wJr_I, wJr_F, wJr_X, wJr_S]
theorem FlowIs.kf {L : Nat → Nat} {k : Nat} {o : Nat → Nat} (e : PDof C1 b = D) (ip : isP (sT C1 (b + 1))) (fi : FlowIs X C1 D L k o) (e8 : sF C1 (X + 5) 8 = some (b + 1)) (e9 : sI C1 (X + 5) 9 = nI (pdG D)) : KF X C1 := fun a ha => by
  rw [e8] at ha
  cases ha
  subst e
  exact ⟨b, pdG (PDof C1 b), L, k, o, rfl, ip, e9, Nat.le_refl _, fi⟩
/-- what else there is stays -/
theorem R0.flow (h : R0 X C R) (ff : FF X C C1) (kf : KF X C1) : R0 X C1 R := by
  have hf := ff.fr
  have hT : sT C1 = sT C := ff.1.1
  have hd : ∀ a, sT C a = 8 ∨ sT C a = 22 → ¬ (X + 5 ≤ a ∧ a ≤ X + 11) := by
    intro a ha hwa
    have := h.ck.tag (k := a - X) (by omega)
    rw [show X + (a - X) = a from by omega] at this
    omega
  have hv8 : ∀ a, sT C a = 8 → ¬ a = X + 5 := fun a ha q => hd a (Or.inl ha) (by omega)
  have hw2 : ∀ a, X + 72 ≤ a → sT C a ≠ 8 → sT C a ≠ 22 → ¬ (X + 5 ≤ a ∧ a ≤ X + 11) := fun a ha _ _ q => by omega
  have hv2 : ∀ a, X + 72 ≤ a → sT C a ≠ 8 → ¬ a = X + 5 := fun a ha _ q => by omega
  have hn0 : ∀ a, sT C a = 0 → ¬ isP (sT C1 a) ∧ sT C1 a ≠ 3 := fun a ha => by
    rw [hT, ha]
    exact ⟨by unfold isP; omega, by omega⟩
  exact ⟨ff.ck h.ck, h.rk, h.ks.keep h.ck hf hd hv8 (by omega) rfl rfl rfl, h.kp.keep hf hn0 hw2 hv2, h.kt.keep h.ck h.kp hf hw2 hv2 (by omega) (fun _ _ _ => rfl), h.ke.keep h.ck hf (by omega) (by omega) rfl rfl, kf, h.kr.keep h.ck hf (by omega) (by omega) (congrFun (hf.I h.ck (k := 12) (by decide) (by omega)) 4) (by omega) (by omega) (by omega) rfl rfl (fun _ _ _ => rfl), h.kh.keep h.ck hf (fun k k1 k2 => by omega) (fun _ _ => rfl) (fun _ _ _ => rfl)⟩
theorem PartOk.pc (h : PartOk X C b) : PC X C b (PDof C b) := ⟨h.1.1, h.1.2.1, h.1.2.2.1, h.2.1.1, h.2.1.2.1, h.2.2.2.1, h.2.2.1.1, h.2.2.1.2.2.2.1, h.2.2.1.2.1, h.2.2.1.2.2.1, h.2.2.1.2.2.2.2.1, h.2.2.1.2.2.2.2.2⟩
theorem PartOk.pg (h : PartOk X C b) : PG X C b (PDof C b) := ⟨h.1.2.2.2.2, h.2.1.2.2.1, h.2.1.2.2.2.1, h.2.2.2.2.1.1, fun j hj => (h.2.2.2.2.2.1 j hj).1⟩
theorem PartOk.gok (h : PartOk X C b) : GOk (PDof C b) := ⟨h.2.2.2.2.1.2, fun j hj => (h.2.2.2.2.2.1 j hj).2, h.2.2.2.2.2.2.1⟩
theorem PartR.rp {p : Nat} (ok : PartOk X C b) (h : PartR X p C R b) (hp : p < 10) : RP X R p (PDof C b) := ⟨hp, h.2.1, h.2.2.1, ok.2.2.1.2.1, ok.2.2.1.2.2.1, ok.2.2.1.2.2.2.2.1, ok.2.2.1.2.2.2.2.2, h.2.2.2.1, fun k hk => (ok.2.2.2.1 k hk).2⟩
theorem PartR.gq {p : Nat} (h : PartR X p C R b) : GQ X R p (mI 1000000) (PDof C b) := Or.inl ⟨rfl, h.2.2.2.2.1, h.2.2.2.2.2.1⟩
end Fi
