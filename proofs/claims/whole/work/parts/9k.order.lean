/-! (B) plan: the reference takes them one by one -/
section Ok
variable {X n p : Nat} {R R1 : St} {own c : Nat → Nat}
/-- what stands last: nothing, or the l-th -/
def Lst2 (n : Nat) (cl : Nat → Nat) (v : Int32) (x : Option Nat) : Prop := (x = none ∧ v = mI 1000000) ∨ ∃ l, l < n ∧ v = nI l ∧ x = some (cl l)
theorem pick_L {left at' : Nat} {v : Int32} {x : Option Nat} (hR : RK X R) (hn : n ≤ 12) (ow : OW X R n own c) (hs : left < 2 ^ n) (lst : Lst2 n (fun k => c (own k)) v x) (tbl : TB X R n (fun k => c (own k)) (2 ^ n)) : ∀ (m i fuel : Nat) (b mo : Int32), i + m = n → m < fuel → ((b = mI 1000000 ∧ ∀ j, j < i → ¬ mem left j) ∨ ∃ j0, j0 < i ∧ b = nI j0 ∧ mo = nI (px x (c (own j0)) + tb X R (rmv left j0) j0) ∧ mem left j0 ∧ (∀ j, j < i → mem left j → px x (c (own j0)) + tb X R (rmv left j0) j0 ≤ px x (c (own j)) + tb X R (rmv left j) j) ∧ ∀ j, j < j0 → mem left j → px x (c (own j0)) + tb X R (rmv left j0) j0 < px x (c (own j)) + tb X R (rmv left j) j) → (∃ j, mem left j) → ∃ j0, mem left j0 ∧ (∀ K, pX11_putInOrder_L212 (X + 34) (nI p) (nI n) (nI left) v (nI at') K fuel b mo (nI i) R = K (nI j0) (nI (px x (c (own j0)) + tb X R (rmv left j0) j0)) R) ∧ (∀ j, mem left j → px x (c (own j0)) + tb X R (rmv left j0) j0 ≤ px x (c (own j)) + tb X R (rmv left j) j) ∧ ∀ j, j < j0 → mem left j → px x (c (own j0)) + tb X R (rmv left j0) j0 < px x (c (own j)) + tb X R (rmv left j) j := by
  obtain ⟨p1, p2⟩ := two_le hn
  have bnd : ∀ j, mem left j → px x (c (own j)) + tb X R (rmv left j) j ≤ 200000 := fun j hj => by
    have jn := mem_lt hs hj
    have a := (tbl (rmv left j) j (by have := rmv_lt hj; omega) jn).2.2.2
    have b := rmv_lt hj
    have e : px x (c (own j)) ≤ 48 := by
      rcases lst with ⟨z, -⟩ | ⟨l, l1, -, z⟩
      · rw [z]; exact Nat.zero_le _
      · rw [z]; exact pn_le (ow l l1).2.2.2 (ow j jn).2.2.2
    omega
  intro m
  induction m with
  | zero =>
    intro i fuel b mo hi hf st ex
    obtain ⟨f, rfl⟩ : ∃ f, fuel = f + 1 := ⟨fuel - 1, by omega⟩
    rcases st with ⟨-, q⟩ | ⟨j0, q1, q2, q3, q4, q5, q6⟩
    · obtain ⟨j, hj⟩ := ex
      exact absurd hj (q j (by have := mem_lt hs hj; omega))
    · subst q2
      subst q3
      refine ⟨j0, q4, fun K => ?_, fun j hj => q5 j (by have := mem_lt hs hj; omega) hj, q6⟩
      simp -implicitDefEqProofs (maxSteps := 2000000) (disch := first | omega | exact hgp | exact RK.mv hR rfl rfl rfl | exact CK.mv hC rfl rfl rfl | decide | (simp -implicitDefEqProofs only [wI_X, wJ_X, wF_X, nw_X]; first | done | omega)) only [pX11_putInOrder_L212, ng_x, b01, ite_clB, clB_id, clB_ie, nar_0, nar_1, wI_se, wI_ne, wJ_se, wJ_ne, wF_se, wF_ne, nw_Te, nw_Tn, nw_Ne, nw_Nn, nw_In, nw_Jn, nw_Fn, nw_X, nw_S, nI_pre, ↓gI_x, ↓gF_x, ↓pI_x, ↓pF_x, ↓pZ_x, ↓ldI_x, ↓stI_x, ↓ldZ_x, ↓stZ_x, ↓ldJ_x, ↓stJ_x, ↓ldF_x, ↓stF_x, ↓ln_x, ↓nO_x, ↓nA_x, onT_x, or2_x, un_s, nu_s, nu_n, ↓lt_x, ↓rt_x, ↓clB_x, ↓rtZ_x, iO_s, iO_n, ↓cO_x, dv_x, rm_x, ↓fl_x, below_x, among_x, in_x, l_toInt, inB_x, uN_nI, ↓ite_S, clB_s, clB_n, wI_T, wI_N, wI_F, wI_J, wI_X, wI_S, wJ_T, wJ_N, wJ_I, wJ_F, wJ_X, wJ_S, wF_T, wF_N, wF_I, wF_J, wF_X, wF_S, wIr_T, wIr_N, wIr_J, wIr_F, wIr_X, wIr_S, wJr_T, wJr_N, wJr_I, wJr_F, wJr_X, wJr_S, fit_10_10, fit_11_11, fit_12_1, fit_12_3, fit_12_4, fit_12_5, fit_1_1, fit_1_3, fit_1_4, fit_1_5, fit_2_2, fit_3_1, fit_3_3, fit_3_4, fit_3_5, fit_4_1, fit_4_3, fit_4_4, fit_4_5, fit_5_5, fit_6_6, fit_7_7, fit_8_8, fit_9_9, L_0, L_1, L_2, L_3, L_4, L_5, L_6, L_7, L_8, L_9, L_10, L_11, L_12, L_13, L_14, L_15, L_16, L_17, L_18, L_19, L_20, L_21, L_22, L_23, L_24, L_25, L_26, L_27, L_28, L_29, L_30, L_31, L_32, L_33, L_34, L_35, L_36, L_37, L_38, L_39, L_40, L_48, L_49, L_50, L_63, L_72, L_100, L_143, L_144, L_200, L_576, L_1000, L_1022, L_1151, L_1152, L_1440, L_5000, L_10000, L_1000000, L_2147483647, J_0, J_1, J_2, J_3, J_4, J_5, J_6, J_7, J_8, J_9, J_10, J_11, J_12, J_13, J_14, J_15, J_16, J_17, J_18, J_19, J_20, J_21, J_22, J_23, J_24, J_25, J_26, J_27, J_28, J_29, J_30, J_31, J_32, J_33, J_34, J_35, J_36, J_37, J_38, J_39, J_40, J_48, J_49, J_50, J_63, J_72, J_100, J_143, J_144, J_200, J_576, J_1000, J_1022, J_1151, J_1152, J_1440, J_5000, J_10000, J_1000000, J_2147483647, N_1, N_1000000, N_1000001, N_1000002, N_1000003, N_1000010, nI_toInt, nI_add, nI_mul, nI_et, nI_ef, nI_lt_t, nI_lt_f, nI_le_t, nI_le_f, inR_t, inR_f, nI_mI, mI_nI, mI_lt, nI_lm, mI_le, nI_em, Int.cast_ofNat_Int, Nat.reduceBEq, or_true, true_or, or_false, false_or, Bool.true_and, Bool.and_true, Bool.false_and, Bool.and_false, Bool.or_true, Bool.true_or, Bool.or_false, Bool.false_or, beq_self_eq_true, not_false_eq_true, if_true, if_false, ite_true, ite_false, eq_self, and_true, true_and, and_false, false_and, not_true_eq_false, not_false_eq_true, reduceCtorEq, and_self, Nat.reduceLeDiff, Nat.reduceEqDiff, Nat.reduceLT, Nat.reduceSub, Int.reduceSub, Int.reduceLE, ne_eq, ↓reduceIte, Nat.reduceMul, Nat.reduceAdd, hR.t34, hR.t35, hR.n35, hR.t36, hR.n36, hR.t37, hR.n37, hR.t38, hR.n38, hR.t39, hR.n39, hR.t40, hR.n40, hR.t41, hR.n41, hR.t42, hR.n42, hR.t43, hR.n43, hR.t44, hR.n44, hR.t45, hR.n45, hR.t46, hR.n46, hR.t47, hR.n47, hR.t48, hR.n48, hR.t49, hR.n49, hR.t50, hR.n50, hR.t51, hR.n51, hR.t52, hR.n52, hR.t53, hR.n53, hR.t54, hR.n54, hR.t55, hR.n55, hR.t56, hR.n56, hR.t57, hR.n57, hR.t58, hR.n58, hR.t59, hR.n59, hR.t60, hR.n60, hR.t61, hR.n61, hR.t62, hR.n62, hR.t63, hR.n63, hR.t64, hR.n64, hR.t65, hR.n65, hR.t66, hR.n66, hR.t67, hR.n67, hR.t68, hR.n68, hR.t69, hR.n69, hR.t70, hR.n70, hR.t71, hR.n71, hR.f2, hR.f3, hR.f4, hR.f5, hR.f6, hR.f7, hR.f8, hR.f9, hR.f10, hR.f11, hR.f12, hR.f13, hR.f14, hR.f15, hR.f16, hR.f18, hR.f19, hR.f20, hR.f21, hR.f22, hR.f25, hR.f26, hR.f27, hR.f28, hR.f29, hR.f30, hR.f31, hR.f32, hR.f34, hR.f36, hR.f37, hR.f38, hR.f40, hR.f41, hR.f42, hR.f43, hR.f44]
  | succ m ih =>
    intro i fuel b mo hi hf st ex
    obtain ⟨f, rfl⟩ : ∃ f, fuel = f + 1 := ⟨fuel - 1, by omega⟩
    obtain ⟨i1, i2, i3, i4⟩ := ow i (by omega)
    by_cases g : mem left i
    · have g' := bit_t (s := left) (j := i) (by omega) (by omega) g
      have rl := rmv_lt g
      have rI := rmv_I (s := left) (j := i) (by omega) (by omega) g
      obtain ⟨t1, t2⟩ := tbl (rmv left i) i (by omega) (by omega)
      have bi := bnd i g
      have r34 := hR.t34
      -- the pains of i, as they are worked out
      have run : ∀ K, ∀ (Y : Option (Unit × St)), (if b = mI 1000000 then pX11_putInOrder_L212 (X + 34) (nI p) (nI n) (nI left) v (nI at') K f (nI i) (nI (px x (c (own i)) + tb X R (rmv left i) i)) (nI (i + 1)) R else if mo ≤ nI (px x (c (own i)) + tb X R (rmv left i) i) then pX11_putInOrder_L212 (X + 34) (nI p) (nI n) (nI left) v (nI at') K f b mo (nI (i + 1)) R else pX11_putInOrder_L212 (X + 34) (nI p) (nI n) (nI left) v (nI at') K f (nI i) (nI (px x (c (own i)) + tb X R (rmv left i) i)) (nI (i + 1)) R) = Y → pX11_putInOrder_L212 (X + 34) (nI p) (nI n) (nI left) v (nI at') K (f + 1) b mo (nI i) R = Y := fun K Y hY => by
        rw [← hY]
        rcases lst with ⟨z1, z2⟩ | ⟨l, l1, z1, z2⟩
        · subst z1
          subst z2
          have e : px none (c (own i)) + tb X R (rmv left i) i = tb X R (rmv left i) i := Nat.zero_add _
          rw [e]
          have e0 : nI 0 + nI (tb X R (rmv left i) i) = nI (tb X R (rmv left i) i) := by rw [nI_add, Nat.zero_add]
          simp -implicitDefEqProofs (maxSteps := 2000000) (disch := first | omega | exact hgp | exact RK.mv hR rfl rfl rfl | exact CK.mv hC rfl rfl rfl | decide | (simp -implicitDefEqProofs only [wI_X, wJ_X, wF_X, nw_X]; first | done | omega)) only [pX11_putInOrder_L212, g', rI, t1, Nat.zero_add, ng_x, b01, ite_clB, clB_id, clB_ie, nar_0, nar_1, wI_se, wI_ne, wJ_se, wJ_ne, wF_se, wF_ne, nw_Te, nw_Tn, nw_Ne, nw_Nn, nw_In, nw_Jn, nw_Fn, nw_X, nw_S, nI_pre, ↓gI_x, ↓gF_x, ↓pI_x, ↓pF_x, ↓pZ_x, ↓ldI_x, ↓stI_x, ↓ldZ_x, ↓stZ_x, ↓ldJ_x, ↓stJ_x, ↓ldF_x, ↓stF_x, ↓ln_x, ↓nO_x, ↓nA_x, onT_x, or2_x, un_s, nu_s, nu_n, ↓lt_x, ↓rt_x, ↓clB_x, ↓rtZ_x, iO_s, iO_n, ↓cO_x, dv_x, rm_x, ↓fl_x, below_x, among_x, in_x, l_toInt, inB_x, uN_nI, ↓ite_S, clB_s, clB_n, wI_T, wI_N, wI_F, wI_J, wI_X, wI_S, wJ_T, wJ_N, wJ_I, wJ_F, wJ_X, wJ_S, wF_T, wF_N, wF_I, wF_J, wF_X, wF_S, wIr_T, wIr_N, wIr_J, wIr_F, wIr_X, wIr_S, wJr_T, wJr_N, wJr_I, wJr_F, wJr_X, wJr_S, fit_10_10, fit_11_11, fit_12_1, fit_12_3, fit_12_4, fit_12_5, fit_1_1, fit_1_3, fit_1_4, fit_1_5, fit_2_2, fit_3_1, fit_3_3, fit_3_4, fit_3_5, fit_4_1, fit_4_3, fit_4_4, fit_4_5, fit_5_5, fit_6_6, fit_7_7, fit_8_8, fit_9_9, L_0, L_1, L_2, L_3, L_4, L_5, L_6, L_7, L_8, L_9, L_10, L_11, L_12, L_13, L_14, L_15, L_16, L_17, L_18, L_19, L_20, L_21, L_22, L_23, L_24, L_25, L_26, L_27, L_28, L_29, L_30, L_31, L_32, L_33, L_34, L_35, L_36, L_37, L_38, L_39, L_40, L_48, L_49, L_50, L_63, L_72, L_100, L_143, L_144, L_200, L_576, L_1000, L_1022, L_1151, L_1152, L_1440, L_5000, L_10000, L_1000000, L_2147483647, J_0, J_1, J_2, J_3, J_4, J_5, J_6, J_7, J_8, J_9, J_10, J_11, J_12, J_13, J_14, J_15, J_16, J_17, J_18, J_19, J_20, J_21, J_22, J_23, J_24, J_25, J_26, J_27, J_28, J_29, J_30, J_31, J_32, J_33, J_34, J_35, J_36, J_37, J_38, J_39, J_40, J_48, J_49, J_50, J_63, J_72, J_100, J_143, J_144, J_200, J_576, J_1000, J_1022, J_1151, J_1152, J_1440, J_5000, J_10000, J_1000000, J_2147483647, N_1, N_1000000, N_1000001, N_1000002, N_1000003, N_1000010, nI_toInt, nI_add, nI_mul, nI_et, nI_ef, nI_lt_t, nI_lt_f, nI_le_t, nI_le_f, inR_t, inR_f, nI_mI, mI_nI, mI_lt, nI_lm, mI_le, nI_em, Int.cast_ofNat_Int, Nat.reduceBEq, or_true, true_or, or_false, false_or, Bool.true_and, Bool.and_true, Bool.false_and, Bool.and_false, Bool.or_true, Bool.true_or, Bool.or_false, Bool.false_or, beq_self_eq_true, not_false_eq_true, if_true, if_false, ite_true, ite_false, eq_self, and_true, true_and, and_false, false_and, not_true_eq_false, not_false_eq_true, reduceCtorEq, and_self, Nat.reduceLeDiff, Nat.reduceEqDiff, Nat.reduceLT, Nat.reduceSub, Int.reduceSub, Int.reduceLE, ne_eq, ↓reduceIte, Nat.reduceMul, Nat.reduceAdd, hR.t34, hR.t35, hR.n35, hR.t36, hR.n36, hR.t37, hR.n37, hR.t38, hR.n38, hR.t39, hR.n39, hR.t40, hR.n40, hR.t41, hR.n41, hR.t42, hR.n42, hR.t43, hR.n43, hR.t44, hR.n44, hR.t45, hR.n45, hR.t46, hR.n46, hR.t47, hR.n47, hR.t48, hR.n48, hR.t49, hR.n49, hR.t50, hR.n50, hR.t51, hR.n51, hR.t52, hR.n52, hR.t53, hR.n53, hR.t54, hR.n54, hR.t55, hR.n55, hR.t56, hR.n56, hR.t57, hR.n57, hR.t58, hR.n58, hR.t59, hR.n59, hR.t60, hR.n60, hR.t61, hR.n61, hR.t62, hR.n62, hR.t63, hR.n63, hR.t64, hR.n64, hR.t65, hR.n65, hR.t66, hR.n66, hR.t67, hR.n67, hR.t68, hR.n68, hR.t69, hR.n69, hR.t70, hR.n70, hR.t71, hR.n71, hR.f2, hR.f3, hR.f4, hR.f5, hR.f6, hR.f7, hR.f8, hR.f9, hR.f10, hR.f11, hR.f12, hR.f13, hR.f14, hR.f15, hR.f16, hR.f18, hR.f19, hR.f20, hR.f21, hR.f22, hR.f25, hR.f26, hR.f27, hR.f28, hR.f29, hR.f30, hR.f31, hR.f32, hR.f34, hR.f36, hR.f37, hR.f38, hR.f40, hR.f41, hR.f42, hR.f43, hR.f44]
        · subst z1
          subst z2
          have pa := pain_x hR ow l1 (by omega : i < n)
          have k1 := (ow l l1).1
          have e : px (some (c (own l))) (c (own i)) = pn (c (own l)) (c (own i)) := rfl
          rw [e]
          simp -implicitDefEqProofs (maxSteps := 2000000) (disch := first | omega | exact hgp | exact RK.mv hR rfl rfl rfl | exact CK.mv hC rfl rfl rfl | decide | (simp -implicitDefEqProofs only [wI_X, wJ_X, wF_X, nw_X]; first | done | omega)) only [pX11_putInOrder_L212, g', rI, t1, k1, i1, pa, ng_x, b01, ite_clB, clB_id, clB_ie, nar_0, nar_1, wI_se, wI_ne, wJ_se, wJ_ne, wF_se, wF_ne, nw_Te, nw_Tn, nw_Ne, nw_Nn, nw_In, nw_Jn, nw_Fn, nw_X, nw_S, nI_pre, ↓gI_x, ↓gF_x, ↓pI_x, ↓pF_x, ↓pZ_x, ↓ldI_x, ↓stI_x, ↓ldZ_x, ↓stZ_x, ↓ldJ_x, ↓stJ_x, ↓ldF_x, ↓stF_x, ↓ln_x, ↓nO_x, ↓nA_x, onT_x, or2_x, un_s, nu_s, nu_n, ↓lt_x, ↓rt_x, ↓clB_x, ↓rtZ_x, iO_s, iO_n, ↓cO_x, dv_x, rm_x, ↓fl_x, below_x, among_x, in_x, l_toInt, inB_x, uN_nI, ↓ite_S, clB_s, clB_n, wI_T, wI_N, wI_F, wI_J, wI_X, wI_S, wJ_T, wJ_N, wJ_I, wJ_F, wJ_X, wJ_S, wF_T, wF_N, wF_I, wF_J, wF_X, wF_S, wIr_T, wIr_N, wIr_J, wIr_F, wIr_X, wIr_S, wJr_T, wJr_N, wJr_I, wJr_F, wJr_X, wJr_S, fit_10_10, fit_11_11, fit_12_1, fit_12_3, fit_12_4, fit_12_5, fit_1_1, fit_1_3, fit_1_4, fit_1_5, fit_2_2, fit_3_1, fit_3_3, fit_3_4, fit_3_5, fit_4_1, fit_4_3, fit_4_4, fit_4_5, fit_5_5, fit_6_6, fit_7_7, fit_8_8, fit_9_9, L_0, L_1, L_2, L_3, L_4, L_5, L_6, L_7, L_8, L_9, L_10, L_11, L_12, L_13, L_14, L_15, L_16, L_17, L_18, L_19, L_20, L_21, L_22, L_23, L_24, L_25, L_26, L_27, L_28, L_29, L_30, L_31, L_32, L_33, L_34, L_35, L_36, L_37, L_38, L_39, L_40, L_48, L_49, L_50, L_63, L_72, L_100, L_143, L_144, L_200, L_576, L_1000, L_1022, L_1151, L_1152, L_1440, L_5000, L_10000, L_1000000, L_2147483647, J_0, J_1, J_2, J_3, J_4, J_5, J_6, J_7, J_8, J_9, J_10, J_11, J_12, J_13, J_14, J_15, J_16, J_17, J_18, J_19, J_20, J_21, J_22, J_23, J_24, J_25, J_26, J_27, J_28, J_29, J_30, J_31, J_32, J_33, J_34, J_35, J_36, J_37, J_38, J_39, J_40, J_48, J_49, J_50, J_63, J_72, J_100, J_143, J_144, J_200, J_576, J_1000, J_1022, J_1151, J_1152, J_1440, J_5000, J_10000, J_1000000, J_2147483647, N_1, N_1000000, N_1000001, N_1000002, N_1000003, N_1000010, nI_toInt, nI_add, nI_mul, nI_et, nI_ef, nI_lt_t, nI_lt_f, nI_le_t, nI_le_f, inR_t, inR_f, nI_mI, mI_nI, mI_lt, nI_lm, mI_le, nI_em, Int.cast_ofNat_Int, Nat.reduceBEq, or_true, true_or, or_false, false_or, Bool.true_and, Bool.and_true, Bool.false_and, Bool.and_false, Bool.or_true, Bool.true_or, Bool.or_false, Bool.false_or, beq_self_eq_true, not_false_eq_true, if_true, if_false, ite_true, ite_false, eq_self, and_true, true_and, and_false, false_and, not_true_eq_false, not_false_eq_true, reduceCtorEq, and_self, Nat.reduceLeDiff, Nat.reduceEqDiff, Nat.reduceLT, Nat.reduceSub, Int.reduceSub, Int.reduceLE, ne_eq, ↓reduceIte, Nat.reduceMul, Nat.reduceAdd, hR.t34, hR.t35, hR.n35, hR.t36, hR.n36, hR.t37, hR.n37, hR.t38, hR.n38, hR.t39, hR.n39, hR.t40, hR.n40, hR.t41, hR.n41, hR.t42, hR.n42, hR.t43, hR.n43, hR.t44, hR.n44, hR.t45, hR.n45, hR.t46, hR.n46, hR.t47, hR.n47, hR.t48, hR.n48, hR.t49, hR.n49, hR.t50, hR.n50, hR.t51, hR.n51, hR.t52, hR.n52, hR.t53, hR.n53, hR.t54, hR.n54, hR.t55, hR.n55, hR.t56, hR.n56, hR.t57, hR.n57, hR.t58, hR.n58, hR.t59, hR.n59, hR.t60, hR.n60, hR.t61, hR.n61, hR.t62, hR.n62, hR.t63, hR.n63, hR.t64, hR.n64, hR.t65, hR.n65, hR.t66, hR.n66, hR.t67, hR.n67, hR.t68, hR.n68, hR.t69, hR.n69, hR.t70, hR.n70, hR.t71, hR.n71, hR.f2, hR.f3, hR.f4, hR.f5, hR.f6, hR.f7, hR.f8, hR.f9, hR.f10, hR.f11, hR.f12, hR.f13, hR.f14, hR.f15, hR.f16, hR.f18, hR.f19, hR.f20, hR.f21, hR.f22, hR.f25, hR.f26, hR.f27, hR.f28, hR.f29, hR.f30, hR.f31, hR.f32, hR.f34, hR.f36, hR.f37, hR.f38, hR.f40, hR.f41, hR.f42, hR.f43, hR.f44]
      have takeI : (∀ j, j < i → mem left j → px x (c (own i)) + tb X R (rmv left i) i < px x (c (own j)) + tb X R (rmv left j) j) → ∃ j0, mem left j0 ∧ (∀ K, pX11_putInOrder_L212 (X + 34) (nI p) (nI n) (nI left) v (nI at') K f (nI i) (nI (px x (c (own i)) + tb X R (rmv left i) i)) (nI (i + 1)) R = K (nI j0) (nI (px x (c (own j0)) + tb X R (rmv left j0) j0)) R) ∧ (∀ j, mem left j → px x (c (own j0)) + tb X R (rmv left j0) j0 ≤ px x (c (own j)) + tb X R (rmv left j) j) ∧ ∀ j, j < j0 → mem left j → px x (c (own j0)) + tb X R (rmv left j0) j0 < px x (c (own j)) + tb X R (rmv left j) j := fun q => ih (i + 1) f (nI i) _ (by omega) (by omega) (Or.inr ⟨i, by omega, rfl, rfl, g, fun j hj mj => by
        by_cases e : j = i
        · rw [e]; exact Nat.le_refl _
        · exact Nat.le_of_lt (q j (by omega) mj), q⟩) ex
      rcases st with ⟨q1, q2⟩ | ⟨j0, q1, q2, q3, q4, q5, q6⟩
      · obtain ⟨j1, w1, w2, w3⟩ := takeI (fun j hj mj => absurd mj (q2 j hj))
        refine ⟨j1, w1, fun K => run K _ ?_, w3⟩
        rw [if_pos q1]
        exact w2 K
      · have bj := bnd j0 q4
        have nb : ¬ b = mI 1000000 := fun z => by
          rw [q2, nI_mI (by omega) (by omega) (by omega)] at z
          exact z
        by_cases le : px x (c (own j0)) + tb X R (rmv left j0) j0 ≤ px x (c (own i)) + tb X R (rmv left i) i
        · obtain ⟨j1, w1, w2, w3⟩ := ih (i + 1) f b mo (by omega) (by omega) (Or.inr ⟨j0, by omega, q2, q3, q4, fun j hj mj => by
            by_cases e : j = i
            · rw [e]; exact le
            · exact q5 j (by omega) mj, q6⟩) ex
          refine ⟨j1, w1, fun K => run K _ ?_, w3⟩
          rw [if_neg nb, if_pos (by rw [q3]; exact nI_le le (by omega))]
          exact w2 K
        · obtain ⟨j1, w1, w2, w3⟩ := takeI (fun j hj mj => by
            have := q5 j hj mj
            omega)
          refine ⟨j1, w1, fun K => run K _ ?_, w3⟩
          rw [if_neg nb, if_neg (by rw [q3, nI_le_f (by omega) (by omega)]; exact id)]
          exact w2 K
    · have g' := bit_f (s := left) (j := i) (by omega) (by omega) g
      obtain ⟨j1, w1, w2, w3⟩ := ih (i + 1) f b mo (by omega) (by omega) (by
        rcases st with ⟨q1, q2⟩ | ⟨j0, q1, q2, q3, q4, q5, q6⟩
        · refine Or.inl ⟨q1, fun j hj => ?_⟩
          by_cases e : j = i
          · rw [e]; exact g
          · exact q2 j (by omega)
        · refine Or.inr ⟨j0, by omega, q2, q3, q4, fun j hj mj => ?_, q6⟩
          by_cases e : j = i
          · rw [e] at mj; exact absurd mj g
          · exact q5 j (by omega) mj) ex
      refine ⟨j1, w1, fun K => Eq.trans ?_ (w2 K), w3⟩
      simp -implicitDefEqProofs (maxSteps := 2000000) (disch := first | omega | exact hgp | exact RK.mv hR rfl rfl rfl | exact CK.mv hC rfl rfl rfl | decide | (simp -implicitDefEqProofs only [wI_X, wJ_X, wF_X, nw_X]; first | done | omega)) only [pX11_putInOrder_L212, g', ng_x, b01, ite_clB, clB_id, clB_ie, nar_0, nar_1, wI_se, wI_ne, wJ_se, wJ_ne, wF_se, wF_ne, nw_Te, nw_Tn, nw_Ne, nw_Nn, nw_In, nw_Jn, nw_Fn, nw_X, nw_S, nI_pre, ↓gI_x, ↓gF_x, ↓pI_x, ↓pF_x, ↓pZ_x, ↓ldI_x, ↓stI_x, ↓ldZ_x, ↓stZ_x, ↓ldJ_x, ↓stJ_x, ↓ldF_x, ↓stF_x, ↓ln_x, ↓nO_x, ↓nA_x, onT_x, or2_x, un_s, nu_s, nu_n, ↓lt_x, ↓rt_x, ↓clB_x, ↓rtZ_x, iO_s, iO_n, ↓cO_x, dv_x, rm_x, ↓fl_x, below_x, among_x, in_x, l_toInt, inB_x, uN_nI, ↓ite_S, clB_s, clB_n, wI_T, wI_N, wI_F, wI_J, wI_X, wI_S, wJ_T, wJ_N, wJ_I, wJ_F, wJ_X, wJ_S, wF_T, wF_N, wF_I, wF_J, wF_X, wF_S, wIr_T, wIr_N, wIr_J, wIr_F, wIr_X, wIr_S, wJr_T, wJr_N, wJr_I, wJr_F, wJr_X, wJr_S, fit_10_10, fit_11_11, fit_12_1, fit_12_3, fit_12_4, fit_12_5, fit_1_1, fit_1_3, fit_1_4, fit_1_5, fit_2_2, fit_3_1, fit_3_3, fit_3_4, fit_3_5, fit_4_1, fit_4_3, fit_4_4, fit_4_5, fit_5_5, fit_6_6, fit_7_7, fit_8_8, fit_9_9, L_0, L_1, L_2, L_3, L_4, L_5, L_6, L_7, L_8, L_9, L_10, L_11, L_12, L_13, L_14, L_15, L_16, L_17, L_18, L_19, L_20, L_21, L_22, L_23, L_24, L_25, L_26, L_27, L_28, L_29, L_30, L_31, L_32, L_33, L_34, L_35, L_36, L_37, L_38, L_39, L_40, L_48, L_49, L_50, L_63, L_72, L_100, L_143, L_144, L_200, L_576, L_1000, L_1022, L_1151, L_1152, L_1440, L_5000, L_10000, L_1000000, L_2147483647, J_0, J_1, J_2, J_3, J_4, J_5, J_6, J_7, J_8, J_9, J_10, J_11, J_12, J_13, J_14, J_15, J_16, J_17, J_18, J_19, J_20, J_21, J_22, J_23, J_24, J_25, J_26, J_27, J_28, J_29, J_30, J_31, J_32, J_33, J_34, J_35, J_36, J_37, J_38, J_39, J_40, J_48, J_49, J_50, J_63, J_72, J_100, J_143, J_144, J_200, J_576, J_1000, J_1022, J_1151, J_1152, J_1440, J_5000, J_10000, J_1000000, J_2147483647, N_1, N_1000000, N_1000001, N_1000002, N_1000003, N_1000010, nI_toInt, nI_add, nI_mul, nI_et, nI_ef, nI_lt_t, nI_lt_f, nI_le_t, nI_le_f, inR_t, inR_f, nI_mI, mI_nI, mI_lt, nI_lm, mI_le, nI_em, Int.cast_ofNat_Int, Nat.reduceBEq, or_true, true_or, or_false, false_or, Bool.true_and, Bool.and_true, Bool.false_and, Bool.and_false, Bool.or_true, Bool.true_or, Bool.or_false, Bool.false_or, beq_self_eq_true, not_false_eq_true, if_true, if_false, ite_true, ite_false, eq_self, and_true, true_and, and_false, false_and, not_true_eq_false, not_false_eq_true, reduceCtorEq, and_self, Nat.reduceLeDiff, Nat.reduceEqDiff, Nat.reduceLT, Nat.reduceSub, Int.reduceSub, Int.reduceLE, ne_eq, ↓reduceIte, Nat.reduceMul, Nat.reduceAdd, hR.t34, hR.t35, hR.n35, hR.t36, hR.n36, hR.t37, hR.n37, hR.t38, hR.n38, hR.t39, hR.n39, hR.t40, hR.n40, hR.t41, hR.n41, hR.t42, hR.n42, hR.t43, hR.n43, hR.t44, hR.n44, hR.t45, hR.n45, hR.t46, hR.n46, hR.t47, hR.n47, hR.t48, hR.n48, hR.t49, hR.n49, hR.t50, hR.n50, hR.t51, hR.n51, hR.t52, hR.n52, hR.t53, hR.n53, hR.t54, hR.n54, hR.t55, hR.n55, hR.t56, hR.n56, hR.t57, hR.n57, hR.t58, hR.n58, hR.t59, hR.n59, hR.t60, hR.n60, hR.t61, hR.n61, hR.t62, hR.n62, hR.t63, hR.n63, hR.t64, hR.n64, hR.t65, hR.n65, hR.t66, hR.n66, hR.t67, hR.n67, hR.t68, hR.n68, hR.t69, hR.n69, hR.t70, hR.n70, hR.t71, hR.n71, hR.f2, hR.f3, hR.f4, hR.f5, hR.f6, hR.f7, hR.f8, hR.f9, hR.f10, hR.f11, hR.f12, hR.f13, hR.f14, hR.f15, hR.f16, hR.f18, hR.f19, hR.f20, hR.f21, hR.f22, hR.f25, hR.f26, hR.f27, hR.f28, hR.f29, hR.f30, hR.f31, hR.f32, hR.f34, hR.f36, hR.f37, hR.f38, hR.f40, hR.f41, hR.f42, hR.f43, hR.f44]
def lxl (cl : Nat → Nat) (a b : Nat) : Prop := cl a < cl b ∨ (cl a = cl b ∧ a < b)
/-- the first at' are taken, in order -/
def OG (n : Nat) (cl : Nat → Nat) (at' left : Nat) (g : Nat → Nat) : Prop := (∀ t, t < at' → g t < n) ∧ (∀ t u, t < u → u < at' → lxl cl (g t) (g u)) ∧ left < 2 ^ n ∧ (∀ i, mem left i ↔ i < n ∧ ∀ t, t < at' → g t ≠ i) ∧ ∀ t i, t < at' → mem left i → lxl cl (g t) i
theorem OG.inj {cl : Nat → Nat} {at' left : Nat} {g : Nat → Nat} (h : OG n cl at' left g) : ∀ t u, t < u → u < at' → g t ≠ g u := fun t u h1 h2 q => by
  have := h.2.1 t u h1 h2
  unfold lxl at this
  rw [q] at this
  omega
theorem OG.some {cl : Nat → Nat} {at' left : Nat} {g : Nat → Nat} (h : OG n cl at' left g) (ha : at' < n) : ∃ j, mem left j := Classical.byContradiction fun no => by
  have all : ∀ i, ∃ t, i < n → t < at' ∧ g t = i := fun i => by
    by_cases hi : i < n
    · refine Classical.byContradiction fun q => no ⟨i, (h.2.2.2.1 i).mpr ⟨hi, fun t ht e => q ⟨t, fun _ => ⟨ht, e⟩⟩⟩⟩
    · exact ⟨0, fun q => absurd q hi⟩
  obtain ⟨f, hf⟩ := Classical.axiomOfChoice all
  have := pigeon at' n f (fun r hr => (hf r hr).1) (fun r s h1 h2 q => by
    have a := (hf r (by omega)).2
    have b := (hf s h2).2
    rw [q] at a
    omega)
  omega
theorem OG.step {cl : Nat → Nat} {at' left j0 : Nat} {g : Nat → Nat} (h : OG n cl at' left g) (m0 : mem left j0) (l0 : ∀ i, mem left i → cl j0 < cl i ∨ (cl j0 = cl i ∧ j0 ≤ i)) : OG n cl (at' + 1) (rmv left j0) (fun t => if t = at' then j0 else g t) := by
  obtain ⟨a1, a2, a3, a4, a5⟩ := h
  refine ⟨fun t ht => ?_, fun t u h1 h2 => ?_, Nat.lt_trans (rmv_lt m0) a3, fun i => ?_, fun t i ht hi => ?_⟩
  · (try dsimp only)
    split
    · exact ((a4 j0).mp m0).1
    · exact a1 t (by omega)
  · (try dsimp only)
    rw [if_neg (by omega)]
    by_cases e : u = at'
    · rw [if_pos e]
      exact a5 t j0 (by omega) m0
    · rw [if_neg e]
      exact a2 t u h1 (by omega)
  · rw [rmv_b m0, a4]
    constructor
    · rintro ⟨⟨h1, h2⟩, h3⟩
      refine ⟨h1, fun t ht => ?_⟩
      (try dsimp only)
      split
      · exact fun q => h3 q.symm
      · exact h2 t (by omega)
    · rintro ⟨h1, h2⟩
      refine ⟨⟨h1, fun t ht => ?_⟩, fun q => ?_⟩
      · have := h2 t (by omega)
        (try dsimp only at this)
        rw [if_neg (by omega)] at this
        exact this
      · have := h2 at' (by omega)
        (try dsimp only at this)
        rw [if_pos rfl] at this
        exact this q.symm
  · obtain ⟨h1, h2⟩ := (rmv_b m0).mp hi
    (try dsimp only)
    by_cases e : t = at'
    · rw [if_pos e]
      have := l0 i h1
      unfold lxl
      omega
    · rw [if_neg e]
      exact a5 t i (by omega) h1
/-- the pains of all, from the first -/
def PF (n : Nat) (cl : Nat → Nat) (g : Nat → Nat) (v : Nat) : Prop := (∀ i, i < n → cl i - cl (g 0) ≤ v) ∧ ∃ a, a < n ∧ v = cl a - cl (g 0)
theorem ord_L (hn : n ≤ 12) (hp : p < 6) : ∀ (m at' fuel left : Nat) (v : Int32) (g : Nat → Nat) (R : St), RK X R → OW X R n own c → TB X R n (fun k => c (own k)) (2 ^ n) → OG n (fun k => c (own k)) at' left g → ((at' = 0 ∧ left = 2 ^ n - 1 ∧ v = mI 1000000) ∨ (0 < at' ∧ v = nI (g (at' - 1)) ∧ ∃ pv, sI R (X + 69) p = nI pv ∧ PF n (fun k => c (own k)) g pv)) → (∀ t, t < at' → sI R (X + 67) (12 * p + t) = nI (own (g t))) → at' + m = n → m < fuel → ∃ R1 g1, (∀ K, pX11_putInOrder_L196 (X + 34) (nI p) (nI n) K fuel (nI left) v (nI at') R = K R1) ∧ OnI (fun a => a = X + 67 ∨ a = X + 69) R R1 ∧ (∀ q, q < 12 * p ∨ 12 * p + 12 ≤ q → sI R1 (X + 67) q = sI R (X + 67) q) ∧ (∀ q, q ≠ p → sI R1 (X + 69) q = sI R (X + 69) q) ∧ (∃ left', OG n (fun k => c (own k)) n left' g1) ∧ (∀ t, t < n → sI R1 (X + 67) (12 * p + t) = nI (own (g1 t))) ∧ ((n = 0 ∧ sI R1 (X + 69) p = sI R (X + 69) p) ∨ (0 < n ∧ ∃ pv, sI R1 (X + 69) p = nI pv ∧ PF n (fun k => c (own k)) g1 pv)) := by
  obtain ⟨p1, p2⟩ := two_le hn
  intro m
  induction m with
  | zero =>
    intro at' fuel left v g R hR ow tbl og st ln hi hf
    obtain ⟨f, rfl⟩ : ∃ f, fuel = f + 1 := ⟨fuel - 1, by omega⟩
    have e : at' = n := by omega
    subst e
    refine ⟨R, g, fun K => ?_, OnI.rf, fun _ _ => rfl, fun _ _ => rfl, ⟨left, og⟩, ln, ?_⟩
    · simp -implicitDefEqProofs (maxSteps := 2000000) (disch := first | omega | exact hgp | exact RK.mv hR rfl rfl rfl | exact CK.mv hC rfl rfl rfl | decide | (simp -implicitDefEqProofs only [wI_X, wJ_X, wF_X, nw_X]; first | done | omega)) only [pX11_putInOrder_L196, ng_x, b01, ite_clB, clB_id, clB_ie, nar_0, nar_1, wI_se, wI_ne, wJ_se, wJ_ne, wF_se, wF_ne, nw_Te, nw_Tn, nw_Ne, nw_Nn, nw_In, nw_Jn, nw_Fn, nw_X, nw_S, nI_pre, ↓gI_x, ↓gF_x, ↓pI_x, ↓pF_x, ↓pZ_x, ↓ldI_x, ↓stI_x, ↓ldZ_x, ↓stZ_x, ↓ldJ_x, ↓stJ_x, ↓ldF_x, ↓stF_x, ↓ln_x, ↓nO_x, ↓nA_x, onT_x, or2_x, un_s, nu_s, nu_n, ↓lt_x, ↓rt_x, ↓clB_x, ↓rtZ_x, iO_s, iO_n, ↓cO_x, dv_x, rm_x, ↓fl_x, below_x, among_x, in_x, l_toInt, inB_x, uN_nI, ↓ite_S, clB_s, clB_n, wI_T, wI_N, wI_F, wI_J, wI_X, wI_S, wJ_T, wJ_N, wJ_I, wJ_F, wJ_X, wJ_S, wF_T, wF_N, wF_I, wF_J, wF_X, wF_S, wIr_T, wIr_N, wIr_J, wIr_F, wIr_X, wIr_S, wJr_T, wJr_N, wJr_I, wJr_F, wJr_X, wJr_S, fit_10_10, fit_11_11, fit_12_1, fit_12_3, fit_12_4, fit_12_5, fit_1_1, fit_1_3, fit_1_4, fit_1_5, fit_2_2, fit_3_1, fit_3_3, fit_3_4, fit_3_5, fit_4_1, fit_4_3, fit_4_4, fit_4_5, fit_5_5, fit_6_6, fit_7_7, fit_8_8, fit_9_9, L_0, L_1, L_2, L_3, L_4, L_5, L_6, L_7, L_8, L_9, L_10, L_11, L_12, L_13, L_14, L_15, L_16, L_17, L_18, L_19, L_20, L_21, L_22, L_23, L_24, L_25, L_26, L_27, L_28, L_29, L_30, L_31, L_32, L_33, L_34, L_35, L_36, L_37, L_38, L_39, L_40, L_48, L_49, L_50, L_63, L_72, L_100, L_143, L_144, L_200, L_576, L_1000, L_1022, L_1151, L_1152, L_1440, L_5000, L_10000, L_1000000, L_2147483647, J_0, J_1, J_2, J_3, J_4, J_5, J_6, J_7, J_8, J_9, J_10, J_11, J_12, J_13, J_14, J_15, J_16, J_17, J_18, J_19, J_20, J_21, J_22, J_23, J_24, J_25, J_26, J_27, J_28, J_29, J_30, J_31, J_32, J_33, J_34, J_35, J_36, J_37, J_38, J_39, J_40, J_48, J_49, J_50, J_63, J_72, J_100, J_143, J_144, J_200, J_576, J_1000, J_1022, J_1151, J_1152, J_1440, J_5000, J_10000, J_1000000, J_2147483647, N_1, N_1000000, N_1000001, N_1000002, N_1000003, N_1000010, nI_toInt, nI_add, nI_mul, nI_et, nI_ef, nI_lt_t, nI_lt_f, nI_le_t, nI_le_f, inR_t, inR_f, nI_mI, mI_nI, mI_lt, nI_lm, mI_le, nI_em, Int.cast_ofNat_Int, Nat.reduceBEq, or_true, true_or, or_false, false_or, Bool.true_and, Bool.and_true, Bool.false_and, Bool.and_false, Bool.or_true, Bool.true_or, Bool.or_false, Bool.false_or, beq_self_eq_true, not_false_eq_true, if_true, if_false, ite_true, ite_false, eq_self, and_true, true_and, and_false, false_and, not_true_eq_false, not_false_eq_true, reduceCtorEq, and_self, Nat.reduceLeDiff, Nat.reduceEqDiff, Nat.reduceLT, Nat.reduceSub, Int.reduceSub, Int.reduceLE, ne_eq, ↓reduceIte, Nat.reduceMul, Nat.reduceAdd, hR.t34, hR.t35, hR.n35, hR.t36, hR.n36, hR.t37, hR.n37, hR.t38, hR.n38, hR.t39, hR.n39, hR.t40, hR.n40, hR.t41, hR.n41, hR.t42, hR.n42, hR.t43, hR.n43, hR.t44, hR.n44, hR.t45, hR.n45, hR.t46, hR.n46, hR.t47, hR.n47, hR.t48, hR.n48, hR.t49, hR.n49, hR.t50, hR.n50, hR.t51, hR.n51, hR.t52, hR.n52, hR.t53, hR.n53, hR.t54, hR.n54, hR.t55, hR.n55, hR.t56, hR.n56, hR.t57, hR.n57, hR.t58, hR.n58, hR.t59, hR.n59, hR.t60, hR.n60, hR.t61, hR.n61, hR.t62, hR.n62, hR.t63, hR.n63, hR.t64, hR.n64, hR.t65, hR.n65, hR.t66, hR.n66, hR.t67, hR.n67, hR.t68, hR.n68, hR.t69, hR.n69, hR.t70, hR.n70, hR.t71, hR.n71, hR.f2, hR.f3, hR.f4, hR.f5, hR.f6, hR.f7, hR.f8, hR.f9, hR.f10, hR.f11, hR.f12, hR.f13, hR.f14, hR.f15, hR.f16, hR.f18, hR.f19, hR.f20, hR.f21, hR.f22, hR.f25, hR.f26, hR.f27, hR.f28, hR.f29, hR.f30, hR.f31, hR.f32, hR.f34, hR.f36, hR.f37, hR.f38, hR.f40, hR.f41, hR.f42, hR.f43, hR.f44]
    · rcases st with ⟨z, -⟩ | ⟨z, -, q⟩
      · exact Or.inl ⟨z, rfl⟩
      · exact Or.inr ⟨z, q⟩
  | succ m ih =>
    intro at' fuel left v g R hR ow tbl og st ln hi hf
    obtain ⟨f, rfl⟩ : ∃ f, fuel = f + 1 := ⟨fuel - 1, by omega⟩
    have ex := og.some (by omega)
    obtain ⟨x, lst, hx⟩ : ∃ x, Lst2 n (fun k => c (own k)) v x ∧ ∀ i, mem left i → lx x ≤ c (own i) := by
      rcases st with ⟨z1, -, z3⟩ | ⟨z1, z2, -⟩
      · exact ⟨none, Or.inl ⟨rfl, z3⟩, fun i hi => Nat.zero_le _⟩
      · refine ⟨some (c (own (g (at' - 1)))), Or.inr ⟨g (at' - 1), og.1 _ (by omega), z2, rfl⟩, fun i hi => ?_⟩
        have := og.2.2.2.2 (at' - 1) i (by omega) hi
        show c (own (g (at' - 1))) ≤ c (own i)
        unfold lxl at this
        (try dsimp only at this)
        omega
    obtain ⟨j0, m0, w1, w2, w3⟩ := pick_L (p := p) (at' := at') hR hn ow og.2.2.1 lst tbl n 0 FL (mI 1000000) (nI 0) (by omega) (by unfold FL; omega) (Or.inl ⟨rfl, fun j hj => by omega⟩) ex
    have j0n := mem_lt og.2.2.1 m0
    have pts : ∀ j, mem left j → PT (fun k => c (own k)) (rmv left j) j (tb X R (rmv left j) j) := fun j hj => (tbl (rmv left j) j (by have := rmv_lt hj; have := og.2.2.1; omega) (mem_lt og.2.2.1 hj)).2
    have l0 := next_ok (cl := fun k => c (own k)) (tv := fun j => tb X R (rmv left j) j) hx pts m0 w2 (fun j hj hlt => w3 j hlt hj)
    have og1 := og.step m0 l0
    have o1 := (ow j0 j0n).1
    have rI := rmv_I (s := left) (j := j0) (by have := og.2.2.1; omega) (by omega) m0
    have n12 : at' < 12 := by omega
    by_cases a0 : at' = 0
    · -- the first: the pains are kept
      have e1 : left = 2 ^ n - 1 ∧ x = none := by
        rcases st with ⟨-, z2, z3⟩ | ⟨z1, -⟩
        · refine ⟨z2, ?_⟩
          rcases lst with ⟨q, -⟩ | ⟨l, l1, q, -⟩
          · exact q
          · rw [z3, mI_nI (by omega) (by omega) (by omega)] at q
            exact q.elim
        · omega
      obtain ⟨el, ex0⟩ := e1
      subst ex0
      have ev : px none (c (own j0)) + tb X R (rmv left j0) j0 = tb X R (rmv left j0) j0 := Nat.zero_add _
      rw [ev] at w1
      obtain ⟨pv, hpv⟩ : ∃ pv, pv = tb X R (rmv left j0) j0 := ⟨_, rfl⟩
      rw [← hpv] at w1
      have pt := pts j0 m0
      rw [← hpv] at pt
      have mf : ∀ i, mem left i ↔ i < n := fun i => by rw [el]; exact mem_full
      have pf : PF n (fun k => c (own k)) (fun t => if t = at' then j0 else g t) pv := by
        have g0 : (if 0 = at' then j0 else g 0) = j0 := if_pos a0.symm
        unfold PF
        (try dsimp only)
        rw [g0]
        have le : ∀ i, i < n → c (own j0) ≤ c (own i) := fun i hi => by
          have := l0 i ((mf i).mpr hi)
          (try dsimp only at this)
          omega
        refine ⟨fun i hi => ?_, ?_⟩
        · by_cases e : i = j0
          · rw [e]; omega
          · have r := (rmv_b m0).mpr ⟨(mf i).mpr hi, e⟩
            have := pt.1 i i r r
            (try dsimp only at this)
            omega
        · rcases pt.2.1 (fun i hi => le i ((mf i).mp ((rmv_b m0).mp hi).1)) with ⟨z1, -⟩ | ⟨a, a1, a2⟩
          · exact ⟨j0, j0n, by omega⟩
          · exact ⟨a, (mf a).mp ((rmv_b m0).mp a1).1, a2⟩
      have on1 : OnI (fun a => a = X + 67 ∨ a = X + 69) R (wI (wI R (X + 69) p (nI pv)) (X + 67) (12 * p + at') (nI (own j0))) := OnI.wI (OnI.wI OnI.rf (by exact Or.inr rfl)) (by exact Or.inl rfl)
      obtain ⟨R1, g1, z1, z2, z3, z4, z5⟩ := ih (at' + 1) f (rmv left j0) (nI j0) (fun t => if t = at' then j0 else g t) _ (on1.rk hR) (ow.on (on1.mono (fun a ha => by omega))) (by
        unfold TB tb
        rw [on1.I (by omega)]
        exact tbl) og1 (Or.inr ⟨by omega, by (try dsimp only); rw [if_pos (by omega)], pv, by simp -implicitDefEqProofs (maxSteps := 2000000) (disch := first | omega | (simp -implicitDefEqProofs only [wI_X, wJ_X, wF_X, nw_X]; first | done | omega)) only [ wI_se, wI_ne, wJ_se, wJ_ne, wF_se, wF_ne, nw_Te, nw_Tn, nw_Ne, nw_Nn, nw_In, nw_Jn, nw_Fn, nw_X, nw_S, wI_row, wJ_row, wF_row, wIr_row, wJr_row, wIr_at, wJr_at, wI_T, wI_N, wI_F, wI_J, wI_X, wI_S, wJ_T, wJ_N, wJ_I, wJ_F, wJ_X, wJ_S, wF_T, wF_N, wF_I, wF_J, wF_X, wF_S, wIr_T, wIr_N, wIr_J, wIr_F, wIr_X, wIr_S, wJr_T, wJr_N, wJr_I, wJr_F, wJr_X, wJr_S], pf⟩) (fun t ht => by
        (try dsimp only)
        have e : t = at' := by omega
        rw [if_pos e, e]
        simp -implicitDefEqProofs (maxSteps := 2000000) (disch := first | omega | (simp -implicitDefEqProofs only [wI_X, wJ_X, wF_X, nw_X]; first | done | omega)) only [ wI_se, wI_ne, wJ_se, wJ_ne, wF_se, wF_ne, nw_Te, nw_Tn, nw_Ne, nw_Nn, nw_In, nw_Jn, nw_Fn, nw_X, nw_S, wI_row, wJ_row, wF_row, wIr_row, wJr_row, wIr_at, wJr_at, wI_T, wI_N, wI_F, wI_J, wI_X, wI_S, wJ_T, wJ_N, wJ_I, wJ_F, wJ_X, wJ_S, wF_T, wF_N, wF_I, wF_J, wF_X, wF_S, wIr_T, wIr_N, wIr_J, wIr_F, wIr_X, wIr_S, wJr_T, wJr_N, wJr_I, wJr_F, wJr_X, wJr_S]) (by omega) (by omega)
      refine ⟨R1, g1, fun K => Eq.trans ?_ (z1 K), on1.tr z2, fun q hq => ?_, fun q hq => ?_, z5.1, z5.2.1, ?_⟩
      · subst a0
        simp -implicitDefEqProofs (maxSteps := 2000000) (disch := first | omega | exact hgp | exact RK.mv hR rfl rfl rfl | exact CK.mv hC rfl rfl rfl | decide | (simp -implicitDefEqProofs only [wI_X, wJ_X, wF_X, nw_X]; first | done | omega)) only [pX11_putInOrder_L196, w1, o1, rI, ng_x, b01, ite_clB, clB_id, clB_ie, nar_0, nar_1, wI_se, wI_ne, wJ_se, wJ_ne, wF_se, wF_ne, nw_Te, nw_Tn, nw_Ne, nw_Nn, nw_In, nw_Jn, nw_Fn, nw_X, nw_S, nI_pre, ↓gI_x, ↓gF_x, ↓pI_x, ↓pF_x, ↓pZ_x, ↓ldI_x, ↓stI_x, ↓ldZ_x, ↓stZ_x, ↓ldJ_x, ↓stJ_x, ↓ldF_x, ↓stF_x, ↓ln_x, ↓nO_x, ↓nA_x, onT_x, or2_x, un_s, nu_s, nu_n, ↓lt_x, ↓rt_x, ↓clB_x, ↓rtZ_x, iO_s, iO_n, ↓cO_x, dv_x, rm_x, ↓fl_x, below_x, among_x, in_x, l_toInt, inB_x, uN_nI, ↓ite_S, clB_s, clB_n, wI_T, wI_N, wI_F, wI_J, wI_X, wI_S, wJ_T, wJ_N, wJ_I, wJ_F, wJ_X, wJ_S, wF_T, wF_N, wF_I, wF_J, wF_X, wF_S, wIr_T, wIr_N, wIr_J, wIr_F, wIr_X, wIr_S, wJr_T, wJr_N, wJr_I, wJr_F, wJr_X, wJr_S, fit_10_10, fit_11_11, fit_12_1, fit_12_3, fit_12_4, fit_12_5, fit_1_1, fit_1_3, fit_1_4, fit_1_5, fit_2_2, fit_3_1, fit_3_3, fit_3_4, fit_3_5, fit_4_1, fit_4_3, fit_4_4, fit_4_5, fit_5_5, fit_6_6, fit_7_7, fit_8_8, fit_9_9, L_0, L_1, L_2, L_3, L_4, L_5, L_6, L_7, L_8, L_9, L_10, L_11, L_12, L_13, L_14, L_15, L_16, L_17, L_18, L_19, L_20, L_21, L_22, L_23, L_24, L_25, L_26, L_27, L_28, L_29, L_30, L_31, L_32, L_33, L_34, L_35, L_36, L_37, L_38, L_39, L_40, L_48, L_49, L_50, L_63, L_72, L_100, L_143, L_144, L_200, L_576, L_1000, L_1022, L_1151, L_1152, L_1440, L_5000, L_10000, L_1000000, L_2147483647, J_0, J_1, J_2, J_3, J_4, J_5, J_6, J_7, J_8, J_9, J_10, J_11, J_12, J_13, J_14, J_15, J_16, J_17, J_18, J_19, J_20, J_21, J_22, J_23, J_24, J_25, J_26, J_27, J_28, J_29, J_30, J_31, J_32, J_33, J_34, J_35, J_36, J_37, J_38, J_39, J_40, J_48, J_49, J_50, J_63, J_72, J_100, J_143, J_144, J_200, J_576, J_1000, J_1022, J_1151, J_1152, J_1440, J_5000, J_10000, J_1000000, J_2147483647, N_1, N_1000000, N_1000001, N_1000002, N_1000003, N_1000010, nI_toInt, nI_add, nI_mul, nI_et, nI_ef, nI_lt_t, nI_lt_f, nI_le_t, nI_le_f, inR_t, inR_f, nI_mI, mI_nI, mI_lt, nI_lm, mI_le, nI_em, Int.cast_ofNat_Int, Nat.reduceBEq, or_true, true_or, or_false, false_or, Bool.true_and, Bool.and_true, Bool.false_and, Bool.and_false, Bool.or_true, Bool.true_or, Bool.or_false, Bool.false_or, beq_self_eq_true, not_false_eq_true, if_true, if_false, ite_true, ite_false, eq_self, and_true, true_and, and_false, false_and, not_true_eq_false, not_false_eq_true, reduceCtorEq, and_self, Nat.reduceLeDiff, Nat.reduceEqDiff, Nat.reduceLT, Nat.reduceSub, Int.reduceSub, Int.reduceLE, ne_eq, ↓reduceIte, Nat.reduceMul, Nat.reduceAdd, hR.t34, hR.t35, hR.n35, hR.t36, hR.n36, hR.t37, hR.n37, hR.t38, hR.n38, hR.t39, hR.n39, hR.t40, hR.n40, hR.t41, hR.n41, hR.t42, hR.n42, hR.t43, hR.n43, hR.t44, hR.n44, hR.t45, hR.n45, hR.t46, hR.n46, hR.t47, hR.n47, hR.t48, hR.n48, hR.t49, hR.n49, hR.t50, hR.n50, hR.t51, hR.n51, hR.t52, hR.n52, hR.t53, hR.n53, hR.t54, hR.n54, hR.t55, hR.n55, hR.t56, hR.n56, hR.t57, hR.n57, hR.t58, hR.n58, hR.t59, hR.n59, hR.t60, hR.n60, hR.t61, hR.n61, hR.t62, hR.n62, hR.t63, hR.n63, hR.t64, hR.n64, hR.t65, hR.n65, hR.t66, hR.n66, hR.t67, hR.n67, hR.t68, hR.n68, hR.t69, hR.n69, hR.t70, hR.n70, hR.t71, hR.n71, hR.f2, hR.f3, hR.f4, hR.f5, hR.f6, hR.f7, hR.f8, hR.f9, hR.f10, hR.f11, hR.f12, hR.f13, hR.f14, hR.f15, hR.f16, hR.f18, hR.f19, hR.f20, hR.f21, hR.f22, hR.f25, hR.f26, hR.f27, hR.f28, hR.f29, hR.f30, hR.f31, hR.f32, hR.f34, hR.f36, hR.f37, hR.f38, hR.f40, hR.f41, hR.f42, hR.f43, hR.f44]
      · rw [z3 q hq]
        simp -implicitDefEqProofs (maxSteps := 2000000) (disch := first | omega | (simp -implicitDefEqProofs only [wI_X, wJ_X, wF_X, nw_X]; first | done | omega)) only [ wI_se, wI_ne, wJ_se, wJ_ne, wF_se, wF_ne, nw_Te, nw_Tn, nw_Ne, nw_Nn, nw_In, nw_Jn, nw_Fn, nw_X, nw_S, wI_row, wJ_row, wF_row, wIr_row, wJr_row, wIr_at, wJr_at, wI_T, wI_N, wI_F, wI_J, wI_X, wI_S, wJ_T, wJ_N, wJ_I, wJ_F, wJ_X, wJ_S, wF_T, wF_N, wF_I, wF_J, wF_X, wF_S, wIr_T, wIr_N, wIr_J, wIr_F, wIr_X, wIr_S, wJr_T, wJr_N, wJr_I, wJr_F, wJr_X, wJr_S]
      · rw [z4 q hq]
        simp -implicitDefEqProofs (maxSteps := 2000000) (disch := first | omega | (simp -implicitDefEqProofs only [wI_X, wJ_X, wF_X, nw_X]; first | done | omega)) only [ wI_se, wI_ne, wJ_se, wJ_ne, wF_se, wF_ne, nw_Te, nw_Tn, nw_Ne, nw_Nn, nw_In, nw_Jn, nw_Fn, nw_X, nw_S, wI_row, wJ_row, wF_row, wIr_row, wJr_row, wIr_at, wJr_at, wI_T, wI_N, wI_F, wI_J, wI_X, wI_S, wJ_T, wJ_N, wJ_I, wJ_F, wJ_X, wJ_S, wF_T, wF_N, wF_I, wF_J, wF_X, wF_S, wIr_T, wIr_N, wIr_J, wIr_F, wIr_X, wIr_S, wJr_T, wJr_N, wJr_I, wJr_F, wJr_X, wJr_S]
      · rcases z5.2.2 with ⟨z, -⟩ | z
        · omega
        · exact Or.inr z
    · obtain ⟨pv, pv1, pv2⟩ : ∃ pv, sI R (X + 69) p = nI pv ∧ PF n (fun k => c (own k)) g pv := by
        rcases st with ⟨z, -⟩ | ⟨-, -, q⟩
        · omega
        · exact q
      have pf : PF n (fun k => c (own k)) (fun t => if t = at' then j0 else g t) pv := by
        have g0 : (if 0 = at' then j0 else g 0) = g 0 := if_neg (fun q => a0 q.symm)
        unfold PF
        (try dsimp only)
        rw [g0]
        exact pv2
      have on1 : OnI (fun a => a = X + 67 ∨ a = X + 69) R (wI (wI R (X + 69) p (nI pv)) (X + 67) (12 * p + at') (nI (own j0))) := OnI.wI (OnI.wI OnI.rf (by exact Or.inr rfl)) (by exact Or.inl rfl)
      obtain ⟨R1, g1, z1, z2, z3, z4, z5⟩ := ih (at' + 1) f (rmv left j0) (nI j0) (fun t => if t = at' then j0 else g t) _ (on1.rk hR) (ow.on (on1.mono (fun a ha => by omega))) (by
        unfold TB tb
        rw [on1.I (by omega)]
        exact tbl) og1 (Or.inr ⟨by omega, by (try dsimp only); rw [if_pos (by omega)], pv, by simp -implicitDefEqProofs (maxSteps := 2000000) (disch := first | omega | (simp -implicitDefEqProofs only [wI_X, wJ_X, wF_X, nw_X]; first | done | omega)) only [ wI_se, wI_ne, wJ_se, wJ_ne, wF_se, wF_ne, nw_Te, nw_Tn, nw_Ne, nw_Nn, nw_In, nw_Jn, nw_Fn, nw_X, nw_S, wI_row, wJ_row, wF_row, wIr_row, wJr_row, wIr_at, wJr_at, wI_T, wI_N, wI_F, wI_J, wI_X, wI_S, wJ_T, wJ_N, wJ_I, wJ_F, wJ_X, wJ_S, wF_T, wF_N, wF_I, wF_J, wF_X, wF_S, wIr_T, wIr_N, wIr_J, wIr_F, wIr_X, wIr_S, wJr_T, wJr_N, wJr_I, wJr_F, wJr_X, wJr_S], pf⟩) (fun t ht => by
        (try dsimp only)
        by_cases e : t = at'
        · rw [if_pos e, e]
          simp -implicitDefEqProofs (maxSteps := 2000000) (disch := first | omega | (simp -implicitDefEqProofs only [wI_X, wJ_X, wF_X, nw_X]; first | done | omega)) only [ wI_se, wI_ne, wJ_se, wJ_ne, wF_se, wF_ne, nw_Te, nw_Tn, nw_Ne, nw_Nn, nw_In, nw_Jn, nw_Fn, nw_X, nw_S, wI_row, wJ_row, wF_row, wIr_row, wJr_row, wIr_at, wJr_at, wI_T, wI_N, wI_F, wI_J, wI_X, wI_S, wJ_T, wJ_N, wJ_I, wJ_F, wJ_X, wJ_S, wF_T, wF_N, wF_I, wF_J, wF_X, wF_S, wIr_T, wIr_N, wIr_J, wIr_F, wIr_X, wIr_S, wJr_T, wJr_N, wJr_I, wJr_F, wJr_X, wJr_S]
        · rw [if_neg e]
          have := ln t (by omega)
          simp -implicitDefEqProofs (maxSteps := 2000000) (disch := first | omega | (simp -implicitDefEqProofs only [wI_X, wJ_X, wF_X, nw_X]; first | done | omega)) only [ wI_se, wI_ne, wJ_se, wJ_ne, wF_se, wF_ne, nw_Te, nw_Tn, nw_Ne, nw_Nn, nw_In, nw_Jn, nw_Fn, nw_X, nw_S, wI_row, wJ_row, wF_row, wIr_row, wJr_row, wIr_at, wJr_at, wI_T, wI_N, wI_F, wI_J, wI_X, wI_S, wJ_T, wJ_N, wJ_I, wJ_F, wJ_X, wJ_S, wF_T, wF_N, wF_I, wF_J, wF_X, wF_S, wIr_T, wIr_N, wIr_J, wIr_F, wIr_X, wIr_S, wJr_T, wJr_N, wJr_I, wJr_F, wJr_X, wJr_S]
          exact this) (by omega) (by omega)
      refine ⟨R1, g1, fun K => Eq.trans ?_ (z1 K), on1.tr z2, fun q hq => ?_, fun q hq => ?_, z5.1, z5.2.1, ?_⟩
      · simp -implicitDefEqProofs (maxSteps := 2000000) (disch := first | omega | exact hgp | exact RK.mv hR rfl rfl rfl | exact CK.mv hC rfl rfl rfl | decide | (simp -implicitDefEqProofs only [wI_X, wJ_X, wF_X, nw_X]; first | done | omega)) only [pX11_putInOrder_L196, w1, o1, rI, pv1, ng_x, b01, ite_clB, clB_id, clB_ie, nar_0, nar_1, wI_se, wI_ne, wJ_se, wJ_ne, wF_se, wF_ne, nw_Te, nw_Tn, nw_Ne, nw_Nn, nw_In, nw_Jn, nw_Fn, nw_X, nw_S, nI_pre, ↓gI_x, ↓gF_x, ↓pI_x, ↓pF_x, ↓pZ_x, ↓ldI_x, ↓stI_x, ↓ldZ_x, ↓stZ_x, ↓ldJ_x, ↓stJ_x, ↓ldF_x, ↓stF_x, ↓ln_x, ↓nO_x, ↓nA_x, onT_x, or2_x, un_s, nu_s, nu_n, ↓lt_x, ↓rt_x, ↓clB_x, ↓rtZ_x, iO_s, iO_n, ↓cO_x, dv_x, rm_x, ↓fl_x, below_x, among_x, in_x, l_toInt, inB_x, uN_nI, ↓ite_S, clB_s, clB_n, wI_T, wI_N, wI_F, wI_J, wI_X, wI_S, wJ_T, wJ_N, wJ_I, wJ_F, wJ_X, wJ_S, wF_T, wF_N, wF_I, wF_J, wF_X, wF_S, wIr_T, wIr_N, wIr_J, wIr_F, wIr_X, wIr_S, wJr_T, wJr_N, wJr_I, wJr_F, wJr_X, wJr_S, fit_10_10, fit_11_11, fit_12_1, fit_12_3, fit_12_4, fit_12_5, fit_1_1, fit_1_3, fit_1_4, fit_1_5, fit_2_2, fit_3_1, fit_3_3, fit_3_4, fit_3_5, fit_4_1, fit_4_3, fit_4_4, fit_4_5, fit_5_5, fit_6_6, fit_7_7, fit_8_8, fit_9_9, L_0, L_1, L_2, L_3, L_4, L_5, L_6, L_7, L_8, L_9, L_10, L_11, L_12, L_13, L_14, L_15, L_16, L_17, L_18, L_19, L_20, L_21, L_22, L_23, L_24, L_25, L_26, L_27, L_28, L_29, L_30, L_31, L_32, L_33, L_34, L_35, L_36, L_37, L_38, L_39, L_40, L_48, L_49, L_50, L_63, L_72, L_100, L_143, L_144, L_200, L_576, L_1000, L_1022, L_1151, L_1152, L_1440, L_5000, L_10000, L_1000000, L_2147483647, J_0, J_1, J_2, J_3, J_4, J_5, J_6, J_7, J_8, J_9, J_10, J_11, J_12, J_13, J_14, J_15, J_16, J_17, J_18, J_19, J_20, J_21, J_22, J_23, J_24, J_25, J_26, J_27, J_28, J_29, J_30, J_31, J_32, J_33, J_34, J_35, J_36, J_37, J_38, J_39, J_40, J_48, J_49, J_50, J_63, J_72, J_100, J_143, J_144, J_200, J_576, J_1000, J_1022, J_1151, J_1152, J_1440, J_5000, J_10000, J_1000000, J_2147483647, N_1, N_1000000, N_1000001, N_1000002, N_1000003, N_1000010, nI_toInt, nI_add, nI_mul, nI_et, nI_ef, nI_lt_t, nI_lt_f, nI_le_t, nI_le_f, inR_t, inR_f, nI_mI, mI_nI, mI_lt, nI_lm, mI_le, nI_em, Int.cast_ofNat_Int, Nat.reduceBEq, or_true, true_or, or_false, false_or, Bool.true_and, Bool.and_true, Bool.false_and, Bool.and_false, Bool.or_true, Bool.true_or, Bool.or_false, Bool.false_or, beq_self_eq_true, not_false_eq_true, if_true, if_false, ite_true, ite_false, eq_self, and_true, true_and, and_false, false_and, not_true_eq_false, not_false_eq_true, reduceCtorEq, and_self, Nat.reduceLeDiff, Nat.reduceEqDiff, Nat.reduceLT, Nat.reduceSub, Int.reduceSub, Int.reduceLE, ne_eq, ↓reduceIte, Nat.reduceMul, Nat.reduceAdd, hR.t34, hR.t35, hR.n35, hR.t36, hR.n36, hR.t37, hR.n37, hR.t38, hR.n38, hR.t39, hR.n39, hR.t40, hR.n40, hR.t41, hR.n41, hR.t42, hR.n42, hR.t43, hR.n43, hR.t44, hR.n44, hR.t45, hR.n45, hR.t46, hR.n46, hR.t47, hR.n47, hR.t48, hR.n48, hR.t49, hR.n49, hR.t50, hR.n50, hR.t51, hR.n51, hR.t52, hR.n52, hR.t53, hR.n53, hR.t54, hR.n54, hR.t55, hR.n55, hR.t56, hR.n56, hR.t57, hR.n57, hR.t58, hR.n58, hR.t59, hR.n59, hR.t60, hR.n60, hR.t61, hR.n61, hR.t62, hR.n62, hR.t63, hR.n63, hR.t64, hR.n64, hR.t65, hR.n65, hR.t66, hR.n66, hR.t67, hR.n67, hR.t68, hR.n68, hR.t69, hR.n69, hR.t70, hR.n70, hR.t71, hR.n71, hR.f2, hR.f3, hR.f4, hR.f5, hR.f6, hR.f7, hR.f8, hR.f9, hR.f10, hR.f11, hR.f12, hR.f13, hR.f14, hR.f15, hR.f16, hR.f18, hR.f19, hR.f20, hR.f21, hR.f22, hR.f25, hR.f26, hR.f27, hR.f28, hR.f29, hR.f30, hR.f31, hR.f32, hR.f34, hR.f36, hR.f37, hR.f38, hR.f40, hR.f41, hR.f42, hR.f43, hR.f44]
      · rw [z3 q hq]
        simp -implicitDefEqProofs (maxSteps := 2000000) (disch := first | omega | (simp -implicitDefEqProofs only [wI_X, wJ_X, wF_X, nw_X]; first | done | omega)) only [ wI_se, wI_ne, wJ_se, wJ_ne, wF_se, wF_ne, nw_Te, nw_Tn, nw_Ne, nw_Nn, nw_In, nw_Jn, nw_Fn, nw_X, nw_S, wI_row, wJ_row, wF_row, wIr_row, wJr_row, wIr_at, wJr_at, wI_T, wI_N, wI_F, wI_J, wI_X, wI_S, wJ_T, wJ_N, wJ_I, wJ_F, wJ_X, wJ_S, wF_T, wF_N, wF_I, wF_J, wF_X, wF_S, wIr_T, wIr_N, wIr_J, wIr_F, wIr_X, wIr_S, wJr_T, wJr_N, wJr_I, wJr_F, wJr_X, wJr_S]
      · rw [z4 q hq]
        simp -implicitDefEqProofs (maxSteps := 2000000) (disch := first | omega | (simp -implicitDefEqProofs only [wI_X, wJ_X, wF_X, nw_X]; first | done | omega)) only [ wI_se, wI_ne, wJ_se, wJ_ne, wF_se, wF_ne, nw_Te, nw_Tn, nw_Ne, nw_Nn, nw_In, nw_Jn, nw_Fn, nw_X, nw_S, wI_row, wJ_row, wF_row, wIr_row, wJr_row, wIr_at, wJr_at, wI_T, wI_N, wI_F, wI_J, wI_X, wI_S, wJ_T, wJ_N, wJ_I, wJ_F, wJ_X, wJ_S, wF_T, wF_N, wF_I, wF_J, wF_X, wF_S, wIr_T, wIr_N, wIr_J, wIr_F, wIr_X, wIr_S, wJr_T, wJr_N, wJr_I, wJr_F, wJr_X, wJr_S]
      · rcases z5.2.2 with ⟨z, -⟩ | z
        · omega
        · exact Or.inr z
theorem orderR_x {ap : Nat → Nat} (hp : p < 6) (hn : n ≤ 12) (hR : RK X R) (e68 : sI R (X + 68) p = nI n) (h67 : ∀ t, t < n → sI R (X + 67) (12 * p + t) = nI (ap t) ∧ ap t < 12 ∧ sI R (X + 65) (ap t) = nI (c (ap t)) ∧ c (ap t) ≤ 9) : ∃ R1 g, pX11_putInOrder (X + 34) (nI p) R = some ((), R1) ∧ OnI (fun a => a = X + 67 ∨ a = X + 69 ∨ a = X + 70 ∨ a = X + 71) R R1 ∧ (∀ q, q < 12 * p ∨ 12 * p + 12 ≤ q → sI R1 (X + 67) q = sI R (X + 67) q) ∧ (∀ q, q ≠ p → sI R1 (X + 69) q = sI R (X + 69) q) ∧ (∃ left', OG n (fun k => c (ap k)) n left' g) ∧ (∀ t, t < n → sI R1 (X + 67) (12 * p + t) = nI (ap (g t))) ∧ ((n = 0 ∧ sI R1 (X + 69) p = nI 0) ∨ (0 < n ∧ ∃ pv, sI R1 (X + 69) p = nI pv ∧ PF n (fun k => c (ap k)) g pv)) := by
  obtain ⟨p1, p2⟩ := two_le hn
  obtain ⟨A, a1, a2, a3, -⟩ := own_L (X := X) (p := p) (n := n) hp hn n 0 FL R hR (by omega) (by unfold FL; omega)
  have hA := a2.rk hR
  have on1 : OnI (fun a => a = X + 67 ∨ a = X + 69 ∨ a = X + 70 ∨ a = X + 71) R (wI A (X + 69) p (nI 0)) := OnI.wI (a2.mono (fun a ha => by omega)) (by omega)
  have ow : OW X (wI A (X + 69) p (nI 0)) n ap c := fun k hk => by
    obtain ⟨h1, h2, h3, h4⟩ := h67 k hk
    refine ⟨?_, h2, ?_, h4⟩
    · simp -implicitDefEqProofs (maxSteps := 2000000) (disch := first | omega | (simp -implicitDefEqProofs only [wI_X, wJ_X, wF_X, nw_X]; first | done | omega)) only [ wI_se, wI_ne, wJ_se, wJ_ne, wF_se, wF_ne, nw_Te, nw_Tn, nw_Ne, nw_Nn, nw_In, nw_Jn, nw_Fn, nw_X, nw_S, wI_row, wJ_row, wF_row, wIr_row, wJr_row, wIr_at, wJr_at, wI_T, wI_N, wI_F, wI_J, wI_X, wI_S, wJ_T, wJ_N, wJ_I, wJ_F, wJ_X, wJ_S, wF_T, wF_N, wF_I, wF_J, wF_X, wF_S, wIr_T, wIr_N, wIr_J, wIr_F, wIr_X, wIr_S, wJr_T, wJr_N, wJr_I, wJr_F, wJr_X, wJr_S]
      rw [a3 k (by omega) hk]
      exact h1
    · simp -implicitDefEqProofs (maxSteps := 2000000) (disch := first | omega | (simp -implicitDefEqProofs only [wI_X, wJ_X, wF_X, nw_X]; first | done | omega)) only [ wI_se, wI_ne, wJ_se, wJ_ne, wF_se, wF_ne, nw_Te, nw_Tn, nw_Ne, nw_Nn, nw_In, nw_Jn, nw_Fn, nw_X, nw_S, wI_row, wJ_row, wF_row, wIr_row, wJr_row, wIr_at, wJr_at, wI_T, wI_N, wI_F, wI_J, wI_X, wI_S, wJ_T, wJ_N, wJ_I, wJ_F, wJ_X, wJ_S, wF_T, wF_N, wF_I, wF_J, wF_X, wF_S, wIr_T, wIr_N, wIr_J, wIr_F, wIr_X, wIr_S, wJr_T, wJr_N, wJr_I, wJr_F, wJr_X, wJr_S]
      rw [a2.I (by omega)]
      exact h3
  obtain ⟨B, b1, b2, b3⟩ := tab_L (X := X) (p := p) (n := n) hn (2 ^ n) 0 FL (wI A (X + 69) p (nI 0)) (on1.rk hR) ow (fun s' k h => by omega) (by omega) (by unfold FL; omega)
  have on2 := on1.tr (b2.mono (fun a ha => by omega))
  have fu := full_I n (by omega)
  have sb : nI (2 ^ n) - nI 1 = nI (2 ^ n - 1) := nI_sub (by omega)
  have og : OG n (fun k => c (ap k)) 0 (2 ^ n - 1) (fun _ => 0) := ⟨fun t ht => by omega, fun t u _ hu => by omega, by omega, fun i => by rw [mem_full]; exact ⟨fun q => ⟨q, fun t ht => by omega⟩, fun q => q.1⟩, fun t i ht => by omega⟩
  obtain ⟨E, g, d1, d2, d3, d4, d5, d6, d7⟩ := ord_L (X := X) (p := p) hn hp n 0 FL (2 ^ n - 1) (mI 1000000) (fun _ => 0) B (on2.rk hR) (ow.on (b2.mono (fun a ha => by omega))) b3 og (Or.inl ⟨rfl, rfl, rfl⟩) (fun t ht => by omega) (by omega) (by unfold FL; omega)
  have i67 : sI B (X + 67) = sI R (X + 67) := by
    rw [b2.I (by omega), wI_row _ _ _ _ (by omega), a2.I (by omega)]
  have i69 : ∀ q, q ≠ p → sI B (X + 69) q = sI R (X + 69) q := fun q hq => by
    rw [b2.I (by omega), wI_ne _ _ _ _ (Or.inr hq), a2.I (by omega)]
  refine ⟨E, g, ?_, on2.tr (d2.mono (fun a ha => by omega)), fun q hq => by rw [d3 q hq, i67], fun q hq => by rw [d4 q hq, i69 q hq], d5, d6, ?_⟩
  · have u1 := hA.t34
    have u2 := hA.f42
    have u3 := hA.t69
    have u4 := hA.n69
    have d1 := d1 (rt ())
    have d1 : pX11_putInOrder_L196 (X + 34) (nI p) (nI n) (rt ()) FL (nI (2 ^ n - 1)) (mI 1000000) (nI 0) B = some ((), E) := d1
    simp -implicitDefEqProofs (maxSteps := 2000000) (disch := first | omega | exact hgp | exact RK.mv hR rfl rfl rfl | exact CK.mv hC rfl rfl rfl | decide | (simp -implicitDefEqProofs only [wI_X, wJ_X, wF_X, nw_X]; first | done | omega)) only [pX11_putInOrder, e68, a1, u1, u2, u3, u4, b1, fu, sb, d1, ng_x, b01, ite_clB, clB_id, clB_ie, nar_0, nar_1, wI_se, wI_ne, wJ_se, wJ_ne, wF_se, wF_ne, nw_Te, nw_Tn, nw_Ne, nw_Nn, nw_In, nw_Jn, nw_Fn, nw_X, nw_S, nI_pre, ↓gI_x, ↓gF_x, ↓pI_x, ↓pF_x, ↓pZ_x, ↓ldI_x, ↓stI_x, ↓ldZ_x, ↓stZ_x, ↓ldJ_x, ↓stJ_x, ↓ldF_x, ↓stF_x, ↓ln_x, ↓nO_x, ↓nA_x, onT_x, or2_x, un_s, nu_s, nu_n, ↓lt_x, ↓rt_x, ↓clB_x, ↓rtZ_x, iO_s, iO_n, ↓cO_x, dv_x, rm_x, ↓fl_x, below_x, among_x, in_x, l_toInt, inB_x, uN_nI, ↓ite_S, clB_s, clB_n, wI_T, wI_N, wI_F, wI_J, wI_X, wI_S, wJ_T, wJ_N, wJ_I, wJ_F, wJ_X, wJ_S, wF_T, wF_N, wF_I, wF_J, wF_X, wF_S, wIr_T, wIr_N, wIr_J, wIr_F, wIr_X, wIr_S, wJr_T, wJr_N, wJr_I, wJr_F, wJr_X, wJr_S, fit_10_10, fit_11_11, fit_12_1, fit_12_3, fit_12_4, fit_12_5, fit_1_1, fit_1_3, fit_1_4, fit_1_5, fit_2_2, fit_3_1, fit_3_3, fit_3_4, fit_3_5, fit_4_1, fit_4_3, fit_4_4, fit_4_5, fit_5_5, fit_6_6, fit_7_7, fit_8_8, fit_9_9, L_0, L_1, L_2, L_3, L_4, L_5, L_6, L_7, L_8, L_9, L_10, L_11, L_12, L_13, L_14, L_15, L_16, L_17, L_18, L_19, L_20, L_21, L_22, L_23, L_24, L_25, L_26, L_27, L_28, L_29, L_30, L_31, L_32, L_33, L_34, L_35, L_36, L_37, L_38, L_39, L_40, L_48, L_49, L_50, L_63, L_72, L_100, L_143, L_144, L_200, L_576, L_1000, L_1022, L_1151, L_1152, L_1440, L_5000, L_10000, L_1000000, L_2147483647, J_0, J_1, J_2, J_3, J_4, J_5, J_6, J_7, J_8, J_9, J_10, J_11, J_12, J_13, J_14, J_15, J_16, J_17, J_18, J_19, J_20, J_21, J_22, J_23, J_24, J_25, J_26, J_27, J_28, J_29, J_30, J_31, J_32, J_33, J_34, J_35, J_36, J_37, J_38, J_39, J_40, J_48, J_49, J_50, J_63, J_72, J_100, J_143, J_144, J_200, J_576, J_1000, J_1022, J_1151, J_1152, J_1440, J_5000, J_10000, J_1000000, J_2147483647, N_1, N_1000000, N_1000001, N_1000002, N_1000003, N_1000010, nI_toInt, nI_add, nI_mul, nI_et, nI_ef, nI_lt_t, nI_lt_f, nI_le_t, nI_le_f, inR_t, inR_f, nI_mI, mI_nI, mI_lt, nI_lm, mI_le, nI_em, Int.cast_ofNat_Int, Nat.reduceBEq, or_true, true_or, or_false, false_or, Bool.true_and, Bool.and_true, Bool.false_and, Bool.and_false, Bool.or_true, Bool.true_or, Bool.or_false, Bool.false_or, beq_self_eq_true, not_false_eq_true, if_true, if_false, ite_true, ite_false, eq_self, and_true, true_and, and_false, false_and, not_true_eq_false, not_false_eq_true, reduceCtorEq, and_self, Nat.reduceLeDiff, Nat.reduceEqDiff, Nat.reduceLT, Nat.reduceSub, Int.reduceSub, Int.reduceLE, ne_eq, ↓reduceIte, Nat.reduceMul, Nat.reduceAdd, hR.t34, hR.t35, hR.n35, hR.t36, hR.n36, hR.t37, hR.n37, hR.t38, hR.n38, hR.t39, hR.n39, hR.t40, hR.n40, hR.t41, hR.n41, hR.t42, hR.n42, hR.t43, hR.n43, hR.t44, hR.n44, hR.t45, hR.n45, hR.t46, hR.n46, hR.t47, hR.n47, hR.t48, hR.n48, hR.t49, hR.n49, hR.t50, hR.n50, hR.t51, hR.n51, hR.t52, hR.n52, hR.t53, hR.n53, hR.t54, hR.n54, hR.t55, hR.n55, hR.t56, hR.n56, hR.t57, hR.n57, hR.t58, hR.n58, hR.t59, hR.n59, hR.t60, hR.n60, hR.t61, hR.n61, hR.t62, hR.n62, hR.t63, hR.n63, hR.t64, hR.n64, hR.t65, hR.n65, hR.t66, hR.n66, hR.t67, hR.n67, hR.t68, hR.n68, hR.t69, hR.n69, hR.t70, hR.n70, hR.t71, hR.n71, hR.f2, hR.f3, hR.f4, hR.f5, hR.f6, hR.f7, hR.f8, hR.f9, hR.f10, hR.f11, hR.f12, hR.f13, hR.f14, hR.f15, hR.f16, hR.f18, hR.f19, hR.f20, hR.f21, hR.f22, hR.f25, hR.f26, hR.f27, hR.f28, hR.f29, hR.f30, hR.f31, hR.f32, hR.f34, hR.f36, hR.f37, hR.f38, hR.f40, hR.f41, hR.f42, hR.f43, hR.f44]
  · rcases d7 with ⟨z1, z2⟩ | z
    · refine Or.inl ⟨z1, ?_⟩
      rw [z2, b2.I (by omega), wI_se]
    · exact Or.inr z
end Ok
