/-! (B) best: pure, and the reference's -/
section Bp
variable {D : PD} {L L' : Nat → Nat} {k k' : Nat} {o o' : Nat → Nat}
theorem bij_cz {f : Nat → Nat} : ∀ (N k : Nat) (o : Nat → Nat), (∀ r, r < k → o r < N ∧ f (o r) ≠ 0) → (∀ r s, r < s → s < k → o r ≠ o s) → (∀ c, c < N → f c ≠ 0 → ∃ r, r < k ∧ o r = c) → k = cz f N := by
  intro N
  induction N with
  | zero => intro k o h _ _; exact Nat.eq_zero_of_not_pos (fun q => absurd (h 0 q).1 (by omega))
  | succ N ih =>
    intro k o h1 h2 h3
    show k = cz f N + (if f N = 0 then 0 else 1)
    by_cases e : f N = 0
    · rw [if_pos e]
      exact ih k o (fun r hr => by
        have := h1 r hr
        have n : o r ≠ N := fun q => this.2 (q ▸ e)
        exact ⟨by omega, this.2⟩) h2 (fun c hc => h3 c (by omega))
    · rw [if_neg e]
      obtain ⟨r0, q1, q2⟩ := h3 N (by omega) e
      have := ih (k - 1) (fun r => if o r = N then o (k - 1) else o r) (fun r hr => by
        show (if o r = N then o (k - 1) else o r) < N ∧ f (if o r = N then o (k - 1) else o r) ≠ 0
        have a := h1 r (by omega)
        have b := h1 (k - 1) (by omega)
        have c := h2 r (k - 1) (by omega) (by omega)
        split
        · exact ⟨by omega, b.2⟩
        · exact ⟨by omega, a.2⟩) (fun r s hr hs => by
        show (if o r = N then o (k - 1) else o r) ≠ (if o s = N then o (k - 1) else o s)
        have a := h2 r s hr (by omega)
        have b := h2 r (k - 1) (by omega) (by omega)
        have c := h2 s (k - 1) (by omega) (by omega)
        split <;> split <;> omega) (fun c hc hf => by
        obtain ⟨r, r1, r2⟩ := h3 c (by omega) hf
        by_cases g : r = k - 1
        · -- c stands last: it was moved to where N stood
          have n0 : r0 ≠ r := fun q => by rw [q, r2] at q2; omega
          refine ⟨r0, by omega, ?_⟩
          show (if o r0 = N then o (k - 1) else o r0) = c
          rw [if_pos q2, ← g, r2]
        · refine ⟨r, by omega, ?_⟩
          show (if o r = N then o (k - 1) else o r) = c
          rw [if_neg (by omega), r2])
      omega
theorem cz_mono {f g : Nat → Nat} : ∀ N, (∀ c, c < N → f c ≠ 0 → g c ≠ 0) → cz f N ≤ cz g N ∧ (cz f N = cz g N ↔ ∀ c, c < N → g c ≠ 0 → f c ≠ 0) := by
  intro N
  induction N with
  | zero => intro _; exact ⟨Nat.le_refl _, ⟨fun _ c hc => by omega, fun _ => rfl⟩⟩
  | succ N ih =>
    intro h
    obtain ⟨i1, i2⟩ := ih (fun c hc => h c (by omega))
    show cz f N + (if f N = 0 then 0 else 1) ≤ cz g N + (if g N = 0 then 0 else 1) ∧ (cz f N + (if f N = 0 then 0 else 1) = cz g N + (if g N = 0 then 0 else 1) ↔ _)
    have hN := h N (by omega)
    by_cases a : f N = 0
    · rw [if_pos a]
      by_cases b : g N = 0
      · rw [if_pos b]
        refine ⟨by omega, ⟨fun q c hc hg => ?_, fun q => by rw [i2.mpr (fun c hc => q c (by omega))]⟩⟩
        by_cases e : c = N
        · rw [e] at hg; exact absurd b hg
        · exact i2.mp (by omega) c (by omega) hg
      · rw [if_neg b]
        exact ⟨by omega, ⟨fun q => by omega, fun q => absurd a (q N (by omega) b)⟩⟩
    · rw [if_neg a, if_neg (hN a)]
      refine ⟨by omega, ⟨fun q c hc hg => ?_, fun q => by rw [i2.mpr (fun c hc => q c (by omega))]⟩⟩
      by_cases e : c = N
      · rw [e]; exact a
      · exact i2.mp (by omega) c (by omega) hg
/-- all cells are filled when as many are filled as there are -/
theorem FS.all (fs : FS D L k o) : k = cz (pdT D) (pdN D) ↔ ∀ d, d < pdN D → 0 < pdT D d → L d ≠ NO := by
  have e := bij_cz (f := fun c => if L c = NO then 0 else 1) (pdN D) k o (fun r hr => ⟨(fs.2.2.2.1 r hr).1, by
    show (if L (o r) = NO then 0 else 1) ≠ 0
    rw [if_neg (fs.2.2.2.1 r hr).2]
    omega⟩) (fun r s h1 h2 => by
    have : bef L (o r) (o s) := fs.2.2.2.2.2.1 r s h1 h2
    exact this.ne) (fun c hc q => fs.2.2.2.2.1 c hc (fun z => q (if_pos z)))
  have m := (cz_mono (f := fun c => if L c = NO then 0 else 1) (g := pdT D) (pdN D) (fun c hc q => by
    have : L c ≠ NO := fun z => q (if_pos z)
    have := fs.2.1 c hc this
    omega)).2
  rw [e, m]
  refine ⟨fun q d hd hp z => q d hd (by omega) (if_pos z), fun q c hc hg => ?_⟩
  show (if L c = NO then 0 else 1) ≠ 0
  rw [if_neg (q c hc (by omega))]
  omega
theorem Com.of {c : Nat} (fs : FS (pd1 D c) L k o) (h : ∀ d, d < pdN D → 0 < pdT D d → L d ≠ NO) : Com D c (endsOf L k o) := ⟨L, k, o, fs, h, rfl⟩
theorem Com.uq {c e f : Nat} (hT : ∀ c, c < pdN D → pdT D c ≤ 9) (h : Com D c e) (g : Com D c f) : e = f := by
  obtain ⟨L, k, o, a1, a2, a3⟩ := h
  obtain ⟨L', k', o', b1, b2, b3⟩ := g
  rw [a3, b3]
  exact FS.ends (D := pd1 D c) hT a1 b1
theorem Com.no {c e : Nat} (hT : ∀ c, c < pdN D → pdT D c ≤ 9) (h : Com D c e) (g : Inc D c) : False := by
  obtain ⟨L, k, o, a1, a2, a3⟩ := h
  obtain ⟨L', k', o', b1, d, d1, d2, d3⟩ := g
  have := FS.eqL (D := pd1 D c) hT a1 b1 (c := d) d1
  exact a2 d d1 d2 (this.trans d3)
theorem BestS.uq {v w : Int32} (hn : pdN D ≤ 144) (hT : ∀ c, c < pdN D → pdT D c ≤ 9) (h : BestS D v) (g : BestS D w) : v = w := by
  rcases h with ⟨a1, a2⟩ | ⟨c, e, a1, a2, a3, a4, a5⟩
  · rcases g with ⟨b1, b2⟩ | ⟨c', e', b1, b2, b3, b4, b5⟩
    · rw [a1, b1]
    · exact (b4.no hT (a2 c' b2 b3)).elim
  · rcases g with ⟨b1, b2⟩ | ⟨c', e', b1, b2, b3, b4, b5⟩
    · exact (a4.no hT (b2 c a2 a3)).elim
    · rcases a5 c' b2 b3 with q | ⟨f, q1, q2⟩
      · exact (b4.no hT q).elim
      · rcases b5 c a2 a3 with r | ⟨f', r1, r2⟩
        · exact (a4.no hT r).elim
        · have e1 := b4.uq hT q1
          have e2 := a4.uq hT r1
          rw [a1, b1]
          congr 1
          omega
/-- the best of the first i cells -/
def Bst (D : PD) (i : Nat) (v : Int32) (e : Nat) : Prop := (v = mI 1000000 ∧ ∀ c, c < i → 0 < pdT D c → Inc D c) ∨ ∃ c, v = nI c ∧ c < i ∧ 0 < pdT D c ∧ Com D c e ∧ ∀ d, d < i → 0 < pdT D d → Inc D d ∨ ∃ f, Com D d f ∧ (e < f ∨ (e = f ∧ c ≤ d))
theorem Bst.fin {v : Int32} {e : Nat} (h : Bst D (pdN D) v e) : BestS D v := by
  rcases h with h | ⟨c, h1, h2, h3, h4, h5⟩
  · exact Or.inl h
  · exact Or.inr ⟨c, e, h1, h2, h3, h4, h5⟩
/-- a cell that isn't better: none, not all filled, or no better an end -/
theorem Bst.skip {v : Int32} {e i : Nat} (h : Bst D i v e) (q : 0 < pdT D i → Inc D i ∨ (v ≠ mI 1000000 ∧ ∃ f, Com D i f ∧ e ≤ f)) : Bst D (i + 1) v e := by
  rcases h with ⟨h1, h2⟩ | ⟨c, h1, h2, h3, h4, h5⟩
  · refine Or.inl ⟨h1, fun c hc tc => ?_⟩
    by_cases g : c = i
    · subst g
      rcases q tc with z | z
      · exact z
      · exact absurd h1 z.1
    · exact h2 c (by omega) tc
  · refine Or.inr ⟨c, h1, by omega, h3, h4, fun d hd td => ?_⟩
    by_cases g : d = i
    · subst g
      rcases q td with z | ⟨-, f, z1, z2⟩
      · exact Or.inl z
      · exact Or.inr ⟨f, z1, by omega⟩
    · exact h5 d (by omega) td
theorem Bst.take {v : Int32} {e f i : Nat} (h : Bst D i v e) (t : 0 < pdT D i) (cm : Com D i f) (q : v = mI 1000000 ∨ f < e) (hi : i < 2 ^ 31) : Bst D (i + 1) (nI i) f := by
  refine Or.inr ⟨i, rfl, by omega, t, cm, fun d hd td => ?_⟩
  by_cases g : d = i
  · rw [g]; exact Or.inr ⟨f, cm, Or.inr ⟨rfl, Nat.le_refl _⟩⟩
  · rcases h with ⟨h1, h2⟩ | ⟨c, h1, h2, h3, h4, h5⟩
    · exact Or.inl (h2 d (by omega) td)
    · rcases q with q | q
      · rw [h1, nI_mI (by omega) (by omega) (by omega)] at q
        exact q.elim
      · rcases h5 d (by omega) td with z | ⟨g', z1, z2⟩
        · exact Or.inl z
        · exact Or.inr ⟨g', z1, Or.inl (by omega)⟩
end Bp
section Br
variable {X p : Nat} {R : St} {D : PD} {L : Nat → Nat} {k : Nat} {o : Nat → Nat}
theorem endsR_x (hR : RK X R) (hn : pdN D ≤ 144) (fs : FS D L k o) (rl : RLs X R L) (ro : RO X R k o) : pX11_ends (X + 34) R = some (nI (endsOf L k o), R) := by
  have kN := fs.2.2.1
  have e := ro.2.2
  unfold endsOf
  by_cases k0 : k = 0
  · subst k0
    rw [if_pos rfl]
    simp -implicitDefEqProofs (maxSteps := 2000000) (disch := first | omega | exact hgp | exact RK.mv hR rfl rfl rfl | exact CK.mv hC rfl rfl rfl | decide | (simp -implicitDefEqProofs only [wI_X, wJ_X, wF_X, nw_X]; first | done | omega)) only [pX11_ends, e, ng_x, b01, ite_clB, clB_id, clB_ie, nar_0, nar_1, wI_se, wI_ne, wJ_se, wJ_ne, wF_se, wF_ne, nw_Te, nw_Tn, nw_Ne, nw_Nn, nw_In, nw_Jn, nw_Fn, nw_X, nw_S, nI_pre, ↓gI_x, ↓gF_x, ↓pI_x, ↓pF_x, ↓pZ_x, ↓ldI_x, ↓stI_x, ↓ldZ_x, ↓stZ_x, ↓ldJ_x, ↓stJ_x, ↓ldF_x, ↓stF_x, ↓ln_x, ↓nO_x, ↓nA_x, onT_x, or2_x, un_s, nu_s, nu_n, ↓lt_x, ↓rt_x, ↓clB_x, ↓rtZ_x, iO_s, iO_n, ↓cO_x, dv_x, rm_x, ↓fl_x, below_x, among_x, in_x, l_toInt, inB_x, uN_nI, ↓ite_S, clB_s, clB_n, wI_T, wI_N, wI_F, wI_J, wI_X, wI_S, wJ_T, wJ_N, wJ_I, wJ_F, wJ_X, wJ_S, wF_T, wF_N, wF_I, wF_J, wF_X, wF_S, wIr_T, wIr_N, wIr_J, wIr_F, wIr_X, wIr_S, wJr_T, wJr_N, wJr_I, wJr_F, wJr_X, wJr_S, fit_10_10, fit_11_11, fit_12_1, fit_12_3, fit_12_4, fit_12_5, fit_1_1, fit_1_3, fit_1_4, fit_1_5, fit_2_2, fit_3_1, fit_3_3, fit_3_4, fit_3_5, fit_4_1, fit_4_3, fit_4_4, fit_4_5, fit_5_5, fit_6_6, fit_7_7, fit_8_8, fit_9_9, L_0, L_1, L_2, L_3, L_4, L_5, L_6, L_7, L_8, L_9, L_10, L_11, L_12, L_13, L_14, L_15, L_16, L_17, L_18, L_19, L_20, L_21, L_22, L_23, L_24, L_25, L_26, L_27, L_28, L_29, L_30, L_31, L_32, L_33, L_34, L_35, L_36, L_37, L_38, L_39, L_40, L_48, L_49, L_50, L_63, L_72, L_100, L_143, L_144, L_200, L_576, L_1000, L_1022, L_1151, L_1152, L_1440, L_5000, L_10000, L_1000000, L_2147483647, J_0, J_1, J_2, J_3, J_4, J_5, J_6, J_7, J_8, J_9, J_10, J_11, J_12, J_13, J_14, J_15, J_16, J_17, J_18, J_19, J_20, J_21, J_22, J_23, J_24, J_25, J_26, J_27, J_28, J_29, J_30, J_31, J_32, J_33, J_34, J_35, J_36, J_37, J_38, J_39, J_40, J_48, J_49, J_50, J_63, J_72, J_100, J_143, J_144, J_200, J_576, J_1000, J_1022, J_1151, J_1152, J_1440, J_5000, J_10000, J_1000000, J_2147483647, N_1, N_1000000, N_1000001, N_1000002, N_1000003, N_1000010, nI_toInt, nI_add, nI_mul, nI_et, nI_ef, nI_lt_t, nI_lt_f, nI_le_t, nI_le_f, inR_t, inR_f, nI_mI, mI_nI, mI_lt, nI_lm, mI_le, nI_em, Int.cast_ofNat_Int, Nat.reduceBEq, or_true, true_or, or_false, false_or, Bool.true_and, Bool.and_true, Bool.false_and, Bool.and_false, Bool.or_true, Bool.true_or, Bool.or_false, Bool.false_or, beq_self_eq_true, not_false_eq_true, if_true, if_false, ite_true, ite_false, eq_self, and_true, true_and, and_false, false_and, not_true_eq_false, not_false_eq_true, reduceCtorEq, and_self, Nat.reduceLeDiff, Nat.reduceEqDiff, Nat.reduceLT, Nat.reduceSub, Int.reduceSub, Int.reduceLE, ne_eq, ↓reduceIte, Nat.reduceMul, Nat.reduceAdd, hR.t34, hR.t35, hR.n35, hR.t36, hR.n36, hR.t37, hR.n37, hR.t38, hR.n38, hR.t39, hR.n39, hR.t40, hR.n40, hR.t41, hR.n41, hR.t42, hR.n42, hR.t43, hR.n43, hR.t44, hR.n44, hR.t45, hR.n45, hR.t46, hR.n46, hR.t47, hR.n47, hR.t48, hR.n48, hR.t49, hR.n49, hR.t50, hR.n50, hR.t51, hR.n51, hR.t52, hR.n52, hR.t53, hR.n53, hR.t54, hR.n54, hR.t55, hR.n55, hR.t56, hR.n56, hR.t57, hR.n57, hR.t58, hR.n58, hR.t59, hR.n59, hR.t60, hR.n60, hR.t61, hR.n61, hR.t62, hR.n62, hR.t63, hR.n63, hR.t64, hR.n64, hR.t65, hR.n65, hR.t66, hR.n66, hR.t67, hR.n67, hR.t68, hR.n68, hR.t69, hR.n69, hR.t70, hR.n70, hR.t71, hR.n71, hR.f2, hR.f3, hR.f4, hR.f5, hR.f6, hR.f7, hR.f8, hR.f9, hR.f10, hR.f11, hR.f12, hR.f13, hR.f14, hR.f15, hR.f16, hR.f18, hR.f19, hR.f20, hR.f21, hR.f22, hR.f25, hR.f26, hR.f27, hR.f28, hR.f29, hR.f30, hR.f31, hR.f32, hR.f34, hR.f36, hR.f37, hR.f38, hR.f40, hR.f41, hR.f42, hR.f43, hR.f44]
  · rw [if_neg k0]
    obtain ⟨o1, o2⟩ := fs.2.2.2.1 (k - 1) (by omega)
    have e9 := (ro.2.1 (k - 1) (by omega)).1
    have e50 := ((rl.2 (o (k - 1)) (by omega)).2 o2).1
    have sb : nI k - nI 1 = nI (k - 1) := nI_sub (by omega)
    simp -implicitDefEqProofs (maxSteps := 2000000) (disch := first | omega | exact hgp | exact RK.mv hR rfl rfl rfl | exact CK.mv hC rfl rfl rfl | decide | (simp -implicitDefEqProofs only [wI_X, wJ_X, wF_X, nw_X]; first | done | omega)) only [pX11_ends, e, sb, e9, e50, ng_x, b01, ite_clB, clB_id, clB_ie, nar_0, nar_1, wI_se, wI_ne, wJ_se, wJ_ne, wF_se, wF_ne, nw_Te, nw_Tn, nw_Ne, nw_Nn, nw_In, nw_Jn, nw_Fn, nw_X, nw_S, nI_pre, ↓gI_x, ↓gF_x, ↓pI_x, ↓pF_x, ↓pZ_x, ↓ldI_x, ↓stI_x, ↓ldZ_x, ↓stZ_x, ↓ldJ_x, ↓stJ_x, ↓ldF_x, ↓stF_x, ↓ln_x, ↓nO_x, ↓nA_x, onT_x, or2_x, un_s, nu_s, nu_n, ↓lt_x, ↓rt_x, ↓clB_x, ↓rtZ_x, iO_s, iO_n, ↓cO_x, dv_x, rm_x, ↓fl_x, below_x, among_x, in_x, l_toInt, inB_x, uN_nI, ↓ite_S, clB_s, clB_n, wI_T, wI_N, wI_F, wI_J, wI_X, wI_S, wJ_T, wJ_N, wJ_I, wJ_F, wJ_X, wJ_S, wF_T, wF_N, wF_I, wF_J, wF_X, wF_S, wIr_T, wIr_N, wIr_J, wIr_F, wIr_X, wIr_S, wJr_T, wJr_N, wJr_I, wJr_F, wJr_X, wJr_S, fit_10_10, fit_11_11, fit_12_1, fit_12_3, fit_12_4, fit_12_5, fit_1_1, fit_1_3, fit_1_4, fit_1_5, fit_2_2, fit_3_1, fit_3_3, fit_3_4, fit_3_5, fit_4_1, fit_4_3, fit_4_4, fit_4_5, fit_5_5, fit_6_6, fit_7_7, fit_8_8, fit_9_9, L_0, L_1, L_2, L_3, L_4, L_5, L_6, L_7, L_8, L_9, L_10, L_11, L_12, L_13, L_14, L_15, L_16, L_17, L_18, L_19, L_20, L_21, L_22, L_23, L_24, L_25, L_26, L_27, L_28, L_29, L_30, L_31, L_32, L_33, L_34, L_35, L_36, L_37, L_38, L_39, L_40, L_48, L_49, L_50, L_63, L_72, L_100, L_143, L_144, L_200, L_576, L_1000, L_1022, L_1151, L_1152, L_1440, L_5000, L_10000, L_1000000, L_2147483647, J_0, J_1, J_2, J_3, J_4, J_5, J_6, J_7, J_8, J_9, J_10, J_11, J_12, J_13, J_14, J_15, J_16, J_17, J_18, J_19, J_20, J_21, J_22, J_23, J_24, J_25, J_26, J_27, J_28, J_29, J_30, J_31, J_32, J_33, J_34, J_35, J_36, J_37, J_38, J_39, J_40, J_48, J_49, J_50, J_63, J_72, J_100, J_143, J_144, J_200, J_576, J_1000, J_1022, J_1151, J_1152, J_1440, J_5000, J_10000, J_1000000, J_2147483647, N_1, N_1000000, N_1000001, N_1000002, N_1000003, N_1000010, nI_toInt, nI_add, nI_mul, nI_et, nI_ef, nI_lt_t, nI_lt_f, nI_le_t, nI_le_f, inR_t, inR_f, nI_mI, mI_nI, mI_lt, nI_lm, mI_le, nI_em, Int.cast_ofNat_Int, Nat.reduceBEq, or_true, true_or, or_false, false_or, Bool.true_and, Bool.and_true, Bool.false_and, Bool.and_false, Bool.or_true, Bool.true_or, Bool.or_false, Bool.false_or, beq_self_eq_true, not_false_eq_true, if_true, if_false, ite_true, ite_false, eq_self, and_true, true_and, and_false, false_and, not_true_eq_false, not_false_eq_true, reduceCtorEq, and_self, Nat.reduceLeDiff, Nat.reduceEqDiff, Nat.reduceLT, Nat.reduceSub, Int.reduceSub, Int.reduceLE, ne_eq, ↓reduceIte, Nat.reduceMul, Nat.reduceAdd, hR.t34, hR.t35, hR.n35, hR.t36, hR.n36, hR.t37, hR.n37, hR.t38, hR.n38, hR.t39, hR.n39, hR.t40, hR.n40, hR.t41, hR.n41, hR.t42, hR.n42, hR.t43, hR.n43, hR.t44, hR.n44, hR.t45, hR.n45, hR.t46, hR.n46, hR.t47, hR.n47, hR.t48, hR.n48, hR.t49, hR.n49, hR.t50, hR.n50, hR.t51, hR.n51, hR.t52, hR.n52, hR.t53, hR.n53, hR.t54, hR.n54, hR.t55, hR.n55, hR.t56, hR.n56, hR.t57, hR.n57, hR.t58, hR.n58, hR.t59, hR.n59, hR.t60, hR.n60, hR.t61, hR.n61, hR.t62, hR.n62, hR.t63, hR.n63, hR.t64, hR.n64, hR.t65, hR.n65, hR.t66, hR.n66, hR.t67, hR.n67, hR.t68, hR.n68, hR.t69, hR.n69, hR.t70, hR.n70, hR.t71, hR.n71, hR.f2, hR.f3, hR.f4, hR.f5, hR.f6, hR.f7, hR.f8, hR.f9, hR.f10, hR.f11, hR.f12, hR.f13, hR.f14, hR.f15, hR.f16, hR.f18, hR.f19, hR.f20, hR.f21, hR.f22, hR.f25, hR.f26, hR.f27, hR.f28, hR.f29, hR.f30, hR.f31, hR.f32, hR.f34, hR.f36, hR.f37, hR.f38, hR.f40, hR.f41, hR.f42, hR.f43, hR.f44]
theorem cellsR_L (hR : RK X R) (rp : RP X R p D) : ∀ (m i fuel : Nat), i + m = 144 → m < fuel → ∀ K, pX11_best_L42 (X + 34) (nI p) K fuel (nI (cz (fun k => if k < pdN D then pdT D k else 0) i)) (nI i) R = K (nI (cz (fun k => if k < pdN D then pdT D k else 0) 144)) R := by
  have hp := rp.1
  intro m
  induction m with
  | zero =>
    intro i fuel hi hf K
    obtain ⟨f, rfl⟩ : ∃ f, fuel = f + 1 := ⟨fuel - 1, by omega⟩
    have : i = 144 := by omega
    subst this
    simp -implicitDefEqProofs (maxSteps := 2000000) (disch := first | omega | exact hgp | exact RK.mv hR rfl rfl rfl | exact CK.mv hC rfl rfl rfl | decide | (simp -implicitDefEqProofs only [wI_X, wJ_X, wF_X, nw_X]; first | done | omega)) only [pX11_best_L42, ng_x, b01, ite_clB, clB_id, clB_ie, nar_0, nar_1, wI_se, wI_ne, wJ_se, wJ_ne, wF_se, wF_ne, nw_Te, nw_Tn, nw_Ne, nw_Nn, nw_In, nw_Jn, nw_Fn, nw_X, nw_S, nI_pre, ↓gI_x, ↓gF_x, ↓pI_x, ↓pF_x, ↓pZ_x, ↓ldI_x, ↓stI_x, ↓ldZ_x, ↓stZ_x, ↓ldJ_x, ↓stJ_x, ↓ldF_x, ↓stF_x, ↓ln_x, ↓nO_x, ↓nA_x, onT_x, or2_x, un_s, nu_s, nu_n, ↓lt_x, ↓rt_x, ↓clB_x, ↓rtZ_x, iO_s, iO_n, ↓cO_x, dv_x, rm_x, ↓fl_x, below_x, among_x, in_x, l_toInt, inB_x, uN_nI, ↓ite_S, clB_s, clB_n, wI_T, wI_N, wI_F, wI_J, wI_X, wI_S, wJ_T, wJ_N, wJ_I, wJ_F, wJ_X, wJ_S, wF_T, wF_N, wF_I, wF_J, wF_X, wF_S, wIr_T, wIr_N, wIr_J, wIr_F, wIr_X, wIr_S, wJr_T, wJr_N, wJr_I, wJr_F, wJr_X, wJr_S, fit_10_10, fit_11_11, fit_12_1, fit_12_3, fit_12_4, fit_12_5, fit_1_1, fit_1_3, fit_1_4, fit_1_5, fit_2_2, fit_3_1, fit_3_3, fit_3_4, fit_3_5, fit_4_1, fit_4_3, fit_4_4, fit_4_5, fit_5_5, fit_6_6, fit_7_7, fit_8_8, fit_9_9, L_0, L_1, L_2, L_3, L_4, L_5, L_6, L_7, L_8, L_9, L_10, L_11, L_12, L_13, L_14, L_15, L_16, L_17, L_18, L_19, L_20, L_21, L_22, L_23, L_24, L_25, L_26, L_27, L_28, L_29, L_30, L_31, L_32, L_33, L_34, L_35, L_36, L_37, L_38, L_39, L_40, L_48, L_49, L_50, L_63, L_72, L_100, L_143, L_144, L_200, L_576, L_1000, L_1022, L_1151, L_1152, L_1440, L_5000, L_10000, L_1000000, L_2147483647, J_0, J_1, J_2, J_3, J_4, J_5, J_6, J_7, J_8, J_9, J_10, J_11, J_12, J_13, J_14, J_15, J_16, J_17, J_18, J_19, J_20, J_21, J_22, J_23, J_24, J_25, J_26, J_27, J_28, J_29, J_30, J_31, J_32, J_33, J_34, J_35, J_36, J_37, J_38, J_39, J_40, J_48, J_49, J_50, J_63, J_72, J_100, J_143, J_144, J_200, J_576, J_1000, J_1022, J_1151, J_1152, J_1440, J_5000, J_10000, J_1000000, J_2147483647, N_1, N_1000000, N_1000001, N_1000002, N_1000003, N_1000010, nI_toInt, nI_add, nI_mul, nI_et, nI_ef, nI_lt_t, nI_lt_f, nI_le_t, nI_le_f, inR_t, inR_f, nI_mI, mI_nI, mI_lt, nI_lm, mI_le, nI_em, Int.cast_ofNat_Int, Nat.reduceBEq, or_true, true_or, or_false, false_or, Bool.true_and, Bool.and_true, Bool.false_and, Bool.and_false, Bool.or_true, Bool.true_or, Bool.or_false, Bool.false_or, beq_self_eq_true, not_false_eq_true, if_true, if_false, ite_true, ite_false, eq_self, and_true, true_and, and_false, false_and, not_true_eq_false, not_false_eq_true, reduceCtorEq, and_self, Nat.reduceLeDiff, Nat.reduceEqDiff, Nat.reduceLT, Nat.reduceSub, Int.reduceSub, Int.reduceLE, ne_eq, ↓reduceIte, Nat.reduceMul, Nat.reduceAdd, hR.t34, hR.t35, hR.n35, hR.t36, hR.n36, hR.t37, hR.n37, hR.t38, hR.n38, hR.t39, hR.n39, hR.t40, hR.n40, hR.t41, hR.n41, hR.t42, hR.n42, hR.t43, hR.n43, hR.t44, hR.n44, hR.t45, hR.n45, hR.t46, hR.n46, hR.t47, hR.n47, hR.t48, hR.n48, hR.t49, hR.n49, hR.t50, hR.n50, hR.t51, hR.n51, hR.t52, hR.n52, hR.t53, hR.n53, hR.t54, hR.n54, hR.t55, hR.n55, hR.t56, hR.n56, hR.t57, hR.n57, hR.t58, hR.n58, hR.t59, hR.n59, hR.t60, hR.n60, hR.t61, hR.n61, hR.t62, hR.n62, hR.t63, hR.n63, hR.t64, hR.n64, hR.t65, hR.n65, hR.t66, hR.n66, hR.t67, hR.n67, hR.t68, hR.n68, hR.t69, hR.n69, hR.t70, hR.n70, hR.t71, hR.n71, hR.f2, hR.f3, hR.f4, hR.f5, hR.f6, hR.f7, hR.f8, hR.f9, hR.f10, hR.f11, hR.f12, hR.f13, hR.f14, hR.f15, hR.f16, hR.f18, hR.f19, hR.f20, hR.f21, hR.f22, hR.f25, hR.f26, hR.f27, hR.f28, hR.f29, hR.f30, hR.f31, hR.f32, hR.f34, hR.f36, hR.f37, hR.f38, hR.f40, hR.f41, hR.f42, hR.f43, hR.f44]
  | succ m ih =>
    intro i fuel hi hf K
    obtain ⟨f, rfl⟩ : ∃ f, fuel = f + 1 := ⟨fuel - 1, by omega⟩
    have e := rp.2.2.2.2.2.2.2.1 i (by omega)
    have w := ih (i + 1) f (by omega) (by omega) K
    have s : cz (fun k => if k < pdN D then pdT D k else 0) (i + 1) = cz (fun k => if k < pdN D then pdT D k else 0) i + (if (if i < pdN D then pdT D i else 0) = 0 then 0 else 1) := rfl
    rw [s] at w
    generalize hz : cz (fun k => if k < pdN D then pdT D k else 0) i = z at w ⊢
    have t9 : (if i < pdN D then pdT D i else 0) ≤ 9 := by
      split
      · rename_i g; exact rp.2.2.2.2.2.2.2.2 i g
      · omega
    generalize (if i < pdN D then pdT D i else 0) = t at e w t9
    refine Eq.trans ?_ w
    by_cases t0 : t = 0
    · subst t0
      rw [if_pos rfl]
      simp -implicitDefEqProofs (maxSteps := 2000000) (disch := first | omega | exact hgp | exact RK.mv hR rfl rfl rfl | exact CK.mv hC rfl rfl rfl | decide | (simp -implicitDefEqProofs only [wI_X, wJ_X, wF_X, nw_X]; first | done | omega)) only [pX11_best_L42, e, ng_x, b01, ite_clB, clB_id, clB_ie, nar_0, nar_1, wI_se, wI_ne, wJ_se, wJ_ne, wF_se, wF_ne, nw_Te, nw_Tn, nw_Ne, nw_Nn, nw_In, nw_Jn, nw_Fn, nw_X, nw_S, nI_pre, ↓gI_x, ↓gF_x, ↓pI_x, ↓pF_x, ↓pZ_x, ↓ldI_x, ↓stI_x, ↓ldZ_x, ↓stZ_x, ↓ldJ_x, ↓stJ_x, ↓ldF_x, ↓stF_x, ↓ln_x, ↓nO_x, ↓nA_x, onT_x, or2_x, un_s, nu_s, nu_n, ↓lt_x, ↓rt_x, ↓clB_x, ↓rtZ_x, iO_s, iO_n, ↓cO_x, dv_x, rm_x, ↓fl_x, below_x, among_x, in_x, l_toInt, inB_x, uN_nI, ↓ite_S, clB_s, clB_n, wI_T, wI_N, wI_F, wI_J, wI_X, wI_S, wJ_T, wJ_N, wJ_I, wJ_F, wJ_X, wJ_S, wF_T, wF_N, wF_I, wF_J, wF_X, wF_S, wIr_T, wIr_N, wIr_J, wIr_F, wIr_X, wIr_S, wJr_T, wJr_N, wJr_I, wJr_F, wJr_X, wJr_S, fit_10_10, fit_11_11, fit_12_1, fit_12_3, fit_12_4, fit_12_5, fit_1_1, fit_1_3, fit_1_4, fit_1_5, fit_2_2, fit_3_1, fit_3_3, fit_3_4, fit_3_5, fit_4_1, fit_4_3, fit_4_4, fit_4_5, fit_5_5, fit_6_6, fit_7_7, fit_8_8, fit_9_9, L_0, L_1, L_2, L_3, L_4, L_5, L_6, L_7, L_8, L_9, L_10, L_11, L_12, L_13, L_14, L_15, L_16, L_17, L_18, L_19, L_20, L_21, L_22, L_23, L_24, L_25, L_26, L_27, L_28, L_29, L_30, L_31, L_32, L_33, L_34, L_35, L_36, L_37, L_38, L_39, L_40, L_48, L_49, L_50, L_63, L_72, L_100, L_143, L_144, L_200, L_576, L_1000, L_1022, L_1151, L_1152, L_1440, L_5000, L_10000, L_1000000, L_2147483647, J_0, J_1, J_2, J_3, J_4, J_5, J_6, J_7, J_8, J_9, J_10, J_11, J_12, J_13, J_14, J_15, J_16, J_17, J_18, J_19, J_20, J_21, J_22, J_23, J_24, J_25, J_26, J_27, J_28, J_29, J_30, J_31, J_32, J_33, J_34, J_35, J_36, J_37, J_38, J_39, J_40, J_48, J_49, J_50, J_63, J_72, J_100, J_143, J_144, J_200, J_576, J_1000, J_1022, J_1151, J_1152, J_1440, J_5000, J_10000, J_1000000, J_2147483647, N_1, N_1000000, N_1000001, N_1000002, N_1000003, N_1000010, nI_toInt, nI_add, nI_mul, nI_et, nI_ef, nI_lt_t, nI_lt_f, nI_le_t, nI_le_f, inR_t, inR_f, nI_mI, mI_nI, mI_lt, nI_lm, mI_le, nI_em, Int.cast_ofNat_Int, Nat.reduceBEq, or_true, true_or, or_false, false_or, Bool.true_and, Bool.and_true, Bool.false_and, Bool.and_false, Bool.or_true, Bool.true_or, Bool.or_false, Bool.false_or, beq_self_eq_true, not_false_eq_true, if_true, if_false, ite_true, ite_false, eq_self, and_true, true_and, and_false, false_and, not_true_eq_false, not_false_eq_true, reduceCtorEq, and_self, Nat.reduceLeDiff, Nat.reduceEqDiff, Nat.reduceLT, Nat.reduceSub, Int.reduceSub, Int.reduceLE, ne_eq, ↓reduceIte, Nat.reduceMul, Nat.reduceAdd, hR.t34, hR.t35, hR.n35, hR.t36, hR.n36, hR.t37, hR.n37, hR.t38, hR.n38, hR.t39, hR.n39, hR.t40, hR.n40, hR.t41, hR.n41, hR.t42, hR.n42, hR.t43, hR.n43, hR.t44, hR.n44, hR.t45, hR.n45, hR.t46, hR.n46, hR.t47, hR.n47, hR.t48, hR.n48, hR.t49, hR.n49, hR.t50, hR.n50, hR.t51, hR.n51, hR.t52, hR.n52, hR.t53, hR.n53, hR.t54, hR.n54, hR.t55, hR.n55, hR.t56, hR.n56, hR.t57, hR.n57, hR.t58, hR.n58, hR.t59, hR.n59, hR.t60, hR.n60, hR.t61, hR.n61, hR.t62, hR.n62, hR.t63, hR.n63, hR.t64, hR.n64, hR.t65, hR.n65, hR.t66, hR.n66, hR.t67, hR.n67, hR.t68, hR.n68, hR.t69, hR.n69, hR.t70, hR.n70, hR.t71, hR.n71, hR.f2, hR.f3, hR.f4, hR.f5, hR.f6, hR.f7, hR.f8, hR.f9, hR.f10, hR.f11, hR.f12, hR.f13, hR.f14, hR.f15, hR.f16, hR.f18, hR.f19, hR.f20, hR.f21, hR.f22, hR.f25, hR.f26, hR.f27, hR.f28, hR.f29, hR.f30, hR.f31, hR.f32, hR.f34, hR.f36, hR.f37, hR.f38, hR.f40, hR.f41, hR.f42, hR.f43, hR.f44]
    · rw [if_neg t0]
      simp -implicitDefEqProofs (maxSteps := 2000000) (disch := first | omega | exact hgp | exact RK.mv hR rfl rfl rfl | exact CK.mv hC rfl rfl rfl | decide | (simp -implicitDefEqProofs only [wI_X, wJ_X, wF_X, nw_X]; first | done | omega)) only [pX11_best_L42, e, ng_x, b01, ite_clB, clB_id, clB_ie, nar_0, nar_1, wI_se, wI_ne, wJ_se, wJ_ne, wF_se, wF_ne, nw_Te, nw_Tn, nw_Ne, nw_Nn, nw_In, nw_Jn, nw_Fn, nw_X, nw_S, nI_pre, ↓gI_x, ↓gF_x, ↓pI_x, ↓pF_x, ↓pZ_x, ↓ldI_x, ↓stI_x, ↓ldZ_x, ↓stZ_x, ↓ldJ_x, ↓stJ_x, ↓ldF_x, ↓stF_x, ↓ln_x, ↓nO_x, ↓nA_x, onT_x, or2_x, un_s, nu_s, nu_n, ↓lt_x, ↓rt_x, ↓clB_x, ↓rtZ_x, iO_s, iO_n, ↓cO_x, dv_x, rm_x, ↓fl_x, below_x, among_x, in_x, l_toInt, inB_x, uN_nI, ↓ite_S, clB_s, clB_n, wI_T, wI_N, wI_F, wI_J, wI_X, wI_S, wJ_T, wJ_N, wJ_I, wJ_F, wJ_X, wJ_S, wF_T, wF_N, wF_I, wF_J, wF_X, wF_S, wIr_T, wIr_N, wIr_J, wIr_F, wIr_X, wIr_S, wJr_T, wJr_N, wJr_I, wJr_F, wJr_X, wJr_S, fit_10_10, fit_11_11, fit_12_1, fit_12_3, fit_12_4, fit_12_5, fit_1_1, fit_1_3, fit_1_4, fit_1_5, fit_2_2, fit_3_1, fit_3_3, fit_3_4, fit_3_5, fit_4_1, fit_4_3, fit_4_4, fit_4_5, fit_5_5, fit_6_6, fit_7_7, fit_8_8, fit_9_9, L_0, L_1, L_2, L_3, L_4, L_5, L_6, L_7, L_8, L_9, L_10, L_11, L_12, L_13, L_14, L_15, L_16, L_17, L_18, L_19, L_20, L_21, L_22, L_23, L_24, L_25, L_26, L_27, L_28, L_29, L_30, L_31, L_32, L_33, L_34, L_35, L_36, L_37, L_38, L_39, L_40, L_48, L_49, L_50, L_63, L_72, L_100, L_143, L_144, L_200, L_576, L_1000, L_1022, L_1151, L_1152, L_1440, L_5000, L_10000, L_1000000, L_2147483647, J_0, J_1, J_2, J_3, J_4, J_5, J_6, J_7, J_8, J_9, J_10, J_11, J_12, J_13, J_14, J_15, J_16, J_17, J_18, J_19, J_20, J_21, J_22, J_23, J_24, J_25, J_26, J_27, J_28, J_29, J_30, J_31, J_32, J_33, J_34, J_35, J_36, J_37, J_38, J_39, J_40, J_48, J_49, J_50, J_63, J_72, J_100, J_143, J_144, J_200, J_576, J_1000, J_1022, J_1151, J_1152, J_1440, J_5000, J_10000, J_1000000, J_2147483647, N_1, N_1000000, N_1000001, N_1000002, N_1000003, N_1000010, nI_toInt, nI_add, nI_mul, nI_et, nI_ef, nI_lt_t, nI_lt_f, nI_le_t, nI_le_f, inR_t, inR_f, nI_mI, mI_nI, mI_lt, nI_lm, mI_le, nI_em, Int.cast_ofNat_Int, Nat.reduceBEq, or_true, true_or, or_false, false_or, Bool.true_and, Bool.and_true, Bool.false_and, Bool.and_false, Bool.or_true, Bool.true_or, Bool.or_false, Bool.false_or, beq_self_eq_true, not_false_eq_true, if_true, if_false, ite_true, ite_false, eq_self, and_true, true_and, and_false, false_and, not_true_eq_false, not_false_eq_true, reduceCtorEq, and_self, Nat.reduceLeDiff, Nat.reduceEqDiff, Nat.reduceLT, Nat.reduceSub, Int.reduceSub, Int.reduceLE, ne_eq, ↓reduceIte, Nat.reduceMul, Nat.reduceAdd, hR.t34, hR.t35, hR.n35, hR.t36, hR.n36, hR.t37, hR.n37, hR.t38, hR.n38, hR.t39, hR.n39, hR.t40, hR.n40, hR.t41, hR.n41, hR.t42, hR.n42, hR.t43, hR.n43, hR.t44, hR.n44, hR.t45, hR.n45, hR.t46, hR.n46, hR.t47, hR.n47, hR.t48, hR.n48, hR.t49, hR.n49, hR.t50, hR.n50, hR.t51, hR.n51, hR.t52, hR.n52, hR.t53, hR.n53, hR.t54, hR.n54, hR.t55, hR.n55, hR.t56, hR.n56, hR.t57, hR.n57, hR.t58, hR.n58, hR.t59, hR.n59, hR.t60, hR.n60, hR.t61, hR.n61, hR.t62, hR.n62, hR.t63, hR.n63, hR.t64, hR.n64, hR.t65, hR.n65, hR.t66, hR.n66, hR.t67, hR.n67, hR.t68, hR.n68, hR.t69, hR.n69, hR.t70, hR.n70, hR.t71, hR.n71, hR.f2, hR.f3, hR.f4, hR.f5, hR.f6, hR.f7, hR.f8, hR.f9, hR.f10, hR.f11, hR.f12, hR.f13, hR.f14, hR.f15, hR.f16, hR.f18, hR.f19, hR.f20, hR.f21, hR.f22, hR.f25, hR.f26, hR.f27, hR.f28, hR.f29, hR.f30, hR.f31, hR.f32, hR.f34, hR.f36, hR.f37, hR.f38, hR.f40, hR.f41, hR.f42, hR.f43, hR.f44]
theorem cz_pad {t : Nat → Nat} {N : Nat} : ∀ m, cz (fun k => if k < N then t k else 0) (N + m) = cz t N := by
  have c : ∀ n, n ≤ N → cz (fun k => if k < N then t k else 0) n = cz t n := by
    intro n
    induction n with
    | zero => intro _; rfl
    | succ n ih =>
      intro h
      show cz _ n + (if (if n < N then t n else 0) = 0 then 0 else 1) = cz t n + (if t n = 0 then 0 else 1)
      rw [ih (by omega), if_pos (by omega : n < N)]
  intro m
  induction m with
  | zero => exact c N (Nat.le_refl _)
  | succ m ih =>
    show cz (fun k => if k < N then t k else 0) (N + m) + (if (if N + m < N then t (N + m) else 0) = 0 then 0 else 1) = _
    rw [ih, if_neg (by omega : ¬ N + m < N), if_pos rfl]
    rfl
theorem pd1_ok {c : Nat} (hc : c < pdN D) (tc : 0 < pdT D c) : GOk (pd1 D c) := ⟨by show (1 : Nat) ≤ 4; omega, fun _ _ => ⟨hc, tc⟩, fun i j h1 h2 => by
  have h2 : j < 1 := h2
  omega⟩
theorem fill1_x {c : Nat} (hR : RK X R) (rp : RP X R p D) (hc : c < pdN D) (tc : 0 < pdT D c) : ∃ R1 L k o, pX11_fill (X + 34) (nI p) (nI c) R = some ((), R1) ∧ OnI (fun a => a = X + 34 ∨ (X + 50 ≤ a ∧ a ≤ X + 54)) R R1 ∧ (∀ j, j ≠ 23 → sI R1 (X + 34) j = sI R (X + 34) j) ∧ RLs X R1 L ∧ RO X R1 k o ∧ FS (pd1 D c) L k o ∧ ∀ c, pdN D ≤ c → L c = NO := by
  have hn := rp.n
  exact fillR (D := pd1 D c) hR rp (pd1_ok hc tc) (Or.inr ⟨c, rfl, by omega, rfl, rfl⟩)
theorem bestR_L : ∀ (m i fuel e : Nat) (v : Int32) (R : St), RK X R → RP X R p D → Bst D i v e → e < 2 ^ 31 → i + m = pdN D → m < fuel → ∃ R1 v' e', (∀ K, pX11_best_L90 (X + 34) (nI p) (nI (cz (pdT D) (pdN D))) K fuel v (nI e) (nI i) R = K v' R1) ∧ Bst D (pdN D) v' e' ∧ OnI (fun a => a = X + 34 ∨ (X + 50 ≤ a ∧ a ≤ X + 54)) R R1 ∧ ∀ j, j ≠ 23 → sI R1 (X + 34) j = sI R (X + 34) j := by
  intro m
  induction m with
  | zero =>
    intro i fuel e v R hR rp bs he hi hf
    obtain ⟨f, rfl⟩ : ∃ f, fuel = f + 1 := ⟨fuel - 1, by omega⟩
    have hp := rp.1
    have hn := rp.n
    have r1 := rp.2.1
    have r2 := rp.2.2.1
    have N0 : pdN D = pdW D * pdH D := rfl
    have ei : i = pdN D := by omega
    refine ⟨R, v, e, fun K => ?_, ei ▸ bs, OnI.rf, fun _ _ => rfl⟩
    simp -implicitDefEqProofs (maxSteps := 2000000) (disch := first | omega | exact hgp | exact RK.mv hR rfl rfl rfl | exact CK.mv hC rfl rfl rfl | decide | (simp -implicitDefEqProofs only [wI_X, wJ_X, wF_X, nw_X]; first | done | omega)) only [pX11_best_L90, r1, r2, ng_x, b01, ite_clB, clB_id, clB_ie, nar_0, nar_1, wI_se, wI_ne, wJ_se, wJ_ne, wF_se, wF_ne, nw_Te, nw_Tn, nw_Ne, nw_Nn, nw_In, nw_Jn, nw_Fn, nw_X, nw_S, nI_pre, ↓gI_x, ↓gF_x, ↓pI_x, ↓pF_x, ↓pZ_x, ↓ldI_x, ↓stI_x, ↓ldZ_x, ↓stZ_x, ↓ldJ_x, ↓stJ_x, ↓ldF_x, ↓stF_x, ↓ln_x, ↓nO_x, ↓nA_x, onT_x, or2_x, un_s, nu_s, nu_n, ↓lt_x, ↓rt_x, ↓clB_x, ↓rtZ_x, iO_s, iO_n, ↓cO_x, dv_x, rm_x, ↓fl_x, below_x, among_x, in_x, l_toInt, inB_x, uN_nI, ↓ite_S, clB_s, clB_n, wI_T, wI_N, wI_F, wI_J, wI_X, wI_S, wJ_T, wJ_N, wJ_I, wJ_F, wJ_X, wJ_S, wF_T, wF_N, wF_I, wF_J, wF_X, wF_S, wIr_T, wIr_N, wIr_J, wIr_F, wIr_X, wIr_S, wJr_T, wJr_N, wJr_I, wJr_F, wJr_X, wJr_S, fit_10_10, fit_11_11, fit_12_1, fit_12_3, fit_12_4, fit_12_5, fit_1_1, fit_1_3, fit_1_4, fit_1_5, fit_2_2, fit_3_1, fit_3_3, fit_3_4, fit_3_5, fit_4_1, fit_4_3, fit_4_4, fit_4_5, fit_5_5, fit_6_6, fit_7_7, fit_8_8, fit_9_9, L_0, L_1, L_2, L_3, L_4, L_5, L_6, L_7, L_8, L_9, L_10, L_11, L_12, L_13, L_14, L_15, L_16, L_17, L_18, L_19, L_20, L_21, L_22, L_23, L_24, L_25, L_26, L_27, L_28, L_29, L_30, L_31, L_32, L_33, L_34, L_35, L_36, L_37, L_38, L_39, L_40, L_48, L_49, L_50, L_63, L_72, L_100, L_143, L_144, L_200, L_576, L_1000, L_1022, L_1151, L_1152, L_1440, L_5000, L_10000, L_1000000, L_2147483647, J_0, J_1, J_2, J_3, J_4, J_5, J_6, J_7, J_8, J_9, J_10, J_11, J_12, J_13, J_14, J_15, J_16, J_17, J_18, J_19, J_20, J_21, J_22, J_23, J_24, J_25, J_26, J_27, J_28, J_29, J_30, J_31, J_32, J_33, J_34, J_35, J_36, J_37, J_38, J_39, J_40, J_48, J_49, J_50, J_63, J_72, J_100, J_143, J_144, J_200, J_576, J_1000, J_1022, J_1151, J_1152, J_1440, J_5000, J_10000, J_1000000, J_2147483647, N_1, N_1000000, N_1000001, N_1000002, N_1000003, N_1000010, nI_toInt, nI_add, nI_mul, nI_et, nI_ef, nI_lt_t, nI_lt_f, nI_le_t, nI_le_f, inR_t, inR_f, nI_mI, mI_nI, mI_lt, nI_lm, mI_le, nI_em, Int.cast_ofNat_Int, Nat.reduceBEq, or_true, true_or, or_false, false_or, Bool.true_and, Bool.and_true, Bool.false_and, Bool.and_false, Bool.or_true, Bool.true_or, Bool.or_false, Bool.false_or, beq_self_eq_true, not_false_eq_true, if_true, if_false, ite_true, ite_false, eq_self, and_true, true_and, and_false, false_and, not_true_eq_false, not_false_eq_true, reduceCtorEq, and_self, Nat.reduceLeDiff, Nat.reduceEqDiff, Nat.reduceLT, Nat.reduceSub, Int.reduceSub, Int.reduceLE, ne_eq, ↓reduceIte, Nat.reduceMul, Nat.reduceAdd, hR.t34, hR.t35, hR.n35, hR.t36, hR.n36, hR.t37, hR.n37, hR.t38, hR.n38, hR.t39, hR.n39, hR.t40, hR.n40, hR.t41, hR.n41, hR.t42, hR.n42, hR.t43, hR.n43, hR.t44, hR.n44, hR.t45, hR.n45, hR.t46, hR.n46, hR.t47, hR.n47, hR.t48, hR.n48, hR.t49, hR.n49, hR.t50, hR.n50, hR.t51, hR.n51, hR.t52, hR.n52, hR.t53, hR.n53, hR.t54, hR.n54, hR.t55, hR.n55, hR.t56, hR.n56, hR.t57, hR.n57, hR.t58, hR.n58, hR.t59, hR.n59, hR.t60, hR.n60, hR.t61, hR.n61, hR.t62, hR.n62, hR.t63, hR.n63, hR.t64, hR.n64, hR.t65, hR.n65, hR.t66, hR.n66, hR.t67, hR.n67, hR.t68, hR.n68, hR.t69, hR.n69, hR.t70, hR.n70, hR.t71, hR.n71, hR.f2, hR.f3, hR.f4, hR.f5, hR.f6, hR.f7, hR.f8, hR.f9, hR.f10, hR.f11, hR.f12, hR.f13, hR.f14, hR.f15, hR.f16, hR.f18, hR.f19, hR.f20, hR.f21, hR.f22, hR.f25, hR.f26, hR.f27, hR.f28, hR.f29, hR.f30, hR.f31, hR.f32, hR.f34, hR.f36, hR.f37, hR.f38, hR.f40, hR.f41, hR.f42, hR.f43, hR.f44]
  | succ m ih =>
    intro i fuel e v R hR rp bs he hi hf
    obtain ⟨f, rfl⟩ : ∃ f, fuel = f + 1 := ⟨fuel - 1, by omega⟩
    have hp := rp.1
    have hn := rp.n
    have r1 := rp.2.1
    have r2 := rp.2.2.1
    have N0 : pdN D = pdW D * pdH D := rfl
    have hc : i < pdN D := by omega
    have e41 : sI R (X + 41) (144 * p + i) = nI (pdT D i) := by rw [rp.2.2.2.2.2.2.2.1 _ (by omega), if_pos hc]
    have t9 := rp.2.2.2.2.2.2.2.2 i hc
    have czl := cz_le (pdT D) (pdN D)
    by_cases t0 : pdT D i = 0
    · obtain ⟨R1, v', e', w1, w2⟩ := ih (i + 1) f e v R hR rp (bs.skip (fun q => by omega)) he (by omega) (by omega)
      refine ⟨R1, v', e', fun K => Eq.trans ?_ (w1 K), w2⟩
      rw [t0] at e41
      simp -implicitDefEqProofs (maxSteps := 2000000) (disch := first | omega | exact hgp | exact RK.mv hR rfl rfl rfl | exact CK.mv hC rfl rfl rfl | decide | (simp -implicitDefEqProofs only [wI_X, wJ_X, wF_X, nw_X]; first | done | omega)) only [pX11_best_L90, r1, r2, e41, ng_x, b01, ite_clB, clB_id, clB_ie, nar_0, nar_1, wI_se, wI_ne, wJ_se, wJ_ne, wF_se, wF_ne, nw_Te, nw_Tn, nw_Ne, nw_Nn, nw_In, nw_Jn, nw_Fn, nw_X, nw_S, nI_pre, ↓gI_x, ↓gF_x, ↓pI_x, ↓pF_x, ↓pZ_x, ↓ldI_x, ↓stI_x, ↓ldZ_x, ↓stZ_x, ↓ldJ_x, ↓stJ_x, ↓ldF_x, ↓stF_x, ↓ln_x, ↓nO_x, ↓nA_x, onT_x, or2_x, un_s, nu_s, nu_n, ↓lt_x, ↓rt_x, ↓clB_x, ↓rtZ_x, iO_s, iO_n, ↓cO_x, dv_x, rm_x, ↓fl_x, below_x, among_x, in_x, l_toInt, inB_x, uN_nI, ↓ite_S, clB_s, clB_n, wI_T, wI_N, wI_F, wI_J, wI_X, wI_S, wJ_T, wJ_N, wJ_I, wJ_F, wJ_X, wJ_S, wF_T, wF_N, wF_I, wF_J, wF_X, wF_S, wIr_T, wIr_N, wIr_J, wIr_F, wIr_X, wIr_S, wJr_T, wJr_N, wJr_I, wJr_F, wJr_X, wJr_S, fit_10_10, fit_11_11, fit_12_1, fit_12_3, fit_12_4, fit_12_5, fit_1_1, fit_1_3, fit_1_4, fit_1_5, fit_2_2, fit_3_1, fit_3_3, fit_3_4, fit_3_5, fit_4_1, fit_4_3, fit_4_4, fit_4_5, fit_5_5, fit_6_6, fit_7_7, fit_8_8, fit_9_9, L_0, L_1, L_2, L_3, L_4, L_5, L_6, L_7, L_8, L_9, L_10, L_11, L_12, L_13, L_14, L_15, L_16, L_17, L_18, L_19, L_20, L_21, L_22, L_23, L_24, L_25, L_26, L_27, L_28, L_29, L_30, L_31, L_32, L_33, L_34, L_35, L_36, L_37, L_38, L_39, L_40, L_48, L_49, L_50, L_63, L_72, L_100, L_143, L_144, L_200, L_576, L_1000, L_1022, L_1151, L_1152, L_1440, L_5000, L_10000, L_1000000, L_2147483647, J_0, J_1, J_2, J_3, J_4, J_5, J_6, J_7, J_8, J_9, J_10, J_11, J_12, J_13, J_14, J_15, J_16, J_17, J_18, J_19, J_20, J_21, J_22, J_23, J_24, J_25, J_26, J_27, J_28, J_29, J_30, J_31, J_32, J_33, J_34, J_35, J_36, J_37, J_38, J_39, J_40, J_48, J_49, J_50, J_63, J_72, J_100, J_143, J_144, J_200, J_576, J_1000, J_1022, J_1151, J_1152, J_1440, J_5000, J_10000, J_1000000, J_2147483647, N_1, N_1000000, N_1000001, N_1000002, N_1000003, N_1000010, nI_toInt, nI_add, nI_mul, nI_et, nI_ef, nI_lt_t, nI_lt_f, nI_le_t, nI_le_f, inR_t, inR_f, nI_mI, mI_nI, mI_lt, nI_lm, mI_le, nI_em, Int.cast_ofNat_Int, Nat.reduceBEq, or_true, true_or, or_false, false_or, Bool.true_and, Bool.and_true, Bool.false_and, Bool.and_false, Bool.or_true, Bool.true_or, Bool.or_false, Bool.false_or, beq_self_eq_true, not_false_eq_true, if_true, if_false, ite_true, ite_false, eq_self, and_true, true_and, and_false, false_and, not_true_eq_false, not_false_eq_true, reduceCtorEq, and_self, Nat.reduceLeDiff, Nat.reduceEqDiff, Nat.reduceLT, Nat.reduceSub, Int.reduceSub, Int.reduceLE, ne_eq, ↓reduceIte, Nat.reduceMul, Nat.reduceAdd, hR.t34, hR.t35, hR.n35, hR.t36, hR.n36, hR.t37, hR.n37, hR.t38, hR.n38, hR.t39, hR.n39, hR.t40, hR.n40, hR.t41, hR.n41, hR.t42, hR.n42, hR.t43, hR.n43, hR.t44, hR.n44, hR.t45, hR.n45, hR.t46, hR.n46, hR.t47, hR.n47, hR.t48, hR.n48, hR.t49, hR.n49, hR.t50, hR.n50, hR.t51, hR.n51, hR.t52, hR.n52, hR.t53, hR.n53, hR.t54, hR.n54, hR.t55, hR.n55, hR.t56, hR.n56, hR.t57, hR.n57, hR.t58, hR.n58, hR.t59, hR.n59, hR.t60, hR.n60, hR.t61, hR.n61, hR.t62, hR.n62, hR.t63, hR.n63, hR.t64, hR.n64, hR.t65, hR.n65, hR.t66, hR.n66, hR.t67, hR.n67, hR.t68, hR.n68, hR.t69, hR.n69, hR.t70, hR.n70, hR.t71, hR.n71, hR.f2, hR.f3, hR.f4, hR.f5, hR.f6, hR.f7, hR.f8, hR.f9, hR.f10, hR.f11, hR.f12, hR.f13, hR.f14, hR.f15, hR.f16, hR.f18, hR.f19, hR.f20, hR.f21, hR.f22, hR.f25, hR.f26, hR.f27, hR.f28, hR.f29, hR.f30, hR.f31, hR.f32, hR.f34, hR.f36, hR.f37, hR.f38, hR.f40, hR.f41, hR.f42, hR.f43, hR.f44]
    · have tc : 0 < pdT D i := by omega
      obtain ⟨R1, L, k, o, z1, z2, z3, z4, z5, z6, z7⟩ := fill1_x hR rp hc tc
      have hR1 := z2.rk hR
      have rp1 := rp.on z2
      have en := endsR_x (D := pd1 D i) hR1 hn z6 z4 z5
      have e23 := z5.2.2
      have kN : k ≤ pdN D := z6.2.2.1
      have r34 := hR1.t34
      have all := FS.all (D := pd1 D i) z6
      have all : k = cz (pdT D) (pdN D) ↔ ∀ d, d < pdN D → 0 < pdT D d → L d ≠ NO := all
      have on : ∀ {R2 : St}, OnI (fun a => a = X + 34 ∨ (X + 50 ≤ a ∧ a ≤ X + 54)) R1 R2 → OnI (fun a => a = X + 34 ∨ (X + 50 ≤ a ∧ a ≤ X + 54)) R R2 := fun q => z2.tr q
      have enb : endsOf L k o < 2 ^ 31 := by
        unfold endsOf
        split
        · omega
        · have a := z6.2.2.2.1 (k - 1) (by omega)
          have := z6.1 _ a.1
          unfold NO at this
          omega
      by_cases full : k = cz (pdT D) (pdN D)
      · have cm : Com D i (endsOf L k o) := Com.of z6 (all.mp full)
        have f1 : (nI k = nI (cz (pdT D) (pdN D))) = True := eq_true (by rw [full])
        by_cases v0 : v = mI 1000000
        · obtain ⟨R2, v', e', w1, w2, w3, w4⟩ := ih (i + 1) f (endsOf L k o) (nI i) R1 hR1 rp1 (bs.take tc cm (Or.inl v0) (by omega)) enb (by omega) (by omega)
          refine ⟨R2, v', e', fun K => Eq.trans ?_ (w1 K), w2, on w3, fun j hj => (w4 j hj).trans (z3 j hj)⟩
          subst v0
          simp -implicitDefEqProofs (maxSteps := 2000000) (disch := first | omega | exact hgp | exact RK.mv hR rfl rfl rfl | exact CK.mv hC rfl rfl rfl | decide | (simp -implicitDefEqProofs only [wI_X, wJ_X, wF_X, nw_X]; first | done | omega)) only [pX11_best_L90, r1, r2, e41, z1, r34, e23, f1, en, ng_x, b01, ite_clB, clB_id, clB_ie, nar_0, nar_1, wI_se, wI_ne, wJ_se, wJ_ne, wF_se, wF_ne, nw_Te, nw_Tn, nw_Ne, nw_Nn, nw_In, nw_Jn, nw_Fn, nw_X, nw_S, nI_pre, ↓gI_x, ↓gF_x, ↓pI_x, ↓pF_x, ↓pZ_x, ↓ldI_x, ↓stI_x, ↓ldZ_x, ↓stZ_x, ↓ldJ_x, ↓stJ_x, ↓ldF_x, ↓stF_x, ↓ln_x, ↓nO_x, ↓nA_x, onT_x, or2_x, un_s, nu_s, nu_n, ↓lt_x, ↓rt_x, ↓clB_x, ↓rtZ_x, iO_s, iO_n, ↓cO_x, dv_x, rm_x, ↓fl_x, below_x, among_x, in_x, l_toInt, inB_x, uN_nI, ↓ite_S, clB_s, clB_n, wI_T, wI_N, wI_F, wI_J, wI_X, wI_S, wJ_T, wJ_N, wJ_I, wJ_F, wJ_X, wJ_S, wF_T, wF_N, wF_I, wF_J, wF_X, wF_S, wIr_T, wIr_N, wIr_J, wIr_F, wIr_X, wIr_S, wJr_T, wJr_N, wJr_I, wJr_F, wJr_X, wJr_S, fit_10_10, fit_11_11, fit_12_1, fit_12_3, fit_12_4, fit_12_5, fit_1_1, fit_1_3, fit_1_4, fit_1_5, fit_2_2, fit_3_1, fit_3_3, fit_3_4, fit_3_5, fit_4_1, fit_4_3, fit_4_4, fit_4_5, fit_5_5, fit_6_6, fit_7_7, fit_8_8, fit_9_9, L_0, L_1, L_2, L_3, L_4, L_5, L_6, L_7, L_8, L_9, L_10, L_11, L_12, L_13, L_14, L_15, L_16, L_17, L_18, L_19, L_20, L_21, L_22, L_23, L_24, L_25, L_26, L_27, L_28, L_29, L_30, L_31, L_32, L_33, L_34, L_35, L_36, L_37, L_38, L_39, L_40, L_48, L_49, L_50, L_63, L_72, L_100, L_143, L_144, L_200, L_576, L_1000, L_1022, L_1151, L_1152, L_1440, L_5000, L_10000, L_1000000, L_2147483647, J_0, J_1, J_2, J_3, J_4, J_5, J_6, J_7, J_8, J_9, J_10, J_11, J_12, J_13, J_14, J_15, J_16, J_17, J_18, J_19, J_20, J_21, J_22, J_23, J_24, J_25, J_26, J_27, J_28, J_29, J_30, J_31, J_32, J_33, J_34, J_35, J_36, J_37, J_38, J_39, J_40, J_48, J_49, J_50, J_63, J_72, J_100, J_143, J_144, J_200, J_576, J_1000, J_1022, J_1151, J_1152, J_1440, J_5000, J_10000, J_1000000, J_2147483647, N_1, N_1000000, N_1000001, N_1000002, N_1000003, N_1000010, nI_toInt, nI_add, nI_mul, nI_et, nI_ef, nI_lt_t, nI_lt_f, nI_le_t, nI_le_f, inR_t, inR_f, nI_mI, mI_nI, mI_lt, nI_lm, mI_le, nI_em, Int.cast_ofNat_Int, Nat.reduceBEq, or_true, true_or, or_false, false_or, Bool.true_and, Bool.and_true, Bool.false_and, Bool.and_false, Bool.or_true, Bool.true_or, Bool.or_false, Bool.false_or, beq_self_eq_true, not_false_eq_true, if_true, if_false, ite_true, ite_false, eq_self, and_true, true_and, and_false, false_and, not_true_eq_false, not_false_eq_true, reduceCtorEq, and_self, Nat.reduceLeDiff, Nat.reduceEqDiff, Nat.reduceLT, Nat.reduceSub, Int.reduceSub, Int.reduceLE, ne_eq, ↓reduceIte, Nat.reduceMul, Nat.reduceAdd, hR.t34, hR.t35, hR.n35, hR.t36, hR.n36, hR.t37, hR.n37, hR.t38, hR.n38, hR.t39, hR.n39, hR.t40, hR.n40, hR.t41, hR.n41, hR.t42, hR.n42, hR.t43, hR.n43, hR.t44, hR.n44, hR.t45, hR.n45, hR.t46, hR.n46, hR.t47, hR.n47, hR.t48, hR.n48, hR.t49, hR.n49, hR.t50, hR.n50, hR.t51, hR.n51, hR.t52, hR.n52, hR.t53, hR.n53, hR.t54, hR.n54, hR.t55, hR.n55, hR.t56, hR.n56, hR.t57, hR.n57, hR.t58, hR.n58, hR.t59, hR.n59, hR.t60, hR.n60, hR.t61, hR.n61, hR.t62, hR.n62, hR.t63, hR.n63, hR.t64, hR.n64, hR.t65, hR.n65, hR.t66, hR.n66, hR.t67, hR.n67, hR.t68, hR.n68, hR.t69, hR.n69, hR.t70, hR.n70, hR.t71, hR.n71, hR.f2, hR.f3, hR.f4, hR.f5, hR.f6, hR.f7, hR.f8, hR.f9, hR.f10, hR.f11, hR.f12, hR.f13, hR.f14, hR.f15, hR.f16, hR.f18, hR.f19, hR.f20, hR.f21, hR.f22, hR.f25, hR.f26, hR.f27, hR.f28, hR.f29, hR.f30, hR.f31, hR.f32, hR.f34, hR.f36, hR.f37, hR.f38, hR.f40, hR.f41, hR.f42, hR.f43, hR.f44]
        · have v1 : (v = mI 1000000) = False := eq_false v0
          by_cases le : e ≤ endsOf L k o
          · obtain ⟨R2, v', e', w1, w2, w3, w4⟩ := ih (i + 1) f e v R1 hR1 rp1 (bs.skip (fun _ => Or.inr ⟨v0, _, cm, le⟩)) he (by omega) (by omega)
            refine ⟨R2, v', e', fun K => Eq.trans ?_ (w1 K), w2, on w3, fun j hj => (w4 j hj).trans (z3 j hj)⟩
            simp -implicitDefEqProofs (maxSteps := 2000000) (disch := first | omega | exact hgp | exact RK.mv hR rfl rfl rfl | exact CK.mv hC rfl rfl rfl | decide | (simp -implicitDefEqProofs only [wI_X, wJ_X, wF_X, nw_X]; first | done | omega)) only [pX11_best_L90, r1, r2, e41, z1, r34, e23, f1, v1, en, ng_x, b01, ite_clB, clB_id, clB_ie, nar_0, nar_1, wI_se, wI_ne, wJ_se, wJ_ne, wF_se, wF_ne, nw_Te, nw_Tn, nw_Ne, nw_Nn, nw_In, nw_Jn, nw_Fn, nw_X, nw_S, nI_pre, ↓gI_x, ↓gF_x, ↓pI_x, ↓pF_x, ↓pZ_x, ↓ldI_x, ↓stI_x, ↓ldZ_x, ↓stZ_x, ↓ldJ_x, ↓stJ_x, ↓ldF_x, ↓stF_x, ↓ln_x, ↓nO_x, ↓nA_x, onT_x, or2_x, un_s, nu_s, nu_n, ↓lt_x, ↓rt_x, ↓clB_x, ↓rtZ_x, iO_s, iO_n, ↓cO_x, dv_x, rm_x, ↓fl_x, below_x, among_x, in_x, l_toInt, inB_x, uN_nI, ↓ite_S, clB_s, clB_n, wI_T, wI_N, wI_F, wI_J, wI_X, wI_S, wJ_T, wJ_N, wJ_I, wJ_F, wJ_X, wJ_S, wF_T, wF_N, wF_I, wF_J, wF_X, wF_S, wIr_T, wIr_N, wIr_J, wIr_F, wIr_X, wIr_S, wJr_T, wJr_N, wJr_I, wJr_F, wJr_X, wJr_S, fit_10_10, fit_11_11, fit_12_1, fit_12_3, fit_12_4, fit_12_5, fit_1_1, fit_1_3, fit_1_4, fit_1_5, fit_2_2, fit_3_1, fit_3_3, fit_3_4, fit_3_5, fit_4_1, fit_4_3, fit_4_4, fit_4_5, fit_5_5, fit_6_6, fit_7_7, fit_8_8, fit_9_9, L_0, L_1, L_2, L_3, L_4, L_5, L_6, L_7, L_8, L_9, L_10, L_11, L_12, L_13, L_14, L_15, L_16, L_17, L_18, L_19, L_20, L_21, L_22, L_23, L_24, L_25, L_26, L_27, L_28, L_29, L_30, L_31, L_32, L_33, L_34, L_35, L_36, L_37, L_38, L_39, L_40, L_48, L_49, L_50, L_63, L_72, L_100, L_143, L_144, L_200, L_576, L_1000, L_1022, L_1151, L_1152, L_1440, L_5000, L_10000, L_1000000, L_2147483647, J_0, J_1, J_2, J_3, J_4, J_5, J_6, J_7, J_8, J_9, J_10, J_11, J_12, J_13, J_14, J_15, J_16, J_17, J_18, J_19, J_20, J_21, J_22, J_23, J_24, J_25, J_26, J_27, J_28, J_29, J_30, J_31, J_32, J_33, J_34, J_35, J_36, J_37, J_38, J_39, J_40, J_48, J_49, J_50, J_63, J_72, J_100, J_143, J_144, J_200, J_576, J_1000, J_1022, J_1151, J_1152, J_1440, J_5000, J_10000, J_1000000, J_2147483647, N_1, N_1000000, N_1000001, N_1000002, N_1000003, N_1000010, nI_toInt, nI_add, nI_mul, nI_et, nI_ef, nI_lt_t, nI_lt_f, nI_le_t, nI_le_f, inR_t, inR_f, nI_mI, mI_nI, mI_lt, nI_lm, mI_le, nI_em, Int.cast_ofNat_Int, Nat.reduceBEq, or_true, true_or, or_false, false_or, Bool.true_and, Bool.and_true, Bool.false_and, Bool.and_false, Bool.or_true, Bool.true_or, Bool.or_false, Bool.false_or, beq_self_eq_true, not_false_eq_true, if_true, if_false, ite_true, ite_false, eq_self, and_true, true_and, and_false, false_and, not_true_eq_false, not_false_eq_true, reduceCtorEq, and_self, Nat.reduceLeDiff, Nat.reduceEqDiff, Nat.reduceLT, Nat.reduceSub, Int.reduceSub, Int.reduceLE, ne_eq, ↓reduceIte, Nat.reduceMul, Nat.reduceAdd, hR.t34, hR.t35, hR.n35, hR.t36, hR.n36, hR.t37, hR.n37, hR.t38, hR.n38, hR.t39, hR.n39, hR.t40, hR.n40, hR.t41, hR.n41, hR.t42, hR.n42, hR.t43, hR.n43, hR.t44, hR.n44, hR.t45, hR.n45, hR.t46, hR.n46, hR.t47, hR.n47, hR.t48, hR.n48, hR.t49, hR.n49, hR.t50, hR.n50, hR.t51, hR.n51, hR.t52, hR.n52, hR.t53, hR.n53, hR.t54, hR.n54, hR.t55, hR.n55, hR.t56, hR.n56, hR.t57, hR.n57, hR.t58, hR.n58, hR.t59, hR.n59, hR.t60, hR.n60, hR.t61, hR.n61, hR.t62, hR.n62, hR.t63, hR.n63, hR.t64, hR.n64, hR.t65, hR.n65, hR.t66, hR.n66, hR.t67, hR.n67, hR.t68, hR.n68, hR.t69, hR.n69, hR.t70, hR.n70, hR.t71, hR.n71, hR.f2, hR.f3, hR.f4, hR.f5, hR.f6, hR.f7, hR.f8, hR.f9, hR.f10, hR.f11, hR.f12, hR.f13, hR.f14, hR.f15, hR.f16, hR.f18, hR.f19, hR.f20, hR.f21, hR.f22, hR.f25, hR.f26, hR.f27, hR.f28, hR.f29, hR.f30, hR.f31, hR.f32, hR.f34, hR.f36, hR.f37, hR.f38, hR.f40, hR.f41, hR.f42, hR.f43, hR.f44]
          · obtain ⟨R2, v', e', w1, w2, w3, w4⟩ := ih (i + 1) f (endsOf L k o) (nI i) R1 hR1 rp1 (bs.take tc cm (Or.inr (by omega)) (by omega)) enb (by omega) (by omega)
            refine ⟨R2, v', e', fun K => Eq.trans ?_ (w1 K), w2, on w3, fun j hj => (w4 j hj).trans (z3 j hj)⟩
            simp -implicitDefEqProofs (maxSteps := 2000000) (disch := first | omega | exact hgp | exact RK.mv hR rfl rfl rfl | exact CK.mv hC rfl rfl rfl | decide | (simp -implicitDefEqProofs only [wI_X, wJ_X, wF_X, nw_X]; first | done | omega)) only [pX11_best_L90, r1, r2, e41, z1, r34, e23, f1, v1, en, ng_x, b01, ite_clB, clB_id, clB_ie, nar_0, nar_1, wI_se, wI_ne, wJ_se, wJ_ne, wF_se, wF_ne, nw_Te, nw_Tn, nw_Ne, nw_Nn, nw_In, nw_Jn, nw_Fn, nw_X, nw_S, nI_pre, ↓gI_x, ↓gF_x, ↓pI_x, ↓pF_x, ↓pZ_x, ↓ldI_x, ↓stI_x, ↓ldZ_x, ↓stZ_x, ↓ldJ_x, ↓stJ_x, ↓ldF_x, ↓stF_x, ↓ln_x, ↓nO_x, ↓nA_x, onT_x, or2_x, un_s, nu_s, nu_n, ↓lt_x, ↓rt_x, ↓clB_x, ↓rtZ_x, iO_s, iO_n, ↓cO_x, dv_x, rm_x, ↓fl_x, below_x, among_x, in_x, l_toInt, inB_x, uN_nI, ↓ite_S, clB_s, clB_n, wI_T, wI_N, wI_F, wI_J, wI_X, wI_S, wJ_T, wJ_N, wJ_I, wJ_F, wJ_X, wJ_S, wF_T, wF_N, wF_I, wF_J, wF_X, wF_S, wIr_T, wIr_N, wIr_J, wIr_F, wIr_X, wIr_S, wJr_T, wJr_N, wJr_I, wJr_F, wJr_X, wJr_S, fit_10_10, fit_11_11, fit_12_1, fit_12_3, fit_12_4, fit_12_5, fit_1_1, fit_1_3, fit_1_4, fit_1_5, fit_2_2, fit_3_1, fit_3_3, fit_3_4, fit_3_5, fit_4_1, fit_4_3, fit_4_4, fit_4_5, fit_5_5, fit_6_6, fit_7_7, fit_8_8, fit_9_9, L_0, L_1, L_2, L_3, L_4, L_5, L_6, L_7, L_8, L_9, L_10, L_11, L_12, L_13, L_14, L_15, L_16, L_17, L_18, L_19, L_20, L_21, L_22, L_23, L_24, L_25, L_26, L_27, L_28, L_29, L_30, L_31, L_32, L_33, L_34, L_35, L_36, L_37, L_38, L_39, L_40, L_48, L_49, L_50, L_63, L_72, L_100, L_143, L_144, L_200, L_576, L_1000, L_1022, L_1151, L_1152, L_1440, L_5000, L_10000, L_1000000, L_2147483647, J_0, J_1, J_2, J_3, J_4, J_5, J_6, J_7, J_8, J_9, J_10, J_11, J_12, J_13, J_14, J_15, J_16, J_17, J_18, J_19, J_20, J_21, J_22, J_23, J_24, J_25, J_26, J_27, J_28, J_29, J_30, J_31, J_32, J_33, J_34, J_35, J_36, J_37, J_38, J_39, J_40, J_48, J_49, J_50, J_63, J_72, J_100, J_143, J_144, J_200, J_576, J_1000, J_1022, J_1151, J_1152, J_1440, J_5000, J_10000, J_1000000, J_2147483647, N_1, N_1000000, N_1000001, N_1000002, N_1000003, N_1000010, nI_toInt, nI_add, nI_mul, nI_et, nI_ef, nI_lt_t, nI_lt_f, nI_le_t, nI_le_f, inR_t, inR_f, nI_mI, mI_nI, mI_lt, nI_lm, mI_le, nI_em, Int.cast_ofNat_Int, Nat.reduceBEq, or_true, true_or, or_false, false_or, Bool.true_and, Bool.and_true, Bool.false_and, Bool.and_false, Bool.or_true, Bool.true_or, Bool.or_false, Bool.false_or, beq_self_eq_true, not_false_eq_true, if_true, if_false, ite_true, ite_false, eq_self, and_true, true_and, and_false, false_and, not_true_eq_false, not_false_eq_true, reduceCtorEq, and_self, Nat.reduceLeDiff, Nat.reduceEqDiff, Nat.reduceLT, Nat.reduceSub, Int.reduceSub, Int.reduceLE, ne_eq, ↓reduceIte, Nat.reduceMul, Nat.reduceAdd, hR.t34, hR.t35, hR.n35, hR.t36, hR.n36, hR.t37, hR.n37, hR.t38, hR.n38, hR.t39, hR.n39, hR.t40, hR.n40, hR.t41, hR.n41, hR.t42, hR.n42, hR.t43, hR.n43, hR.t44, hR.n44, hR.t45, hR.n45, hR.t46, hR.n46, hR.t47, hR.n47, hR.t48, hR.n48, hR.t49, hR.n49, hR.t50, hR.n50, hR.t51, hR.n51, hR.t52, hR.n52, hR.t53, hR.n53, hR.t54, hR.n54, hR.t55, hR.n55, hR.t56, hR.n56, hR.t57, hR.n57, hR.t58, hR.n58, hR.t59, hR.n59, hR.t60, hR.n60, hR.t61, hR.n61, hR.t62, hR.n62, hR.t63, hR.n63, hR.t64, hR.n64, hR.t65, hR.n65, hR.t66, hR.n66, hR.t67, hR.n67, hR.t68, hR.n68, hR.t69, hR.n69, hR.t70, hR.n70, hR.t71, hR.n71, hR.f2, hR.f3, hR.f4, hR.f5, hR.f6, hR.f7, hR.f8, hR.f9, hR.f10, hR.f11, hR.f12, hR.f13, hR.f14, hR.f15, hR.f16, hR.f18, hR.f19, hR.f20, hR.f21, hR.f22, hR.f25, hR.f26, hR.f27, hR.f28, hR.f29, hR.f30, hR.f31, hR.f32, hR.f34, hR.f36, hR.f37, hR.f38, hR.f40, hR.f41, hR.f42, hR.f43, hR.f44]
      · have inc : Inc D i := by
          have : ¬ ∀ d, d < pdN D → 0 < pdT D d → L d ≠ NO := fun q => full (all.mpr q)
          refine Classical.byContradiction fun n => this (fun d d1 d2 d3 => n ⟨L, k, o, z6, d, d1, d2, d3⟩)
        obtain ⟨R2, v', e', w1, w2, w3, w4⟩ := ih (i + 1) f e v R1 hR1 rp1 (bs.skip (fun _ => Or.inl inc)) he (by omega) (by omega)
        refine ⟨R2, v', e', fun K => Eq.trans ?_ (w1 K), w2, on w3, fun j hj => (w4 j hj).trans (z3 j hj)⟩
        have f0 : (nI k = nI (cz (pdT D) (pdN D))) = False := nI_ef (by omega) (by omega) full
        simp -implicitDefEqProofs (maxSteps := 2000000) (disch := first | omega | exact hgp | exact RK.mv hR rfl rfl rfl | exact CK.mv hC rfl rfl rfl | decide | (simp -implicitDefEqProofs only [wI_X, wJ_X, wF_X, nw_X]; first | done | omega)) only [pX11_best_L90, r1, r2, e41, z1, r34, e23, f0, ng_x, b01, ite_clB, clB_id, clB_ie, nar_0, nar_1, wI_se, wI_ne, wJ_se, wJ_ne, wF_se, wF_ne, nw_Te, nw_Tn, nw_Ne, nw_Nn, nw_In, nw_Jn, nw_Fn, nw_X, nw_S, nI_pre, ↓gI_x, ↓gF_x, ↓pI_x, ↓pF_x, ↓pZ_x, ↓ldI_x, ↓stI_x, ↓ldZ_x, ↓stZ_x, ↓ldJ_x, ↓stJ_x, ↓ldF_x, ↓stF_x, ↓ln_x, ↓nO_x, ↓nA_x, onT_x, or2_x, un_s, nu_s, nu_n, ↓lt_x, ↓rt_x, ↓clB_x, ↓rtZ_x, iO_s, iO_n, ↓cO_x, dv_x, rm_x, ↓fl_x, below_x, among_x, in_x, l_toInt, inB_x, uN_nI, ↓ite_S, clB_s, clB_n, wI_T, wI_N, wI_F, wI_J, wI_X, wI_S, wJ_T, wJ_N, wJ_I, wJ_F, wJ_X, wJ_S, wF_T, wF_N, wF_I, wF_J, wF_X, wF_S, wIr_T, wIr_N, wIr_J, wIr_F, wIr_X, wIr_S, wJr_T, wJr_N, wJr_I, wJr_F, wJr_X, wJr_S, fit_10_10, fit_11_11, fit_12_1, fit_12_3, fit_12_4, fit_12_5, fit_1_1, fit_1_3, fit_1_4, fit_1_5, fit_2_2, fit_3_1, fit_3_3, fit_3_4, fit_3_5, fit_4_1, fit_4_3, fit_4_4, fit_4_5, fit_5_5, fit_6_6, fit_7_7, fit_8_8, fit_9_9, L_0, L_1, L_2, L_3, L_4, L_5, L_6, L_7, L_8, L_9, L_10, L_11, L_12, L_13, L_14, L_15, L_16, L_17, L_18, L_19, L_20, L_21, L_22, L_23, L_24, L_25, L_26, L_27, L_28, L_29, L_30, L_31, L_32, L_33, L_34, L_35, L_36, L_37, L_38, L_39, L_40, L_48, L_49, L_50, L_63, L_72, L_100, L_143, L_144, L_200, L_576, L_1000, L_1022, L_1151, L_1152, L_1440, L_5000, L_10000, L_1000000, L_2147483647, J_0, J_1, J_2, J_3, J_4, J_5, J_6, J_7, J_8, J_9, J_10, J_11, J_12, J_13, J_14, J_15, J_16, J_17, J_18, J_19, J_20, J_21, J_22, J_23, J_24, J_25, J_26, J_27, J_28, J_29, J_30, J_31, J_32, J_33, J_34, J_35, J_36, J_37, J_38, J_39, J_40, J_48, J_49, J_50, J_63, J_72, J_100, J_143, J_144, J_200, J_576, J_1000, J_1022, J_1151, J_1152, J_1440, J_5000, J_10000, J_1000000, J_2147483647, N_1, N_1000000, N_1000001, N_1000002, N_1000003, N_1000010, nI_toInt, nI_add, nI_mul, nI_et, nI_ef, nI_lt_t, nI_lt_f, nI_le_t, nI_le_f, inR_t, inR_f, nI_mI, mI_nI, mI_lt, nI_lm, mI_le, nI_em, Int.cast_ofNat_Int, Nat.reduceBEq, or_true, true_or, or_false, false_or, Bool.true_and, Bool.and_true, Bool.false_and, Bool.and_false, Bool.or_true, Bool.true_or, Bool.or_false, Bool.false_or, beq_self_eq_true, not_false_eq_true, if_true, if_false, ite_true, ite_false, eq_self, and_true, true_and, and_false, false_and, not_true_eq_false, not_false_eq_true, reduceCtorEq, and_self, Nat.reduceLeDiff, Nat.reduceEqDiff, Nat.reduceLT, Nat.reduceSub, Int.reduceSub, Int.reduceLE, ne_eq, ↓reduceIte, Nat.reduceMul, Nat.reduceAdd, hR.t34, hR.t35, hR.n35, hR.t36, hR.n36, hR.t37, hR.n37, hR.t38, hR.n38, hR.t39, hR.n39, hR.t40, hR.n40, hR.t41, hR.n41, hR.t42, hR.n42, hR.t43, hR.n43, hR.t44, hR.n44, hR.t45, hR.n45, hR.t46, hR.n46, hR.t47, hR.n47, hR.t48, hR.n48, hR.t49, hR.n49, hR.t50, hR.n50, hR.t51, hR.n51, hR.t52, hR.n52, hR.t53, hR.n53, hR.t54, hR.n54, hR.t55, hR.n55, hR.t56, hR.n56, hR.t57, hR.n57, hR.t58, hR.n58, hR.t59, hR.n59, hR.t60, hR.n60, hR.t61, hR.n61, hR.t62, hR.n62, hR.t63, hR.n63, hR.t64, hR.n64, hR.t65, hR.n65, hR.t66, hR.n66, hR.t67, hR.n67, hR.t68, hR.n68, hR.t69, hR.n69, hR.t70, hR.n70, hR.t71, hR.n71, hR.f2, hR.f3, hR.f4, hR.f5, hR.f6, hR.f7, hR.f8, hR.f9, hR.f10, hR.f11, hR.f12, hR.f13, hR.f14, hR.f15, hR.f16, hR.f18, hR.f19, hR.f20, hR.f21, hR.f22, hR.f25, hR.f26, hR.f27, hR.f28, hR.f29, hR.f30, hR.f31, hR.f32, hR.f34, hR.f36, hR.f37, hR.f38, hR.f40, hR.f41, hR.f42, hR.f43, hR.f44]
theorem bestR_x (hR : RK X R) (rp : RP X R p D) : ∃ R1 v, (∀ K : Int32 → Prg Int32, pX11_best_L42 (X + 34) (nI p) (fun v111 => pX11_best_L90 (X + 34) (nI p) v111 K FL (mI 1000000) (nI 0) (nI 0)) FL (nI 0) (nI 0) R = K v R1) ∧ BestS D v ∧ OnI (fun a => a = X + 34 ∨ (X + 50 ≤ a ∧ a ≤ X + 54)) R R1 ∧ ∀ j, j ≠ 23 → sI R1 (X + 34) j = sI R (X + 34) j := by
  have hn := rp.n
  have c := cellsR_L hR rp 144 0 FL (by omega) (by unfold FL; omega)
  have pad : cz (fun k => if k < pdN D then pdT D k else 0) 144 = cz (pdT D) (pdN D) := by
    have := cz_pad (t := pdT D) (N := pdN D) (144 - pdN D)
    rw [show pdN D + (144 - pdN D) = 144 from by omega] at this
    exact this
  rw [pad] at c
  obtain ⟨R1, v, e, w1, w2, w3, w4⟩ := bestR_L (p := p) (D := D) (pdN D) 0 FL 0 (mI 1000000) R hR rp (Or.inl ⟨rfl, fun c hc => by omega⟩) (by omega) (by omega) (by unfold FL; omega)
  exact ⟨R1, v, fun K => (c _).trans (w1 K), w2.fin, w3, w4⟩
end Br
