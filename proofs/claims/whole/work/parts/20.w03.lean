/-! HollowPress$Flow.fill(LHollowPress$Part;)V -/
set_option maxRecDepth 20000 in
theorem iv_X1_63 (a : Nat)  : Inv RX1 4 (.invokevirtual 63) [qv (some a)] vU (onT a 2 (pX1_putInOrder a )) := inv_V (As := []) (t := 2) (kX1_putInOrder a ) _ (by decide) rfl rfl w_150 w_151 w_152 w_67 w_153 ⟨by decide +kernel, by decide +kernel, by show _ = some 0; decide +kernel⟩ (by decide)
abbrev eX1_fill : Env0 := (RX1, "fill", cX1_fill, 3, none, 4)
def pX1_fill_L27 (th : Nat) (a1 : Option Nat) (k104 : Prg Unit) : Nat → Int32 → Prg Unit
  | 0, _ => fl
  | n + 1, v103 =>
    un a1 fun a105 =>
    gI 4 a105 5 fun v106 =>
    (if v106 ≤ v103 then k104
    else gF 4 a105 4 fun v107 =>
    un v107 fun a108 =>
    ldI a108 v103 fun v109 =>
    cl (onT th 2 (pX1_startAt th v109 v103)) fun _ =>
    pX1_fill_L27 th a1 k104 n (v103 + (1 : Int32)))
def pX1_fill (th : Nat) (a1 : Option Nat) : Prg Unit :=
    gF 2 th 8 fun v101 =>
    (lt (cl (onT th 2 (pX1_layOut th a1)) fun _ =>
    pX1_fill_L27 th a1 (cl (onT th 2 (pX1_flowOn th)) fun _ =>
    cl (onT th 2 (pX1_putInOrder th)) fun _ =>
    pF 2 th 8 a1 (
    un a1 fun a110 =>
    gI 4 a110 5 fun v111 =>
    pI 2 th 9 v111 (
    rt ()))) FL (0 : Int32) : Prg Unit) fun k102 =>
    (if v101 = a1 then gI 2 th 9 fun v112 =>
    un a1 fun a113 =>
    gI 4 a113 5 fun v114 =>
    (if v112 = v114 then rt ()
    else k102)
    else k102))
set_option maxRecDepth 20000 in
theorem sX1_fill_L27 (th : Nat) (a1 : Option Nat) (k104 : Prg Unit) (hk104 : Sim eX1_fill vU 52 [(0, qv (some th)), (1, qv a1)] [] (k104)) : ∀ (n : Nat), ∀ (v103 : Int32), Sim eX1_fill vU 27 [(0, qv (some th)), (1, qv a1), (2, iv v103)] [] (pX1_fill_L27 th a1 k104 n v103) := by
  intro n
  induction n with
  | zero =>
    intros
    exact sm_fl
  | succ n ih =>
    intro v103
    unfold pX1_fill_L27
    refine sm_iload_n (pc' := 28) dX1_fill_27 rfl rfl ?_
    refine sm_aload_n (pc' := 29) dX1_fill_28 rfl rfl ?_
    rcases a1 with _ | a105
    · exact sm_unN
    refine sm_unS ?_
    refine sm_getI (pc' := 32) fk_X1_44 nr_4_5 dX1_fill_29 rfl (fun v106 => ?_)
    refine sm_icmp_ge (pc' := 35) (pc1 := 52) dX1_fill_32 (by decide) rfl (fun _ => ?_) (fun _ => ?_)
    · skip
      refine sm_sub [0, 1] rfl ?_
      exact hk104
    · skip
      refine sm_aload_n (pc' := 36) dX1_fill_35 rfl rfl ?_
      refine sm_aload_n (pc' := 37) dX1_fill_36 rfl rfl ?_
      refine sm_getF (pc' := 40) fk_X1_53 yr_4_4 dX1_fill_37 rfl (fun v107 => ?_)
      refine sm_iload_n (pc' := 41) dX1_fill_40 rfl rfl ?_
      rcases v107 with _ | a108
      · exact sm_unN
      refine sm_unS ?_
      refine sm_iaload (pc' := 42) dX1_fill_41 rfl (fun v109 => ?_)
      refine sm_iload_n (pc' := 43) dX1_fill_42 rfl rfl ?_
      refine sm_callv (pc' := 46) (sa := [iv v103, iv v109, qv (some th)]) (st := []) (iv_X1_56 th v109 v103) (Nat.le_of_ble_eq_true rfl) dX1_fill_43 rfl (Nat.le_of_ble_eq_true rfl) (fun _ => ?_)
      refine sm_iinc (pc' := 49) (v103 + (1 : Int32)) [(2, iv (v103 + (1 : Int32))), (0, qv (some th)), (1, qv (some a105))] dX1_fill_46 rfl rfl (Nat.le_of_ble_eq_true rfl) rfl rfl ?_
      refine sm_goto (pc' := 27) dX1_fill_49 (by decide) ?_
      refine sm_sub [1, 2, 0] rfl ?_
      exact ih (v103 + (1 : Int32))
set_option maxRecDepth 20000 in
theorem sX1_fill (th : Nat) (a1 : Option Nat) : Sim eX1_fill vU 0 [(0, qv (some th)), (1, qv a1)] [] (pX1_fill th a1) := by
  unfold pX1_fill
  refine sm_aload_n (pc' := 1) dX1_fill_0 rfl rfl ?_
  refine sm_getF (pc' := 4) fk_X1_37 yr_2_8 dX1_fill_1 rfl (fun v101 => ?_)
  refine sm_aload_n (pc' := 5) dX1_fill_4 rfl rfl ?_
  refine sm_lt (fun k102 => Sim eX1_fill vU 20 [(0, qv (some th)), (1, qv a1)] [] (k102)) ?_ (fun k102 hk102 => ?_)
  · skip
    refine sm_aload_n (pc' := 21) dX1_fill_20 rfl rfl ?_
    refine sm_aload_n (pc' := 22) dX1_fill_21 rfl rfl ?_
    refine sm_callv (pc' := 25) (sa := [qv a1, qv (some th)]) (st := []) (iv_X1_49 th a1) (Nat.le_of_ble_eq_true rfl) dX1_fill_22 rfl (Nat.le_of_ble_eq_true rfl) (fun _ => ?_)
    refine sm_iconst (pc' := 26) (0 : Int32) dX1_fill_25 (by decide) rfl ?_
    refine sm_istore_n (pc' := 27) [(2, iv (0 : Int32)), (0, qv (some th)), (1, qv a1)] dX1_fill_26 rfl (Nat.le_of_ble_eq_true rfl) rfl rfl ?_
    refine sm_sub [1, 2, 0] rfl ?_
    refine sX1_fill_L27 th a1 _ ?_ FL (0 : Int32)
    · skip
      refine sm_aload_n (pc' := 53) dX1_fill_52 rfl rfl ?_
      refine sm_callv (pc' := 56) (sa := [qv (some th)]) (st := []) (iv_X1_60 th) (Nat.le_of_ble_eq_true rfl) dX1_fill_53 rfl (Nat.le_of_ble_eq_true rfl) (fun _ => ?_)
      refine sm_aload_n (pc' := 57) dX1_fill_56 rfl rfl ?_
      refine sm_callv (pc' := 60) (sa := [qv (some th)]) (st := []) (iv_X1_63 th) (Nat.le_of_ble_eq_true rfl) dX1_fill_57 rfl (Nat.le_of_ble_eq_true rfl) (fun _ => ?_)
      refine sm_aload_n (pc' := 61) dX1_fill_60 rfl rfl ?_
      refine sm_aload_n (pc' := 62) dX1_fill_61 rfl rfl ?_
      refine sm_putF (pc' := 65) (gk_X1_37 _ _ _ _ _) yr_2_8 dX1_fill_62 rfl ?_
      refine sm_aload_n (pc' := 66) dX1_fill_65 rfl rfl ?_
      refine sm_aload_n (pc' := 67) dX1_fill_66 rfl rfl ?_
      rcases a1 with _ | a110
      · exact sm_unN
      refine sm_unS ?_
      refine sm_getI (pc' := 70) fk_X1_44 nr_4_5 dX1_fill_67 rfl (fun v111 => ?_)
      refine sm_putI (pc' := 73) (gk_X1_41 _ _ _ _ _) ti_2_9 dX1_fill_70 rfl ?_
      exact sm_return rfl dX1_fill_73
  · skip
    refine sm_acmp_ne (pc' := 8) (pc1 := 20) dX1_fill_5 (by decide) rfl (fun _ => ?_) (fun _ => ?_)
    · skip
      exact hk102
    · skip
      refine sm_aload_n (pc' := 9) dX1_fill_8 rfl rfl ?_
      refine sm_getI (pc' := 12) fk_X1_41 nr_2_9 dX1_fill_9 rfl (fun v112 => ?_)
      refine sm_aload_n (pc' := 13) dX1_fill_12 rfl rfl ?_
      rcases a1 with _ | a113
      · exact sm_unN
      refine sm_unS ?_
      refine sm_getI (pc' := 16) fk_X1_44 nr_4_5 dX1_fill_13 rfl (fun v114 => ?_)
      refine sm_icmp_ne (pc' := 19) (pc1 := 20) dX1_fill_16 (by decide) rfl (fun _ => ?_) (fun _ => ?_)
      · skip
        exact hk102
      · skip
        exact sm_return rfl dX1_fill_19
theorem kX1_fill (th : Nat) (a1 : Option Nat) : Callee 4 yX1_fill cX1_fill 3 none [qv (some th), qv a1] vU (pX1_fill th a1) := callee_ofS [(0, qv (some th)), (1, qv a1)] (by decide +kernel) (Nat.le_of_ble_eq_true rfl) rfl (sX1_fill th a1)
/-! HollowPress$Flow.endsOf(LHollowPress$Part;)I -/
set_option maxRecDepth 20000 in
theorem iv_X1_66 (a : Nat) (x0 : Option Nat) : Inv RX1 5 (.invokevirtual 66) [qv x0, qv (some a)] vU (onT a 2 (pX1_fill a x0)) := inv_V (As := [qv x0]) (t := 2) (kX1_fill a x0) _ (by decide) rfl rfl w_155 w_156 w_157 w_67 w_158 ⟨by decide +kernel, by decide +kernel, by show _ = some 1; decide +kernel⟩ (by decide)
abbrev eX1_endsOf : Env0 := (RX1, "endsOf", cX1_endsOf, 2, (some .int), 5)
def pX1_endsOf (th : Nat) (a1 : Option Nat) : Prg Int32 :=
    cl (onT th 2 (pX1_fill th a1)) fun _ =>
    gI 2 th 7 fun v101 =>
    (lt (fun (v102 : Int32) => rt v102 : Int32 → Prg Int32) fun k103 =>
    (if v101 ≤ 0 then k103 (0 : Int32)
    else gF 2 th 3 fun v104 =>
    gI 2 th 7 fun v105 =>
    un v104 fun a106 =>
    ldI a106 (v105 - (1 : Int32)) fun v107 =>
    cl (onT th 2 (pX1_strain th v107)) fun v108 =>
    k103 v108))
set_option maxRecDepth 20000 in
theorem sX1_endsOf (th : Nat) (a1 : Option Nat) : Sim eX1_endsOf vI 0 [(0, qv (some th)), (1, qv a1)] [] (pX1_endsOf th a1) := by
  unfold pX1_endsOf
  refine sm_aload_n (pc' := 1) dX1_endsOf_0 rfl rfl ?_
  refine sm_aload_n (pc' := 2) dX1_endsOf_1 rfl rfl ?_
  refine sm_callv (pc' := 5) (sa := [qv a1, qv (some th)]) (st := []) (iv_X1_66 th a1) (Nat.le_of_ble_eq_true rfl) dX1_endsOf_2 rfl (Nat.le_of_ble_eq_true rfl) (fun _ => ?_)
  refine sm_aload_n (pc' := 6) dX1_endsOf_5 rfl rfl ?_
  refine sm_getI (pc' := 9) fk_X1_34 nr_2_7 dX1_endsOf_6 rfl (fun v101 => ?_)
  refine sm_lt (fun k103 => ∀ (v102 : Int32), Sim eX1_endsOf vI 31 [] [iv v102] (k103 v102)) ?_ (fun k103 hk103 => ?_)
  · intro v102
    exact sm_ireturn rfl dX1_endsOf_31
  · skip
    refine sm_if_le (pc' := 12) (pc1 := 30) dX1_endsOf_9 (by decide) rfl (fun _ => ?_) (fun _ => ?_)
    · skip
      refine sm_iconst (pc' := 31) (0 : Int32) dX1_endsOf_30 (by decide) rfl ?_
      refine sm_sub [] rfl ?_
      exact hk103 (0 : Int32)
    · skip
      refine sm_aload_n (pc' := 13) dX1_endsOf_12 rfl rfl ?_
      refine sm_aload_n (pc' := 14) dX1_endsOf_13 rfl rfl ?_
      refine sm_getF (pc' := 17) fk_X1_21 yr_2_3 dX1_endsOf_14 rfl (fun v104 => ?_)
      refine sm_aload_n (pc' := 18) dX1_endsOf_17 rfl rfl ?_
      refine sm_getI (pc' := 21) fk_X1_34 nr_2_7 dX1_endsOf_18 rfl (fun v105 => ?_)
      refine sm_iconst (pc' := 22) (1 : Int32) dX1_endsOf_21 (by decide) rfl ?_
      refine sm_isub (pc' := 23) dX1_endsOf_22 rfl ?_
      rcases v104 with _ | a106
      · exact sm_unN
      refine sm_unS ?_
      refine sm_iaload (pc' := 24) dX1_endsOf_23 rfl (fun v107 => ?_)
      refine sm_calli (pc' := 27) (sa := [iv v107, qv (some th)]) (st := []) (iv_X1_69 th v107) (Nat.le_of_ble_eq_true rfl) dX1_endsOf_24 rfl (Nat.le_of_ble_eq_true rfl) (fun v108 => ?_)
      refine sm_goto (pc' := 31) dX1_endsOf_27 (by decide) ?_
      refine sm_sub [] rfl ?_
      exact hk103 v108
theorem kX1_endsOf (th : Nat) (a1 : Option Nat) : Callee 5 yX1_endsOf cX1_endsOf 2 (some .int) [qv (some th), qv a1] vI (pX1_endsOf th a1) := callee_ofS [(0, qv (some th)), (1, qv a1)] (by decide +kernel) (Nat.le_of_ble_eq_true rfl) rfl (sX1_endsOf th a1)
/-! HollowPress$Flow.filledUpTo(ILHollowPress$Part;)I -/
set_option maxRecDepth 20000 in
theorem iv_X1_78 (a : Nat) (x0 : Int32) : Inv RX1 2 (.invokevirtual 78) [iv x0, qv (some a)] vI (or2 a 4 (pX3_thickness a x0) (or2 a 1 (pX3_thickness a x0) (onT a 5 (pX3_thickness a x0)))) := inv_or (inv_V (As := [iv x0]) (t := 4) (kX3_thickness a x0) _ (by decide) rfl rfl w_159 w_87 w_88 w_25 w_89 ⟨by decide +kernel, by decide +kernel, by show _ = some 1; decide +kernel⟩ (by decide)) (inv_or (inv_U (As := [iv x0]) (t := 1) (owner := "HollowPress$Part") (xn := ⟨"HollowPress$Part", "thickness", "(I)I"⟩) (kX3_thickness a x0) _ (by decide) rfl w_159 w_90 (Or.inr ⟨w_87, cX3_thickness, 2, (some .int), w_89⟩) w_91 w_87 w_25 w_89 ⟨by decide +kernel, by decide +kernel, by show _ = some 1; decide +kernel⟩ (by decide)) (inv_U (As := [iv x0]) (t := 5) (owner := "HollowPress$Part") (xn := ⟨"HollowPress$Part", "thickness", "(I)I"⟩) (kX3_thickness a x0) _ (by decide) rfl w_159 w_90 (Or.inr ⟨w_87, cX3_thickness, 2, (some .int), w_89⟩) w_92 w_87 w_25 w_89 ⟨by decide +kernel, by decide +kernel, by show _ = some 1; decide +kernel⟩ (by decide)))
abbrev eX1_filledUpTo : Env0 := (RX1, "filledUpTo", cX1_filledUpTo, 5, (some .int), 2)
def pX1_filledUpTo_L16 (th : Nat) (a1 : Int32) (a2 : Option Nat) (k104 : Int32 → Prg Int32) : Nat → Int32 → Int32 → Prg Int32
  | 0, _, _ => fl
  | n + 1, v102, v103 =>
    gF 2 th 4 fun v105 =>
    un v105 fun a106 =>
    ldI a106 a1 fun v107 =>
    (if v107 < v103 then k104 v102
    else gF 2 th 3 fun v108 =>
    un v108 fun a109 =>
    ldI a109 v103 fun v110 =>
    un a2 fun a111 =>
    cl (or2 a111 4 (pX3_thickness a111 v110) (or2 a111 1 (pX3_thickness a111 v110) (onT a111 5 (pX3_thickness a111 v110)))) fun v112 =>
    pX1_filledUpTo_L16 th a1 a2 k104 n (v102 + v112) (v103 + (1 : Int32)))
def pX1_filledUpTo (th : Nat) (a1 : Int32) (a2 : Option Nat) : Prg Int32 :=
    cl (onT th 2 (pX1_reached th a1)) fun v101 =>
    (if v101 = 0 then rt (-1000000 : Int32)
    else pX1_filledUpTo_L16 th a1 a2 (fun (v113 : Int32) => rt v113) FL (0 : Int32) (0 : Int32))
set_option maxRecDepth 20000 in
theorem sX1_filledUpTo_L16 (th : Nat) (a1 : Int32) (a2 : Option Nat) (k104 : Int32 → Prg Int32) (hk104 : ∀ (q3 : Int32), Sim eX1_filledUpTo vI 47 [(3, iv q3)] [] (k104 q3)) : ∀ (n : Nat), ∀ (v102 : Int32) (v103 : Int32), Sim eX1_filledUpTo vI 16 [(0, qv (some th)), (1, iv a1), (2, qv a2), (3, iv v102), (4, iv v103)] [] (pX1_filledUpTo_L16 th a1 a2 k104 n v102 v103) := by
  intro n
  induction n with
  | zero =>
    intros
    exact sm_fl
  | succ n ih =>
    intro v102 v103
    unfold pX1_filledUpTo_L16
    refine sm_iload (pc' := 18) dX1_filledUpTo_16 rfl rfl ?_
    refine sm_aload_n (pc' := 19) dX1_filledUpTo_18 rfl rfl ?_
    refine sm_getF (pc' := 22) fk_X1_24 yr_2_4 dX1_filledUpTo_19 rfl (fun v105 => ?_)
    refine sm_iload_n (pc' := 23) dX1_filledUpTo_22 rfl rfl ?_
    rcases v105 with _ | a106
    · exact sm_unN
    refine sm_unS ?_
    refine sm_iaload (pc' := 24) dX1_filledUpTo_23 rfl (fun v107 => ?_)
    refine sm_icmp_gt (pc' := 27) (pc1 := 47) dX1_filledUpTo_24 (by decide) rfl (fun _ => ?_) (fun _ => ?_)
    · skip
      refine sm_sub [3] rfl ?_
      exact hk104 v102
    · skip
      refine sm_iload_n (pc' := 28) dX1_filledUpTo_27 rfl rfl ?_
      refine sm_aload_n (pc' := 29) dX1_filledUpTo_28 rfl rfl ?_
      refine sm_aload_n (pc' := 30) dX1_filledUpTo_29 rfl rfl ?_
      refine sm_getF (pc' := 33) fk_X1_21 yr_2_3 dX1_filledUpTo_30 rfl (fun v108 => ?_)
      refine sm_iload (pc' := 35) dX1_filledUpTo_33 rfl rfl ?_
      rcases v108 with _ | a109
      · exact sm_unN
      refine sm_unS ?_
      refine sm_iaload (pc' := 36) dX1_filledUpTo_35 rfl (fun v110 => ?_)
      rcases a2 with _ | a111
      · exact sm_unN
      refine sm_unS ?_
      refine sm_calli (pc' := 39) (sa := [iv v110, qv (some a111)]) (st := [iv v102]) (iv_X1_78 a111 v110) (Nat.le_of_ble_eq_true rfl) dX1_filledUpTo_36 rfl (Nat.le_of_ble_eq_true rfl) (fun v112 => ?_)
      refine sm_iadd (pc' := 40) dX1_filledUpTo_39 rfl ?_
      refine sm_istore_n (pc' := 41) [(3, iv (v102 + v112)), (0, qv (some th)), (1, iv a1), (2, qv (some a111)), (4, iv v103)] dX1_filledUpTo_40 rfl (Nat.le_of_ble_eq_true rfl) rfl rfl ?_
      refine sm_iinc (pc' := 44) (v103 + (1 : Int32)) [(4, iv (v103 + (1 : Int32))), (3, iv (v102 + v112)), (0, qv (some th)), (1, iv a1), (2, qv (some a111))] dX1_filledUpTo_41 rfl rfl (Nat.le_of_ble_eq_true rfl) rfl rfl ?_
      refine sm_goto (pc' := 16) dX1_filledUpTo_44 (by decide) ?_
      refine sm_sub [2, 3, 4, 1, 0] rfl ?_
      exact ih (v102 + v112) (v103 + (1 : Int32))
set_option maxRecDepth 20000 in
theorem sX1_filledUpTo (th : Nat) (a1 : Int32) (a2 : Option Nat) : Sim eX1_filledUpTo vI 0 [(0, qv (some th)), (1, iv a1), (2, qv a2)] [] (pX1_filledUpTo th a1 a2) := by
  unfold pX1_filledUpTo
  refine sm_aload_n (pc' := 1) dX1_filledUpTo_0 rfl rfl ?_
  refine sm_iload_n (pc' := 2) dX1_filledUpTo_1 rfl rfl ?_
  refine sm_calli (pc' := 5) (sa := [iv a1, qv (some th)]) (st := []) (iv_X1_73 th a1) (Nat.le_of_ble_eq_true rfl) dX1_filledUpTo_2 rfl (Nat.le_of_ble_eq_true rfl) (fun v101 => ?_)
  refine sm_if_ne (pc' := 8) (pc1 := 11) dX1_filledUpTo_5 (by decide) rfl (fun _ => ?_) (fun _ => ?_)
  · skip
    refine sm_iconst (pc' := 12) (0 : Int32) dX1_filledUpTo_11 (by decide) rfl ?_
    refine sm_istore_n (pc' := 13) [(3, iv (0 : Int32)), (0, qv (some th)), (1, iv a1), (2, qv a2)] dX1_filledUpTo_12 rfl (Nat.le_of_ble_eq_true rfl) rfl rfl ?_
    refine sm_iconst (pc' := 14) (0 : Int32) dX1_filledUpTo_13 (by decide) rfl ?_
    refine sm_istore (pc' := 16) [(4, iv (0 : Int32)), (3, iv (0 : Int32)), (0, qv (some th)), (1, iv a1), (2, qv a2)] dX1_filledUpTo_14  (Nat.le_of_ble_eq_true rfl) rfl rfl ?_
    refine sm_sub [2, 3, 4, 1, 0] rfl ?_
    refine sX1_filledUpTo_L16 th a1 a2 _ ?_ FL (0 : Int32) (0 : Int32)
    · intro v113
      refine sm_iload_n (pc' := 48) dX1_filledUpTo_47 rfl rfl ?_
      exact sm_ireturn rfl dX1_filledUpTo_48
  · skip
    refine sm_ldc (pc' := 10) (-1000000 : Int32) w_69 dX1_filledUpTo_8 rfl ?_
    exact sm_ireturn rfl dX1_filledUpTo_10
theorem kX1_filledUpTo (th : Nat) (a1 : Int32) (a2 : Option Nat) : Callee 2 yX1_filledUpTo cX1_filledUpTo 5 (some .int) [qv (some th), iv a1, qv a2] vI (pX1_filledUpTo th a1 a2) := callee_ofS [(0, qv (some th)), (1, iv a1), (2, qv a2)] (by decide +kernel) (Nat.le_of_ble_eq_true rfl) rfl (sX1_filledUpTo th a1 a2)
/-! HollowPress$Flow.forceAt(I)J -/
abbrev eX1_forceAt : Env0 := (RX1, "forceAt", cX1_forceAt, 7, (some .long), 3)
def pX1_forceAt_L33 (th : Nat) (a1 : Int32) (v106 : Int32) (k109 : Int64 → Prg Int64) : Nat → Int64 → Int32 → Prg Int64
  | 0, _, _ => fl
  | n + 1, v107, v108 =>
    (if a1 < v108 then k109 v107
    else gF 2 th 3 fun v110 =>
    un v110 fun a111 =>
    ldI a111 v108 fun v112 =>
    cl (onT th 2 (pX1_strain th v112)) fun v113 =>
    (lt (v107 + ((Int32.toInt64 v106) - (Int32.toInt64 v113))) fun v114 =>
    pX1_forceAt_L33 th a1 v106 k109 n v114 (v108 + (1 : Int32))))
def pX1_forceAt (th : Nat) (a1 : Int32) : Prg Int64 :=
    gI 2 th 7 fun v101 =>
    cl (pX10_below a1 v101) fun v102 =>
    (if v102 = 0 then rt (-1000000 : Int64)
    else gF 2 th 3 fun v103 =>
    un v103 fun a104 =>
    ldI a104 a1 fun v105 =>
    cl (onT th 2 (pX1_strain th v105)) fun v106 =>
    pX1_forceAt_L33 th a1 v106 (fun (v115 : Int64) => rt v115) FL (0 : Int64) (0 : Int32))
set_option maxRecDepth 20000 in
theorem sX1_forceAt_L33 (th : Nat) (a1 : Int32) (v106 : Int32) (k109 : Int64 → Prg Int64) (hk109 : ∀ (q4 : Int64), Sim eX1_forceAt vL 64 [(4, jv q4)] [] (k109 q4)) : ∀ (n : Nat), ∀ (v107 : Int64) (v108 : Int32), Sim eX1_forceAt vL 33 [(0, qv (some th)), (1, iv a1), (2, jv (Int32.toInt64 v106)), (4, jv v107), (6, iv v108)] [] (pX1_forceAt_L33 th a1 v106 k109 n v107 v108) := by
  intro n
  induction n with
  | zero =>
    intros
    exact sm_fl
  | succ n ih =>
    intro v107 v108
    unfold pX1_forceAt_L33
    refine sm_iload (pc' := 35) dX1_forceAt_33 rfl rfl ?_
    refine sm_iload_n (pc' := 36) dX1_forceAt_35 rfl rfl ?_
    refine sm_icmp_gt (pc' := 39) (pc1 := 64) dX1_forceAt_36 (by decide) rfl (fun _ => ?_) (fun _ => ?_)
    · skip
      refine sm_sub [3] rfl ?_
      exact hk109 v107
    · skip
      refine sm_lload (pc' := 41) dX1_forceAt_39 rfl rfl ?_
      refine sm_lload_n (pc' := 42) dX1_forceAt_41 rfl rfl ?_
      refine sm_aload_n (pc' := 43) dX1_forceAt_42 rfl rfl ?_
      refine sm_aload_n (pc' := 44) dX1_forceAt_43 rfl rfl ?_
      refine sm_getF (pc' := 47) fk_X1_21 yr_2_3 dX1_forceAt_44 rfl (fun v110 => ?_)
      refine sm_iload (pc' := 49) dX1_forceAt_47 rfl rfl ?_
      rcases v110 with _ | a111
      · exact sm_unN
      refine sm_unS ?_
      refine sm_iaload (pc' := 50) dX1_forceAt_49 rfl (fun v112 => ?_)
      refine sm_calli (pc' := 53) (sa := [iv v112, qv (some th)]) (st := [jv (Int32.toInt64 v106), jv v107]) (iv_X1_69 th v112) (Nat.le_of_ble_eq_true rfl) dX1_forceAt_50 rfl (Nat.le_of_ble_eq_true rfl) (fun v113 => ?_)
      refine sm_i2l (pc' := 54) dX1_forceAt_53 rfl ?_
      refine sm_lsub (pc' := 55) dX1_forceAt_54 rfl ?_
      refine sm_ladd (pc' := 56) dX1_forceAt_55 rfl ?_
      refine sm_ltI ?_
      generalize (v107 + ((Int32.toInt64 v106) - (Int32.toInt64 v113))) = v114
      refine sm_lstore (pc' := 58) [(4, jv v114), (0, qv (some th)), (1, iv a1), (2, jv (Int32.toInt64 v106)), (6, iv v108)] dX1_forceAt_56  (Nat.le_of_ble_eq_true rfl) rfl rfl ?_
      refine sm_iinc (pc' := 61) (v108 + (1 : Int32)) [(6, iv (v108 + (1 : Int32))), (4, jv v114), (0, qv (some th)), (1, iv a1), (2, jv (Int32.toInt64 v106))] dX1_forceAt_58 rfl rfl (Nat.le_of_ble_eq_true rfl) rfl rfl ?_
      refine sm_goto (pc' := 33) dX1_forceAt_61 (by decide) ?_
      refine sm_sub [2, 3, 4, 1, 0] rfl ?_
      exact ih v114 (v108 + (1 : Int32))
set_option maxRecDepth 20000 in
theorem sX1_forceAt (th : Nat) (a1 : Int32) : Sim eX1_forceAt vL 0 [(0, qv (some th)), (1, iv a1)] [] (pX1_forceAt th a1) := by
  unfold pX1_forceAt
  refine sm_iload_n (pc' := 1) dX1_forceAt_0 rfl rfl ?_
  refine sm_aload_n (pc' := 2) dX1_forceAt_1 rfl rfl ?_
  refine sm_getI (pc' := 5) fk_X1_34 nr_2_7 dX1_forceAt_2 rfl (fun v101 => ?_)
  refine sm_calli (pc' := 8) (sa := [iv v101, iv a1]) (st := []) (iv_X1_90 a1 v101) (Nat.le_of_ble_eq_true rfl) dX1_forceAt_5 rfl (Nat.le_of_ble_eq_true rfl) (fun v102 => ?_)
  refine sm_if_ne (pc' := 11) (pc1 := 15) dX1_forceAt_8 (by decide) rfl (fun _ => ?_) (fun _ => ?_)
  · skip
    refine sm_aload_n (pc' := 16) dX1_forceAt_15 rfl rfl ?_
    refine sm_aload_n (pc' := 17) dX1_forceAt_16 rfl rfl ?_
    refine sm_getF (pc' := 20) fk_X1_21 yr_2_3 dX1_forceAt_17 rfl (fun v103 => ?_)
    refine sm_iload_n (pc' := 21) dX1_forceAt_20 rfl rfl ?_
    rcases v103 with _ | a104
    · exact sm_unN
    refine sm_unS ?_
    refine sm_iaload (pc' := 22) dX1_forceAt_21 rfl (fun v105 => ?_)
    refine sm_calli (pc' := 25) (sa := [iv v105, qv (some th)]) (st := []) (iv_X1_69 th v105) (Nat.le_of_ble_eq_true rfl) dX1_forceAt_22 rfl (Nat.le_of_ble_eq_true rfl) (fun v106 => ?_)
    refine sm_i2l (pc' := 26) dX1_forceAt_25 rfl ?_
    refine sm_lstore_n (pc' := 27) [(2, jv (Int32.toInt64 v106)), (0, qv (some th)), (1, iv a1)] dX1_forceAt_26 rfl (Nat.le_of_ble_eq_true rfl) rfl rfl ?_
    refine sm_lconst (pc' := 28) (0 : Int64) dX1_forceAt_27 (by decide) rfl ?_
    refine sm_lstore (pc' := 30) [(4, jv (0 : Int64)), (2, jv (Int32.toInt64 v106)), (0, qv (some th)), (1, iv a1)] dX1_forceAt_28  (Nat.le_of_ble_eq_true rfl) rfl rfl ?_
    refine sm_iconst (pc' := 31) (0 : Int32) dX1_forceAt_30 (by decide) rfl ?_
    refine sm_istore (pc' := 33) [(6, iv (0 : Int32)), (4, jv (0 : Int64)), (2, jv (Int32.toInt64 v106)), (0, qv (some th)), (1, iv a1)] dX1_forceAt_31  (Nat.le_of_ble_eq_true rfl) rfl rfl ?_
    refine sm_sub [3, 4, 2, 1, 0] rfl ?_
    refine sX1_forceAt_L33 th a1 v106 _ ?_ FL (0 : Int64) (0 : Int32)
    · intro v115
      refine sm_lload (pc' := 66) dX1_forceAt_64 rfl rfl ?_
      exact sm_lreturn rfl dX1_forceAt_66
  · skip
    refine sm_ldc2 (pc' := 14) (-1000000 : Int64) w_160 dX1_forceAt_11 rfl ?_
    exact sm_lreturn rfl dX1_forceAt_14
theorem kX1_forceAt (th : Nat) (a1 : Int32) : Callee 3 yX1_forceAt cX1_forceAt 7 (some .long) [qv (some th), iv a1] vL (pX1_forceAt th a1) := callee_ofS [(0, qv (some th)), (1, iv a1)] (by decide +kernel) (Nat.le_of_ble_eq_true rfl) rfl (sX1_forceAt th a1)
/-! HollowPress$Flow.<init>()V -/
abbrev eX1_init : Env0 := (RX1, "<init>", cX1_init, 1, none, 1)
def pX1_init (th : Nat) : Prg Unit :=
    nA 20 (144 : Int32) fun a101 =>
    pF 2 th 0 (some a101) (
    nA 20 (576 : Int32) fun a102 =>
    pF 2 th 1 (some a102) (
    nA 20 (144 : Int32) fun a103 =>
    pF 2 th 2 (some a103) (
    nA 20 (144 : Int32) fun a104 =>
    pF 2 th 3 (some a104) (
    nA 20 (144 : Int32) fun a105 =>
    pF 2 th 4 (some a105) (
    nA 20 (144 : Int32) fun a106 =>
    pF 2 th 5 (some a106) (
    pI 2 th 6 (0 : Int32) (
    pI 2 th 7 (0 : Int32) (
    pF 2 th 8 none (
    pI 2 th 9 (0 : Int32) (
    rt ()))))))))))
set_option maxRecDepth 20000 in
theorem sX1_init (th : Nat) : Sim eX1_init vU 0 [(0, qv (some th))] [] (pX1_init th) := by
  unfold pX1_init
  refine sm_aload_n (pc' := 1) dX1_init_0 rfl rfl ?_
  refine sm_objInit (pc' := 4) w_161 w_5 w_6 dX1_init_1 (by decide) (Nat.le_of_ble_eq_true rfl) rfl ?_
  refine sm_aload_n (pc' := 5) dX1_init_4 rfl rfl ?_
  refine sm_sipush (pc' := 8) (144 : Int32) dX1_init_5 (by decide) rfl ?_
  refine sm_newarr (pc' := 10) (atype := .int) (Or.inl ⟨rfl, rfl⟩) w_11 dX1_init_8 rfl (fun a101 => ?_)
  refine sm_putF (pc' := 13) (gk_X1_9i _ _ _ _) yr_2_0 dX1_init_10 rfl ?_
  refine sm_aload_n (pc' := 14) dX1_init_13 rfl rfl ?_
  refine sm_sipush (pc' := 17) (576 : Int32) dX1_init_14 (by decide) rfl ?_
  refine sm_newarr (pc' := 19) (atype := .int) (Or.inl ⟨rfl, rfl⟩) w_11 dX1_init_17 rfl (fun a102 => ?_)
  refine sm_putF (pc' := 22) (gk_X1_15i _ _ _ _) yr_2_1 dX1_init_19 rfl ?_
  refine sm_aload_n (pc' := 23) dX1_init_22 rfl rfl ?_
  refine sm_sipush (pc' := 26) (144 : Int32) dX1_init_23 (by decide) rfl ?_
  refine sm_newarr (pc' := 28) (atype := .int) (Or.inl ⟨rfl, rfl⟩) w_11 dX1_init_26 rfl (fun a103 => ?_)
  refine sm_putF (pc' := 31) (gk_X1_18i _ _ _ _) yr_2_2 dX1_init_28 rfl ?_
  refine sm_aload_n (pc' := 32) dX1_init_31 rfl rfl ?_
  refine sm_sipush (pc' := 35) (144 : Int32) dX1_init_32 (by decide) rfl ?_
  refine sm_newarr (pc' := 37) (atype := .int) (Or.inl ⟨rfl, rfl⟩) w_11 dX1_init_35 rfl (fun a104 => ?_)
  refine sm_putF (pc' := 40) (gk_X1_21i _ _ _ _) yr_2_3 dX1_init_37 rfl ?_
  refine sm_aload_n (pc' := 41) dX1_init_40 rfl rfl ?_
  refine sm_sipush (pc' := 44) (144 : Int32) dX1_init_41 (by decide) rfl ?_
  refine sm_newarr (pc' := 46) (atype := .int) (Or.inl ⟨rfl, rfl⟩) w_11 dX1_init_44 rfl (fun a105 => ?_)
  refine sm_putF (pc' := 49) (gk_X1_24i _ _ _ _) yr_2_4 dX1_init_46 rfl ?_
  refine sm_aload_n (pc' := 50) dX1_init_49 rfl rfl ?_
  refine sm_sipush (pc' := 53) (144 : Int32) dX1_init_50 (by decide) rfl ?_
  refine sm_newarr (pc' := 55) (atype := .int) (Or.inl ⟨rfl, rfl⟩) w_11 dX1_init_53 rfl (fun a106 => ?_)
  refine sm_putF (pc' := 58) (gk_X1_27i _ _ _ _) yr_2_5 dX1_init_55 rfl ?_
  refine sm_aload_n (pc' := 59) dX1_init_58 rfl rfl ?_
  refine sm_iconst (pc' := 60) (0 : Int32) dX1_init_59 (by decide) rfl ?_
  refine sm_putI (pc' := 63) (gk_X1_30 _ _ _ _ _) ti_2_6 dX1_init_60 rfl ?_
  refine sm_aload_n (pc' := 64) dX1_init_63 rfl rfl ?_
  refine sm_iconst (pc' := 65) (0 : Int32) dX1_init_64 (by decide) rfl ?_
  refine sm_putI (pc' := 68) (gk_X1_34 _ _ _ _ _) ti_2_7 dX1_init_65 rfl ?_
  refine sm_aload_n (pc' := 69) dX1_init_68 rfl rfl ?_
  refine sm_null (pc' := 70) dX1_init_69 rfl ?_
  refine sm_putF (pc' := 73) (gk_X1_37 _ _ _ _ _) yr_2_8 dX1_init_70 rfl ?_
  refine sm_aload_n (pc' := 74) dX1_init_73 rfl rfl ?_
  refine sm_iconst (pc' := 75) (0 : Int32) dX1_init_74 (by decide) rfl ?_
  refine sm_putI (pc' := 78) (gk_X1_41 _ _ _ _ _) ti_2_9 dX1_init_75 rfl ?_
  exact sm_return rfl dX1_init_78
theorem kX1_init (th : Nat) : Callee 1 yX1_init cX1_init 1 none [qv (some th)] vU (pX1_init th) := callee_ofS [(0, qv (some th))] (by decide +kernel) (Nat.le_of_ble_eq_true rfl) rfl (sX1_init th)
/-! HollowPress$Flow.rank(I)I -/
abbrev eX1_rank : Env0 := (RX1, "rank", cX1_rank, 2, (some .int), 2)
def pX1_rank (th : Nat) (a1 : Int32) : Prg Int32 :=
    cl (onT th 2 (pX1_reached th a1)) fun v101 =>
    (lt (fun (v102 : Int32) => rt v102 : Int32 → Prg Int32) fun k103 =>
    (if v101 = 0 then k103 (-1000000 : Int32)
    else gF 2 th 4 fun v104 =>
    un v104 fun a105 =>
    ldI a105 a1 fun v106 =>
    k103 v106))
set_option maxRecDepth 20000 in
theorem sX1_rank (th : Nat) (a1 : Int32) : Sim eX1_rank vI 0 [(0, qv (some th)), (1, iv a1)] [] (pX1_rank th a1) := by
  unfold pX1_rank
  refine sm_aload_n (pc' := 1) dX1_rank_0 rfl rfl ?_
  refine sm_iload_n (pc' := 2) dX1_rank_1 rfl rfl ?_
  refine sm_calli (pc' := 5) (sa := [iv a1, qv (some th)]) (st := []) (iv_X1_73 th a1) (Nat.le_of_ble_eq_true rfl) dX1_rank_2 rfl (Nat.le_of_ble_eq_true rfl) (fun v101 => ?_)
  refine sm_lt (fun k103 => ∀ (v102 : Int32), Sim eX1_rank vI 19 [] [iv v102] (k103 v102)) ?_ (fun k103 hk103 => ?_)
  · intro v102
    exact sm_ireturn rfl dX1_rank_19
  · skip
    refine sm_if_eq (pc' := 8) (pc1 := 17) dX1_rank_5 (by decide) rfl (fun _ => ?_) (fun _ => ?_)
    · skip
      refine sm_ldc (pc' := 19) (-1000000 : Int32) w_69 dX1_rank_17 rfl ?_
      refine sm_sub [] rfl ?_
      exact hk103 (-1000000 : Int32)
    · skip
      refine sm_aload_n (pc' := 9) dX1_rank_8 rfl rfl ?_
      refine sm_getF (pc' := 12) fk_X1_24 yr_2_4 dX1_rank_9 rfl (fun v104 => ?_)
      refine sm_iload_n (pc' := 13) dX1_rank_12 rfl rfl ?_
      rcases v104 with _ | a105
      · exact sm_unN
      refine sm_unS ?_
      refine sm_iaload (pc' := 14) dX1_rank_13 rfl (fun v106 => ?_)
      refine sm_goto (pc' := 19) dX1_rank_14 (by decide) ?_
      refine sm_sub [] rfl ?_
      exact hk103 v106
theorem kX1_rank (th : Nat) (a1 : Int32) : Callee 2 yX1_rank cX1_rank 2 (some .int) [qv (some th), iv a1] vI (pX1_rank th a1) := callee_ofS [(0, qv (some th)), (1, iv a1)] (by decide +kernel) (Nat.le_of_ble_eq_true rfl) rfl (sX1_rank th a1)
/-! HollowPress.allCellsAlike([I)Z -/
abbrev eX10_allCellsAlike : Env0 := (RX10, "allCellsAlike", cX10_allCellsAlike, 6, (some .boolean), 0)
def pX10_allCellsAlike_L10 (a101 : Nat) (v102 : Int32) (k105 : Prg Int32) : Nat → Int32 → Int32 → Prg Int32
  | 0, _, _ => fl
  | n + 1, v103, v104 =>
    (if v102 ≤ v104 then k105
    else ldI a101 v104 fun v106 =>
    (lt (fun (v107 : Int32) => (lt (pX10_allCellsAlike_L10 a101 v102 k105 n v107 (v104 + (1 : Int32)) : Prg Int32) fun k109 =>
    (if v106 = 0 then k109
    else (if v106 = v107 then k109
    else rtZ (0 : Int32)))) : Int32 → Prg Int32) fun k108 =>
    (if v103 = 0 then k108 v106
    else k108 v103)))
def pX10_allCellsAlike (a1 : Option Nat) : Prg Int32 :=
    un a1 fun a101 =>
    ln a101 fun v102 =>
    pX10_allCellsAlike_L10 a101 v102 (rtZ (1 : Int32)) FL (0 : Int32) (0 : Int32)
set_option maxRecDepth 20000 in
theorem sX10_allCellsAlike_L10 (a101 : Nat) (v102 : Int32) (k105 : Prg Int32) (hk105 : Sim eX10_allCellsAlike vI 48 [] [] (k105)) : ∀ (n : Nat), ∀ (v103 : Int32) (v104 : Int32), Sim eX10_allCellsAlike vI 10 [(1, iv v103), (2, qv (some a101)), (3, iv v102), (4, iv v104)] [] (pX10_allCellsAlike_L10 a101 v102 k105 n v103 v104) := by
  intro n
  induction n with
  | zero =>
    intros
    exact sm_fl
  | succ n ih =>
    intro v103 v104
    unfold pX10_allCellsAlike_L10
    refine sm_iload (pc' := 12) dX10_allCellsAlike_10 rfl rfl ?_
    refine sm_iload_n (pc' := 13) dX10_allCellsAlike_12 rfl rfl ?_
    refine sm_icmp_ge (pc' := 16) (pc1 := 48) dX10_allCellsAlike_13 (by decide) rfl (fun _ => ?_) (fun _ => ?_)
    · skip
      refine sm_sub [] rfl ?_
      exact hk105
    · skip
      refine sm_aload_n (pc' := 17) dX10_allCellsAlike_16 rfl rfl ?_
      refine sm_iload (pc' := 19) dX10_allCellsAlike_17 rfl rfl ?_
      refine sm_iaload (pc' := 20) dX10_allCellsAlike_19 rfl (fun v106 => ?_)
      refine sm_istore (pc' := 22) [(5, iv v106), (1, iv v103), (2, qv (some a101)), (3, iv v102), (4, iv v104)] dX10_allCellsAlike_20  (Nat.le_of_ble_eq_true rfl) rfl rfl ?_
      refine sm_iload_n (pc' := 23) dX10_allCellsAlike_22 rfl rfl ?_
      refine sm_lt (fun k108 => ∀ (v107 : Int32), Sim eX10_allCellsAlike vI 29 [(1, iv v107), (2, qv (some a101)), (3, iv v102), (4, iv v104), (5, iv v106)] [] (k108 v107)) ?_ (fun k108 hk108 => ?_)
      · intro v107
        refine sm_iload (pc' := 31) dX10_allCellsAlike_29 rfl rfl ?_
        refine sm_lt (fun k109 => Sim eX10_allCellsAlike vI 42 [(1, iv v107), (2, qv (some a101)), (3, iv v102), (4, iv v104)] [] (k109)) ?_ (fun k109 hk109 => ?_)
        · skip
          refine sm_iinc (pc' := 45) (v104 + (1 : Int32)) [(4, iv (v104 + (1 : Int32))), (1, iv v107), (2, qv (some a101)), (3, iv v102)] dX10_allCellsAlike_42 rfl rfl (Nat.le_of_ble_eq_true rfl) rfl rfl ?_
          refine sm_goto (pc' := 10) dX10_allCellsAlike_45 (by decide) ?_
          refine sm_sub [1, 2, 3, 0] rfl ?_
          exact ih v107 (v104 + (1 : Int32))
        · skip
          refine sm_if_eq (pc' := 34) (pc1 := 42) dX10_allCellsAlike_31 (by decide) rfl (fun _ => ?_) (fun _ => ?_)
          · skip
            refine sm_sub [0, 1, 2, 3] rfl ?_
            exact hk109
          · skip
            refine sm_iload (pc' := 36) dX10_allCellsAlike_34 rfl rfl ?_
            refine sm_iload_n (pc' := 37) dX10_allCellsAlike_36 rfl rfl ?_
            refine sm_icmp_eq (pc' := 40) (pc1 := 42) dX10_allCellsAlike_37 (by decide) rfl (fun _ => ?_) (fun _ => ?_)
            · skip
              refine sm_sub [0, 1, 2, 3] rfl ?_
              exact hk109
            · skip
              refine sm_iconst (pc' := 41) (0 : Int32) dX10_allCellsAlike_40 (by decide) rfl ?_
              exact sm_zreturn rfl dX10_allCellsAlike_41
      · skip
        refine sm_if_ne (pc' := 26) (pc1 := 29) dX10_allCellsAlike_23 (by decide) rfl (fun _ => ?_) (fun _ => ?_)
        · skip
          refine sm_sub [1, 2, 3, 4, 0] rfl ?_
          exact hk108 v103
        · skip
          refine sm_iload (pc' := 28) dX10_allCellsAlike_26 rfl rfl ?_
          refine sm_istore_n (pc' := 29) [(1, iv v106), (5, iv v106), (2, qv (some a101)), (3, iv v102), (4, iv v104)] dX10_allCellsAlike_28 rfl (Nat.le_of_ble_eq_true rfl) rfl rfl ?_
          refine sm_sub [0, 2, 3, 4, 1] rfl ?_
          exact hk108 v106
set_option maxRecDepth 20000 in
theorem sX10_allCellsAlike (a1 : Option Nat) : Sim eX10_allCellsAlike vI 0 [(0, qv a1)] [] (pX10_allCellsAlike a1) := by
  unfold pX10_allCellsAlike
  refine sm_iconst (pc' := 1) (0 : Int32) dX10_allCellsAlike_0 (by decide) rfl ?_
  refine sm_istore_n (pc' := 2) [(1, iv (0 : Int32)), (0, qv a1)] dX10_allCellsAlike_1 rfl (Nat.le_of_ble_eq_true rfl) rfl rfl ?_
  refine sm_aload_n (pc' := 3) dX10_allCellsAlike_2 rfl rfl ?_
  refine sm_astore_n (pc' := 4) [(2, qv a1), (1, iv (0 : Int32)), (0, qv a1)] dX10_allCellsAlike_3 rfl (Nat.le_of_ble_eq_true rfl) rfl rfl ?_
  refine sm_aload_n (pc' := 5) dX10_allCellsAlike_4 rfl rfl ?_
  rcases a1 with _ | a101
  · exact sm_unN
  refine sm_unS ?_
  refine sm_alen (pc' := 6) dX10_allCellsAlike_5 rfl (fun v102 => ?_)
  refine sm_istore_n (pc' := 7) [(3, iv v102), (2, qv (some a101)), (1, iv (0 : Int32)), (0, qv (some a101))] dX10_allCellsAlike_6 rfl (Nat.le_of_ble_eq_true rfl) rfl rfl ?_
  refine sm_iconst (pc' := 8) (0 : Int32) dX10_allCellsAlike_7 (by decide) rfl ?_
  refine sm_istore (pc' := 10) [(4, iv (0 : Int32)), (3, iv v102), (2, qv (some a101)), (1, iv (0 : Int32)), (0, qv (some a101))] dX10_allCellsAlike_8  (Nat.le_of_ble_eq_true rfl) rfl rfl ?_
  refine sm_sub [3, 2, 1, 0] rfl ?_
  refine sX10_allCellsAlike_L10 a101 v102 _ ?_ FL (0 : Int32) (0 : Int32)
  · skip
    refine sm_iconst (pc' := 49) (1 : Int32) dX10_allCellsAlike_48 (by decide) rfl ?_
    exact sm_zreturn rfl dX10_allCellsAlike_49
theorem kX10_allCellsAlike (a1 : Option Nat) : Callee 0 yX10_allCellsAlike cX10_allCellsAlike 6 (some .boolean) [qv a1] vI (pX10_allCellsAlike a1) := callee_ofS [(0, qv a1)] (by decide +kernel) (Nat.le_of_ble_eq_true rfl) rfl (sX10_allCellsAlike a1)
/-! HollowPress.among(III)Z -/
abbrev eX10_among : Env0 := (RX10, "among", cX10_among, 3, (some .boolean), 0)
def pX10_among (a1 : Int32) (a2 : Int32) (a3 : Int32) : Prg Int32 :=
    (lt (fun (v101 : Int32) => rtZ v101 : Int32 → Prg Int32) fun k102 =>
    (lt (k102 (0 : Int32) : Prg Int32) fun k103 =>
    (if a1 < a2 then k103
    else (if a3 < a1 then k103
    else k102 (1 : Int32)))))
set_option maxRecDepth 20000 in
theorem sX10_among (a1 : Int32) (a2 : Int32) (a3 : Int32) : Sim eX10_among vI 0 [(0, iv a1), (1, iv a2), (2, iv a3)] [] (pX10_among a1 a2 a3) := by
  unfold pX10_among
  refine sm_iload_n (pc' := 1) dX10_among_0 rfl rfl ?_
  refine sm_iload_n (pc' := 2) dX10_among_1 rfl rfl ?_
  refine sm_lt (fun k102 => ∀ (v101 : Int32), Sim eX10_among vI 15 [] [iv v101] (k102 v101)) ?_ (fun k102 hk102 => ?_)
  · intro v101
    exact sm_zreturn rfl dX10_among_15
  · skip
    refine sm_lt (fun k103 => Sim eX10_among vI 14 [] [] (k103)) ?_ (fun k103 hk103 => ?_)
    · skip
      refine sm_iconst (pc' := 15) (0 : Int32) dX10_among_14 (by decide) rfl ?_
      exact hk102 (0 : Int32)
    · skip
      refine sm_icmp_lt (pc' := 5) (pc1 := 14) dX10_among_2 (by decide) rfl (fun _ => ?_) (fun _ => ?_)
      · skip
        refine sm_sub [] rfl ?_
        exact hk103
      · skip
        refine sm_iload_n (pc' := 6) dX10_among_5 rfl rfl ?_
        refine sm_iload_n (pc' := 7) dX10_among_6 rfl rfl ?_
        refine sm_icmp_gt (pc' := 10) (pc1 := 14) dX10_among_7 (by decide) rfl (fun _ => ?_) (fun _ => ?_)
        · skip
          refine sm_sub [] rfl ?_
          exact hk103
        · skip
          refine sm_iconst (pc' := 11) (1 : Int32) dX10_among_10 (by decide) rfl ?_
          refine sm_goto (pc' := 15) dX10_among_11 (by decide) ?_
          refine sm_sub [] rfl ?_
          exact hk102 (1 : Int32)
theorem kX10_among (a1 : Int32) (a2 : Int32) (a3 : Int32) : Callee 0 yX10_among cX10_among 3 (some .boolean) [iv a1, iv a2, iv a3] vI (pX10_among a1 a2 a3) := callee_ofS [(0, iv a1), (1, iv a2), (2, iv a3)] (by decide +kernel) (Nat.le_of_ble_eq_true rfl) rfl (sX10_among a1 a2 a3)
/-! HollowPress.fine(I)I -/
abbrev eX10_fine : Env0 := (RX10, "fine", cX10_fine, 2, (some .int), 0)
def pX10_fine (th : Nat) (a1 : Int32) : Prg Int32 :=
    pI 10 th 6 (0 : Int32) (
    rt a1)
set_option maxRecDepth 20000 in
theorem sX10_fine (th : Nat) (a1 : Int32) : Sim eX10_fine vI 0 [(0, qv (some th)), (1, iv a1)] [] (pX10_fine th a1) := by
  unfold pX10_fine
  refine sm_aload_n (pc' := 1) dX10_fine_0 rfl rfl ?_
  refine sm_iconst (pc' := 2) (0 : Int32) dX10_fine_1 (by decide) rfl ?_
  refine sm_putI (pc' := 5) (gk_X10_49 _ _ _ _ _) ti_10_6 dX10_fine_2 rfl ?_
  refine sm_iload_n (pc' := 6) dX10_fine_5 rfl rfl ?_
  exact sm_ireturn rfl dX10_fine_6
theorem kX10_fine (th : Nat) (a1 : Int32) : Callee 0 yX10_fine cX10_fine 2 (some .int) [qv (some th), iv a1] vI (pX10_fine th a1) := callee_ofS [(0, qv (some th)), (1, iv a1)] (by decide +kernel) (Nat.le_of_ble_eq_true rfl) rfl (sX10_fine th a1)
/-! HollowPress.found(I)I -/
abbrev eX10_found : Env0 := (RX10, "found", cX10_found, 2, (some .int), 0)
def pX10_found (th : Nat) (a1 : Int32) : Prg Int32 :=
    pI 10 th 6 a1 (
    rt ((-1000010 : Int32) - a1))
set_option maxRecDepth 20000 in
theorem sX10_found (th : Nat) (a1 : Int32) : Sim eX10_found vI 0 [(0, qv (some th)), (1, iv a1)] [] (pX10_found th a1) := by
  unfold pX10_found
  refine sm_aload_n (pc' := 1) dX10_found_0 rfl rfl ?_
  refine sm_iload_n (pc' := 2) dX10_found_1 rfl rfl ?_
  refine sm_putI (pc' := 5) (gk_X10_49 _ _ _ _ _) ti_10_6 dX10_found_2 rfl ?_
  refine sm_ldcw (pc' := 8) (-1000010 : Int32) w_163 dX10_found_5 rfl ?_
  refine sm_iload_n (pc' := 9) dX10_found_8 rfl rfl ?_
  refine sm_isub (pc' := 10) dX10_found_9 rfl ?_
  exact sm_ireturn rfl dX10_found_10
theorem kX10_found (th : Nat) (a1 : Int32) : Callee 0 yX10_found cX10_found 2 (some .int) [qv (some th), iv a1] vI (pX10_found th a1) := callee_ofS [(0, qv (some th)), (1, iv a1)] (by decide +kernel) (Nat.le_of_ble_eq_true rfl) rfl (sX10_found th a1)
/-! HollowPress$Layers.greatest()I -/
abbrev eX2_greatest : Env0 := (RX2, "greatest", cX2_greatest, 6, (some .int), 1)
def pX2_greatest_L13 (a102 : Nat) (v103 : Int32) (k106 : Int32 → Prg Int32) : Nat → Int32 → Int32 → Prg Int32
  | 0, _, _ => fl
  | n + 1, v104, v105 =>
    (if v103 ≤ v105 then k106 v104
    else ldI a102 v105 fun v107 =>
    pX2_greatest_L13 a102 v103 k106 n (mx v104 v107) (v105 + (1 : Int32)))
def pX2_greatest (th : Nat) : Prg Int32 :=
    gF 3 th 0 fun v101 =>
    un v101 fun a102 =>
    ln a102 fun v103 =>
    pX2_greatest_L13 a102 v103 (fun (v108 : Int32) => rt v108) FL (0 : Int32) (0 : Int32)
set_option maxRecDepth 20000 in
theorem sX2_greatest_L13 (a102 : Nat) (v103 : Int32) (k106 : Int32 → Prg Int32) (hk106 : ∀ (q1 : Int32), Sim eX2_greatest vI 38 [(1, iv q1)] [] (k106 q1)) : ∀ (n : Nat), ∀ (v104 : Int32) (v105 : Int32), Sim eX2_greatest vI 13 [(1, iv v104), (2, qv (some a102)), (3, iv v103), (4, iv v105)] [] (pX2_greatest_L13 a102 v103 k106 n v104 v105) := by
  intro n
  induction n with
  | zero =>
    intros
    exact sm_fl
  | succ n ih =>
    intro v104 v105
    unfold pX2_greatest_L13
    refine sm_iload (pc' := 15) dX2_greatest_13 rfl rfl ?_
    refine sm_iload_n (pc' := 16) dX2_greatest_15 rfl rfl ?_
    refine sm_icmp_ge (pc' := 19) (pc1 := 38) dX2_greatest_16 (by decide) rfl (fun _ => ?_) (fun _ => ?_)
    · skip
      refine sm_sub [0] rfl ?_
      exact hk106 v104
    · skip
      refine sm_aload_n (pc' := 20) dX2_greatest_19 rfl rfl ?_
      refine sm_iload (pc' := 22) dX2_greatest_20 rfl rfl ?_
      refine sm_iaload (pc' := 23) dX2_greatest_22 rfl (fun v107 => ?_)
      refine sm_istore (pc' := 25) [(5, iv v107), (1, iv v104), (2, qv (some a102)), (3, iv v103), (4, iv v105)] dX2_greatest_23  (Nat.le_of_ble_eq_true rfl) rfl rfl ?_
      refine sm_iload_n (pc' := 26) dX2_greatest_25 rfl rfl ?_
      refine sm_iload (pc' := 28) dX2_greatest_26 rfl rfl ?_
      refine sm_mmax (pc' := 31) w_165 w_76 w_77 w_78 dX2_greatest_28 (by decide) (Nat.le_of_ble_eq_true rfl) rfl ?_
      refine sm_istore_n (pc' := 32) [(1, iv (mx v104 v107)), (5, iv v107), (2, qv (some a102)), (3, iv v103), (4, iv v105)] dX2_greatest_31 rfl (Nat.le_of_ble_eq_true rfl) rfl rfl ?_
      refine sm_iinc (pc' := 35) (v105 + (1 : Int32)) [(4, iv (v105 + (1 : Int32))), (1, iv (mx v104 v107)), (5, iv v107), (2, qv (some a102)), (3, iv v103)] dX2_greatest_32 rfl rfl (Nat.le_of_ble_eq_true rfl) rfl rfl ?_
      refine sm_goto (pc' := 13) dX2_greatest_35 (by decide) ?_
      refine sm_sub [1, 3, 4, 0] rfl ?_
      exact ih (mx v104 v107) (v105 + (1 : Int32))
set_option maxRecDepth 20000 in
theorem sX2_greatest (th : Nat) : Sim eX2_greatest vI 0 [(0, qv (some th))] [] (pX2_greatest th) := by
  unfold pX2_greatest
  refine sm_iconst (pc' := 1) (0 : Int32) dX2_greatest_0 (by decide) rfl ?_
  refine sm_istore_n (pc' := 2) [(1, iv (0 : Int32)), (0, qv (some th))] dX2_greatest_1 rfl (Nat.le_of_ble_eq_true rfl) rfl rfl ?_
  refine sm_aload_n (pc' := 3) dX2_greatest_2 rfl rfl ?_
  refine sm_getF (pc' := 6) fk_X2_13 yr_3_0 dX2_greatest_3 rfl (fun v101 => ?_)
  refine sm_astore_n (pc' := 7) [(2, qv v101), (1, iv (0 : Int32)), (0, qv (some th))] dX2_greatest_6 rfl (Nat.le_of_ble_eq_true rfl) rfl rfl ?_
  refine sm_aload_n (pc' := 8) dX2_greatest_7 rfl rfl ?_
  rcases v101 with _ | a102
  · exact sm_unN
  refine sm_unS ?_
  refine sm_alen (pc' := 9) dX2_greatest_8 rfl (fun v103 => ?_)
  refine sm_istore_n (pc' := 10) [(3, iv v103), (2, qv (some a102)), (1, iv (0 : Int32)), (0, qv (some th))] dX2_greatest_9 rfl (Nat.le_of_ble_eq_true rfl) rfl rfl ?_
  refine sm_iconst (pc' := 11) (0 : Int32) dX2_greatest_10 (by decide) rfl ?_
  refine sm_istore (pc' := 13) [(4, iv (0 : Int32)), (3, iv v103), (2, qv (some a102)), (1, iv (0 : Int32)), (0, qv (some th))] dX2_greatest_11  (Nat.le_of_ble_eq_true rfl) rfl rfl ?_
  refine sm_sub [3, 2, 1, 0] rfl ?_
  refine sX2_greatest_L13 a102 v103 _ ?_ FL (0 : Int32) (0 : Int32)
  · intro v108
    refine sm_iload_n (pc' := 39) dX2_greatest_38 rfl rfl ?_
    exact sm_ireturn rfl dX2_greatest_39
theorem kX2_greatest (th : Nat) : Callee 1 yX2_greatest cX2_greatest 6 (some .int) [qv (some th)] vI (pX2_greatest th) := callee_ofS [(0, qv (some th))] (by decide +kernel) (Nat.le_of_ble_eq_true rfl) rfl (sX2_greatest th)
/-! HollowPress$Layers.mark(LHollowPress$Trace;)I -/
set_option maxRecDepth 20000 in
theorem iv_X2_24 (a : Nat) (x0 : Int32) : Inv RX2 1 (.invokevirtual 24) [iv x0, qv (some a)] vU (onT a 9 (pX9_leave a x0)) := inv_V (As := [iv x0]) (t := 9) (kX9_leave a x0) _ (by decide) rfl rfl w_166 w_40 w_41 w_42 w_43 ⟨by decide +kernel, by decide +kernel, by show _ = some 1; decide +kernel⟩ (by decide)
set_option maxRecDepth 20000 in
theorem iv_X2_30 (a : Nat)  : Inv RX2 2 (.invokevirtual 30) [qv (some a)] vI (onT a 3 (pX2_greatest a )) := inv_V (As := []) (t := 3) (kX2_greatest a ) _ (by decide) rfl rfl w_167 w_168 w_169 w_170 w_171 ⟨by decide +kernel, by decide +kernel, by show _ = some 0; decide +kernel⟩ (by decide)
abbrev eX2_mark : Env0 := (RX2, "mark", cX2_mark, 2, (some .int), 2)
def pX2_mark (th : Nat) (a1 : Option Nat) : Prg Int32 :=
    un a1 fun a101 =>
    cl (onT a101 9 (pX9_leave a101 (22 : Int32))) fun _ =>
    cl (onT th 3 (pX2_greatest th)) fun v102 =>
    rt v102
set_option maxRecDepth 20000 in
theorem sX2_mark (th : Nat) (a1 : Option Nat) : Sim eX2_mark vI 0 [(0, qv (some th)), (1, qv a1)] [] (pX2_mark th a1) := by
  unfold pX2_mark
  refine sm_aload_n (pc' := 1) dX2_mark_0 rfl rfl ?_
  refine sm_bipush (pc' := 3) (22 : Int32) dX2_mark_1 (by decide) rfl ?_
  rcases a1 with _ | a101
  · exact sm_unN
  refine sm_unS ?_
  refine sm_callv (pc' := 6) (sa := [iv (22 : Int32), qv (some a101)]) (st := []) (iv_X2_24 a101 (22 : Int32)) (Nat.le_of_ble_eq_true rfl) dX2_mark_3 rfl (Nat.le_of_ble_eq_true rfl) (fun _ => ?_)
  refine sm_aload_n (pc' := 7) dX2_mark_6 rfl rfl ?_
  refine sm_calli (pc' := 10) (sa := [qv (some th)]) (st := []) (iv_X2_30 th) (Nat.le_of_ble_eq_true rfl) dX2_mark_7 rfl (Nat.le_of_ble_eq_true rfl) (fun v102 => ?_)
  exact sm_ireturn rfl dX2_mark_10
theorem kX2_mark (th : Nat) (a1 : Option Nat) : Callee 2 yX2_mark cX2_mark 2 (some .int) [qv (some th), qv a1] vI (pX2_mark th a1) := callee_ofS [(0, qv (some th)), (1, qv a1)] (by decide +kernel) (Nat.le_of_ble_eq_true rfl) rfl (sX2_mark th a1)
/-! HollowPress$Layers.weigh(LHollowPress$Trace;)I -/
abbrev eX2_weigh : Env0 := (RX2, "weigh", cX2_weigh, 2, (some .int), 1)
def pX2_weigh (th : Nat) (a1 : Option Nat) : Prg Int32 :=
    un a1 fun a101 =>
    cl (onT a101 9 (pX9_leave a101 (13 : Int32))) fun _ =>
    gF 3 th 0 fun v102 =>
    un v102 fun a103 =>
    ln a103 fun v104 =>
    rt v104
set_option maxRecDepth 20000 in
theorem sX2_weigh (th : Nat) (a1 : Option Nat) : Sim eX2_weigh vI 0 [(0, qv (some th)), (1, qv a1)] [] (pX2_weigh th a1) := by
  unfold pX2_weigh
  refine sm_aload_n (pc' := 1) dX2_weigh_0 rfl rfl ?_
  refine sm_bipush (pc' := 3) (13 : Int32) dX2_weigh_1 (by decide) rfl ?_
  rcases a1 with _ | a101
  · exact sm_unN
  refine sm_unS ?_
  refine sm_callv (pc' := 6) (sa := [iv (13 : Int32), qv (some a101)]) (st := []) (iv_X2_24 a101 (13 : Int32)) (Nat.le_of_ble_eq_true rfl) dX2_weigh_3 rfl (Nat.le_of_ble_eq_true rfl) (fun _ => ?_)
  refine sm_aload_n (pc' := 7) dX2_weigh_6 rfl rfl ?_
  refine sm_getF (pc' := 10) fk_X2_13 yr_3_0 dX2_weigh_7 rfl (fun v102 => ?_)
  rcases v102 with _ | a103
  · exact sm_unN
  refine sm_unS ?_
  refine sm_alen (pc' := 11) dX2_weigh_10 rfl (fun v104 => ?_)
  exact sm_ireturn rfl dX2_weigh_11
theorem kX2_weigh (th : Nat) (a1 : Option Nat) : Callee 1 yX2_weigh cX2_weigh 2 (some .int) [qv (some th), qv a1] vI (pX2_weigh th a1) := callee_ofS [(0, qv (some th)), (1, qv a1)] (by decide +kernel) (Nat.le_of_ble_eq_true rfl) rfl (sX2_weigh th a1)
/-! HollowPress$Thing.mark(LHollowPress$Trace;)I -/
set_option maxRecDepth 20000 in
theorem iv_X8_13 (a : Nat) (x0 : Option Nat) : Inv RX8 4 (.invokevirtual 13) [qv x0, qv (some a)] vI (or2 a 1 (pX0_weigh a x0) (or2 a 3 (pX2_weigh a x0) (or2 a 4 (pX3_weigh a x0) (onT a 5 (pX0_weigh a x0))))) := inv_or (inv_U (As := [qv x0]) (t := 1) (owner := "HollowPress$Thing") (xn := ⟨"HollowPress$Thing", "weigh", "(LHollowPress$Trace;)I"⟩) (kX0_weigh a x0) _ (by decide) rfl w_172 w_46 (Or.inr ⟨w_47, cX8_weigh, 2, (some .int), w_48⟩) w_173 w_174 w_175 w_176 ⟨by decide +kernel, by decide +kernel, by show _ = some 1; decide +kernel⟩ (by decide)) (inv_or (inv_up (d := 2) (inv_U (As := [qv x0]) (t := 3) (owner := "HollowPress$Thing") (xn := ⟨"HollowPress$Thing", "weigh", "(LHollowPress$Trace;)I"⟩) (kX2_weigh a x0) _ (by decide) rfl w_172 w_46 (Or.inr ⟨w_47, cX8_weigh, 2, (some .int), w_48⟩) w_177 w_178 w_170 w_179 ⟨by decide +kernel, by decide +kernel, by show _ = some 1; decide +kernel⟩ (by decide)) (by decide)) (inv_or (inv_up (d := 3) (inv_U (As := [qv x0]) (t := 4) (owner := "HollowPress$Thing") (xn := ⟨"HollowPress$Thing", "weigh", "(LHollowPress$Trace;)I"⟩) (kX3_weigh a x0) _ (by decide) rfl w_172 w_46 (Or.inr ⟨w_47, cX8_weigh, 2, (some .int), w_48⟩) w_180 w_52 w_25 w_53 ⟨by decide +kernel, by decide +kernel, by show _ = some 1; decide +kernel⟩ (by decide)) (by decide)) (inv_U (As := [qv x0]) (t := 5) (owner := "HollowPress$Thing") (xn := ⟨"HollowPress$Thing", "weigh", "(LHollowPress$Trace;)I"⟩) (kX0_weigh a x0) _ (by decide) rfl w_172 w_46 (Or.inr ⟨w_47, cX8_weigh, 2, (some .int), w_48⟩) w_181 w_174 w_175 w_176 ⟨by decide +kernel, by decide +kernel, by show _ = some 1; decide +kernel⟩ (by decide))))
abbrev eX8_mark : Env0 := (RX8, "mark", cX8_mark, 2, (some .int), 4)
def pX8_mark (th : Nat) (a1 : Option Nat) : Prg Int32 :=
    un a1 fun a101 =>
    cl (onT a101 9 (pX9_leave a101 (20 : Int32))) fun _ =>
    cl (or2 th 1 (pX0_weigh th (some a101)) (or2 th 3 (pX2_weigh th (some a101)) (or2 th 4 (pX3_weigh th (some a101)) (onT th 5 (pX0_weigh th (some a101)))))) fun v102 =>
    rt (v102 + (5 : Int32))
set_option maxRecDepth 20000 in
theorem sX8_mark (th : Nat) (a1 : Option Nat) : Sim eX8_mark vI 0 [(0, qv (some th)), (1, qv a1)] [] (pX8_mark th a1) := by
  unfold pX8_mark
  refine sm_aload_n (pc' := 1) dX8_mark_0 rfl rfl ?_
  refine sm_bipush (pc' := 3) (20 : Int32) dX8_mark_1 (by decide) rfl ?_
  rcases a1 with _ | a101
  · exact sm_unN
  refine sm_unS ?_
  refine sm_callv (pc' := 6) (sa := [iv (20 : Int32), qv (some a101)]) (st := []) (iv_X8_7 a101 (20 : Int32)) (Nat.le_of_ble_eq_true rfl) dX8_mark_3 rfl (Nat.le_of_ble_eq_true rfl) (fun _ => ?_)
  refine sm_aload_n (pc' := 7) dX8_mark_6 rfl rfl ?_
  refine sm_aload_n (pc' := 8) dX8_mark_7 rfl rfl ?_
  refine sm_calli (pc' := 11) (sa := [qv (some a101), qv (some th)]) (st := []) (iv_X8_13 th (some a101)) (Nat.le_of_ble_eq_true rfl) dX8_mark_8 rfl (Nat.le_of_ble_eq_true rfl) (fun v102 => ?_)
  refine sm_iconst (pc' := 12) (5 : Int32) dX8_mark_11 (by decide) rfl ?_
  refine sm_iadd (pc' := 13) dX8_mark_12 rfl ?_
  exact sm_ireturn rfl dX8_mark_13
theorem kX8_mark (th : Nat) (a1 : Option Nat) : Callee 4 yX8_mark cX8_mark 2 (some .int) [qv (some th), qv a1] vI (pX8_mark th a1) := callee_ofS [(0, qv (some th)), (1, qv a1)] (by decide +kernel) (Nat.le_of_ble_eq_true rfl) rfl (sX8_mark th a1)
/-! HollowPress$Plate.mark(LHollowPress$Trace;)I -/
set_option maxRecDepth 20000 in
theorem iv_X4_11 (a : Nat) (x0 : Int32) : Inv RX4 1 (.invokevirtual 11) [iv x0, qv (some a)] vU (onT a 9 (pX9_leave a x0)) := inv_V (As := [iv x0]) (t := 9) (kX9_leave a x0) _ (by decide) rfl rfl w_182 w_40 w_41 w_42 w_43 ⟨by decide +kernel, by decide +kernel, by show _ = some 1; decide +kernel⟩ (by decide)
set_option maxRecDepth 20000 in
theorem iv_X4_17 (a : Nat) (x0 : Option Nat) : Inv RX4 5 (.invokespecial 17) [qv x0, qv (some a)] vI (onT a 5 (pX8_mark a x0)) := inv_SU2 (As := [qv x0]) (t := 5) (mid := "HollowPress$EvenPart") (P1 := "HollowPress$Part") (kX8_mark a x0) _ (by decide) rfl w_183 w_184 w_185 w_34 w_29 w_186 w_9 w_187 ⟨by decide +kernel, by show _ = some 1; decide +kernel⟩ (by decide)
abbrev eX4_mark : Env0 := (RX4, "mark", cX4_mark, 2, (some .int), 5)
def pX4_mark (th : Nat) (a1 : Option Nat) : Prg Int32 :=
    un a1 fun a101 =>
    cl (onT a101 9 (pX9_leave a101 (21 : Int32))) fun _ =>
    cl (onT th 5 (pX8_mark th (some a101))) fun v102 =>
    rt ((2 : Int32) * v102)
set_option maxRecDepth 20000 in
theorem sX4_mark (th : Nat) (a1 : Option Nat) : Sim eX4_mark vI 0 [(0, qv (some th)), (1, qv a1)] [] (pX4_mark th a1) := by
  unfold pX4_mark
  refine sm_aload_n (pc' := 1) dX4_mark_0 rfl rfl ?_
  refine sm_bipush (pc' := 3) (21 : Int32) dX4_mark_1 (by decide) rfl ?_
  rcases a1 with _ | a101
  · exact sm_unN
  refine sm_unS ?_
  refine sm_callv (pc' := 6) (sa := [iv (21 : Int32), qv (some a101)]) (st := []) (iv_X4_11 a101 (21 : Int32)) (Nat.le_of_ble_eq_true rfl) dX4_mark_3 rfl (Nat.le_of_ble_eq_true rfl) (fun _ => ?_)
  refine sm_iconst (pc' := 7) (2 : Int32) dX4_mark_6 (by decide) rfl ?_
  refine sm_aload_n (pc' := 8) dX4_mark_7 rfl rfl ?_
  refine sm_aload_n (pc' := 9) dX4_mark_8 rfl rfl ?_
  refine sm_calli (pc' := 12) (sa := [qv (some a101), qv (some th)]) (st := [iv (2 : Int32)]) (iv_X4_17 th (some a101)) (Nat.le_of_ble_eq_true rfl) dX4_mark_9 rfl (Nat.le_of_ble_eq_true rfl) (fun v102 => ?_)
  refine sm_imul (pc' := 13) dX4_mark_12 rfl ?_
  exact sm_ireturn rfl dX4_mark_13
theorem kX4_mark (th : Nat) (a1 : Option Nat) : Callee 5 yX4_mark cX4_mark 2 (some .int) [qv (some th), qv a1] vI (pX4_mark th a1) := callee_ofS [(0, qv (some th)), (1, qv a1)] (by decide +kernel) (Nat.le_of_ble_eq_true rfl) rfl (sX4_mark th a1)
/-! HollowPress$Trace.wipe()V -/
abbrev eX9_wipe : Env0 := (RX9, "wipe", cX9_wipe, 1, none, 0)
def pX9_wipe (th : Nat) : Prg Unit :=
    pI 9 th 1 (0 : Int32) (
    rt ())
set_option maxRecDepth 20000 in
theorem sX9_wipe (th : Nat) : Sim eX9_wipe vU 0 [(0, qv (some th))] [] (pX9_wipe th) := by
  unfold pX9_wipe
  refine sm_aload_n (pc' := 1) dX9_wipe_0 rfl rfl ?_
  refine sm_iconst (pc' := 2) (0 : Int32) dX9_wipe_1 (by decide) rfl ?_
  refine sm_putI (pc' := 5) (gk_X9_15 _ _ _ _ _) ti_9_1 dX9_wipe_2 rfl ?_
  exact sm_return rfl dX9_wipe_5
theorem kX9_wipe (th : Nat) : Callee 0 yX9_wipe cX9_wipe 1 none [qv (some th)] vU (pX9_wipe th) := callee_ofS [(0, qv (some th))] (by decide +kernel) (Nat.le_of_ble_eq_true rfl) rfl (sX9_wipe th)
/-! HollowPress.ask(II)I -/
set_option maxRecDepth 20000 in
theorem iv_X10_53 (x0 : Int32) (x1 : Int32) : Inv RX10 1 (.invokestatic 53) [iv x1, iv x0] vI (pX10_below x0 x1) := inv_S (As := [iv x0, iv x1]) (kX10_below x0 x1) w_188 w_61 w_62 w_63 ⟨by decide +kernel, by decide +kernel, by show _ = some 2; decide +kernel⟩ (by decide)
set_option maxRecDepth 20000 in
theorem iv_X10_130 (a : Nat)  : Inv RX10 1 (.invokevirtual 130) [qv (some a)] vU (onT a 9 (pX9_wipe a )) := inv_V (As := []) (t := 9) (kX9_wipe a ) _ (by decide) rfl rfl w_191 w_192 w_193 w_42 w_194 ⟨by decide +kernel, by decide +kernel, by show _ = some 0; decide +kernel⟩ (by decide)
set_option maxRecDepth 20000 in
theorem iv_X10_58 (a : Nat) (x0 : Int32) : Inv RX10 1 (.invokevirtual 58) [iv x0, qv (some a)] vI (onT a 10 (pX10_found a x0)) := inv_V (As := [iv x0]) (t := 10) (kX10_found a x0) _ (by decide) rfl rfl w_196 w_197 w_198 w_62 w_199 ⟨by decide +kernel, by decide +kernel, by show _ = some 1; decide +kernel⟩ (by decide)
set_option maxRecDepth 20000 in
theorem iv_X10_65 (a : Nat) (x0 : Int32) : Inv RX10 1 (.invokevirtual 65) [iv x0, qv (some a)] vI (onT a 10 (pX10_fine a x0)) := inv_V (As := [iv x0]) (t := 10) (kX10_fine a x0) _ (by decide) rfl rfl w_200 w_201 w_202 w_62 w_203 ⟨by decide +kernel, by decide +kernel, by show _ = some 1; decide +kernel⟩ (by decide)
set_option maxRecDepth 20000 in
theorem iv_X10_137 (a : Nat) (x0 : Option Nat) : Inv RX10 6 (.invokevirtual 137) [qv x0, qv (some a)] vI (or2 a 1 (pX8_mark a x0) (or2 a 3 (pX2_mark a x0) (or2 a 4 (pX8_mark a x0) (onT a 5 (pX4_mark a x0))))) := inv_or (inv_up (d := 5) (inv_U (As := [qv x0]) (t := 1) (owner := "HollowPress$Thing") (xn := ⟨"HollowPress$Thing", "mark", "(LHollowPress$Trace;)I"⟩) (kX8_mark a x0) _ (by decide) rfl w_204 w_205 (Or.inr ⟨w_186, cX8_mark, 2, (some .int), w_187⟩) w_206 w_186 w_9 w_187 ⟨by decide +kernel, by decide +kernel, by show _ = some 1; decide +kernel⟩ (by decide)) (by decide)) (inv_or (inv_up (d := 3) (inv_U (As := [qv x0]) (t := 3) (owner := "HollowPress$Thing") (xn := ⟨"HollowPress$Thing", "mark", "(LHollowPress$Trace;)I"⟩) (kX2_mark a x0) _ (by decide) rfl w_204 w_205 (Or.inr ⟨w_186, cX8_mark, 2, (some .int), w_187⟩) w_207 w_208 w_170 w_209 ⟨by decide +kernel, by decide +kernel, by show _ = some 1; decide +kernel⟩ (by decide)) (by decide)) (inv_or (inv_up (d := 5) (inv_U (As := [qv x0]) (t := 4) (owner := "HollowPress$Thing") (xn := ⟨"HollowPress$Thing", "mark", "(LHollowPress$Trace;)I"⟩) (kX8_mark a x0) _ (by decide) rfl w_204 w_205 (Or.inr ⟨w_186, cX8_mark, 2, (some .int), w_187⟩) w_210 w_186 w_9 w_187 ⟨by decide +kernel, by decide +kernel, by show _ = some 1; decide +kernel⟩ (by decide)) (by decide)) (inv_U (As := [qv x0]) (t := 5) (owner := "HollowPress$Thing") (xn := ⟨"HollowPress$Thing", "mark", "(LHollowPress$Trace;)I"⟩) (kX4_mark a x0) _ (by decide) rfl w_204 w_205 (Or.inr ⟨w_186, cX8_mark, 2, (some .int), w_187⟩) w_211 w_212 w_213 w_214 ⟨by decide +kernel, by decide +kernel, by show _ = some 1; decide +kernel⟩ (by decide))))
set_option maxRecDepth 20000 in
theorem iv_X10_133 (a : Nat) (x0 : Option Nat) : Inv RX10 4 (.invokevirtual 133) [qv x0, qv (some a)] vI (or2 a 1 (pX0_weigh a x0) (or2 a 3 (pX2_weigh a x0) (or2 a 4 (pX3_weigh a x0) (onT a 5 (pX0_weigh a x0))))) := inv_or (inv_U (As := [qv x0]) (t := 1) (owner := "HollowPress$Thing") (xn := ⟨"HollowPress$Thing", "weigh", "(LHollowPress$Trace;)I"⟩) (kX0_weigh a x0) _ (by decide) rfl w_215 w_46 (Or.inr ⟨w_47, cX8_weigh, 2, (some .int), w_48⟩) w_173 w_174 w_175 w_176 ⟨by decide +kernel, by decide +kernel, by show _ = some 1; decide +kernel⟩ (by decide)) (inv_or (inv_up (d := 2) (inv_U (As := [qv x0]) (t := 3) (owner := "HollowPress$Thing") (xn := ⟨"HollowPress$Thing", "weigh", "(LHollowPress$Trace;)I"⟩) (kX2_weigh a x0) _ (by decide) rfl w_215 w_46 (Or.inr ⟨w_47, cX8_weigh, 2, (some .int), w_48⟩) w_177 w_178 w_170 w_179 ⟨by decide +kernel, by decide +kernel, by show _ = some 1; decide +kernel⟩ (by decide)) (by decide)) (inv_or (inv_up (d := 3) (inv_U (As := [qv x0]) (t := 4) (owner := "HollowPress$Thing") (xn := ⟨"HollowPress$Thing", "weigh", "(LHollowPress$Trace;)I"⟩) (kX3_weigh a x0) _ (by decide) rfl w_215 w_46 (Or.inr ⟨w_47, cX8_weigh, 2, (some .int), w_48⟩) w_180 w_52 w_25 w_53 ⟨by decide +kernel, by decide +kernel, by show _ = some 1; decide +kernel⟩ (by decide)) (by decide)) (inv_U (As := [qv x0]) (t := 5) (owner := "HollowPress$Thing") (xn := ⟨"HollowPress$Thing", "weigh", "(LHollowPress$Trace;)I"⟩) (kX0_weigh a x0) _ (by decide) rfl w_215 w_46 (Or.inr ⟨w_47, cX8_weigh, 2, (some .int), w_48⟩) w_181 w_174 w_175 w_176 ⟨by decide +kernel, by decide +kernel, by show _ = some 1; decide +kernel⟩ (by decide))))
abbrev eX10_ask : Env0 := (RX10, "ask", cX10_ask, 4, (some .int), 6)
def pX10_ask (th : Nat) (a1 : Int32) (a2 : Int32) : Prg Int32 :=
    cl (pX10_below a1 (10 : Int32)) fun v101 =>
    (lt (rt (-1000001 : Int32) : Prg Int32) fun k102 =>
    (if v101 = 0 then k102
    else cl (pX10_below a2 (2 : Int32)) fun v103 =>
    (if v103 = 0 then k102
    else gF 10 th 2 fun v104 =>
    un v104 fun a105 =>
    cl (onT a105 9 (pX9_wipe a105)) fun _ =>
    gF 10 th 1 fun v106 =>
    un v106 fun a107 =>
    ldF a107 a1 fun v108 =>
    (nu v108 (cl (onT th 10 (pX10_found th (1 : Int32))) fun v110 =>
    rt v110) fun a109 =>
    (lt (fun (v111 : Int32) => cl (onT th 10 (pX10_fine th v111)) fun v113 =>
    rt v113 : Int32 → Prg Int32) fun k112 =>
    (if a2 = 0 then gF 10 th 2 fun v116 =>
    cl (or2 a109 1 (pX0_weigh a109 v116) (or2 a109 3 (pX2_weigh a109 v116) (or2 a109 4 (pX3_weigh a109 v116) (onT a109 5 (pX0_weigh a109 v116))))) fun v117 =>
    k112 v117
    else gF 10 th 2 fun v114 =>
    cl (or2 a109 1 (pX8_mark a109 v114) (or2 a109 3 (pX2_mark a109 v114) (or2 a109 4 (pX8_mark a109 v114) (onT a109 5 (pX4_mark a109 v114))))) fun v115 =>
    k112 v115))))))
set_option maxRecDepth 20000 in
theorem sX10_ask (th : Nat) (a1 : Int32) (a2 : Int32) : Sim eX10_ask vI 0 [(0, qv (some th)), (1, iv a1), (2, iv a2)] [] (pX10_ask th a1 a2) := by
  unfold pX10_ask
  refine sm_iload_n (pc' := 1) dX10_ask_0 rfl rfl ?_
  refine sm_bipush (pc' := 3) (10 : Int32) dX10_ask_1 (by decide) rfl ?_
  refine sm_calli (pc' := 6) (sa := [iv (10 : Int32), iv a1]) (st := []) (iv_X10_53 a1 (10 : Int32)) (Nat.le_of_ble_eq_true rfl) dX10_ask_3 rfl (Nat.le_of_ble_eq_true rfl) (fun v101 => ?_)
  refine sm_lt (fun k102 => Sim eX10_ask vI 17 [] [] (k102)) ?_ (fun k102 hk102 => ?_)
  · skip
    refine sm_ldc (pc' := 19) (-1000001 : Int32) w_189 dX10_ask_17 rfl ?_
    exact sm_ireturn rfl dX10_ask_19
  · skip
    refine sm_if_eq (pc' := 9) (pc1 := 17) dX10_ask_6 (by decide) rfl (fun _ => ?_) (fun _ => ?_)
    · skip
      refine sm_sub [] rfl ?_
      exact hk102
    · skip
      refine sm_iload_n (pc' := 10) dX10_ask_9 rfl rfl ?_
      refine sm_iconst (pc' := 11) (2 : Int32) dX10_ask_10 (by decide) rfl ?_
      refine sm_calli (pc' := 14) (sa := [iv (2 : Int32), iv a2]) (st := []) (iv_X10_53 a2 (2 : Int32)) (Nat.le_of_ble_eq_true rfl) dX10_ask_11 rfl (Nat.le_of_ble_eq_true rfl) (fun v103 => ?_)
      refine sm_if_ne (pc' := 17) (pc1 := 20) dX10_ask_14 (by decide) rfl (fun _ => ?_) (fun _ => ?_)
      · skip
        refine sm_aload_n (pc' := 21) dX10_ask_20 rfl rfl ?_
        refine sm_getF (pc' := 24) fk_X10_24 yr_10_2 dX10_ask_21 rfl (fun v104 => ?_)
        rcases v104 with _ | a105
        · exact sm_unN
        refine sm_unS ?_
        refine sm_callv (pc' := 27) (sa := [qv (some a105)]) (st := []) (iv_X10_130 a105) (Nat.le_of_ble_eq_true rfl) dX10_ask_24 rfl (Nat.le_of_ble_eq_true rfl) (fun _ => ?_)
        refine sm_aload_n (pc' := 28) dX10_ask_27 rfl rfl ?_
        refine sm_getF (pc' := 31) fk_X10_17 yr_10_1 dX10_ask_28 rfl (fun v106 => ?_)
        refine sm_iload_n (pc' := 32) dX10_ask_31 rfl rfl ?_
        rcases v106 with _ | a107
        · exact sm_unN
        refine sm_unS ?_
        refine sm_aaload (pc' := 33) dX10_ask_32 rfl (fun v108 => ?_)
        refine sm_astore_n (pc' := 34) [(3, qv v108), (0, qv (some th)), (1, iv a1), (2, iv a2)] dX10_ask_33 rfl (Nat.le_of_ble_eq_true rfl) rfl rfl ?_
        refine sm_aload_n (pc' := 35) dX10_ask_34 rfl rfl ?_
        rcases v108 with _ | a109
        · refine sm_nuN ?_
          refine sm_ifnonnullN (pc' := 38) dX10_ask_35 rfl ?_
          refine sm_aload_n (pc' := 39) dX10_ask_38 rfl rfl ?_
          refine sm_iconst (pc' := 40) (1 : Int32) dX10_ask_39 (by decide) rfl ?_
          refine sm_calli (pc' := 43) (sa := [iv (1 : Int32), qv (some th)]) (st := []) (iv_X10_58 th (1 : Int32)) (Nat.le_of_ble_eq_true rfl) dX10_ask_40 rfl (Nat.le_of_ble_eq_true rfl) (fun v110 => ?_)
          exact sm_ireturn rfl dX10_ask_43
        · refine sm_nuS ?_
          refine sm_ifnonnullS (pc' := 44) dX10_ask_35 (by decide) ?_
          refine sm_aload_n (pc' := 45) dX10_ask_44 rfl rfl ?_
          refine sm_iload_n (pc' := 46) dX10_ask_45 rfl rfl ?_
          refine sm_lt (fun k112 => ∀ (v111 : Int32), Sim eX10_ask vI 68 [] [iv v111, qv (some th)] (k112 v111)) ?_ (fun k112 hk112 => ?_)
          · intro v111
            refine sm_calli (pc' := 71) (sa := [iv v111, qv (some th)]) (st := []) (iv_X10_65 th v111) (Nat.le_of_ble_eq_true rfl) dX10_ask_68 rfl (Nat.le_of_ble_eq_true rfl) (fun v113 => ?_)
            exact sm_ireturn rfl dX10_ask_71
          · skip
            refine sm_if_ne (pc' := 49) (pc1 := 60) dX10_ask_46 (by decide) rfl (fun _ => ?_) (fun _ => ?_)
            · skip
              refine sm_aload_n (pc' := 61) dX10_ask_60 rfl rfl ?_
              refine sm_aload_n (pc' := 62) dX10_ask_61 rfl rfl ?_
              refine sm_getF (pc' := 65) fk_X10_24 yr_10_2 dX10_ask_62 rfl (fun v114 => ?_)
              refine sm_calli (pc' := 68) (sa := [qv v114, qv (some a109)]) (st := [qv (some th)]) (iv_X10_137 a109 v114) (Nat.le_of_ble_eq_true rfl) dX10_ask_65 rfl (Nat.le_of_ble_eq_true rfl) (fun v115 => ?_)
              refine sm_sub [] rfl ?_
              exact hk112 v115
            · skip
              refine sm_aload_n (pc' := 50) dX10_ask_49 rfl rfl ?_
              refine sm_aload_n (pc' := 51) dX10_ask_50 rfl rfl ?_
              refine sm_getF (pc' := 54) fk_X10_24 yr_10_2 dX10_ask_51 rfl (fun v116 => ?_)
              refine sm_calli (pc' := 57) (sa := [qv v116, qv (some a109)]) (st := [qv (some th)]) (iv_X10_133 a109 v116) (Nat.le_of_ble_eq_true rfl) dX10_ask_54 rfl (Nat.le_of_ble_eq_true rfl) (fun v117 => ?_)
              refine sm_goto (pc' := 68) dX10_ask_57 (by decide) ?_
              refine sm_sub [] rfl ?_
              exact hk112 v117
      · skip
        refine sm_sub [] rfl ?_
        exact hk102
theorem kX10_ask (th : Nat) (a1 : Int32) (a2 : Int32) : Callee 6 yX10_ask cX10_ask 4 (some .int) [qv (some th), iv a1, iv a2] vI (pX10_ask th a1 a2) := callee_ofS [(0, qv (some th)), (1, iv a1), (2, iv a2)] (by decide +kernel) (Nat.le_of_ble_eq_true rfl) rfl (sX10_ask th a1 a2)
/-! HollowPress$Runners.between(II)I -/
abbrev eX6_between : Env0 := (RX6, "between", cX6_between, 2, (some .int), 0)
def pX6_between (a1 : Int32) (a2 : Int32) : Prg Int32 :=
    (lt (fun (v101 : Int32) => rt v101 : Int32 → Prg Int32) fun k102 =>
    (if a2 ≤ a1 then k102 (0 : Int32)
    else k102 (a2 - a1)))
set_option maxRecDepth 20000 in
theorem sX6_between (a1 : Int32) (a2 : Int32) : Sim eX6_between vI 0 [(0, iv a1), (1, iv a2)] [] (pX6_between a1 a2) := by
  unfold pX6_between
  refine sm_iload_n (pc' := 1) dX6_between_0 rfl rfl ?_
  refine sm_iload_n (pc' := 2) dX6_between_1 rfl rfl ?_
  refine sm_lt (fun k102 => ∀ (v101 : Int32), Sim eX6_between vI 12 [] [iv v101] (k102 v101)) ?_ (fun k102 hk102 => ?_)
  · intro v101
    exact sm_ireturn rfl dX6_between_12
  · skip
    refine sm_icmp_ge (pc' := 5) (pc1 := 11) dX6_between_2 (by decide) rfl (fun _ => ?_) (fun _ => ?_)
    · skip
      refine sm_iconst (pc' := 12) (0 : Int32) dX6_between_11 (by decide) rfl ?_
      refine sm_sub [] rfl ?_
      exact hk102 (0 : Int32)
    · skip
      refine sm_iload_n (pc' := 6) dX6_between_5 rfl rfl ?_
      refine sm_iload_n (pc' := 7) dX6_between_6 rfl rfl ?_
      refine sm_isub (pc' := 8) dX6_between_7 rfl ?_
      refine sm_goto (pc' := 12) dX6_between_8 (by decide) ?_
      refine sm_sub [] rfl ?_
      exact hk102 (a2 - a1)
theorem kX6_between (a1 : Int32) (a2 : Int32) : Callee 0 yX6_between cX6_between 2 (some .int) [iv a1, iv a2] vI (pX6_between a1 a2) := callee_ofS [(0, iv a1), (1, iv a2)] (by decide +kernel) (Nat.le_of_ble_eq_true rfl) rfl (sX6_between a1 a2)
/-! HollowPress$Runners.dragUpTo(II)I -/
set_option maxRecDepth 20000 in
theorem iv_X6_87 (x0 : Int32) (x1 : Int32) : Inv RX6 1 (.invokestatic 87) [iv x1, iv x0] vI (pX10_below x0 x1) := inv_SN (host := "HollowPress") (As := [iv x0, iv x1]) (kX10_below x0 x1) w_217 w_61 w_62 w_63 ⟨by decide +kernel, by decide +kernel, by show _ = some 2; decide +kernel⟩ (by decide)
abbrev eX6_dragUpTo : Env0 := (RX6, "dragUpTo", cX6_dragUpTo, 4, (some .int), 1)
def pX6_dragUpTo (th : Nat) (a1 : Int32) (a2 : Int32) : Prg Int32 :=
    (lt (fun (v101 : Int32) => gF 7 th 0 fun v103 =>
    un v103 fun a104 =>
    ldI a104 a1 fun v105 =>
    cl (pX10_below v105 a1) fun v106 =>
    (lt (fun (v107 : Int32) => rt v107 : Int32 → Prg Int32) fun k108 =>
    (if v106 = 0 then k108 v101
    else gF 7 th 5 fun v109 =>
    gF 7 th 0 fun v110 =>
    un v110 fun a111 =>
    ldI a111 a1 fun v112 =>
    un v109 fun a113 =>
    ldI a113 v112 fun v114 =>
    k108 (v114 + v101))) : Int32 → Prg Int32) fun k102 =>
    (if a2 ≤ 0 then k102 (0 : Int32)
    else gF 7 th 1 fun v115 =>
    un v115 fun a116 =>
    ldI a116 a1 fun v117 =>
    dv (v117 * (5000 : Int32)) ((a2 * a2) * a2) fun v118 =>
    k102 v118))
set_option maxRecDepth 20000 in
theorem sX6_dragUpTo (th : Nat) (a1 : Int32) (a2 : Int32) : Sim eX6_dragUpTo vI 0 [(0, qv (some th)), (1, iv a1), (2, iv a2)] [] (pX6_dragUpTo th a1 a2) := by
  unfold pX6_dragUpTo
  refine sm_iload_n (pc' := 1) dX6_dragUpTo_0 rfl rfl ?_
  refine sm_lt (fun k102 => ∀ (v101 : Int32), Sim eX6_dragUpTo vI 24 [(0, qv (some th)), (1, iv a1)] [iv v101] (k102 v101)) ?_ (fun k102 hk102 => ?_)
  · intro v101
    refine sm_istore_n (pc' := 25) [(3, iv v101), (0, qv (some th)), (1, iv a1)] dX6_dragUpTo_24 rfl (Nat.le_of_ble_eq_true rfl) rfl rfl ?_
    refine sm_aload_n (pc' := 26) dX6_dragUpTo_25 rfl rfl ?_
    refine sm_getF (pc' := 29) fk_X6_9 yr_7_0 dX6_dragUpTo_26 rfl (fun v103 => ?_)
    refine sm_iload_n (pc' := 30) dX6_dragUpTo_29 rfl rfl ?_
    rcases v103 with _ | a104
    · exact sm_unN
    refine sm_unS ?_
    refine sm_iaload (pc' := 31) dX6_dragUpTo_30 rfl (fun v105 => ?_)
    refine sm_iload_n (pc' := 32) dX6_dragUpTo_31 rfl rfl ?_
    refine sm_calli (pc' := 35) (sa := [iv a1, iv v105]) (st := []) (iv_X6_87 v105 a1) (Nat.le_of_ble_eq_true rfl) dX6_dragUpTo_32 rfl (Nat.le_of_ble_eq_true rfl) (fun v106 => ?_)
    refine sm_lt (fun k108 => ∀ (v107 : Int32), Sim eX6_dragUpTo vI 55 [] [iv v107] (k108 v107)) ?_ (fun k108 hk108 => ?_)
    · intro v107
      exact sm_ireturn rfl dX6_dragUpTo_55
    · skip
      refine sm_if_eq (pc' := 38) (pc1 := 54) dX6_dragUpTo_35 (by decide) rfl (fun _ => ?_) (fun _ => ?_)
      · skip
        refine sm_iload_n (pc' := 55) dX6_dragUpTo_54 rfl rfl ?_
        refine sm_sub [] rfl ?_
        exact hk108 v101
      · skip
        refine sm_aload_n (pc' := 39) dX6_dragUpTo_38 rfl rfl ?_
        refine sm_getF (pc' := 42) fk_X6_31 yr_7_5 dX6_dragUpTo_39 rfl (fun v109 => ?_)
        refine sm_aload_n (pc' := 43) dX6_dragUpTo_42 rfl rfl ?_
        refine sm_getF (pc' := 46) fk_X6_9 yr_7_0 dX6_dragUpTo_43 rfl (fun v110 => ?_)
        refine sm_iload_n (pc' := 47) dX6_dragUpTo_46 rfl rfl ?_
        rcases v110 with _ | a111
        · exact sm_unN
        refine sm_unS ?_
        refine sm_iaload (pc' := 48) dX6_dragUpTo_47 rfl (fun v112 => ?_)
        rcases v109 with _ | a113
        · exact sm_unN
        refine sm_unS ?_
        refine sm_iaload (pc' := 49) dX6_dragUpTo_48 rfl (fun v114 => ?_)
        refine sm_iload_n (pc' := 50) dX6_dragUpTo_49 rfl rfl ?_
        refine sm_iadd (pc' := 51) dX6_dragUpTo_50 rfl ?_
        refine sm_goto (pc' := 55) dX6_dragUpTo_51 (by decide) ?_
        refine sm_sub [] rfl ?_
        exact hk108 (v114 + v101)
  · skip
    refine sm_if_le (pc' := 4) (pc1 := 23) dX6_dragUpTo_1 (by decide) rfl (fun _ => ?_) (fun _ => ?_)
    · skip
      refine sm_iconst (pc' := 24) (0 : Int32) dX6_dragUpTo_23 (by decide) rfl ?_
      refine sm_sub [0, 1] rfl ?_
      exact hk102 (0 : Int32)
    · skip
      refine sm_aload_n (pc' := 5) dX6_dragUpTo_4 rfl rfl ?_
      refine sm_getF (pc' := 8) fk_X6_15 yr_7_1 dX6_dragUpTo_5 rfl (fun v115 => ?_)
      refine sm_iload_n (pc' := 9) dX6_dragUpTo_8 rfl rfl ?_
      rcases v115 with _ | a116
      · exact sm_unN
      refine sm_unS ?_
      refine sm_iaload (pc' := 10) dX6_dragUpTo_9 rfl (fun v117 => ?_)
      refine sm_sipush (pc' := 13) (5000 : Int32) dX6_dragUpTo_10 (by decide) rfl ?_
      refine sm_imul (pc' := 14) dX6_dragUpTo_13 rfl ?_
      refine sm_iload_n (pc' := 15) dX6_dragUpTo_14 rfl rfl ?_
      refine sm_iload_n (pc' := 16) dX6_dragUpTo_15 rfl rfl ?_
      refine sm_imul (pc' := 17) dX6_dragUpTo_16 rfl ?_
      refine sm_iload_n (pc' := 18) dX6_dragUpTo_17 rfl rfl ?_
      refine sm_imul (pc' := 19) dX6_dragUpTo_18 rfl ?_
      refine sm_idiv (pc' := 20) dX6_dragUpTo_19 rfl (fun _ v118 _ => ?_)
      refine sm_goto (pc' := 24) dX6_dragUpTo_20 (by decide) ?_
      refine sm_sub [0, 1] rfl ?_
      exact hk102 v118
theorem kX6_dragUpTo (th : Nat) (a1 : Int32) (a2 : Int32) : Callee 1 yX6_dragUpTo cX6_dragUpTo 4 (some .int) [qv (some th), iv a1, iv a2] vI (pX6_dragUpTo th a1 a2) := callee_ofS [(0, qv (some th)), (1, iv a1), (2, iv a2)] (by decide +kernel) (Nat.le_of_ble_eq_true rfl) rfl (sX6_dragUpTo th a1 a2)
/-! HollowPress$Runners.measure()V -/
set_option maxRecDepth 20000 in
theorem iv_X6_84 (a : Nat) (x0 : Int32) (x1 : Int32) : Inv RX6 2 (.invokevirtual 84) [iv x1, iv x0, qv (some a)] vI (onT a 7 (pX6_dragUpTo a x0 x1)) := inv_V (As := [iv x0, iv x1]) (t := 7) (kX6_dragUpTo a x0 x1) _ (by decide) rfl rfl w_222 w_223 w_224 w_225 w_226 ⟨by decide +kernel, by decide +kernel, by show _ = some 2; decide +kernel⟩ (by decide)
abbrev eX6_measure : Env0 := (RX6, "measure", cX6_measure, 2, none, 2)
def pX6_measure_L2 (th : Nat) (k102 : Prg Unit) : Nat → Int32 → Prg Unit
  | 0, _ => fl
  | n + 1, v101 =>
    gI 7 th 4 fun v103 =>
    (if v103 ≤ v101 then k102
    else gF 7 th 5 fun v104 =>
    gF 7 th 2 fun v105 =>
    un v105 fun a106 =>
    ldI a106 v101 fun v107 =>
    cl (onT th 7 (pX6_dragUpTo th v101 v107)) fun v108 =>
    un v104 fun a109 =>
    stI a109 v101 v108 (
    pX6_measure_L2 th k102 n (v101 + (1 : Int32))))
def pX6_measure (th : Nat) : Prg Unit :=
    pX6_measure_L2 th (rt ()) FL (0 : Int32)
set_option maxRecDepth 20000 in
theorem sX6_measure_L2 (th : Nat) (k102 : Prg Unit) (hk102 : Sim eX6_measure vU 33 [] [] (k102)) : ∀ (n : Nat), ∀ (v101 : Int32), Sim eX6_measure vU 2 [(0, qv (some th)), (1, iv v101)] [] (pX6_measure_L2 th k102 n v101) := by
  intro n
  induction n with
  | zero =>
    intros
    exact sm_fl
  | succ n ih =>
    intro v101
    unfold pX6_measure_L2
    refine sm_iload_n (pc' := 3) dX6_measure_2 rfl rfl ?_
    refine sm_aload_n (pc' := 4) dX6_measure_3 rfl rfl ?_
    refine sm_getI (pc' := 7) fk_X6_27 nr_7_4 dX6_measure_4 rfl (fun v103 => ?_)
    refine sm_icmp_ge (pc' := 10) (pc1 := 33) dX6_measure_7 (by decide) rfl (fun _ => ?_) (fun _ => ?_)
    · skip
      refine sm_sub [] rfl ?_
      exact hk102
    · skip
      refine sm_aload_n (pc' := 11) dX6_measure_10 rfl rfl ?_
      refine sm_getF (pc' := 14) fk_X6_31 yr_7_5 dX6_measure_11 rfl (fun v104 => ?_)
      refine sm_iload_n (pc' := 15) dX6_measure_14 rfl rfl ?_
      refine sm_aload_n (pc' := 16) dX6_measure_15 rfl rfl ?_
      refine sm_iload_n (pc' := 17) dX6_measure_16 rfl rfl ?_
      refine sm_aload_n (pc' := 18) dX6_measure_17 rfl rfl ?_
      refine sm_getF (pc' := 21) fk_X6_18 yr_7_2 dX6_measure_18 rfl (fun v105 => ?_)
      refine sm_iload_n (pc' := 22) dX6_measure_21 rfl rfl ?_
      rcases v105 with _ | a106
      · exact sm_unN
      refine sm_unS ?_
      refine sm_iaload (pc' := 23) dX6_measure_22 rfl (fun v107 => ?_)
      refine sm_calli (pc' := 26) (sa := [iv v107, iv v101, qv (some th)]) (st := [iv v101, qv v104]) (iv_X6_84 th v101 v107) (Nat.le_of_ble_eq_true rfl) dX6_measure_23 rfl (Nat.le_of_ble_eq_true rfl) (fun v108 => ?_)
      rcases v104 with _ | a109
      · exact sm_unN
      refine sm_unS ?_
      refine sm_iastore (pc' := 27) dX6_measure_26 rfl ?_
      refine sm_iinc (pc' := 30) (v101 + (1 : Int32)) [(1, iv (v101 + (1 : Int32))), (0, qv (some th))] dX6_measure_27 rfl rfl (Nat.le_of_ble_eq_true rfl) rfl rfl ?_
      refine sm_goto (pc' := 2) dX6_measure_30 (by decide) ?_
      refine sm_sub [1, 0] rfl ?_
      exact ih (v101 + (1 : Int32))
set_option maxRecDepth 20000 in
theorem sX6_measure (th : Nat) : Sim eX6_measure vU 0 [(0, qv (some th))] [] (pX6_measure th) := by
  unfold pX6_measure
  refine sm_iconst (pc' := 1) (0 : Int32) dX6_measure_0 (by decide) rfl ?_
  refine sm_istore_n (pc' := 2) [(1, iv (0 : Int32)), (0, qv (some th))] dX6_measure_1 rfl (Nat.le_of_ble_eq_true rfl) rfl rfl ?_
  refine sm_sub [1, 0] rfl ?_
  refine sX6_measure_L2 th _ ?_ FL (0 : Int32)
  · skip
    exact sm_return rfl dX6_measure_33
theorem kX6_measure (th : Nat) : Callee 2 yX6_measure cX6_measure 2 none [qv (some th)] vU (pX6_measure th) := callee_ofS [(0, qv (some th))] (by decide +kernel) (Nat.le_of_ble_eq_true rfl) rfl (sX6_measure th)
/-! HollowPress$Runners.spread()I -/
set_option maxRecDepth 20000 in
theorem iv_X6_54 (a : Nat)  : Inv RX6 3 (.invokevirtual 54) [qv (some a)] vU (onT a 7 (pX6_measure a )) := inv_V (As := []) (t := 7) (kX6_measure a ) _ (by decide) rfl rfl w_227 w_228 w_229 w_225 w_230 ⟨by decide +kernel, by decide +kernel, by show _ = some 0; decide +kernel⟩ (by decide)
set_option maxRecDepth 20000 in
theorem iv_X6_71 (x0 : Int32) (x1 : Int32) : Inv RX6 1 (.invokestatic 71) [iv x1, iv x0] vI (pX6_between x0 x1) := inv_S (As := [iv x0, iv x1]) (kX6_between x0 x1) w_236 w_237 w_225 w_238 ⟨by decide +kernel, by decide +kernel, by show _ = some 2; decide +kernel⟩ (by decide)
abbrev eX6_spread : Env0 := (RX6, "spread", cX6_spread, 5, (some .int), 3)
def pX6_spread_L11 (th : Nat) (k104 : Int32 → Int32 → Prg Int32) : Nat → Int32 → Int32 → Int32 → Prg Int32
  | 0, _, _, _ => fl
  | n + 1, v101, v102, v103 =>
    gI 7 th 4 fun v105 =>
    (if v105 ≤ v103 then k104 v101 v102
    else gF 7 th 3 fun v106 =>
    un v106 fun a107 =>
    ldF a107 v103 fun v108 =>
    (lt (fun (v109 : Int32) (v110 : Int32) => pX6_spread_L11 th k104 n v109 v110 (v103 + (1 : Int32)) : Int32 → Int32 → Prg Int32) fun k111 =>
    (nu v108 (k111 v101 v102) fun a112 =>
    gF 7 th 5 fun v113 =>
    un v113 fun a114 =>
    ldI a114 v103 fun v115 =>
    gI 4 a112 6 fun v116 =>
    gF 7 th 5 fun v117 =>
    un v117 fun a118 =>
    ldI a118 v103 fun v119 =>
    gI 4 a112 6 fun v120 =>
    k111 (mn v101 (v115 + v116)) (mx v102 (v119 + v120)))))
def pX6_spread (th : Nat) : Prg Int32 :=
    cl (onT th 7 (pX6_measure th)) fun _ =>
    pX6_spread_L11 th (fun (v121 : Int32) (v122 : Int32) => cl (pX6_between v121 v122) fun v123 =>
    rt v123) FL (2147483647 : Int32) (0 : Int32) (0 : Int32)
set_option maxRecDepth 20000 in
theorem sX6_spread_L11 (th : Nat) (k104 : Int32 → Int32 → Prg Int32) (hk104 : ∀ (q1 : Int32) (q2 : Int32), Sim eX6_spread vI 75 [(1, iv q1), (2, iv q2)] [] (k104 q1 q2)) : ∀ (n : Nat), ∀ (v101 : Int32) (v102 : Int32) (v103 : Int32), Sim eX6_spread vI 11 [(0, qv (some th)), (1, iv v101), (2, iv v102), (3, iv v103)] [] (pX6_spread_L11 th k104 n v101 v102 v103) := by
  intro n
  induction n with
  | zero =>
    intros
    exact sm_fl
  | succ n ih =>
    intro v101 v102 v103
    unfold pX6_spread_L11
    refine sm_iload_n (pc' := 12) dX6_spread_11 rfl rfl ?_
    refine sm_aload_n (pc' := 13) dX6_spread_12 rfl rfl ?_
    refine sm_getI (pc' := 16) fk_X6_27 nr_7_4 dX6_spread_13 rfl (fun v105 => ?_)
    refine sm_icmp_ge (pc' := 19) (pc1 := 75) dX6_spread_16 (by decide) rfl (fun _ => ?_) (fun _ => ?_)
    · skip
      refine sm_sub [1, 2] rfl ?_
      exact hk104 v101 v102
    · skip
      refine sm_aload_n (pc' := 20) dX6_spread_19 rfl rfl ?_
      refine sm_getF (pc' := 23) fk_X6_23 yr_7_3 dX6_spread_20 rfl (fun v106 => ?_)
      refine sm_iload_n (pc' := 24) dX6_spread_23 rfl rfl ?_
      rcases v106 with _ | a107
      · exact sm_unN
      refine sm_unS ?_
      refine sm_aaload (pc' := 25) dX6_spread_24 rfl (fun v108 => ?_)
      refine sm_astore (pc' := 27) [(4, qv v108), (0, qv (some th)), (1, iv v101), (2, iv v102), (3, iv v103)] dX6_spread_25  (Nat.le_of_ble_eq_true rfl) rfl rfl ?_
      refine sm_aload (pc' := 29) dX6_spread_27 rfl rfl ?_
      refine sm_lt (fun k111 => ∀ (v109 : Int32) (v110 : Int32), Sim eX6_spread vI 69 [(0, qv (some th)), (1, iv v109), (2, iv v110), (3, iv v103)] [] (k111 v109 v110)) ?_ (fun k111 hk111 => ?_)
      · intro v109 v110
        refine sm_iinc (pc' := 72) (v103 + (1 : Int32)) [(3, iv (v103 + (1 : Int32))), (0, qv (some th)), (1, iv v109), (2, iv v110)] dX6_spread_69 rfl rfl (Nat.le_of_ble_eq_true rfl) rfl rfl ?_
        refine sm_goto (pc' := 11) dX6_spread_72 (by decide) ?_
        refine sm_sub [1, 2, 3, 0] rfl ?_
        exact ih v109 v110 (v103 + (1 : Int32))
      · skip
        rcases v108 with _ | a112
        · refine sm_nuN ?_
          refine sm_ifnonnullN (pc' := 32) dX6_spread_29 rfl ?_
          refine sm_goto (pc' := 69) dX6_spread_32 (by decide) ?_
          refine sm_sub [1, 2, 3, 4] rfl ?_
          exact hk111 v101 v102
        · refine sm_nuS ?_
          refine sm_ifnonnullS (pc' := 35) dX6_spread_29 (by decide) ?_
          refine sm_iload_n (pc' := 36) dX6_spread_35 rfl rfl ?_
          refine sm_aload_n (pc' := 37) dX6_spread_36 rfl rfl ?_
          refine sm_getF (pc' := 40) fk_X6_31 yr_7_5 dX6_spread_37 rfl (fun v113 => ?_)
          refine sm_iload_n (pc' := 41) dX6_spread_40 rfl rfl ?_
          rcases v113 with _ | a114
          · exact sm_unN
          refine sm_unS ?_
          refine sm_iaload (pc' := 42) dX6_spread_41 rfl (fun v115 => ?_)
          refine sm_aload (pc' := 44) dX6_spread_42 rfl rfl ?_
          refine sm_getI (pc' := 47) fk_X6_58 nr_4_6 dX6_spread_44 rfl (fun v116 => ?_)
          refine sm_iadd (pc' := 48) dX6_spread_47 rfl ?_
          refine sm_mmin (pc' := 51) w_234 w_95 w_77 w_96 dX6_spread_48 (by decide) (Nat.le_of_ble_eq_true rfl) rfl ?_
          refine sm_istore_n (pc' := 52) [(1, iv (mn v101 (v115 + v116))), (4, qv (some a112)), (0, qv (some th)), (2, iv v102), (3, iv v103)] dX6_spread_51 rfl (Nat.le_of_ble_eq_true rfl) rfl rfl ?_
          refine sm_iload_n (pc' := 53) dX6_spread_52 rfl rfl ?_
          refine sm_aload_n (pc' := 54) dX6_spread_53 rfl rfl ?_
          refine sm_getF (pc' := 57) fk_X6_31 yr_7_5 dX6_spread_54 rfl (fun v117 => ?_)
          refine sm_iload_n (pc' := 58) dX6_spread_57 rfl rfl ?_
          rcases v117 with _ | a118
          · exact sm_unN
          refine sm_unS ?_
          refine sm_iaload (pc' := 59) dX6_spread_58 rfl (fun v119 => ?_)
          refine sm_aload (pc' := 61) dX6_spread_59 rfl rfl ?_
          refine sm_getI (pc' := 64) fk_X6_58 nr_4_6 dX6_spread_61 rfl (fun v120 => ?_)
          refine sm_iadd (pc' := 65) dX6_spread_64 rfl ?_
          refine sm_mmax (pc' := 68) w_235 w_76 w_77 w_78 dX6_spread_65 (by decide) (Nat.le_of_ble_eq_true rfl) rfl ?_
          refine sm_istore_n (pc' := 69) [(2, iv (mx v102 (v119 + v120))), (1, iv (mn v101 (v115 + v116))), (4, qv (some a112)), (0, qv (some th)), (3, iv v103)] dX6_spread_68 rfl (Nat.le_of_ble_eq_true rfl) rfl rfl ?_
          refine sm_sub [3, 1, 0, 4] rfl ?_
          exact hk111 (mn v101 (v115 + v116)) (mx v102 (v119 + v120))
set_option maxRecDepth 20000 in
theorem sX6_spread (th : Nat) : Sim eX6_spread vI 0 [(0, qv (some th))] [] (pX6_spread th) := by
  unfold pX6_spread
  refine sm_aload_n (pc' := 1) dX6_spread_0 rfl rfl ?_
  refine sm_callv (pc' := 4) (sa := [qv (some th)]) (st := []) (iv_X6_54 th) (Nat.le_of_ble_eq_true rfl) dX6_spread_1 rfl (Nat.le_of_ble_eq_true rfl) (fun _ => ?_)
  refine sm_ldc (pc' := 6) (2147483647 : Int32) w_231 dX6_spread_4 rfl ?_
  refine sm_istore_n (pc' := 7) [(1, iv (2147483647 : Int32)), (0, qv (some th))] dX6_spread_6 rfl (Nat.le_of_ble_eq_true rfl) rfl rfl ?_
  refine sm_iconst (pc' := 8) (0 : Int32) dX6_spread_7 (by decide) rfl ?_
  refine sm_istore_n (pc' := 9) [(2, iv (0 : Int32)), (1, iv (2147483647 : Int32)), (0, qv (some th))] dX6_spread_8 rfl (Nat.le_of_ble_eq_true rfl) rfl rfl ?_
  refine sm_iconst (pc' := 10) (0 : Int32) dX6_spread_9 (by decide) rfl ?_
  refine sm_istore_n (pc' := 11) [(3, iv (0 : Int32)), (2, iv (0 : Int32)), (1, iv (2147483647 : Int32)), (0, qv (some th))] dX6_spread_10 rfl (Nat.le_of_ble_eq_true rfl) rfl rfl ?_
  refine sm_sub [3, 2, 1, 0] rfl ?_
  refine sX6_spread_L11 th _ ?_ FL (2147483647 : Int32) (0 : Int32) (0 : Int32)
  · intro v121 v122
    refine sm_iload_n (pc' := 76) dX6_spread_75 rfl rfl ?_
    refine sm_iload_n (pc' := 77) dX6_spread_76 rfl rfl ?_
    refine sm_calli (pc' := 80) (sa := [iv v122, iv v121]) (st := []) (iv_X6_71 v121 v122) (Nat.le_of_ble_eq_true rfl) dX6_spread_77 rfl (Nat.le_of_ble_eq_true rfl) (fun v123 => ?_)
    exact sm_ireturn rfl dX6_spread_80
theorem kX6_spread (th : Nat) : Callee 3 yX6_spread cX6_spread 5 (some .int) [qv (some th)] vI (pX6_spread th) := callee_ofS [(0, qv (some th))] (by decide +kernel) (Nat.le_of_ble_eq_true rfl) rfl (sX6_spread th)
