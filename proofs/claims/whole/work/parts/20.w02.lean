/-! HollowPress$Part.thickness(I)I -/
set_option maxRecDepth 20000 in
theorem iv_X3_57 (x0 : Int32) (x1 : Int32) : Inv RX3 1 (.invokestatic 57) [iv x1, iv x0] vI (pX10_below x0 x1) := inv_SN (host := "HollowPress") (As := [iv x0, iv x1]) (kX10_below x0 x1) w_85 w_61 w_62 w_63 ⟨by decide +kernel, by decide +kernel, by show _ = some 2; decide +kernel⟩ (by decide)
abbrev eX3_thickness : Env0 := (RX3, "thickness", cX3_thickness, 2, (some .int), 1)
def pX3_thickness (th : Nat) (a1 : Int32) : Prg Int32 :=
    gF 4 th 2 fun v101 =>
    un v101 fun a102 =>
    ln a102 fun v103 =>
    cl (pX10_below a1 v103) fun v104 =>
    (lt (fun (v105 : Int32) => rt v105 : Int32 → Prg Int32) fun k106 =>
    (if v104 = 0 then k106 (0 : Int32)
    else gF 4 th 2 fun v107 =>
    un v107 fun a108 =>
    ldI a108 a1 fun v109 =>
    k106 v109))
set_option maxRecDepth 20000 in
theorem sX3_thickness (th : Nat) (a1 : Int32) : Sim eX3_thickness vI 0 [(0, qv (some th)), (1, iv a1)] [] (pX3_thickness th a1) := by
  unfold pX3_thickness
  refine sm_iload_n (pc' := 1) dX3_thickness_0 rfl rfl ?_
  refine sm_aload_n (pc' := 2) dX3_thickness_1 rfl rfl ?_
  refine sm_getF (pc' := 5) fk_X3_36 yr_4_2 dX3_thickness_2 rfl (fun v101 => ?_)
  rcases v101 with _ | a102
  · exact sm_unN
  refine sm_unS ?_
  refine sm_alen (pc' := 6) dX3_thickness_5 rfl (fun v103 => ?_)
  refine sm_calli (pc' := 9) (sa := [iv v103, iv a1]) (st := []) (iv_X3_57 a1 v103) (Nat.le_of_ble_eq_true rfl) dX3_thickness_6 rfl (Nat.le_of_ble_eq_true rfl) (fun v104 => ?_)
  refine sm_lt (fun k106 => ∀ (v105 : Int32), Sim eX3_thickness vI 22 [] [iv v105] (k106 v105)) ?_ (fun k106 hk106 => ?_)
  · intro v105
    exact sm_ireturn rfl dX3_thickness_22
  · skip
    refine sm_if_eq (pc' := 12) (pc1 := 21) dX3_thickness_9 (by decide) rfl (fun _ => ?_) (fun _ => ?_)
    · skip
      refine sm_iconst (pc' := 22) (0 : Int32) dX3_thickness_21 (by decide) rfl ?_
      refine sm_sub [] rfl ?_
      exact hk106 (0 : Int32)
    · skip
      refine sm_aload_n (pc' := 13) dX3_thickness_12 rfl rfl ?_
      refine sm_getF (pc' := 16) fk_X3_36 yr_4_2 dX3_thickness_13 rfl (fun v107 => ?_)
      refine sm_iload_n (pc' := 17) dX3_thickness_16 rfl rfl ?_
      rcases v107 with _ | a108
      · exact sm_unN
      refine sm_unS ?_
      refine sm_iaload (pc' := 18) dX3_thickness_17 rfl (fun v109 => ?_)
      refine sm_goto (pc' := 22) dX3_thickness_18 (by decide) ?_
      refine sm_sub [] rfl ?_
      exact hk106 v109
theorem kX3_thickness (th : Nat) (a1 : Int32) : Callee 1 yX3_thickness cX3_thickness 2 (some .int) [qv (some th), iv a1] vI (pX3_thickness th a1) := callee_ofS [(0, qv (some th)), (1, iv a1)] (by decide +kernel) (Nat.le_of_ble_eq_true rfl) rfl (sX3_thickness th a1)
/-! HollowPress$Part.drag(I)I -/
set_option maxRecDepth 20000 in
theorem iv_X3_61 (a : Nat) (x0 : Int32) : Inv RX3 2 (.invokevirtual 61) [iv x0, qv (some a)] vI (or2 a 4 (pX3_thickness a x0) (or2 a 1 (pX3_thickness a x0) (onT a 5 (pX3_thickness a x0)))) := inv_or (inv_V (As := [iv x0]) (t := 4) (kX3_thickness a x0) _ (by decide) rfl rfl w_86 w_87 w_88 w_25 w_89 ⟨by decide +kernel, by decide +kernel, by show _ = some 1; decide +kernel⟩ (by decide)) (inv_or (inv_U (As := [iv x0]) (t := 1) (owner := "HollowPress$Part") (xn := ⟨"HollowPress$Part", "thickness", "(I)I"⟩) (kX3_thickness a x0) _ (by decide) rfl w_86 w_90 (Or.inr ⟨w_87, cX3_thickness, 2, (some .int), w_89⟩) w_91 w_87 w_25 w_89 ⟨by decide +kernel, by decide +kernel, by show _ = some 1; decide +kernel⟩ (by decide)) (inv_U (As := [iv x0]) (t := 5) (owner := "HollowPress$Part") (xn := ⟨"HollowPress$Part", "thickness", "(I)I"⟩) (kX3_thickness a x0) _ (by decide) rfl w_86 w_90 (Or.inr ⟨w_87, cX3_thickness, 2, (some .int), w_89⟩) w_92 w_87 w_25 w_89 ⟨by decide +kernel, by decide +kernel, by show _ = some 1; decide +kernel⟩ (by decide)))
abbrev eX3_drag : Env0 := (RX3, "drag", cX3_drag, 3, (some .int), 2)
def pX3_drag (th : Nat) (a1 : Int32) : Prg Int32 :=
    cl (or2 th 4 (pX3_thickness th a1) (or2 th 1 (pX3_thickness th a1) (onT th 5 (pX3_thickness th a1)))) fun v101 =>
    (lt (fun (v102 : Int32) => rt v102 : Int32 → Prg Int32) fun k103 =>
    (if v101 ≤ 0 then k103 (0 : Int32)
    else dv (5000 : Int32) ((v101 * v101) * v101) fun v104 =>
    k103 v104))
set_option maxRecDepth 20000 in
theorem sX3_drag (th : Nat) (a1 : Int32) : Sim eX3_drag vI 0 [(0, qv (some th)), (1, iv a1)] [] (pX3_drag th a1) := by
  unfold pX3_drag
  refine sm_aload_n (pc' := 1) dX3_drag_0 rfl rfl ?_
  refine sm_iload_n (pc' := 2) dX3_drag_1 rfl rfl ?_
  refine sm_calli (pc' := 5) (sa := [iv a1, qv (some th)]) (st := []) (iv_X3_61 th a1) (Nat.le_of_ble_eq_true rfl) dX3_drag_2 rfl (Nat.le_of_ble_eq_true rfl) (fun v101 => ?_)
  refine sm_istore_n (pc' := 6) [(2, iv v101), (0, qv (some th)), (1, iv a1)] dX3_drag_5 rfl (Nat.le_of_ble_eq_true rfl) rfl rfl ?_
  refine sm_iload_n (pc' := 7) dX3_drag_6 rfl rfl ?_
  refine sm_lt (fun k103 => ∀ (v102 : Int32), Sim eX3_drag vI 23 [] [iv v102] (k103 v102)) ?_ (fun k103 hk103 => ?_)
  · intro v102
    exact sm_ireturn rfl dX3_drag_23
  · skip
    refine sm_if_le (pc' := 10) (pc1 := 22) dX3_drag_7 (by decide) rfl (fun _ => ?_) (fun _ => ?_)
    · skip
      refine sm_iconst (pc' := 23) (0 : Int32) dX3_drag_22 (by decide) rfl ?_
      refine sm_sub [] rfl ?_
      exact hk103 (0 : Int32)
    · skip
      refine sm_sipush (pc' := 13) (5000 : Int32) dX3_drag_10 (by decide) rfl ?_
      refine sm_iload_n (pc' := 14) dX3_drag_13 rfl rfl ?_
      refine sm_iload_n (pc' := 15) dX3_drag_14 rfl rfl ?_
      refine sm_imul (pc' := 16) dX3_drag_15 rfl ?_
      refine sm_iload_n (pc' := 17) dX3_drag_16 rfl rfl ?_
      refine sm_imul (pc' := 18) dX3_drag_17 rfl ?_
      refine sm_idiv (pc' := 19) dX3_drag_18 rfl (fun _ v104 _ => ?_)
      refine sm_goto (pc' := 23) dX3_drag_19 (by decide) ?_
      refine sm_sub [] rfl ?_
      exact hk103 v104
theorem kX3_drag (th : Nat) (a1 : Int32) : Callee 2 yX3_drag cX3_drag 3 (some .int) [qv (some th), iv a1] vI (pX3_drag th a1) := callee_ofS [(0, qv (some th)), (1, iv a1)] (by decide +kernel) (Nat.le_of_ble_eq_true rfl) rfl (sX3_drag th a1)
/-! HollowPress$Flow.layOut(LHollowPress$Part;)V -/
set_option maxRecDepth 20000 in
theorem iv_X1_116 (a : Nat) (x0 : Int32) : Inv RX1 3 (.invokevirtual 116) [iv x0, qv (some a)] vI (or2 a 4 (pX3_drag a x0) (or2 a 1 (pX3_drag a x0) (onT a 5 (pX3_drag a x0)))) := inv_or (inv_V (As := [iv x0]) (t := 4) (kX3_drag a x0) _ (by decide) rfl rfl w_97 w_98 w_99 w_25 w_100 ⟨by decide +kernel, by decide +kernel, by show _ = some 1; decide +kernel⟩ (by decide)) (inv_or (inv_U (As := [iv x0]) (t := 1) (owner := "HollowPress$Part") (xn := ⟨"HollowPress$Part", "drag", "(I)I"⟩) (kX3_drag a x0) _ (by decide) rfl w_97 w_101 (Or.inr ⟨w_98, cX3_drag, 3, (some .int), w_100⟩) w_102 w_98 w_25 w_100 ⟨by decide +kernel, by decide +kernel, by show _ = some 1; decide +kernel⟩ (by decide)) (inv_U (As := [iv x0]) (t := 5) (owner := "HollowPress$Part") (xn := ⟨"HollowPress$Part", "drag", "(I)I"⟩) (kX3_drag a x0) _ (by decide) rfl w_97 w_101 (Or.inr ⟨w_98, cX3_drag, 3, (some .int), w_100⟩) w_103 w_98 w_25 w_100 ⟨by decide +kernel, by decide +kernel, by show _ = some 1; decide +kernel⟩ (by decide)))
set_option maxRecDepth 20000 in
theorem iv_X1_125 (a : Nat) (x0 : Int32) (x1 : Int32) (x2 : Int32) (x3 : Int32) : Inv RX1 2 (.invokevirtual 125) [iv x3, iv x2, iv x1, iv x0, qv (some a)] vU (onT a 2 (pX1_join a x0 x1 x2 x3)) := inv_V (As := [iv x0, iv x1, iv x2, iv x3]) (t := 2) (kX1_join a x0 x1 x2 x3) _ (by decide) rfl rfl w_106 w_107 w_108 w_67 w_109 ⟨by decide +kernel, by decide +kernel, by show _ = some 4; decide +kernel⟩ (by decide)
set_option maxRecDepth 20000 in
theorem iv_X1_97 (a : Nat)  : Inv RX1 1 (.invokevirtual 97) [qv (some a)] vU (onT a 2 (pX1_empty a )) := inv_V (As := []) (t := 2) (kX1_empty a ) _ (by decide) rfl rfl w_110 w_111 w_112 w_67 w_113 ⟨by decide +kernel, by decide +kernel, by show _ = some 0; decide +kernel⟩ (by decide)
abbrev eX1_layOut : Env0 := (RX1, "layOut", cX1_layOut, 5, none, 3)
def pX1_layOut_L17 (th : Nat) (a101 : Nat) (k106 : Prg Unit) : Nat → Int32 → Prg Unit
  | 0, _ => fl
  | n + 1, v105 =>
    gI 2 th 6 fun v107 =>
    (if v107 ≤ v105 then k106
    else gF 2 th 0 fun v108 =>
    cl (or2 a101 4 (pX3_drag a101 v105) (or2 a101 1 (pX3_drag a101 v105) (onT a101 5 (pX3_drag a101 v105)))) fun v109 =>
    un v108 fun a110 =>
    stI a110 v105 v109 (
    pX1_layOut_L17 th a101 k106 n (v105 + (1 : Int32))))
def pX1_layOut_L54 (th : Nat) (a101 : Nat) (v111 : Int32) (k115 : Prg Unit) : Nat → Int32 → Prg Unit
  | 0, _ => fl
  | n + 1, v114 =>
    gI 4 a101 0 fun v116 =>
    (if v116 ≤ v114 then k115
    else gI 4 a101 0 fun v117 =>
    gI 4 a101 0 fun v118 =>
    (lt (fun (v119 : Int32) => cl (onT th 2 (pX1_join th ((v111 * v117) + v114) (0 : Int32) (((v111 * v117) + v114) + (1 : Int32)) v119)) fun _ =>
    gI 4 a101 0 fun v121 =>
    gI 4 a101 1 fun v122 =>
    (lt (fun (v123 : Int32) => cl (onT th 2 (pX1_join th ((v111 * v117) + v114) (1 : Int32) (((v111 * v117) + v114) + v121) v123)) fun _ =>
    (lt (fun (v125 : Int32) => cl (onT th 2 (pX1_join th ((v111 * v117) + v114) (2 : Int32) (((v111 * v117) + v114) - (1 : Int32)) v125)) fun _ =>
    gI 4 a101 0 fun v127 =>
    (lt (fun (v128 : Int32) => cl (onT th 2 (pX1_join th ((v111 * v117) + v114) (3 : Int32) (((v111 * v117) + v114) - v127) v128)) fun _ =>
    pX1_layOut_L54 th a101 v111 k115 n (v114 + (1 : Int32)) : Int32 → Prg Unit) fun k129 =>
    (if v111 ≤ 0 then k129 (0 : Int32)
    else k129 (1 : Int32))) : Int32 → Prg Unit) fun k126 =>
    (if v114 ≤ 0 then k126 (0 : Int32)
    else k126 (1 : Int32))) : Int32 → Prg Unit) fun k124 =>
    (if v122 ≤ (v111 + (1 : Int32)) then k124 (0 : Int32)
    else k124 (1 : Int32))) : Int32 → Prg Unit) fun k120 =>
    (if v118 ≤ (v114 + (1 : Int32)) then k120 (0 : Int32)
    else k120 (1 : Int32))))
def pX1_layOut_L44 (th : Nat) (a101 : Nat) (k112 : Prg Unit) : Nat → Int32 → Prg Unit
  | 0, _ => fl
  | n + 1, v111 =>
    gI 4 a101 1 fun v113 =>
    (if v113 ≤ v111 then k112
    else pX1_layOut_L54 th a101 v111 (pX1_layOut_L44 th a101 k112 n (v111 + (1 : Int32))) FL (0 : Int32))
def pX1_layOut (th : Nat) (a1 : Option Nat) : Prg Unit :=
    un a1 fun a101 =>
    gF 4 a101 2 fun v102 =>
    un v102 fun a103 =>
    ln a103 fun v104 =>
    pI 2 th 6 (mn v104 (144 : Int32)) (
    pX1_layOut_L17 th a101 (pX1_layOut_L44 th a101 (cl (onT th 2 (pX1_empty th)) fun _ =>
    rt ()) FL (0 : Int32)) FL (0 : Int32))
set_option maxRecDepth 20000 in
theorem sX1_layOut_L17 (th : Nat) (a101 : Nat) (k106 : Prg Unit) (hk106 : Sim eX1_layOut vU 42 [(0, qv (some th)), (1, qv (some a101))] [] (k106)) : ∀ (n : Nat), ∀ (v105 : Int32), Sim eX1_layOut vU 17 [(0, qv (some th)), (1, qv (some a101)), (2, iv v105)] [] (pX1_layOut_L17 th a101 k106 n v105) := by
  intro n
  induction n with
  | zero =>
    intros
    exact sm_fl
  | succ n ih =>
    intro v105
    unfold pX1_layOut_L17
    refine sm_iload_n (pc' := 18) dX1_layOut_17 rfl rfl ?_
    refine sm_aload_n (pc' := 19) dX1_layOut_18 rfl rfl ?_
    refine sm_getI (pc' := 22) fk_X1_30 nr_2_6 dX1_layOut_19 rfl (fun v107 => ?_)
    refine sm_icmp_ge (pc' := 25) (pc1 := 42) dX1_layOut_22 (by decide) rfl (fun _ => ?_) (fun _ => ?_)
    · skip
      refine sm_sub [0, 1] rfl ?_
      exact hk106
    · skip
      refine sm_aload_n (pc' := 26) dX1_layOut_25 rfl rfl ?_
      refine sm_getF (pc' := 29) fk_X1_9 yr_2_0 dX1_layOut_26 rfl (fun v108 => ?_)
      refine sm_iload_n (pc' := 30) dX1_layOut_29 rfl rfl ?_
      refine sm_aload_n (pc' := 31) dX1_layOut_30 rfl rfl ?_
      refine sm_iload_n (pc' := 32) dX1_layOut_31 rfl rfl ?_
      refine sm_calli (pc' := 35) (sa := [iv v105, qv (some a101)]) (st := [iv v105, qv v108]) (iv_X1_116 a101 v105) (Nat.le_of_ble_eq_true rfl) dX1_layOut_32 rfl (Nat.le_of_ble_eq_true rfl) (fun v109 => ?_)
      rcases v108 with _ | a110
      · exact sm_unN
      refine sm_unS ?_
      refine sm_iastore (pc' := 36) dX1_layOut_35 rfl ?_
      refine sm_iinc (pc' := 39) (v105 + (1 : Int32)) [(2, iv (v105 + (1 : Int32))), (0, qv (some th)), (1, qv (some a101))] dX1_layOut_36 rfl rfl (Nat.le_of_ble_eq_true rfl) rfl rfl ?_
      refine sm_goto (pc' := 17) dX1_layOut_39 (by decide) ?_
      refine sm_sub [1, 2, 0] rfl ?_
      exact ih (v105 + (1 : Int32))
set_option maxRecDepth 20000 in
theorem sX1_layOut_L54 (th : Nat) (a101 : Nat) (v111 : Int32) (k115 : Prg Unit) (hk115 : Sim eX1_layOut vU 176 [(0, qv (some th)), (1, qv (some a101)), (2, iv v111)] [] (k115)) : ∀ (n : Nat), ∀ (v114 : Int32), Sim eX1_layOut vU 54 [(0, qv (some th)), (1, qv (some a101)), (2, iv v111), (3, iv v114)] [] (pX1_layOut_L54 th a101 v111 k115 n v114) := by
  intro n
  induction n with
  | zero =>
    intros
    exact sm_fl
  | succ n ih =>
    intro v114
    unfold pX1_layOut_L54
    refine sm_iload_n (pc' := 55) dX1_layOut_54 rfl rfl ?_
    refine sm_aload_n (pc' := 56) dX1_layOut_55 rfl rfl ?_
    refine sm_getI (pc' := 59) fk_X1_122 nr_4_0 dX1_layOut_56 rfl (fun v116 => ?_)
    refine sm_icmp_ge (pc' := 62) (pc1 := 176) dX1_layOut_59 (by decide) rfl (fun _ => ?_) (fun _ => ?_)
    · skip
      refine sm_sub [0, 1, 2] rfl ?_
      exact hk115
    · skip
      refine sm_iload_n (pc' := 63) dX1_layOut_62 rfl rfl ?_
      refine sm_aload_n (pc' := 64) dX1_layOut_63 rfl rfl ?_
      refine sm_getI (pc' := 67) fk_X1_122 nr_4_0 dX1_layOut_64 rfl (fun v117 => ?_)
      refine sm_imul (pc' := 68) dX1_layOut_67 rfl ?_
      refine sm_iload_n (pc' := 69) dX1_layOut_68 rfl rfl ?_
      refine sm_iadd (pc' := 70) dX1_layOut_69 rfl ?_
      refine sm_istore (pc' := 72) [(4, iv ((v111 * v117) + v114)), (0, qv (some th)), (1, qv (some a101)), (2, iv v111), (3, iv v114)] dX1_layOut_70  (Nat.le_of_ble_eq_true rfl) rfl rfl ?_
      refine sm_aload_n (pc' := 73) dX1_layOut_72 rfl rfl ?_
      refine sm_iload (pc' := 75) dX1_layOut_73 rfl rfl ?_
      refine sm_iconst (pc' := 76) (0 : Int32) dX1_layOut_75 (by decide) rfl ?_
      refine sm_iload (pc' := 78) dX1_layOut_76 rfl rfl ?_
      refine sm_iconst (pc' := 79) (1 : Int32) dX1_layOut_78 (by decide) rfl ?_
      refine sm_iadd (pc' := 80) dX1_layOut_79 rfl ?_
      refine sm_iload_n (pc' := 81) dX1_layOut_80 rfl rfl ?_
      refine sm_iconst (pc' := 82) (1 : Int32) dX1_layOut_81 (by decide) rfl ?_
      refine sm_iadd (pc' := 83) dX1_layOut_82 rfl ?_
      refine sm_aload_n (pc' := 84) dX1_layOut_83 rfl rfl ?_
      refine sm_getI (pc' := 87) fk_X1_122 nr_4_0 dX1_layOut_84 rfl (fun v118 => ?_)
      refine sm_lt (fun k120 => ∀ (v119 : Int32), Sim eX1_layOut vU 95 [(0, qv (some th)), (1, qv (some a101)), (2, iv v111), (3, iv v114), (4, iv ((v111 * v117) + v114))] [iv v119, iv (((v111 * v117) + v114) + (1 : Int32)), iv (0 : Int32), iv ((v111 * v117) + v114), qv (some th)] (k120 v119)) ?_ (fun k120 hk120 => ?_)
      · intro v119
        refine sm_callv (pc' := 98) (sa := [iv v119, iv (((v111 * v117) + v114) + (1 : Int32)), iv (0 : Int32), iv ((v111 * v117) + v114), qv (some th)]) (st := []) (iv_X1_125 th ((v111 * v117) + v114) (0 : Int32) (((v111 * v117) + v114) + (1 : Int32)) v119) (Nat.le_of_ble_eq_true rfl) dX1_layOut_95 rfl (Nat.le_of_ble_eq_true rfl) (fun _ => ?_)
        refine sm_aload_n (pc' := 99) dX1_layOut_98 rfl rfl ?_
        refine sm_iload (pc' := 101) dX1_layOut_99 rfl rfl ?_
        refine sm_iconst (pc' := 102) (1 : Int32) dX1_layOut_101 (by decide) rfl ?_
        refine sm_iload (pc' := 104) dX1_layOut_102 rfl rfl ?_
        refine sm_aload_n (pc' := 105) dX1_layOut_104 rfl rfl ?_
        refine sm_getI (pc' := 108) fk_X1_122 nr_4_0 dX1_layOut_105 rfl (fun v121 => ?_)
        refine sm_iadd (pc' := 109) dX1_layOut_108 rfl ?_
        refine sm_iload_n (pc' := 110) dX1_layOut_109 rfl rfl ?_
        refine sm_iconst (pc' := 111) (1 : Int32) dX1_layOut_110 (by decide) rfl ?_
        refine sm_iadd (pc' := 112) dX1_layOut_111 rfl ?_
        refine sm_aload_n (pc' := 113) dX1_layOut_112 rfl rfl ?_
        refine sm_getI (pc' := 116) fk_X1_119 nr_4_1 dX1_layOut_113 rfl (fun v122 => ?_)
        refine sm_lt (fun k124 => ∀ (v123 : Int32), Sim eX1_layOut vU 124 [(0, qv (some th)), (1, qv (some a101)), (2, iv v111), (3, iv v114), (4, iv ((v111 * v117) + v114))] [iv v123, iv (((v111 * v117) + v114) + v121), iv (1 : Int32), iv ((v111 * v117) + v114), qv (some th)] (k124 v123)) ?_ (fun k124 hk124 => ?_)
        · intro v123
          refine sm_callv (pc' := 127) (sa := [iv v123, iv (((v111 * v117) + v114) + v121), iv (1 : Int32), iv ((v111 * v117) + v114), qv (some th)]) (st := []) (iv_X1_125 th ((v111 * v117) + v114) (1 : Int32) (((v111 * v117) + v114) + v121) v123) (Nat.le_of_ble_eq_true rfl) dX1_layOut_124 rfl (Nat.le_of_ble_eq_true rfl) (fun _ => ?_)
          refine sm_aload_n (pc' := 128) dX1_layOut_127 rfl rfl ?_
          refine sm_iload (pc' := 130) dX1_layOut_128 rfl rfl ?_
          refine sm_iconst (pc' := 131) (2 : Int32) dX1_layOut_130 (by decide) rfl ?_
          refine sm_iload (pc' := 133) dX1_layOut_131 rfl rfl ?_
          refine sm_iconst (pc' := 134) (1 : Int32) dX1_layOut_133 (by decide) rfl ?_
          refine sm_isub (pc' := 135) dX1_layOut_134 rfl ?_
          refine sm_iload_n (pc' := 136) dX1_layOut_135 rfl rfl ?_
          refine sm_lt (fun k126 => ∀ (v125 : Int32), Sim eX1_layOut vU 144 [(0, qv (some th)), (1, qv (some a101)), (2, iv v111), (3, iv v114), (4, iv ((v111 * v117) + v114))] [iv v125, iv (((v111 * v117) + v114) - (1 : Int32)), iv (2 : Int32), iv ((v111 * v117) + v114), qv (some th)] (k126 v125)) ?_ (fun k126 hk126 => ?_)
          · intro v125
            refine sm_callv (pc' := 147) (sa := [iv v125, iv (((v111 * v117) + v114) - (1 : Int32)), iv (2 : Int32), iv ((v111 * v117) + v114), qv (some th)]) (st := []) (iv_X1_125 th ((v111 * v117) + v114) (2 : Int32) (((v111 * v117) + v114) - (1 : Int32)) v125) (Nat.le_of_ble_eq_true rfl) dX1_layOut_144 rfl (Nat.le_of_ble_eq_true rfl) (fun _ => ?_)
            refine sm_aload_n (pc' := 148) dX1_layOut_147 rfl rfl ?_
            refine sm_iload (pc' := 150) dX1_layOut_148 rfl rfl ?_
            refine sm_iconst (pc' := 151) (3 : Int32) dX1_layOut_150 (by decide) rfl ?_
            refine sm_iload (pc' := 153) dX1_layOut_151 rfl rfl ?_
            refine sm_aload_n (pc' := 154) dX1_layOut_153 rfl rfl ?_
            refine sm_getI (pc' := 157) fk_X1_122 nr_4_0 dX1_layOut_154 rfl (fun v127 => ?_)
            refine sm_isub (pc' := 158) dX1_layOut_157 rfl ?_
            refine sm_iload_n (pc' := 159) dX1_layOut_158 rfl rfl ?_
            refine sm_lt (fun k129 => ∀ (v128 : Int32), Sim eX1_layOut vU 167 [(0, qv (some th)), (1, qv (some a101)), (2, iv v111), (3, iv v114)] [iv v128, iv (((v111 * v117) + v114) - v127), iv (3 : Int32), iv ((v111 * v117) + v114), qv (some th)] (k129 v128)) ?_ (fun k129 hk129 => ?_)
            · intro v128
              refine sm_callv (pc' := 170) (sa := [iv v128, iv (((v111 * v117) + v114) - v127), iv (3 : Int32), iv ((v111 * v117) + v114), qv (some th)]) (st := []) (iv_X1_125 th ((v111 * v117) + v114) (3 : Int32) (((v111 * v117) + v114) - v127) v128) (Nat.le_of_ble_eq_true rfl) dX1_layOut_167 rfl (Nat.le_of_ble_eq_true rfl) (fun _ => ?_)
              refine sm_iinc (pc' := 173) (v114 + (1 : Int32)) [(3, iv (v114 + (1 : Int32))), (0, qv (some th)), (1, qv (some a101)), (2, iv v111)] dX1_layOut_170 rfl rfl (Nat.le_of_ble_eq_true rfl) rfl rfl ?_
              refine sm_goto (pc' := 54) dX1_layOut_173 (by decide) ?_
              refine sm_sub [1, 2, 3, 0] rfl ?_
              exact ih (v114 + (1 : Int32))
            · skip
              refine sm_if_le (pc' := 162) (pc1 := 166) dX1_layOut_159 (by decide) rfl (fun _ => ?_) (fun _ => ?_)
              · skip
                refine sm_iconst (pc' := 167) (0 : Int32) dX1_layOut_166 (by decide) rfl ?_
                refine sm_sub [0, 1, 2, 3] rfl ?_
                exact hk129 (0 : Int32)
              · skip
                refine sm_iconst (pc' := 163) (1 : Int32) dX1_layOut_162 (by decide) rfl ?_
                refine sm_goto (pc' := 167) dX1_layOut_163 (by decide) ?_
                refine sm_sub [0, 1, 2, 3] rfl ?_
                exact hk129 (1 : Int32)
          · skip
            refine sm_if_le (pc' := 139) (pc1 := 143) dX1_layOut_136 (by decide) rfl (fun _ => ?_) (fun _ => ?_)
            · skip
              refine sm_iconst (pc' := 144) (0 : Int32) dX1_layOut_143 (by decide) rfl ?_
              exact hk126 (0 : Int32)
            · skip
              refine sm_iconst (pc' := 140) (1 : Int32) dX1_layOut_139 (by decide) rfl ?_
              refine sm_goto (pc' := 144) dX1_layOut_140 (by decide) ?_
              exact hk126 (1 : Int32)
        · skip
          refine sm_icmp_ge (pc' := 119) (pc1 := 123) dX1_layOut_116 (by decide) rfl (fun _ => ?_) (fun _ => ?_)
          · skip
            refine sm_iconst (pc' := 124) (0 : Int32) dX1_layOut_123 (by decide) rfl ?_
            exact hk124 (0 : Int32)
          · skip
            refine sm_iconst (pc' := 120) (1 : Int32) dX1_layOut_119 (by decide) rfl ?_
            refine sm_goto (pc' := 124) dX1_layOut_120 (by decide) ?_
            exact hk124 (1 : Int32)
      · skip
        refine sm_icmp_ge (pc' := 90) (pc1 := 94) dX1_layOut_87 (by decide) rfl (fun _ => ?_) (fun _ => ?_)
        · skip
          refine sm_iconst (pc' := 95) (0 : Int32) dX1_layOut_94 (by decide) rfl ?_
          refine sm_sub [1, 2, 3, 4, 0] rfl ?_
          exact hk120 (0 : Int32)
        · skip
          refine sm_iconst (pc' := 91) (1 : Int32) dX1_layOut_90 (by decide) rfl ?_
          refine sm_goto (pc' := 95) dX1_layOut_91 (by decide) ?_
          refine sm_sub [1, 2, 3, 4, 0] rfl ?_
          exact hk120 (1 : Int32)
set_option maxRecDepth 20000 in
theorem sX1_layOut_L44 (th : Nat) (a101 : Nat) (k112 : Prg Unit) (hk112 : Sim eX1_layOut vU 182 [(0, qv (some th))] [] (k112)) : ∀ (n : Nat), ∀ (v111 : Int32), Sim eX1_layOut vU 44 [(0, qv (some th)), (1, qv (some a101)), (2, iv v111)] [] (pX1_layOut_L44 th a101 k112 n v111) := by
  intro n
  induction n with
  | zero =>
    intros
    exact sm_fl
  | succ n ih =>
    intro v111
    unfold pX1_layOut_L44
    refine sm_iload_n (pc' := 45) dX1_layOut_44 rfl rfl ?_
    refine sm_aload_n (pc' := 46) dX1_layOut_45 rfl rfl ?_
    refine sm_getI (pc' := 49) fk_X1_119 nr_4_1 dX1_layOut_46 rfl (fun v113 => ?_)
    refine sm_icmp_ge (pc' := 52) (pc1 := 182) dX1_layOut_49 (by decide) rfl (fun _ => ?_) (fun _ => ?_)
    · skip
      refine sm_sub [0] rfl ?_
      exact hk112
    · skip
      refine sm_iconst (pc' := 53) (0 : Int32) dX1_layOut_52 (by decide) rfl ?_
      refine sm_istore_n (pc' := 54) [(3, iv (0 : Int32)), (0, qv (some th)), (1, qv (some a101)), (2, iv v111)] dX1_layOut_53 rfl (Nat.le_of_ble_eq_true rfl) rfl rfl ?_
      refine sm_sub [1, 2, 3, 0] rfl ?_
      refine sX1_layOut_L54 th a101 v111 _ ?_ FL (0 : Int32)
      · skip
        refine sm_iinc (pc' := 179) (v111 + (1 : Int32)) [(2, iv (v111 + (1 : Int32))), (0, qv (some th)), (1, qv (some a101))] dX1_layOut_176 rfl rfl (Nat.le_of_ble_eq_true rfl) rfl rfl ?_
        refine sm_goto (pc' := 44) dX1_layOut_179 (by decide) ?_
        refine sm_sub [1, 2, 0] rfl ?_
        exact ih (v111 + (1 : Int32))
set_option maxRecDepth 20000 in
theorem sX1_layOut (th : Nat) (a1 : Option Nat) : Sim eX1_layOut vU 0 [(0, qv (some th)), (1, qv a1)] [] (pX1_layOut th a1) := by
  unfold pX1_layOut
  refine sm_aload_n (pc' := 1) dX1_layOut_0 rfl rfl ?_
  refine sm_aload_n (pc' := 2) dX1_layOut_1 rfl rfl ?_
  rcases a1 with _ | a101
  · exact sm_unN
  refine sm_unS ?_
  refine sm_getF (pc' := 5) fk_X1_110 yr_4_2 dX1_layOut_2 rfl (fun v102 => ?_)
  rcases v102 with _ | a103
  · exact sm_unN
  refine sm_unS ?_
  refine sm_alen (pc' := 6) dX1_layOut_5 rfl (fun v104 => ?_)
  refine sm_sipush (pc' := 9) (144 : Int32) dX1_layOut_6 (by decide) rfl ?_
  refine sm_mmin (pc' := 12) w_94 w_95 w_77 w_96 dX1_layOut_9 (by decide) (Nat.le_of_ble_eq_true rfl) rfl ?_
  refine sm_putI (pc' := 15) (gk_X1_30 _ _ _ _ _) ti_2_6 dX1_layOut_12 rfl ?_
  refine sm_iconst (pc' := 16) (0 : Int32) dX1_layOut_15 (by decide) rfl ?_
  refine sm_istore_n (pc' := 17) [(2, iv (0 : Int32)), (0, qv (some th)), (1, qv (some a101))] dX1_layOut_16 rfl (Nat.le_of_ble_eq_true rfl) rfl rfl ?_
  refine sm_sub [1, 2, 0] rfl ?_
  refine sX1_layOut_L17 th a101 _ ?_ FL (0 : Int32)
  · skip
    refine sm_iconst (pc' := 43) (0 : Int32) dX1_layOut_42 (by decide) rfl ?_
    refine sm_istore_n (pc' := 44) [(2, iv (0 : Int32)), (0, qv (some th)), (1, qv (some a101))] dX1_layOut_43 rfl (Nat.le_of_ble_eq_true rfl) rfl rfl ?_
    refine sm_sub [1, 2, 0] rfl ?_
    refine sX1_layOut_L44 th a101 _ ?_ FL (0 : Int32)
    · skip
      refine sm_aload_n (pc' := 183) dX1_layOut_182 rfl rfl ?_
      refine sm_callv (pc' := 186) (sa := [qv (some th)]) (st := []) (iv_X1_97 th) (Nat.le_of_ble_eq_true rfl) dX1_layOut_183 rfl (Nat.le_of_ble_eq_true rfl) (fun _ => ?_)
      exact sm_return rfl dX1_layOut_186
theorem kX1_layOut (th : Nat) (a1 : Option Nat) : Callee 3 yX1_layOut cX1_layOut 5 none [qv (some th), qv a1] vU (pX1_layOut th a1) := callee_ofS [(0, qv (some th)), (1, qv a1)] (by decide +kernel) (Nat.le_of_ble_eq_true rfl) rfl (sX1_layOut th a1)
/-! HollowPress$Flow.startAt(II)V -/
abbrev eX1_startAt : Env0 := (RX1, "startAt", cX1_startAt, 3, none, 1)
def pX1_startAt (th : Nat) (a1 : Int32) (a2 : Int32) : Prg Unit :=
    gI 2 th 6 fun v101 =>
    cl (pX10_below a1 v101) fun v102 =>
    (lt (rt () : Prg Unit) fun k103 =>
    (if v102 = 0 then k103
    else gF 2 th 2 fun v104 =>
    gF 2 th 0 fun v105 =>
    un v105 fun a106 =>
    ldI a106 a1 fun v107 =>
    un v104 fun a108 =>
    stI a108 a1 (((4 : Int32) * v107) + a2) (
    k103)))
set_option maxRecDepth 20000 in
theorem sX1_startAt (th : Nat) (a1 : Int32) (a2 : Int32) : Sim eX1_startAt vU 0 [(0, qv (some th)), (1, iv a1), (2, iv a2)] [] (pX1_startAt th a1 a2) := by
  unfold pX1_startAt
  refine sm_iload_n (pc' := 1) dX1_startAt_0 rfl rfl ?_
  refine sm_aload_n (pc' := 2) dX1_startAt_1 rfl rfl ?_
  refine sm_getI (pc' := 5) fk_X1_30 nr_2_6 dX1_startAt_2 rfl (fun v101 => ?_)
  refine sm_calli (pc' := 8) (sa := [iv v101, iv a1]) (st := []) (iv_X1_90 a1 v101) (Nat.le_of_ble_eq_true rfl) dX1_startAt_5 rfl (Nat.le_of_ble_eq_true rfl) (fun v102 => ?_)
  refine sm_lt (fun k103 => Sim eX1_startAt vU 27 [] [] (k103)) ?_ (fun k103 hk103 => ?_)
  · skip
    exact sm_return rfl dX1_startAt_27
  · skip
    refine sm_if_eq (pc' := 11) (pc1 := 27) dX1_startAt_8 (by decide) rfl (fun _ => ?_) (fun _ => ?_)
    · skip
      refine sm_sub [] rfl ?_
      exact hk103
    · skip
      refine sm_aload_n (pc' := 12) dX1_startAt_11 rfl rfl ?_
      refine sm_getF (pc' := 15) fk_X1_18 yr_2_2 dX1_startAt_12 rfl (fun v104 => ?_)
      refine sm_iload_n (pc' := 16) dX1_startAt_15 rfl rfl ?_
      refine sm_iconst (pc' := 17) (4 : Int32) dX1_startAt_16 (by decide) rfl ?_
      refine sm_aload_n (pc' := 18) dX1_startAt_17 rfl rfl ?_
      refine sm_getF (pc' := 21) fk_X1_9 yr_2_0 dX1_startAt_18 rfl (fun v105 => ?_)
      refine sm_iload_n (pc' := 22) dX1_startAt_21 rfl rfl ?_
      rcases v105 with _ | a106
      · exact sm_unN
      refine sm_unS ?_
      refine sm_iaload (pc' := 23) dX1_startAt_22 rfl (fun v107 => ?_)
      refine sm_imul (pc' := 24) dX1_startAt_23 rfl ?_
      refine sm_iload_n (pc' := 25) dX1_startAt_24 rfl rfl ?_
      refine sm_iadd (pc' := 26) dX1_startAt_25 rfl ?_
      rcases v104 with _ | a108
      · exact sm_unN
      refine sm_unS ?_
      refine sm_iastore (pc' := 27) dX1_startAt_26 rfl ?_
      refine sm_sub [] rfl ?_
      exact hk103
theorem kX1_startAt (th : Nat) (a1 : Int32) (a2 : Int32) : Callee 1 yX1_startAt cX1_startAt 3 none [qv (some th), iv a1, iv a2] vU (pX1_startAt th a1 a2) := callee_ofS [(0, qv (some th)), (1, iv a1), (2, iv a2)] (by decide +kernel) (Nat.le_of_ble_eq_true rfl) rfl (sX1_startAt th a1 a2)
/-! HollowPress$Flow.bestGate(LHollowPress$Part;)I -/
set_option maxRecDepth 20000 in
theorem iv_X1_49 (a : Nat) (x0 : Option Nat) : Inv RX1 4 (.invokevirtual 49) [qv x0, qv (some a)] vU (onT a 2 (pX1_layOut a x0)) := inv_V (As := [qv x0]) (t := 2) (kX1_layOut a x0) _ (by decide) rfl rfl w_115 w_116 w_117 w_67 w_118 ⟨by decide +kernel, by decide +kernel, by show _ = some 1; decide +kernel⟩ (by decide)
set_option maxRecDepth 20000 in
theorem iv_X1_56 (a : Nat) (x0 : Int32) (x1 : Int32) : Inv RX1 2 (.invokevirtual 56) [iv x1, iv x0, qv (some a)] vU (onT a 2 (pX1_startAt a x0 x1)) := inv_V (As := [iv x0, iv x1]) (t := 2) (kX1_startAt a x0 x1) _ (by decide) rfl rfl w_119 w_120 w_121 w_67 w_122 ⟨by decide +kernel, by decide +kernel, by show _ = some 2; decide +kernel⟩ (by decide)
set_option maxRecDepth 20000 in
theorem iv_X1_60 (a : Nat)  : Inv RX1 2 (.invokevirtual 60) [qv (some a)] vU (onT a 2 (pX1_flowOn a )) := inv_V (As := []) (t := 2) (kX1_flowOn a ) _ (by decide) rfl rfl w_123 w_124 w_125 w_67 w_126 ⟨by decide +kernel, by decide +kernel, by show _ = some 0; decide +kernel⟩ (by decide)
set_option maxRecDepth 20000 in
theorem iv_X1_100 (a : Nat)  : Inv RX1 4 (.invokevirtual 100) [qv (some a)] vI (onT a 2 (pX1_endsOfTrial a )) := inv_V (As := []) (t := 2) (kX1_endsOfTrial a ) _ (by decide) rfl rfl w_127 w_128 w_129 w_67 w_130 ⟨by decide +kernel, by decide +kernel, by show _ = some 0; decide +kernel⟩ (by decide)
abbrev eX1_bestGate : Env0 := (RX1, "bestGate", cX1_bestGate, 6, (some .int), 4)
def pX1_bestGate_L19 (th : Nat) (k102 : Prg Int32) : Nat → Int32 → Prg Int32
  | 0, _ => fl
  | n + 1, v101 =>
    gI 2 th 6 fun v103 =>
    (if v103 ≤ v101 then k102
    else gF 2 th 5 fun v104 =>
    un v104 fun a105 =>
    stI a105 v101 (0 : Int32) (
    pX1_bestGate_L19 th k102 n (v101 + (1 : Int32))))
def pX1_bestGate_L45 (th : Nat) (k109 : Int32 → Prg Int32) : Nat → Int32 → Int32 → Int32 → Prg Int32
  | 0, _, _, _ => fl
  | n + 1, v106, v107, v108 =>
    gI 2 th 6 fun v110 =>
    (if v110 ≤ v108 then k109 v106
    else gF 2 th 0 fun v111 =>
    un v111 fun a112 =>
    ldI a112 v108 fun v113 =>
    (lt (fun (v114 : Int32) (v115 : Int32) => pX1_bestGate_L45 th k109 n v114 v115 (v108 + (1 : Int32)) : Int32 → Int32 → Prg Int32) fun k116 =>
    (if v113 = 0 then k116 v106 v107
    else gF 2 th 5 fun v117 =>
    un v117 fun a118 =>
    ldI a118 v108 fun v119 =>
    (if v119 < v107 then cl (onT th 2 (pX1_empty th)) fun _ =>
    cl (onT th 2 (pX1_startAt th v108 (0 : Int32))) fun _ =>
    cl (onT th 2 (pX1_flowOn th)) fun _ =>
    cl (onT th 2 (pX1_endsOfTrial th)) fun v120 =>
    (if v120 = (2147483647 : Int32) then rt (-1000000 : Int32)
    else (if v107 ≤ v120 then k116 v106 v107
    else k116 v108 v120))
    else k116 v106 v107))))
def pX1_bestGate (th : Nat) (a1 : Option Nat) : Prg Int32 :=
    pF 2 th 8 none (
    cl (onT th 2 (pX1_layOut th a1)) fun _ =>
    pX1_bestGate_L19 th (pX1_bestGate_L45 th (fun (v121 : Int32) => rt v121) FL (-1000000 : Int32) (2147483647 : Int32) (0 : Int32)) FL (0 : Int32))
set_option maxRecDepth 20000 in
theorem sX1_bestGate_L19 (th : Nat) (k102 : Prg Int32) (hk102 : Sim eX1_bestGate vI 42 [(0, qv (some th)), (2, iv (-1000000 : Int32)), (3, iv (2147483647 : Int32))] [] (k102)) : ∀ (n : Nat), ∀ (v101 : Int32), Sim eX1_bestGate vI 19 [(0, qv (some th)), (2, iv (-1000000 : Int32)), (3, iv (2147483647 : Int32)), (4, iv v101)] [] (pX1_bestGate_L19 th k102 n v101) := by
  intro n
  induction n with
  | zero =>
    intros
    exact sm_fl
  | succ n ih =>
    intro v101
    unfold pX1_bestGate_L19
    refine sm_iload (pc' := 21) dX1_bestGate_19 rfl rfl ?_
    refine sm_aload_n (pc' := 22) dX1_bestGate_21 rfl rfl ?_
    refine sm_getI (pc' := 25) fk_X1_30 nr_2_6 dX1_bestGate_22 rfl (fun v103 => ?_)
    refine sm_icmp_ge (pc' := 28) (pc1 := 42) dX1_bestGate_25 (by decide) rfl (fun _ => ?_) (fun _ => ?_)
    · skip
      refine sm_sub [0, 1, 2] rfl ?_
      exact hk102
    · skip
      refine sm_aload_n (pc' := 29) dX1_bestGate_28 rfl rfl ?_
      refine sm_getF (pc' := 32) fk_X1_27 yr_2_5 dX1_bestGate_29 rfl (fun v104 => ?_)
      refine sm_iload (pc' := 34) dX1_bestGate_32 rfl rfl ?_
      refine sm_iconst (pc' := 35) (0 : Int32) dX1_bestGate_34 (by decide) rfl ?_
      rcases v104 with _ | a105
      · exact sm_unN
      refine sm_unS ?_
      refine sm_iastore (pc' := 36) dX1_bestGate_35 rfl ?_
      refine sm_iinc (pc' := 39) (v101 + (1 : Int32)) [(4, iv (v101 + (1 : Int32))), (0, qv (some th)), (2, iv (-1000000 : Int32)), (3, iv (2147483647 : Int32))] dX1_bestGate_36 rfl rfl (Nat.le_of_ble_eq_true rfl) rfl rfl ?_
      refine sm_goto (pc' := 19) dX1_bestGate_39 (by decide) ?_
      refine sm_sub [1, 2, 3, 0] rfl ?_
      exact ih (v101 + (1 : Int32))
set_option maxRecDepth 20000 in
theorem sX1_bestGate_L45 (th : Nat) (k109 : Int32 → Prg Int32) (hk109 : ∀ (q2 : Int32), Sim eX1_bestGate vI 127 [(2, iv q2)] [] (k109 q2)) : ∀ (n : Nat), ∀ (v106 : Int32) (v107 : Int32) (v108 : Int32), Sim eX1_bestGate vI 45 [(0, qv (some th)), (2, iv v106), (3, iv v107), (4, iv v108)] [] (pX1_bestGate_L45 th k109 n v106 v107 v108) := by
  intro n
  induction n with
  | zero =>
    intros
    exact sm_fl
  | succ n ih =>
    intro v106 v107 v108
    unfold pX1_bestGate_L45
    refine sm_iload (pc' := 47) dX1_bestGate_45 rfl rfl ?_
    refine sm_aload_n (pc' := 48) dX1_bestGate_47 rfl rfl ?_
    refine sm_getI (pc' := 51) fk_X1_30 nr_2_6 dX1_bestGate_48 rfl (fun v110 => ?_)
    refine sm_icmp_ge (pc' := 54) (pc1 := 127) dX1_bestGate_51 (by decide) rfl (fun _ => ?_) (fun _ => ?_)
    · skip
      refine sm_sub [1] rfl ?_
      exact hk109 v106
    · skip
      refine sm_aload_n (pc' := 55) dX1_bestGate_54 rfl rfl ?_
      refine sm_getF (pc' := 58) fk_X1_9 yr_2_0 dX1_bestGate_55 rfl (fun v111 => ?_)
      refine sm_iload (pc' := 60) dX1_bestGate_58 rfl rfl ?_
      rcases v111 with _ | a112
      · exact sm_unN
      refine sm_unS ?_
      refine sm_iaload (pc' := 61) dX1_bestGate_60 rfl (fun v113 => ?_)
      refine sm_lt (fun k116 => ∀ (v114 : Int32) (v115 : Int32), Sim eX1_bestGate vI 121 [(0, qv (some th)), (2, iv v114), (3, iv v115), (4, iv v108)] [] (k116 v114 v115)) ?_ (fun k116 hk116 => ?_)
      · intro v114 v115
        refine sm_iinc (pc' := 124) (v108 + (1 : Int32)) [(4, iv (v108 + (1 : Int32))), (0, qv (some th)), (2, iv v114), (3, iv v115)] dX1_bestGate_121 rfl rfl (Nat.le_of_ble_eq_true rfl) rfl rfl ?_
        refine sm_goto (pc' := 45) dX1_bestGate_124 (by decide) ?_
        refine sm_sub [1, 2, 3, 0] rfl ?_
        exact ih v114 v115 (v108 + (1 : Int32))
      · skip
        refine sm_if_eq (pc' := 64) (pc1 := 121) dX1_bestGate_61 (by decide) rfl (fun _ => ?_) (fun _ => ?_)
        · skip
          exact hk116 v106 v107
        · skip
          refine sm_aload_n (pc' := 65) dX1_bestGate_64 rfl rfl ?_
          refine sm_getF (pc' := 68) fk_X1_27 yr_2_5 dX1_bestGate_65 rfl (fun v117 => ?_)
          refine sm_iload (pc' := 70) dX1_bestGate_68 rfl rfl ?_
          rcases v117 with _ | a118
          · exact sm_unN
          refine sm_unS ?_
          refine sm_iaload (pc' := 71) dX1_bestGate_70 rfl (fun v119 => ?_)
          refine sm_iload_n (pc' := 72) dX1_bestGate_71 rfl rfl ?_
          refine sm_icmp_lt (pc' := 75) (pc1 := 78) dX1_bestGate_72 (by decide) rfl (fun _ => ?_) (fun _ => ?_)
          · skip
            refine sm_aload_n (pc' := 79) dX1_bestGate_78 rfl rfl ?_
            refine sm_callv (pc' := 82) (sa := [qv (some th)]) (st := []) (iv_X1_97 th) (Nat.le_of_ble_eq_true rfl) dX1_bestGate_79 rfl (Nat.le_of_ble_eq_true rfl) (fun _ => ?_)
            refine sm_aload_n (pc' := 83) dX1_bestGate_82 rfl rfl ?_
            refine sm_iload (pc' := 85) dX1_bestGate_83 rfl rfl ?_
            refine sm_iconst (pc' := 86) (0 : Int32) dX1_bestGate_85 (by decide) rfl ?_
            refine sm_callv (pc' := 89) (sa := [iv (0 : Int32), iv v108, qv (some th)]) (st := []) (iv_X1_56 th v108 (0 : Int32)) (Nat.le_of_ble_eq_true rfl) dX1_bestGate_86 rfl (Nat.le_of_ble_eq_true rfl) (fun _ => ?_)
            refine sm_aload_n (pc' := 90) dX1_bestGate_89 rfl rfl ?_
            refine sm_callv (pc' := 93) (sa := [qv (some th)]) (st := []) (iv_X1_60 th) (Nat.le_of_ble_eq_true rfl) dX1_bestGate_90 rfl (Nat.le_of_ble_eq_true rfl) (fun _ => ?_)
            refine sm_aload_n (pc' := 94) dX1_bestGate_93 rfl rfl ?_
            refine sm_calli (pc' := 97) (sa := [qv (some th)]) (st := []) (iv_X1_100 th) (Nat.le_of_ble_eq_true rfl) dX1_bestGate_94 rfl (Nat.le_of_ble_eq_true rfl) (fun v120 => ?_)
            refine sm_istore (pc' := 99) [(5, iv v120), (0, qv (some th)), (2, iv v106), (3, iv v107), (4, iv v108)] dX1_bestGate_97  (Nat.le_of_ble_eq_true rfl) rfl rfl ?_
            refine sm_iload (pc' := 101) dX1_bestGate_99 rfl rfl ?_
            refine sm_ldc (pc' := 103) (2147483647 : Int32) w_59 dX1_bestGate_101 rfl ?_
            refine sm_icmp_ne (pc' := 106) (pc1 := 109) dX1_bestGate_103 (by decide) rfl (fun _ => ?_) (fun _ => ?_)
            · skip
              refine sm_iload (pc' := 111) dX1_bestGate_109 rfl rfl ?_
              refine sm_iload_n (pc' := 112) dX1_bestGate_111 rfl rfl ?_
              refine sm_icmp_ge (pc' := 115) (pc1 := 121) dX1_bestGate_112 (by decide) rfl (fun _ => ?_) (fun _ => ?_)
              · skip
                refine sm_sub [1, 2, 3, 4] rfl ?_
                exact hk116 v106 v107
              · skip
                refine sm_iload (pc' := 117) dX1_bestGate_115 rfl rfl ?_
                refine sm_istore_n (pc' := 118) [(3, iv v120), (5, iv v120), (0, qv (some th)), (2, iv v106), (4, iv v108)] dX1_bestGate_117 rfl (Nat.le_of_ble_eq_true rfl) rfl rfl ?_
                refine sm_iload (pc' := 120) dX1_bestGate_118 rfl rfl ?_
                refine sm_istore_n (pc' := 121) [(2, iv v108), (3, iv v120), (5, iv v120), (0, qv (some th)), (4, iv v108)] dX1_bestGate_120 rfl (Nat.le_of_ble_eq_true rfl) rfl rfl ?_
                refine sm_sub [3, 0, 1, 4] rfl ?_
                exact hk116 v108 v120
            · skip
              refine sm_ldc (pc' := 108) (-1000000 : Int32) w_69 dX1_bestGate_106 rfl ?_
              exact sm_ireturn rfl dX1_bestGate_108
          · skip
            refine sm_goto (pc' := 121) dX1_bestGate_75 (by decide) ?_
            exact hk116 v106 v107
set_option maxRecDepth 20000 in
theorem sX1_bestGate (th : Nat) (a1 : Option Nat) : Sim eX1_bestGate vI 0 [(0, qv (some th)), (1, qv a1)] [] (pX1_bestGate th a1) := by
  unfold pX1_bestGate
  refine sm_aload_n (pc' := 1) dX1_bestGate_0 rfl rfl ?_
  refine sm_null (pc' := 2) dX1_bestGate_1 rfl ?_
  refine sm_putF (pc' := 5) (gk_X1_37 _ _ _ _ _) yr_2_8 dX1_bestGate_2 rfl ?_
  refine sm_ldc (pc' := 7) (-1000000 : Int32) w_69 dX1_bestGate_5 rfl ?_
  refine sm_istore_n (pc' := 8) [(2, iv (-1000000 : Int32)), (0, qv (some th)), (1, qv a1)] dX1_bestGate_7 rfl (Nat.le_of_ble_eq_true rfl) rfl rfl ?_
  refine sm_ldc (pc' := 10) (2147483647 : Int32) w_59 dX1_bestGate_8 rfl ?_
  refine sm_istore_n (pc' := 11) [(3, iv (2147483647 : Int32)), (2, iv (-1000000 : Int32)), (0, qv (some th)), (1, qv a1)] dX1_bestGate_10 rfl (Nat.le_of_ble_eq_true rfl) rfl rfl ?_
  refine sm_aload_n (pc' := 12) dX1_bestGate_11 rfl rfl ?_
  refine sm_aload_n (pc' := 13) dX1_bestGate_12 rfl rfl ?_
  refine sm_callv (pc' := 16) (sa := [qv a1, qv (some th)]) (st := []) (iv_X1_49 th a1) (Nat.le_of_ble_eq_true rfl) dX1_bestGate_13 rfl (Nat.le_of_ble_eq_true rfl) (fun _ => ?_)
  refine sm_iconst (pc' := 17) (0 : Int32) dX1_bestGate_16 (by decide) rfl ?_
  refine sm_istore (pc' := 19) [(4, iv (0 : Int32)), (3, iv (2147483647 : Int32)), (2, iv (-1000000 : Int32)), (0, qv (some th)), (1, qv a1)] dX1_bestGate_17  (Nat.le_of_ble_eq_true rfl) rfl rfl ?_
  refine sm_sub [3, 2, 1, 0] rfl ?_
  refine sX1_bestGate_L19 th _ ?_ FL (0 : Int32)
  · skip
    refine sm_iconst (pc' := 43) (0 : Int32) dX1_bestGate_42 (by decide) rfl ?_
    refine sm_istore (pc' := 45) [(4, iv (0 : Int32)), (0, qv (some th)), (2, iv (-1000000 : Int32)), (3, iv (2147483647 : Int32))] dX1_bestGate_43  (Nat.le_of_ble_eq_true rfl) rfl rfl ?_
    refine sm_sub [1, 2, 3, 0] rfl ?_
    refine sX1_bestGate_L45 th _ ?_ FL (-1000000 : Int32) (2147483647 : Int32) (0 : Int32)
    · intro v121
      refine sm_iload_n (pc' := 128) dX1_bestGate_127 rfl rfl ?_
      exact sm_ireturn rfl dX1_bestGate_128
theorem kX1_bestGate (th : Nat) (a1 : Option Nat) : Callee 4 yX1_bestGate cX1_bestGate 6 (some .int) [qv (some th), qv a1] vI (pX1_bestGate th a1) := callee_ofS [(0, qv (some th)), (1, qv a1)] (by decide +kernel) (Nat.le_of_ble_eq_true rfl) rfl (sX1_bestGate th a1)
/-! HollowPress$Flow.front(I)I -/
abbrev eX1_front : Env0 := (RX1, "front", cX1_front, 2, (some .int), 2)
def pX1_front (th : Nat) (a1 : Int32) : Prg Int32 :=
    cl (onT th 2 (pX1_reached th a1)) fun v101 =>
    (lt (fun (v102 : Int32) => rt v102 : Int32 → Prg Int32) fun k103 =>
    (if v101 = 0 then k103 (-1000000 : Int32)
    else gF 2 th 2 fun v104 =>
    un v104 fun a105 =>
    ldI a105 a1 fun v106 =>
    rm v106 (4 : Int32) fun v107 =>
    k103 v107))
set_option maxRecDepth 20000 in
theorem sX1_front (th : Nat) (a1 : Int32) : Sim eX1_front vI 0 [(0, qv (some th)), (1, iv a1)] [] (pX1_front th a1) := by
  unfold pX1_front
  refine sm_aload_n (pc' := 1) dX1_front_0 rfl rfl ?_
  refine sm_iload_n (pc' := 2) dX1_front_1 rfl rfl ?_
  refine sm_calli (pc' := 5) (sa := [iv a1, qv (some th)]) (st := []) (iv_X1_73 th a1) (Nat.le_of_ble_eq_true rfl) dX1_front_2 rfl (Nat.le_of_ble_eq_true rfl) (fun v101 => ?_)
  refine sm_lt (fun k103 => ∀ (v102 : Int32), Sim eX1_front vI 21 [] [iv v102] (k103 v102)) ?_ (fun k103 hk103 => ?_)
  · intro v102
    exact sm_ireturn rfl dX1_front_21
  · skip
    refine sm_if_eq (pc' := 8) (pc1 := 19) dX1_front_5 (by decide) rfl (fun _ => ?_) (fun _ => ?_)
    · skip
      refine sm_ldc (pc' := 21) (-1000000 : Int32) w_69 dX1_front_19 rfl ?_
      refine sm_sub [] rfl ?_
      exact hk103 (-1000000 : Int32)
    · skip
      refine sm_aload_n (pc' := 9) dX1_front_8 rfl rfl ?_
      refine sm_getF (pc' := 12) fk_X1_18 yr_2_2 dX1_front_9 rfl (fun v104 => ?_)
      refine sm_iload_n (pc' := 13) dX1_front_12 rfl rfl ?_
      rcases v104 with _ | a105
      · exact sm_unN
      refine sm_unS ?_
      refine sm_iaload (pc' := 14) dX1_front_13 rfl (fun v106 => ?_)
      refine sm_iconst (pc' := 15) (4 : Int32) dX1_front_14 (by decide) rfl ?_
      refine sm_irem (pc' := 16) dX1_front_15 rfl (fun _ v107 _ => ?_)
      refine sm_goto (pc' := 21) dX1_front_16 (by decide) ?_
      refine sm_sub [] rfl ?_
      exact hk103 v107
theorem kX1_front (th : Nat) (a1 : Int32) : Callee 2 yX1_front cX1_front 2 (some .int) [qv (some th), iv a1] vI (pX1_front th a1) := callee_ofS [(0, qv (some th)), (1, iv a1)] (by decide +kernel) (Nat.le_of_ble_eq_true rfl) rfl (sX1_front th a1)
/-! HollowPress$Flow.cellOfMeeting(II)I -/
set_option maxRecDepth 20000 in
theorem iv_X1_81 (a : Nat) (x0 : Int32) : Inv RX1 3 (.invokevirtual 81) [iv x0, qv (some a)] vI (onT a 2 (pX1_front a x0)) := inv_V (As := [iv x0]) (t := 2) (kX1_front a x0) _ (by decide) rfl rfl w_131 w_132 w_133 w_67 w_134 ⟨by decide +kernel, by decide +kernel, by show _ = some 1; decide +kernel⟩ (by decide)
abbrev eX1_cellOfMeeting : Env0 := (RX1, "cellOfMeeting", cX1_cellOfMeeting, 7, (some .int), 3)
def pX1_cellOfMeeting_L17 (th : Nat) (a1 : Int32) (a2 : Int32) (v102 : Int32) (k107 : Int32 → Prg Int32) : Nat → Int32 → Int32 → Prg Int32
  | 0, _, _ => fl
  | n + 1, v105, v106 =>
    (if (2 : Int32) ≤ v106 then k107 v105
    else gF 2 th 1 fun v108 =>
    un v108 fun a109 =>
    ldI a109 (((4 : Int32) * v102) + v106) fun v110 =>
    (lt (fun (v111 : Int32) => pX1_cellOfMeeting_L17 th a1 a2 v102 k107 n v111 (v106 + (1 : Int32)) : Int32 → Prg Int32) fun k112 =>
    (if v110 = (-1000000 : Int32) then k112 v105
    else cl (onT th 2 (pX1_front th v102)) fun v113 =>
    cl (onT th 2 (pX1_front th v110)) fun v114 =>
    (if v113 = v114 then k112 v105
    else (if v105 = a1 then (lt (fun (v115 : Int32) => rt v115 : Int32 → Prg Int32) fun k116 =>
    (if a2 = 0 then k116 v102
    else k116 v110))
    else k112 (v105 + (1 : Int32)))))))
def pX1_cellOfMeeting_L5 (th : Nat) (a1 : Int32) (a2 : Int32) (k103 : Prg Int32) : Nat → Int32 → Int32 → Prg Int32
  | 0, _, _ => fl
  | n + 1, v101, v102 =>
    gI 2 th 6 fun v104 =>
    (if v104 ≤ v102 then k103
    else pX1_cellOfMeeting_L17 th a1 a2 v102 (fun (v117 : Int32) => pX1_cellOfMeeting_L5 th a1 a2 k103 n v117 (v102 + (1 : Int32))) FL v101 (0 : Int32))
def pX1_cellOfMeeting (th : Nat) (a1 : Int32) (a2 : Int32) : Prg Int32 :=
    pX1_cellOfMeeting_L5 th a1 a2 (rt (-1000000 : Int32)) FL (0 : Int32) (0 : Int32)
set_option maxRecDepth 20000 in
theorem sX1_cellOfMeeting_L17 (th : Nat) (a1 : Int32) (a2 : Int32) (v102 : Int32) (k107 : Int32 → Prg Int32) (hk107 : ∀ (q3 : Int32), Sim eX1_cellOfMeeting vI 88 [(0, qv (some th)), (1, iv a1), (2, iv a2), (3, iv q3), (4, iv v102)] [] (k107 q3)) : ∀ (n : Nat), ∀ (v105 : Int32) (v106 : Int32), Sim eX1_cellOfMeeting vI 17 [(0, qv (some th)), (1, iv a1), (2, iv a2), (3, iv v105), (4, iv v102), (5, iv v106)] [] (pX1_cellOfMeeting_L17 th a1 a2 v102 k107 n v105 v106) := by
  intro n
  induction n with
  | zero =>
    intros
    exact sm_fl
  | succ n ih =>
    intro v105 v106
    unfold pX1_cellOfMeeting_L17
    refine sm_iload (pc' := 19) dX1_cellOfMeeting_17 rfl rfl ?_
    refine sm_iconst (pc' := 20) (2 : Int32) dX1_cellOfMeeting_19 (by decide) rfl ?_
    refine sm_icmp_ge (pc' := 23) (pc1 := 88) dX1_cellOfMeeting_20 (by decide) rfl (fun _ => ?_) (fun _ => ?_)
    · skip
      refine sm_sub [0, 1, 2, 3, 4] rfl ?_
      exact hk107 v105
    · skip
      refine sm_aload_n (pc' := 24) dX1_cellOfMeeting_23 rfl rfl ?_
      refine sm_getF (pc' := 27) fk_X1_15 yr_2_1 dX1_cellOfMeeting_24 rfl (fun v108 => ?_)
      refine sm_iconst (pc' := 28) (4 : Int32) dX1_cellOfMeeting_27 (by decide) rfl ?_
      refine sm_iload (pc' := 30) dX1_cellOfMeeting_28 rfl rfl ?_
      refine sm_imul (pc' := 31) dX1_cellOfMeeting_30 rfl ?_
      refine sm_iload (pc' := 33) dX1_cellOfMeeting_31 rfl rfl ?_
      refine sm_iadd (pc' := 34) dX1_cellOfMeeting_33 rfl ?_
      rcases v108 with _ | a109
      · exact sm_unN
      refine sm_unS ?_
      refine sm_iaload (pc' := 35) dX1_cellOfMeeting_34 rfl (fun v110 => ?_)
      refine sm_istore (pc' := 37) [(6, iv v110), (0, qv (some th)), (1, iv a1), (2, iv a2), (3, iv v105), (4, iv v102), (5, iv v106)] dX1_cellOfMeeting_35  (Nat.le_of_ble_eq_true rfl) rfl rfl ?_
      refine sm_iload (pc' := 39) dX1_cellOfMeeting_37 rfl rfl ?_
      refine sm_ldc (pc' := 41) (-1000000 : Int32) w_69 dX1_cellOfMeeting_39 rfl ?_
      refine sm_lt (fun k112 => ∀ (v111 : Int32), Sim eX1_cellOfMeeting vI 82 [(0, qv (some th)), (1, iv a1), (2, iv a2), (3, iv v111), (4, iv v102), (5, iv v106)] [] (k112 v111)) ?_ (fun k112 hk112 => ?_)
      · intro v111
        refine sm_iinc (pc' := 85) (v106 + (1 : Int32)) [(5, iv (v106 + (1 : Int32))), (0, qv (some th)), (1, iv a1), (2, iv a2), (3, iv v111), (4, iv v102)] dX1_cellOfMeeting_82 rfl rfl (Nat.le_of_ble_eq_true rfl) rfl rfl ?_
        refine sm_goto (pc' := 17) dX1_cellOfMeeting_85 (by decide) ?_
        refine sm_sub [1, 2, 3, 4, 5, 0] rfl ?_
        exact ih v111 (v106 + (1 : Int32))
      · skip
        refine sm_icmp_eq (pc' := 44) (pc1 := 82) dX1_cellOfMeeting_41 (by decide) rfl (fun _ => ?_) (fun _ => ?_)
        · skip
          refine sm_sub [1, 2, 3, 4, 5, 6] rfl ?_
          exact hk112 v105
        · skip
          refine sm_aload_n (pc' := 45) dX1_cellOfMeeting_44 rfl rfl ?_
          refine sm_iload (pc' := 47) dX1_cellOfMeeting_45 rfl rfl ?_
          refine sm_calli (pc' := 50) (sa := [iv v102, qv (some th)]) (st := []) (iv_X1_81 th v102) (Nat.le_of_ble_eq_true rfl) dX1_cellOfMeeting_47 rfl (Nat.le_of_ble_eq_true rfl) (fun v113 => ?_)
          refine sm_aload_n (pc' := 51) dX1_cellOfMeeting_50 rfl rfl ?_
          refine sm_iload (pc' := 53) dX1_cellOfMeeting_51 rfl rfl ?_
          refine sm_calli (pc' := 56) (sa := [iv v110, qv (some th)]) (st := [iv v113]) (iv_X1_81 th v110) (Nat.le_of_ble_eq_true rfl) dX1_cellOfMeeting_53 rfl (Nat.le_of_ble_eq_true rfl) (fun v114 => ?_)
          refine sm_icmp_ne (pc' := 59) (pc1 := 62) dX1_cellOfMeeting_56 (by decide) rfl (fun _ => ?_) (fun _ => ?_)
          · skip
            refine sm_iload_n (pc' := 63) dX1_cellOfMeeting_62 rfl rfl ?_
            refine sm_iload_n (pc' := 64) dX1_cellOfMeeting_63 rfl rfl ?_
            refine sm_icmp_ne (pc' := 67) (pc1 := 79) dX1_cellOfMeeting_64 (by decide) rfl (fun _ => ?_) (fun _ => ?_)
            · skip
              refine sm_iinc (pc' := 82) (v105 + (1 : Int32)) [(3, iv (v105 + (1 : Int32))), (6, iv v110), (0, qv (some th)), (1, iv a1), (2, iv a2), (4, iv v102), (5, iv v106)] dX1_cellOfMeeting_79 rfl rfl (Nat.le_of_ble_eq_true rfl) rfl rfl ?_
              refine sm_sub [2, 3, 4, 0, 5, 6] rfl ?_
              exact hk112 (v105 + (1 : Int32))
            · skip
              refine sm_iload_n (pc' := 68) dX1_cellOfMeeting_67 rfl rfl ?_
              refine sm_lt (fun k116 => ∀ (v115 : Int32), Sim eX1_cellOfMeeting vI 78 [] [iv v115] (k116 v115)) ?_ (fun k116 hk116 => ?_)
              · intro v115
                exact sm_ireturn rfl dX1_cellOfMeeting_78
              · skip
                refine sm_if_ne (pc' := 71) (pc1 := 76) dX1_cellOfMeeting_68 (by decide) rfl (fun _ => ?_) (fun _ => ?_)
                · skip
                  refine sm_iload (pc' := 78) dX1_cellOfMeeting_76 rfl rfl ?_
                  refine sm_sub [] rfl ?_
                  exact hk116 v110
                · skip
                  refine sm_iload (pc' := 73) dX1_cellOfMeeting_71 rfl rfl ?_
                  refine sm_goto (pc' := 78) dX1_cellOfMeeting_73 (by decide) ?_
                  refine sm_sub [] rfl ?_
                  exact hk116 v102
          · skip
            refine sm_goto (pc' := 82) dX1_cellOfMeeting_59 (by decide) ?_
            refine sm_sub [1, 2, 3, 4, 5, 6] rfl ?_
            exact hk112 v105
set_option maxRecDepth 20000 in
theorem sX1_cellOfMeeting_L5 (th : Nat) (a1 : Int32) (a2 : Int32) (k103 : Prg Int32) (hk103 : Sim eX1_cellOfMeeting vI 94 [] [] (k103)) : ∀ (n : Nat), ∀ (v101 : Int32) (v102 : Int32), Sim eX1_cellOfMeeting vI 5 [(0, qv (some th)), (1, iv a1), (2, iv a2), (3, iv v101), (4, iv v102)] [] (pX1_cellOfMeeting_L5 th a1 a2 k103 n v101 v102) := by
  intro n
  induction n with
  | zero =>
    intros
    exact sm_fl
  | succ n ih =>
    intro v101 v102
    unfold pX1_cellOfMeeting_L5
    refine sm_iload (pc' := 7) dX1_cellOfMeeting_5 rfl rfl ?_
    refine sm_aload_n (pc' := 8) dX1_cellOfMeeting_7 rfl rfl ?_
    refine sm_getI (pc' := 11) fk_X1_30 nr_2_6 dX1_cellOfMeeting_8 rfl (fun v104 => ?_)
    refine sm_icmp_ge (pc' := 14) (pc1 := 94) dX1_cellOfMeeting_11 (by decide) rfl (fun _ => ?_) (fun _ => ?_)
    · skip
      refine sm_sub [] rfl ?_
      exact hk103
    · skip
      refine sm_iconst (pc' := 15) (0 : Int32) dX1_cellOfMeeting_14 (by decide) rfl ?_
      refine sm_istore (pc' := 17) [(5, iv (0 : Int32)), (0, qv (some th)), (1, iv a1), (2, iv a2), (3, iv v101), (4, iv v102)] dX1_cellOfMeeting_15  (Nat.le_of_ble_eq_true rfl) rfl rfl ?_
      refine sm_sub [1, 2, 3, 4, 5, 0] rfl ?_
      refine sX1_cellOfMeeting_L17 th a1 a2 v102 _ ?_ FL v101 (0 : Int32)
      · intro v117
        refine sm_iinc (pc' := 91) (v102 + (1 : Int32)) [(4, iv (v102 + (1 : Int32))), (0, qv (some th)), (1, iv a1), (2, iv a2), (3, iv v117)] dX1_cellOfMeeting_88 rfl rfl (Nat.le_of_ble_eq_true rfl) rfl rfl ?_
        refine sm_goto (pc' := 5) dX1_cellOfMeeting_91 (by decide) ?_
        refine sm_sub [1, 2, 3, 4, 0] rfl ?_
        exact ih v117 (v102 + (1 : Int32))
set_option maxRecDepth 20000 in
theorem sX1_cellOfMeeting (th : Nat) (a1 : Int32) (a2 : Int32) : Sim eX1_cellOfMeeting vI 0 [(0, qv (some th)), (1, iv a1), (2, iv a2)] [] (pX1_cellOfMeeting th a1 a2) := by
  unfold pX1_cellOfMeeting
  refine sm_iconst (pc' := 1) (0 : Int32) dX1_cellOfMeeting_0 (by decide) rfl ?_
  refine sm_istore_n (pc' := 2) [(3, iv (0 : Int32)), (0, qv (some th)), (1, iv a1), (2, iv a2)] dX1_cellOfMeeting_1 rfl (Nat.le_of_ble_eq_true rfl) rfl rfl ?_
  refine sm_iconst (pc' := 3) (0 : Int32) dX1_cellOfMeeting_2 (by decide) rfl ?_
  refine sm_istore (pc' := 5) [(4, iv (0 : Int32)), (3, iv (0 : Int32)), (0, qv (some th)), (1, iv a1), (2, iv a2)] dX1_cellOfMeeting_3  (Nat.le_of_ble_eq_true rfl) rfl rfl ?_
  refine sm_sub [2, 3, 4, 1, 0] rfl ?_
  refine sX1_cellOfMeeting_L5 th a1 a2 _ ?_ FL (0 : Int32) (0 : Int32)
  · skip
    refine sm_ldc (pc' := 96) (-1000000 : Int32) w_69 dX1_cellOfMeeting_94 rfl ?_
    exact sm_ireturn rfl dX1_cellOfMeeting_96
theorem kX1_cellOfMeeting (th : Nat) (a1 : Int32) (a2 : Int32) : Callee 3 yX1_cellOfMeeting cX1_cellOfMeeting 7 (some .int) [qv (some th), iv a1, iv a2] vI (pX1_cellOfMeeting th a1 a2) := callee_ofS [(0, qv (some th)), (1, iv a1), (2, iv a2)] (by decide +kernel) (Nat.le_of_ble_eq_true rfl) rfl (sX1_cellOfMeeting th a1 a2)
/-! HollowPress$Flow.isLastAround(I)Z -/
abbrev eX1_isLastAround : Env0 := (RX1, "isLastAround", cX1_isLastAround, 4, (some .boolean), 2)
def pX1_isLastAround_L2 (th : Nat) (a1 : Int32) (k102 : Prg Int32) : Nat → Int32 → Prg Int32
  | 0, _ => fl
  | n + 1, v101 =>
    (if (4 : Int32) ≤ v101 then k102
    else gF 2 th 1 fun v103 =>
    un v103 fun a104 =>
    ldI a104 (((4 : Int32) * a1) + v101) fun v105 =>
    (lt (pX1_isLastAround_L2 th a1 k102 n (v101 + (1 : Int32)) : Prg Int32) fun k106 =>
    (if v105 = (-1000000 : Int32) then k106
    else cl (onT th 2 (pX1_reached th v105)) fun v107 =>
    (if v107 = 0 then k106
    else gF 2 th 4 fun v108 =>
    un v108 fun a109 =>
    ldI a109 v105 fun v110 =>
    gF 2 th 4 fun v111 =>
    un v111 fun a112 =>
    ldI a112 a1 fun v113 =>
    (if v110 ≤ v113 then k106
    else rtZ (0 : Int32))))))
def pX1_isLastAround (th : Nat) (a1 : Int32) : Prg Int32 :=
    pX1_isLastAround_L2 th a1 (rtZ (1 : Int32)) FL (0 : Int32)
set_option maxRecDepth 20000 in
theorem sX1_isLastAround_L2 (th : Nat) (a1 : Int32) (k102 : Prg Int32) (hk102 : Sim eX1_isLastAround vI 55 [] [] (k102)) : ∀ (n : Nat), ∀ (v101 : Int32), Sim eX1_isLastAround vI 2 [(0, qv (some th)), (1, iv a1), (2, iv v101)] [] (pX1_isLastAround_L2 th a1 k102 n v101) := by
  intro n
  induction n with
  | zero =>
    intros
    exact sm_fl
  | succ n ih =>
    intro v101
    unfold pX1_isLastAround_L2
    refine sm_iload_n (pc' := 3) dX1_isLastAround_2 rfl rfl ?_
    refine sm_iconst (pc' := 4) (4 : Int32) dX1_isLastAround_3 (by decide) rfl ?_
    refine sm_icmp_ge (pc' := 7) (pc1 := 55) dX1_isLastAround_4 (by decide) rfl (fun _ => ?_) (fun _ => ?_)
    · skip
      refine sm_sub [] rfl ?_
      exact hk102
    · skip
      refine sm_aload_n (pc' := 8) dX1_isLastAround_7 rfl rfl ?_
      refine sm_getF (pc' := 11) fk_X1_15 yr_2_1 dX1_isLastAround_8 rfl (fun v103 => ?_)
      refine sm_iconst (pc' := 12) (4 : Int32) dX1_isLastAround_11 (by decide) rfl ?_
      refine sm_iload_n (pc' := 13) dX1_isLastAround_12 rfl rfl ?_
      refine sm_imul (pc' := 14) dX1_isLastAround_13 rfl ?_
      refine sm_iload_n (pc' := 15) dX1_isLastAround_14 rfl rfl ?_
      refine sm_iadd (pc' := 16) dX1_isLastAround_15 rfl ?_
      rcases v103 with _ | a104
      · exact sm_unN
      refine sm_unS ?_
      refine sm_iaload (pc' := 17) dX1_isLastAround_16 rfl (fun v105 => ?_)
      refine sm_istore_n (pc' := 18) [(3, iv v105), (0, qv (some th)), (1, iv a1), (2, iv v101)] dX1_isLastAround_17 rfl (Nat.le_of_ble_eq_true rfl) rfl rfl ?_
      refine sm_iload_n (pc' := 19) dX1_isLastAround_18 rfl rfl ?_
      refine sm_ldc (pc' := 21) (-1000000 : Int32) w_69 dX1_isLastAround_19 rfl ?_
      refine sm_lt (fun k106 => Sim eX1_isLastAround vI 49 [(0, qv (some th)), (1, iv a1), (2, iv v101)] [] (k106)) ?_ (fun k106 hk106 => ?_)
      · skip
        refine sm_iinc (pc' := 52) (v101 + (1 : Int32)) [(2, iv (v101 + (1 : Int32))), (0, qv (some th)), (1, iv a1)] dX1_isLastAround_49 rfl rfl (Nat.le_of_ble_eq_true rfl) rfl rfl ?_
        refine sm_goto (pc' := 2) dX1_isLastAround_52 (by decide) ?_
        refine sm_sub [1, 2, 0] rfl ?_
        exact ih (v101 + (1 : Int32))
      · skip
        refine sm_icmp_eq (pc' := 24) (pc1 := 49) dX1_isLastAround_21 (by decide) rfl (fun _ => ?_) (fun _ => ?_)
        · skip
          refine sm_sub [1, 2, 3] rfl ?_
          exact hk106
        · skip
          refine sm_aload_n (pc' := 25) dX1_isLastAround_24 rfl rfl ?_
          refine sm_iload_n (pc' := 26) dX1_isLastAround_25 rfl rfl ?_
          refine sm_calli (pc' := 29) (sa := [iv v105, qv (some th)]) (st := []) (iv_X1_73 th v105) (Nat.le_of_ble_eq_true rfl) dX1_isLastAround_26 rfl (Nat.le_of_ble_eq_true rfl) (fun v107 => ?_)
          refine sm_if_eq (pc' := 32) (pc1 := 49) dX1_isLastAround_29 (by decide) rfl (fun _ => ?_) (fun _ => ?_)
          · skip
            refine sm_sub [1, 2, 3] rfl ?_
            exact hk106
          · skip
            refine sm_aload_n (pc' := 33) dX1_isLastAround_32 rfl rfl ?_
            refine sm_getF (pc' := 36) fk_X1_24 yr_2_4 dX1_isLastAround_33 rfl (fun v108 => ?_)
            refine sm_iload_n (pc' := 37) dX1_isLastAround_36 rfl rfl ?_
            rcases v108 with _ | a109
            · exact sm_unN
            refine sm_unS ?_
            refine sm_iaload (pc' := 38) dX1_isLastAround_37 rfl (fun v110 => ?_)
            refine sm_aload_n (pc' := 39) dX1_isLastAround_38 rfl rfl ?_
            refine sm_getF (pc' := 42) fk_X1_24 yr_2_4 dX1_isLastAround_39 rfl (fun v111 => ?_)
            refine sm_iload_n (pc' := 43) dX1_isLastAround_42 rfl rfl ?_
            rcases v111 with _ | a112
            · exact sm_unN
            refine sm_unS ?_
            refine sm_iaload (pc' := 44) dX1_isLastAround_43 rfl (fun v113 => ?_)
            refine sm_icmp_le (pc' := 47) (pc1 := 49) dX1_isLastAround_44 (by decide) rfl (fun _ => ?_) (fun _ => ?_)
            · skip
              refine sm_sub [1, 2, 3] rfl ?_
              exact hk106
            · skip
              refine sm_iconst (pc' := 48) (0 : Int32) dX1_isLastAround_47 (by decide) rfl ?_
              exact sm_zreturn rfl dX1_isLastAround_48
set_option maxRecDepth 20000 in
theorem sX1_isLastAround (th : Nat) (a1 : Int32) : Sim eX1_isLastAround vI 0 [(0, qv (some th)), (1, iv a1)] [] (pX1_isLastAround th a1) := by
  unfold pX1_isLastAround
  refine sm_iconst (pc' := 1) (0 : Int32) dX1_isLastAround_0 (by decide) rfl ?_
  refine sm_istore_n (pc' := 2) [(2, iv (0 : Int32)), (0, qv (some th)), (1, iv a1)] dX1_isLastAround_1 rfl (Nat.le_of_ble_eq_true rfl) rfl rfl ?_
  refine sm_sub [1, 2, 0] rfl ?_
  refine sX1_isLastAround_L2 th a1 _ ?_ FL (0 : Int32)
  · skip
    refine sm_iconst (pc' := 56) (1 : Int32) dX1_isLastAround_55 (by decide) rfl ?_
    exact sm_zreturn rfl dX1_isLastAround_56
theorem kX1_isLastAround (th : Nat) (a1 : Int32) : Callee 2 yX1_isLastAround cX1_isLastAround 4 (some .boolean) [qv (some th), iv a1] vI (pX1_isLastAround th a1) := callee_ofS [(0, qv (some th)), (1, iv a1)] (by decide +kernel) (Nat.le_of_ble_eq_true rfl) rfl (sX1_isLastAround th a1)
/-! HollowPress$Part.hasVent(I)Z -/
abbrev eX3_hasVent : Env0 := (RX3, "hasVent", cX3_hasVent, 2, (some .boolean), 1)
def pX3_hasVent (th : Nat) (a1 : Int32) : Prg Int32 :=
    gF 4 th 3 fun v101 =>
    un v101 fun a102 =>
    ln a102 fun v103 =>
    cl (pX10_below a1 v103) fun v104 =>
    (lt (fun (v105 : Int32) => rtZ v105 : Int32 → Prg Int32) fun k106 =>
    (lt (k106 (0 : Int32) : Prg Int32) fun k107 =>
    (if v104 = 0 then k107
    else gF 4 th 3 fun v108 =>
    un v108 fun a109 =>
    ldZ a109 a1 fun v110 =>
    (if v110 = 0 then k107
    else k106 (1 : Int32)))))
set_option maxRecDepth 20000 in
theorem sX3_hasVent (th : Nat) (a1 : Int32) : Sim eX3_hasVent vI 0 [(0, qv (some th)), (1, iv a1)] [] (pX3_hasVent th a1) := by
  unfold pX3_hasVent
  refine sm_iload_n (pc' := 1) dX3_hasVent_0 rfl rfl ?_
  refine sm_aload_n (pc' := 2) dX3_hasVent_1 rfl rfl ?_
  refine sm_getF (pc' := 5) fk_X3_39 yr_4_3 dX3_hasVent_2 rfl (fun v101 => ?_)
  rcases v101 with _ | a102
  · exact sm_unN
  refine sm_unS ?_
  refine sm_alen (pc' := 6) dX3_hasVent_5 rfl (fun v103 => ?_)
  refine sm_calli (pc' := 9) (sa := [iv v103, iv a1]) (st := []) (iv_X3_57 a1 v103) (Nat.le_of_ble_eq_true rfl) dX3_hasVent_6 rfl (Nat.le_of_ble_eq_true rfl) (fun v104 => ?_)
  refine sm_lt (fun k106 => ∀ (v105 : Int32), Sim eX3_hasVent vI 26 [] [iv v105] (k106 v105)) ?_ (fun k106 hk106 => ?_)
  · intro v105
    exact sm_zreturn rfl dX3_hasVent_26
  · skip
    refine sm_lt (fun k107 => Sim eX3_hasVent vI 25 [] [] (k107)) ?_ (fun k107 hk107 => ?_)
    · skip
      refine sm_iconst (pc' := 26) (0 : Int32) dX3_hasVent_25 (by decide) rfl ?_
      exact hk106 (0 : Int32)
    · skip
      refine sm_if_eq (pc' := 12) (pc1 := 25) dX3_hasVent_9 (by decide) rfl (fun _ => ?_) (fun _ => ?_)
      · skip
        refine sm_sub [] rfl ?_
        exact hk107
      · skip
        refine sm_aload_n (pc' := 13) dX3_hasVent_12 rfl rfl ?_
        refine sm_getF (pc' := 16) fk_X3_39 yr_4_3 dX3_hasVent_13 rfl (fun v108 => ?_)
        refine sm_iload_n (pc' := 17) dX3_hasVent_16 rfl rfl ?_
        rcases v108 with _ | a109
        · exact sm_unN
        refine sm_unS ?_
        refine sm_zaload (pc' := 18) dX3_hasVent_17 rfl (fun v110 => ?_)
        refine sm_if_eq (pc' := 21) (pc1 := 25) dX3_hasVent_18 (by decide) rfl (fun _ => ?_) (fun _ => ?_)
        · skip
          refine sm_sub [] rfl ?_
          exact hk107
        · skip
          refine sm_iconst (pc' := 22) (1 : Int32) dX3_hasVent_21 (by decide) rfl ?_
          refine sm_goto (pc' := 26) dX3_hasVent_22 (by decide) ?_
          refine sm_sub [] rfl ?_
          exact hk106 (1 : Int32)
theorem kX3_hasVent (th : Nat) (a1 : Int32) : Callee 1 yX3_hasVent cX3_hasVent 2 (some .boolean) [qv (some th), iv a1] vI (pX3_hasVent th a1) := callee_ofS [(0, qv (some th)), (1, iv a1)] (by decide +kernel) (Nat.le_of_ble_eq_true rfl) rfl (sX3_hasVent th a1)
/-! HollowPress$Flow.cellOfTrap(ILHollowPress$Part;)I -/
set_option maxRecDepth 20000 in
theorem iv_X1_84 (a : Nat) (x0 : Int32) : Inv RX1 2 (.invokevirtual 84) [iv x0, qv (some a)] vI (or2 a 4 (pX3_hasVent a x0) (or2 a 1 (pX3_hasVent a x0) (onT a 5 (pX3_hasVent a x0)))) := inv_or (inv_V (As := [iv x0]) (t := 4) (kX3_hasVent a x0) _ (by decide) rfl rfl w_136 w_137 w_138 w_25 w_139 ⟨by decide +kernel, by decide +kernel, by show _ = some 1; decide +kernel⟩ (by decide)) (inv_or (inv_U (As := [iv x0]) (t := 1) (owner := "HollowPress$Part") (xn := ⟨"HollowPress$Part", "hasVent", "(I)Z"⟩) (kX3_hasVent a x0) _ (by decide) rfl w_136 w_140 (Or.inr ⟨w_137, cX3_hasVent, 2, (some .boolean), w_139⟩) w_141 w_137 w_25 w_139 ⟨by decide +kernel, by decide +kernel, by show _ = some 1; decide +kernel⟩ (by decide)) (inv_U (As := [iv x0]) (t := 5) (owner := "HollowPress$Part") (xn := ⟨"HollowPress$Part", "hasVent", "(I)Z"⟩) (kX3_hasVent a x0) _ (by decide) rfl w_136 w_140 (Or.inr ⟨w_137, cX3_hasVent, 2, (some .boolean), w_139⟩) w_142 w_137 w_25 w_139 ⟨by decide +kernel, by decide +kernel, by show _ = some 1; decide +kernel⟩ (by decide)))
set_option maxRecDepth 20000 in
theorem iv_X1_87 (a : Nat) (x0 : Int32) : Inv RX1 3 (.invokevirtual 87) [iv x0, qv (some a)] vI (onT a 2 (pX1_isLastAround a x0)) := inv_V (As := [iv x0]) (t := 2) (kX1_isLastAround a x0) _ (by decide) rfl rfl w_143 w_144 w_145 w_67 w_146 ⟨by decide +kernel, by decide +kernel, by show _ = some 1; decide +kernel⟩ (by decide)
abbrev eX1_cellOfTrap : Env0 := (RX1, "cellOfTrap", cX1_cellOfTrap, 5, (some .int), 3)
def pX1_cellOfTrap_L5 (th : Nat) (a1 : Int32) (a2 : Option Nat) (k103 : Prg Int32) : Nat → Int32 → Int32 → Prg Int32
  | 0, _, _ => fl
  | n + 1, v101, v102 =>
    gI 2 th 6 fun v104 =>
    (if v104 ≤ v102 then k103
    else cl (onT th 2 (pX1_reached th v102)) fun v105 =>
    (lt (fun (v106 : Int32) => pX1_cellOfTrap_L5 th a1 a2 k103 n v106 (v102 + (1 : Int32)) : Int32 → Prg Int32) fun k107 =>
    (if v105 = 0 then k107 v101
    else un a2 fun a108 =>
    cl (or2 a108 4 (pX3_hasVent a108 v102) (or2 a108 1 (pX3_hasVent a108 v102) (onT a108 5 (pX3_hasVent a108 v102)))) fun v109 =>
    (if v109 = 0 then cl (onT th 2 (pX1_isLastAround th v102)) fun v110 =>
    (if v110 = 0 then k107 v101
    else (if v101 = a1 then rt v102
    else k107 (v101 + (1 : Int32))))
    else k107 v101))))
def pX1_cellOfTrap (th : Nat) (a1 : Int32) (a2 : Option Nat) : Prg Int32 :=
    pX1_cellOfTrap_L5 th a1 a2 (rt (-1000000 : Int32)) FL (0 : Int32) (0 : Int32)
set_option maxRecDepth 20000 in
theorem sX1_cellOfTrap_L5 (th : Nat) (a1 : Int32) (a2 : Option Nat) (k103 : Prg Int32) (hk103 : Sim eX1_cellOfTrap vI 61 [] [] (k103)) : ∀ (n : Nat), ∀ (v101 : Int32) (v102 : Int32), Sim eX1_cellOfTrap vI 5 [(0, qv (some th)), (1, iv a1), (2, qv a2), (3, iv v101), (4, iv v102)] [] (pX1_cellOfTrap_L5 th a1 a2 k103 n v101 v102) := by
  intro n
  induction n with
  | zero =>
    intros
    exact sm_fl
  | succ n ih =>
    intro v101 v102
    unfold pX1_cellOfTrap_L5
    refine sm_iload (pc' := 7) dX1_cellOfTrap_5 rfl rfl ?_
    refine sm_aload_n (pc' := 8) dX1_cellOfTrap_7 rfl rfl ?_
    refine sm_getI (pc' := 11) fk_X1_30 nr_2_6 dX1_cellOfTrap_8 rfl (fun v104 => ?_)
    refine sm_icmp_ge (pc' := 14) (pc1 := 61) dX1_cellOfTrap_11 (by decide) rfl (fun _ => ?_) (fun _ => ?_)
    · skip
      refine sm_sub [] rfl ?_
      exact hk103
    · skip
      refine sm_aload_n (pc' := 15) dX1_cellOfTrap_14 rfl rfl ?_
      refine sm_iload (pc' := 17) dX1_cellOfTrap_15 rfl rfl ?_
      refine sm_calli (pc' := 20) (sa := [iv v102, qv (some th)]) (st := []) (iv_X1_73 th v102) (Nat.le_of_ble_eq_true rfl) dX1_cellOfTrap_17 rfl (Nat.le_of_ble_eq_true rfl) (fun v105 => ?_)
      refine sm_lt (fun k107 => ∀ (v106 : Int32), Sim eX1_cellOfTrap vI 55 [(0, qv (some th)), (1, iv a1), (2, qv a2), (3, iv v106), (4, iv v102)] [] (k107 v106)) ?_ (fun k107 hk107 => ?_)
      · intro v106
        refine sm_iinc (pc' := 58) (v102 + (1 : Int32)) [(4, iv (v102 + (1 : Int32))), (0, qv (some th)), (1, iv a1), (2, qv a2), (3, iv v106)] dX1_cellOfTrap_55 rfl rfl (Nat.le_of_ble_eq_true rfl) rfl rfl ?_
        refine sm_goto (pc' := 5) dX1_cellOfTrap_58 (by decide) ?_
        refine sm_sub [1, 2, 3, 4, 0] rfl ?_
        exact ih v106 (v102 + (1 : Int32))
      · skip
        refine sm_if_eq (pc' := 23) (pc1 := 55) dX1_cellOfTrap_20 (by decide) rfl (fun _ => ?_) (fun _ => ?_)
        · skip
          exact hk107 v101
        · skip
          refine sm_aload_n (pc' := 24) dX1_cellOfTrap_23 rfl rfl ?_
          refine sm_iload (pc' := 26) dX1_cellOfTrap_24 rfl rfl ?_
          rcases a2 with _ | a108
          · exact sm_unN
          refine sm_unS ?_
          refine sm_calli (pc' := 29) (sa := [iv v102, qv (some a108)]) (st := []) (iv_X1_84 a108 v102) (Nat.le_of_ble_eq_true rfl) dX1_cellOfTrap_26 rfl (Nat.le_of_ble_eq_true rfl) (fun v109 => ?_)
          refine sm_if_ne (pc' := 32) (pc1 := 55) dX1_cellOfTrap_29 (by decide) rfl (fun _ => ?_) (fun _ => ?_)
          · skip
            exact hk107 v101
          · skip
            refine sm_aload_n (pc' := 33) dX1_cellOfTrap_32 rfl rfl ?_
            refine sm_iload (pc' := 35) dX1_cellOfTrap_33 rfl rfl ?_
            refine sm_calli (pc' := 38) (sa := [iv v102, qv (some th)]) (st := []) (iv_X1_87 th v102) (Nat.le_of_ble_eq_true rfl) dX1_cellOfTrap_35 rfl (Nat.le_of_ble_eq_true rfl) (fun v110 => ?_)
            refine sm_if_ne (pc' := 41) (pc1 := 44) dX1_cellOfTrap_38 (by decide) rfl (fun _ => ?_) (fun _ => ?_)
            · skip
              refine sm_iload_n (pc' := 45) dX1_cellOfTrap_44 rfl rfl ?_
              refine sm_iload_n (pc' := 46) dX1_cellOfTrap_45 rfl rfl ?_
              refine sm_icmp_ne (pc' := 49) (pc1 := 52) dX1_cellOfTrap_46 (by decide) rfl (fun _ => ?_) (fun _ => ?_)
              · skip
                refine sm_iinc (pc' := 55) (v101 + (1 : Int32)) [(3, iv (v101 + (1 : Int32))), (0, qv (some th)), (1, iv a1), (2, qv (some a108)), (4, iv v102)] dX1_cellOfTrap_52 rfl rfl (Nat.le_of_ble_eq_true rfl) rfl rfl ?_
                refine sm_sub [1, 2, 3, 0, 4] rfl ?_
                exact hk107 (v101 + (1 : Int32))
              · skip
                refine sm_iload (pc' := 51) dX1_cellOfTrap_49 rfl rfl ?_
                exact sm_ireturn rfl dX1_cellOfTrap_51
            · skip
              refine sm_goto (pc' := 55) dX1_cellOfTrap_41 (by decide) ?_
              exact hk107 v101
set_option maxRecDepth 20000 in
theorem sX1_cellOfTrap (th : Nat) (a1 : Int32) (a2 : Option Nat) : Sim eX1_cellOfTrap vI 0 [(0, qv (some th)), (1, iv a1), (2, qv a2)] [] (pX1_cellOfTrap th a1 a2) := by
  unfold pX1_cellOfTrap
  refine sm_iconst (pc' := 1) (0 : Int32) dX1_cellOfTrap_0 (by decide) rfl ?_
  refine sm_istore_n (pc' := 2) [(3, iv (0 : Int32)), (0, qv (some th)), (1, iv a1), (2, qv a2)] dX1_cellOfTrap_1 rfl (Nat.le_of_ble_eq_true rfl) rfl rfl ?_
  refine sm_iconst (pc' := 3) (0 : Int32) dX1_cellOfTrap_2 (by decide) rfl ?_
  refine sm_istore (pc' := 5) [(4, iv (0 : Int32)), (3, iv (0 : Int32)), (0, qv (some th)), (1, iv a1), (2, qv a2)] dX1_cellOfTrap_3  (Nat.le_of_ble_eq_true rfl) rfl rfl ?_
  refine sm_sub [2, 3, 4, 1, 0] rfl ?_
  refine sX1_cellOfTrap_L5 th a1 a2 _ ?_ FL (0 : Int32) (0 : Int32)
  · skip
    refine sm_ldc (pc' := 63) (-1000000 : Int32) w_69 dX1_cellOfTrap_61 rfl ?_
    exact sm_ireturn rfl dX1_cellOfTrap_63
theorem kX1_cellOfTrap (th : Nat) (a1 : Int32) (a2 : Option Nat) : Callee 3 yX1_cellOfTrap cX1_cellOfTrap 5 (some .int) [qv (some th), iv a1, qv a2] vI (pX1_cellOfTrap th a1 a2) := callee_ofS [(0, qv (some th)), (1, iv a1), (2, qv a2)] (by decide +kernel) (Nat.le_of_ble_eq_true rfl) rfl (sX1_cellOfTrap th a1 a2)
/-! HollowPress$Flow.putInOrder()V -/
abbrev eX1_putInOrder : Env0 := (RX1, "putInOrder", cX1_putInOrder, 3, none, 3)
def pX1_putInOrder_L31 (th : Nat) (v101 : Int32) (k108 : Int32 → Prg Unit) : Nat → Int32 → Prg Unit
  | 0, _ => fl
  | n + 1, v107 =>
    (if v107 ≤ 0 then k108 v107
    else gF 2 th 3 fun v109 =>
    un v109 fun a110 =>
    ldI a110 (v107 - (1 : Int32)) fun v111 =>
    cl (onT th 2 (pX1_strain th v111)) fun v112 =>
    cl (onT th 2 (pX1_strain th v101)) fun v113 =>
    (if v112 ≤ v113 then k108 v107
    else gF 2 th 3 fun v114 =>
    gF 2 th 3 fun v115 =>
    un v115 fun a116 =>
    ldI a116 (v107 - (1 : Int32)) fun v117 =>
    un v114 fun a118 =>
    stI a118 v107 v117 (
    pX1_putInOrder_L31 th v101 k108 n (v107 + (-1 : Int32)))))
def pX1_putInOrder_L7 (th : Nat) (k102 : Prg Unit) : Nat → Int32 → Prg Unit
  | 0, _ => fl
  | n + 1, v101 =>
    gI 2 th 6 fun v103 =>
    (if v103 ≤ v101 then k102
    else cl (onT th 2 (pX1_reached th v101)) fun v104 =>
    (lt (pX1_putInOrder_L7 th k102 n (v101 + (1 : Int32)) : Prg Unit) fun k105 =>
    (if v104 = 0 then k105
    else gI 2 th 7 fun v106 =>
    pX1_putInOrder_L31 th v101 (fun (v119 : Int32) => gF 2 th 3 fun v120 =>
    un v120 fun a121 =>
    stI a121 v119 v101 (
    gI 2 th 7 fun v122 =>
    pI 2 th 7 (v122 + (1 : Int32)) (
    k105))) FL v106)))
def pX1_putInOrder_L100 (th : Nat) (k124 : Prg Unit) : Nat → Int32 → Prg Unit
  | 0, _ => fl
  | n + 1, v123 =>
    gI 2 th 7 fun v125 =>
    (if v125 ≤ v123 then k124
    else gF 2 th 4 fun v126 =>
    gF 2 th 3 fun v127 =>
    un v127 fun a128 =>
    ldI a128 v123 fun v129 =>
    un v126 fun a130 =>
    stI a130 v129 v123 (
    pX1_putInOrder_L100 th k124 n (v123 + (1 : Int32))))
def pX1_putInOrder (th : Nat) : Prg Unit :=
    pI 2 th 7 (0 : Int32) (
    pX1_putInOrder_L7 th (pX1_putInOrder_L100 th (rt ()) FL (0 : Int32)) FL (0 : Int32))
set_option maxRecDepth 20000 in
theorem sX1_putInOrder_L31 (th : Nat) (v101 : Int32) (k108 : Int32 → Prg Unit) (hk108 : ∀ (q2 : Int32), Sim eX1_putInOrder vU 75 [(0, qv (some th)), (1, iv v101), (2, iv q2)] [] (k108 q2)) : ∀ (n : Nat), ∀ (v107 : Int32), Sim eX1_putInOrder vU 31 [(0, qv (some th)), (1, iv v101), (2, iv v107)] [] (pX1_putInOrder_L31 th v101 k108 n v107) := by
  intro n
  induction n with
  | zero =>
    intros
    exact sm_fl
  | succ n ih =>
    intro v107
    unfold pX1_putInOrder_L31
    refine sm_iload_n (pc' := 32) dX1_putInOrder_31 rfl rfl ?_
    refine sm_if_le (pc' := 35) (pc1 := 75) dX1_putInOrder_32 (by decide) rfl (fun _ => ?_) (fun _ => ?_)
    · skip
      exact hk108 v107
    · skip
      refine sm_aload_n (pc' := 36) dX1_putInOrder_35 rfl rfl ?_
      refine sm_aload_n (pc' := 37) dX1_putInOrder_36 rfl rfl ?_
      refine sm_getF (pc' := 40) fk_X1_21 yr_2_3 dX1_putInOrder_37 rfl (fun v109 => ?_)
      refine sm_iload_n (pc' := 41) dX1_putInOrder_40 rfl rfl ?_
      refine sm_iconst (pc' := 42) (1 : Int32) dX1_putInOrder_41 (by decide) rfl ?_
      refine sm_isub (pc' := 43) dX1_putInOrder_42 rfl ?_
      rcases v109 with _ | a110
      · exact sm_unN
      refine sm_unS ?_
      refine sm_iaload (pc' := 44) dX1_putInOrder_43 rfl (fun v111 => ?_)
      refine sm_calli (pc' := 47) (sa := [iv v111, qv (some th)]) (st := []) (iv_X1_69 th v111) (Nat.le_of_ble_eq_true rfl) dX1_putInOrder_44 rfl (Nat.le_of_ble_eq_true rfl) (fun v112 => ?_)
      refine sm_aload_n (pc' := 48) dX1_putInOrder_47 rfl rfl ?_
      refine sm_iload_n (pc' := 49) dX1_putInOrder_48 rfl rfl ?_
      refine sm_calli (pc' := 52) (sa := [iv v101, qv (some th)]) (st := [iv v112]) (iv_X1_69 th v101) (Nat.le_of_ble_eq_true rfl) dX1_putInOrder_49 rfl (Nat.le_of_ble_eq_true rfl) (fun v113 => ?_)
      refine sm_icmp_le (pc' := 55) (pc1 := 75) dX1_putInOrder_52 (by decide) rfl (fun _ => ?_) (fun _ => ?_)
      · skip
        exact hk108 v107
      · skip
        refine sm_aload_n (pc' := 56) dX1_putInOrder_55 rfl rfl ?_
        refine sm_getF (pc' := 59) fk_X1_21 yr_2_3 dX1_putInOrder_56 rfl (fun v114 => ?_)
        refine sm_iload_n (pc' := 60) dX1_putInOrder_59 rfl rfl ?_
        refine sm_aload_n (pc' := 61) dX1_putInOrder_60 rfl rfl ?_
        refine sm_getF (pc' := 64) fk_X1_21 yr_2_3 dX1_putInOrder_61 rfl (fun v115 => ?_)
        refine sm_iload_n (pc' := 65) dX1_putInOrder_64 rfl rfl ?_
        refine sm_iconst (pc' := 66) (1 : Int32) dX1_putInOrder_65 (by decide) rfl ?_
        refine sm_isub (pc' := 67) dX1_putInOrder_66 rfl ?_
        rcases v115 with _ | a116
        · exact sm_unN
        refine sm_unS ?_
        refine sm_iaload (pc' := 68) dX1_putInOrder_67 rfl (fun v117 => ?_)
        rcases v114 with _ | a118
        · exact sm_unN
        refine sm_unS ?_
        refine sm_iastore (pc' := 69) dX1_putInOrder_68 rfl ?_
        refine sm_iinc (pc' := 72) (v107 + (-1 : Int32)) [(2, iv (v107 + (-1 : Int32))), (0, qv (some th)), (1, iv v101)] dX1_putInOrder_69 rfl rfl (Nat.le_of_ble_eq_true rfl) rfl rfl ?_
        refine sm_goto (pc' := 31) dX1_putInOrder_72 (by decide) ?_
        refine sm_sub [1, 2, 0] rfl ?_
        exact ih (v107 + (-1 : Int32))
set_option maxRecDepth 20000 in
theorem sX1_putInOrder_L7 (th : Nat) (k102 : Prg Unit) (hk102 : Sim eX1_putInOrder vU 98 [(0, qv (some th))] [] (k102)) : ∀ (n : Nat), ∀ (v101 : Int32), Sim eX1_putInOrder vU 7 [(0, qv (some th)), (1, iv v101)] [] (pX1_putInOrder_L7 th k102 n v101) := by
  intro n
  induction n with
  | zero =>
    intros
    exact sm_fl
  | succ n ih =>
    intro v101
    unfold pX1_putInOrder_L7
    refine sm_iload_n (pc' := 8) dX1_putInOrder_7 rfl rfl ?_
    refine sm_aload_n (pc' := 9) dX1_putInOrder_8 rfl rfl ?_
    refine sm_getI (pc' := 12) fk_X1_30 nr_2_6 dX1_putInOrder_9 rfl (fun v103 => ?_)
    refine sm_icmp_ge (pc' := 15) (pc1 := 98) dX1_putInOrder_12 (by decide) rfl (fun _ => ?_) (fun _ => ?_)
    · skip
      refine sm_sub [0] rfl ?_
      exact hk102
    · skip
      refine sm_aload_n (pc' := 16) dX1_putInOrder_15 rfl rfl ?_
      refine sm_iload_n (pc' := 17) dX1_putInOrder_16 rfl rfl ?_
      refine sm_calli (pc' := 20) (sa := [iv v101, qv (some th)]) (st := []) (iv_X1_73 th v101) (Nat.le_of_ble_eq_true rfl) dX1_putInOrder_17 rfl (Nat.le_of_ble_eq_true rfl) (fun v104 => ?_)
      refine sm_lt (fun k105 => Sim eX1_putInOrder vU 92 [(0, qv (some th)), (1, iv v101)] [] (k105)) ?_ (fun k105 hk105 => ?_)
      · skip
        refine sm_iinc (pc' := 95) (v101 + (1 : Int32)) [(1, iv (v101 + (1 : Int32))), (0, qv (some th))] dX1_putInOrder_92 rfl rfl (Nat.le_of_ble_eq_true rfl) rfl rfl ?_
        refine sm_goto (pc' := 7) dX1_putInOrder_95 (by decide) ?_
        refine sm_sub [1, 0] rfl ?_
        exact ih (v101 + (1 : Int32))
      · skip
        refine sm_if_ne (pc' := 23) (pc1 := 26) dX1_putInOrder_20 (by decide) rfl (fun _ => ?_) (fun _ => ?_)
        · skip
          refine sm_aload_n (pc' := 27) dX1_putInOrder_26 rfl rfl ?_
          refine sm_getI (pc' := 30) fk_X1_34 nr_2_7 dX1_putInOrder_27 rfl (fun v106 => ?_)
          refine sm_istore_n (pc' := 31) [(2, iv v106), (0, qv (some th)), (1, iv v101)] dX1_putInOrder_30 rfl (Nat.le_of_ble_eq_true rfl) rfl rfl ?_
          refine sm_sub [1, 2, 0] rfl ?_
          refine sX1_putInOrder_L31 th v101 _ ?_ FL v106
          · intro v119
            refine sm_aload_n (pc' := 76) dX1_putInOrder_75 rfl rfl ?_
            refine sm_getF (pc' := 79) fk_X1_21 yr_2_3 dX1_putInOrder_76 rfl (fun v120 => ?_)
            refine sm_iload_n (pc' := 80) dX1_putInOrder_79 rfl rfl ?_
            refine sm_iload_n (pc' := 81) dX1_putInOrder_80 rfl rfl ?_
            rcases v120 with _ | a121
            · exact sm_unN
            refine sm_unS ?_
            refine sm_iastore (pc' := 82) dX1_putInOrder_81 rfl ?_
            refine sm_aload_n (pc' := 83) dX1_putInOrder_82 rfl rfl ?_
            refine sm_dup (pc' := 84) dX1_putInOrder_83 rfl rfl ?_
            refine sm_getI (pc' := 87) fk_X1_34 nr_2_7 dX1_putInOrder_84 rfl (fun v122 => ?_)
            refine sm_iconst (pc' := 88) (1 : Int32) dX1_putInOrder_87 (by decide) rfl ?_
            refine sm_iadd (pc' := 89) dX1_putInOrder_88 rfl ?_
            refine sm_putI (pc' := 92) (gk_X1_34 _ _ _ _ _) ti_2_7 dX1_putInOrder_89 rfl ?_
            refine sm_sub [0, 1] rfl ?_
            exact hk105
        · skip
          refine sm_goto (pc' := 92) dX1_putInOrder_23 (by decide) ?_
          exact hk105
set_option maxRecDepth 20000 in
theorem sX1_putInOrder_L100 (th : Nat) (k124 : Prg Unit) (hk124 : Sim eX1_putInOrder vU 126 [] [] (k124)) : ∀ (n : Nat), ∀ (v123 : Int32), Sim eX1_putInOrder vU 100 [(0, qv (some th)), (1, iv v123)] [] (pX1_putInOrder_L100 th k124 n v123) := by
  intro n
  induction n with
  | zero =>
    intros
    exact sm_fl
  | succ n ih =>
    intro v123
    unfold pX1_putInOrder_L100
    refine sm_iload_n (pc' := 101) dX1_putInOrder_100 rfl rfl ?_
    refine sm_aload_n (pc' := 102) dX1_putInOrder_101 rfl rfl ?_
    refine sm_getI (pc' := 105) fk_X1_34 nr_2_7 dX1_putInOrder_102 rfl (fun v125 => ?_)
    refine sm_icmp_ge (pc' := 108) (pc1 := 126) dX1_putInOrder_105 (by decide) rfl (fun _ => ?_) (fun _ => ?_)
    · skip
      refine sm_sub [] rfl ?_
      exact hk124
    · skip
      refine sm_aload_n (pc' := 109) dX1_putInOrder_108 rfl rfl ?_
      refine sm_getF (pc' := 112) fk_X1_24 yr_2_4 dX1_putInOrder_109 rfl (fun v126 => ?_)
      refine sm_aload_n (pc' := 113) dX1_putInOrder_112 rfl rfl ?_
      refine sm_getF (pc' := 116) fk_X1_21 yr_2_3 dX1_putInOrder_113 rfl (fun v127 => ?_)
      refine sm_iload_n (pc' := 117) dX1_putInOrder_116 rfl rfl ?_
      rcases v127 with _ | a128
      · exact sm_unN
      refine sm_unS ?_
      refine sm_iaload (pc' := 118) dX1_putInOrder_117 rfl (fun v129 => ?_)
      refine sm_iload_n (pc' := 119) dX1_putInOrder_118 rfl rfl ?_
      rcases v126 with _ | a130
      · exact sm_unN
      refine sm_unS ?_
      refine sm_iastore (pc' := 120) dX1_putInOrder_119 rfl ?_
      refine sm_iinc (pc' := 123) (v123 + (1 : Int32)) [(1, iv (v123 + (1 : Int32))), (0, qv (some th))] dX1_putInOrder_120 rfl rfl (Nat.le_of_ble_eq_true rfl) rfl rfl ?_
      refine sm_goto (pc' := 100) dX1_putInOrder_123 (by decide) ?_
      refine sm_sub [1, 0] rfl ?_
      exact ih (v123 + (1 : Int32))
set_option maxRecDepth 20000 in
theorem sX1_putInOrder (th : Nat) : Sim eX1_putInOrder vU 0 [(0, qv (some th))] [] (pX1_putInOrder th) := by
  unfold pX1_putInOrder
  refine sm_aload_n (pc' := 1) dX1_putInOrder_0 rfl rfl ?_
  refine sm_iconst (pc' := 2) (0 : Int32) dX1_putInOrder_1 (by decide) rfl ?_
  refine sm_putI (pc' := 5) (gk_X1_34 _ _ _ _ _) ti_2_7 dX1_putInOrder_2 rfl ?_
  refine sm_iconst (pc' := 6) (0 : Int32) dX1_putInOrder_5 (by decide) rfl ?_
  refine sm_istore_n (pc' := 7) [(1, iv (0 : Int32)), (0, qv (some th))] dX1_putInOrder_6 rfl (Nat.le_of_ble_eq_true rfl) rfl rfl ?_
  refine sm_sub [1, 0] rfl ?_
  refine sX1_putInOrder_L7 th _ ?_ FL (0 : Int32)
  · skip
    refine sm_iconst (pc' := 99) (0 : Int32) dX1_putInOrder_98 (by decide) rfl ?_
    refine sm_istore_n (pc' := 100) [(1, iv (0 : Int32)), (0, qv (some th))] dX1_putInOrder_99 rfl (Nat.le_of_ble_eq_true rfl) rfl rfl ?_
    refine sm_sub [1, 0] rfl ?_
    refine sX1_putInOrder_L100 th _ ?_ FL (0 : Int32)
    · skip
      exact sm_return rfl dX1_putInOrder_126
theorem kX1_putInOrder (th : Nat) : Callee 3 yX1_putInOrder cX1_putInOrder 3 none [qv (some th)] vU (pX1_putInOrder th) := callee_ofS [(0, qv (some th))] (by decide +kernel) (Nat.le_of_ble_eq_true rfl) rfl (sX1_putInOrder th)
