/-! java/lang/Integer.bitCount(I)I -/
abbrev eJ6_bitCount_0f7a4 : Env0 := (RJ6, "bitCount", cJ6_bitCount_0f7a4, 1, (some .int), 0)
def pJ6_bitCount_0f7a4 (a1 : Int32) : Prg Int32 :=
    (lt (a1 - (((Int32.toUInt32 a1 >>> (Int32.toUInt32 (1 : Int32) &&& Int32.toUInt32 31)).toInt32) &&& (1431655765 : Int32))) fun v101 =>
    (lt ((v101 &&& (858993459 : Int32)) + (((Int32.toUInt32 v101 >>> (Int32.toUInt32 (2 : Int32) &&& Int32.toUInt32 31)).toInt32) &&& (858993459 : Int32))) fun v102 =>
    (lt ((v102 + ((Int32.toUInt32 v102 >>> (Int32.toUInt32 (4 : Int32) &&& Int32.toUInt32 31)).toInt32)) &&& (252645135 : Int32)) fun v103 =>
    (lt (v103 + ((Int32.toUInt32 v103 >>> (Int32.toUInt32 (8 : Int32) &&& Int32.toUInt32 31)).toInt32)) fun v104 =>
    (lt (v104 + ((Int32.toUInt32 v104 >>> (Int32.toUInt32 (16 : Int32) &&& Int32.toUInt32 31)).toInt32)) fun v105 =>
    rt (v105 &&& (63 : Int32)))))))
set_option maxRecDepth 20000 in
theorem sJ6_bitCount_0f7a4 (a1 : Int32) : Sim eJ6_bitCount_0f7a4 vI 0 [(0, iv a1)] [] (pJ6_bitCount_0f7a4 a1) := by
  unfold pJ6_bitCount_0f7a4
  refine sm_iload_n (pc' := 1) dJ6_bitCount_0f7a4_0 rfl rfl ?_
  refine sm_iload_n (pc' := 2) dJ6_bitCount_0f7a4_1 rfl rfl ?_
  refine sm_iconst (pc' := 3) (1 : Int32) dJ6_bitCount_0f7a4_2 (by decide) rfl ?_
  refine sm_iushr (pc' := 4) dJ6_bitCount_0f7a4_3 rfl ?_
  refine sm_ldcw (pc' := 7) (1431655765 : Int32) w_1 dJ6_bitCount_0f7a4_4 rfl ?_
  refine sm_iand (pc' := 8) dJ6_bitCount_0f7a4_7 rfl ?_
  refine sm_isub (pc' := 9) dJ6_bitCount_0f7a4_8 rfl ?_
  refine sm_ltI ?_
  generalize (a1 - (((Int32.toUInt32 a1 >>> (Int32.toUInt32 (1 : Int32) &&& Int32.toUInt32 31)).toInt32) &&& (1431655765 : Int32))) = v101
  refine sm_istore_n (pc' := 10) [(0, iv v101)] dJ6_bitCount_0f7a4_9 rfl (Nat.le_of_ble_eq_true rfl) rfl rfl ?_
  refine sm_iload_n (pc' := 11) dJ6_bitCount_0f7a4_10 rfl rfl ?_
  refine sm_ldcw (pc' := 14) (858993459 : Int32) w_2 dJ6_bitCount_0f7a4_11 rfl ?_
  refine sm_iand (pc' := 15) dJ6_bitCount_0f7a4_14 rfl ?_
  refine sm_iload_n (pc' := 16) dJ6_bitCount_0f7a4_15 rfl rfl ?_
  refine sm_iconst (pc' := 17) (2 : Int32) dJ6_bitCount_0f7a4_16 (by decide) rfl ?_
  refine sm_iushr (pc' := 18) dJ6_bitCount_0f7a4_17 rfl ?_
  refine sm_ldcw (pc' := 21) (858993459 : Int32) w_2 dJ6_bitCount_0f7a4_18 rfl ?_
  refine sm_iand (pc' := 22) dJ6_bitCount_0f7a4_21 rfl ?_
  refine sm_iadd (pc' := 23) dJ6_bitCount_0f7a4_22 rfl ?_
  refine sm_ltI ?_
  generalize ((v101 &&& (858993459 : Int32)) + (((Int32.toUInt32 v101 >>> (Int32.toUInt32 (2 : Int32) &&& Int32.toUInt32 31)).toInt32) &&& (858993459 : Int32))) = v102
  refine sm_istore_n (pc' := 24) [(0, iv v102)] dJ6_bitCount_0f7a4_23 rfl (Nat.le_of_ble_eq_true rfl) rfl rfl ?_
  refine sm_iload_n (pc' := 25) dJ6_bitCount_0f7a4_24 rfl rfl ?_
  refine sm_iload_n (pc' := 26) dJ6_bitCount_0f7a4_25 rfl rfl ?_
  refine sm_iconst (pc' := 27) (4 : Int32) dJ6_bitCount_0f7a4_26 (by decide) rfl ?_
  refine sm_iushr (pc' := 28) dJ6_bitCount_0f7a4_27 rfl ?_
  refine sm_iadd (pc' := 29) dJ6_bitCount_0f7a4_28 rfl ?_
  refine sm_ldcw (pc' := 32) (252645135 : Int32) w_3 dJ6_bitCount_0f7a4_29 rfl ?_
  refine sm_iand (pc' := 33) dJ6_bitCount_0f7a4_32 rfl ?_
  refine sm_ltI ?_
  generalize ((v102 + ((Int32.toUInt32 v102 >>> (Int32.toUInt32 (4 : Int32) &&& Int32.toUInt32 31)).toInt32)) &&& (252645135 : Int32)) = v103
  refine sm_istore_n (pc' := 34) [(0, iv v103)] dJ6_bitCount_0f7a4_33 rfl (Nat.le_of_ble_eq_true rfl) rfl rfl ?_
  refine sm_iload_n (pc' := 35) dJ6_bitCount_0f7a4_34 rfl rfl ?_
  refine sm_iload_n (pc' := 36) dJ6_bitCount_0f7a4_35 rfl rfl ?_
  refine sm_bipush (pc' := 38) (8 : Int32) dJ6_bitCount_0f7a4_36 (by decide) rfl ?_
  refine sm_iushr (pc' := 39) dJ6_bitCount_0f7a4_38 rfl ?_
  refine sm_iadd (pc' := 40) dJ6_bitCount_0f7a4_39 rfl ?_
  refine sm_ltI ?_
  generalize (v103 + ((Int32.toUInt32 v103 >>> (Int32.toUInt32 (8 : Int32) &&& Int32.toUInt32 31)).toInt32)) = v104
  refine sm_istore_n (pc' := 41) [(0, iv v104)] dJ6_bitCount_0f7a4_40 rfl (Nat.le_of_ble_eq_true rfl) rfl rfl ?_
  refine sm_iload_n (pc' := 42) dJ6_bitCount_0f7a4_41 rfl rfl ?_
  refine sm_iload_n (pc' := 43) dJ6_bitCount_0f7a4_42 rfl rfl ?_
  refine sm_bipush (pc' := 45) (16 : Int32) dJ6_bitCount_0f7a4_43 (by decide) rfl ?_
  refine sm_iushr (pc' := 46) dJ6_bitCount_0f7a4_45 rfl ?_
  refine sm_iadd (pc' := 47) dJ6_bitCount_0f7a4_46 rfl ?_
  refine sm_ltI ?_
  generalize (v104 + ((Int32.toUInt32 v104 >>> (Int32.toUInt32 (16 : Int32) &&& Int32.toUInt32 31)).toInt32)) = v105
  refine sm_istore_n (pc' := 48) [(0, iv v105)] dJ6_bitCount_0f7a4_47 rfl (Nat.le_of_ble_eq_true rfl) rfl rfl ?_
  refine sm_iload_n (pc' := 49) dJ6_bitCount_0f7a4_48 rfl rfl ?_
  refine sm_bipush (pc' := 51) (63 : Int32) dJ6_bitCount_0f7a4_49 (by decide) rfl ?_
  refine sm_iand (pc' := 52) dJ6_bitCount_0f7a4_51 rfl ?_
  exact sm_ireturn rfl dJ6_bitCount_0f7a4_52
theorem kJ6_bitCount_0f7a4 (a1 : Int32) : Callee 0 yJ6_bitCount_0f7a4 cJ6_bitCount_0f7a4 1 (some .int) [iv a1] vI (pJ6_bitCount_0f7a4 a1) := callee_ofS [(0, iv a1)] (by decide +kernel) (Nat.le_of_ble_eq_true rfl) rfl (sJ6_bitCount_0f7a4 a1)
/-! HollowPress$Thing.<init>()V -/
abbrev eX8_init : Env0 := (RX8, "<init>", cX8_init, 1, none, 1)
def pX8_init (th : Nat) : Prg Unit :=
    rt ()
set_option maxRecDepth 20000 in
theorem sX8_init (th : Nat) : Sim eX8_init vU 0 [(0, qv (some th))] [] (pX8_init th) := by
  unfold pX8_init
  refine sm_aload_n (pc' := 1) dX8_init_0 rfl rfl ?_
  refine sm_objInit (pc' := 4) w_4 w_5 w_6 dX8_init_1 (by decide) (Nat.le_of_ble_eq_true rfl) rfl ?_
  exact sm_return rfl dX8_init_4
theorem kX8_init (th : Nat) : Callee 1 yX8_init cX8_init 1 none [qv (some th)] vU (pX8_init th) := callee_ofS [(0, qv (some th))] (by decide +kernel) (Nat.le_of_ble_eq_true rfl) rfl (sX8_init th)
/-! HollowPress$Part.<init>(II[I)V -/
set_option maxRecDepth 20000 in
theorem iv_X3_3 (a : Nat)  : Inv RX3 2 (.invokespecial 3) [qv (some a)] vU (pX8_init a ) := inv_IN (host := "HollowPress") (As := []) (kX8_init a ) w_7 w_8 w_9 w_10 rfl ⟨by decide +kernel, by decide +kernel, by show _ = some 0; decide +kernel⟩ (by decide)
abbrev eX3_init : Env0 := (RX3, "<init>", cX3_init, 4, none, 2)
def pX3_init (th : Nat) (a1 : Int32) (a2 : Int32) (a3 : Option Nat) : Prg Unit :=
    cl (pX8_init th) fun _ =>
    nA 20 (4 : Int32) fun a101 =>
    pF 4 th 4 (some a101) (
    pI 4 th 5 (0 : Int32) (
    pI 4 th 6 (0 : Int32) (
    pZ 4 th 7 (0 : Int32) (
    pI 4 th 8 (-1000000 : Int32) (
    pI 4 th 0 a1 (
    pI 4 th 1 a2 (
    pF 4 th 2 a3 (
    un a3 fun a102 =>
    ln a102 fun v103 =>
    nA 21 v103 fun a104 =>
    pF 4 th 3 (some a104) (
    rt ())))))))))
set_option maxRecDepth 20000 in
theorem sX3_init (th : Nat) (a1 : Int32) (a2 : Int32) (a3 : Option Nat) : Sim eX3_init vU 0 [(0, qv (some th)), (1, iv a1), (2, iv a2), (3, qv a3)] [] (pX3_init th a1 a2 a3) := by
  unfold pX3_init
  refine sm_aload_n (pc' := 1) dX3_init_0 rfl rfl ?_
  refine sm_callv (pc' := 4) (sa := [qv (some th)]) (st := []) (iv_X3_3 th) (Nat.le_of_ble_eq_true rfl) dX3_init_1 rfl (Nat.le_of_ble_eq_true rfl) (fun _ => ?_)
  refine sm_aload_n (pc' := 5) dX3_init_4 rfl rfl ?_
  refine sm_iconst (pc' := 6) (4 : Int32) dX3_init_5 (by decide) rfl ?_
  refine sm_newarr (pc' := 8) (atype := .int) (Or.inl ⟨rfl, rfl⟩) w_11 dX3_init_6 rfl (fun a101 => ?_)
  refine sm_putF (pc' := 11) (gk_X3_9i _ _ _ _) yr_4_4 dX3_init_8 rfl ?_
  refine sm_aload_n (pc' := 12) dX3_init_11 rfl rfl ?_
  refine sm_iconst (pc' := 13) (0 : Int32) dX3_init_12 (by decide) rfl ?_
  refine sm_putI (pc' := 16) (gk_X3_15 _ _ _ _ _) ti_4_5 dX3_init_13 rfl ?_
  refine sm_aload_n (pc' := 17) dX3_init_16 rfl rfl ?_
  refine sm_iconst (pc' := 18) (0 : Int32) dX3_init_17 (by decide) rfl ?_
  refine sm_putI (pc' := 21) (gk_X3_19 _ _ _ _ _) ti_4_6 dX3_init_18 rfl ?_
  refine sm_aload_n (pc' := 22) dX3_init_21 rfl rfl ?_
  refine sm_iconst (pc' := 23) (0 : Int32) dX3_init_22 (by decide) rfl ?_
  refine sm_putZ (pc' := 26) (gk_X3_22 _ _ _ _ _) tz_4_7 dX3_init_23 rfl ?_
  refine sm_aload_n (pc' := 27) dX3_init_26 rfl rfl ?_
  refine sm_ldc (pc' := 29) (-1000000 : Int32) w_16 dX3_init_27 rfl ?_
  refine sm_putI (pc' := 32) (gk_X3_27 _ _ _ _ _) ti_4_8 dX3_init_29 rfl ?_
  refine sm_aload_n (pc' := 33) dX3_init_32 rfl rfl ?_
  refine sm_iload_n (pc' := 34) dX3_init_33 rfl rfl ?_
  refine sm_putI (pc' := 37) (gk_X3_30i _ _ _ _) ti_4_0 dX3_init_34 rfl ?_
  refine sm_aload_n (pc' := 38) dX3_init_37 rfl rfl ?_
  refine sm_iload_n (pc' := 39) dX3_init_38 rfl rfl ?_
  refine sm_putI (pc' := 42) (gk_X3_33i _ _ _ _) ti_4_1 dX3_init_39 rfl ?_
  refine sm_aload_n (pc' := 43) dX3_init_42 rfl rfl ?_
  refine sm_aload_n (pc' := 44) dX3_init_43 rfl rfl ?_
  refine sm_putF (pc' := 47) (gk_X3_36i _ _ _ _) yr_4_2 dX3_init_44 rfl ?_
  refine sm_aload_n (pc' := 48) dX3_init_47 rfl rfl ?_
  refine sm_aload_n (pc' := 49) dX3_init_48 rfl rfl ?_
  rcases a3 with _ | a102
  · exact sm_unN
  refine sm_unS ?_
  refine sm_alen (pc' := 50) dX3_init_49 rfl (fun v103 => ?_)
  refine sm_newarr (pc' := 52) (atype := .boolean) (Or.inr (Or.inl ⟨rfl, rfl⟩)) w_21 dX3_init_50 rfl (fun a104 => ?_)
  refine sm_putF (pc' := 55) (gk_X3_39i _ _ _ _) yr_4_3 dX3_init_52 rfl ?_
  exact sm_return rfl dX3_init_55
theorem kX3_init (th : Nat) (a1 : Int32) (a2 : Int32) (a3 : Option Nat) : Callee 2 yX3_init cX3_init 4 none [qv (some th), iv a1, iv a2, qv a3] vU (pX3_init th a1 a2 a3) := callee_ofS [(0, qv (some th)), (1, iv a1), (2, iv a2), (3, qv a3)] (by decide +kernel) (Nat.le_of_ble_eq_true rfl) rfl (sX3_init th a1 a2 a3)
/-! HollowPress$EvenPart.<init>(II[I)V -/
set_option maxRecDepth 20000 in
theorem iv_X0_1 (a : Nat) (x0 : Int32) (x1 : Int32) (x2 : Option Nat) : Inv RX0 3 (.invokespecial 1) [qv x2, iv x1, iv x0, qv (some a)] vU (pX3_init a x0 x1 x2) := inv_I (As := [iv x0, iv x1, qv x2]) (kX3_init a x0 x1 x2) w_23 w_24 w_25 w_26 rfl ⟨by decide +kernel, by decide +kernel, by show _ = some 3; decide +kernel⟩ (by decide)
abbrev eX0_init : Env0 := (RX0, "<init>", cX0_init, 4, none, 3)
def pX0_init (th : Nat) (a1 : Int32) (a2 : Int32) (a3 : Option Nat) : Prg Unit :=
    cl (pX3_init th a1 a2 a3) fun _ =>
    rt ()
set_option maxRecDepth 20000 in
theorem sX0_init (th : Nat) (a1 : Int32) (a2 : Int32) (a3 : Option Nat) : Sim eX0_init vU 0 [(0, qv (some th)), (1, iv a1), (2, iv a2), (3, qv a3)] [] (pX0_init th a1 a2 a3) := by
  unfold pX0_init
  refine sm_aload_n (pc' := 1) dX0_init_0 rfl rfl ?_
  refine sm_iload_n (pc' := 2) dX0_init_1 rfl rfl ?_
  refine sm_iload_n (pc' := 3) dX0_init_2 rfl rfl ?_
  refine sm_aload_n (pc' := 4) dX0_init_3 rfl rfl ?_
  refine sm_callv (pc' := 7) (sa := [qv a3, iv a2, iv a1, qv (some th)]) (st := []) (iv_X0_1 th a1 a2 a3) (Nat.le_of_ble_eq_true rfl) dX0_init_4 rfl (Nat.le_of_ble_eq_true rfl) (fun _ => ?_)
  exact sm_return rfl dX0_init_7
theorem kX0_init (th : Nat) (a1 : Int32) (a2 : Int32) (a3 : Option Nat) : Callee 3 yX0_init cX0_init 4 none [qv (some th), iv a1, iv a2, qv a3] vU (pX0_init th a1 a2 a3) := callee_ofS [(0, qv (some th)), (1, iv a1), (2, iv a2), (3, qv a3)] (by decide +kernel) (Nat.le_of_ble_eq_true rfl) rfl (sX0_init th a1 a2 a3)
/-! HollowPress$Thing.isOf(I)Z -/
abbrev eX8_isOf : Env0 := (RX8, "isOf", cX8_isOf, 2, (some .boolean), 0)
def pX8_isOf (th : Nat) (a1 : Int32) : Prg Int32 :=
    (lt (fun (v101 : Int32) => rtZ v101 : Int32 → Prg Int32) fun k102 =>
    (if a1 = 0 then k102 (1 : Int32)
    else k102 (0 : Int32)))
set_option maxRecDepth 20000 in
theorem sX8_isOf (th : Nat) (a1 : Int32) : Sim eX8_isOf vI 0 [(0, qv (some th)), (1, iv a1)] [] (pX8_isOf th a1) := by
  unfold pX8_isOf
  refine sm_iload_n (pc' := 1) dX8_isOf_0 rfl rfl ?_
  refine sm_lt (fun k102 => ∀ (v101 : Int32), Sim eX8_isOf vI 9 [] [iv v101] (k102 v101)) ?_ (fun k102 hk102 => ?_)
  · intro v101
    exact sm_zreturn rfl dX8_isOf_9
  · skip
    refine sm_if_ne (pc' := 4) (pc1 := 8) dX8_isOf_1 (by decide) rfl (fun _ => ?_) (fun _ => ?_)
    · skip
      refine sm_iconst (pc' := 9) (0 : Int32) dX8_isOf_8 (by decide) rfl ?_
      refine sm_sub [] rfl ?_
      exact hk102 (0 : Int32)
    · skip
      refine sm_iconst (pc' := 5) (1 : Int32) dX8_isOf_4 (by decide) rfl ?_
      refine sm_goto (pc' := 9) dX8_isOf_5 (by decide) ?_
      refine sm_sub [] rfl ?_
      exact hk102 (1 : Int32)
theorem kX8_isOf (th : Nat) (a1 : Int32) : Callee 0 yX8_isOf cX8_isOf 2 (some .boolean) [qv (some th), iv a1] vI (pX8_isOf th a1) := callee_ofS [(0, qv (some th)), (1, iv a1)] (by decide +kernel) (Nat.le_of_ble_eq_true rfl) rfl (sX8_isOf th a1)
/-! HollowPress$Part.isOf(I)Z -/
set_option maxRecDepth 20000 in
theorem iv_X3_43 (a : Nat) (x0 : Int32) : Inv RX3 1 (.invokespecial 43) [iv x0, qv (some a)] vI (or2 a 4 (pX8_isOf a x0) (or2 a 1 (pX8_isOf a x0) (onT a 5 (pX8_isOf a x0)))) := inv_or (inv_SU (As := [iv x0]) (t := 4) (kX8_isOf a x0) _ (by decide) rfl w_27 w_28 w_29 w_30 w_9 w_31 ⟨by decide +kernel, by show _ = some 1; decide +kernel⟩ (by decide)) (inv_or (inv_SU (As := [iv x0]) (t := 1) (kX8_isOf a x0) _ (by decide) rfl w_27 w_28 w_29 w_30 w_9 w_31 ⟨by decide +kernel, by show _ = some 1; decide +kernel⟩ (by decide)) (inv_SU (As := [iv x0]) (t := 5) (kX8_isOf a x0) _ (by decide) rfl w_27 w_28 w_29 w_30 w_9 w_31 ⟨by decide +kernel, by show _ = some 1; decide +kernel⟩ (by decide)))
abbrev eX3_isOf : Env0 := (RX3, "isOf", cX3_isOf, 2, (some .boolean), 1)
def pX3_isOf (th : Nat) (a1 : Int32) : Prg Int32 :=
    (lt (fun (v101 : Int32) => rtZ v101 : Int32 → Prg Int32) fun k102 =>
    (lt (k102 (1 : Int32) : Prg Int32) fun k103 =>
    (if a1 = (1 : Int32) then k103
    else cl (or2 th 4 (pX8_isOf th a1) (or2 th 1 (pX8_isOf th a1) (onT th 5 (pX8_isOf th a1)))) fun v104 =>
    (if v104 = 0 then k102 (0 : Int32)
    else k103))))
set_option maxRecDepth 20000 in
theorem sX3_isOf (th : Nat) (a1 : Int32) : Sim eX3_isOf vI 0 [(0, qv (some th)), (1, iv a1)] [] (pX3_isOf th a1) := by
  unfold pX3_isOf
  refine sm_iload_n (pc' := 1) dX3_isOf_0 rfl rfl ?_
  refine sm_iconst (pc' := 2) (1 : Int32) dX3_isOf_1 (by decide) rfl ?_
  refine sm_lt (fun k102 => ∀ (v101 : Int32), Sim eX3_isOf vI 18 [] [iv v101] (k102 v101)) ?_ (fun k102 hk102 => ?_)
  · intro v101
    exact sm_zreturn rfl dX3_isOf_18
  · skip
    refine sm_lt (fun k103 => Sim eX3_isOf vI 13 [] [] (k103)) ?_ (fun k103 hk103 => ?_)
    · skip
      refine sm_iconst (pc' := 14) (1 : Int32) dX3_isOf_13 (by decide) rfl ?_
      refine sm_goto (pc' := 18) dX3_isOf_14 (by decide) ?_
      exact hk102 (1 : Int32)
    · skip
      refine sm_icmp_eq (pc' := 5) (pc1 := 13) dX3_isOf_2 (by decide) rfl (fun _ => ?_) (fun _ => ?_)
      · skip
        refine sm_sub [] rfl ?_
        exact hk103
      · skip
        refine sm_aload_n (pc' := 6) dX3_isOf_5 rfl rfl ?_
        refine sm_iload_n (pc' := 7) dX3_isOf_6 rfl rfl ?_
        refine sm_calli (pc' := 10) (sa := [iv a1, qv (some th)]) (st := []) (iv_X3_43 th a1) (Nat.le_of_ble_eq_true rfl) dX3_isOf_7 rfl (Nat.le_of_ble_eq_true rfl) (fun v104 => ?_)
        refine sm_if_eq (pc' := 13) (pc1 := 17) dX3_isOf_10 (by decide) rfl (fun _ => ?_) (fun _ => ?_)
        · skip
          refine sm_iconst (pc' := 18) (0 : Int32) dX3_isOf_17 (by decide) rfl ?_
          refine sm_sub [] rfl ?_
          exact hk102 (0 : Int32)
        · skip
          refine sm_sub [] rfl ?_
          exact hk103
theorem kX3_isOf (th : Nat) (a1 : Int32) : Callee 1 yX3_isOf cX3_isOf 2 (some .boolean) [qv (some th), iv a1] vI (pX3_isOf th a1) := callee_ofS [(0, qv (some th)), (1, iv a1)] (by decide +kernel) (Nat.le_of_ble_eq_true rfl) rfl (sX3_isOf th a1)
/-! HollowPress$EvenPart.isOf(I)Z -/
set_option maxRecDepth 20000 in
theorem iv_X0_7 (a : Nat) (x0 : Int32) : Inv RX0 2 (.invokespecial 7) [iv x0, qv (some a)] vI (or2 a 1 (pX3_isOf a x0) (onT a 5 (pX3_isOf a x0))) := inv_or (inv_SU (As := [iv x0]) (t := 1) (kX3_isOf a x0) _ (by decide) rfl w_32 w_33 w_34 w_35 w_25 w_36 ⟨by decide +kernel, by show _ = some 1; decide +kernel⟩ (by decide)) (inv_SU (As := [iv x0]) (t := 5) (kX3_isOf a x0) _ (by decide) rfl w_32 w_33 w_34 w_35 w_25 w_36 ⟨by decide +kernel, by show _ = some 1; decide +kernel⟩ (by decide))
abbrev eX0_isOf : Env0 := (RX0, "isOf", cX0_isOf, 2, (some .boolean), 2)
def pX0_isOf (th : Nat) (a1 : Int32) : Prg Int32 :=
    (lt (fun (v101 : Int32) => rtZ v101 : Int32 → Prg Int32) fun k102 =>
    (lt (k102 (1 : Int32) : Prg Int32) fun k103 =>
    (if a1 = (2 : Int32) then k103
    else cl (or2 th 1 (pX3_isOf th a1) (onT th 5 (pX3_isOf th a1))) fun v104 =>
    (if v104 = 0 then k102 (0 : Int32)
    else k103))))
set_option maxRecDepth 20000 in
theorem sX0_isOf (th : Nat) (a1 : Int32) : Sim eX0_isOf vI 0 [(0, qv (some th)), (1, iv a1)] [] (pX0_isOf th a1) := by
  unfold pX0_isOf
  refine sm_iload_n (pc' := 1) dX0_isOf_0 rfl rfl ?_
  refine sm_iconst (pc' := 2) (2 : Int32) dX0_isOf_1 (by decide) rfl ?_
  refine sm_lt (fun k102 => ∀ (v101 : Int32), Sim eX0_isOf vI 18 [] [iv v101] (k102 v101)) ?_ (fun k102 hk102 => ?_)
  · intro v101
    exact sm_zreturn rfl dX0_isOf_18
  · skip
    refine sm_lt (fun k103 => Sim eX0_isOf vI 13 [] [] (k103)) ?_ (fun k103 hk103 => ?_)
    · skip
      refine sm_iconst (pc' := 14) (1 : Int32) dX0_isOf_13 (by decide) rfl ?_
      refine sm_goto (pc' := 18) dX0_isOf_14 (by decide) ?_
      exact hk102 (1 : Int32)
    · skip
      refine sm_icmp_eq (pc' := 5) (pc1 := 13) dX0_isOf_2 (by decide) rfl (fun _ => ?_) (fun _ => ?_)
      · skip
        refine sm_sub [] rfl ?_
        exact hk103
      · skip
        refine sm_aload_n (pc' := 6) dX0_isOf_5 rfl rfl ?_
        refine sm_iload_n (pc' := 7) dX0_isOf_6 rfl rfl ?_
        refine sm_calli (pc' := 10) (sa := [iv a1, qv (some th)]) (st := []) (iv_X0_7 th a1) (Nat.le_of_ble_eq_true rfl) dX0_isOf_7 rfl (Nat.le_of_ble_eq_true rfl) (fun v104 => ?_)
        refine sm_if_eq (pc' := 13) (pc1 := 17) dX0_isOf_10 (by decide) rfl (fun _ => ?_) (fun _ => ?_)
        · skip
          refine sm_iconst (pc' := 18) (0 : Int32) dX0_isOf_17 (by decide) rfl ?_
          refine sm_sub [] rfl ?_
          exact hk102 (0 : Int32)
        · skip
          refine sm_sub [] rfl ?_
          exact hk103
theorem kX0_isOf (th : Nat) (a1 : Int32) : Callee 2 yX0_isOf cX0_isOf 2 (some .boolean) [qv (some th), iv a1] vI (pX0_isOf th a1) := callee_ofS [(0, qv (some th)), (1, iv a1)] (by decide +kernel) (Nat.le_of_ble_eq_true rfl) rfl (sX0_isOf th a1)
/-! HollowPress$EvenPart.told()I -/
abbrev eX0_told : Env0 := (RX0, "told", cX0_told, 1, (some .int), 0)
def pX0_told (th : Nat) : Prg Int32 :=
    rt (2 : Int32)
set_option maxRecDepth 20000 in
theorem sX0_told (th : Nat) : Sim eX0_told vI 0 [(0, qv (some th))] [] (pX0_told th) := by
  unfold pX0_told
  refine sm_iconst (pc' := 1) (2 : Int32) dX0_told_0 (by decide) rfl ?_
  exact sm_ireturn rfl dX0_told_1
theorem kX0_told (th : Nat) : Callee 0 yX0_told cX0_told 1 (some .int) [qv (some th)] vI (pX0_told th) := callee_ofS [(0, qv (some th))] (by decide +kernel) (Nat.le_of_ble_eq_true rfl) rfl (sX0_told th)
/-! HollowPress$Trace.leave(I)V -/
abbrev eX9_leave : Env0 := (RX9, "leave", cX9_leave, 2, none, 0)
def pX9_leave (th : Nat) (a1 : Int32) : Prg Unit :=
    gI 9 th 1 fun v101 =>
    gF 9 th 0 fun v102 =>
    un v102 fun a103 =>
    ln a103 fun v104 =>
    (lt (rt () : Prg Unit) fun k105 =>
    (if v104 ≤ v101 then k105
    else gF 9 th 0 fun v106 =>
    gI 9 th 1 fun v107 =>
    un v106 fun a108 =>
    stI a108 v107 a1 (
    gI 9 th 1 fun v109 =>
    pI 9 th 1 (v109 + (1 : Int32)) (
    k105))))
set_option maxRecDepth 20000 in
theorem sX9_leave (th : Nat) (a1 : Int32) : Sim eX9_leave vU 0 [(0, qv (some th)), (1, iv a1)] [] (pX9_leave th a1) := by
  unfold pX9_leave
  refine sm_aload_n (pc' := 1) dX9_leave_0 rfl rfl ?_
  refine sm_getI (pc' := 4) fk_X9_15 nr_9_1 dX9_leave_1 rfl (fun v101 => ?_)
  refine sm_aload_n (pc' := 5) dX9_leave_4 rfl rfl ?_
  refine sm_getF (pc' := 8) fk_X9_9 yr_9_0 dX9_leave_5 rfl (fun v102 => ?_)
  rcases v102 with _ | a103
  · exact sm_unN
  refine sm_unS ?_
  refine sm_alen (pc' := 9) dX9_leave_8 rfl (fun v104 => ?_)
  refine sm_lt (fun k105 => Sim eX9_leave vU 32 [] [] (k105)) ?_ (fun k105 hk105 => ?_)
  · skip
    exact sm_return rfl dX9_leave_32
  · skip
    refine sm_icmp_ge (pc' := 12) (pc1 := 32) dX9_leave_9 (by decide) rfl (fun _ => ?_) (fun _ => ?_)
    · skip
      refine sm_sub [] rfl ?_
      exact hk105
    · skip
      refine sm_aload_n (pc' := 13) dX9_leave_12 rfl rfl ?_
      refine sm_getF (pc' := 16) fk_X9_9 yr_9_0 dX9_leave_13 rfl (fun v106 => ?_)
      refine sm_aload_n (pc' := 17) dX9_leave_16 rfl rfl ?_
      refine sm_getI (pc' := 20) fk_X9_15 nr_9_1 dX9_leave_17 rfl (fun v107 => ?_)
      refine sm_iload_n (pc' := 21) dX9_leave_20 rfl rfl ?_
      rcases v106 with _ | a108
      · exact sm_unN
      refine sm_unS ?_
      refine sm_iastore (pc' := 22) dX9_leave_21 rfl ?_
      refine sm_aload_n (pc' := 23) dX9_leave_22 rfl rfl ?_
      refine sm_dup (pc' := 24) dX9_leave_23 rfl rfl ?_
      refine sm_getI (pc' := 27) fk_X9_15 nr_9_1 dX9_leave_24 rfl (fun v109 => ?_)
      refine sm_iconst (pc' := 28) (1 : Int32) dX9_leave_27 (by decide) rfl ?_
      refine sm_iadd (pc' := 29) dX9_leave_28 rfl ?_
      refine sm_putI (pc' := 32) (gk_X9_15 _ _ _ _ _) ti_9_1 dX9_leave_29 rfl ?_
      refine sm_sub [] rfl ?_
      exact hk105
theorem kX9_leave (th : Nat) (a1 : Int32) : Callee 0 yX9_leave cX9_leave 2 none [qv (some th), iv a1] vU (pX9_leave th a1) := callee_ofS [(0, qv (some th)), (1, iv a1)] (by decide +kernel) (Nat.le_of_ble_eq_true rfl) rfl (sX9_leave th a1)
/-! HollowPress$Thing.weigh(LHollowPress$Trace;)I -/
set_option maxRecDepth 20000 in
theorem iv_X8_7 (a : Nat) (x0 : Int32) : Inv RX8 1 (.invokevirtual 7) [iv x0, qv (some a)] vU (onT a 9 (pX9_leave a x0)) := inv_V (As := [iv x0]) (t := 9) (kX9_leave a x0) _ (by decide) rfl rfl w_39 w_40 w_41 w_42 w_43 ⟨by decide +kernel, by decide +kernel, by show _ = some 1; decide +kernel⟩ (by decide)
abbrev eX8_weigh : Env0 := (RX8, "weigh", cX8_weigh, 2, (some .int), 1)
def pX8_weigh (th : Nat) (a1 : Option Nat) : Prg Int32 :=
    un a1 fun a101 =>
    cl (onT a101 9 (pX9_leave a101 (10 : Int32))) fun _ =>
    rt (1 : Int32)
set_option maxRecDepth 20000 in
theorem sX8_weigh (th : Nat) (a1 : Option Nat) : Sim eX8_weigh vI 0 [(0, qv (some th)), (1, qv a1)] [] (pX8_weigh th a1) := by
  unfold pX8_weigh
  refine sm_aload_n (pc' := 1) dX8_weigh_0 rfl rfl ?_
  refine sm_bipush (pc' := 3) (10 : Int32) dX8_weigh_1 (by decide) rfl ?_
  rcases a1 with _ | a101
  · exact sm_unN
  refine sm_unS ?_
  refine sm_callv (pc' := 6) (sa := [iv (10 : Int32), qv (some a101)]) (st := []) (iv_X8_7 a101 (10 : Int32)) (Nat.le_of_ble_eq_true rfl) dX8_weigh_3 rfl (Nat.le_of_ble_eq_true rfl) (fun _ => ?_)
  refine sm_iconst (pc' := 7) (1 : Int32) dX8_weigh_6 (by decide) rfl ?_
  exact sm_ireturn rfl dX8_weigh_7
theorem kX8_weigh (th : Nat) (a1 : Option Nat) : Callee 1 yX8_weigh cX8_weigh 2 (some .int) [qv (some th), qv a1] vI (pX8_weigh th a1) := callee_ofS [(0, qv (some th)), (1, qv a1)] (by decide +kernel) (Nat.le_of_ble_eq_true rfl) rfl (sX8_weigh th a1)
/-! HollowPress$Part.weigh(LHollowPress$Trace;)I -/
set_option maxRecDepth 20000 in
theorem iv_X3_47 (a : Nat) (x0 : Int32) : Inv RX3 1 (.invokevirtual 47) [iv x0, qv (some a)] vU (onT a 9 (pX9_leave a x0)) := inv_V (As := [iv x0]) (t := 9) (kX9_leave a x0) _ (by decide) rfl rfl w_44 w_40 w_41 w_42 w_43 ⟨by decide +kernel, by decide +kernel, by show _ = some 1; decide +kernel⟩ (by decide)
set_option maxRecDepth 20000 in
theorem iv_X3_53 (a : Nat) (x0 : Option Nat) : Inv RX3 2 (.invokespecial 53) [qv x0, qv (some a)] vI (or2 a 4 (pX8_weigh a x0) (or2 a 1 (pX8_weigh a x0) (onT a 5 (pX8_weigh a x0)))) := inv_or (inv_SU (As := [qv x0]) (t := 4) (kX8_weigh a x0) _ (by decide) rfl w_45 w_46 w_29 w_47 w_9 w_48 ⟨by decide +kernel, by show _ = some 1; decide +kernel⟩ (by decide)) (inv_or (inv_SU (As := [qv x0]) (t := 1) (kX8_weigh a x0) _ (by decide) rfl w_45 w_46 w_29 w_47 w_9 w_48 ⟨by decide +kernel, by show _ = some 1; decide +kernel⟩ (by decide)) (inv_SU (As := [qv x0]) (t := 5) (kX8_weigh a x0) _ (by decide) rfl w_45 w_46 w_29 w_47 w_9 w_48 ⟨by decide +kernel, by show _ = some 1; decide +kernel⟩ (by decide)))
abbrev eX3_weigh : Env0 := (RX3, "weigh", cX3_weigh, 7, (some .int), 2)
def pX3_weigh_L20 (th : Nat) (a101 : Nat) (a103 : Nat) (v104 : Int32) (k107 : Int32 → Prg Int32) : Nat → Int32 → Int32 → Prg Int32
  | 0, _, _ => fl
  | n + 1, v105, v106 =>
    (if v104 ≤ v106 then k107 v105
    else ldI a103 v106 fun v108 =>
    pX3_weigh_L20 th a101 a103 v104 k107 n (v105 + v108) (v106 + (1 : Int32)))
def pX3_weigh (th : Nat) (a1 : Option Nat) : Prg Int32 :=
    un a1 fun a101 =>
    cl (onT a101 9 (pX9_leave a101 (11 : Int32))) fun _ =>
    gF 4 th 2 fun v102 =>
    un v102 fun a103 =>
    ln a103 fun v104 =>
    pX3_weigh_L20 th a101 a103 v104 (fun (v109 : Int32) => cl (or2 th 4 (pX8_weigh th (some a101)) (or2 th 1 (pX8_weigh th (some a101)) (onT th 5 (pX8_weigh th (some a101))))) fun v110 =>
    rt (v109 + v110)) FL (0 : Int32) (0 : Int32)
set_option maxRecDepth 20000 in
theorem sX3_weigh_L20 (th : Nat) (a101 : Nat) (a103 : Nat) (v104 : Int32) (k107 : Int32 → Prg Int32) (hk107 : ∀ (q2 : Int32), Sim eX3_weigh vI 44 [(0, qv (some th)), (1, qv (some a101)), (2, iv q2)] [] (k107 q2)) : ∀ (n : Nat), ∀ (v105 : Int32) (v106 : Int32), Sim eX3_weigh vI 20 [(0, qv (some th)), (1, qv (some a101)), (2, iv v105), (3, qv (some a103)), (4, iv v104), (5, iv v106)] [] (pX3_weigh_L20 th a101 a103 v104 k107 n v105 v106) := by
  intro n
  induction n with
  | zero =>
    intros
    exact sm_fl
  | succ n ih =>
    intro v105 v106
    unfold pX3_weigh_L20
    refine sm_iload (pc' := 22) dX3_weigh_20 rfl rfl ?_
    refine sm_iload (pc' := 24) dX3_weigh_22 rfl rfl ?_
    refine sm_icmp_ge (pc' := 27) (pc1 := 44) dX3_weigh_24 (by decide) rfl (fun _ => ?_) (fun _ => ?_)
    · skip
      refine sm_sub [0, 1, 2] rfl ?_
      exact hk107 v105
    · skip
      refine sm_aload_n (pc' := 28) dX3_weigh_27 rfl rfl ?_
      refine sm_iload (pc' := 30) dX3_weigh_28 rfl rfl ?_
      refine sm_iaload (pc' := 31) dX3_weigh_30 rfl (fun v108 => ?_)
      refine sm_istore (pc' := 33) [(6, iv v108), (0, qv (some th)), (1, qv (some a101)), (2, iv v105), (3, qv (some a103)), (4, iv v104), (5, iv v106)] dX3_weigh_31  (Nat.le_of_ble_eq_true rfl) rfl rfl ?_
      refine sm_iload_n (pc' := 34) dX3_weigh_33 rfl rfl ?_
      refine sm_iload (pc' := 36) dX3_weigh_34 rfl rfl ?_
      refine sm_iadd (pc' := 37) dX3_weigh_36 rfl ?_
      refine sm_istore_n (pc' := 38) [(2, iv (v105 + v108)), (6, iv v108), (0, qv (some th)), (1, qv (some a101)), (3, qv (some a103)), (4, iv v104), (5, iv v106)] dX3_weigh_37 rfl (Nat.le_of_ble_eq_true rfl) rfl rfl ?_
      refine sm_iinc (pc' := 41) (v106 + (1 : Int32)) [(5, iv (v106 + (1 : Int32))), (2, iv (v105 + v108)), (6, iv v108), (0, qv (some th)), (1, qv (some a101)), (3, qv (some a103)), (4, iv v104)] dX3_weigh_38 rfl rfl (Nat.le_of_ble_eq_true rfl) rfl rfl ?_
      refine sm_goto (pc' := 20) dX3_weigh_41 (by decide) ?_
      refine sm_sub [3, 4, 1, 5, 6, 0] rfl ?_
      exact ih (v105 + v108) (v106 + (1 : Int32))
set_option maxRecDepth 20000 in
theorem sX3_weigh (th : Nat) (a1 : Option Nat) : Sim eX3_weigh vI 0 [(0, qv (some th)), (1, qv a1)] [] (pX3_weigh th a1) := by
  unfold pX3_weigh
  refine sm_aload_n (pc' := 1) dX3_weigh_0 rfl rfl ?_
  refine sm_bipush (pc' := 3) (11 : Int32) dX3_weigh_1 (by decide) rfl ?_
  rcases a1 with _ | a101
  · exact sm_unN
  refine sm_unS ?_
  refine sm_callv (pc' := 6) (sa := [iv (11 : Int32), qv (some a101)]) (st := []) (iv_X3_47 a101 (11 : Int32)) (Nat.le_of_ble_eq_true rfl) dX3_weigh_3 rfl (Nat.le_of_ble_eq_true rfl) (fun _ => ?_)
  refine sm_iconst (pc' := 7) (0 : Int32) dX3_weigh_6 (by decide) rfl ?_
  refine sm_istore_n (pc' := 8) [(2, iv (0 : Int32)), (0, qv (some th)), (1, qv (some a101))] dX3_weigh_7 rfl (Nat.le_of_ble_eq_true rfl) rfl rfl ?_
  refine sm_aload_n (pc' := 9) dX3_weigh_8 rfl rfl ?_
  refine sm_getF (pc' := 12) fk_X3_36 yr_4_2 dX3_weigh_9 rfl (fun v102 => ?_)
  refine sm_astore_n (pc' := 13) [(3, qv v102), (2, iv (0 : Int32)), (0, qv (some th)), (1, qv (some a101))] dX3_weigh_12 rfl (Nat.le_of_ble_eq_true rfl) rfl rfl ?_
  refine sm_aload_n (pc' := 14) dX3_weigh_13 rfl rfl ?_
  rcases v102 with _ | a103
  · exact sm_unN
  refine sm_unS ?_
  refine sm_alen (pc' := 15) dX3_weigh_14 rfl (fun v104 => ?_)
  refine sm_istore (pc' := 17) [(4, iv v104), (3, qv (some a103)), (2, iv (0 : Int32)), (0, qv (some th)), (1, qv (some a101))] dX3_weigh_15  (Nat.le_of_ble_eq_true rfl) rfl rfl ?_
  refine sm_iconst (pc' := 18) (0 : Int32) dX3_weigh_17 (by decide) rfl ?_
  refine sm_istore (pc' := 20) [(5, iv (0 : Int32)), (4, iv v104), (3, qv (some a103)), (2, iv (0 : Int32)), (0, qv (some th)), (1, qv (some a101))] dX3_weigh_18  (Nat.le_of_ble_eq_true rfl) rfl rfl ?_
  refine sm_sub [4, 5, 3, 2, 1, 0] rfl ?_
  refine sX3_weigh_L20 th a101 a103 v104 _ ?_ FL (0 : Int32) (0 : Int32)
  · intro v109
    refine sm_iload_n (pc' := 45) dX3_weigh_44 rfl rfl ?_
    refine sm_aload_n (pc' := 46) dX3_weigh_45 rfl rfl ?_
    refine sm_aload_n (pc' := 47) dX3_weigh_46 rfl rfl ?_
    refine sm_calli (pc' := 50) (sa := [qv (some a101), qv (some th)]) (st := [iv v109]) (iv_X3_53 th (some a101)) (Nat.le_of_ble_eq_true rfl) dX3_weigh_47 rfl (Nat.le_of_ble_eq_true rfl) (fun v110 => ?_)
    refine sm_iadd (pc' := 51) dX3_weigh_50 rfl ?_
    exact sm_ireturn rfl dX3_weigh_51
theorem kX3_weigh (th : Nat) (a1 : Option Nat) : Callee 2 yX3_weigh cX3_weigh 7 (some .int) [qv (some th), qv a1] vI (pX3_weigh th a1) := callee_ofS [(0, qv (some th)), (1, qv a1)] (by decide +kernel) (Nat.le_of_ble_eq_true rfl) rfl (sX3_weigh th a1)
/-! HollowPress$EvenPart.weigh(LHollowPress$Trace;)I -/
set_option maxRecDepth 20000 in
theorem iv_X0_11 (a : Nat) (x0 : Int32) : Inv RX0 1 (.invokevirtual 11) [iv x0, qv (some a)] vU (onT a 9 (pX9_leave a x0)) := inv_V (As := [iv x0]) (t := 9) (kX9_leave a x0) _ (by decide) rfl rfl w_49 w_40 w_41 w_42 w_43 ⟨by decide +kernel, by decide +kernel, by show _ = some 1; decide +kernel⟩ (by decide)
set_option maxRecDepth 20000 in
theorem iv_X0_17 (a : Nat) (x0 : Option Nat) : Inv RX0 3 (.invokespecial 17) [qv x0, qv (some a)] vI (or2 a 1 (pX3_weigh a x0) (onT a 5 (pX3_weigh a x0))) := inv_or (inv_SU (As := [qv x0]) (t := 1) (kX3_weigh a x0) _ (by decide) rfl w_50 w_51 w_34 w_52 w_25 w_53 ⟨by decide +kernel, by show _ = some 1; decide +kernel⟩ (by decide)) (inv_SU (As := [qv x0]) (t := 5) (kX3_weigh a x0) _ (by decide) rfl w_50 w_51 w_34 w_52 w_25 w_53 ⟨by decide +kernel, by show _ = some 1; decide +kernel⟩ (by decide))
abbrev eX0_weigh : Env0 := (RX0, "weigh", cX0_weigh, 2, (some .int), 3)
def pX0_weigh (th : Nat) (a1 : Option Nat) : Prg Int32 :=
    un a1 fun a101 =>
    cl (onT a101 9 (pX9_leave a101 (12 : Int32))) fun _ =>
    cl (or2 th 1 (pX3_weigh th (some a101)) (onT th 5 (pX3_weigh th (some a101)))) fun v102 =>
    gI 1 th 5 fun v103 =>
    rt (v102 + v103)
set_option maxRecDepth 20000 in
theorem sX0_weigh (th : Nat) (a1 : Option Nat) : Sim eX0_weigh vI 0 [(0, qv (some th)), (1, qv a1)] [] (pX0_weigh th a1) := by
  unfold pX0_weigh
  refine sm_aload_n (pc' := 1) dX0_weigh_0 rfl rfl ?_
  refine sm_bipush (pc' := 3) (12 : Int32) dX0_weigh_1 (by decide) rfl ?_
  rcases a1 with _ | a101
  · exact sm_unN
  refine sm_unS ?_
  refine sm_callv (pc' := 6) (sa := [iv (12 : Int32), qv (some a101)]) (st := []) (iv_X0_11 a101 (12 : Int32)) (Nat.le_of_ble_eq_true rfl) dX0_weigh_3 rfl (Nat.le_of_ble_eq_true rfl) (fun _ => ?_)
  refine sm_aload_n (pc' := 7) dX0_weigh_6 rfl rfl ?_
  refine sm_aload_n (pc' := 8) dX0_weigh_7 rfl rfl ?_
  refine sm_calli (pc' := 11) (sa := [qv (some a101), qv (some th)]) (st := []) (iv_X0_17 th (some a101)) (Nat.le_of_ble_eq_true rfl) dX0_weigh_8 rfl (Nat.le_of_ble_eq_true rfl) (fun v102 => ?_)
  refine sm_aload_n (pc' := 12) dX0_weigh_11 rfl rfl ?_
  refine sm_getI (pc' := 15) fk_X0_21 nr_1_5 dX0_weigh_12 rfl (fun v103 => ?_)
  refine sm_iadd (pc' := 16) dX0_weigh_15 rfl ?_
  exact sm_ireturn rfl dX0_weigh_16
theorem kX0_weigh (th : Nat) (a1 : Option Nat) : Callee 3 yX0_weigh cX0_weigh 2 (some .int) [qv (some th), qv a1] vI (pX0_weigh th a1) := callee_ofS [(0, qv (some th)), (1, qv a1)] (by decide +kernel) (Nat.le_of_ble_eq_true rfl) rfl (sX0_weigh th a1)
/-! HollowPress$Flow.empty()V -/
abbrev eX1_empty : Env0 := (RX1, "empty", cX1_empty, 2, none, 0)
def pX1_empty_L7 (th : Nat) (k102 : Prg Unit) : Nat → Int32 → Prg Unit
  | 0, _ => fl
  | n + 1, v101 =>
    gI 2 th 6 fun v103 =>
    (if v103 ≤ v101 then k102
    else gF 2 th 2 fun v104 =>
    un v104 fun a105 =>
    stI a105 v101 (2147483647 : Int32) (
    pX1_empty_L7 th k102 n (v101 + (1 : Int32))))
def pX1_empty (th : Nat) : Prg Unit :=
    pI 2 th 7 (0 : Int32) (
    pX1_empty_L7 th (rt ()) FL (0 : Int32))
set_option maxRecDepth 20000 in
theorem sX1_empty_L7 (th : Nat) (k102 : Prg Unit) (hk102 : Sim eX1_empty vU 29 [] [] (k102)) : ∀ (n : Nat), ∀ (v101 : Int32), Sim eX1_empty vU 7 [(0, qv (some th)), (1, iv v101)] [] (pX1_empty_L7 th k102 n v101) := by
  intro n
  induction n with
  | zero =>
    intros
    exact sm_fl
  | succ n ih =>
    intro v101
    unfold pX1_empty_L7
    refine sm_iload_n (pc' := 8) dX1_empty_7 rfl rfl ?_
    refine sm_aload_n (pc' := 9) dX1_empty_8 rfl rfl ?_
    refine sm_getI (pc' := 12) fk_X1_30 nr_2_6 dX1_empty_9 rfl (fun v103 => ?_)
    refine sm_icmp_ge (pc' := 15) (pc1 := 29) dX1_empty_12 (by decide) rfl (fun _ => ?_) (fun _ => ?_)
    · skip
      refine sm_sub [] rfl ?_
      exact hk102
    · skip
      refine sm_aload_n (pc' := 16) dX1_empty_15 rfl rfl ?_
      refine sm_getF (pc' := 19) fk_X1_18 yr_2_2 dX1_empty_16 rfl (fun v104 => ?_)
      refine sm_iload_n (pc' := 20) dX1_empty_19 rfl rfl ?_
      refine sm_ldc (pc' := 22) (2147483647 : Int32) w_59 dX1_empty_20 rfl ?_
      rcases v104 with _ | a105
      · exact sm_unN
      refine sm_unS ?_
      refine sm_iastore (pc' := 23) dX1_empty_22 rfl ?_
      refine sm_iinc (pc' := 26) (v101 + (1 : Int32)) [(1, iv (v101 + (1 : Int32))), (0, qv (some th))] dX1_empty_23 rfl rfl (Nat.le_of_ble_eq_true rfl) rfl rfl ?_
      refine sm_goto (pc' := 7) dX1_empty_26 (by decide) ?_
      refine sm_sub [1, 0] rfl ?_
      exact ih (v101 + (1 : Int32))
set_option maxRecDepth 20000 in
theorem sX1_empty (th : Nat) : Sim eX1_empty vU 0 [(0, qv (some th))] [] (pX1_empty th) := by
  unfold pX1_empty
  refine sm_aload_n (pc' := 1) dX1_empty_0 rfl rfl ?_
  refine sm_iconst (pc' := 2) (0 : Int32) dX1_empty_1 (by decide) rfl ?_
  refine sm_putI (pc' := 5) (gk_X1_34 _ _ _ _ _) ti_2_7 dX1_empty_2 rfl ?_
  refine sm_iconst (pc' := 6) (0 : Int32) dX1_empty_5 (by decide) rfl ?_
  refine sm_istore_n (pc' := 7) [(1, iv (0 : Int32)), (0, qv (some th))] dX1_empty_6 rfl (Nat.le_of_ble_eq_true rfl) rfl rfl ?_
  refine sm_sub [1, 0] rfl ?_
  refine sX1_empty_L7 th _ ?_ FL (0 : Int32)
  · skip
    exact sm_return rfl dX1_empty_29
theorem kX1_empty (th : Nat) : Callee 0 yX1_empty cX1_empty 2 none [qv (some th)] vU (pX1_empty th) := callee_ofS [(0, qv (some th))] (by decide +kernel) (Nat.le_of_ble_eq_true rfl) rfl (sX1_empty th)
/-! HollowPress.below(II)Z -/
abbrev eX10_below : Env0 := (RX10, "below", cX10_below, 2, (some .boolean), 0)
def pX10_below (a1 : Int32) (a2 : Int32) : Prg Int32 :=
    (lt (fun (v101 : Int32) => rtZ v101 : Int32 → Prg Int32) fun k102 =>
    (lt (k102 (0 : Int32) : Prg Int32) fun k103 =>
    (if a1 < 0 then k103
    else (if a2 ≤ a1 then k103
    else k102 (1 : Int32)))))
set_option maxRecDepth 20000 in
theorem sX10_below (a1 : Int32) (a2 : Int32) : Sim eX10_below vI 0 [(0, iv a1), (1, iv a2)] [] (pX10_below a1 a2) := by
  unfold pX10_below
  refine sm_iload_n (pc' := 1) dX10_below_0 rfl rfl ?_
  refine sm_lt (fun k102 => ∀ (v101 : Int32), Sim eX10_below vI 14 [] [iv v101] (k102 v101)) ?_ (fun k102 hk102 => ?_)
  · intro v101
    exact sm_zreturn rfl dX10_below_14
  · skip
    refine sm_lt (fun k103 => Sim eX10_below vI 13 [] [] (k103)) ?_ (fun k103 hk103 => ?_)
    · skip
      refine sm_iconst (pc' := 14) (0 : Int32) dX10_below_13 (by decide) rfl ?_
      exact hk102 (0 : Int32)
    · skip
      refine sm_if_lt (pc' := 4) (pc1 := 13) dX10_below_1 (by decide) rfl (fun _ => ?_) (fun _ => ?_)
      · skip
        refine sm_sub [] rfl ?_
        exact hk103
      · skip
        refine sm_iload_n (pc' := 5) dX10_below_4 rfl rfl ?_
        refine sm_iload_n (pc' := 6) dX10_below_5 rfl rfl ?_
        refine sm_icmp_ge (pc' := 9) (pc1 := 13) dX10_below_6 (by decide) rfl (fun _ => ?_) (fun _ => ?_)
        · skip
          refine sm_sub [] rfl ?_
          exact hk103
        · skip
          refine sm_iconst (pc' := 10) (1 : Int32) dX10_below_9 (by decide) rfl ?_
          refine sm_goto (pc' := 14) dX10_below_10 (by decide) ?_
          refine sm_sub [] rfl ?_
          exact hk102 (1 : Int32)
theorem kX10_below (a1 : Int32) (a2 : Int32) : Callee 0 yX10_below cX10_below 2 (some .boolean) [iv a1, iv a2] vI (pX10_below a1 a2) := callee_ofS [(0, iv a1), (1, iv a2)] (by decide +kernel) (Nat.le_of_ble_eq_true rfl) rfl (sX10_below a1 a2)
/-! HollowPress$Flow.reached(I)Z -/
set_option maxRecDepth 20000 in
theorem iv_X1_90 (x0 : Int32) (x1 : Int32) : Inv RX1 1 (.invokestatic 90) [iv x1, iv x0] vI (pX10_below x0 x1) := inv_SN (host := "HollowPress") (As := [iv x0, iv x1]) (kX10_below x0 x1) w_60 w_61 w_62 w_63 ⟨by decide +kernel, by decide +kernel, by show _ = some 2; decide +kernel⟩ (by decide)
abbrev eX1_reached : Env0 := (RX1, "reached", cX1_reached, 2, (some .boolean), 1)
def pX1_reached (th : Nat) (a1 : Int32) : Prg Int32 :=
    gI 2 th 6 fun v101 =>
    cl (pX10_below a1 v101) fun v102 =>
    (lt (fun (v103 : Int32) => rtZ v103 : Int32 → Prg Int32) fun k104 =>
    (lt (k104 (0 : Int32) : Prg Int32) fun k105 =>
    (if v102 = 0 then k105
    else gF 2 th 2 fun v106 =>
    un v106 fun a107 =>
    ldI a107 a1 fun v108 =>
    (if v108 = (2147483647 : Int32) then k105
    else k104 (1 : Int32)))))
set_option maxRecDepth 20000 in
theorem sX1_reached (th : Nat) (a1 : Int32) : Sim eX1_reached vI 0 [(0, qv (some th)), (1, iv a1)] [] (pX1_reached th a1) := by
  unfold pX1_reached
  refine sm_iload_n (pc' := 1) dX1_reached_0 rfl rfl ?_
  refine sm_aload_n (pc' := 2) dX1_reached_1 rfl rfl ?_
  refine sm_getI (pc' := 5) fk_X1_30 nr_2_6 dX1_reached_2 rfl (fun v101 => ?_)
  refine sm_calli (pc' := 8) (sa := [iv v101, iv a1]) (st := []) (iv_X1_90 a1 v101) (Nat.le_of_ble_eq_true rfl) dX1_reached_5 rfl (Nat.le_of_ble_eq_true rfl) (fun v102 => ?_)
  refine sm_lt (fun k104 => ∀ (v103 : Int32), Sim eX1_reached vI 27 [] [iv v103] (k104 v103)) ?_ (fun k104 hk104 => ?_)
  · intro v103
    exact sm_zreturn rfl dX1_reached_27
  · skip
    refine sm_lt (fun k105 => Sim eX1_reached vI 26 [] [] (k105)) ?_ (fun k105 hk105 => ?_)
    · skip
      refine sm_iconst (pc' := 27) (0 : Int32) dX1_reached_26 (by decide) rfl ?_
      exact hk104 (0 : Int32)
    · skip
      refine sm_if_eq (pc' := 11) (pc1 := 26) dX1_reached_8 (by decide) rfl (fun _ => ?_) (fun _ => ?_)
      · skip
        refine sm_sub [] rfl ?_
        exact hk105
      · skip
        refine sm_aload_n (pc' := 12) dX1_reached_11 rfl rfl ?_
        refine sm_getF (pc' := 15) fk_X1_18 yr_2_2 dX1_reached_12 rfl (fun v106 => ?_)
        refine sm_iload_n (pc' := 16) dX1_reached_15 rfl rfl ?_
        rcases v106 with _ | a107
        · exact sm_unN
        refine sm_unS ?_
        refine sm_iaload (pc' := 17) dX1_reached_16 rfl (fun v108 => ?_)
        refine sm_ldc (pc' := 19) (2147483647 : Int32) w_59 dX1_reached_17 rfl ?_
        refine sm_icmp_eq (pc' := 22) (pc1 := 26) dX1_reached_19 (by decide) rfl (fun _ => ?_) (fun _ => ?_)
        · skip
          refine sm_sub [] rfl ?_
          exact hk105
        · skip
          refine sm_iconst (pc' := 23) (1 : Int32) dX1_reached_22 (by decide) rfl ?_
          refine sm_goto (pc' := 27) dX1_reached_23 (by decide) ?_
          refine sm_sub [] rfl ?_
          exact hk104 (1 : Int32)
theorem kX1_reached (th : Nat) (a1 : Int32) : Callee 1 yX1_reached cX1_reached 2 (some .boolean) [qv (some th), iv a1] vI (pX1_reached th a1) := callee_ofS [(0, qv (some th)), (1, iv a1)] (by decide +kernel) (Nat.le_of_ble_eq_true rfl) rfl (sX1_reached th a1)
/-! HollowPress$Flow.strain(I)I -/
set_option maxRecDepth 20000 in
theorem iv_X1_73 (a : Nat) (x0 : Int32) : Inv RX1 2 (.invokevirtual 73) [iv x0, qv (some a)] vI (onT a 2 (pX1_reached a x0)) := inv_V (As := [iv x0]) (t := 2) (kX1_reached a x0) _ (by decide) rfl rfl w_64 w_65 w_66 w_67 w_68 ⟨by decide +kernel, by decide +kernel, by show _ = some 1; decide +kernel⟩ (by decide)
abbrev eX1_strain : Env0 := (RX1, "strain", cX1_strain, 2, (some .int), 2)
def pX1_strain (th : Nat) (a1 : Int32) : Prg Int32 :=
    cl (onT th 2 (pX1_reached th a1)) fun v101 =>
    (lt (fun (v102 : Int32) => rt v102 : Int32 → Prg Int32) fun k103 =>
    (if v101 = 0 then k103 (-1000000 : Int32)
    else gF 2 th 2 fun v104 =>
    un v104 fun a105 =>
    ldI a105 a1 fun v106 =>
    dv v106 (4 : Int32) fun v107 =>
    k103 v107))
set_option maxRecDepth 20000 in
theorem sX1_strain (th : Nat) (a1 : Int32) : Sim eX1_strain vI 0 [(0, qv (some th)), (1, iv a1)] [] (pX1_strain th a1) := by
  unfold pX1_strain
  refine sm_aload_n (pc' := 1) dX1_strain_0 rfl rfl ?_
  refine sm_iload_n (pc' := 2) dX1_strain_1 rfl rfl ?_
  refine sm_calli (pc' := 5) (sa := [iv a1, qv (some th)]) (st := []) (iv_X1_73 th a1) (Nat.le_of_ble_eq_true rfl) dX1_strain_2 rfl (Nat.le_of_ble_eq_true rfl) (fun v101 => ?_)
  refine sm_lt (fun k103 => ∀ (v102 : Int32), Sim eX1_strain vI 21 [] [iv v102] (k103 v102)) ?_ (fun k103 hk103 => ?_)
  · intro v102
    exact sm_ireturn rfl dX1_strain_21
  · skip
    refine sm_if_eq (pc' := 8) (pc1 := 19) dX1_strain_5 (by decide) rfl (fun _ => ?_) (fun _ => ?_)
    · skip
      refine sm_ldc (pc' := 21) (-1000000 : Int32) w_69 dX1_strain_19 rfl ?_
      refine sm_sub [] rfl ?_
      exact hk103 (-1000000 : Int32)
    · skip
      refine sm_aload_n (pc' := 9) dX1_strain_8 rfl rfl ?_
      refine sm_getF (pc' := 12) fk_X1_18 yr_2_2 dX1_strain_9 rfl (fun v104 => ?_)
      refine sm_iload_n (pc' := 13) dX1_strain_12 rfl rfl ?_
      rcases v104 with _ | a105
      · exact sm_unN
      refine sm_unS ?_
      refine sm_iaload (pc' := 14) dX1_strain_13 rfl (fun v106 => ?_)
      refine sm_iconst (pc' := 15) (4 : Int32) dX1_strain_14 (by decide) rfl ?_
      refine sm_idiv (pc' := 16) dX1_strain_15 rfl (fun _ v107 _ => ?_)
      refine sm_goto (pc' := 21) dX1_strain_16 (by decide) ?_
      refine sm_sub [] rfl ?_
      exact hk103 v107
theorem kX1_strain (th : Nat) (a1 : Int32) : Callee 2 yX1_strain cX1_strain 2 (some .int) [qv (some th), iv a1] vI (pX1_strain th a1) := callee_ofS [(0, qv (some th)), (1, iv a1)] (by decide +kernel) (Nat.le_of_ble_eq_true rfl) rfl (sX1_strain th a1)
/-! HollowPress$Flow.endsOfTrial()I -/
set_option maxRecDepth 20000 in
theorem iv_X1_69 (a : Nat) (x0 : Int32) : Inv RX1 3 (.invokevirtual 69) [iv x0, qv (some a)] vI (onT a 2 (pX1_strain a x0)) := inv_V (As := [iv x0]) (t := 2) (kX1_strain a x0) _ (by decide) rfl rfl w_71 w_72 w_73 w_67 w_74 ⟨by decide +kernel, by decide +kernel, by show _ = some 1; decide +kernel⟩ (by decide)
abbrev eX1_endsOfTrial : Env0 := (RX1, "endsOfTrial", cX1_endsOfTrial, 4, (some .int), 3)
def pX1_endsOfTrial_L4 (th : Nat) (k103 : Int32 → Prg Int32) : Nat → Int32 → Int32 → Prg Int32
  | 0, _, _ => fl
  | n + 1, v101, v102 =>
    gI 2 th 6 fun v104 =>
    (if v104 ≤ v102 then k103 v101
    else gF 2 th 0 fun v105 =>
    un v105 fun a106 =>
    ldI a106 v102 fun v107 =>
    (lt (fun (v108 : Int32) => pX1_endsOfTrial_L4 th k103 n v108 (v102 + (1 : Int32)) : Int32 → Prg Int32) fun k109 =>
    (if v107 = 0 then k109 v101
    else cl (onT th 2 (pX1_reached th v102)) fun v110 =>
    (if v110 = 0 then rt (2147483647 : Int32)
    else cl (onT th 2 (pX1_strain th v102)) fun v111 =>
    gF 2 th 5 fun v112 =>
    gF 2 th 5 fun v113 =>
    un v113 fun a114 =>
    ldI a114 v102 fun v115 =>
    un v112 fun a116 =>
    stI a116 v102 (mx v115 v111) (
    k109 (mx v101 v111))))))
def pX1_endsOfTrial (th : Nat) : Prg Int32 :=
    pX1_endsOfTrial_L4 th (fun (v117 : Int32) => rt v117) FL (0 : Int32) (0 : Int32)
set_option maxRecDepth 20000 in
theorem sX1_endsOfTrial_L4 (th : Nat) (k103 : Int32 → Prg Int32) (hk103 : ∀ (q1 : Int32), Sim eX1_endsOfTrial vI 69 [(1, iv q1)] [] (k103 q1)) : ∀ (n : Nat), ∀ (v101 : Int32) (v102 : Int32), Sim eX1_endsOfTrial vI 4 [(0, qv (some th)), (1, iv v101), (2, iv v102)] [] (pX1_endsOfTrial_L4 th k103 n v101 v102) := by
  intro n
  induction n with
  | zero =>
    intros
    exact sm_fl
  | succ n ih =>
    intro v101 v102
    unfold pX1_endsOfTrial_L4
    refine sm_iload_n (pc' := 5) dX1_endsOfTrial_4 rfl rfl ?_
    refine sm_aload_n (pc' := 6) dX1_endsOfTrial_5 rfl rfl ?_
    refine sm_getI (pc' := 9) fk_X1_30 nr_2_6 dX1_endsOfTrial_6 rfl (fun v104 => ?_)
    refine sm_icmp_ge (pc' := 12) (pc1 := 69) dX1_endsOfTrial_9 (by decide) rfl (fun _ => ?_) (fun _ => ?_)
    · skip
      refine sm_sub [1] rfl ?_
      exact hk103 v101
    · skip
      refine sm_aload_n (pc' := 13) dX1_endsOfTrial_12 rfl rfl ?_
      refine sm_getF (pc' := 16) fk_X1_9 yr_2_0 dX1_endsOfTrial_13 rfl (fun v105 => ?_)
      refine sm_iload_n (pc' := 17) dX1_endsOfTrial_16 rfl rfl ?_
      rcases v105 with _ | a106
      · exact sm_unN
      refine sm_unS ?_
      refine sm_iaload (pc' := 18) dX1_endsOfTrial_17 rfl (fun v107 => ?_)
      refine sm_lt (fun k109 => ∀ (v108 : Int32), Sim eX1_endsOfTrial vI 63 [(0, qv (some th)), (1, iv v108), (2, iv v102)] [] (k109 v108)) ?_ (fun k109 hk109 => ?_)
      · intro v108
        refine sm_iinc (pc' := 66) (v102 + (1 : Int32)) [(2, iv (v102 + (1 : Int32))), (0, qv (some th)), (1, iv v108)] dX1_endsOfTrial_63 rfl rfl (Nat.le_of_ble_eq_true rfl) rfl rfl ?_
        refine sm_goto (pc' := 4) dX1_endsOfTrial_66 (by decide) ?_
        refine sm_sub [1, 2, 0] rfl ?_
        exact ih v108 (v102 + (1 : Int32))
      · skip
        refine sm_if_ne (pc' := 21) (pc1 := 24) dX1_endsOfTrial_18 (by decide) rfl (fun _ => ?_) (fun _ => ?_)
        · skip
          refine sm_aload_n (pc' := 25) dX1_endsOfTrial_24 rfl rfl ?_
          refine sm_iload_n (pc' := 26) dX1_endsOfTrial_25 rfl rfl ?_
          refine sm_calli (pc' := 29) (sa := [iv v102, qv (some th)]) (st := []) (iv_X1_73 th v102) (Nat.le_of_ble_eq_true rfl) dX1_endsOfTrial_26 rfl (Nat.le_of_ble_eq_true rfl) (fun v110 => ?_)
          refine sm_if_ne (pc' := 32) (pc1 := 35) dX1_endsOfTrial_29 (by decide) rfl (fun _ => ?_) (fun _ => ?_)
          · skip
            refine sm_aload_n (pc' := 36) dX1_endsOfTrial_35 rfl rfl ?_
            refine sm_iload_n (pc' := 37) dX1_endsOfTrial_36 rfl rfl ?_
            refine sm_calli (pc' := 40) (sa := [iv v102, qv (some th)]) (st := []) (iv_X1_69 th v102) (Nat.le_of_ble_eq_true rfl) dX1_endsOfTrial_37 rfl (Nat.le_of_ble_eq_true rfl) (fun v111 => ?_)
            refine sm_istore_n (pc' := 41) [(3, iv v111), (0, qv (some th)), (1, iv v101), (2, iv v102)] dX1_endsOfTrial_40 rfl (Nat.le_of_ble_eq_true rfl) rfl rfl ?_
            refine sm_iload_n (pc' := 42) dX1_endsOfTrial_41 rfl rfl ?_
            refine sm_iload_n (pc' := 43) dX1_endsOfTrial_42 rfl rfl ?_
            refine sm_mmax (pc' := 46) w_75 w_76 w_77 w_78 dX1_endsOfTrial_43 (by decide) (Nat.le_of_ble_eq_true rfl) rfl ?_
            refine sm_istore_n (pc' := 47) [(1, iv (mx v101 v111)), (3, iv v111), (0, qv (some th)), (2, iv v102)] dX1_endsOfTrial_46 rfl (Nat.le_of_ble_eq_true rfl) rfl rfl ?_
            refine sm_aload_n (pc' := 48) dX1_endsOfTrial_47 rfl rfl ?_
            refine sm_getF (pc' := 51) fk_X1_27 yr_2_5 dX1_endsOfTrial_48 rfl (fun v112 => ?_)
            refine sm_iload_n (pc' := 52) dX1_endsOfTrial_51 rfl rfl ?_
            refine sm_aload_n (pc' := 53) dX1_endsOfTrial_52 rfl rfl ?_
            refine sm_getF (pc' := 56) fk_X1_27 yr_2_5 dX1_endsOfTrial_53 rfl (fun v113 => ?_)
            refine sm_iload_n (pc' := 57) dX1_endsOfTrial_56 rfl rfl ?_
            rcases v113 with _ | a114
            · exact sm_unN
            refine sm_unS ?_
            refine sm_iaload (pc' := 58) dX1_endsOfTrial_57 rfl (fun v115 => ?_)
            refine sm_iload_n (pc' := 59) dX1_endsOfTrial_58 rfl rfl ?_
            refine sm_mmax (pc' := 62) w_75 w_76 w_77 w_78 dX1_endsOfTrial_59 (by decide) (Nat.le_of_ble_eq_true rfl) rfl ?_
            rcases v112 with _ | a116
            · exact sm_unN
            refine sm_unS ?_
            refine sm_iastore (pc' := 63) dX1_endsOfTrial_62 rfl ?_
            refine sm_sub [2, 0, 3] rfl ?_
            exact hk109 (mx v101 v111)
          · skip
            refine sm_ldc (pc' := 34) (2147483647 : Int32) w_59 dX1_endsOfTrial_32 rfl ?_
            exact sm_ireturn rfl dX1_endsOfTrial_34
        · skip
          refine sm_goto (pc' := 63) dX1_endsOfTrial_21 (by decide) ?_
          exact hk109 v101
set_option maxRecDepth 20000 in
theorem sX1_endsOfTrial (th : Nat) : Sim eX1_endsOfTrial vI 0 [(0, qv (some th))] [] (pX1_endsOfTrial th) := by
  unfold pX1_endsOfTrial
  refine sm_iconst (pc' := 1) (0 : Int32) dX1_endsOfTrial_0 (by decide) rfl ?_
  refine sm_istore_n (pc' := 2) [(1, iv (0 : Int32)), (0, qv (some th))] dX1_endsOfTrial_1 rfl (Nat.le_of_ble_eq_true rfl) rfl rfl ?_
  refine sm_iconst (pc' := 3) (0 : Int32) dX1_endsOfTrial_2 (by decide) rfl ?_
  refine sm_istore_n (pc' := 4) [(2, iv (0 : Int32)), (1, iv (0 : Int32)), (0, qv (some th))] dX1_endsOfTrial_3 rfl (Nat.le_of_ble_eq_true rfl) rfl rfl ?_
  refine sm_sub [2, 1, 0] rfl ?_
  refine sX1_endsOfTrial_L4 th _ ?_ FL (0 : Int32) (0 : Int32)
  · intro v117
    refine sm_iload_n (pc' := 70) dX1_endsOfTrial_69 rfl rfl ?_
    exact sm_ireturn rfl dX1_endsOfTrial_70
theorem kX1_endsOfTrial (th : Nat) : Callee 3 yX1_endsOfTrial cX1_endsOfTrial 4 (some .int) [qv (some th)] vI (pX1_endsOfTrial th) := callee_ofS [(0, qv (some th))] (by decide +kernel) (Nat.le_of_ble_eq_true rfl) rfl (sX1_endsOfTrial th)
/-! HollowPress$Flow.ease(I)Z -/
abbrev eX1_ease : Env0 := (RX1, "ease", cX1_ease, 5, (some .boolean), 0)
def pX1_ease_L7 (th : Nat) (a1 : Int32) (k103 : Int32 → Prg Int32) : Nat → Int32 → Int32 → Prg Int32
  | 0, _, _ => fl
  | n + 1, v101, v102 =>
    (if (((4 : Int32) * a1) + (4 : Int32)) ≤ v102 then k103 v101
    else gF 2 th 1 fun v104 =>
    un v104 fun a105 =>
    ldI a105 v102 fun v106 =>
    (lt (fun (v107 : Int32) => pX1_ease_L7 th a1 k103 n v107 (v102 + (1 : Int32)) : Int32 → Prg Int32) fun k108 =>
    (if v106 = (-1000000 : Int32) then k108 v101
    else gF 2 th 2 fun v109 =>
    un v109 fun a110 =>
    ldI a110 v106 fun v111 =>
    (if v101 ≤ v111 then k108 v101
    else gF 2 th 2 fun v112 =>
    un v112 fun a113 =>
    ldI a113 v106 fun v114 =>
    k108 v114))))
def pX1_ease (th : Nat) (a1 : Int32) : Prg Int32 :=
    pX1_ease_L7 th a1 (fun (v115 : Int32) => (if v115 = (2147483647 : Int32) then rtZ (0 : Int32)
    else gF 2 th 0 fun v116 =>
    un v116 fun a117 =>
    ldI a117 a1 fun v118 =>
    gF 2 th 2 fun v119 =>
    un v119 fun a120 =>
    ldI a120 a1 fun v121 =>
    (if (v115 + ((4 : Int32) * v118)) < v121 then gF 2 th 2 fun v122 =>
    un v122 fun a123 =>
    stI a123 a1 (v115 + ((4 : Int32) * v118)) (
    rtZ (1 : Int32))
    else rtZ (0 : Int32)))) FL (2147483647 : Int32) ((4 : Int32) * a1)
set_option maxRecDepth 20000 in
theorem sX1_ease_L7 (th : Nat) (a1 : Int32) (k103 : Int32 → Prg Int32) (hk103 : ∀ (q2 : Int32), Sim eX1_ease vI 56 [(0, qv (some th)), (1, iv a1), (2, iv q2)] [] (k103 q2)) : ∀ (n : Nat), ∀ (v101 : Int32) (v102 : Int32), Sim eX1_ease vI 7 [(0, qv (some th)), (1, iv a1), (2, iv v101), (3, iv v102)] [] (pX1_ease_L7 th a1 k103 n v101 v102) := by
  intro n
  induction n with
  | zero =>
    intros
    exact sm_fl
  | succ n ih =>
    intro v101 v102
    unfold pX1_ease_L7
    refine sm_iload_n (pc' := 8) dX1_ease_7 rfl rfl ?_
    refine sm_iconst (pc' := 9) (4 : Int32) dX1_ease_8 (by decide) rfl ?_
    refine sm_iload_n (pc' := 10) dX1_ease_9 rfl rfl ?_
    refine sm_imul (pc' := 11) dX1_ease_10 rfl ?_
    refine sm_iconst (pc' := 12) (4 : Int32) dX1_ease_11 (by decide) rfl ?_
    refine sm_iadd (pc' := 13) dX1_ease_12 rfl ?_
    refine sm_icmp_ge (pc' := 16) (pc1 := 56) dX1_ease_13 (by decide) rfl (fun _ => ?_) (fun _ => ?_)
    · skip
      refine sm_sub [0, 1, 2] rfl ?_
      exact hk103 v101
    · skip
      refine sm_aload_n (pc' := 17) dX1_ease_16 rfl rfl ?_
      refine sm_getF (pc' := 20) fk_X1_15 yr_2_1 dX1_ease_17 rfl (fun v104 => ?_)
      refine sm_iload_n (pc' := 21) dX1_ease_20 rfl rfl ?_
      rcases v104 with _ | a105
      · exact sm_unN
      refine sm_unS ?_
      refine sm_iaload (pc' := 22) dX1_ease_21 rfl (fun v106 => ?_)
      refine sm_istore (pc' := 24) [(4, iv v106), (0, qv (some th)), (1, iv a1), (2, iv v101), (3, iv v102)] dX1_ease_22  (Nat.le_of_ble_eq_true rfl) rfl rfl ?_
      refine sm_iload (pc' := 26) dX1_ease_24 rfl rfl ?_
      refine sm_ldc (pc' := 28) (-1000000 : Int32) w_69 dX1_ease_26 rfl ?_
      refine sm_lt (fun k108 => ∀ (v107 : Int32), Sim eX1_ease vI 50 [(0, qv (some th)), (1, iv a1), (2, iv v107), (3, iv v102)] [] (k108 v107)) ?_ (fun k108 hk108 => ?_)
      · intro v107
        refine sm_iinc (pc' := 53) (v102 + (1 : Int32)) [(3, iv (v102 + (1 : Int32))), (0, qv (some th)), (1, iv a1), (2, iv v107)] dX1_ease_50 rfl rfl (Nat.le_of_ble_eq_true rfl) rfl rfl ?_
        refine sm_goto (pc' := 7) dX1_ease_53 (by decide) ?_
        refine sm_sub [1, 2, 3, 0] rfl ?_
        exact ih v107 (v102 + (1 : Int32))
      · skip
        refine sm_icmp_eq (pc' := 31) (pc1 := 50) dX1_ease_28 (by decide) rfl (fun _ => ?_) (fun _ => ?_)
        · skip
          refine sm_sub [1, 2, 3, 4] rfl ?_
          exact hk108 v101
        · skip
          refine sm_aload_n (pc' := 32) dX1_ease_31 rfl rfl ?_
          refine sm_getF (pc' := 35) fk_X1_18 yr_2_2 dX1_ease_32 rfl (fun v109 => ?_)
          refine sm_iload (pc' := 37) dX1_ease_35 rfl rfl ?_
          rcases v109 with _ | a110
          · exact sm_unN
          refine sm_unS ?_
          refine sm_iaload (pc' := 38) dX1_ease_37 rfl (fun v111 => ?_)
          refine sm_iload_n (pc' := 39) dX1_ease_38 rfl rfl ?_
          refine sm_icmp_ge (pc' := 42) (pc1 := 50) dX1_ease_39 (by decide) rfl (fun _ => ?_) (fun _ => ?_)
          · skip
            refine sm_sub [1, 2, 3, 4] rfl ?_
            exact hk108 v101
          · skip
            refine sm_aload_n (pc' := 43) dX1_ease_42 rfl rfl ?_
            refine sm_getF (pc' := 46) fk_X1_18 yr_2_2 dX1_ease_43 rfl (fun v112 => ?_)
            refine sm_iload (pc' := 48) dX1_ease_46 rfl rfl ?_
            rcases v112 with _ | a113
            · exact sm_unN
            refine sm_unS ?_
            refine sm_iaload (pc' := 49) dX1_ease_48 rfl (fun v114 => ?_)
            refine sm_istore_n (pc' := 50) [(2, iv v114), (4, iv v106), (0, qv (some th)), (1, iv a1), (3, iv v102)] dX1_ease_49 rfl (Nat.le_of_ble_eq_true rfl) rfl rfl ?_
            refine sm_sub [2, 3, 0, 4] rfl ?_
            exact hk108 v114
set_option maxRecDepth 20000 in
theorem sX1_ease (th : Nat) (a1 : Int32) : Sim eX1_ease vI 0 [(0, qv (some th)), (1, iv a1)] [] (pX1_ease th a1) := by
  unfold pX1_ease
  refine sm_ldc (pc' := 2) (2147483647 : Int32) w_59 dX1_ease_0 rfl ?_
  refine sm_istore_n (pc' := 3) [(2, iv (2147483647 : Int32)), (0, qv (some th)), (1, iv a1)] dX1_ease_2 rfl (Nat.le_of_ble_eq_true rfl) rfl rfl ?_
  refine sm_iconst (pc' := 4) (4 : Int32) dX1_ease_3 (by decide) rfl ?_
  refine sm_iload_n (pc' := 5) dX1_ease_4 rfl rfl ?_
  refine sm_imul (pc' := 6) dX1_ease_5 rfl ?_
  refine sm_istore_n (pc' := 7) [(3, iv ((4 : Int32) * a1)), (2, iv (2147483647 : Int32)), (0, qv (some th)), (1, iv a1)] dX1_ease_6 rfl (Nat.le_of_ble_eq_true rfl) rfl rfl ?_
  refine sm_sub [2, 3, 1, 0] rfl ?_
  refine sX1_ease_L7 th a1 _ ?_ FL (2147483647 : Int32) ((4 : Int32) * a1)
  · intro v115
    refine sm_iload_n (pc' := 57) dX1_ease_56 rfl rfl ?_
    refine sm_ldc (pc' := 59) (2147483647 : Int32) w_59 dX1_ease_57 rfl ?_
    refine sm_icmp_ne (pc' := 62) (pc1 := 64) dX1_ease_59 (by decide) rfl (fun _ => ?_) (fun _ => ?_)
    · skip
      refine sm_iload_n (pc' := 65) dX1_ease_64 rfl rfl ?_
      refine sm_iconst (pc' := 66) (4 : Int32) dX1_ease_65 (by decide) rfl ?_
      refine sm_aload_n (pc' := 67) dX1_ease_66 rfl rfl ?_
      refine sm_getF (pc' := 70) fk_X1_9 yr_2_0 dX1_ease_67 rfl (fun v116 => ?_)
      refine sm_iload_n (pc' := 71) dX1_ease_70 rfl rfl ?_
      rcases v116 with _ | a117
      · exact sm_unN
      refine sm_unS ?_
      refine sm_iaload (pc' := 72) dX1_ease_71 rfl (fun v118 => ?_)
      refine sm_imul (pc' := 73) dX1_ease_72 rfl ?_
      refine sm_iadd (pc' := 74) dX1_ease_73 rfl ?_
      refine sm_istore_n (pc' := 75) [(3, iv (v115 + ((4 : Int32) * v118))), (0, qv (some th)), (1, iv a1), (2, iv v115)] dX1_ease_74 rfl (Nat.le_of_ble_eq_true rfl) rfl rfl ?_
      refine sm_iload_n (pc' := 76) dX1_ease_75 rfl rfl ?_
      refine sm_aload_n (pc' := 77) dX1_ease_76 rfl rfl ?_
      refine sm_getF (pc' := 80) fk_X1_18 yr_2_2 dX1_ease_77 rfl (fun v119 => ?_)
      refine sm_iload_n (pc' := 81) dX1_ease_80 rfl rfl ?_
      rcases v119 with _ | a120
      · exact sm_unN
      refine sm_unS ?_
      refine sm_iaload (pc' := 82) dX1_ease_81 rfl (fun v121 => ?_)
      refine sm_icmp_lt (pc' := 85) (pc1 := 87) dX1_ease_82 (by decide) rfl (fun _ => ?_) (fun _ => ?_)
      · skip
        refine sm_aload_n (pc' := 88) dX1_ease_87 rfl rfl ?_
        refine sm_getF (pc' := 91) fk_X1_18 yr_2_2 dX1_ease_88 rfl (fun v122 => ?_)
        refine sm_iload_n (pc' := 92) dX1_ease_91 rfl rfl ?_
        refine sm_iload_n (pc' := 93) dX1_ease_92 rfl rfl ?_
        rcases v122 with _ | a123
        · exact sm_unN
        refine sm_unS ?_
        refine sm_iastore (pc' := 94) dX1_ease_93 rfl ?_
        refine sm_iconst (pc' := 95) (1 : Int32) dX1_ease_94 (by decide) rfl ?_
        exact sm_zreturn rfl dX1_ease_95
      · skip
        refine sm_iconst (pc' := 86) (0 : Int32) dX1_ease_85 (by decide) rfl ?_
        exact sm_zreturn rfl dX1_ease_86
    · skip
      refine sm_iconst (pc' := 63) (0 : Int32) dX1_ease_62 (by decide) rfl ?_
      exact sm_zreturn rfl dX1_ease_63
theorem kX1_ease (th : Nat) (a1 : Int32) : Callee 0 yX1_ease cX1_ease 5 (some .boolean) [qv (some th), iv a1] vI (pX1_ease th a1) := callee_ofS [(0, qv (some th)), (1, iv a1)] (by decide +kernel) (Nat.le_of_ble_eq_true rfl) rfl (sX1_ease th a1)
/-! HollowPress$Flow.flowOn()V -/
set_option maxRecDepth 20000 in
theorem iv_X1_129 (a : Nat) (x0 : Int32) : Inv RX1 1 (.invokevirtual 129) [iv x0, qv (some a)] vI (onT a 2 (pX1_ease a x0)) := inv_V (As := [iv x0]) (t := 2) (kX1_ease a x0) _ (by decide) rfl rfl w_81 w_82 w_83 w_67 w_84 ⟨by decide +kernel, by decide +kernel, by show _ = some 1; decide +kernel⟩ (by decide)
abbrev eX1_flowOn : Env0 := (RX1, "flowOn", cX1_flowOn, 4, none, 1)
def pX1_flowOn_L20 (th : Nat) (v102 : Int32) (k107 : Int32 → Prg Unit) : Nat → Int32 → Int32 → Prg Unit
  | 0, _, _ => fl
  | n + 1, v105, v106 =>
    gI 2 th 6 fun v108 =>
    (if v108 ≤ v106 then k107 v105
    else cl (onT th 2 (pX1_ease th v106)) fun v109 =>
    (lt (fun (v110 : Int32) => pX1_flowOn_L20 th v102 k107 n v110 (v106 + (1 : Int32)) : Int32 → Prg Unit) fun k111 =>
    (if v109 = 0 then k111 v105
    else k111 (1 : Int32))))
def pX1_flowOn_L51 (th : Nat) (v102 : Int32) (k116 : Int32 → Prg Unit) : Nat → Int32 → Int32 → Prg Unit
  | 0, _, _ => fl
  | n + 1, v114, v115 =>
    (if v115 < 0 then k116 v114
    else cl (onT th 2 (pX1_ease th v115)) fun v117 =>
    (lt (fun (v118 : Int32) => pX1_flowOn_L51 th v102 k116 n v118 (v115 + (-1 : Int32)) : Int32 → Prg Unit) fun k119 =>
    (if v117 = 0 then k119 v114
    else k119 (1 : Int32))))
def pX1_flowOn_L4 (th : Nat) (k103 : Prg Unit) : Nat → Int32 → Int32 → Prg Unit
  | 0, _, _ => fl
  | n + 1, v101, v102 =>
    gI 2 th 6 fun v104 =>
    (if v104 ≤ v102 then k103
    else (if v101 = 0 then k103
    else pX1_flowOn_L20 th v102 (fun (v112 : Int32) => gI 2 th 6 fun v113 =>
    pX1_flowOn_L51 th v102 (fun (v120 : Int32) => pX1_flowOn_L4 th k103 n v120 (v102 + (1 : Int32))) FL v112 (v113 - (1 : Int32))) FL (0 : Int32) (0 : Int32)))
def pX1_flowOn (th : Nat) : Prg Unit :=
    pX1_flowOn_L4 th (rt ()) FL (1 : Int32) (0 : Int32)
set_option maxRecDepth 20000 in
theorem sX1_flowOn_L20 (th : Nat) (v102 : Int32) (k107 : Int32 → Prg Unit) (hk107 : ∀ (q1 : Int32), Sim eX1_flowOn vU 44 [(0, qv (some th)), (1, iv q1), (2, iv v102)] [] (k107 q1)) : ∀ (n : Nat), ∀ (v105 : Int32) (v106 : Int32), Sim eX1_flowOn vU 20 [(0, qv (some th)), (1, iv v105), (2, iv v102), (3, iv v106)] [] (pX1_flowOn_L20 th v102 k107 n v105 v106) := by
  intro n
  induction n with
  | zero =>
    intros
    exact sm_fl
  | succ n ih =>
    intro v105 v106
    unfold pX1_flowOn_L20
    refine sm_iload_n (pc' := 21) dX1_flowOn_20 rfl rfl ?_
    refine sm_aload_n (pc' := 22) dX1_flowOn_21 rfl rfl ?_
    refine sm_getI (pc' := 25) fk_X1_30 nr_2_6 dX1_flowOn_22 rfl (fun v108 => ?_)
    refine sm_icmp_ge (pc' := 28) (pc1 := 44) dX1_flowOn_25 (by decide) rfl (fun _ => ?_) (fun _ => ?_)
    · skip
      refine sm_sub [0, 1, 2] rfl ?_
      exact hk107 v105
    · skip
      refine sm_aload_n (pc' := 29) dX1_flowOn_28 rfl rfl ?_
      refine sm_iload_n (pc' := 30) dX1_flowOn_29 rfl rfl ?_
      refine sm_calli (pc' := 33) (sa := [iv v106, qv (some th)]) (st := []) (iv_X1_129 th v106) (Nat.le_of_ble_eq_true rfl) dX1_flowOn_30 rfl (Nat.le_of_ble_eq_true rfl) (fun v109 => ?_)
      refine sm_lt (fun k111 => ∀ (v110 : Int32), Sim eX1_flowOn vU 38 [(0, qv (some th)), (1, iv v110), (2, iv v102), (3, iv v106)] [] (k111 v110)) ?_ (fun k111 hk111 => ?_)
      · intro v110
        refine sm_iinc (pc' := 41) (v106 + (1 : Int32)) [(3, iv (v106 + (1 : Int32))), (0, qv (some th)), (1, iv v110), (2, iv v102)] dX1_flowOn_38 rfl rfl (Nat.le_of_ble_eq_true rfl) rfl rfl ?_
        refine sm_goto (pc' := 20) dX1_flowOn_41 (by decide) ?_
        refine sm_sub [1, 2, 3, 0] rfl ?_
        exact ih v110 (v106 + (1 : Int32))
      · skip
        refine sm_if_eq (pc' := 36) (pc1 := 38) dX1_flowOn_33 (by decide) rfl (fun _ => ?_) (fun _ => ?_)
        · skip
          exact hk111 v105
        · skip
          refine sm_iconst (pc' := 37) (1 : Int32) dX1_flowOn_36 (by decide) rfl ?_
          refine sm_istore_n (pc' := 38) [(1, iv (1 : Int32)), (0, qv (some th)), (2, iv v102), (3, iv v106)] dX1_flowOn_37 rfl (Nat.le_of_ble_eq_true rfl) rfl rfl ?_
          refine sm_sub [1, 0, 2, 3] rfl ?_
          exact hk111 (1 : Int32)
set_option maxRecDepth 20000 in
theorem sX1_flowOn_L51 (th : Nat) (v102 : Int32) (k116 : Int32 → Prg Unit) (hk116 : ∀ (q1 : Int32), Sim eX1_flowOn vU 71 [(0, qv (some th)), (1, iv q1), (2, iv v102)] [] (k116 q1)) : ∀ (n : Nat), ∀ (v114 : Int32) (v115 : Int32), Sim eX1_flowOn vU 51 [(0, qv (some th)), (1, iv v114), (2, iv v102), (3, iv v115)] [] (pX1_flowOn_L51 th v102 k116 n v114 v115) := by
  intro n
  induction n with
  | zero =>
    intros
    exact sm_fl
  | succ n ih =>
    intro v114 v115
    unfold pX1_flowOn_L51
    refine sm_iload_n (pc' := 52) dX1_flowOn_51 rfl rfl ?_
    refine sm_if_lt (pc' := 55) (pc1 := 71) dX1_flowOn_52 (by decide) rfl (fun _ => ?_) (fun _ => ?_)
    · skip
      refine sm_sub [0, 1, 2] rfl ?_
      exact hk116 v114
    · skip
      refine sm_aload_n (pc' := 56) dX1_flowOn_55 rfl rfl ?_
      refine sm_iload_n (pc' := 57) dX1_flowOn_56 rfl rfl ?_
      refine sm_calli (pc' := 60) (sa := [iv v115, qv (some th)]) (st := []) (iv_X1_129 th v115) (Nat.le_of_ble_eq_true rfl) dX1_flowOn_57 rfl (Nat.le_of_ble_eq_true rfl) (fun v117 => ?_)
      refine sm_lt (fun k119 => ∀ (v118 : Int32), Sim eX1_flowOn vU 65 [(0, qv (some th)), (1, iv v118), (2, iv v102), (3, iv v115)] [] (k119 v118)) ?_ (fun k119 hk119 => ?_)
      · intro v118
        refine sm_iinc (pc' := 68) (v115 + (-1 : Int32)) [(3, iv (v115 + (-1 : Int32))), (0, qv (some th)), (1, iv v118), (2, iv v102)] dX1_flowOn_65 rfl rfl (Nat.le_of_ble_eq_true rfl) rfl rfl ?_
        refine sm_goto (pc' := 51) dX1_flowOn_68 (by decide) ?_
        refine sm_sub [1, 2, 3, 0] rfl ?_
        exact ih v118 (v115 + (-1 : Int32))
      · skip
        refine sm_if_eq (pc' := 63) (pc1 := 65) dX1_flowOn_60 (by decide) rfl (fun _ => ?_) (fun _ => ?_)
        · skip
          exact hk119 v114
        · skip
          refine sm_iconst (pc' := 64) (1 : Int32) dX1_flowOn_63 (by decide) rfl ?_
          refine sm_istore_n (pc' := 65) [(1, iv (1 : Int32)), (0, qv (some th)), (2, iv v102), (3, iv v115)] dX1_flowOn_64 rfl (Nat.le_of_ble_eq_true rfl) rfl rfl ?_
          refine sm_sub [1, 0, 2, 3] rfl ?_
          exact hk119 (1 : Int32)
set_option maxRecDepth 20000 in
theorem sX1_flowOn_L4 (th : Nat) (k103 : Prg Unit) (hk103 : Sim eX1_flowOn vU 77 [] [] (k103)) : ∀ (n : Nat), ∀ (v101 : Int32) (v102 : Int32), Sim eX1_flowOn vU 4 [(0, qv (some th)), (1, iv v101), (2, iv v102)] [] (pX1_flowOn_L4 th k103 n v101 v102) := by
  intro n
  induction n with
  | zero =>
    intros
    exact sm_fl
  | succ n ih =>
    intro v101 v102
    unfold pX1_flowOn_L4
    refine sm_iload_n (pc' := 5) dX1_flowOn_4 rfl rfl ?_
    refine sm_aload_n (pc' := 6) dX1_flowOn_5 rfl rfl ?_
    refine sm_getI (pc' := 9) fk_X1_30 nr_2_6 dX1_flowOn_6 rfl (fun v104 => ?_)
    refine sm_icmp_ge (pc' := 12) (pc1 := 77) dX1_flowOn_9 (by decide) rfl (fun _ => ?_) (fun _ => ?_)
    · skip
      refine sm_sub [] rfl ?_
      exact hk103
    · skip
      refine sm_iload_n (pc' := 13) dX1_flowOn_12 rfl rfl ?_
      refine sm_if_eq (pc' := 16) (pc1 := 77) dX1_flowOn_13 (by decide) rfl (fun _ => ?_) (fun _ => ?_)
      · skip
        refine sm_sub [] rfl ?_
        exact hk103
      · skip
        refine sm_iconst (pc' := 17) (0 : Int32) dX1_flowOn_16 (by decide) rfl ?_
        refine sm_istore_n (pc' := 18) [(1, iv (0 : Int32)), (0, qv (some th)), (2, iv v102)] dX1_flowOn_17 rfl (Nat.le_of_ble_eq_true rfl) rfl rfl ?_
        refine sm_iconst (pc' := 19) (0 : Int32) dX1_flowOn_18 (by decide) rfl ?_
        refine sm_istore_n (pc' := 20) [(3, iv (0 : Int32)), (1, iv (0 : Int32)), (0, qv (some th)), (2, iv v102)] dX1_flowOn_19 rfl (Nat.le_of_ble_eq_true rfl) rfl rfl ?_
        refine sm_sub [2, 1, 3, 0] rfl ?_
        refine sX1_flowOn_L20 th v102 _ ?_ FL (0 : Int32) (0 : Int32)
        · intro v112
          refine sm_aload_n (pc' := 45) dX1_flowOn_44 rfl rfl ?_
          refine sm_getI (pc' := 48) fk_X1_30 nr_2_6 dX1_flowOn_45 rfl (fun v113 => ?_)
          refine sm_iconst (pc' := 49) (1 : Int32) dX1_flowOn_48 (by decide) rfl ?_
          refine sm_isub (pc' := 50) dX1_flowOn_49 rfl ?_
          refine sm_istore_n (pc' := 51) [(3, iv (v113 - (1 : Int32))), (0, qv (some th)), (1, iv v112), (2, iv v102)] dX1_flowOn_50 rfl (Nat.le_of_ble_eq_true rfl) rfl rfl ?_
          refine sm_sub [1, 2, 3, 0] rfl ?_
          refine sX1_flowOn_L51 th v102 _ ?_ FL v112 (v113 - (1 : Int32))
          · intro v120
            refine sm_iinc (pc' := 74) (v102 + (1 : Int32)) [(2, iv (v102 + (1 : Int32))), (0, qv (some th)), (1, iv v120)] dX1_flowOn_71 rfl rfl (Nat.le_of_ble_eq_true rfl) rfl rfl ?_
            refine sm_goto (pc' := 4) dX1_flowOn_74 (by decide) ?_
            refine sm_sub [1, 2, 0] rfl ?_
            exact ih v120 (v102 + (1 : Int32))
set_option maxRecDepth 20000 in
theorem sX1_flowOn (th : Nat) : Sim eX1_flowOn vU 0 [(0, qv (some th))] [] (pX1_flowOn th) := by
  unfold pX1_flowOn
  refine sm_iconst (pc' := 1) (1 : Int32) dX1_flowOn_0 (by decide) rfl ?_
  refine sm_istore_n (pc' := 2) [(1, iv (1 : Int32)), (0, qv (some th))] dX1_flowOn_1 rfl (Nat.le_of_ble_eq_true rfl) rfl rfl ?_
  refine sm_iconst (pc' := 3) (0 : Int32) dX1_flowOn_2 (by decide) rfl ?_
  refine sm_istore_n (pc' := 4) [(2, iv (0 : Int32)), (1, iv (1 : Int32)), (0, qv (some th))] dX1_flowOn_3 rfl (Nat.le_of_ble_eq_true rfl) rfl rfl ?_
  refine sm_sub [2, 1, 0] rfl ?_
  refine sX1_flowOn_L4 th _ ?_ FL (1 : Int32) (0 : Int32)
  · skip
    exact sm_return rfl dX1_flowOn_77
theorem kX1_flowOn (th : Nat) : Callee 1 yX1_flowOn cX1_flowOn 4 none [qv (some th)] vU (pX1_flowOn th) := callee_ofS [(0, qv (some th))] (by decide +kernel) (Nat.le_of_ble_eq_true rfl) rfl (sX1_flowOn th)
/-! HollowPress$Flow.join(IIIZ)V -/
abbrev eX1_join : Env0 := (RX1, "join", cX1_join, 6, none, 1)
def pX1_join (th : Nat) (a1 : Int32) (a2 : Int32) (a3 : Int32) (a4 : Int32) : Prg Unit :=
    gI 2 th 6 fun v101 =>
    cl (pX10_below a1 v101) fun v102 =>
    (if v102 = 0 then rt ()
    else (lt (fun (v103 : Int32) => gF 2 th 1 fun v105 =>
    (lt (fun (v106 : Int32) => un v105 fun a108 =>
    stI a108 (((4 : Int32) * a1) + a2) v106 (
    rt ()) : Int32 → Prg Unit) fun k107 =>
    (if v103 = 0 then k107 (-1000000 : Int32)
    else k107 a3)) : Int32 → Prg Unit) fun k104 =>
    (lt (k104 (0 : Int32) : Prg Unit) fun k109 =>
    (if a4 = 0 then k109
    else gI 2 th 6 fun v110 =>
    cl (pX10_below a3 v110) fun v111 =>
    (if v111 = 0 then k109
    else gF 2 th 0 fun v112 =>
    un v112 fun a113 =>
    ldI a113 a1 fun v114 =>
    (if v114 ≤ 0 then k109
    else gF 2 th 0 fun v115 =>
    un v115 fun a116 =>
    ldI a116 a3 fun v117 =>
    (if v117 ≤ 0 then k109
    else k104 (1 : Int32))))))))
set_option maxRecDepth 20000 in
theorem sX1_join (th : Nat) (a1 : Int32) (a2 : Int32) (a3 : Int32) (a4 : Int32) : Sim eX1_join vU 0 [(0, qv (some th)), (1, iv a1), (2, iv a2), (3, iv a3), (4, iv a4)] [] (pX1_join th a1 a2 a3 a4) := by
  unfold pX1_join
  refine sm_iload_n (pc' := 1) dX1_join_0 rfl rfl ?_
  refine sm_aload_n (pc' := 2) dX1_join_1 rfl rfl ?_
  refine sm_getI (pc' := 5) fk_X1_30 nr_2_6 dX1_join_2 rfl (fun v101 => ?_)
  refine sm_calli (pc' := 8) (sa := [iv v101, iv a1]) (st := []) (iv_X1_90 a1 v101) (Nat.le_of_ble_eq_true rfl) dX1_join_5 rfl (Nat.le_of_ble_eq_true rfl) (fun v102 => ?_)
  refine sm_if_ne (pc' := 11) (pc1 := 12) dX1_join_8 (by decide) rfl (fun _ => ?_) (fun _ => ?_)
  · skip
    refine sm_iload (pc' := 14) dX1_join_12 rfl rfl ?_
    refine sm_lt (fun k104 => ∀ (v103 : Int32), Sim eX1_join vU 51 [(0, qv (some th)), (1, iv a1), (2, iv a2), (3, iv a3)] [iv v103] (k104 v103)) ?_ (fun k104 hk104 => ?_)
    · intro v103
      refine sm_istore (pc' := 53) [(5, iv v103), (0, qv (some th)), (1, iv a1), (2, iv a2), (3, iv a3)] dX1_join_51  (Nat.le_of_ble_eq_true rfl) rfl rfl ?_
      refine sm_aload_n (pc' := 54) dX1_join_53 rfl rfl ?_
      refine sm_getF (pc' := 57) fk_X1_15 yr_2_1 dX1_join_54 rfl (fun v105 => ?_)
      refine sm_iconst (pc' := 58) (4 : Int32) dX1_join_57 (by decide) rfl ?_
      refine sm_iload_n (pc' := 59) dX1_join_58 rfl rfl ?_
      refine sm_imul (pc' := 60) dX1_join_59 rfl ?_
      refine sm_iload_n (pc' := 61) dX1_join_60 rfl rfl ?_
      refine sm_iadd (pc' := 62) dX1_join_61 rfl ?_
      refine sm_iload (pc' := 64) dX1_join_62 rfl rfl ?_
      refine sm_lt (fun k107 => ∀ (v106 : Int32), Sim eX1_join vU 73 [] [iv v106, iv (((4 : Int32) * a1) + a2), qv v105] (k107 v106)) ?_ (fun k107 hk107 => ?_)
      · intro v106
        rcases v105 with _ | a108
        · exact sm_unN
        refine sm_unS ?_
        refine sm_iastore (pc' := 74) dX1_join_73 rfl ?_
        exact sm_return rfl dX1_join_74
      · skip
        refine sm_if_eq (pc' := 67) (pc1 := 71) dX1_join_64 (by decide) rfl (fun _ => ?_) (fun _ => ?_)
        · skip
          refine sm_ldc (pc' := 73) (-1000000 : Int32) w_69 dX1_join_71 rfl ?_
          refine sm_sub [] rfl ?_
          exact hk107 (-1000000 : Int32)
        · skip
          refine sm_iload_n (pc' := 68) dX1_join_67 rfl rfl ?_
          refine sm_goto (pc' := 73) dX1_join_68 (by decide) ?_
          refine sm_sub [] rfl ?_
          exact hk107 a3
    · skip
      refine sm_lt (fun k109 => Sim eX1_join vU 50 [(0, qv (some th)), (1, iv a1), (2, iv a2), (3, iv a3)] [] (k109)) ?_ (fun k109 hk109 => ?_)
      · skip
        refine sm_iconst (pc' := 51) (0 : Int32) dX1_join_50 (by decide) rfl ?_
        exact hk104 (0 : Int32)
      · skip
        refine sm_if_eq (pc' := 17) (pc1 := 50) dX1_join_14 (by decide) rfl (fun _ => ?_) (fun _ => ?_)
        · skip
          refine sm_sub [0, 1, 2, 3] rfl ?_
          exact hk109
        · skip
          refine sm_iload_n (pc' := 18) dX1_join_17 rfl rfl ?_
          refine sm_aload_n (pc' := 19) dX1_join_18 rfl rfl ?_
          refine sm_getI (pc' := 22) fk_X1_30 nr_2_6 dX1_join_19 rfl (fun v110 => ?_)
          refine sm_calli (pc' := 25) (sa := [iv v110, iv a3]) (st := []) (iv_X1_90 a3 v110) (Nat.le_of_ble_eq_true rfl) dX1_join_22 rfl (Nat.le_of_ble_eq_true rfl) (fun v111 => ?_)
          refine sm_if_eq (pc' := 28) (pc1 := 50) dX1_join_25 (by decide) rfl (fun _ => ?_) (fun _ => ?_)
          · skip
            refine sm_sub [0, 1, 2, 3] rfl ?_
            exact hk109
          · skip
            refine sm_aload_n (pc' := 29) dX1_join_28 rfl rfl ?_
            refine sm_getF (pc' := 32) fk_X1_9 yr_2_0 dX1_join_29 rfl (fun v112 => ?_)
            refine sm_iload_n (pc' := 33) dX1_join_32 rfl rfl ?_
            rcases v112 with _ | a113
            · exact sm_unN
            refine sm_unS ?_
            refine sm_iaload (pc' := 34) dX1_join_33 rfl (fun v114 => ?_)
            refine sm_if_le (pc' := 37) (pc1 := 50) dX1_join_34 (by decide) rfl (fun _ => ?_) (fun _ => ?_)
            · skip
              refine sm_sub [0, 1, 2, 3] rfl ?_
              exact hk109
            · skip
              refine sm_aload_n (pc' := 38) dX1_join_37 rfl rfl ?_
              refine sm_getF (pc' := 41) fk_X1_9 yr_2_0 dX1_join_38 rfl (fun v115 => ?_)
              refine sm_iload_n (pc' := 42) dX1_join_41 rfl rfl ?_
              rcases v115 with _ | a116
              · exact sm_unN
              refine sm_unS ?_
              refine sm_iaload (pc' := 43) dX1_join_42 rfl (fun v117 => ?_)
              refine sm_if_le (pc' := 46) (pc1 := 50) dX1_join_43 (by decide) rfl (fun _ => ?_) (fun _ => ?_)
              · skip
                refine sm_sub [0, 1, 2, 3] rfl ?_
                exact hk109
              · skip
                refine sm_iconst (pc' := 47) (1 : Int32) dX1_join_46 (by decide) rfl ?_
                refine sm_goto (pc' := 51) dX1_join_47 (by decide) ?_
                refine sm_sub [0, 1, 2, 3] rfl ?_
                exact hk104 (1 : Int32)
  · skip
    exact sm_return rfl dX1_join_11
theorem kX1_join (th : Nat) (a1 : Int32) (a2 : Int32) (a3 : Int32) (a4 : Int32) : Callee 1 yX1_join cX1_join 6 none [qv (some th), iv a1, iv a2, iv a3, iv a4] vU (pX1_join th a1 a2 a3 a4) := callee_ofS [(0, qv (some th)), (1, iv a1), (2, iv a2), (3, iv a3), (4, iv a4)] (by decide +kernel) (Nat.le_of_ble_eq_true rfl) rfl (sX1_join th a1 a2 a3 a4)
