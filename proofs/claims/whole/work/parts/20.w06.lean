/-! HollowPress$Runners.endAt(I)I -/
abbrev eX6_endAt : Env0 := (RX6, "endAt", cX6_endAt, 3, (some .int), 3)
def pX6_endAt (th : Nat) (a1 : Int32) : Prg Int32 :=
    cl (onT th 7 (pX6_measure th)) fun _ =>
    gF 7 th 3 fun v101 =>
    un v101 fun a102 =>
    ldF a102 a1 fun v103 =>
    (lt (fun (v104 : Int32) => rt v104 : Int32 → Prg Int32) fun k105 =>
    (nu v103 (k105 (-1000000 : Int32)) fun a106 =>
    gF 7 th 5 fun v107 =>
    un v107 fun a108 =>
    ldI a108 a1 fun v109 =>
    gI 4 a106 6 fun v110 =>
    k105 (v109 + v110)))
set_option maxRecDepth 20000 in
theorem sX6_endAt (th : Nat) (a1 : Int32) : Sim eX6_endAt vI 0 [(0, qv (some th)), (1, iv a1)] [] (pX6_endAt th a1) := by
  unfold pX6_endAt
  refine sm_aload_n (pc' := 1) dX6_endAt_0 rfl rfl ?_
  refine sm_callv (pc' := 4) (sa := [qv (some th)]) (st := []) (iv_X6_54 th) (Nat.le_of_ble_eq_true rfl) dX6_endAt_1 rfl (Nat.le_of_ble_eq_true rfl) (fun _ => ?_)
  refine sm_aload_n (pc' := 5) dX6_endAt_4 rfl rfl ?_
  refine sm_getF (pc' := 8) fk_X6_23 yr_7_3 dX6_endAt_5 rfl (fun v101 => ?_)
  refine sm_iload_n (pc' := 9) dX6_endAt_8 rfl rfl ?_
  rcases v101 with _ | a102
  · exact sm_unN
  refine sm_unS ?_
  refine sm_aaload (pc' := 10) dX6_endAt_9 rfl (fun v103 => ?_)
  refine sm_astore_n (pc' := 11) [(2, qv v103), (0, qv (some th)), (1, iv a1)] dX6_endAt_10 rfl (Nat.le_of_ble_eq_true rfl) rfl rfl ?_
  refine sm_aload_n (pc' := 12) dX6_endAt_11 rfl rfl ?_
  refine sm_lt (fun k105 => ∀ (v104 : Int32), Sim eX6_endAt vI 31 [] [iv v104] (k105 v104)) ?_ (fun k105 hk105 => ?_)
  · intro v104
    exact sm_ireturn rfl dX6_endAt_31
  · skip
    rcases v103 with _ | a106
    · refine sm_nuN ?_
      refine sm_ifnonnullN (pc' := 15) dX6_endAt_12 rfl ?_
      refine sm_ldc (pc' := 17) (-1000000 : Int32) w_355 dX6_endAt_15 rfl ?_
      refine sm_goto (pc' := 31) dX6_endAt_17 (by decide) ?_
      refine sm_sub [] rfl ?_
      exact hk105 (-1000000 : Int32)
    · refine sm_nuS ?_
      refine sm_ifnonnullS (pc' := 20) dX6_endAt_12 (by decide) ?_
      refine sm_aload_n (pc' := 21) dX6_endAt_20 rfl rfl ?_
      refine sm_getF (pc' := 24) fk_X6_31 yr_7_5 dX6_endAt_21 rfl (fun v107 => ?_)
      refine sm_iload_n (pc' := 25) dX6_endAt_24 rfl rfl ?_
      rcases v107 with _ | a108
      · exact sm_unN
      refine sm_unS ?_
      refine sm_iaload (pc' := 26) dX6_endAt_25 rfl (fun v109 => ?_)
      refine sm_aload_n (pc' := 27) dX6_endAt_26 rfl rfl ?_
      refine sm_getI (pc' := 30) fk_X6_58 nr_4_6 dX6_endAt_27 rfl (fun v110 => ?_)
      refine sm_iadd (pc' := 31) dX6_endAt_30 rfl ?_
      refine sm_sub [] rfl ?_
      exact hk105 (v109 + v110)
theorem kX6_endAt (th : Nat) (a1 : Int32) : Callee 3 yX6_endAt cX6_endAt 3 (some .int) [qv (some th), iv a1] vI (pX6_endAt th a1) := callee_ofS [(0, qv (some th)), (1, iv a1)] (by decide +kernel) (Nat.le_of_ble_eq_true rfl) rfl (sX6_endAt th a1)
/-! HollowPress.end(I)I -/
set_option maxRecDepth 20000 in
theorem iv_X10_227 (a : Nat) (x0 : Int32) : Inv RX10 4 (.invokevirtual 227) [iv x0, qv (some a)] vI (onT a 7 (pX6_endAt a x0)) := inv_V (As := [iv x0]) (t := 7) (kX6_endAt a x0) _ (by decide) rfl rfl w_356 w_357 w_358 w_225 w_359 ⟨by decide +kernel, by decide +kernel, by show _ = some 1; decide +kernel⟩ (by decide)
abbrev eX10_end : Env0 := (RX10, "end", cX10_end, 2, (some .int), 4)
def pX10_end (th : Nat) (a1 : Int32) : Prg Int32 :=
    gF 10 th 4 fun v101 =>
    un v101 fun a102 =>
    gI 7 a102 4 fun v103 =>
    cl (pX10_below a1 v103) fun v104 =>
    (if v104 = 0 then rt (-1000001 : Int32)
    else gF 10 th 4 fun v105 =>
    un v105 fun a106 =>
    cl (onT a106 7 (pX6_endAt a106 a1)) fun v107 =>
    rt v107)
set_option maxRecDepth 20000 in
theorem sX10_end (th : Nat) (a1 : Int32) : Sim eX10_end vI 0 [(0, qv (some th)), (1, iv a1)] [] (pX10_end th a1) := by
  unfold pX10_end
  refine sm_iload_n (pc' := 1) dX10_end_0 rfl rfl ?_
  refine sm_aload_n (pc' := 2) dX10_end_1 rfl rfl ?_
  refine sm_getF (pc' := 5) fk_X10_38 yr_10_4 dX10_end_2 rfl (fun v101 => ?_)
  rcases v101 with _ | a102
  · exact sm_unN
  refine sm_unS ?_
  refine sm_getI (pc' := 8) fk_X10_211 nr_7_4 dX10_end_5 rfl (fun v103 => ?_)
  refine sm_calli (pc' := 11) (sa := [iv v103, iv a1]) (st := []) (iv_X10_53 a1 v103) (Nat.le_of_ble_eq_true rfl) dX10_end_8 rfl (Nat.le_of_ble_eq_true rfl) (fun v104 => ?_)
  refine sm_if_ne (pc' := 14) (pc1 := 17) dX10_end_11 (by decide) rfl (fun _ => ?_) (fun _ => ?_)
  · skip
    refine sm_aload_n (pc' := 18) dX10_end_17 rfl rfl ?_
    refine sm_getF (pc' := 21) fk_X10_38 yr_10_4 dX10_end_18 rfl (fun v105 => ?_)
    refine sm_iload_n (pc' := 22) dX10_end_21 rfl rfl ?_
    rcases v105 with _ | a106
    · exact sm_unN
    refine sm_unS ?_
    refine sm_calli (pc' := 25) (sa := [iv a1, qv (some a106)]) (st := []) (iv_X10_227 a106 a1) (Nat.le_of_ble_eq_true rfl) dX10_end_22 rfl (Nat.le_of_ble_eq_true rfl) (fun v107 => ?_)
    exact sm_ireturn rfl dX10_end_25
  · skip
    refine sm_ldc (pc' := 16) (-1000001 : Int32) w_189 dX10_end_14 rfl ?_
    exact sm_ireturn rfl dX10_end_16
theorem kX10_end (th : Nat) (a1 : Int32) : Callee 4 yX10_end cX10_end 2 (some .int) [qv (some th), iv a1] vI (pX10_end th a1) := callee_ofS [(0, qv (some th)), (1, iv a1)] (by decide +kernel) (Nat.le_of_ble_eq_true rfl) rfl (sX10_end th a1)
/-! HollowPress.force(II)J -/
set_option maxRecDepth 20000 in
theorem iv_X10_197 (a : Nat) (x0 : Int32) : Inv RX10 4 (.invokevirtual 197) [iv x0, qv (some a)] vL (onT a 2 (pX1_forceAt a x0)) := inv_V (As := [iv x0]) (t := 2) (kX1_forceAt a x0) _ (by decide) rfl rfl w_360 w_361 w_362 w_67 w_363 ⟨by decide +kernel, by decide +kernel, by show _ = some 1; decide +kernel⟩ (by decide)
abbrev eX10_force : Env0 := (RX10, "force", cX10_force, 5, (some .long), 5)
def pX10_force (th : Nat) (a1 : Int32) (a2 : Int32) : Prg Int64 :=
    cl (pX10_below a1 (10 : Int32)) fun v101 =>
    (if v101 = 0 then rt (-1000001 : Int64)
    else gF 10 th 1 fun v102 =>
    un v102 fun a103 =>
    ldF a103 a1 fun v104 =>
    iO 4 v104 fun v105 =>
    (if v105 = 0 then cl (onT th 10 (pX10_otherThing th a1)) fun v106 =>
    rt (Int32.toInt64 v106)
    else un v104 fun a107 =>
    cO 4 a107 (
    gF 10 th 3 fun v108 =>
    un v108 fun a109 =>
    cl (onT a109 2 (pX1_fill a109 (some a107))) fun _ =>
    pI 10 th 6 (0 : Int32) (
    gF 10 th 3 fun v110 =>
    un v110 fun a111 =>
    cl (onT a111 2 (pX1_forceAt a111 a2)) fun v112 =>
    rt v112))))
set_option maxRecDepth 20000 in
theorem sX10_force (th : Nat) (a1 : Int32) (a2 : Int32) : Sim eX10_force vL 0 [(0, qv (some th)), (1, iv a1), (2, iv a2)] [] (pX10_force th a1 a2) := by
  unfold pX10_force
  refine sm_iload_n (pc' := 1) dX10_force_0 rfl rfl ?_
  refine sm_bipush (pc' := 3) (10 : Int32) dX10_force_1 (by decide) rfl ?_
  refine sm_calli (pc' := 6) (sa := [iv (10 : Int32), iv a1]) (st := []) (iv_X10_53 a1 (10 : Int32)) (Nat.le_of_ble_eq_true rfl) dX10_force_3 rfl (Nat.le_of_ble_eq_true rfl) (fun v101 => ?_)
  refine sm_if_ne (pc' := 9) (pc1 := 13) dX10_force_6 (by decide) rfl (fun _ => ?_) (fun _ => ?_)
  · skip
    refine sm_aload_n (pc' := 14) dX10_force_13 rfl rfl ?_
    refine sm_getF (pc' := 17) fk_X10_17 yr_10_1 dX10_force_14 rfl (fun v102 => ?_)
    refine sm_iload_n (pc' := 18) dX10_force_17 rfl rfl ?_
    rcases v102 with _ | a103
    · exact sm_unN
    refine sm_unS ?_
    refine sm_aaload (pc' := 19) dX10_force_18 rfl (fun v104 => ?_)
    refine sm_astore (pc' := 21) [(4, qv v104), (0, qv (some th)), (1, iv a1), (2, iv a2)] dX10_force_19  (Nat.le_of_ble_eq_true rfl) rfl rfl ?_
    refine sm_aload (pc' := 23) dX10_force_21 rfl rfl ?_
    refine sm_inst (pc' := 26) (Or.inl ⟨rfl, rfl⟩) w_283 dX10_force_23 rfl (fun v105 => ?_)
    refine sm_if_eq (pc' := 29) (pc1 := 38) dX10_force_26 (by decide) rfl (fun _ => ?_) (fun _ => ?_)
    · skip
      refine sm_aload_n (pc' := 39) dX10_force_38 rfl rfl ?_
      refine sm_iload_n (pc' := 40) dX10_force_39 rfl rfl ?_
      refine sm_calli (pc' := 43) (sa := [iv a1, qv (some th)]) (st := []) (iv_X10_145 th a1) (Nat.le_of_ble_eq_true rfl) dX10_force_40 rfl (Nat.le_of_ble_eq_true rfl) (fun v106 => ?_)
      refine sm_i2l (pc' := 44) dX10_force_43 rfl ?_
      exact sm_lreturn rfl dX10_force_44
    · skip
      refine sm_aload (pc' := 31) dX10_force_29 rfl rfl ?_
      rcases v104 with _ | a107
      · exact sm_unN
      refine sm_unS ?_
      refine sm_cast (pc' := 34) (Or.inl ⟨rfl, rfl⟩) w_283 dX10_force_31 rfl ?_
      refine sm_astore_n (pc' := 35) [(3, qv (some a107)), (4, qv (some a107)), (0, qv (some th)), (1, iv a1), (2, iv a2)] dX10_force_34 rfl (Nat.le_of_ble_eq_true rfl) rfl rfl ?_
      refine sm_goto (pc' := 45) dX10_force_35 (by decide) ?_
      refine sm_aload_n (pc' := 46) dX10_force_45 rfl rfl ?_
      refine sm_getF (pc' := 49) fk_X10_31 yr_10_3 dX10_force_46 rfl (fun v108 => ?_)
      refine sm_aload_n (pc' := 50) dX10_force_49 rfl rfl ?_
      rcases v108 with _ | a109
      · exact sm_unN
      refine sm_unS ?_
      refine sm_callv (pc' := 53) (sa := [qv (some a107), qv (some a109)]) (st := []) (iv_X10_173 a109 (some a107)) (Nat.le_of_ble_eq_true rfl) dX10_force_50 rfl (Nat.le_of_ble_eq_true rfl) (fun _ => ?_)
      refine sm_aload_n (pc' := 54) dX10_force_53 rfl rfl ?_
      refine sm_iconst (pc' := 55) (0 : Int32) dX10_force_54 (by decide) rfl ?_
      refine sm_putI (pc' := 58) (gk_X10_49 _ _ _ _ _) ti_10_6 dX10_force_55 rfl ?_
      refine sm_aload_n (pc' := 59) dX10_force_58 rfl rfl ?_
      refine sm_getF (pc' := 62) fk_X10_31 yr_10_3 dX10_force_59 rfl (fun v110 => ?_)
      refine sm_iload_n (pc' := 63) dX10_force_62 rfl rfl ?_
      rcases v110 with _ | a111
      · exact sm_unN
      refine sm_unS ?_
      refine sm_calll (pc' := 66) (sa := [iv a2, qv (some a111)]) (st := []) (iv_X10_197 a111 a2) (Nat.le_of_ble_eq_true rfl) dX10_force_63 rfl (Nat.le_of_ble_eq_true rfl) (fun v112 => ?_)
      exact sm_lreturn rfl dX10_force_66
  · skip
    refine sm_ldc2 (pc' := 12) (-1000001 : Int64) w_364 dX10_force_9 rfl ?_
    exact sm_lreturn rfl dX10_force_12
theorem kX10_force (th : Nat) (a1 : Int32) (a2 : Int32) : Callee 5 yX10_force cX10_force 5 (some .long) [qv (some th), iv a1, iv a2] vL (pX10_force th a1 a2) := callee_ofS [(0, qv (some th)), (1, iv a1), (2, iv a2)] (by decide +kernel) (Nat.le_of_ble_eq_true rfl) rfl (sX10_force th a1 a2)
/-! HollowPress$Part.addGate(I)I -/
abbrev eX3_addGate : Env0 := (RX3, "addGate", cX3_addGate, 2, (some .int), 0)
def pX3_addGate (th : Nat) (a1 : Int32) : Prg Int32 :=
    gI 4 th 5 fun v101 =>
    (if v101 < (4 : Int32) then gF 4 th 4 fun v102 =>
    gI 4 th 5 fun v103 =>
    un v102 fun a104 =>
    stI a104 v103 a1 (
    gI 4 th 5 fun v105 =>
    pI 4 th 5 (v105 + (1 : Int32)) (
    gI 4 th 5 fun v106 =>
    rt (v106 - (1 : Int32))))
    else rt (-1000003 : Int32))
set_option maxRecDepth 20000 in
theorem sX3_addGate (th : Nat) (a1 : Int32) : Sim eX3_addGate vI 0 [(0, qv (some th)), (1, iv a1)] [] (pX3_addGate th a1) := by
  unfold pX3_addGate
  refine sm_aload_n (pc' := 1) dX3_addGate_0 rfl rfl ?_
  refine sm_getI (pc' := 4) fk_X3_15 nr_4_5 dX3_addGate_1 rfl (fun v101 => ?_)
  refine sm_iconst (pc' := 5) (4 : Int32) dX3_addGate_4 (by decide) rfl ?_
  refine sm_icmp_lt (pc' := 8) (pc1 := 11) dX3_addGate_5 (by decide) rfl (fun _ => ?_) (fun _ => ?_)
  · skip
    refine sm_aload_n (pc' := 12) dX3_addGate_11 rfl rfl ?_
    refine sm_getF (pc' := 15) fk_X3_9 yr_4_4 dX3_addGate_12 rfl (fun v102 => ?_)
    refine sm_aload_n (pc' := 16) dX3_addGate_15 rfl rfl ?_
    refine sm_getI (pc' := 19) fk_X3_15 nr_4_5 dX3_addGate_16 rfl (fun v103 => ?_)
    refine sm_iload_n (pc' := 20) dX3_addGate_19 rfl rfl ?_
    rcases v102 with _ | a104
    · exact sm_unN
    refine sm_unS ?_
    refine sm_iastore (pc' := 21) dX3_addGate_20 rfl ?_
    refine sm_aload_n (pc' := 22) dX3_addGate_21 rfl rfl ?_
    refine sm_dup (pc' := 23) dX3_addGate_22 rfl rfl ?_
    refine sm_getI (pc' := 26) fk_X3_15 nr_4_5 dX3_addGate_23 rfl (fun v105 => ?_)
    refine sm_iconst (pc' := 27) (1 : Int32) dX3_addGate_26 (by decide) rfl ?_
    refine sm_iadd (pc' := 28) dX3_addGate_27 rfl ?_
    refine sm_putI (pc' := 31) (gk_X3_15 _ _ _ _ _) ti_4_5 dX3_addGate_28 rfl ?_
    refine sm_aload_n (pc' := 32) dX3_addGate_31 rfl rfl ?_
    refine sm_getI (pc' := 35) fk_X3_15 nr_4_5 dX3_addGate_32 rfl (fun v106 => ?_)
    refine sm_iconst (pc' := 36) (1 : Int32) dX3_addGate_35 (by decide) rfl ?_
    refine sm_isub (pc' := 37) dX3_addGate_36 rfl ?_
    exact sm_ireturn rfl dX3_addGate_37
  · skip
    refine sm_ldc (pc' := 10) (-1000003 : Int32) w_365 dX3_addGate_8 rfl ?_
    exact sm_ireturn rfl dX3_addGate_10
theorem kX3_addGate (th : Nat) (a1 : Int32) : Callee 0 yX3_addGate cX3_addGate 2 (some .int) [qv (some th), iv a1] vI (pX3_addGate th a1) := callee_ofS [(0, qv (some th)), (1, iv a1)] (by decide +kernel) (Nat.le_of_ble_eq_true rfl) rfl (sX3_addGate th a1)
/-! HollowPress$Part.hasGate(I)Z -/
abbrev eX3_hasGate : Env0 := (RX3, "hasGate", cX3_hasGate, 3, (some .boolean), 0)
def pX3_hasGate_L2 (th : Nat) (a1 : Int32) (k102 : Prg Int32) : Nat → Int32 → Prg Int32
  | 0, _ => fl
  | n + 1, v101 =>
    gI 4 th 5 fun v103 =>
    (if v103 ≤ v101 then k102
    else gF 4 th 4 fun v104 =>
    un v104 fun a105 =>
    ldI a105 v101 fun v106 =>
    (if v106 = a1 then rtZ (1 : Int32)
    else pX3_hasGate_L2 th a1 k102 n (v101 + (1 : Int32))))
def pX3_hasGate (th : Nat) (a1 : Int32) : Prg Int32 :=
    pX3_hasGate_L2 th a1 (rtZ (0 : Int32)) FL (0 : Int32)
set_option maxRecDepth 20000 in
theorem sX3_hasGate_L2 (th : Nat) (a1 : Int32) (k102 : Prg Int32) (hk102 : Sim eX3_hasGate vI 28 [] [] (k102)) : ∀ (n : Nat), ∀ (v101 : Int32), Sim eX3_hasGate vI 2 [(0, qv (some th)), (1, iv a1), (2, iv v101)] [] (pX3_hasGate_L2 th a1 k102 n v101) := by
  intro n
  induction n with
  | zero =>
    intros
    exact sm_fl
  | succ n ih =>
    intro v101
    unfold pX3_hasGate_L2
    refine sm_iload_n (pc' := 3) dX3_hasGate_2 rfl rfl ?_
    refine sm_aload_n (pc' := 4) dX3_hasGate_3 rfl rfl ?_
    refine sm_getI (pc' := 7) fk_X3_15 nr_4_5 dX3_hasGate_4 rfl (fun v103 => ?_)
    refine sm_icmp_ge (pc' := 10) (pc1 := 28) dX3_hasGate_7 (by decide) rfl (fun _ => ?_) (fun _ => ?_)
    · skip
      refine sm_sub [] rfl ?_
      exact hk102
    · skip
      refine sm_aload_n (pc' := 11) dX3_hasGate_10 rfl rfl ?_
      refine sm_getF (pc' := 14) fk_X3_9 yr_4_4 dX3_hasGate_11 rfl (fun v104 => ?_)
      refine sm_iload_n (pc' := 15) dX3_hasGate_14 rfl rfl ?_
      rcases v104 with _ | a105
      · exact sm_unN
      refine sm_unS ?_
      refine sm_iaload (pc' := 16) dX3_hasGate_15 rfl (fun v106 => ?_)
      refine sm_iload_n (pc' := 17) dX3_hasGate_16 rfl rfl ?_
      refine sm_icmp_ne (pc' := 20) (pc1 := 22) dX3_hasGate_17 (by decide) rfl (fun _ => ?_) (fun _ => ?_)
      · skip
        refine sm_iinc (pc' := 25) (v101 + (1 : Int32)) [(2, iv (v101 + (1 : Int32))), (0, qv (some th)), (1, iv a1)] dX3_hasGate_22 rfl rfl (Nat.le_of_ble_eq_true rfl) rfl rfl ?_
        refine sm_goto (pc' := 2) dX3_hasGate_25 (by decide) ?_
        refine sm_sub [1, 2, 0] rfl ?_
        exact ih (v101 + (1 : Int32))
      · skip
        refine sm_iconst (pc' := 21) (1 : Int32) dX3_hasGate_20 (by decide) rfl ?_
        exact sm_zreturn rfl dX3_hasGate_21
set_option maxRecDepth 20000 in
theorem sX3_hasGate (th : Nat) (a1 : Int32) : Sim eX3_hasGate vI 0 [(0, qv (some th)), (1, iv a1)] [] (pX3_hasGate th a1) := by
  unfold pX3_hasGate
  refine sm_iconst (pc' := 1) (0 : Int32) dX3_hasGate_0 (by decide) rfl ?_
  refine sm_istore_n (pc' := 2) [(2, iv (0 : Int32)), (0, qv (some th)), (1, iv a1)] dX3_hasGate_1 rfl (Nat.le_of_ble_eq_true rfl) rfl rfl ?_
  refine sm_sub [1, 2, 0] rfl ?_
  refine sX3_hasGate_L2 th a1 _ ?_ FL (0 : Int32)
  · skip
    refine sm_iconst (pc' := 29) (0 : Int32) dX3_hasGate_28 (by decide) rfl ?_
    exact sm_zreturn rfl dX3_hasGate_29
theorem kX3_hasGate (th : Nat) (a1 : Int32) : Callee 0 yX3_hasGate cX3_hasGate 3 (some .boolean) [qv (some th), iv a1] vI (pX3_hasGate th a1) := callee_ofS [(0, qv (some th)), (1, iv a1)] (by decide +kernel) (Nat.le_of_ble_eq_true rfl) rfl (sX3_hasGate th a1)
/-! HollowPress.gate(II)I -/
set_option maxRecDepth 20000 in
theorem iv_X10_151 (a : Nat) (x0 : Int32) : Inv RX10 1 (.invokevirtual 151) [iv x0, qv (some a)] vI (or2 a 4 (pX3_hasGate a x0) (or2 a 1 (pX3_hasGate a x0) (onT a 5 (pX3_hasGate a x0)))) := inv_or (inv_V (As := [iv x0]) (t := 4) (kX3_hasGate a x0) _ (by decide) rfl rfl w_366 w_367 w_368 w_25 w_369 ⟨by decide +kernel, by decide +kernel, by show _ = some 1; decide +kernel⟩ (by decide)) (inv_or (inv_U (As := [iv x0]) (t := 1) (owner := "HollowPress$Part") (xn := ⟨"HollowPress$Part", "hasGate", "(I)Z"⟩) (kX3_hasGate a x0) _ (by decide) rfl w_366 w_370 (Or.inr ⟨w_367, cX3_hasGate, 3, (some .boolean), w_369⟩) w_371 w_367 w_25 w_369 ⟨by decide +kernel, by decide +kernel, by show _ = some 1; decide +kernel⟩ (by decide)) (inv_U (As := [iv x0]) (t := 5) (owner := "HollowPress$Part") (xn := ⟨"HollowPress$Part", "hasGate", "(I)Z"⟩) (kX3_hasGate a x0) _ (by decide) rfl w_366 w_370 (Or.inr ⟨w_367, cX3_hasGate, 3, (some .boolean), w_369⟩) w_372 w_367 w_25 w_369 ⟨by decide +kernel, by decide +kernel, by show _ = some 1; decide +kernel⟩ (by decide)))
set_option maxRecDepth 20000 in
theorem iv_X10_155 (a : Nat) (x0 : Int32) : Inv RX10 1 (.invokevirtual 155) [iv x0, qv (some a)] vI (or2 a 4 (pX3_addGate a x0) (or2 a 1 (pX3_addGate a x0) (onT a 5 (pX3_addGate a x0)))) := inv_or (inv_V (As := [iv x0]) (t := 4) (kX3_addGate a x0) _ (by decide) rfl rfl w_373 w_374 w_375 w_25 w_376 ⟨by decide +kernel, by decide +kernel, by show _ = some 1; decide +kernel⟩ (by decide)) (inv_or (inv_U (As := [iv x0]) (t := 1) (owner := "HollowPress$Part") (xn := ⟨"HollowPress$Part", "addGate", "(I)I"⟩) (kX3_addGate a x0) _ (by decide) rfl w_373 w_377 (Or.inr ⟨w_374, cX3_addGate, 2, (some .int), w_376⟩) w_378 w_374 w_25 w_376 ⟨by decide +kernel, by decide +kernel, by show _ = some 1; decide +kernel⟩ (by decide)) (inv_U (As := [iv x0]) (t := 5) (owner := "HollowPress$Part") (xn := ⟨"HollowPress$Part", "addGate", "(I)I"⟩) (kX3_addGate a x0) _ (by decide) rfl w_373 w_377 (Or.inr ⟨w_374, cX3_addGate, 2, (some .int), w_376⟩) w_379 w_374 w_25 w_376 ⟨by decide +kernel, by decide +kernel, by show _ = some 1; decide +kernel⟩ (by decide)))
set_option maxRecDepth 20000 in
theorem iv_X10_159 (a : Nat) (x0 : Option Nat) : Inv RX10 6 (.invokevirtual 159) [qv x0, qv (some a)] vI (onT a 2 (pX1_endsOf a x0)) := inv_V (As := [qv x0]) (t := 2) (kX1_endsOf a x0) _ (by decide) rfl rfl w_381 w_382 w_383 w_67 w_384 ⟨by decide +kernel, by decide +kernel, by show _ = some 1; decide +kernel⟩ (by decide)
abbrev eX10_gate : Env0 := (RX10, "gate", cX10_gate, 5, (some .int), 6)
def pX10_gate (th : Nat) (a1 : Int32) (a2 : Int32) : Prg Int32 :=
    cl (pX10_below a1 (10 : Int32)) fun v101 =>
    (if v101 = 0 then rt (-1000001 : Int32)
    else gF 10 th 1 fun v102 =>
    un v102 fun a103 =>
    ldF a103 a1 fun v104 =>
    iO 4 v104 fun v105 =>
    (if v105 = 0 then cl (onT th 10 (pX10_otherThing th a1)) fun v106 =>
    rt v106
    else un v104 fun a107 =>
    cO 4 a107 (
    cl (or2 a107 4 (pX3_thickness a107 a2) (or2 a107 1 (pX3_thickness a107 a2) (onT a107 5 (pX3_thickness a107 a2)))) fun v108 =>
    (lt (rt (-1000001 : Int32) : Prg Int32) fun k109 =>
    (if v108 = 0 then k109
    else cl (or2 a107 4 (pX3_hasGate a107 a2) (or2 a107 1 (pX3_hasGate a107 a2) (onT a107 5 (pX3_hasGate a107 a2)))) fun v110 =>
    (if v110 = 0 then cl (or2 a107 4 (pX3_addGate a107 a2) (or2 a107 1 (pX3_addGate a107 a2) (onT a107 5 (pX3_addGate a107 a2)))) fun v111 =>
    (if v111 = (-1000003 : Int32) then rt (-1000003 : Int32)
    else gF 10 th 3 fun v112 =>
    un v112 fun a113 =>
    cl (onT a113 2 (pX1_endsOf a113 (some a107))) fun v114 =>
    pI 4 a107 6 v114 (
    cl (onT th 10 (pX10_fine th v111)) fun v115 =>
    rt v115))
    else k109))))))
set_option maxRecDepth 20000 in
theorem sX10_gate (th : Nat) (a1 : Int32) (a2 : Int32) : Sim eX10_gate vI 0 [(0, qv (some th)), (1, iv a1), (2, iv a2)] [] (pX10_gate th a1 a2) := by
  unfold pX10_gate
  refine sm_iload_n (pc' := 1) dX10_gate_0 rfl rfl ?_
  refine sm_bipush (pc' := 3) (10 : Int32) dX10_gate_1 (by decide) rfl ?_
  refine sm_calli (pc' := 6) (sa := [iv (10 : Int32), iv a1]) (st := []) (iv_X10_53 a1 (10 : Int32)) (Nat.le_of_ble_eq_true rfl) dX10_gate_3 rfl (Nat.le_of_ble_eq_true rfl) (fun v101 => ?_)
  refine sm_if_ne (pc' := 9) (pc1 := 12) dX10_gate_6 (by decide) rfl (fun _ => ?_) (fun _ => ?_)
  · skip
    refine sm_aload_n (pc' := 13) dX10_gate_12 rfl rfl ?_
    refine sm_getF (pc' := 16) fk_X10_17 yr_10_1 dX10_gate_13 rfl (fun v102 => ?_)
    refine sm_iload_n (pc' := 17) dX10_gate_16 rfl rfl ?_
    rcases v102 with _ | a103
    · exact sm_unN
    refine sm_unS ?_
    refine sm_aaload (pc' := 18) dX10_gate_17 rfl (fun v104 => ?_)
    refine sm_astore (pc' := 20) [(4, qv v104), (0, qv (some th)), (1, iv a1), (2, iv a2)] dX10_gate_18  (Nat.le_of_ble_eq_true rfl) rfl rfl ?_
    refine sm_aload (pc' := 22) dX10_gate_20 rfl rfl ?_
    refine sm_inst (pc' := 25) (Or.inl ⟨rfl, rfl⟩) w_283 dX10_gate_22 rfl (fun v105 => ?_)
    refine sm_if_eq (pc' := 28) (pc1 := 37) dX10_gate_25 (by decide) rfl (fun _ => ?_) (fun _ => ?_)
    · skip
      refine sm_aload_n (pc' := 38) dX10_gate_37 rfl rfl ?_
      refine sm_iload_n (pc' := 39) dX10_gate_38 rfl rfl ?_
      refine sm_calli (pc' := 42) (sa := [iv a1, qv (some th)]) (st := []) (iv_X10_145 th a1) (Nat.le_of_ble_eq_true rfl) dX10_gate_39 rfl (Nat.le_of_ble_eq_true rfl) (fun v106 => ?_)
      exact sm_ireturn rfl dX10_gate_42
    · skip
      refine sm_aload (pc' := 30) dX10_gate_28 rfl rfl ?_
      rcases v104 with _ | a107
      · exact sm_unN
      refine sm_unS ?_
      refine sm_cast (pc' := 33) (Or.inl ⟨rfl, rfl⟩) w_283 dX10_gate_30 rfl ?_
      refine sm_astore_n (pc' := 34) [(3, qv (some a107)), (4, qv (some a107)), (0, qv (some th)), (1, iv a1), (2, iv a2)] dX10_gate_33 rfl (Nat.le_of_ble_eq_true rfl) rfl rfl ?_
      refine sm_goto (pc' := 43) dX10_gate_34 (by decide) ?_
      refine sm_aload_n (pc' := 44) dX10_gate_43 rfl rfl ?_
      refine sm_iload_n (pc' := 45) dX10_gate_44 rfl rfl ?_
      refine sm_calli (pc' := 48) (sa := [iv a2, qv (some a107)]) (st := []) (iv_X10_148 a107 a2) (Nat.le_of_ble_eq_true rfl) dX10_gate_45 rfl (Nat.le_of_ble_eq_true rfl) (fun v108 => ?_)
      refine sm_lt (fun k109 => Sim eX10_gate vI 59 [] [] (k109)) ?_ (fun k109 hk109 => ?_)
      · skip
        refine sm_ldc (pc' := 61) (-1000001 : Int32) w_189 dX10_gate_59 rfl ?_
        exact sm_ireturn rfl dX10_gate_61
      · skip
        refine sm_if_eq (pc' := 51) (pc1 := 59) dX10_gate_48 (by decide) rfl (fun _ => ?_) (fun _ => ?_)
        · skip
          refine sm_sub [] rfl ?_
          exact hk109
        · skip
          refine sm_aload_n (pc' := 52) dX10_gate_51 rfl rfl ?_
          refine sm_iload_n (pc' := 53) dX10_gate_52 rfl rfl ?_
          refine sm_calli (pc' := 56) (sa := [iv a2, qv (some a107)]) (st := []) (iv_X10_151 a107 a2) (Nat.le_of_ble_eq_true rfl) dX10_gate_53 rfl (Nat.le_of_ble_eq_true rfl) (fun v110 => ?_)
          refine sm_if_eq (pc' := 59) (pc1 := 62) dX10_gate_56 (by decide) rfl (fun _ => ?_) (fun _ => ?_)
          · skip
            refine sm_aload_n (pc' := 63) dX10_gate_62 rfl rfl ?_
            refine sm_iload_n (pc' := 64) dX10_gate_63 rfl rfl ?_
            refine sm_calli (pc' := 67) (sa := [iv a2, qv (some a107)]) (st := []) (iv_X10_155 a107 a2) (Nat.le_of_ble_eq_true rfl) dX10_gate_64 rfl (Nat.le_of_ble_eq_true rfl) (fun v111 => ?_)
            refine sm_istore (pc' := 69) [(4, iv v111), (3, qv (some a107)), (0, qv (some th)), (1, iv a1), (2, iv a2)] dX10_gate_67  (Nat.le_of_ble_eq_true rfl) rfl rfl ?_
            refine sm_iload (pc' := 71) dX10_gate_69 rfl rfl ?_
            refine sm_ldc (pc' := 73) (-1000003 : Int32) w_380 dX10_gate_71 rfl ?_
            refine sm_icmp_ne (pc' := 76) (pc1 := 79) dX10_gate_73 (by decide) rfl (fun _ => ?_) (fun _ => ?_)
            · skip
              refine sm_aload_n (pc' := 80) dX10_gate_79 rfl rfl ?_
              refine sm_aload_n (pc' := 81) dX10_gate_80 rfl rfl ?_
              refine sm_getF (pc' := 84) fk_X10_31 yr_10_3 dX10_gate_81 rfl (fun v112 => ?_)
              refine sm_aload_n (pc' := 85) dX10_gate_84 rfl rfl ?_
              rcases v112 with _ | a113
              · exact sm_unN
              refine sm_unS ?_
              refine sm_calli (pc' := 88) (sa := [qv (some a107), qv (some a113)]) (st := [qv (some a107)]) (iv_X10_159 a113 (some a107)) (Nat.le_of_ble_eq_true rfl) dX10_gate_85 rfl (Nat.le_of_ble_eq_true rfl) (fun v114 => ?_)
              refine sm_putI (pc' := 91) (gk_X10_163 _ _ _ _ _) ti_4_6 dX10_gate_88 rfl ?_
              refine sm_aload_n (pc' := 92) dX10_gate_91 rfl rfl ?_
              refine sm_iload (pc' := 94) dX10_gate_92 rfl rfl ?_
              refine sm_calli (pc' := 97) (sa := [iv v111, qv (some th)]) (st := []) (iv_X10_65 th v111) (Nat.le_of_ble_eq_true rfl) dX10_gate_94 rfl (Nat.le_of_ble_eq_true rfl) (fun v115 => ?_)
              exact sm_ireturn rfl dX10_gate_97
            · skip
              refine sm_ldc (pc' := 78) (-1000003 : Int32) w_380 dX10_gate_76 rfl ?_
              exact sm_ireturn rfl dX10_gate_78
          · skip
            refine sm_sub [] rfl ?_
            exact hk109
  · skip
    refine sm_ldc (pc' := 11) (-1000001 : Int32) w_189 dX10_gate_9 rfl ?_
    exact sm_ireturn rfl dX10_gate_11
theorem kX10_gate (th : Nat) (a1 : Int32) (a2 : Int32) : Callee 6 yX10_gate cX10_gate 5 (some .int) [qv (some th), iv a1, iv a2] vI (pX10_gate th a1 a2) := callee_ofS [(0, qv (some th)), (1, iv a1), (2, iv a2)] (by decide +kernel) (Nat.le_of_ble_eq_true rfl) rfl (sX10_gate th a1 a2)
/-! HollowPress$Runners.howManyHang()I -/
abbrev eX6_howManyHang : Env0 := (RX6, "howManyHang", cX6_howManyHang, 3, (some .int), 0)
def pX6_howManyHang_L4 (th : Nat) (k103 : Int32 → Prg Int32) : Nat → Int32 → Int32 → Prg Int32
  | 0, _, _ => fl
  | n + 1, v101, v102 =>
    gI 7 th 4 fun v104 =>
    (if v104 ≤ v102 then k103 v101
    else gF 7 th 3 fun v105 =>
    un v105 fun a106 =>
    ldF a106 v102 fun v107 =>
    (lt (fun (v108 : Int32) => pX6_howManyHang_L4 th k103 n v108 (v102 + (1 : Int32)) : Int32 → Prg Int32) fun k109 =>
    (nu v107 (k109 v101) fun a110 =>
    k109 (v101 + (1 : Int32)))))
def pX6_howManyHang (th : Nat) : Prg Int32 :=
    pX6_howManyHang_L4 th (fun (v111 : Int32) => rt v111) FL (0 : Int32) (0 : Int32)
set_option maxRecDepth 20000 in
theorem sX6_howManyHang_L4 (th : Nat) (k103 : Int32 → Prg Int32) (hk103 : ∀ (q1 : Int32), Sim eX6_howManyHang vI 30 [(1, iv q1)] [] (k103 q1)) : ∀ (n : Nat), ∀ (v101 : Int32) (v102 : Int32), Sim eX6_howManyHang vI 4 [(0, qv (some th)), (1, iv v101), (2, iv v102)] [] (pX6_howManyHang_L4 th k103 n v101 v102) := by
  intro n
  induction n with
  | zero =>
    intros
    exact sm_fl
  | succ n ih =>
    intro v101 v102
    unfold pX6_howManyHang_L4
    refine sm_iload_n (pc' := 5) dX6_howManyHang_4 rfl rfl ?_
    refine sm_aload_n (pc' := 6) dX6_howManyHang_5 rfl rfl ?_
    refine sm_getI (pc' := 9) fk_X6_27 nr_7_4 dX6_howManyHang_6 rfl (fun v104 => ?_)
    refine sm_icmp_ge (pc' := 12) (pc1 := 30) dX6_howManyHang_9 (by decide) rfl (fun _ => ?_) (fun _ => ?_)
    · skip
      refine sm_sub [1] rfl ?_
      exact hk103 v101
    · skip
      refine sm_aload_n (pc' := 13) dX6_howManyHang_12 rfl rfl ?_
      refine sm_getF (pc' := 16) fk_X6_23 yr_7_3 dX6_howManyHang_13 rfl (fun v105 => ?_)
      refine sm_iload_n (pc' := 17) dX6_howManyHang_16 rfl rfl ?_
      rcases v105 with _ | a106
      · exact sm_unN
      refine sm_unS ?_
      refine sm_aaload (pc' := 18) dX6_howManyHang_17 rfl (fun v107 => ?_)
      refine sm_lt (fun k109 => ∀ (v108 : Int32), Sim eX6_howManyHang vI 24 [(0, qv (some th)), (1, iv v108), (2, iv v102)] [] (k109 v108)) ?_ (fun k109 hk109 => ?_)
      · intro v108
        refine sm_iinc (pc' := 27) (v102 + (1 : Int32)) [(2, iv (v102 + (1 : Int32))), (0, qv (some th)), (1, iv v108)] dX6_howManyHang_24 rfl rfl (Nat.le_of_ble_eq_true rfl) rfl rfl ?_
        refine sm_goto (pc' := 4) dX6_howManyHang_27 (by decide) ?_
        refine sm_sub [1, 2, 0] rfl ?_
        exact ih v108 (v102 + (1 : Int32))
      · skip
        rcases v107 with _ | a110
        · refine sm_nuN ?_
          refine sm_ifnullN (pc' := 24) dX6_howManyHang_18 (by decide) ?_
          exact hk109 v101
        · refine sm_nuS ?_
          refine sm_ifnullS (pc' := 21) dX6_howManyHang_18 rfl ?_
          refine sm_iinc (pc' := 24) (v101 + (1 : Int32)) [(1, iv (v101 + (1 : Int32))), (0, qv (some th)), (2, iv v102)] dX6_howManyHang_21 rfl rfl (Nat.le_of_ble_eq_true rfl) rfl rfl ?_
          refine sm_sub [1, 0, 2] rfl ?_
          exact hk109 (v101 + (1 : Int32))
set_option maxRecDepth 20000 in
theorem sX6_howManyHang (th : Nat) : Sim eX6_howManyHang vI 0 [(0, qv (some th))] [] (pX6_howManyHang th) := by
  unfold pX6_howManyHang
  refine sm_iconst (pc' := 1) (0 : Int32) dX6_howManyHang_0 (by decide) rfl ?_
  refine sm_istore_n (pc' := 2) [(1, iv (0 : Int32)), (0, qv (some th))] dX6_howManyHang_1 rfl (Nat.le_of_ble_eq_true rfl) rfl rfl ?_
  refine sm_iconst (pc' := 3) (0 : Int32) dX6_howManyHang_2 (by decide) rfl ?_
  refine sm_istore_n (pc' := 4) [(2, iv (0 : Int32)), (1, iv (0 : Int32)), (0, qv (some th))] dX6_howManyHang_3 rfl (Nat.le_of_ble_eq_true rfl) rfl rfl ?_
  refine sm_sub [2, 1, 0] rfl ?_
  refine sX6_howManyHang_L4 th _ ?_ FL (0 : Int32) (0 : Int32)
  · intro v111
    refine sm_iload_n (pc' := 31) dX6_howManyHang_30 rfl rfl ?_
    exact sm_ireturn rfl dX6_howManyHang_31
theorem kX6_howManyHang (th : Nat) : Callee 0 yX6_howManyHang cX6_howManyHang 3 (some .int) [qv (some th)] vI (pX6_howManyHang th) := callee_ofS [(0, qv (some th))] (by decide +kernel) (Nat.le_of_ble_eq_true rfl) rfl (sX6_howManyHang th)
/-! HollowPress$Runners.hangAt(ILHollowPress$Part;)I -/
set_option maxRecDepth 20000 in
theorem iv_X6_50 (a : Nat)  : Inv RX6 1 (.invokevirtual 50) [qv (some a)] vI (onT a 7 (pX6_howManyHang a )) := inv_V (As := []) (t := 7) (kX6_howManyHang a ) _ (by decide) rfl rfl w_386 w_387 w_388 w_225 w_389 ⟨by decide +kernel, by decide +kernel, by show _ = some 0; decide +kernel⟩ (by decide)
abbrev eX6_hangAt : Env0 := (RX6, "hangAt", cX6_hangAt, 3, (some .int), 1)
def pX6_hangAt (th : Nat) (a1 : Int32) (a2 : Option Nat) : Prg Int32 :=
    gF 7 th 3 fun v101 =>
    un v101 fun a102 =>
    stF a102 a1 a2 (
    cl (onT th 7 (pX6_howManyHang th)) fun v103 =>
    rt v103)
set_option maxRecDepth 20000 in
theorem sX6_hangAt (th : Nat) (a1 : Int32) (a2 : Option Nat) : Sim eX6_hangAt vI 0 [(0, qv (some th)), (1, iv a1), (2, qv a2)] [] (pX6_hangAt th a1 a2) := by
  unfold pX6_hangAt
  refine sm_aload_n (pc' := 1) dX6_hangAt_0 rfl rfl ?_
  refine sm_getF (pc' := 4) fk_X6_23 yr_7_3 dX6_hangAt_1 rfl (fun v101 => ?_)
  refine sm_iload_n (pc' := 5) dX6_hangAt_4 rfl rfl ?_
  refine sm_aload_n (pc' := 6) dX6_hangAt_5 rfl rfl ?_
  rcases v101 with _ | a102
  · exact sm_unN
  refine sm_unS ?_
  refine sm_aastore (pc' := 7) dX6_hangAt_6 rfl ?_
  refine sm_aload_n (pc' := 8) dX6_hangAt_7 rfl rfl ?_
  refine sm_calli (pc' := 11) (sa := [qv (some th)]) (st := []) (iv_X6_50 th) (Nat.le_of_ble_eq_true rfl) dX6_hangAt_8 rfl (Nat.le_of_ble_eq_true rfl) (fun v103 => ?_)
  exact sm_ireturn rfl dX6_hangAt_11
theorem kX6_hangAt (th : Nat) (a1 : Int32) (a2 : Option Nat) : Callee 1 yX6_hangAt cX6_hangAt 3 (some .int) [qv (some th), iv a1, qv a2] vI (pX6_hangAt th a1 a2) := callee_ofS [(0, qv (some th)), (1, iv a1), (2, qv a2)] (by decide +kernel) (Nat.le_of_ble_eq_true rfl) rfl (sX6_hangAt th a1 a2)
/-! HollowPress$Runners.taken(I)Z -/
abbrev eX6_taken : Env0 := (RX6, "taken", cX6_taken, 2, (some .boolean), 0)
def pX6_taken (th : Nat) (a1 : Int32) : Prg Int32 :=
    gF 7 th 3 fun v101 =>
    un v101 fun a102 =>
    ldF a102 a1 fun v103 =>
    (lt (fun (v104 : Int32) => rtZ v104 : Int32 → Prg Int32) fun k105 =>
    (nu v103 (k105 (0 : Int32)) fun a106 =>
    k105 (1 : Int32)))
set_option maxRecDepth 20000 in
theorem sX6_taken (th : Nat) (a1 : Int32) : Sim eX6_taken vI 0 [(0, qv (some th)), (1, iv a1)] [] (pX6_taken th a1) := by
  unfold pX6_taken
  refine sm_aload_n (pc' := 1) dX6_taken_0 rfl rfl ?_
  refine sm_getF (pc' := 4) fk_X6_23 yr_7_3 dX6_taken_1 rfl (fun v101 => ?_)
  refine sm_iload_n (pc' := 5) dX6_taken_4 rfl rfl ?_
  rcases v101 with _ | a102
  · exact sm_unN
  refine sm_unS ?_
  refine sm_aaload (pc' := 6) dX6_taken_5 rfl (fun v103 => ?_)
  refine sm_lt (fun k105 => ∀ (v104 : Int32), Sim eX6_taken vI 14 [] [iv v104] (k105 v104)) ?_ (fun k105 hk105 => ?_)
  · intro v104
    exact sm_zreturn rfl dX6_taken_14
  · skip
    rcases v103 with _ | a106
    · refine sm_nuN ?_
      refine sm_ifnullN (pc' := 13) dX6_taken_6 (by decide) ?_
      refine sm_iconst (pc' := 14) (0 : Int32) dX6_taken_13 (by decide) rfl ?_
      refine sm_sub [] rfl ?_
      exact hk105 (0 : Int32)
    · refine sm_nuS ?_
      refine sm_ifnullS (pc' := 9) dX6_taken_6 rfl ?_
      refine sm_iconst (pc' := 10) (1 : Int32) dX6_taken_9 (by decide) rfl ?_
      refine sm_goto (pc' := 14) dX6_taken_10 (by decide) ?_
      refine sm_sub [] rfl ?_
      exact hk105 (1 : Int32)
theorem kX6_taken (th : Nat) (a1 : Int32) : Callee 0 yX6_taken cX6_taken 2 (some .boolean) [qv (some th), iv a1] vI (pX6_taken th a1) := callee_ofS [(0, qv (some th)), (1, iv a1)] (by decide +kernel) (Nat.le_of_ble_eq_true rfl) rfl (sX6_taken th a1)
/-! HollowPress.hang(II)I -/
set_option maxRecDepth 20000 in
theorem iv_X10_218 (a : Nat) (x0 : Int32) : Inv RX10 1 (.invokevirtual 218) [iv x0, qv (some a)] vI (onT a 7 (pX6_taken a x0)) := inv_V (As := [iv x0]) (t := 7) (kX6_taken a x0) _ (by decide) rfl rfl w_390 w_391 w_392 w_225 w_393 ⟨by decide +kernel, by decide +kernel, by show _ = some 1; decide +kernel⟩ (by decide)
set_option maxRecDepth 20000 in
theorem iv_X10_221 (a : Nat) (x0 : Int32) (x1 : Option Nat) : Inv RX10 2 (.invokevirtual 221) [qv x1, iv x0, qv (some a)] vI (onT a 7 (pX6_hangAt a x0 x1)) := inv_V (As := [iv x0, qv x1]) (t := 7) (kX6_hangAt a x0 x1) _ (by decide) rfl rfl w_394 w_395 w_396 w_225 w_397 ⟨by decide +kernel, by decide +kernel, by show _ = some 2; decide +kernel⟩ (by decide)
abbrev eX10_hang : Env0 := (RX10, "hang", cX10_hang, 5, (some .int), 2)
def pX10_hang (th : Nat) (a1 : Int32) (a2 : Int32) : Prg Int32 :=
    gF 10 th 4 fun v101 =>
    un v101 fun a102 =>
    gI 7 a102 4 fun v103 =>
    cl (pX10_below a1 v103) fun v104 =>
    (lt (rt (-1000001 : Int32) : Prg Int32) fun k105 =>
    (if v104 = 0 then k105
    else cl (pX10_below a2 (10 : Int32)) fun v106 =>
    (if v106 = 0 then k105
    else gF 10 th 4 fun v107 =>
    un v107 fun a108 =>
    cl (onT a108 7 (pX6_taken a108 a1)) fun v109 =>
    (lt (rt (-1000002 : Int32) : Prg Int32) fun k110 =>
    (if v109 = 0 then gF 10 th 4 fun v111 =>
    gF 10 th 1 fun v112 =>
    un v112 fun a113 =>
    ldF a113 a2 fun v114 =>
    un v111 fun a115 =>
    cl (onT a115 7 (pX6_holds a115 v114)) fun v116 =>
    (if v116 = 0 then gF 10 th 1 fun v117 =>
    un v117 fun a118 =>
    ldF a118 a2 fun v119 =>
    iO 4 v119 fun v120 =>
    (if v120 = 0 then cl (onT th 10 (pX10_otherThing th a2)) fun v121 =>
    rt v121
    else un v119 fun a122 =>
    cO 4 a122 (
    gF 10 th 4 fun v123 =>
    un v123 fun a124 =>
    cl (onT a124 7 (pX6_hangAt a124 a1 (some a122))) fun v125 =>
    cl (onT th 10 (pX10_fine th v125)) fun v126 =>
    rt v126))
    else k110)
    else k110)))))
set_option maxRecDepth 20000 in
theorem sX10_hang (th : Nat) (a1 : Int32) (a2 : Int32) : Sim eX10_hang vI 0 [(0, qv (some th)), (1, iv a1), (2, iv a2)] [] (pX10_hang th a1 a2) := by
  unfold pX10_hang
  refine sm_iload_n (pc' := 1) dX10_hang_0 rfl rfl ?_
  refine sm_aload_n (pc' := 2) dX10_hang_1 rfl rfl ?_
  refine sm_getF (pc' := 5) fk_X10_38 yr_10_4 dX10_hang_2 rfl (fun v101 => ?_)
  rcases v101 with _ | a102
  · exact sm_unN
  refine sm_unS ?_
  refine sm_getI (pc' := 8) fk_X10_211 nr_7_4 dX10_hang_5 rfl (fun v103 => ?_)
  refine sm_calli (pc' := 11) (sa := [iv v103, iv a1]) (st := []) (iv_X10_53 a1 v103) (Nat.le_of_ble_eq_true rfl) dX10_hang_8 rfl (Nat.le_of_ble_eq_true rfl) (fun v104 => ?_)
  refine sm_lt (fun k105 => Sim eX10_hang vI 23 [] [] (k105)) ?_ (fun k105 hk105 => ?_)
  · skip
    refine sm_ldc (pc' := 25) (-1000001 : Int32) w_189 dX10_hang_23 rfl ?_
    exact sm_ireturn rfl dX10_hang_25
  · skip
    refine sm_if_eq (pc' := 14) (pc1 := 23) dX10_hang_11 (by decide) rfl (fun _ => ?_) (fun _ => ?_)
    · skip
      refine sm_sub [] rfl ?_
      exact hk105
    · skip
      refine sm_iload_n (pc' := 15) dX10_hang_14 rfl rfl ?_
      refine sm_bipush (pc' := 17) (10 : Int32) dX10_hang_15 (by decide) rfl ?_
      refine sm_calli (pc' := 20) (sa := [iv (10 : Int32), iv a2]) (st := []) (iv_X10_53 a2 (10 : Int32)) (Nat.le_of_ble_eq_true rfl) dX10_hang_17 rfl (Nat.le_of_ble_eq_true rfl) (fun v106 => ?_)
      refine sm_if_ne (pc' := 23) (pc1 := 26) dX10_hang_20 (by decide) rfl (fun _ => ?_) (fun _ => ?_)
      · skip
        refine sm_aload_n (pc' := 27) dX10_hang_26 rfl rfl ?_
        refine sm_getF (pc' := 30) fk_X10_38 yr_10_4 dX10_hang_27 rfl (fun v107 => ?_)
        refine sm_iload_n (pc' := 31) dX10_hang_30 rfl rfl ?_
        rcases v107 with _ | a108
        · exact sm_unN
        refine sm_unS ?_
        refine sm_calli (pc' := 34) (sa := [iv a1, qv (some a108)]) (st := []) (iv_X10_218 a108 a1) (Nat.le_of_ble_eq_true rfl) dX10_hang_31 rfl (Nat.le_of_ble_eq_true rfl) (fun v109 => ?_)
        refine sm_lt (fun k110 => Sim eX10_hang vI 53 [] [] (k110)) ?_ (fun k110 hk110 => ?_)
        · skip
          refine sm_ldc (pc' := 55) (-1000002 : Int32) w_315 dX10_hang_53 rfl ?_
          exact sm_ireturn rfl dX10_hang_55
        · skip
          refine sm_if_ne (pc' := 37) (pc1 := 53) dX10_hang_34 (by decide) rfl (fun _ => ?_) (fun _ => ?_)
          · skip
            refine sm_sub [] rfl ?_
            exact hk110
          · skip
            refine sm_aload_n (pc' := 38) dX10_hang_37 rfl rfl ?_
            refine sm_getF (pc' := 41) fk_X10_38 yr_10_4 dX10_hang_38 rfl (fun v111 => ?_)
            refine sm_aload_n (pc' := 42) dX10_hang_41 rfl rfl ?_
            refine sm_getF (pc' := 45) fk_X10_17 yr_10_1 dX10_hang_42 rfl (fun v112 => ?_)
            refine sm_iload_n (pc' := 46) dX10_hang_45 rfl rfl ?_
            rcases v112 with _ | a113
            · exact sm_unN
            refine sm_unS ?_
            refine sm_aaload (pc' := 47) dX10_hang_46 rfl (fun v114 => ?_)
            rcases v111 with _ | a115
            · exact sm_unN
            refine sm_unS ?_
            refine sm_calli (pc' := 50) (sa := [qv v114, qv (some a115)]) (st := []) (iv_X10_94 a115 v114) (Nat.le_of_ble_eq_true rfl) dX10_hang_47 rfl (Nat.le_of_ble_eq_true rfl) (fun v116 => ?_)
            refine sm_if_eq (pc' := 53) (pc1 := 56) dX10_hang_50 (by decide) rfl (fun _ => ?_) (fun _ => ?_)
            · skip
              refine sm_aload_n (pc' := 57) dX10_hang_56 rfl rfl ?_
              refine sm_getF (pc' := 60) fk_X10_17 yr_10_1 dX10_hang_57 rfl (fun v117 => ?_)
              refine sm_iload_n (pc' := 61) dX10_hang_60 rfl rfl ?_
              rcases v117 with _ | a118
              · exact sm_unN
              refine sm_unS ?_
              refine sm_aaload (pc' := 62) dX10_hang_61 rfl (fun v119 => ?_)
              refine sm_astore (pc' := 64) [(4, qv v119), (0, qv (some th)), (1, iv a1), (2, iv a2)] dX10_hang_62  (Nat.le_of_ble_eq_true rfl) rfl rfl ?_
              refine sm_aload (pc' := 66) dX10_hang_64 rfl rfl ?_
              refine sm_inst (pc' := 69) (Or.inl ⟨rfl, rfl⟩) w_283 dX10_hang_66 rfl (fun v120 => ?_)
              refine sm_if_eq (pc' := 72) (pc1 := 81) dX10_hang_69 (by decide) rfl (fun _ => ?_) (fun _ => ?_)
              · skip
                refine sm_aload_n (pc' := 82) dX10_hang_81 rfl rfl ?_
                refine sm_iload_n (pc' := 83) dX10_hang_82 rfl rfl ?_
                refine sm_calli (pc' := 86) (sa := [iv a2, qv (some th)]) (st := []) (iv_X10_145 th a2) (Nat.le_of_ble_eq_true rfl) dX10_hang_83 rfl (Nat.le_of_ble_eq_true rfl) (fun v121 => ?_)
                exact sm_ireturn rfl dX10_hang_86
              · skip
                refine sm_aload (pc' := 74) dX10_hang_72 rfl rfl ?_
                rcases v119 with _ | a122
                · exact sm_unN
                refine sm_unS ?_
                refine sm_cast (pc' := 77) (Or.inl ⟨rfl, rfl⟩) w_283 dX10_hang_74 rfl ?_
                refine sm_astore_n (pc' := 78) [(3, qv (some a122)), (4, qv (some a122)), (0, qv (some th)), (1, iv a1), (2, iv a2)] dX10_hang_77 rfl (Nat.le_of_ble_eq_true rfl) rfl rfl ?_
                refine sm_goto (pc' := 87) dX10_hang_78 (by decide) ?_
                refine sm_aload_n (pc' := 88) dX10_hang_87 rfl rfl ?_
                refine sm_aload_n (pc' := 89) dX10_hang_88 rfl rfl ?_
                refine sm_getF (pc' := 92) fk_X10_38 yr_10_4 dX10_hang_89 rfl (fun v123 => ?_)
                refine sm_iload_n (pc' := 93) dX10_hang_92 rfl rfl ?_
                refine sm_aload_n (pc' := 94) dX10_hang_93 rfl rfl ?_
                rcases v123 with _ | a124
                · exact sm_unN
                refine sm_unS ?_
                refine sm_calli (pc' := 97) (sa := [qv (some a122), iv a1, qv (some a124)]) (st := [qv (some th)]) (iv_X10_221 a124 a1 (some a122)) (Nat.le_of_ble_eq_true rfl) dX10_hang_94 rfl (Nat.le_of_ble_eq_true rfl) (fun v125 => ?_)
                refine sm_calli (pc' := 100) (sa := [iv v125, qv (some th)]) (st := []) (iv_X10_65 th v125) (Nat.le_of_ble_eq_true rfl) dX10_hang_97 rfl (Nat.le_of_ble_eq_true rfl) (fun v126 => ?_)
                exact sm_ireturn rfl dX10_hang_100
            · skip
              refine sm_sub [] rfl ?_
              exact hk110
      · skip
        refine sm_sub [] rfl ?_
        exact hk105
theorem kX10_hang (th : Nat) (a1 : Int32) (a2 : Int32) : Callee 2 yX10_hang cX10_hang 5 (some .int) [qv (some th), iv a1, iv a2] vI (pX10_hang th a1 a2) := callee_ofS [(0, qv (some th)), (1, iv a1), (2, iv a2)] (by decide +kernel) (Nat.le_of_ble_eq_true rfl) rfl (sX10_hang th a1 a2)
/-! HollowPress$Presses.<init>()V -/
abbrev eX5_init : Env0 := (RX5, "<init>", cX5_init, 1, none, 1)
def pX5_init (th : Nat) : Prg Unit :=
    nA 20 (6 : Int32) fun a101 =>
    pF 6 th 0 (some a101) (
    nA 20 (12 : Int32) fun a102 =>
    pF 6 th 1 (some a102) (
    nA 20 (12 : Int32) fun a103 =>
    pF 6 th 2 (some a103) (
    nA 20 (12 : Int32) fun a104 =>
    pF 6 th 3 (some a104) (
    nM (6 : Int32) (12 : Int32) fun a105 =>
    pF 6 th 4 (some a105) (
    nA 20 (6 : Int32) fun a106 =>
    pF 6 th 5 (some a106) (
    nA 20 (6 : Int32) fun a107 =>
    pF 6 th 6 (some a107) (
    pI 6 th 7 (0 : Int32) (
    pI 6 th 8 (0 : Int32) (
    rt ())))))))))
set_option maxRecDepth 20000 in
theorem sX5_init (th : Nat) : Sim eX5_init vU 0 [(0, qv (some th))] [] (pX5_init th) := by
  unfold pX5_init
  refine sm_aload_n (pc' := 1) dX5_init_0 rfl rfl ?_
  refine sm_objInit (pc' := 4) w_398 w_5 w_6 dX5_init_1 (by decide) (Nat.le_of_ble_eq_true rfl) rfl ?_
  refine sm_aload_n (pc' := 5) dX5_init_4 rfl rfl ?_
  refine sm_bipush (pc' := 7) (6 : Int32) dX5_init_5 (by decide) rfl ?_
  refine sm_newarr (pc' := 9) (atype := .int) (Or.inl ⟨rfl, rfl⟩) w_11 dX5_init_7 rfl (fun a101 => ?_)
  refine sm_putF (pc' := 12) (gk_X5_9i _ _ _ _) yr_6_0 dX5_init_9 rfl ?_
  refine sm_aload_n (pc' := 13) dX5_init_12 rfl rfl ?_
  refine sm_bipush (pc' := 15) (12 : Int32) dX5_init_13 (by decide) rfl ?_
  refine sm_newarr (pc' := 17) (atype := .int) (Or.inl ⟨rfl, rfl⟩) w_11 dX5_init_15 rfl (fun a102 => ?_)
  refine sm_putF (pc' := 20) (gk_X5_15i _ _ _ _) yr_6_1 dX5_init_17 rfl ?_
  refine sm_aload_n (pc' := 21) dX5_init_20 rfl rfl ?_
  refine sm_bipush (pc' := 23) (12 : Int32) dX5_init_21 (by decide) rfl ?_
  refine sm_newarr (pc' := 25) (atype := .int) (Or.inl ⟨rfl, rfl⟩) w_11 dX5_init_23 rfl (fun a103 => ?_)
  refine sm_putF (pc' := 28) (gk_X5_18i _ _ _ _) yr_6_2 dX5_init_25 rfl ?_
  refine sm_aload_n (pc' := 29) dX5_init_28 rfl rfl ?_
  refine sm_bipush (pc' := 31) (12 : Int32) dX5_init_29 (by decide) rfl ?_
  refine sm_newarr (pc' := 33) (atype := .int) (Or.inl ⟨rfl, rfl⟩) w_11 dX5_init_31 rfl (fun a104 => ?_)
  refine sm_putF (pc' := 36) (gk_X5_21i _ _ _ _) yr_6_3 dX5_init_33 rfl ?_
  refine sm_aload_n (pc' := 37) dX5_init_36 rfl rfl ?_
  refine sm_bipush (pc' := 39) (6 : Int32) dX5_init_37 (by decide) rfl ?_
  refine sm_bipush (pc' := 41) (12 : Int32) dX5_init_39 (by decide) rfl ?_
  refine sm_mna (pc' := 45) w_403 w_11 dX5_init_41 rfl (fun a105 => ?_)
  refine sm_putF (pc' := 48) (gk_X5_26i _ _ _ _) yr_6_4 dX5_init_45 rfl ?_
  refine sm_aload_n (pc' := 49) dX5_init_48 rfl rfl ?_
  refine sm_bipush (pc' := 51) (6 : Int32) dX5_init_49 (by decide) rfl ?_
  refine sm_newarr (pc' := 53) (atype := .int) (Or.inl ⟨rfl, rfl⟩) w_11 dX5_init_51 rfl (fun a106 => ?_)
  refine sm_putF (pc' := 56) (gk_X5_29i _ _ _ _) yr_6_5 dX5_init_53 rfl ?_
  refine sm_aload_n (pc' := 57) dX5_init_56 rfl rfl ?_
  refine sm_bipush (pc' := 59) (6 : Int32) dX5_init_57 (by decide) rfl ?_
  refine sm_newarr (pc' := 61) (atype := .int) (Or.inl ⟨rfl, rfl⟩) w_11 dX5_init_59 rfl (fun a107 => ?_)
  refine sm_putF (pc' := 64) (gk_X5_32i _ _ _ _) yr_6_6 dX5_init_61 rfl ?_
  refine sm_aload_n (pc' := 65) dX5_init_64 rfl rfl ?_
  refine sm_iconst (pc' := 66) (0 : Int32) dX5_init_65 (by decide) rfl ?_
  refine sm_putI (pc' := 69) (gk_X5_35 _ _ _ _ _) ti_6_7 dX5_init_66 rfl ?_
  refine sm_aload_n (pc' := 70) dX5_init_69 rfl rfl ?_
  refine sm_iconst (pc' := 71) (0 : Int32) dX5_init_70 (by decide) rfl ?_
  refine sm_putI (pc' := 74) (gk_X5_39 _ _ _ _ _) ti_6_8 dX5_init_71 rfl ?_
  exact sm_return rfl dX5_init_74
theorem kX5_init (th : Nat) : Callee 1 yX5_init cX5_init 1 none [qv (some th)] vU (pX5_init th) := callee_ofS [(0, qv (some th))] (by decide +kernel) (Nat.le_of_ble_eq_true rfl) rfl (sX5_init th)
/-! HollowPress$Runners.<init>()V -/
abbrev eX6_init : Env0 := (RX6, "<init>", cX6_init, 1, none, 1)
def pX6_init (th : Nat) : Prg Unit :=
    nA 20 (8 : Int32) fun a101 =>
    pF 7 th 0 (some a101) (
    nA 20 (8 : Int32) fun a102 =>
    pF 7 th 1 (some a102) (
    nA 20 (8 : Int32) fun a103 =>
    pF 7 th 2 (some a103) (
    nA 25 (8 : Int32) fun a104 =>
    pF 7 th 3 (some a104) (
    pI 7 th 4 (0 : Int32) (
    nA 20 (8 : Int32) fun a105 =>
    pF 7 th 5 (some a105) (
    nA 20 (8 : Int32) fun a106 =>
    pF 7 th 6 (some a106) (
    nA 20 (3 : Int32) fun a107 =>
    pF 7 th 7 (some a107) (
    pI 7 th 8 (0 : Int32) (
    pI 7 th 9 (0 : Int32) (
    pI 7 th 10 (0 : Int32) (
    rt ())))))))))))
set_option maxRecDepth 20000 in
theorem sX6_init (th : Nat) : Sim eX6_init vU 0 [(0, qv (some th))] [] (pX6_init th) := by
  unfold pX6_init
  refine sm_aload_n (pc' := 1) dX6_init_0 rfl rfl ?_
  refine sm_objInit (pc' := 4) w_409 w_5 w_6 dX6_init_1 (by decide) (Nat.le_of_ble_eq_true rfl) rfl ?_
  refine sm_aload_n (pc' := 5) dX6_init_4 rfl rfl ?_
  refine sm_bipush (pc' := 7) (8 : Int32) dX6_init_5 (by decide) rfl ?_
  refine sm_newarr (pc' := 9) (atype := .int) (Or.inl ⟨rfl, rfl⟩) w_11 dX6_init_7 rfl (fun a101 => ?_)
  refine sm_putF (pc' := 12) (gk_X6_9i _ _ _ _) yr_7_0 dX6_init_9 rfl ?_
  refine sm_aload_n (pc' := 13) dX6_init_12 rfl rfl ?_
  refine sm_bipush (pc' := 15) (8 : Int32) dX6_init_13 (by decide) rfl ?_
  refine sm_newarr (pc' := 17) (atype := .int) (Or.inl ⟨rfl, rfl⟩) w_11 dX6_init_15 rfl (fun a102 => ?_)
  refine sm_putF (pc' := 20) (gk_X6_15i _ _ _ _) yr_7_1 dX6_init_17 rfl ?_
  refine sm_aload_n (pc' := 21) dX6_init_20 rfl rfl ?_
  refine sm_bipush (pc' := 23) (8 : Int32) dX6_init_21 (by decide) rfl ?_
  refine sm_newarr (pc' := 25) (atype := .int) (Or.inl ⟨rfl, rfl⟩) w_11 dX6_init_23 rfl (fun a103 => ?_)
  refine sm_putF (pc' := 28) (gk_X6_18i _ _ _ _) yr_7_2 dX6_init_25 rfl ?_
  refine sm_aload_n (pc' := 29) dX6_init_28 rfl rfl ?_
  refine sm_bipush (pc' := 31) (8 : Int32) dX6_init_29 (by decide) rfl ?_
  refine sm_anew (pc' := 34) (Or.inr (Or.inr ⟨rfl, rfl⟩)) w_410 w_411 dX6_init_31 rfl (fun a104 => ?_)
  refine sm_putF (pc' := 37) (gk_X6_23i _ _ _ _) yr_7_3 dX6_init_34 rfl ?_
  refine sm_aload_n (pc' := 38) dX6_init_37 rfl rfl ?_
  refine sm_iconst (pc' := 39) (0 : Int32) dX6_init_38 (by decide) rfl ?_
  refine sm_putI (pc' := 42) (gk_X6_27 _ _ _ _ _) ti_7_4 dX6_init_39 rfl ?_
  refine sm_aload_n (pc' := 43) dX6_init_42 rfl rfl ?_
  refine sm_bipush (pc' := 45) (8 : Int32) dX6_init_43 (by decide) rfl ?_
  refine sm_newarr (pc' := 47) (atype := .int) (Or.inl ⟨rfl, rfl⟩) w_11 dX6_init_45 rfl (fun a105 => ?_)
  refine sm_putF (pc' := 50) (gk_X6_31i _ _ _ _) yr_7_5 dX6_init_47 rfl ?_
  refine sm_aload_n (pc' := 51) dX6_init_50 rfl rfl ?_
  refine sm_bipush (pc' := 53) (8 : Int32) dX6_init_51 (by decide) rfl ?_
  refine sm_newarr (pc' := 55) (atype := .int) (Or.inl ⟨rfl, rfl⟩) w_11 dX6_init_53 rfl (fun a106 => ?_)
  refine sm_putF (pc' := 58) (gk_X6_34i _ _ _ _) yr_7_6 dX6_init_55 rfl ?_
  refine sm_aload_n (pc' := 59) dX6_init_58 rfl rfl ?_
  refine sm_iconst (pc' := 60) (3 : Int32) dX6_init_59 (by decide) rfl ?_
  refine sm_newarr (pc' := 62) (atype := .int) (Or.inl ⟨rfl, rfl⟩) w_11 dX6_init_60 rfl (fun a107 => ?_)
  refine sm_putF (pc' := 65) (gk_X6_37i _ _ _ _) yr_7_7 dX6_init_62 rfl ?_
  refine sm_aload_n (pc' := 66) dX6_init_65 rfl rfl ?_
  refine sm_iconst (pc' := 67) (0 : Int32) dX6_init_66 (by decide) rfl ?_
  refine sm_putI (pc' := 70) (gk_X6_40 _ _ _ _ _) ti_7_8 dX6_init_67 rfl ?_
  refine sm_aload_n (pc' := 71) dX6_init_70 rfl rfl ?_
  refine sm_iconst (pc' := 72) (0 : Int32) dX6_init_71 (by decide) rfl ?_
  refine sm_putI (pc' := 75) (gk_X6_43 _ _ _ _ _) ti_7_9 dX6_init_72 rfl ?_
  refine sm_aload_n (pc' := 76) dX6_init_75 rfl rfl ?_
  refine sm_iconst (pc' := 77) (0 : Int32) dX6_init_76 (by decide) rfl ?_
  refine sm_putI (pc' := 80) (gk_X6_46 _ _ _ _ _) ti_7_10 dX6_init_77 rfl ?_
  exact sm_return rfl dX6_init_80
theorem kX6_init (th : Nat) : Callee 1 yX6_init cX6_init 1 none [qv (some th)] vU (pX6_init th) := callee_ofS [(0, qv (some th))] (by decide +kernel) (Nat.le_of_ble_eq_true rfl) rfl (sX6_init th)
/-! HollowPress$Trace.<init>()V -/
abbrev eX9_init : Env0 := (RX9, "<init>", cX9_init, 1, none, 1)
def pX9_init (th : Nat) : Prg Unit :=
    nA 20 (16 : Int32) fun a101 =>
    pF 9 th 0 (some a101) (
    pI 9 th 1 (0 : Int32) (
    rt ()))
set_option maxRecDepth 20000 in
theorem sX9_init (th : Nat) : Sim eX9_init vU 0 [(0, qv (some th))] [] (pX9_init th) := by
  unfold pX9_init
  refine sm_aload_n (pc' := 1) dX9_init_0 rfl rfl ?_
  refine sm_objInit (pc' := 4) w_412 w_5 w_6 dX9_init_1 (by decide) (Nat.le_of_ble_eq_true rfl) rfl ?_
  refine sm_aload_n (pc' := 5) dX9_init_4 rfl rfl ?_
  refine sm_bipush (pc' := 7) (16 : Int32) dX9_init_5 (by decide) rfl ?_
  refine sm_newarr (pc' := 9) (atype := .int) (Or.inl ⟨rfl, rfl⟩) w_11 dX9_init_7 rfl (fun a101 => ?_)
  refine sm_putF (pc' := 12) (gk_X9_9i _ _ _ _) yr_9_0 dX9_init_9 rfl ?_
  refine sm_aload_n (pc' := 13) dX9_init_12 rfl rfl ?_
  refine sm_iconst (pc' := 14) (0 : Int32) dX9_init_13 (by decide) rfl ?_
  refine sm_putI (pc' := 17) (gk_X9_15 _ _ _ _ _) ti_9_1 dX9_init_14 rfl ?_
  exact sm_return rfl dX9_init_17
theorem kX9_init (th : Nat) : Callee 1 yX9_init cX9_init 1 none [qv (some th)] vU (pX9_init th) := callee_ofS [(0, qv (some th))] (by decide +kernel) (Nat.le_of_ble_eq_true rfl) rfl (sX9_init th)
/-! HollowPress.<init>()V -/
set_option maxRecDepth 20000 in
theorem iv_X10_23 (a : Nat)  : Inv RX10 2 (.invokespecial 23) [qv (some a)] vU (pX9_init a ) := inv_IN (host := "HollowPress") (As := []) (kX9_init a ) w_420 w_421 w_42 w_422 rfl ⟨by decide +kernel, by decide +kernel, by show _ = some 0; decide +kernel⟩ (by decide)
set_option maxRecDepth 20000 in
theorem iv_X10_30 (a : Nat)  : Inv RX10 2 (.invokespecial 30) [qv (some a)] vU (pX1_init a ) := inv_IN (host := "HollowPress") (As := []) (kX1_init a ) w_425 w_426 w_67 w_427 rfl ⟨by decide +kernel, by decide +kernel, by show _ = some 0; decide +kernel⟩ (by decide)
set_option maxRecDepth 20000 in
theorem iv_X10_37 (a : Nat)  : Inv RX10 2 (.invokespecial 37) [qv (some a)] vU (pX6_init a ) := inv_IN (host := "HollowPress") (As := []) (kX6_init a ) w_430 w_431 w_225 w_432 rfl ⟨by decide +kernel, by decide +kernel, by show _ = some 0; decide +kernel⟩ (by decide)
set_option maxRecDepth 20000 in
theorem iv_X10_44 (a : Nat)  : Inv RX10 2 (.invokespecial 44) [qv (some a)] vU (pX5_init a ) := inv_IN (host := "HollowPress") (As := []) (kX5_init a ) w_436 w_437 w_435 w_438 rfl ⟨by decide +kernel, by decide +kernel, by show _ = some 0; decide +kernel⟩ (by decide)
abbrev eX10_init : Env0 := (RX10, "<init>", cX10_init, 1, none, 2)
def pX10_init (th : Nat) : Prg Unit :=
    nA 23 (8 : Int32) fun a101 =>
    pF 10 th 0 (some a101) (
    nA 24 (10 : Int32) fun a102 =>
    pF 10 th 1 (some a102) (
    nO 9 fun a103 =>
    cl (pX9_init a103) fun _ =>
    pF 10 th 2 (some a103) (
    nO 2 fun a104 =>
    cl (pX1_init a104) fun _ =>
    pF 10 th 3 (some a104) (
    nO 7 fun a105 =>
    cl (pX6_init a105) fun _ =>
    pF 10 th 4 (some a105) (
    nO 6 fun a106 =>
    cl (pX5_init a106) fun _ =>
    pF 10 th 5 (some a106) (
    pI 10 th 6 (0 : Int32) (
    rt ())))))))
set_option maxRecDepth 20000 in
theorem sX10_init (th : Nat) : Sim eX10_init vU 0 [(0, qv (some th))] [] (pX10_init th) := by
  unfold pX10_init
  refine sm_aload_n (pc' := 1) dX10_init_0 rfl rfl ?_
  refine sm_objInit (pc' := 4) w_413 w_5 w_6 dX10_init_1 (by decide) (Nat.le_of_ble_eq_true rfl) rfl ?_
  refine sm_aload_n (pc' := 5) dX10_init_4 rfl rfl ?_
  refine sm_bipush (pc' := 7) (8 : Int32) dX10_init_5 (by decide) rfl ?_
  refine sm_anew (pc' := 10) (Or.inl ⟨rfl, rfl⟩) w_414 w_415 dX10_init_7 rfl (fun a101 => ?_)
  refine sm_putF (pc' := 13) (gk_X10_11i _ _ _ _) yr_10_0 dX10_init_10 rfl ?_
  refine sm_aload_n (pc' := 14) dX10_init_13 rfl rfl ?_
  refine sm_bipush (pc' := 16) (10 : Int32) dX10_init_14 (by decide) rfl ?_
  refine sm_anew (pc' := 19) (Or.inr (Or.inl ⟨rfl, rfl⟩)) w_416 w_417 dX10_init_16 rfl (fun a102 => ?_)
  refine sm_putF (pc' := 22) (gk_X10_17i _ _ _ _) yr_10_1 dX10_init_19 rfl ?_
  refine sm_aload_n (pc' := 23) dX10_init_22 rfl rfl ?_
  refine sm_new (pc' := 26) (t := 9) rfl w_418 w_419 w_42 dX10_init_23 rfl (fun a103 => ?_)
  refine sm_dup (pc' := 27) dX10_init_26 rfl rfl ?_
  refine sm_callv (pc' := 30) (sa := [qv (some a103)]) (st := [qv (some a103), qv (some th)]) (iv_X10_23 a103) (Nat.le_of_ble_eq_true rfl) dX10_init_27 rfl (Nat.le_of_ble_eq_true rfl) (fun _ => ?_)
  refine sm_putF (pc' := 33) (gk_X10_24i _ _ _ _) yr_10_2 dX10_init_30 rfl ?_
  refine sm_aload_n (pc' := 34) dX10_init_33 rfl rfl ?_
  refine sm_new (pc' := 37) (t := 2) rfl w_423 w_424 w_67 dX10_init_34 rfl (fun a104 => ?_)
  refine sm_dup (pc' := 38) dX10_init_37 rfl rfl ?_
  refine sm_callv (pc' := 41) (sa := [qv (some a104)]) (st := [qv (some a104), qv (some th)]) (iv_X10_30 a104) (Nat.le_of_ble_eq_true rfl) dX10_init_38 rfl (Nat.le_of_ble_eq_true rfl) (fun _ => ?_)
  refine sm_putF (pc' := 44) (gk_X10_31i _ _ _ _) yr_10_3 dX10_init_41 rfl ?_
  refine sm_aload_n (pc' := 45) dX10_init_44 rfl rfl ?_
  refine sm_new (pc' := 48) (t := 7) rfl w_428 w_429 w_225 dX10_init_45 rfl (fun a105 => ?_)
  refine sm_dup (pc' := 49) dX10_init_48 rfl rfl ?_
  refine sm_callv (pc' := 52) (sa := [qv (some a105)]) (st := [qv (some a105), qv (some th)]) (iv_X10_37 a105) (Nat.le_of_ble_eq_true rfl) dX10_init_49 rfl (Nat.le_of_ble_eq_true rfl) (fun _ => ?_)
  refine sm_putF (pc' := 55) (gk_X10_38i _ _ _ _) yr_10_4 dX10_init_52 rfl ?_
  refine sm_aload_n (pc' := 56) dX10_init_55 rfl rfl ?_
  refine sm_new (pc' := 59) (t := 6) rfl w_433 w_434 w_435 dX10_init_56 rfl (fun a106 => ?_)
  refine sm_dup (pc' := 60) dX10_init_59 rfl rfl ?_
  refine sm_callv (pc' := 63) (sa := [qv (some a106)]) (st := [qv (some a106), qv (some th)]) (iv_X10_44 a106) (Nat.le_of_ble_eq_true rfl) dX10_init_60 rfl (Nat.le_of_ble_eq_true rfl) (fun _ => ?_)
  refine sm_putF (pc' := 66) (gk_X10_45i _ _ _ _) yr_10_5 dX10_init_63 rfl ?_
  refine sm_aload_n (pc' := 67) dX10_init_66 rfl rfl ?_
  refine sm_iconst (pc' := 68) (0 : Int32) dX10_init_67 (by decide) rfl ?_
  refine sm_putI (pc' := 71) (gk_X10_49 _ _ _ _ _) ti_10_6 dX10_init_68 rfl ?_
  exact sm_return rfl dX10_init_71
theorem kX10_init (th : Nat) : Callee 2 yX10_init cX10_init 1 none [qv (some th)] vU (pX10_init th) := callee_ofS [(0, qv (some th))] (by decide +kernel) (Nat.le_of_ble_eq_true rfl) rfl (sX10_init th)
/-! HollowPress.is(II)I -/
abbrev eX10_is : Env0 := (RX10, "is", cX10_is, 3, (some .int), 5)
def pX10_is (th : Nat) (a1 : Int32) (a2 : Int32) : Prg Int32 :=
    cl (pX10_below a1 (10 : Int32)) fun v101 =>
    (lt (rt (-1000001 : Int32) : Prg Int32) fun k102 =>
    (if v101 = 0 then k102
    else cl (pX10_below a2 (5 : Int32)) fun v103 =>
    (if v103 = 0 then k102
    else gF 10 th 1 fun v104 =>
    un v104 fun a105 =>
    ldF a105 a1 fun v106 =>
    cl (pX10_isOfKind v106 a2) fun v107 =>
    (lt (fun (v108 : Int32) => rt v108 : Int32 → Prg Int32) fun k109 =>
    (if v107 = 0 then k109 (0 : Int32)
    else k109 (1 : Int32))))))
set_option maxRecDepth 20000 in
theorem sX10_is (th : Nat) (a1 : Int32) (a2 : Int32) : Sim eX10_is vI 0 [(0, qv (some th)), (1, iv a1), (2, iv a2)] [] (pX10_is th a1 a2) := by
  unfold pX10_is
  refine sm_iload_n (pc' := 1) dX10_is_0 rfl rfl ?_
  refine sm_bipush (pc' := 3) (10 : Int32) dX10_is_1 (by decide) rfl ?_
  refine sm_calli (pc' := 6) (sa := [iv (10 : Int32), iv a1]) (st := []) (iv_X10_53 a1 (10 : Int32)) (Nat.le_of_ble_eq_true rfl) dX10_is_3 rfl (Nat.le_of_ble_eq_true rfl) (fun v101 => ?_)
  refine sm_lt (fun k102 => Sim eX10_is vI 17 [] [] (k102)) ?_ (fun k102 hk102 => ?_)
  · skip
    refine sm_ldc (pc' := 19) (-1000001 : Int32) w_189 dX10_is_17 rfl ?_
    exact sm_ireturn rfl dX10_is_19
  · skip
    refine sm_if_eq (pc' := 9) (pc1 := 17) dX10_is_6 (by decide) rfl (fun _ => ?_) (fun _ => ?_)
    · skip
      refine sm_sub [] rfl ?_
      exact hk102
    · skip
      refine sm_iload_n (pc' := 10) dX10_is_9 rfl rfl ?_
      refine sm_iconst (pc' := 11) (5 : Int32) dX10_is_10 (by decide) rfl ?_
      refine sm_calli (pc' := 14) (sa := [iv (5 : Int32), iv a2]) (st := []) (iv_X10_53 a2 (5 : Int32)) (Nat.le_of_ble_eq_true rfl) dX10_is_11 rfl (Nat.le_of_ble_eq_true rfl) (fun v103 => ?_)
      refine sm_if_ne (pc' := 17) (pc1 := 20) dX10_is_14 (by decide) rfl (fun _ => ?_) (fun _ => ?_)
      · skip
        refine sm_aload_n (pc' := 21) dX10_is_20 rfl rfl ?_
        refine sm_getF (pc' := 24) fk_X10_17 yr_10_1 dX10_is_21 rfl (fun v104 => ?_)
        refine sm_iload_n (pc' := 25) dX10_is_24 rfl rfl ?_
        rcases v104 with _ | a105
        · exact sm_unN
        refine sm_unS ?_
        refine sm_aaload (pc' := 26) dX10_is_25 rfl (fun v106 => ?_)
        refine sm_iload_n (pc' := 27) dX10_is_26 rfl rfl ?_
        refine sm_calli (pc' := 30) (sa := [iv a2, qv v106]) (st := []) (iv_X10_126 v106 a2) (Nat.le_of_ble_eq_true rfl) dX10_is_27 rfl (Nat.le_of_ble_eq_true rfl) (fun v107 => ?_)
        refine sm_lt (fun k109 => ∀ (v108 : Int32), Sim eX10_is vI 38 [] [iv v108] (k109 v108)) ?_ (fun k109 hk109 => ?_)
        · intro v108
          exact sm_ireturn rfl dX10_is_38
        · skip
          refine sm_if_eq (pc' := 33) (pc1 := 37) dX10_is_30 (by decide) rfl (fun _ => ?_) (fun _ => ?_)
          · skip
            refine sm_iconst (pc' := 38) (0 : Int32) dX10_is_37 (by decide) rfl ?_
            refine sm_sub [] rfl ?_
            exact hk109 (0 : Int32)
          · skip
            refine sm_iconst (pc' := 34) (1 : Int32) dX10_is_33 (by decide) rfl ?_
            refine sm_goto (pc' := 38) dX10_is_34 (by decide) ?_
            refine sm_sub [] rfl ?_
            exact hk109 (1 : Int32)
      · skip
        refine sm_sub [] rfl ?_
        exact hk102
theorem kX10_is (th : Nat) (a1 : Int32) (a2 : Int32) : Callee 5 yX10_is cX10_is 3 (some .int) [qv (some th), iv a1, iv a2] vI (pX10_is th a1 a2) := callee_ofS [(0, qv (some th)), (1, iv a1), (2, iv a2)] (by decide +kernel) (Nat.le_of_ble_eq_true rfl) rfl (sX10_is th a1 a2)
/-! HollowPress$Presses.forgetPlan()V -/
abbrev eX5_forgetPlan : Env0 := (RX5, "forgetPlan", cX5_forgetPlan, 2, none, 0)
def pX5_forgetPlan_L2 (th : Nat) (k102 : Prg Unit) : Nat → Int32 → Prg Unit
  | 0, _ => fl
  | n + 1, v101 =>
    (if (6 : Int32) ≤ v101 then k102
    else gF 6 th 5 fun v103 =>
    un v103 fun a104 =>
    stI a104 v101 (0 : Int32) (
    gF 6 th 6 fun v105 =>
    un v105 fun a106 =>
    stI a106 v101 (0 : Int32) (
    pX5_forgetPlan_L2 th k102 n (v101 + (1 : Int32)))))
def pX5_forgetPlan (th : Nat) : Prg Unit :=
    pX5_forgetPlan_L2 th (rt ()) FL (0 : Int32)
set_option maxRecDepth 20000 in
theorem sX5_forgetPlan_L2 (th : Nat) (k102 : Prg Unit) (hk102 : Sim eX5_forgetPlan vU 28 [] [] (k102)) : ∀ (n : Nat), ∀ (v101 : Int32), Sim eX5_forgetPlan vU 2 [(0, qv (some th)), (1, iv v101)] [] (pX5_forgetPlan_L2 th k102 n v101) := by
  intro n
  induction n with
  | zero =>
    intros
    exact sm_fl
  | succ n ih =>
    intro v101
    unfold pX5_forgetPlan_L2
    refine sm_iload_n (pc' := 3) dX5_forgetPlan_2 rfl rfl ?_
    refine sm_bipush (pc' := 5) (6 : Int32) dX5_forgetPlan_3 (by decide) rfl ?_
    refine sm_icmp_ge (pc' := 8) (pc1 := 28) dX5_forgetPlan_5 (by decide) rfl (fun _ => ?_) (fun _ => ?_)
    · skip
      refine sm_sub [] rfl ?_
      exact hk102
    · skip
      refine sm_aload_n (pc' := 9) dX5_forgetPlan_8 rfl rfl ?_
      refine sm_getF (pc' := 12) fk_X5_29 yr_6_5 dX5_forgetPlan_9 rfl (fun v103 => ?_)
      refine sm_iload_n (pc' := 13) dX5_forgetPlan_12 rfl rfl ?_
      refine sm_iconst (pc' := 14) (0 : Int32) dX5_forgetPlan_13 (by decide) rfl ?_
      rcases v103 with _ | a104
      · exact sm_unN
      refine sm_unS ?_
      refine sm_iastore (pc' := 15) dX5_forgetPlan_14 rfl ?_
      refine sm_aload_n (pc' := 16) dX5_forgetPlan_15 rfl rfl ?_
      refine sm_getF (pc' := 19) fk_X5_32 yr_6_6 dX5_forgetPlan_16 rfl (fun v105 => ?_)
      refine sm_iload_n (pc' := 20) dX5_forgetPlan_19 rfl rfl ?_
      refine sm_iconst (pc' := 21) (0 : Int32) dX5_forgetPlan_20 (by decide) rfl ?_
      rcases v105 with _ | a106
      · exact sm_unN
      refine sm_unS ?_
      refine sm_iastore (pc' := 22) dX5_forgetPlan_21 rfl ?_
      refine sm_iinc (pc' := 25) (v101 + (1 : Int32)) [(1, iv (v101 + (1 : Int32))), (0, qv (some th))] dX5_forgetPlan_22 rfl rfl (Nat.le_of_ble_eq_true rfl) rfl rfl ?_
      refine sm_goto (pc' := 2) dX5_forgetPlan_25 (by decide) ?_
      refine sm_sub [1, 0] rfl ?_
      exact ih (v101 + (1 : Int32))
set_option maxRecDepth 20000 in
theorem sX5_forgetPlan (th : Nat) : Sim eX5_forgetPlan vU 0 [(0, qv (some th))] [] (pX5_forgetPlan th) := by
  unfold pX5_forgetPlan
  refine sm_iconst (pc' := 1) (0 : Int32) dX5_forgetPlan_0 (by decide) rfl ?_
  refine sm_istore_n (pc' := 2) [(1, iv (0 : Int32)), (0, qv (some th))] dX5_forgetPlan_1 rfl (Nat.le_of_ble_eq_true rfl) rfl rfl ?_
  refine sm_sub [1, 0] rfl ?_
  refine sX5_forgetPlan_L2 th _ ?_ FL (0 : Int32)
  · skip
    exact sm_return rfl dX5_forgetPlan_28
theorem kX5_forgetPlan (th : Nat) : Callee 0 yX5_forgetPlan cX5_forgetPlan 2 none [qv (some th)] vU (pX5_forgetPlan th) := callee_ofS [(0, qv (some th))] (by decide +kernel) (Nat.le_of_ble_eq_true rfl) rfl (sX5_forgetPlan th)
