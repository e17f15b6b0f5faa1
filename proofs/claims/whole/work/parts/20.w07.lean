/-! HollowPress$Presses.addJob(III)I -/
set_option maxRecDepth 20000 in
theorem iv_X5_43 (a : Nat)  : Inv RX5 1 (.invokevirtual 43) [qv (some a)] vU (onT a 6 (pX5_forgetPlan a )) := inv_V (As := []) (t := 6) (kX5_forgetPlan a ) _ (by decide) rfl rfl w_439 w_440 w_441 w_435 w_442 ⟨by decide +kernel, by decide +kernel, by show _ = some 0; decide +kernel⟩ (by decide)
abbrev eX5_addJob : Env0 := (RX5, "addJob", cX5_addJob, 4, (some .int), 1)
def pX5_addJob (th : Nat) (a1 : Int32) (a2 : Int32) (a3 : Int32) : Prg Int32 :=
    gI 6 th 8 fun v101 =>
    (if v101 < (12 : Int32) then cl (onT th 6 (pX5_forgetPlan th)) fun _ =>
    gF 6 th 1 fun v102 =>
    gI 6 th 8 fun v103 =>
    un v102 fun a104 =>
    stI a104 v103 a1 (
    gF 6 th 2 fun v105 =>
    gI 6 th 8 fun v106 =>
    un v105 fun a107 =>
    stI a107 v106 a2 (
    gF 6 th 3 fun v108 =>
    gI 6 th 8 fun v109 =>
    un v108 fun a110 =>
    stI a110 v109 a3 (
    gI 6 th 8 fun v111 =>
    pI 6 th 8 (v111 + (1 : Int32)) (
    gI 6 th 8 fun v112 =>
    rt (v112 - (1 : Int32))))))
    else rt (-1000003 : Int32))
set_option maxRecDepth 20000 in
theorem sX5_addJob (th : Nat) (a1 : Int32) (a2 : Int32) (a3 : Int32) : Sim eX5_addJob vI 0 [(0, qv (some th)), (1, iv a1), (2, iv a2), (3, iv a3)] [] (pX5_addJob th a1 a2 a3) := by
  unfold pX5_addJob
  refine sm_aload_n (pc' := 1) dX5_addJob_0 rfl rfl ?_
  refine sm_getI (pc' := 4) fk_X5_39 nr_6_8 dX5_addJob_1 rfl (fun v101 => ?_)
  refine sm_bipush (pc' := 6) (12 : Int32) dX5_addJob_4 (by decide) rfl ?_
  refine sm_icmp_lt (pc' := 9) (pc1 := 12) dX5_addJob_6 (by decide) rfl (fun _ => ?_) (fun _ => ?_)
  · skip
    refine sm_aload_n (pc' := 13) dX5_addJob_12 rfl rfl ?_
    refine sm_callv (pc' := 16) (sa := [qv (some th)]) (st := []) (iv_X5_43 th) (Nat.le_of_ble_eq_true rfl) dX5_addJob_13 rfl (Nat.le_of_ble_eq_true rfl) (fun _ => ?_)
    refine sm_aload_n (pc' := 17) dX5_addJob_16 rfl rfl ?_
    refine sm_getF (pc' := 20) fk_X5_15 yr_6_1 dX5_addJob_17 rfl (fun v102 => ?_)
    refine sm_aload_n (pc' := 21) dX5_addJob_20 rfl rfl ?_
    refine sm_getI (pc' := 24) fk_X5_39 nr_6_8 dX5_addJob_21 rfl (fun v103 => ?_)
    refine sm_iload_n (pc' := 25) dX5_addJob_24 rfl rfl ?_
    rcases v102 with _ | a104
    · exact sm_unN
    refine sm_unS ?_
    refine sm_iastore (pc' := 26) dX5_addJob_25 rfl ?_
    refine sm_aload_n (pc' := 27) dX5_addJob_26 rfl rfl ?_
    refine sm_getF (pc' := 30) fk_X5_18 yr_6_2 dX5_addJob_27 rfl (fun v105 => ?_)
    refine sm_aload_n (pc' := 31) dX5_addJob_30 rfl rfl ?_
    refine sm_getI (pc' := 34) fk_X5_39 nr_6_8 dX5_addJob_31 rfl (fun v106 => ?_)
    refine sm_iload_n (pc' := 35) dX5_addJob_34 rfl rfl ?_
    rcases v105 with _ | a107
    · exact sm_unN
    refine sm_unS ?_
    refine sm_iastore (pc' := 36) dX5_addJob_35 rfl ?_
    refine sm_aload_n (pc' := 37) dX5_addJob_36 rfl rfl ?_
    refine sm_getF (pc' := 40) fk_X5_21 yr_6_3 dX5_addJob_37 rfl (fun v108 => ?_)
    refine sm_aload_n (pc' := 41) dX5_addJob_40 rfl rfl ?_
    refine sm_getI (pc' := 44) fk_X5_39 nr_6_8 dX5_addJob_41 rfl (fun v109 => ?_)
    refine sm_iload_n (pc' := 45) dX5_addJob_44 rfl rfl ?_
    rcases v108 with _ | a110
    · exact sm_unN
    refine sm_unS ?_
    refine sm_iastore (pc' := 46) dX5_addJob_45 rfl ?_
    refine sm_aload_n (pc' := 47) dX5_addJob_46 rfl rfl ?_
    refine sm_dup (pc' := 48) dX5_addJob_47 rfl rfl ?_
    refine sm_getI (pc' := 51) fk_X5_39 nr_6_8 dX5_addJob_48 rfl (fun v111 => ?_)
    refine sm_iconst (pc' := 52) (1 : Int32) dX5_addJob_51 (by decide) rfl ?_
    refine sm_iadd (pc' := 53) dX5_addJob_52 rfl ?_
    refine sm_putI (pc' := 56) (gk_X5_39 _ _ _ _ _) ti_6_8 dX5_addJob_53 rfl ?_
    refine sm_aload_n (pc' := 57) dX5_addJob_56 rfl rfl ?_
    refine sm_getI (pc' := 60) fk_X5_39 nr_6_8 dX5_addJob_57 rfl (fun v112 => ?_)
    refine sm_iconst (pc' := 61) (1 : Int32) dX5_addJob_60 (by decide) rfl ?_
    refine sm_isub (pc' := 62) dX5_addJob_61 rfl ?_
    exact sm_ireturn rfl dX5_addJob_62
  · skip
    refine sm_ldc (pc' := 11) (-1000003 : Int32) w_443 dX5_addJob_9 rfl ?_
    exact sm_ireturn rfl dX5_addJob_11
theorem kX5_addJob (th : Nat) (a1 : Int32) (a2 : Int32) (a3 : Int32) : Callee 1 yX5_addJob cX5_addJob 4 (some .int) [qv (some th), iv a1, iv a2, iv a3] vI (pX5_addJob th a1 a2 a3) := callee_ofS [(0, qv (some th)), (1, iv a1), (2, iv a2), (3, iv a3)] (by decide +kernel) (Nat.le_of_ble_eq_true rfl) rfl (sX5_addJob th a1 a2 a3)
/-! HollowPress.job(III)I -/
set_option maxRecDepth 20000 in
theorem iv_X10_264 (a : Nat) (x0 : Int32) (x1 : Int32) (x2 : Int32) : Inv RX10 2 (.invokevirtual 264) [iv x2, iv x1, iv x0, qv (some a)] vI (onT a 6 (pX5_addJob a x0 x1 x2)) := inv_V (As := [iv x0, iv x1, iv x2]) (t := 6) (kX5_addJob a x0 x1 x2) _ (by decide) rfl rfl w_445 w_446 w_447 w_435 w_448 ⟨by decide +kernel, by decide +kernel, by show _ = some 3; decide +kernel⟩ (by decide)
abbrev eX10_job : Env0 := (RX10, "job", cX10_job, 4, (some .int), 2)
def pX10_job (th : Nat) (a1 : Int32) (a2 : Int32) (a3 : Int32) : Prg Int32 :=
    cl (pX10_among a1 (0 : Int32) (1000000 : Int32)) fun v101 =>
    (lt (rt (-1000001 : Int32) : Prg Int32) fun k102 =>
    (if v101 = 0 then k102
    else cl (pX10_below a2 (10 : Int32)) fun v103 =>
    (if v103 = 0 then k102
    else cl (pX10_among a3 (1 : Int32) (1000 : Int32)) fun v104 =>
    (if v104 = 0 then rt (-1000001 : Int32)
    else gF 10 th 5 fun v105 =>
    un v105 fun a106 =>
    cl (onT a106 6 (pX5_addJob a106 a1 a2 a3)) fun v107 =>
    rt v107))))
set_option maxRecDepth 20000 in
theorem sX10_job (th : Nat) (a1 : Int32) (a2 : Int32) (a3 : Int32) : Sim eX10_job vI 0 [(0, qv (some th)), (1, iv a1), (2, iv a2), (3, iv a3)] [] (pX10_job th a1 a2 a3) := by
  unfold pX10_job
  refine sm_iload_n (pc' := 1) dX10_job_0 rfl rfl ?_
  refine sm_iconst (pc' := 2) (0 : Int32) dX10_job_1 (by decide) rfl ?_
  refine sm_ldcw (pc' := 5) (1000000 : Int32) w_444 dX10_job_2 rfl ?_
  refine sm_calli (pc' := 8) (sa := [iv (1000000 : Int32), iv (0 : Int32), iv a1]) (st := []) (iv_X10_90 a1 (0 : Int32) (1000000 : Int32)) (Nat.le_of_ble_eq_true rfl) dX10_job_5 rfl (Nat.le_of_ble_eq_true rfl) (fun v101 => ?_)
  refine sm_lt (fun k102 => Sim eX10_job vI 20 [] [] (k102)) ?_ (fun k102 hk102 => ?_)
  · skip
    refine sm_ldc (pc' := 22) (-1000001 : Int32) w_189 dX10_job_20 rfl ?_
    exact sm_ireturn rfl dX10_job_22
  · skip
    refine sm_if_eq (pc' := 11) (pc1 := 20) dX10_job_8 (by decide) rfl (fun _ => ?_) (fun _ => ?_)
    · skip
      refine sm_sub [] rfl ?_
      exact hk102
    · skip
      refine sm_iload_n (pc' := 12) dX10_job_11 rfl rfl ?_
      refine sm_bipush (pc' := 14) (10 : Int32) dX10_job_12 (by decide) rfl ?_
      refine sm_calli (pc' := 17) (sa := [iv (10 : Int32), iv a2]) (st := []) (iv_X10_53 a2 (10 : Int32)) (Nat.le_of_ble_eq_true rfl) dX10_job_14 rfl (Nat.le_of_ble_eq_true rfl) (fun v103 => ?_)
      refine sm_if_ne (pc' := 20) (pc1 := 23) dX10_job_17 (by decide) rfl (fun _ => ?_) (fun _ => ?_)
      · skip
        refine sm_iload_n (pc' := 24) dX10_job_23 rfl rfl ?_
        refine sm_iconst (pc' := 25) (1 : Int32) dX10_job_24 (by decide) rfl ?_
        refine sm_sipush (pc' := 28) (1000 : Int32) dX10_job_25 (by decide) rfl ?_
        refine sm_calli (pc' := 31) (sa := [iv (1000 : Int32), iv (1 : Int32), iv a3]) (st := []) (iv_X10_90 a3 (1 : Int32) (1000 : Int32)) (Nat.le_of_ble_eq_true rfl) dX10_job_28 rfl (Nat.le_of_ble_eq_true rfl) (fun v104 => ?_)
        refine sm_if_ne (pc' := 34) (pc1 := 37) dX10_job_31 (by decide) rfl (fun _ => ?_) (fun _ => ?_)
        · skip
          refine sm_aload_n (pc' := 38) dX10_job_37 rfl rfl ?_
          refine sm_getF (pc' := 41) fk_X10_45 yr_10_5 dX10_job_38 rfl (fun v105 => ?_)
          refine sm_iload_n (pc' := 42) dX10_job_41 rfl rfl ?_
          refine sm_iload_n (pc' := 43) dX10_job_42 rfl rfl ?_
          refine sm_iload_n (pc' := 44) dX10_job_43 rfl rfl ?_
          rcases v105 with _ | a106
          · exact sm_unN
          refine sm_unS ?_
          refine sm_calli (pc' := 47) (sa := [iv a3, iv a2, iv a1, qv (some a106)]) (st := []) (iv_X10_264 a106 a1 a2 a3) (Nat.le_of_ble_eq_true rfl) dX10_job_44 rfl (Nat.le_of_ble_eq_true rfl) (fun v107 => ?_)
          exact sm_ireturn rfl dX10_job_47
        · skip
          refine sm_ldc (pc' := 36) (-1000001 : Int32) w_189 dX10_job_34 rfl ?_
          exact sm_ireturn rfl dX10_job_36
      · skip
        refine sm_sub [] rfl ?_
        exact hk102
theorem kX10_job (th : Nat) (a1 : Int32) (a2 : Int32) (a3 : Int32) : Callee 2 yX10_job cX10_job 4 (some .int) [qv (some th), iv a1, iv a2, iv a3] vI (pX10_job th a1 a2 a3) := callee_ofS [(0, qv (some th)), (1, iv a1), (2, iv a2), (3, iv a3)] (by decide +kernel) (Nat.le_of_ble_eq_true rfl) rfl (sX10_job th a1 a2 a3)
/-! HollowPress$Layers.told()I -/
abbrev eX2_told : Env0 := (RX2, "told", cX2_told, 1, (some .int), 0)
def pX2_told (th : Nat) : Prg Int32 :=
    rt (4 : Int32)
set_option maxRecDepth 20000 in
theorem sX2_told (th : Nat) : Sim eX2_told vI 0 [(0, qv (some th))] [] (pX2_told th) := by
  unfold pX2_told
  refine sm_iconst (pc' := 1) (4 : Int32) dX2_told_0 (by decide) rfl ?_
  exact sm_ireturn rfl dX2_told_1
theorem kX2_told (th : Nat) : Callee 0 yX2_told cX2_told 1 (some .int) [qv (some th)] vI (pX2_told th) := callee_ofS [(0, qv (some th))] (by decide +kernel) (Nat.le_of_ble_eq_true rfl) rfl (sX2_told th)
/-! HollowPress$Part.told()I -/
abbrev eX3_told : Env0 := (RX3, "told", cX3_told, 1, (some .int), 0)
def pX3_told (th : Nat) : Prg Int32 :=
    rt (1 : Int32)
set_option maxRecDepth 20000 in
theorem sX3_told (th : Nat) : Sim eX3_told vI 0 [(0, qv (some th))] [] (pX3_told th) := by
  unfold pX3_told
  refine sm_iconst (pc' := 1) (1 : Int32) dX3_told_0 (by decide) rfl ?_
  exact sm_ireturn rfl dX3_told_1
theorem kX3_told (th : Nat) : Callee 0 yX3_told cX3_told 1 (some .int) [qv (some th)] vI (pX3_told th) := callee_ofS [(0, qv (some th))] (by decide +kernel) (Nat.le_of_ble_eq_true rfl) rfl (sX3_told th)
/-! HollowPress$Plate.told()I -/
abbrev eX4_told : Env0 := (RX4, "told", cX4_told, 1, (some .int), 0)
def pX4_told (th : Nat) : Prg Int32 :=
    rt (3 : Int32)
set_option maxRecDepth 20000 in
theorem sX4_told (th : Nat) : Sim eX4_told vI 0 [(0, qv (some th))] [] (pX4_told th) := by
  unfold pX4_told
  refine sm_iconst (pc' := 1) (3 : Int32) dX4_told_0 (by decide) rfl ?_
  exact sm_ireturn rfl dX4_told_1
theorem kX4_told (th : Nat) : Callee 0 yX4_told cX4_told 1 (some .int) [qv (some th)] vI (pX4_told th) := callee_ofS [(0, qv (some th))] (by decide +kernel) (Nat.le_of_ble_eq_true rfl) rfl (sX4_told th)
/-! HollowPress.kind(I)I -/
set_option maxRecDepth 20000 in
theorem iv_X10_122 (a : Nat)  : Inv RX10 1 (.invokevirtual 122) [qv (some a)] vI (or2 a 1 (pX0_told a ) (or2 a 3 (pX2_told a ) (or2 a 4 (pX3_told a ) (onT a 5 (pX4_told a ))))) := inv_or (inv_U (As := []) (t := 1) (owner := "HollowPress$Thing") (xn := ⟨"HollowPress$Thing", "told", "()I"⟩) (kX0_told a ) _ (by decide) rfl w_450 w_451 (Or.inl w_449) w_452 w_453 w_175 w_454 ⟨by decide +kernel, by decide +kernel, by show _ = some 0; decide +kernel⟩ (by decide)) (inv_or (inv_U (As := []) (t := 3) (owner := "HollowPress$Thing") (xn := ⟨"HollowPress$Thing", "told", "()I"⟩) (kX2_told a ) _ (by decide) rfl w_450 w_451 (Or.inl w_449) w_455 w_456 w_170 w_457 ⟨by decide +kernel, by decide +kernel, by show _ = some 0; decide +kernel⟩ (by decide)) (inv_or (inv_U (As := []) (t := 4) (owner := "HollowPress$Thing") (xn := ⟨"HollowPress$Thing", "told", "()I"⟩) (kX3_told a ) _ (by decide) rfl w_450 w_451 (Or.inl w_449) w_458 w_459 w_25 w_460 ⟨by decide +kernel, by decide +kernel, by show _ = some 0; decide +kernel⟩ (by decide)) (inv_U (As := []) (t := 5) (owner := "HollowPress$Thing") (xn := ⟨"HollowPress$Thing", "told", "()I"⟩) (kX4_told a ) _ (by decide) rfl w_450 w_451 (Or.inl w_449) w_461 w_462 w_213 w_463 ⟨by decide +kernel, by decide +kernel, by show _ = some 0; decide +kernel⟩ (by decide))))
abbrev eX10_kind : Env0 := (RX10, "kind", cX10_kind, 3, (some .int), 1)
def pX10_kind (th : Nat) (a1 : Int32) : Prg Int32 :=
    cl (pX10_below a1 (10 : Int32)) fun v101 =>
    (if v101 = 0 then rt (-1000001 : Int32)
    else gF 10 th 1 fun v102 =>
    un v102 fun a103 =>
    ldF a103 a1 fun v104 =>
    (nu v104 (cl (onT th 10 (pX10_found th (1 : Int32))) fun v106 =>
    rt v106) fun a105 =>
    cl (or2 a105 1 (pX0_told a105) (or2 a105 3 (pX2_told a105) (or2 a105 4 (pX3_told a105) (onT a105 5 (pX4_told a105))))) fun v107 =>
    cl (onT th 10 (pX10_fine th v107)) fun v108 =>
    rt v108))
set_option maxRecDepth 20000 in
theorem sX10_kind (th : Nat) (a1 : Int32) : Sim eX10_kind vI 0 [(0, qv (some th)), (1, iv a1)] [] (pX10_kind th a1) := by
  unfold pX10_kind
  refine sm_iload_n (pc' := 1) dX10_kind_0 rfl rfl ?_
  refine sm_bipush (pc' := 3) (10 : Int32) dX10_kind_1 (by decide) rfl ?_
  refine sm_calli (pc' := 6) (sa := [iv (10 : Int32), iv a1]) (st := []) (iv_X10_53 a1 (10 : Int32)) (Nat.le_of_ble_eq_true rfl) dX10_kind_3 rfl (Nat.le_of_ble_eq_true rfl) (fun v101 => ?_)
  refine sm_if_ne (pc' := 9) (pc1 := 12) dX10_kind_6 (by decide) rfl (fun _ => ?_) (fun _ => ?_)
  · skip
    refine sm_aload_n (pc' := 13) dX10_kind_12 rfl rfl ?_
    refine sm_getF (pc' := 16) fk_X10_17 yr_10_1 dX10_kind_13 rfl (fun v102 => ?_)
    refine sm_iload_n (pc' := 17) dX10_kind_16 rfl rfl ?_
    rcases v102 with _ | a103
    · exact sm_unN
    refine sm_unS ?_
    refine sm_aaload (pc' := 18) dX10_kind_17 rfl (fun v104 => ?_)
    refine sm_astore_n (pc' := 19) [(2, qv v104), (0, qv (some th)), (1, iv a1)] dX10_kind_18 rfl (Nat.le_of_ble_eq_true rfl) rfl rfl ?_
    refine sm_aload_n (pc' := 20) dX10_kind_19 rfl rfl ?_
    rcases v104 with _ | a105
    · refine sm_nuN ?_
      refine sm_ifnonnullN (pc' := 23) dX10_kind_20 rfl ?_
      refine sm_aload_n (pc' := 24) dX10_kind_23 rfl rfl ?_
      refine sm_iconst (pc' := 25) (1 : Int32) dX10_kind_24 (by decide) rfl ?_
      refine sm_calli (pc' := 28) (sa := [iv (1 : Int32), qv (some th)]) (st := []) (iv_X10_58 th (1 : Int32)) (Nat.le_of_ble_eq_true rfl) dX10_kind_25 rfl (Nat.le_of_ble_eq_true rfl) (fun v106 => ?_)
      exact sm_ireturn rfl dX10_kind_28
    · refine sm_nuS ?_
      refine sm_ifnonnullS (pc' := 29) dX10_kind_20 (by decide) ?_
      refine sm_aload_n (pc' := 30) dX10_kind_29 rfl rfl ?_
      refine sm_aload_n (pc' := 31) dX10_kind_30 rfl rfl ?_
      refine sm_calli (pc' := 34) (sa := [qv (some a105)]) (st := [qv (some th)]) (iv_X10_122 a105) (Nat.le_of_ble_eq_true rfl) dX10_kind_31 rfl (Nat.le_of_ble_eq_true rfl) (fun v107 => ?_)
      refine sm_calli (pc' := 37) (sa := [iv v107, qv (some th)]) (st := []) (iv_X10_65 th v107) (Nat.le_of_ble_eq_true rfl) dX10_kind_34 rfl (Nat.le_of_ble_eq_true rfl) (fun v108 => ?_)
      exact sm_ireturn rfl dX10_kind_37
  · skip
    refine sm_ldc (pc' := 11) (-1000001 : Int32) w_189 dX10_kind_9 rfl ?_
    exact sm_ireturn rfl dX10_kind_11
theorem kX10_kind (th : Nat) (a1 : Int32) : Callee 1 yX10_kind cX10_kind 3 (some .int) [qv (some th), iv a1] vI (pX10_kind th a1) := callee_ofS [(0, qv (some th)), (1, iv a1)] (by decide +kernel) (Nat.le_of_ble_eq_true rfl) rfl (sX10_kind th a1)
/-! HollowPress.shelve(ILHollowPress$Thing;)I -/
abbrev eX10_shelve : Env0 := (RX10, "shelve", cX10_shelve, 3, (some .int), 1)
def pX10_shelve (th : Nat) (a1 : Int32) (a2 : Option Nat) : Prg Int32 :=
    gF 10 th 1 fun v101 =>
    un v101 fun a102 =>
    stF a102 a1 a2 (
    un a2 fun a103 =>
    cl (or2 a103 1 (pX0_told a103) (or2 a103 3 (pX2_told a103) (or2 a103 4 (pX3_told a103) (onT a103 5 (pX4_told a103))))) fun v104 =>
    rt v104)
set_option maxRecDepth 20000 in
theorem sX10_shelve (th : Nat) (a1 : Int32) (a2 : Option Nat) : Sim eX10_shelve vI 0 [(0, qv (some th)), (1, iv a1), (2, qv a2)] [] (pX10_shelve th a1 a2) := by
  unfold pX10_shelve
  refine sm_aload_n (pc' := 1) dX10_shelve_0 rfl rfl ?_
  refine sm_getF (pc' := 4) fk_X10_17 yr_10_1 dX10_shelve_1 rfl (fun v101 => ?_)
  refine sm_iload_n (pc' := 5) dX10_shelve_4 rfl rfl ?_
  refine sm_aload_n (pc' := 6) dX10_shelve_5 rfl rfl ?_
  rcases v101 with _ | a102
  · exact sm_unN
  refine sm_unS ?_
  refine sm_aastore (pc' := 7) dX10_shelve_6 rfl ?_
  refine sm_aload_n (pc' := 8) dX10_shelve_7 rfl rfl ?_
  rcases a2 with _ | a103
  · exact sm_unN
  refine sm_unS ?_
  refine sm_calli (pc' := 11) (sa := [qv (some a103)]) (st := []) (iv_X10_122 a103) (Nat.le_of_ble_eq_true rfl) dX10_shelve_8 rfl (Nat.le_of_ble_eq_true rfl) (fun v104 => ?_)
  exact sm_ireturn rfl dX10_shelve_11
theorem kX10_shelve (th : Nat) (a1 : Int32) (a2 : Option Nat) : Callee 1 yX10_shelve cX10_shelve 3 (some .int) [qv (some th), iv a1, qv a2] vI (pX10_shelve th a1 a2) := callee_ofS [(0, qv (some th)), (1, iv a1), (2, qv a2)] (by decide +kernel) (Nat.le_of_ble_eq_true rfl) rfl (sX10_shelve th a1 a2)
/-! HollowPress$Layers.<init>([II)V -/
set_option maxRecDepth 20000 in
theorem iv_X2_1 (a : Nat)  : Inv RX2 2 (.invokespecial 1) [qv (some a)] vU (pX8_init a ) := inv_IN (host := "HollowPress") (As := []) (kX8_init a ) w_464 w_8 w_9 w_10 rfl ⟨by decide +kernel, by decide +kernel, by show _ = some 0; decide +kernel⟩ (by decide)
abbrev eX2_init : Env0 := (RX2, "<init>", cX2_init, 3, none, 2)
def pX2_init (th : Nat) (a1 : Option Nat) (a2 : Int32) : Prg Unit :=
    cl (pX8_init th) fun _ =>
    pI 3 th 2 (0 : Int32) (
    pF 3 th 0 a1 (
    pI 3 th 1 a2 (
    rt ())))
set_option maxRecDepth 20000 in
theorem sX2_init (th : Nat) (a1 : Option Nat) (a2 : Int32) : Sim eX2_init vU 0 [(0, qv (some th)), (1, qv a1), (2, iv a2)] [] (pX2_init th a1 a2) := by
  unfold pX2_init
  refine sm_aload_n (pc' := 1) dX2_init_0 rfl rfl ?_
  refine sm_callv (pc' := 4) (sa := [qv (some th)]) (st := []) (iv_X2_1 th) (Nat.le_of_ble_eq_true rfl) dX2_init_1 rfl (Nat.le_of_ble_eq_true rfl) (fun _ => ?_)
  refine sm_aload_n (pc' := 5) dX2_init_4 rfl rfl ?_
  refine sm_iconst (pc' := 6) (0 : Int32) dX2_init_5 (by decide) rfl ?_
  refine sm_putI (pc' := 9) (gk_X2_7 _ _ _ _ _) ti_3_2 dX2_init_6 rfl ?_
  refine sm_aload_n (pc' := 10) dX2_init_9 rfl rfl ?_
  refine sm_aload_n (pc' := 11) dX2_init_10 rfl rfl ?_
  refine sm_putF (pc' := 14) (gk_X2_13i _ _ _ _) yr_3_0 dX2_init_11 rfl ?_
  refine sm_aload_n (pc' := 15) dX2_init_14 rfl rfl ?_
  refine sm_iload_n (pc' := 16) dX2_init_15 rfl rfl ?_
  refine sm_putI (pc' := 19) (gk_X2_17i _ _ _ _) ti_3_1 dX2_init_16 rfl ?_
  exact sm_return rfl dX2_init_19
theorem kX2_init (th : Nat) (a1 : Option Nat) (a2 : Int32) : Callee 2 yX2_init cX2_init 3 none [qv (some th), qv a1, iv a2] vU (pX2_init th a1 a2) := callee_ofS [(0, qv (some th)), (1, qv a1), (2, iv a2)] (by decide +kernel) (Nat.le_of_ble_eq_true rfl) rfl (sX2_init th a1 a2)
/-! HollowPress$Sheet.allAmong(III)Z -/
set_option maxRecDepth 20000 in
theorem iv_X7_29 (a : Nat) (x0 : Int32) (x1 : Int32) : Inv RX7 1 (.invokevirtual 29) [iv x1, iv x0, qv (some a)] vI (onT a 8 (pX7_covers a x0 x1)) := inv_V (As := [iv x0, iv x1]) (t := 8) (kX7_covers a x0 x1) _ (by decide) rfl rfl w_465 w_320 w_321 w_322 w_323 ⟨by decide +kernel, by decide +kernel, by show _ = some 2; decide +kernel⟩ (by decide)
abbrev eX7_allAmong : Env0 := (RX7, "allAmong", cX7_allAmong, 5, (some .boolean), 1)
def pX7_allAmong_L14 (th : Nat) (a1 : Int32) (a2 : Int32) (a3 : Int32) (k103 : Prg Int32) : Nat → Int32 → Prg Int32
  | 0, _ => fl
  | n + 1, v102 =>
    (if (a1 + a2) ≤ v102 then k103
    else gF 8 th 1 fun v104 =>
    un v104 fun a105 =>
    ldJ a105 v102 fun v106 =>
    (lt (rtZ (0 : Int32) : Prg Int32) fun k107 =>
    (if (lg_cmp v106 (0 : Int64)) < 0 then k107
    else gF 8 th 1 fun v108 =>
    un v108 fun a109 =>
    ldJ a109 v102 fun v110 =>
    (if (lg_cmp v110 (Int32.toInt64 a3)) ≤ 0 then pX7_allAmong_L14 th a1 a2 a3 k103 n (v102 + (1 : Int32))
    else k107))))
def pX7_allAmong (th : Nat) (a1 : Int32) (a2 : Int32) (a3 : Int32) : Prg Int32 :=
    cl (onT th 8 (pX7_covers th a1 a2)) fun v101 =>
    (if v101 = 0 then rtZ (0 : Int32)
    else pX7_allAmong_L14 th a1 a2 a3 (rtZ (1 : Int32)) FL a1)
set_option maxRecDepth 20000 in
theorem sX7_allAmong_L14 (th : Nat) (a1 : Int32) (a2 : Int32) (a3 : Int32) (k103 : Prg Int32) (hk103 : Sim eX7_allAmong vI 55 [] [] (k103)) : ∀ (n : Nat), ∀ (v102 : Int32), Sim eX7_allAmong vI 14 [(0, qv (some th)), (1, iv a1), (2, iv a2), (3, iv a3), (4, iv v102)] [] (pX7_allAmong_L14 th a1 a2 a3 k103 n v102) := by
  intro n
  induction n with
  | zero =>
    intros
    exact sm_fl
  | succ n ih =>
    intro v102
    unfold pX7_allAmong_L14
    refine sm_iload (pc' := 16) dX7_allAmong_14 rfl rfl ?_
    refine sm_iload_n (pc' := 17) dX7_allAmong_16 rfl rfl ?_
    refine sm_iload_n (pc' := 18) dX7_allAmong_17 rfl rfl ?_
    refine sm_iadd (pc' := 19) dX7_allAmong_18 rfl ?_
    refine sm_icmp_ge (pc' := 22) (pc1 := 55) dX7_allAmong_19 (by decide) rfl (fun _ => ?_) (fun _ => ?_)
    · skip
      refine sm_sub [] rfl ?_
      exact hk103
    · skip
      refine sm_aload_n (pc' := 23) dX7_allAmong_22 rfl rfl ?_
      refine sm_getF (pc' := 26) fk_X7_19 yr_8_1 dX7_allAmong_23 rfl (fun v104 => ?_)
      refine sm_iload (pc' := 28) dX7_allAmong_26 rfl rfl ?_
      rcases v104 with _ | a105
      · exact sm_unN
      refine sm_unS ?_
      refine sm_laload (pc' := 29) dX7_allAmong_28 rfl (fun v106 => ?_)
      refine sm_lconst (pc' := 30) (0 : Int64) dX7_allAmong_29 (by decide) rfl ?_
      refine sm_lcmp (pc' := 31) dX7_allAmong_30 rfl ?_
      refine sm_lt (fun k107 => Sim eX7_allAmong vI 47 [] [] (k107)) ?_ (fun k107 hk107 => ?_)
      · skip
        refine sm_iconst (pc' := 48) (0 : Int32) dX7_allAmong_47 (by decide) rfl ?_
        exact sm_zreturn rfl dX7_allAmong_48
      · skip
        refine sm_if_lt (pc' := 34) (pc1 := 47) dX7_allAmong_31 (by decide) rfl (fun _ => ?_) (fun _ => ?_)
        · skip
          refine sm_sub [] rfl ?_
          exact hk107
        · skip
          refine sm_aload_n (pc' := 35) dX7_allAmong_34 rfl rfl ?_
          refine sm_getF (pc' := 38) fk_X7_19 yr_8_1 dX7_allAmong_35 rfl (fun v108 => ?_)
          refine sm_iload (pc' := 40) dX7_allAmong_38 rfl rfl ?_
          rcases v108 with _ | a109
          · exact sm_unN
          refine sm_unS ?_
          refine sm_laload (pc' := 41) dX7_allAmong_40 rfl (fun v110 => ?_)
          refine sm_iload_n (pc' := 42) dX7_allAmong_41 rfl rfl ?_
          refine sm_i2l (pc' := 43) dX7_allAmong_42 rfl ?_
          refine sm_lcmp (pc' := 44) dX7_allAmong_43 rfl ?_
          refine sm_if_le (pc' := 47) (pc1 := 49) dX7_allAmong_44 (by decide) rfl (fun _ => ?_) (fun _ => ?_)
          · skip
            refine sm_iinc (pc' := 52) (v102 + (1 : Int32)) [(4, iv (v102 + (1 : Int32))), (0, qv (some th)), (1, iv a1), (2, iv a2), (3, iv a3)] dX7_allAmong_49 rfl rfl (Nat.le_of_ble_eq_true rfl) rfl rfl ?_
            refine sm_goto (pc' := 14) dX7_allAmong_52 (by decide) ?_
            refine sm_sub [1, 2, 3, 4, 0] rfl ?_
            exact ih (v102 + (1 : Int32))
          · skip
            refine sm_sub [] rfl ?_
            exact hk107
set_option maxRecDepth 20000 in
theorem sX7_allAmong (th : Nat) (a1 : Int32) (a2 : Int32) (a3 : Int32) : Sim eX7_allAmong vI 0 [(0, qv (some th)), (1, iv a1), (2, iv a2), (3, iv a3)] [] (pX7_allAmong th a1 a2 a3) := by
  unfold pX7_allAmong
  refine sm_aload_n (pc' := 1) dX7_allAmong_0 rfl rfl ?_
  refine sm_iload_n (pc' := 2) dX7_allAmong_1 rfl rfl ?_
  refine sm_iload_n (pc' := 3) dX7_allAmong_2 rfl rfl ?_
  refine sm_calli (pc' := 6) (sa := [iv a2, iv a1, qv (some th)]) (st := []) (iv_X7_29 th a1 a2) (Nat.le_of_ble_eq_true rfl) dX7_allAmong_3 rfl (Nat.le_of_ble_eq_true rfl) (fun v101 => ?_)
  refine sm_if_ne (pc' := 9) (pc1 := 11) dX7_allAmong_6 (by decide) rfl (fun _ => ?_) (fun _ => ?_)
  · skip
    refine sm_iload_n (pc' := 12) dX7_allAmong_11 rfl rfl ?_
    refine sm_istore (pc' := 14) [(4, iv a1), (0, qv (some th)), (1, iv a1), (2, iv a2), (3, iv a3)] dX7_allAmong_12  (Nat.le_of_ble_eq_true rfl) rfl rfl ?_
    refine sm_sub [1, 2, 3, 4, 0] rfl ?_
    refine sX7_allAmong_L14 th a1 a2 a3 _ ?_ FL a1
    · skip
      refine sm_iconst (pc' := 56) (1 : Int32) dX7_allAmong_55 (by decide) rfl ?_
      exact sm_zreturn rfl dX7_allAmong_56
  · skip
    refine sm_iconst (pc' := 10) (0 : Int32) dX7_allAmong_9 (by decide) rfl ?_
    exact sm_zreturn rfl dX7_allAmong_10
theorem kX7_allAmong (th : Nat) (a1 : Int32) (a2 : Int32) (a3 : Int32) : Callee 1 yX7_allAmong cX7_allAmong 5 (some .boolean) [qv (some th), iv a1, iv a2, iv a3] vI (pX7_allAmong th a1 a2 a3) := callee_ofS [(0, qv (some th)), (1, iv a1), (2, iv a2), (3, iv a3)] (by decide +kernel) (Nat.le_of_ble_eq_true rfl) rfl (sX7_allAmong th a1 a2 a3)
/-! HollowPress$Sheet.slice(II)[I -/
abbrev eX7_slice : Env0 := (RX7, "slice", cX7_slice, 5, (some (.array .int)), 1)
def pX7_slice_L20 (th : Nat) (a1 : Int32) (a2 : Int32) (a102 : Nat) (k104 : Prg (Option Nat)) : Nat → Int32 → Prg (Option Nat)
  | 0, _ => fl
  | n + 1, v103 =>
    (if a2 ≤ v103 then k104
    else gF 8 th 1 fun v105 =>
    un v105 fun a106 =>
    ldJ a106 (a1 + v103) fun v107 =>
    stI a102 v103 (Int64.toInt32 v107) (
    pX7_slice_L20 th a1 a2 a102 k104 n (v103 + (1 : Int32))))
def pX7_slice (th : Nat) (a1 : Int32) (a2 : Int32) : Prg (Option Nat) :=
    cl (onT th 8 (pX7_covers th a1 a2)) fun v101 =>
    (if v101 = 0 then nA 20 (0 : Int32) fun a108 =>
    rt (some a108)
    else nA 20 a2 fun a102 =>
    pX7_slice_L20 th a1 a2 a102 (rt (some a102)) FL (0 : Int32))
set_option maxRecDepth 20000 in
theorem sX7_slice_L20 (th : Nat) (a1 : Int32) (a2 : Int32) (a102 : Nat) (k104 : Prg (Option Nat)) (hk104 : Sim eX7_slice vR 46 [(3, qv (some a102))] [] (k104)) : ∀ (n : Nat), ∀ (v103 : Int32), Sim eX7_slice vR 20 [(0, qv (some th)), (1, iv a1), (2, iv a2), (3, qv (some a102)), (4, iv v103)] [] (pX7_slice_L20 th a1 a2 a102 k104 n v103) := by
  intro n
  induction n with
  | zero =>
    intros
    exact sm_fl
  | succ n ih =>
    intro v103
    unfold pX7_slice_L20
    refine sm_iload (pc' := 22) dX7_slice_20 rfl rfl ?_
    refine sm_iload_n (pc' := 23) dX7_slice_22 rfl rfl ?_
    refine sm_icmp_ge (pc' := 26) (pc1 := 46) dX7_slice_23 (by decide) rfl (fun _ => ?_) (fun _ => ?_)
    · skip
      refine sm_sub [3] rfl ?_
      exact hk104
    · skip
      refine sm_aload_n (pc' := 27) dX7_slice_26 rfl rfl ?_
      refine sm_iload (pc' := 29) dX7_slice_27 rfl rfl ?_
      refine sm_aload_n (pc' := 30) dX7_slice_29 rfl rfl ?_
      refine sm_getF (pc' := 33) fk_X7_19 yr_8_1 dX7_slice_30 rfl (fun v105 => ?_)
      refine sm_iload_n (pc' := 34) dX7_slice_33 rfl rfl ?_
      refine sm_iload (pc' := 36) dX7_slice_34 rfl rfl ?_
      refine sm_iadd (pc' := 37) dX7_slice_36 rfl ?_
      rcases v105 with _ | a106
      · exact sm_unN
      refine sm_unS ?_
      refine sm_laload (pc' := 38) dX7_slice_37 rfl (fun v107 => ?_)
      refine sm_l2i (pc' := 39) dX7_slice_38 rfl ?_
      refine sm_iastore (pc' := 40) dX7_slice_39 rfl ?_
      refine sm_iinc (pc' := 43) (v103 + (1 : Int32)) [(4, iv (v103 + (1 : Int32))), (0, qv (some th)), (1, iv a1), (2, iv a2), (3, qv (some a102))] dX7_slice_40 rfl rfl (Nat.le_of_ble_eq_true rfl) rfl rfl ?_
      refine sm_goto (pc' := 20) dX7_slice_43 (by decide) ?_
      refine sm_sub [1, 2, 3, 4, 0] rfl ?_
      exact ih (v103 + (1 : Int32))
set_option maxRecDepth 20000 in
theorem sX7_slice (th : Nat) (a1 : Int32) (a2 : Int32) : Sim eX7_slice vR 0 [(0, qv (some th)), (1, iv a1), (2, iv a2)] [] (pX7_slice th a1 a2) := by
  unfold pX7_slice
  refine sm_aload_n (pc' := 1) dX7_slice_0 rfl rfl ?_
  refine sm_iload_n (pc' := 2) dX7_slice_1 rfl rfl ?_
  refine sm_iload_n (pc' := 3) dX7_slice_2 rfl rfl ?_
  refine sm_calli (pc' := 6) (sa := [iv a2, iv a1, qv (some th)]) (st := []) (iv_X7_29 th a1 a2) (Nat.le_of_ble_eq_true rfl) dX7_slice_3 rfl (Nat.le_of_ble_eq_true rfl) (fun v101 => ?_)
  refine sm_if_ne (pc' := 9) (pc1 := 13) dX7_slice_6 (by decide) rfl (fun _ => ?_) (fun _ => ?_)
  · skip
    refine sm_iload_n (pc' := 14) dX7_slice_13 rfl rfl ?_
    refine sm_newarr (pc' := 16) (atype := .int) (Or.inl ⟨rfl, rfl⟩) w_11 dX7_slice_14 rfl (fun a102 => ?_)
    refine sm_astore_n (pc' := 17) [(3, qv (some a102)), (0, qv (some th)), (1, iv a1), (2, iv a2)] dX7_slice_16 rfl (Nat.le_of_ble_eq_true rfl) rfl rfl ?_
    refine sm_iconst (pc' := 18) (0 : Int32) dX7_slice_17 (by decide) rfl ?_
    refine sm_istore (pc' := 20) [(4, iv (0 : Int32)), (3, qv (some a102)), (0, qv (some th)), (1, iv a1), (2, iv a2)] dX7_slice_18  (Nat.le_of_ble_eq_true rfl) rfl rfl ?_
    refine sm_sub [2, 3, 4, 1, 0] rfl ?_
    refine sX7_slice_L20 th a1 a2 a102 _ ?_ FL (0 : Int32)
    · skip
      refine sm_aload_n (pc' := 47) dX7_slice_46 rfl rfl ?_
      exact sm_areturn rfl (by first | exact Or.inl ⟨_, rfl⟩ | exact Or.inr ⟨_, rfl⟩) dX7_slice_47
  · skip
    refine sm_iconst (pc' := 10) (0 : Int32) dX7_slice_9 (by decide) rfl ?_
    refine sm_newarr (pc' := 12) (atype := .int) (Or.inl ⟨rfl, rfl⟩) w_11 dX7_slice_10 rfl (fun a108 => ?_)
    exact sm_areturn rfl (by first | exact Or.inl ⟨_, rfl⟩ | exact Or.inr ⟨_, rfl⟩) dX7_slice_12
theorem kX7_slice (th : Nat) (a1 : Int32) (a2 : Int32) : Callee 1 yX7_slice cX7_slice 5 (some (.array .int)) [qv (some th), iv a1, iv a2] vR (pX7_slice th a1 a2) := callee_ofS [(0, qv (some th)), (1, iv a1), (2, iv a2)] (by decide +kernel) (Nat.le_of_ble_eq_true rfl) rfl (sX7_slice th a1 a2)
/-! HollowPress.layers(IIIII)I -/
set_option maxRecDepth 20000 in
theorem iv_X10_99 (a : Nat) (x0 : Int32) (x1 : Int32) (x2 : Int32) : Inv RX10 2 (.invokevirtual 99) [iv x2, iv x1, iv x0, qv (some a)] vI (onT a 8 (pX7_allAmong a x0 x1 x2)) := inv_V (As := [iv x0, iv x1, iv x2]) (t := 8) (kX7_allAmong a x0 x1 x2) _ (by decide) rfl rfl w_466 w_467 w_468 w_322 w_469 ⟨by decide +kernel, by decide +kernel, by show _ = some 3; decide +kernel⟩ (by decide)
set_option maxRecDepth 20000 in
theorem iv_X10_105 (a : Nat) (x0 : Int32) (x1 : Int32) : Inv RX10 2 (.invokevirtual 105) [iv x1, iv x0, qv (some a)] vR (onT a 8 (pX7_slice a x0 x1)) := inv_V (As := [iv x0, iv x1]) (t := 8) (kX7_slice a x0 x1) _ (by decide) rfl rfl w_471 w_472 w_473 w_322 w_474 ⟨by decide +kernel, by decide +kernel, by show _ = some 2; decide +kernel⟩ (by decide)
set_option maxRecDepth 20000 in
theorem iv_X10_119 (a : Nat) (x0 : Option Nat) (x1 : Int32) : Inv RX10 3 (.invokespecial 119) [iv x1, qv x0, qv (some a)] vU (pX2_init a x0 x1) := inv_I (As := [qv x0, iv x1]) (kX2_init a x0 x1) w_475 w_476 w_170 w_477 rfl ⟨by decide +kernel, by decide +kernel, by show _ = some 2; decide +kernel⟩ (by decide)
set_option maxRecDepth 20000 in
theorem iv_X10_113 (a : Nat) (x0 : Int32) (x1 : Option Nat) : Inv RX10 2 (.invokevirtual 113) [qv x1, iv x0, qv (some a)] vI (onT a 10 (pX10_shelve a x0 x1)) := inv_V (As := [iv x0, qv x1]) (t := 10) (kX10_shelve a x0 x1) _ (by decide) rfl rfl w_478 w_479 w_480 w_62 w_481 ⟨by decide +kernel, by decide +kernel, by show _ = some 2; decide +kernel⟩ (by decide)
abbrev eX10_layers : Env0 := (RX10, "layers", cX10_layers, 7, (some .int), 3)
def pX10_layers (th : Nat) (a1 : Int32) (a2 : Int32) (a3 : Int32) (a4 : Int32) (a5 : Int32) : Prg Int32 :=
    cl (pX10_below a1 (10 : Int32)) fun v101 =>
    (lt (rt (-1000001 : Int32) : Prg Int32) fun k102 =>
    (if v101 = 0 then k102
    else cl (pX10_below a2 (8 : Int32)) fun v103 =>
    (if v103 = 0 then k102
    else cl (pX10_among a4 (2 : Int32) (20 : Int32)) fun v104 =>
    (lt (rt (-1000001 : Int32) : Prg Int32) fun k105 =>
    (if v104 = 0 then k105
    else cl (pX10_among a5 (0 : Int32) (10000 : Int32)) fun v106 =>
    (if v106 = 0 then k105
    else gF 10 th 4 fun v107 =>
    gF 10 th 1 fun v108 =>
    un v108 fun a109 =>
    ldF a109 a1 fun v110 =>
    un v107 fun a111 =>
    cl (onT a111 7 (pX6_holds a111 v110)) fun v112 =>
    (if v112 = 0 then gF 10 th 0 fun v113 =>
    un v113 fun a114 =>
    ldF a114 a2 fun v115 =>
    (nu v115 (cl (onT th 10 (pX10_found th (1 : Int32))) fun v117 =>
    rt v117) fun a116 =>
    cl (onT a116 8 (pX7_covers a116 a3 a4)) fun v118 =>
    (if v118 = 0 then cl (onT th 10 (pX10_found th (2 : Int32))) fun v124 =>
    rt v124
    else cl (onT a116 8 (pX7_allAmong a116 a3 a4 (10000 : Int32))) fun v119 =>
    (if v119 = 0 then rt (-1000001 : Int32)
    else nO 3 fun a120 =>
    cl (onT a116 8 (pX7_slice a116 a3 a4)) fun v121 =>
    cl (pX2_init a120 v121 a5) fun _ =>
    cl (onT th 10 (pX10_shelve th a1 (some a120))) fun v122 =>
    cl (onT th 10 (pX10_fine th v122)) fun v123 =>
    rt v123)))
    else rt (-1000002 : Int32))))))))
set_option maxRecDepth 20000 in
theorem sX10_layers (th : Nat) (a1 : Int32) (a2 : Int32) (a3 : Int32) (a4 : Int32) (a5 : Int32) : Sim eX10_layers vI 0 [(0, qv (some th)), (1, iv a1), (2, iv a2), (3, iv a3), (4, iv a4), (5, iv a5)] [] (pX10_layers th a1 a2 a3 a4 a5) := by
  unfold pX10_layers
  refine sm_iload_n (pc' := 1) dX10_layers_0 rfl rfl ?_
  refine sm_bipush (pc' := 3) (10 : Int32) dX10_layers_1 (by decide) rfl ?_
  refine sm_calli (pc' := 6) (sa := [iv (10 : Int32), iv a1]) (st := []) (iv_X10_53 a1 (10 : Int32)) (Nat.le_of_ble_eq_true rfl) dX10_layers_3 rfl (Nat.le_of_ble_eq_true rfl) (fun v101 => ?_)
  refine sm_lt (fun k102 => Sim eX10_layers vI 18 [] [] (k102)) ?_ (fun k102 hk102 => ?_)
  · skip
    refine sm_ldc (pc' := 20) (-1000001 : Int32) w_189 dX10_layers_18 rfl ?_
    exact sm_ireturn rfl dX10_layers_20
  · skip
    refine sm_if_eq (pc' := 9) (pc1 := 18) dX10_layers_6 (by decide) rfl (fun _ => ?_) (fun _ => ?_)
    · skip
      refine sm_sub [] rfl ?_
      exact hk102
    · skip
      refine sm_iload_n (pc' := 10) dX10_layers_9 rfl rfl ?_
      refine sm_bipush (pc' := 12) (8 : Int32) dX10_layers_10 (by decide) rfl ?_
      refine sm_calli (pc' := 15) (sa := [iv (8 : Int32), iv a2]) (st := []) (iv_X10_53 a2 (8 : Int32)) (Nat.le_of_ble_eq_true rfl) dX10_layers_12 rfl (Nat.le_of_ble_eq_true rfl) (fun v103 => ?_)
      refine sm_if_ne (pc' := 18) (pc1 := 21) dX10_layers_15 (by decide) rfl (fun _ => ?_) (fun _ => ?_)
      · skip
        refine sm_iload (pc' := 23) dX10_layers_21 rfl rfl ?_
        refine sm_iconst (pc' := 24) (2 : Int32) dX10_layers_23 (by decide) rfl ?_
        refine sm_bipush (pc' := 26) (20 : Int32) dX10_layers_24 (by decide) rfl ?_
        refine sm_calli (pc' := 29) (sa := [iv (20 : Int32), iv (2 : Int32), iv a4]) (st := []) (iv_X10_90 a4 (2 : Int32) (20 : Int32)) (Nat.le_of_ble_eq_true rfl) dX10_layers_26 rfl (Nat.le_of_ble_eq_true rfl) (fun v104 => ?_)
        refine sm_lt (fun k105 => Sim eX10_layers vI 44 [] [] (k105)) ?_ (fun k105 hk105 => ?_)
        · skip
          refine sm_ldc (pc' := 46) (-1000001 : Int32) w_189 dX10_layers_44 rfl ?_
          exact sm_ireturn rfl dX10_layers_46
        · skip
          refine sm_if_eq (pc' := 32) (pc1 := 44) dX10_layers_29 (by decide) rfl (fun _ => ?_) (fun _ => ?_)
          · skip
            refine sm_sub [] rfl ?_
            exact hk105
          · skip
            refine sm_iload (pc' := 34) dX10_layers_32 rfl rfl ?_
            refine sm_iconst (pc' := 35) (0 : Int32) dX10_layers_34 (by decide) rfl ?_
            refine sm_sipush (pc' := 38) (10000 : Int32) dX10_layers_35 (by decide) rfl ?_
            refine sm_calli (pc' := 41) (sa := [iv (10000 : Int32), iv (0 : Int32), iv a5]) (st := []) (iv_X10_90 a5 (0 : Int32) (10000 : Int32)) (Nat.le_of_ble_eq_true rfl) dX10_layers_38 rfl (Nat.le_of_ble_eq_true rfl) (fun v106 => ?_)
            refine sm_if_ne (pc' := 44) (pc1 := 47) dX10_layers_41 (by decide) rfl (fun _ => ?_) (fun _ => ?_)
            · skip
              refine sm_aload_n (pc' := 48) dX10_layers_47 rfl rfl ?_
              refine sm_getF (pc' := 51) fk_X10_38 yr_10_4 dX10_layers_48 rfl (fun v107 => ?_)
              refine sm_aload_n (pc' := 52) dX10_layers_51 rfl rfl ?_
              refine sm_getF (pc' := 55) fk_X10_17 yr_10_1 dX10_layers_52 rfl (fun v108 => ?_)
              refine sm_iload_n (pc' := 56) dX10_layers_55 rfl rfl ?_
              rcases v108 with _ | a109
              · exact sm_unN
              refine sm_unS ?_
              refine sm_aaload (pc' := 57) dX10_layers_56 rfl (fun v110 => ?_)
              rcases v107 with _ | a111
              · exact sm_unN
              refine sm_unS ?_
              refine sm_calli (pc' := 60) (sa := [qv v110, qv (some a111)]) (st := []) (iv_X10_94 a111 v110) (Nat.le_of_ble_eq_true rfl) dX10_layers_57 rfl (Nat.le_of_ble_eq_true rfl) (fun v112 => ?_)
              refine sm_if_eq (pc' := 63) (pc1 := 66) dX10_layers_60 (by decide) rfl (fun _ => ?_) (fun _ => ?_)
              · skip
                refine sm_aload_n (pc' := 67) dX10_layers_66 rfl rfl ?_
                refine sm_getF (pc' := 70) fk_X10_11 yr_10_0 dX10_layers_67 rfl (fun v113 => ?_)
                refine sm_iload_n (pc' := 71) dX10_layers_70 rfl rfl ?_
                rcases v113 with _ | a114
                · exact sm_unN
                refine sm_unS ?_
                refine sm_aaload (pc' := 72) dX10_layers_71 rfl (fun v115 => ?_)
                refine sm_astore (pc' := 74) [(6, qv v115), (0, qv (some th)), (1, iv a1), (2, iv a2), (3, iv a3), (4, iv a4), (5, iv a5)] dX10_layers_72  (Nat.le_of_ble_eq_true rfl) rfl rfl ?_
                refine sm_aload (pc' := 76) dX10_layers_74 rfl rfl ?_
                rcases v115 with _ | a116
                · refine sm_nuN ?_
                  refine sm_ifnonnullN (pc' := 79) dX10_layers_76 rfl ?_
                  refine sm_aload_n (pc' := 80) dX10_layers_79 rfl rfl ?_
                  refine sm_iconst (pc' := 81) (1 : Int32) dX10_layers_80 (by decide) rfl ?_
                  refine sm_calli (pc' := 84) (sa := [iv (1 : Int32), qv (some th)]) (st := []) (iv_X10_58 th (1 : Int32)) (Nat.le_of_ble_eq_true rfl) dX10_layers_81 rfl (Nat.le_of_ble_eq_true rfl) (fun v117 => ?_)
                  exact sm_ireturn rfl dX10_layers_84
                · refine sm_nuS ?_
                  refine sm_ifnonnullS (pc' := 85) dX10_layers_76 (by decide) ?_
                  refine sm_aload (pc' := 87) dX10_layers_85 rfl rfl ?_
                  refine sm_iload_n (pc' := 88) dX10_layers_87 rfl rfl ?_
                  refine sm_iload (pc' := 90) dX10_layers_88 rfl rfl ?_
                  refine sm_calli (pc' := 93) (sa := [iv a4, iv a3, qv (some a116)]) (st := []) (iv_X10_70 a116 a3 a4) (Nat.le_of_ble_eq_true rfl) dX10_layers_90 rfl (Nat.le_of_ble_eq_true rfl) (fun v118 => ?_)
                  refine sm_if_ne (pc' := 96) (pc1 := 102) dX10_layers_93 (by decide) rfl (fun _ => ?_) (fun _ => ?_)
                  · skip
                    refine sm_aload (pc' := 104) dX10_layers_102 rfl rfl ?_
                    refine sm_iload_n (pc' := 105) dX10_layers_104 rfl rfl ?_
                    refine sm_iload (pc' := 107) dX10_layers_105 rfl rfl ?_
                    refine sm_sipush (pc' := 110) (10000 : Int32) dX10_layers_107 (by decide) rfl ?_
                    refine sm_calli (pc' := 113) (sa := [iv (10000 : Int32), iv a4, iv a3, qv (some a116)]) (st := []) (iv_X10_99 a116 a3 a4 (10000 : Int32)) (Nat.le_of_ble_eq_true rfl) dX10_layers_110 rfl (Nat.le_of_ble_eq_true rfl) (fun v119 => ?_)
                    refine sm_if_ne (pc' := 116) (pc1 := 119) dX10_layers_113 (by decide) rfl (fun _ => ?_) (fun _ => ?_)
                    · skip
                      refine sm_aload_n (pc' := 120) dX10_layers_119 rfl rfl ?_
                      refine sm_aload_n (pc' := 121) dX10_layers_120 rfl rfl ?_
                      refine sm_iload_n (pc' := 122) dX10_layers_121 rfl rfl ?_
                      refine sm_new (pc' := 125) (t := 3) rfl w_274 w_470 w_170 dX10_layers_122 rfl (fun a120 => ?_)
                      refine sm_dup (pc' := 126) dX10_layers_125 rfl rfl ?_
                      refine sm_aload (pc' := 128) dX10_layers_126 rfl rfl ?_
                      refine sm_iload_n (pc' := 129) dX10_layers_128 rfl rfl ?_
                      refine sm_iload (pc' := 131) dX10_layers_129 rfl rfl ?_
                      refine sm_callr (pc' := 134) (sa := [iv a4, iv a3, qv (some a116)]) (st := [qv (some a120), qv (some a120), iv a1, qv (some th), qv (some th)]) (iv_X10_105 a116 a3 a4) (Nat.le_of_ble_eq_true rfl) dX10_layers_131 rfl (Nat.le_of_ble_eq_true rfl) (fun v121 => ?_)
                      refine sm_iload (pc' := 136) dX10_layers_134 rfl rfl ?_
                      refine sm_callv (pc' := 139) (sa := [iv a5, qv v121, qv (some a120)]) (st := [qv (some a120), iv a1, qv (some th), qv (some th)]) (iv_X10_119 a120 v121 a5) (Nat.le_of_ble_eq_true rfl) dX10_layers_136 rfl (Nat.le_of_ble_eq_true rfl) (fun _ => ?_)
                      refine sm_calli (pc' := 142) (sa := [qv (some a120), iv a1, qv (some th)]) (st := [qv (some th)]) (iv_X10_113 th a1 (some a120)) (Nat.le_of_ble_eq_true rfl) dX10_layers_139 rfl (Nat.le_of_ble_eq_true rfl) (fun v122 => ?_)
                      refine sm_calli (pc' := 145) (sa := [iv v122, qv (some th)]) (st := []) (iv_X10_65 th v122) (Nat.le_of_ble_eq_true rfl) dX10_layers_142 rfl (Nat.le_of_ble_eq_true rfl) (fun v123 => ?_)
                      exact sm_ireturn rfl dX10_layers_145
                    · skip
                      refine sm_ldc (pc' := 118) (-1000001 : Int32) w_189 dX10_layers_116 rfl ?_
                      exact sm_ireturn rfl dX10_layers_118
                  · skip
                    refine sm_aload_n (pc' := 97) dX10_layers_96 rfl rfl ?_
                    refine sm_iconst (pc' := 98) (2 : Int32) dX10_layers_97 (by decide) rfl ?_
                    refine sm_calli (pc' := 101) (sa := [iv (2 : Int32), qv (some th)]) (st := []) (iv_X10_58 th (2 : Int32)) (Nat.le_of_ble_eq_true rfl) dX10_layers_98 rfl (Nat.le_of_ble_eq_true rfl) (fun v124 => ?_)
                    exact sm_ireturn rfl dX10_layers_101
              · skip
                refine sm_ldc (pc' := 65) (-1000002 : Int32) w_315 dX10_layers_63 rfl ?_
                exact sm_ireturn rfl dX10_layers_65
            · skip
              refine sm_sub [] rfl ?_
              exact hk105
      · skip
        refine sm_sub [] rfl ?_
        exact hk102
theorem kX10_layers (th : Nat) (a1 : Int32) (a2 : Int32) (a3 : Int32) (a4 : Int32) (a5 : Int32) : Callee 3 yX10_layers cX10_layers 7 (some .int) [qv (some th), iv a1, iv a2, iv a3, iv a4, iv a5] vI (pX10_layers th a1 a2 a3 a4 a5) := callee_ofS [(0, qv (some th)), (1, iv a1), (2, iv a2), (3, iv a3), (4, iv a4), (5, iv a5)] (by decide +kernel) (Nat.le_of_ble_eq_true rfl) rfl (sX10_layers th a1 a2 a3 a4 a5)
/-! HollowPress$Presses.pains(I)I -/
abbrev eX5_pains : Env0 := (RX5, "pains", cX5_pains, 3, (some .int), 0)
def pX5_pains (th : Nat) (a1 : Int32) : Prg Int32 :=
    gF 6 th 5 fun v101 =>
    un v101 fun a102 =>
    ldI a102 a1 fun v103 =>
    (lt (fun (v104 : Int32) => rt v104 : Int32 → Prg Int32) fun k105 =>
    (if 0 ≤ (v103 - (1 : Int32)) then gF 6 th 2 fun v106 =>
    gF 6 th 4 fun v107 =>
    un v107 fun a108 =>
    ldF a108 a1 fun v109 =>
    un v109 fun a110 =>
    ldI a110 (v103 - (1 : Int32)) fun v111 =>
    un v106 fun a112 =>
    ldI a112 v111 fun v113 =>
    gF 6 th 2 fun v114 =>
    gF 6 th 4 fun v115 =>
    un v115 fun a116 =>
    ldF a116 a1 fun v117 =>
    un v117 fun a118 =>
    ldI a118 (0 : Int32) fun v119 =>
    un v114 fun a120 =>
    ldI a120 v119 fun v121 =>
    k105 (v113 - v121)
    else k105 (0 : Int32)))
set_option maxRecDepth 20000 in
theorem sX5_pains (th : Nat) (a1 : Int32) : Sim eX5_pains vI 0 [(0, qv (some th)), (1, iv a1)] [] (pX5_pains th a1) := by
  unfold pX5_pains
  refine sm_aload_n (pc' := 1) dX5_pains_0 rfl rfl ?_
  refine sm_getF (pc' := 4) fk_X5_29 yr_6_5 dX5_pains_1 rfl (fun v101 => ?_)
  refine sm_iload_n (pc' := 5) dX5_pains_4 rfl rfl ?_
  rcases v101 with _ | a102
  · exact sm_unN
  refine sm_unS ?_
  refine sm_iaload (pc' := 6) dX5_pains_5 rfl (fun v103 => ?_)
  refine sm_iconst (pc' := 7) (1 : Int32) dX5_pains_6 (by decide) rfl ?_
  refine sm_isub (pc' := 8) dX5_pains_7 rfl ?_
  refine sm_istore_n (pc' := 9) [(2, iv (v103 - (1 : Int32))), (0, qv (some th)), (1, iv a1)] dX5_pains_8 rfl (Nat.le_of_ble_eq_true rfl) rfl rfl ?_
  refine sm_iload_n (pc' := 10) dX5_pains_9 rfl rfl ?_
  refine sm_lt (fun k105 => ∀ (v104 : Int32), Sim eX5_pains vI 44 [] [iv v104] (k105 v104)) ?_ (fun k105 hk105 => ?_)
  · intro v104
    exact sm_ireturn rfl dX5_pains_44
  · skip
    refine sm_if_ge (pc' := 13) (pc1 := 17) dX5_pains_10 (by decide) rfl (fun _ => ?_) (fun _ => ?_)
    · skip
      refine sm_aload_n (pc' := 18) dX5_pains_17 rfl rfl ?_
      refine sm_getF (pc' := 21) fk_X5_18 yr_6_2 dX5_pains_18 rfl (fun v106 => ?_)
      refine sm_aload_n (pc' := 22) dX5_pains_21 rfl rfl ?_
      refine sm_getF (pc' := 25) fk_X5_26 yr_6_4 dX5_pains_22 rfl (fun v107 => ?_)
      refine sm_iload_n (pc' := 26) dX5_pains_25 rfl rfl ?_
      rcases v107 with _ | a108
      · exact sm_unN
      refine sm_unS ?_
      refine sm_aaload (pc' := 27) dX5_pains_26 rfl (fun v109 => ?_)
      refine sm_iload_n (pc' := 28) dX5_pains_27 rfl rfl ?_
      rcases v109 with _ | a110
      · exact sm_unN
      refine sm_unS ?_
      refine sm_iaload (pc' := 29) dX5_pains_28 rfl (fun v111 => ?_)
      rcases v106 with _ | a112
      · exact sm_unN
      refine sm_unS ?_
      refine sm_iaload (pc' := 30) dX5_pains_29 rfl (fun v113 => ?_)
      refine sm_aload_n (pc' := 31) dX5_pains_30 rfl rfl ?_
      refine sm_getF (pc' := 34) fk_X5_18 yr_6_2 dX5_pains_31 rfl (fun v114 => ?_)
      refine sm_aload_n (pc' := 35) dX5_pains_34 rfl rfl ?_
      refine sm_getF (pc' := 38) fk_X5_26 yr_6_4 dX5_pains_35 rfl (fun v115 => ?_)
      refine sm_iload_n (pc' := 39) dX5_pains_38 rfl rfl ?_
      rcases v115 with _ | a116
      · exact sm_unN
      refine sm_unS ?_
      refine sm_aaload (pc' := 40) dX5_pains_39 rfl (fun v117 => ?_)
      refine sm_iconst (pc' := 41) (0 : Int32) dX5_pains_40 (by decide) rfl ?_
      rcases v117 with _ | a118
      · exact sm_unN
      refine sm_unS ?_
      refine sm_iaload (pc' := 42) dX5_pains_41 rfl (fun v119 => ?_)
      rcases v114 with _ | a120
      · exact sm_unN
      refine sm_unS ?_
      refine sm_iaload (pc' := 43) dX5_pains_42 rfl (fun v121 => ?_)
      refine sm_isub (pc' := 44) dX5_pains_43 rfl ?_
      refine sm_sub [] rfl ?_
      exact hk105 (v113 - v121)
    · skip
      refine sm_iconst (pc' := 14) (0 : Int32) dX5_pains_13 (by decide) rfl ?_
      refine sm_goto (pc' := 44) dX5_pains_14 (by decide) ?_
      refine sm_sub [] rfl ?_
      exact hk105 (0 : Int32)
theorem kX5_pains (th : Nat) (a1 : Int32) : Callee 0 yX5_pains cX5_pains 3 (some .int) [qv (some th), iv a1] vI (pX5_pains th a1) := callee_ofS [(0, qv (some th)), (1, iv a1)] (by decide +kernel) (Nat.le_of_ble_eq_true rfl) rfl (sX5_pains th a1)
/-! HollowPress.load(II)I -/
set_option maxRecDepth 20000 in
theorem iv_X10_282 (a : Nat) (x0 : Int32) : Inv RX10 1 (.invokevirtual 282) [iv x0, qv (some a)] vI (onT a 6 (pX5_pains a x0)) := inv_V (As := [iv x0]) (t := 6) (kX5_pains a x0) _ (by decide) rfl rfl w_482 w_483 w_484 w_435 w_485 ⟨by decide +kernel, by decide +kernel, by show _ = some 1; decide +kernel⟩ (by decide)
abbrev eX10_load : Env0 := (RX10, "load", cX10_load, 3, (some .int), 1)
def pX10_load (th : Nat) (a1 : Int32) (a2 : Int32) : Prg Int32 :=
    gF 10 th 5 fun v101 =>
    un v101 fun a102 =>
    gI 6 a102 7 fun v103 =>
    cl (pX10_below a1 v103) fun v104 =>
    (if v104 = 0 then rt (-1000001 : Int32)
    else (if a2 = 0 then gF 10 th 5 fun v113 =>
    un v113 fun a114 =>
    gF 6 a114 5 fun v115 =>
    un v115 fun a116 =>
    ldI a116 a1 fun v117 =>
    rt v117
    else (if a2 = (1 : Int32) then gF 10 th 5 fun v108 =>
    un v108 fun a109 =>
    gF 6 a109 6 fun v110 =>
    un v110 fun a111 =>
    ldI a111 a1 fun v112 =>
    rt v112
    else (if a2 = (2 : Int32) then gF 10 th 5 fun v105 =>
    un v105 fun a106 =>
    cl (onT a106 6 (pX5_pains a106 a1)) fun v107 =>
    rt v107
    else rt (-1000001 : Int32)))))
set_option maxRecDepth 20000 in
theorem sX10_load (th : Nat) (a1 : Int32) (a2 : Int32) : Sim eX10_load vI 0 [(0, qv (some th)), (1, iv a1), (2, iv a2)] [] (pX10_load th a1 a2) := by
  unfold pX10_load
  refine sm_iload_n (pc' := 1) dX10_load_0 rfl rfl ?_
  refine sm_aload_n (pc' := 2) dX10_load_1 rfl rfl ?_
  refine sm_getF (pc' := 5) fk_X10_45 yr_10_5 dX10_load_2 rfl (fun v101 => ?_)
  rcases v101 with _ | a102
  · exact sm_unN
  refine sm_unS ?_
  refine sm_getI (pc' := 8) fk_X10_270 nr_6_7 dX10_load_5 rfl (fun v103 => ?_)
  refine sm_calli (pc' := 11) (sa := [iv v103, iv a1]) (st := []) (iv_X10_53 a1 v103) (Nat.le_of_ble_eq_true rfl) dX10_load_8 rfl (Nat.le_of_ble_eq_true rfl) (fun v104 => ?_)
  refine sm_if_ne (pc' := 14) (pc1 := 17) dX10_load_11 (by decide) rfl (fun _ => ?_) (fun _ => ?_)
  · skip
    refine sm_iload_n (pc' := 18) dX10_load_17 rfl rfl ?_
    refine sm_if_ne (pc' := 21) (pc1 := 31) dX10_load_18 (by decide) rfl (fun _ => ?_) (fun _ => ?_)
    · skip
      refine sm_iload_n (pc' := 32) dX10_load_31 rfl rfl ?_
      refine sm_iconst (pc' := 33) (1 : Int32) dX10_load_32 (by decide) rfl ?_
      refine sm_icmp_ne (pc' := 36) (pc1 := 46) dX10_load_33 (by decide) rfl (fun _ => ?_) (fun _ => ?_)
      · skip
        refine sm_iload_n (pc' := 47) dX10_load_46 rfl rfl ?_
        refine sm_iconst (pc' := 48) (2 : Int32) dX10_load_47 (by decide) rfl ?_
        refine sm_icmp_ne (pc' := 51) (pc1 := 60) dX10_load_48 (by decide) rfl (fun _ => ?_) (fun _ => ?_)
        · skip
          refine sm_ldc (pc' := 62) (-1000001 : Int32) w_189 dX10_load_60 rfl ?_
          exact sm_ireturn rfl dX10_load_62
        · skip
          refine sm_aload_n (pc' := 52) dX10_load_51 rfl rfl ?_
          refine sm_getF (pc' := 55) fk_X10_45 yr_10_5 dX10_load_52 rfl (fun v105 => ?_)
          refine sm_iload_n (pc' := 56) dX10_load_55 rfl rfl ?_
          rcases v105 with _ | a106
          · exact sm_unN
          refine sm_unS ?_
          refine sm_calli (pc' := 59) (sa := [iv a1, qv (some a106)]) (st := []) (iv_X10_282 a106 a1) (Nat.le_of_ble_eq_true rfl) dX10_load_56 rfl (Nat.le_of_ble_eq_true rfl) (fun v107 => ?_)
          exact sm_ireturn rfl dX10_load_59
      · skip
        refine sm_aload_n (pc' := 37) dX10_load_36 rfl rfl ?_
        refine sm_getF (pc' := 40) fk_X10_45 yr_10_5 dX10_load_37 rfl (fun v108 => ?_)
        rcases v108 with _ | a109
        · exact sm_unN
        refine sm_unS ?_
        refine sm_getF (pc' := 43) fk_X10_279 yr_6_6 dX10_load_40 rfl (fun v110 => ?_)
        refine sm_iload_n (pc' := 44) dX10_load_43 rfl rfl ?_
        rcases v110 with _ | a111
        · exact sm_unN
        refine sm_unS ?_
        refine sm_iaload (pc' := 45) dX10_load_44 rfl (fun v112 => ?_)
        exact sm_ireturn rfl dX10_load_45
    · skip
      refine sm_aload_n (pc' := 22) dX10_load_21 rfl rfl ?_
      refine sm_getF (pc' := 25) fk_X10_45 yr_10_5 dX10_load_22 rfl (fun v113 => ?_)
      rcases v113 with _ | a114
      · exact sm_unN
      refine sm_unS ?_
      refine sm_getF (pc' := 28) fk_X10_276 yr_6_5 dX10_load_25 rfl (fun v115 => ?_)
      refine sm_iload_n (pc' := 29) dX10_load_28 rfl rfl ?_
      rcases v115 with _ | a116
      · exact sm_unN
      refine sm_unS ?_
      refine sm_iaload (pc' := 30) dX10_load_29 rfl (fun v117 => ?_)
      exact sm_ireturn rfl dX10_load_30
  · skip
    refine sm_ldc (pc' := 16) (-1000001 : Int32) w_189 dX10_load_14 rfl ?_
    exact sm_ireturn rfl dX10_load_16
theorem kX10_load (th : Nat) (a1 : Int32) (a2 : Int32) : Callee 1 yX10_load cX10_load 3 (some .int) [qv (some th), iv a1, iv a2] vI (pX10_load th a1 a2) := callee_ofS [(0, qv (some th)), (1, iv a1), (2, iv a2)] (by decide +kernel) (Nat.le_of_ble_eq_true rfl) rfl (sX10_load th a1 a2)
/-! HollowPress.meeting(III)I -/
set_option maxRecDepth 20000 in
theorem iv_X10_190 (a : Nat) (x0 : Int32) (x1 : Int32) : Inv RX10 4 (.invokevirtual 190) [iv x1, iv x0, qv (some a)] vI (onT a 2 (pX1_cellOfMeeting a x0 x1)) := inv_V (As := [iv x0, iv x1]) (t := 2) (kX1_cellOfMeeting a x0 x1) _ (by decide) rfl rfl w_488 w_489 w_490 w_67 w_491 ⟨by decide +kernel, by decide +kernel, by show _ = some 2; decide +kernel⟩ (by decide)
abbrev eX10_meeting : Env0 := (RX10, "meeting", cX10_meeting, 6, (some .int), 5)
def pX10_meeting (th : Nat) (a1 : Int32) (a2 : Int32) (a3 : Int32) : Prg Int32 :=
    cl (pX10_below a1 (10 : Int32)) fun v101 =>
    (lt (rt (-1000001 : Int32) : Prg Int32) fun k102 =>
    (if v101 = 0 then k102
    else cl (pX10_below a3 (2 : Int32)) fun v103 =>
    (if v103 = 0 then k102
    else gF 10 th 1 fun v104 =>
    un v104 fun a105 =>
    ldF a105 a1 fun v106 =>
    iO 4 v106 fun v107 =>
    (if v107 = 0 then cl (onT th 10 (pX10_otherThing th a1)) fun v108 =>
    rt v108
    else un v106 fun a109 =>
    cO 4 a109 (
    gF 10 th 3 fun v110 =>
    un v110 fun a111 =>
    cl (onT a111 2 (pX1_fill a111 (some a109))) fun _ =>
    gF 10 th 3 fun v112 =>
    un v112 fun a113 =>
    cl (onT a113 2 (pX1_cellOfMeeting a113 a2 a3)) fun v114 =>
    cl (onT th 10 (pX10_fine th v114)) fun v115 =>
    rt v115)))))
set_option maxRecDepth 20000 in
theorem sX10_meeting (th : Nat) (a1 : Int32) (a2 : Int32) (a3 : Int32) : Sim eX10_meeting vI 0 [(0, qv (some th)), (1, iv a1), (2, iv a2), (3, iv a3)] [] (pX10_meeting th a1 a2 a3) := by
  unfold pX10_meeting
  refine sm_iload_n (pc' := 1) dX10_meeting_0 rfl rfl ?_
  refine sm_bipush (pc' := 3) (10 : Int32) dX10_meeting_1 (by decide) rfl ?_
  refine sm_calli (pc' := 6) (sa := [iv (10 : Int32), iv a1]) (st := []) (iv_X10_53 a1 (10 : Int32)) (Nat.le_of_ble_eq_true rfl) dX10_meeting_3 rfl (Nat.le_of_ble_eq_true rfl) (fun v101 => ?_)
  refine sm_lt (fun k102 => Sim eX10_meeting vI 17 [] [] (k102)) ?_ (fun k102 hk102 => ?_)
  · skip
    refine sm_ldc (pc' := 19) (-1000001 : Int32) w_189 dX10_meeting_17 rfl ?_
    exact sm_ireturn rfl dX10_meeting_19
  · skip
    refine sm_if_eq (pc' := 9) (pc1 := 17) dX10_meeting_6 (by decide) rfl (fun _ => ?_) (fun _ => ?_)
    · skip
      refine sm_sub [] rfl ?_
      exact hk102
    · skip
      refine sm_iload_n (pc' := 10) dX10_meeting_9 rfl rfl ?_
      refine sm_iconst (pc' := 11) (2 : Int32) dX10_meeting_10 (by decide) rfl ?_
      refine sm_calli (pc' := 14) (sa := [iv (2 : Int32), iv a3]) (st := []) (iv_X10_53 a3 (2 : Int32)) (Nat.le_of_ble_eq_true rfl) dX10_meeting_11 rfl (Nat.le_of_ble_eq_true rfl) (fun v103 => ?_)
      refine sm_if_ne (pc' := 17) (pc1 := 20) dX10_meeting_14 (by decide) rfl (fun _ => ?_) (fun _ => ?_)
      · skip
        refine sm_aload_n (pc' := 21) dX10_meeting_20 rfl rfl ?_
        refine sm_getF (pc' := 24) fk_X10_17 yr_10_1 dX10_meeting_21 rfl (fun v104 => ?_)
        refine sm_iload_n (pc' := 25) dX10_meeting_24 rfl rfl ?_
        rcases v104 with _ | a105
        · exact sm_unN
        refine sm_unS ?_
        refine sm_aaload (pc' := 26) dX10_meeting_25 rfl (fun v106 => ?_)
        refine sm_astore (pc' := 28) [(5, qv v106), (0, qv (some th)), (1, iv a1), (2, iv a2), (3, iv a3)] dX10_meeting_26  (Nat.le_of_ble_eq_true rfl) rfl rfl ?_
        refine sm_aload (pc' := 30) dX10_meeting_28 rfl rfl ?_
        refine sm_inst (pc' := 33) (Or.inl ⟨rfl, rfl⟩) w_283 dX10_meeting_30 rfl (fun v107 => ?_)
        refine sm_if_eq (pc' := 36) (pc1 := 46) dX10_meeting_33 (by decide) rfl (fun _ => ?_) (fun _ => ?_)
        · skip
          refine sm_aload_n (pc' := 47) dX10_meeting_46 rfl rfl ?_
          refine sm_iload_n (pc' := 48) dX10_meeting_47 rfl rfl ?_
          refine sm_calli (pc' := 51) (sa := [iv a1, qv (some th)]) (st := []) (iv_X10_145 th a1) (Nat.le_of_ble_eq_true rfl) dX10_meeting_48 rfl (Nat.le_of_ble_eq_true rfl) (fun v108 => ?_)
          exact sm_ireturn rfl dX10_meeting_51
        · skip
          refine sm_aload (pc' := 38) dX10_meeting_36 rfl rfl ?_
          rcases v106 with _ | a109
          · exact sm_unN
          refine sm_unS ?_
          refine sm_cast (pc' := 41) (Or.inl ⟨rfl, rfl⟩) w_283 dX10_meeting_38 rfl ?_
          refine sm_astore (pc' := 43) [(4, qv (some a109)), (5, qv (some a109)), (0, qv (some th)), (1, iv a1), (2, iv a2), (3, iv a3)] dX10_meeting_41  (Nat.le_of_ble_eq_true rfl) rfl rfl ?_
          refine sm_goto (pc' := 52) dX10_meeting_43 (by decide) ?_
          refine sm_aload_n (pc' := 53) dX10_meeting_52 rfl rfl ?_
          refine sm_getF (pc' := 56) fk_X10_31 yr_10_3 dX10_meeting_53 rfl (fun v110 => ?_)
          refine sm_aload (pc' := 58) dX10_meeting_56 rfl rfl ?_
          rcases v110 with _ | a111
          · exact sm_unN
          refine sm_unS ?_
          refine sm_callv (pc' := 61) (sa := [qv (some a109), qv (some a111)]) (st := []) (iv_X10_173 a111 (some a109)) (Nat.le_of_ble_eq_true rfl) dX10_meeting_58 rfl (Nat.le_of_ble_eq_true rfl) (fun _ => ?_)
          refine sm_aload_n (pc' := 62) dX10_meeting_61 rfl rfl ?_
          refine sm_aload_n (pc' := 63) dX10_meeting_62 rfl rfl ?_
          refine sm_getF (pc' := 66) fk_X10_31 yr_10_3 dX10_meeting_63 rfl (fun v112 => ?_)
          refine sm_iload_n (pc' := 67) dX10_meeting_66 rfl rfl ?_
          refine sm_iload_n (pc' := 68) dX10_meeting_67 rfl rfl ?_
          rcases v112 with _ | a113
          · exact sm_unN
          refine sm_unS ?_
          refine sm_calli (pc' := 71) (sa := [iv a3, iv a2, qv (some a113)]) (st := [qv (some th)]) (iv_X10_190 a113 a2 a3) (Nat.le_of_ble_eq_true rfl) dX10_meeting_68 rfl (Nat.le_of_ble_eq_true rfl) (fun v114 => ?_)
          refine sm_calli (pc' := 74) (sa := [iv v114, qv (some th)]) (st := []) (iv_X10_65 th v114) (Nat.le_of_ble_eq_true rfl) dX10_meeting_71 rfl (Nat.le_of_ble_eq_true rfl) (fun v115 => ?_)
          exact sm_ireturn rfl dX10_meeting_74
      · skip
        refine sm_sub [] rfl ?_
        exact hk102
theorem kX10_meeting (th : Nat) (a1 : Int32) (a2 : Int32) (a3 : Int32) : Callee 5 yX10_meeting cX10_meeting 6 (some .int) [qv (some th), iv a1, iv a2, iv a3] vI (pX10_meeting th a1 a2 a3) := callee_ofS [(0, qv (some th)), (1, iv a1), (2, iv a2), (3, iv a3)] (by decide +kernel) (Nat.le_of_ble_eq_true rfl) rfl (sX10_meeting th a1 a2 a3)
/-! HollowPress$Plate.<init>(II[I)V -/
set_option maxRecDepth 20000 in
theorem iv_X4_1 (a : Nat) (x0 : Int32) (x1 : Int32) (x2 : Option Nat) : Inv RX4 4 (.invokespecial 1) [qv x2, iv x1, iv x0, qv (some a)] vU (pX0_init a x0 x1 x2) := inv_I (As := [iv x0, iv x1, qv x2]) (kX0_init a x0 x1 x2) w_492 w_493 w_175 w_494 rfl ⟨by decide +kernel, by decide +kernel, by show _ = some 3; decide +kernel⟩ (by decide)
abbrev eX4_init : Env0 := (RX4, "<init>", cX4_init, 4, none, 4)
def pX4_init (th : Nat) (a1 : Int32) (a2 : Int32) (a3 : Option Nat) : Prg Unit :=
    cl (pX0_init th a1 a2 a3) fun _ =>
    rt ()
set_option maxRecDepth 20000 in
theorem sX4_init (th : Nat) (a1 : Int32) (a2 : Int32) (a3 : Option Nat) : Sim eX4_init vU 0 [(0, qv (some th)), (1, iv a1), (2, iv a2), (3, qv a3)] [] (pX4_init th a1 a2 a3) := by
  unfold pX4_init
  refine sm_aload_n (pc' := 1) dX4_init_0 rfl rfl ?_
  refine sm_iload_n (pc' := 2) dX4_init_1 rfl rfl ?_
  refine sm_iload_n (pc' := 3) dX4_init_2 rfl rfl ?_
  refine sm_aload_n (pc' := 4) dX4_init_3 rfl rfl ?_
  refine sm_callv (pc' := 7) (sa := [qv a3, iv a2, iv a1, qv (some th)]) (st := []) (iv_X4_1 th a1 a2 a3) (Nat.le_of_ble_eq_true rfl) dX4_init_4 rfl (Nat.le_of_ble_eq_true rfl) (fun _ => ?_)
  exact sm_return rfl dX4_init_7
theorem kX4_init (th : Nat) (a1 : Int32) (a2 : Int32) (a3 : Option Nat) : Callee 4 yX4_init cX4_init 4 none [qv (some th), iv a1, iv a2, qv a3] vU (pX4_init th a1 a2 a3) := callee_ofS [(0, qv (some th)), (1, iv a1), (2, iv a2), (3, qv a3)] (by decide +kernel) (Nat.le_of_ble_eq_true rfl) rfl (sX4_init th a1 a2 a3)
/-! HollowPress.newPart(II[I)LHollowPress$Part; -/
set_option maxRecDepth 20000 in
theorem iv_X10_295 (x0 : Option Nat) : Inv RX10 1 (.invokestatic 295) [qv x0] vI (pX10_allCellsAlike x0) := inv_S (As := [qv x0]) (kX10_allCellsAlike x0) w_495 w_496 w_62 w_497 ⟨by decide +kernel, by decide +kernel, by show _ = some 1; decide +kernel⟩ (by decide)
set_option maxRecDepth 20000 in
theorem iv_X10_304 (a : Nat) (x0 : Int32) (x1 : Int32) (x2 : Option Nat) : Inv RX10 4 (.invokespecial 304) [qv x2, iv x1, iv x0, qv (some a)] vU (pX0_init a x0 x1 x2) := inv_I (As := [iv x0, iv x1, qv x2]) (kX0_init a x0 x1 x2) w_500 w_493 w_175 w_494 rfl ⟨by decide +kernel, by decide +kernel, by show _ = some 3; decide +kernel⟩ (by decide)
set_option maxRecDepth 20000 in
theorem iv_X10_307 (a : Nat) (x0 : Int32) (x1 : Int32) (x2 : Option Nat) : Inv RX10 5 (.invokespecial 307) [qv x2, iv x1, iv x0, qv (some a)] vU (pX4_init a x0 x1 x2) := inv_I (As := [iv x0, iv x1, qv x2]) (kX4_init a x0 x1 x2) w_503 w_504 w_213 w_505 rfl ⟨by decide +kernel, by decide +kernel, by show _ = some 3; decide +kernel⟩ (by decide)
set_option maxRecDepth 20000 in
theorem iv_X10_299 (a : Nat) (x0 : Int32) (x1 : Int32) (x2 : Option Nat) : Inv RX10 3 (.invokespecial 299) [qv x2, iv x1, iv x0, qv (some a)] vU (pX3_init a x0 x1 x2) := inv_I (As := [iv x0, iv x1, qv x2]) (kX3_init a x0 x1 x2) w_507 w_24 w_25 w_26 rfl ⟨by decide +kernel, by decide +kernel, by show _ = some 3; decide +kernel⟩ (by decide)
abbrev eX10_newPart : Env0 := (RX10, "newPart", cX10_newPart, 7, (some (.object "HollowPress$Part")), 5)
def pX10_newPart_L27 (a1 : Int32) (a2 : Int32) (a102 : Nat) (v103 : Int32) (k105 : Prg (Option Nat)) : Nat → Int32 → Prg (Option Nat)
  | 0, _ => fl
  | n + 1, v104 =>
    (if v103 ≤ v104 then k105
    else ldI a102 v104 fun v106 =>
    (if v106 = 0 then nO 1 fun a107 =>
    cl (pX0_init a107 a1 a2 (some a102)) fun _ =>
    rt (some a107)
    else pX10_newPart_L27 a1 a2 a102 v103 k105 n (v104 + (1 : Int32))))
def pX10_newPart (a1 : Int32) (a2 : Int32) (a3 : Option Nat) : Prg (Option Nat) :=
    cl (pX10_allCellsAlike a3) fun v101 =>
    (if v101 = 0 then nO 4 fun a109 =>
    cl (pX3_init a109 a1 a2 a3) fun _ =>
    rt (some a109)
    else un a3 fun a102 =>
    ln a102 fun v103 =>
    pX10_newPart_L27 a1 a2 a102 v103 (nO 5 fun a108 =>
    cl (pX4_init a108 a1 a2 (some a102)) fun _ =>
    rt (some a108)) FL (0 : Int32))
set_option maxRecDepth 20000 in
theorem sX10_newPart_L27 (a1 : Int32) (a2 : Int32) (a102 : Nat) (v103 : Int32) (k105 : Prg (Option Nat)) (hk105 : Sim eX10_newPart vR 62 [(0, iv a1), (1, iv a2), (2, qv (some a102))] [] (k105)) : ∀ (n : Nat), ∀ (v104 : Int32), Sim eX10_newPart vR 27 [(0, iv a1), (1, iv a2), (2, qv (some a102)), (3, qv (some a102)), (4, iv v103), (5, iv v104)] [] (pX10_newPart_L27 a1 a2 a102 v103 k105 n v104) := by
  intro n
  induction n with
  | zero =>
    intros
    exact sm_fl
  | succ n ih =>
    intro v104
    unfold pX10_newPart_L27
    refine sm_iload (pc' := 29) dX10_newPart_27 rfl rfl ?_
    refine sm_iload (pc' := 31) dX10_newPart_29 rfl rfl ?_
    refine sm_icmp_ge (pc' := 34) (pc1 := 62) dX10_newPart_31 (by decide) rfl (fun _ => ?_) (fun _ => ?_)
    · skip
      refine sm_sub [0, 1, 2] rfl ?_
      exact hk105
    · skip
      refine sm_aload_n (pc' := 35) dX10_newPart_34 rfl rfl ?_
      refine sm_iload (pc' := 37) dX10_newPart_35 rfl rfl ?_
      refine sm_iaload (pc' := 38) dX10_newPart_37 rfl (fun v106 => ?_)
      refine sm_istore (pc' := 40) [(6, iv v106), (0, iv a1), (1, iv a2), (2, qv (some a102)), (3, qv (some a102)), (4, iv v103), (5, iv v104)] dX10_newPart_38  (Nat.le_of_ble_eq_true rfl) rfl rfl ?_
      refine sm_iload (pc' := 42) dX10_newPart_40 rfl rfl ?_
      refine sm_if_ne (pc' := 45) (pc1 := 56) dX10_newPart_42 (by decide) rfl (fun _ => ?_) (fun _ => ?_)
      · skip
        refine sm_iinc (pc' := 59) (v104 + (1 : Int32)) [(5, iv (v104 + (1 : Int32))), (6, iv v106), (0, iv a1), (1, iv a2), (2, qv (some a102)), (3, qv (some a102)), (4, iv v103)] dX10_newPart_56 rfl rfl (Nat.le_of_ble_eq_true rfl) rfl rfl ?_
        refine sm_goto (pc' := 27) dX10_newPart_59 (by decide) ?_
        refine sm_sub [2, 3, 4, 5, 6, 0] rfl ?_
        exact ih (v104 + (1 : Int32))
      · skip
        refine sm_new (pc' := 48) (t := 1) rfl w_498 w_499 w_175 dX10_newPart_45 rfl (fun a107 => ?_)
        refine sm_dup (pc' := 49) dX10_newPart_48 rfl rfl ?_
        refine sm_iload_n (pc' := 50) dX10_newPart_49 rfl rfl ?_
        refine sm_iload_n (pc' := 51) dX10_newPart_50 rfl rfl ?_
        refine sm_aload_n (pc' := 52) dX10_newPart_51 rfl rfl ?_
        refine sm_callv (pc' := 55) (sa := [qv (some a102), iv a2, iv a1, qv (some a107)]) (st := [qv (some a107)]) (iv_X10_304 a107 a1 a2 (some a102)) (Nat.le_of_ble_eq_true rfl) dX10_newPart_52 rfl (Nat.le_of_ble_eq_true rfl) (fun _ => ?_)
        exact sm_areturn rfl (by first | exact Or.inl ⟨_, rfl⟩ | exact Or.inr ⟨_, rfl⟩) dX10_newPart_55
set_option maxRecDepth 20000 in
theorem sX10_newPart (a1 : Int32) (a2 : Int32) (a3 : Option Nat) : Sim eX10_newPart vR 0 [(0, iv a1), (1, iv a2), (2, qv a3)] [] (pX10_newPart a1 a2 a3) := by
  unfold pX10_newPart
  refine sm_aload_n (pc' := 1) dX10_newPart_0 rfl rfl ?_
  refine sm_calli (pc' := 4) (sa := [qv a3]) (st := []) (iv_X10_295 a3) (Nat.le_of_ble_eq_true rfl) dX10_newPart_1 rfl (Nat.le_of_ble_eq_true rfl) (fun v101 => ?_)
  refine sm_if_ne (pc' := 7) (pc1 := 18) dX10_newPart_4 (by decide) rfl (fun _ => ?_) (fun _ => ?_)
  · skip
    refine sm_aload_n (pc' := 19) dX10_newPart_18 rfl rfl ?_
    refine sm_astore_n (pc' := 20) [(3, qv a3), (0, iv a1), (1, iv a2), (2, qv a3)] dX10_newPart_19 rfl (Nat.le_of_ble_eq_true rfl) rfl rfl ?_
    refine sm_aload_n (pc' := 21) dX10_newPart_20 rfl rfl ?_
    rcases a3 with _ | a102
    · exact sm_unN
    refine sm_unS ?_
    refine sm_alen (pc' := 22) dX10_newPart_21 rfl (fun v103 => ?_)
    refine sm_istore (pc' := 24) [(4, iv v103), (3, qv (some a102)), (0, iv a1), (1, iv a2), (2, qv (some a102))] dX10_newPart_22  (Nat.le_of_ble_eq_true rfl) rfl rfl ?_
    refine sm_iconst (pc' := 25) (0 : Int32) dX10_newPart_24 (by decide) rfl ?_
    refine sm_istore (pc' := 27) [(5, iv (0 : Int32)), (4, iv v103), (3, qv (some a102)), (0, iv a1), (1, iv a2), (2, qv (some a102))] dX10_newPart_25  (Nat.le_of_ble_eq_true rfl) rfl rfl ?_
    refine sm_sub [3, 4, 5, 2, 1, 0] rfl ?_
    refine sX10_newPart_L27 a1 a2 a102 v103 _ ?_ FL (0 : Int32)
    · skip
      refine sm_new (pc' := 65) (t := 5) rfl w_501 w_502 w_213 dX10_newPart_62 rfl (fun a108 => ?_)
      refine sm_dup (pc' := 66) dX10_newPart_65 rfl rfl ?_
      refine sm_iload_n (pc' := 67) dX10_newPart_66 rfl rfl ?_
      refine sm_iload_n (pc' := 68) dX10_newPart_67 rfl rfl ?_
      refine sm_aload_n (pc' := 69) dX10_newPart_68 rfl rfl ?_
      refine sm_callv (pc' := 72) (sa := [qv (some a102), iv a2, iv a1, qv (some a108)]) (st := [qv (some a108)]) (iv_X10_307 a108 a1 a2 (some a102)) (Nat.le_of_ble_eq_true rfl) dX10_newPart_69 rfl (Nat.le_of_ble_eq_true rfl) (fun _ => ?_)
      exact sm_areturn rfl (by first | exact Or.inl ⟨_, rfl⟩ | exact Or.inr ⟨_, rfl⟩) dX10_newPart_72
  · skip
    refine sm_new (pc' := 10) (t := 4) rfl w_283 w_506 w_25 dX10_newPart_7 rfl (fun a109 => ?_)
    refine sm_dup (pc' := 11) dX10_newPart_10 rfl rfl ?_
    refine sm_iload_n (pc' := 12) dX10_newPart_11 rfl rfl ?_
    refine sm_iload_n (pc' := 13) dX10_newPart_12 rfl rfl ?_
    refine sm_aload_n (pc' := 14) dX10_newPart_13 rfl rfl ?_
    refine sm_callv (pc' := 17) (sa := [qv a3, iv a2, iv a1, qv (some a109)]) (st := [qv (some a109)]) (iv_X10_299 a109 a1 a2 a3) (Nat.le_of_ble_eq_true rfl) dX10_newPart_14 rfl (Nat.le_of_ble_eq_true rfl) (fun _ => ?_)
    exact sm_areturn rfl (by first | exact Or.inl ⟨_, rfl⟩ | exact Or.inr ⟨_, rfl⟩) dX10_newPart_17
theorem kX10_newPart (a1 : Int32) (a2 : Int32) (a3 : Option Nat) : Callee 5 yX10_newPart cX10_newPart 7 (some (.object "HollowPress$Part")) [iv a1, iv a2, qv a3] vR (pX10_newPart a1 a2 a3) := callee_ofS [(0, iv a1), (1, iv a2), (2, qv a3)] (by decide +kernel) (Nat.le_of_ble_eq_true rfl) rfl (sX10_newPart a1 a2 a3)
