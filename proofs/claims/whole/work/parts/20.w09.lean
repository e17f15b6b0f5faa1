/-! HollowPress$Sheet.<init>(II)V -/
abbrev eX7_init : Env0 := (RX7, "<init>", cX7_init, 3, none, 1)
def pX7_init (th : Nat) (a1 : Int32) (a2 : Int32) : Prg Unit :=
    pI 8 th 0 a1 (
    nA 22 (mx a2 (0 : Int32)) fun a101 =>
    pF 8 th 1 (some a101) (
    rt ()))
set_option maxRecDepth 20000 in
theorem sX7_init (th : Nat) (a1 : Int32) (a2 : Int32) : Sim eX7_init vU 0 [(0, qv (some th)), (1, iv a1), (2, iv a2)] [] (pX7_init th a1 a2) := by
  unfold pX7_init
  refine sm_aload_n (pc' := 1) dX7_init_0 rfl rfl ?_
  refine sm_objInit (pc' := 4) w_549 w_5 w_6 dX7_init_1 (by decide) (Nat.le_of_ble_eq_true rfl) rfl ?_
  refine sm_aload_n (pc' := 5) dX7_init_4 rfl rfl ?_
  refine sm_iload_n (pc' := 6) dX7_init_5 rfl rfl ?_
  refine sm_putI (pc' := 9) (gk_X7_7i _ _ _ _) ti_8_0 dX7_init_6 rfl ?_
  refine sm_aload_n (pc' := 10) dX7_init_9 rfl rfl ?_
  refine sm_iload_n (pc' := 11) dX7_init_10 rfl rfl ?_
  refine sm_iconst (pc' := 12) (0 : Int32) dX7_init_11 (by decide) rfl ?_
  refine sm_mmax (pc' := 15) w_550 w_76 w_77 w_78 dX7_init_12 (by decide) (Nat.le_of_ble_eq_true rfl) rfl ?_
  refine sm_newarr (pc' := 17) (atype := .long) (Or.inr (Or.inr ⟨rfl, rfl⟩)) w_551 dX7_init_15 rfl (fun a101 => ?_)
  refine sm_putF (pc' := 20) (gk_X7_19i _ _ _ _) yr_8_1 dX7_init_17 rfl ?_
  exact sm_return rfl dX7_init_20
theorem kX7_init (th : Nat) (a1 : Int32) (a2 : Int32) : Callee 1 yX7_init cX7_init 3 none [qv (some th), iv a1, iv a2] vU (pX7_init th a1 a2) := callee_ofS [(0, qv (some th)), (1, iv a1), (2, iv a2)] (by decide +kernel) (Nat.le_of_ble_eq_true rfl) rfl (sX7_init th a1 a2)
/-! HollowPress.sheet(III)I -/
set_option maxRecDepth 20000 in
theorem iv_X10_62 (a : Nat) (x0 : Int32) (x1 : Int32) : Inv RX10 2 (.invokespecial 62) [iv x1, iv x0, qv (some a)] vU (pX7_init a x0 x1) := inv_I (As := [iv x0, iv x1]) (kX7_init a x0 x1) w_553 w_554 w_322 w_555 rfl ⟨by decide +kernel, by decide +kernel, by show _ = some 2; decide +kernel⟩ (by decide)
abbrev eX10_sheet : Env0 := (RX10, "sheet", cX10_sheet, 4, (some .int), 2)
def pX10_sheet (th : Nat) (a1 : Int32) (a2 : Int32) (a3 : Int32) : Prg Int32 :=
    cl (pX10_below a1 (8 : Int32)) fun v101 =>
    (lt (rt (-1000001 : Int32) : Prg Int32) fun k102 =>
    (if v101 = 0 then k102
    else cl (pX10_below a2 (3 : Int32)) fun v103 =>
    (if v103 = 0 then k102
    else (if a3 ≤ (144 : Int32) then (if 0 ≤ a3 then gF 10 th 0 fun v104 =>
    nO 8 fun a105 =>
    cl (pX7_init a105 a2 a3) fun _ =>
    un v104 fun a106 =>
    stF a106 a1 (some a105) (
    cl (onT th 10 (pX10_fine th a3)) fun v107 =>
    rt v107)
    else cl (onT th 10 (pX10_found th (4 : Int32))) fun v108 =>
    rt v108)
    else k102))))
set_option maxRecDepth 20000 in
theorem sX10_sheet (th : Nat) (a1 : Int32) (a2 : Int32) (a3 : Int32) : Sim eX10_sheet vI 0 [(0, qv (some th)), (1, iv a1), (2, iv a2), (3, iv a3)] [] (pX10_sheet th a1 a2 a3) := by
  unfold pX10_sheet
  refine sm_iload_n (pc' := 1) dX10_sheet_0 rfl rfl ?_
  refine sm_bipush (pc' := 3) (8 : Int32) dX10_sheet_1 (by decide) rfl ?_
  refine sm_calli (pc' := 6) (sa := [iv (8 : Int32), iv a1]) (st := []) (iv_X10_53 a1 (8 : Int32)) (Nat.le_of_ble_eq_true rfl) dX10_sheet_3 rfl (Nat.le_of_ble_eq_true rfl) (fun v101 => ?_)
  refine sm_lt (fun k102 => Sim eX10_sheet vI 24 [] [] (k102)) ?_ (fun k102 hk102 => ?_)
  · skip
    refine sm_ldc (pc' := 26) (-1000001 : Int32) w_189 dX10_sheet_24 rfl ?_
    exact sm_ireturn rfl dX10_sheet_26
  · skip
    refine sm_if_eq (pc' := 9) (pc1 := 24) dX10_sheet_6 (by decide) rfl (fun _ => ?_) (fun _ => ?_)
    · skip
      refine sm_sub [] rfl ?_
      exact hk102
    · skip
      refine sm_iload_n (pc' := 10) dX10_sheet_9 rfl rfl ?_
      refine sm_iconst (pc' := 11) (3 : Int32) dX10_sheet_10 (by decide) rfl ?_
      refine sm_calli (pc' := 14) (sa := [iv (3 : Int32), iv a2]) (st := []) (iv_X10_53 a2 (3 : Int32)) (Nat.le_of_ble_eq_true rfl) dX10_sheet_11 rfl (Nat.le_of_ble_eq_true rfl) (fun v103 => ?_)
      refine sm_if_eq (pc' := 17) (pc1 := 24) dX10_sheet_14 (by decide) rfl (fun _ => ?_) (fun _ => ?_)
      · skip
        refine sm_sub [] rfl ?_
        exact hk102
      · skip
        refine sm_iload_n (pc' := 18) dX10_sheet_17 rfl rfl ?_
        refine sm_sipush (pc' := 21) (144 : Int32) dX10_sheet_18 (by decide) rfl ?_
        refine sm_icmp_le (pc' := 24) (pc1 := 27) dX10_sheet_21 (by decide) rfl (fun _ => ?_) (fun _ => ?_)
        · skip
          refine sm_iload_n (pc' := 28) dX10_sheet_27 rfl rfl ?_
          refine sm_if_ge (pc' := 31) (pc1 := 37) dX10_sheet_28 (by decide) rfl (fun _ => ?_) (fun _ => ?_)
          · skip
            refine sm_aload_n (pc' := 38) dX10_sheet_37 rfl rfl ?_
            refine sm_getF (pc' := 41) fk_X10_11 yr_10_0 dX10_sheet_38 rfl (fun v104 => ?_)
            refine sm_iload_n (pc' := 42) dX10_sheet_41 rfl rfl ?_
            refine sm_new (pc' := 45) (t := 8) rfl w_414 w_552 w_322 dX10_sheet_42 rfl (fun a105 => ?_)
            refine sm_dup (pc' := 46) dX10_sheet_45 rfl rfl ?_
            refine sm_iload_n (pc' := 47) dX10_sheet_46 rfl rfl ?_
            refine sm_iload_n (pc' := 48) dX10_sheet_47 rfl rfl ?_
            refine sm_callv (pc' := 51) (sa := [iv a3, iv a2, qv (some a105)]) (st := [qv (some a105), iv a1, qv v104]) (iv_X10_62 a105 a2 a3) (Nat.le_of_ble_eq_true rfl) dX10_sheet_48 rfl (Nat.le_of_ble_eq_true rfl) (fun _ => ?_)
            rcases v104 with _ | a106
            · exact sm_unN
            refine sm_unS ?_
            refine sm_aastore (pc' := 52) dX10_sheet_51 rfl ?_
            refine sm_aload_n (pc' := 53) dX10_sheet_52 rfl rfl ?_
            refine sm_iload_n (pc' := 54) dX10_sheet_53 rfl rfl ?_
            refine sm_calli (pc' := 57) (sa := [iv a3, qv (some th)]) (st := []) (iv_X10_65 th a3) (Nat.le_of_ble_eq_true rfl) dX10_sheet_54 rfl (Nat.le_of_ble_eq_true rfl) (fun v107 => ?_)
            exact sm_ireturn rfl dX10_sheet_57
          · skip
            refine sm_aload_n (pc' := 32) dX10_sheet_31 rfl rfl ?_
            refine sm_iconst (pc' := 33) (4 : Int32) dX10_sheet_32 (by decide) rfl ?_
            refine sm_calli (pc' := 36) (sa := [iv (4 : Int32), qv (some th)]) (st := []) (iv_X10_58 th (4 : Int32)) (Nat.le_of_ble_eq_true rfl) dX10_sheet_33 rfl (Nat.le_of_ble_eq_true rfl) (fun v108 => ?_)
            exact sm_ireturn rfl dX10_sheet_36
        · skip
          refine sm_sub [] rfl ?_
          exact hk102
theorem kX10_sheet (th : Nat) (a1 : Int32) (a2 : Int32) (a3 : Int32) : Callee 2 yX10_sheet cX10_sheet 4 (some .int) [qv (some th), iv a1, iv a2, iv a3] vI (pX10_sheet th a1 a2 a3) := callee_ofS [(0, qv (some th)), (1, iv a1), (2, iv a2), (3, iv a3)] (by decide +kernel) (Nat.le_of_ble_eq_true rfl) rfl (sX10_sheet th a1 a2 a3)
/-! HollowPress.size(I)I -/
abbrev eX10_size : Env0 := (RX10, "size", cX10_size, 2, (some .int), 1)
def pX10_size (th : Nat) (a1 : Int32) : Prg Int32 :=
    gF 10 th 4 fun v101 =>
    un v101 fun a102 =>
    gI 7 a102 4 fun v103 =>
    cl (pX10_below a1 v103) fun v104 =>
    (if v104 = 0 then rt (-1000001 : Int32)
    else gF 10 th 4 fun v105 =>
    un v105 fun a106 =>
    gF 7 a106 2 fun v107 =>
    un v107 fun a108 =>
    ldI a108 a1 fun v109 =>
    rt v109)
set_option maxRecDepth 20000 in
theorem sX10_size (th : Nat) (a1 : Int32) : Sim eX10_size vI 0 [(0, qv (some th)), (1, iv a1)] [] (pX10_size th a1) := by
  unfold pX10_size
  refine sm_iload_n (pc' := 1) dX10_size_0 rfl rfl ?_
  refine sm_aload_n (pc' := 2) dX10_size_1 rfl rfl ?_
  refine sm_getF (pc' := 5) fk_X10_38 yr_10_4 dX10_size_2 rfl (fun v101 => ?_)
  rcases v101 with _ | a102
  · exact sm_unN
  refine sm_unS ?_
  refine sm_getI (pc' := 8) fk_X10_211 nr_7_4 dX10_size_5 rfl (fun v103 => ?_)
  refine sm_calli (pc' := 11) (sa := [iv v103, iv a1]) (st := []) (iv_X10_53 a1 v103) (Nat.le_of_ble_eq_true rfl) dX10_size_8 rfl (Nat.le_of_ble_eq_true rfl) (fun v104 => ?_)
  refine sm_if_ne (pc' := 14) (pc1 := 17) dX10_size_11 (by decide) rfl (fun _ => ?_) (fun _ => ?_)
  · skip
    refine sm_aload_n (pc' := 18) dX10_size_17 rfl rfl ?_
    refine sm_getF (pc' := 21) fk_X10_38 yr_10_4 dX10_size_18 rfl (fun v105 => ?_)
    rcases v105 with _ | a106
    · exact sm_unN
    refine sm_unS ?_
    refine sm_getF (pc' := 24) fk_X10_248 yr_7_2 dX10_size_21 rfl (fun v107 => ?_)
    refine sm_iload_n (pc' := 25) dX10_size_24 rfl rfl ?_
    rcases v107 with _ | a108
    · exact sm_unN
    refine sm_unS ?_
    refine sm_iaload (pc' := 26) dX10_size_25 rfl (fun v109 => ?_)
    exact sm_ireturn rfl dX10_size_26
  · skip
    refine sm_ldc (pc' := 16) (-1000001 : Int32) w_189 dX10_size_14 rfl ?_
    exact sm_ireturn rfl dX10_size_16
theorem kX10_size (th : Nat) (a1 : Int32) : Callee 1 yX10_size cX10_size 2 (some .int) [qv (some th), iv a1] vI (pX10_size th a1) := callee_ofS [(0, qv (some th)), (1, iv a1)] (by decide +kernel) (Nat.le_of_ble_eq_true rfl) rfl (sX10_size th a1)
/-! HollowPress.status()I -/
abbrev eX10_status : Env0 := (RX10, "status", cX10_status, 1, (some .int), 0)
def pX10_status (th : Nat) : Prg Int32 :=
    gI 10 th 6 fun v101 =>
    rt v101
set_option maxRecDepth 20000 in
theorem sX10_status (th : Nat) : Sim eX10_status vI 0 [(0, qv (some th))] [] (pX10_status th) := by
  unfold pX10_status
  refine sm_aload_n (pc' := 1) dX10_status_0 rfl rfl ?_
  refine sm_getI (pc' := 4) fk_X10_49 nr_10_6 dX10_status_1 rfl (fun v101 => ?_)
  exact sm_ireturn rfl dX10_status_4
theorem kX10_status (th : Nat) : Callee 0 yX10_status cX10_status 1 (some .int) [qv (some th)] vI (pX10_status th) := callee_ofS [(0, qv (some th))] (by decide +kernel) (Nat.le_of_ble_eq_true rfl) rfl (sX10_status th)
/-! HollowPress$Runners.fell()I -/
abbrev eX6_fell : Env0 := (RX6, "fell", cX6_fell, 3, (some .int), 0)
def pX6_fell_L12 (th : Nat) (v101 : Int32) (k103 : Prg Int32) : Nat → Int32 → Prg Int32
  | 0, _ => fl
  | n + 1, v102 =>
    (if (8 : Int32) ≤ v102 then k103
    else gF 7 th 3 fun v104 =>
    un v104 fun a105 =>
    stF a105 v102 none (
    pX6_fell_L12 th v101 k103 n (v102 + (1 : Int32))))
def pX6_fell (th : Nat) : Prg Int32 :=
    gI 7 th 4 fun v101 =>
    pI 7 th 4 (0 : Int32) (
    pX6_fell_L12 th v101 (rt v101) FL (0 : Int32))
set_option maxRecDepth 20000 in
theorem sX6_fell_L12 (th : Nat) (v101 : Int32) (k103 : Prg Int32) (hk103 : Sim eX6_fell vI 31 [(1, iv v101)] [] (k103)) : ∀ (n : Nat), ∀ (v102 : Int32), Sim eX6_fell vI 12 [(0, qv (some th)), (1, iv v101), (2, iv v102)] [] (pX6_fell_L12 th v101 k103 n v102) := by
  intro n
  induction n with
  | zero =>
    intros
    exact sm_fl
  | succ n ih =>
    intro v102
    unfold pX6_fell_L12
    refine sm_iload_n (pc' := 13) dX6_fell_12 rfl rfl ?_
    refine sm_bipush (pc' := 15) (8 : Int32) dX6_fell_13 (by decide) rfl ?_
    refine sm_icmp_ge (pc' := 18) (pc1 := 31) dX6_fell_15 (by decide) rfl (fun _ => ?_) (fun _ => ?_)
    · skip
      refine sm_sub [1] rfl ?_
      exact hk103
    · skip
      refine sm_aload_n (pc' := 19) dX6_fell_18 rfl rfl ?_
      refine sm_getF (pc' := 22) fk_X6_23 yr_7_3 dX6_fell_19 rfl (fun v104 => ?_)
      refine sm_iload_n (pc' := 23) dX6_fell_22 rfl rfl ?_
      refine sm_null (pc' := 24) dX6_fell_23 rfl ?_
      rcases v104 with _ | a105
      · exact sm_unN
      refine sm_unS ?_
      refine sm_aastore (pc' := 25) dX6_fell_24 rfl ?_
      refine sm_iinc (pc' := 28) (v102 + (1 : Int32)) [(2, iv (v102 + (1 : Int32))), (0, qv (some th)), (1, iv v101)] dX6_fell_25 rfl rfl (Nat.le_of_ble_eq_true rfl) rfl rfl ?_
      refine sm_goto (pc' := 12) dX6_fell_28 (by decide) ?_
      refine sm_sub [1, 2, 0] rfl ?_
      exact ih (v102 + (1 : Int32))
set_option maxRecDepth 20000 in
theorem sX6_fell (th : Nat) : Sim eX6_fell vI 0 [(0, qv (some th))] [] (pX6_fell th) := by
  unfold pX6_fell
  refine sm_aload_n (pc' := 1) dX6_fell_0 rfl rfl ?_
  refine sm_getI (pc' := 4) fk_X6_27 nr_7_4 dX6_fell_1 rfl (fun v101 => ?_)
  refine sm_istore_n (pc' := 5) [(1, iv v101), (0, qv (some th))] dX6_fell_4 rfl (Nat.le_of_ble_eq_true rfl) rfl rfl ?_
  refine sm_aload_n (pc' := 6) dX6_fell_5 rfl rfl ?_
  refine sm_iconst (pc' := 7) (0 : Int32) dX6_fell_6 (by decide) rfl ?_
  refine sm_putI (pc' := 10) (gk_X6_27 _ _ _ _ _) ti_7_4 dX6_fell_7 rfl ?_
  refine sm_iconst (pc' := 11) (0 : Int32) dX6_fell_10 (by decide) rfl ?_
  refine sm_istore_n (pc' := 12) [(2, iv (0 : Int32)), (1, iv v101), (0, qv (some th))] dX6_fell_11 rfl (Nat.le_of_ble_eq_true rfl) rfl rfl ?_
  refine sm_sub [2, 1, 0] rfl ?_
  refine sX6_fell_L12 th v101 _ ?_ FL (0 : Int32)
  · skip
    refine sm_iload_n (pc' := 32) dX6_fell_31 rfl rfl ?_
    exact sm_ireturn rfl dX6_fell_32
theorem kX6_fell (th : Nat) : Callee 0 yX6_fell cX6_fell 3 (some .int) [qv (some th)] vI (pX6_fell th) := callee_ofS [(0, qv (some th))] (by decide +kernel) (Nat.le_of_ble_eq_true rfl) rfl (sX6_fell th)
/-! HollowPress.strip()I -/
set_option maxRecDepth 20000 in
theorem iv_X10_224 (a : Nat)  : Inv RX10 1 (.invokevirtual 224) [qv (some a)] vI (onT a 7 (pX6_fell a )) := inv_V (As := []) (t := 7) (kX6_fell a ) _ (by decide) rfl rfl w_557 w_558 w_559 w_225 w_560 ⟨by decide +kernel, by decide +kernel, by show _ = some 0; decide +kernel⟩ (by decide)
abbrev eX10_strip : Env0 := (RX10, "strip", cX10_strip, 1, (some .int), 1)
def pX10_strip (th : Nat) : Prg Int32 :=
    gF 10 th 4 fun v101 =>
    un v101 fun a102 =>
    cl (onT a102 7 (pX6_fell a102)) fun v103 =>
    rt v103
set_option maxRecDepth 20000 in
theorem sX10_strip (th : Nat) : Sim eX10_strip vI 0 [(0, qv (some th))] [] (pX10_strip th) := by
  unfold pX10_strip
  refine sm_aload_n (pc' := 1) dX10_strip_0 rfl rfl ?_
  refine sm_getF (pc' := 4) fk_X10_38 yr_10_4 dX10_strip_1 rfl (fun v101 => ?_)
  rcases v101 with _ | a102
  · exact sm_unN
  refine sm_unS ?_
  refine sm_calli (pc' := 7) (sa := [qv (some a102)]) (st := []) (iv_X10_224 a102) (Nat.le_of_ble_eq_true rfl) dX10_strip_4 rfl (Nat.le_of_ble_eq_true rfl) (fun v103 => ?_)
  exact sm_ireturn rfl dX10_strip_7
theorem kX10_strip (th : Nat) : Callee 1 yX10_strip cX10_strip 1 (some .int) [qv (some th)] vI (pX10_strip th) := callee_ofS [(0, qv (some th))] (by decide +kernel) (Nat.le_of_ble_eq_true rfl) rfl (sX10_strip th)
/-! HollowPress$Trace.number(I)I -/
set_option maxRecDepth 20000 in
theorem iv_X9_19 (x0 : Int32) (x1 : Int32) : Inv RX9 1 (.invokestatic 19) [iv x1, iv x0] vI (pX10_below x0 x1) := inv_SN (host := "HollowPress") (As := [iv x0, iv x1]) (kX10_below x0 x1) w_561 w_61 w_62 w_63 ⟨by decide +kernel, by decide +kernel, by show _ = some 2; decide +kernel⟩ (by decide)
abbrev eX9_number : Env0 := (RX9, "number", cX9_number, 2, (some .int), 1)
def pX9_number (th : Nat) (a1 : Int32) : Prg Int32 :=
    gI 9 th 1 fun v101 =>
    cl (pX10_below a1 v101) fun v102 =>
    (lt (fun (v103 : Int32) => rt v103 : Int32 → Prg Int32) fun k104 =>
    (if v102 = 0 then k104 (-1000000 : Int32)
    else gF 9 th 0 fun v105 =>
    un v105 fun a106 =>
    ldI a106 a1 fun v107 =>
    k104 v107))
set_option maxRecDepth 20000 in
theorem sX9_number (th : Nat) (a1 : Int32) : Sim eX9_number vI 0 [(0, qv (some th)), (1, iv a1)] [] (pX9_number th a1) := by
  unfold pX9_number
  refine sm_iload_n (pc' := 1) dX9_number_0 rfl rfl ?_
  refine sm_aload_n (pc' := 2) dX9_number_1 rfl rfl ?_
  refine sm_getI (pc' := 5) fk_X9_15 nr_9_1 dX9_number_2 rfl (fun v101 => ?_)
  refine sm_calli (pc' := 8) (sa := [iv v101, iv a1]) (st := []) (iv_X9_19 a1 v101) (Nat.le_of_ble_eq_true rfl) dX9_number_5 rfl (Nat.le_of_ble_eq_true rfl) (fun v102 => ?_)
  refine sm_lt (fun k104 => ∀ (v103 : Int32), Sim eX9_number vI 22 [] [iv v103] (k104 v103)) ?_ (fun k104 hk104 => ?_)
  · intro v103
    exact sm_ireturn rfl dX9_number_22
  · skip
    refine sm_if_eq (pc' := 11) (pc1 := 20) dX9_number_8 (by decide) rfl (fun _ => ?_) (fun _ => ?_)
    · skip
      refine sm_ldc (pc' := 22) (-1000000 : Int32) w_562 dX9_number_20 rfl ?_
      refine sm_sub [] rfl ?_
      exact hk104 (-1000000 : Int32)
    · skip
      refine sm_aload_n (pc' := 12) dX9_number_11 rfl rfl ?_
      refine sm_getF (pc' := 15) fk_X9_9 yr_9_0 dX9_number_12 rfl (fun v105 => ?_)
      refine sm_iload_n (pc' := 16) dX9_number_15 rfl rfl ?_
      rcases v105 with _ | a106
      · exact sm_unN
      refine sm_unS ?_
      refine sm_iaload (pc' := 17) dX9_number_16 rfl (fun v107 => ?_)
      refine sm_goto (pc' := 22) dX9_number_17 (by decide) ?_
      refine sm_sub [] rfl ?_
      exact hk104 v107
theorem kX9_number (th : Nat) (a1 : Int32) : Callee 1 yX9_number cX9_number 2 (some .int) [qv (some th), iv a1] vI (pX9_number th a1) := callee_ofS [(0, qv (some th)), (1, iv a1)] (by decide +kernel) (Nat.le_of_ble_eq_true rfl) rfl (sX9_number th a1)
/-! HollowPress.trace(I)I -/
set_option maxRecDepth 20000 in
theorem iv_X10_140 (a : Nat) (x0 : Int32) : Inv RX10 2 (.invokevirtual 140) [iv x0, qv (some a)] vI (onT a 9 (pX9_number a x0)) := inv_V (As := [iv x0]) (t := 9) (kX9_number a x0) _ (by decide) rfl rfl w_563 w_564 w_565 w_42 w_566 ⟨by decide +kernel, by decide +kernel, by show _ = some 1; decide +kernel⟩ (by decide)
abbrev eX10_trace : Env0 := (RX10, "trace", cX10_trace, 2, (some .int), 2)
def pX10_trace (th : Nat) (a1 : Int32) : Prg Int32 :=
    gF 10 th 2 fun v101 =>
    un v101 fun a102 =>
    cl (onT a102 9 (pX9_number a102 a1)) fun v103 =>
    rt v103
set_option maxRecDepth 20000 in
theorem sX10_trace (th : Nat) (a1 : Int32) : Sim eX10_trace vI 0 [(0, qv (some th)), (1, iv a1)] [] (pX10_trace th a1) := by
  unfold pX10_trace
  refine sm_aload_n (pc' := 1) dX10_trace_0 rfl rfl ?_
  refine sm_getF (pc' := 4) fk_X10_24 yr_10_2 dX10_trace_1 rfl (fun v101 => ?_)
  refine sm_iload_n (pc' := 5) dX10_trace_4 rfl rfl ?_
  rcases v101 with _ | a102
  · exact sm_unN
  refine sm_unS ?_
  refine sm_calli (pc' := 8) (sa := [iv a1, qv (some a102)]) (st := []) (iv_X10_140 a102 a1) (Nat.le_of_ble_eq_true rfl) dX10_trace_5 rfl (Nat.le_of_ble_eq_true rfl) (fun v103 => ?_)
  exact sm_ireturn rfl dX10_trace_8
theorem kX10_trace (th : Nat) (a1 : Int32) : Callee 2 yX10_trace cX10_trace 2 (some .int) [qv (some th), iv a1] vI (pX10_trace th a1) := callee_ofS [(0, qv (some th)), (1, iv a1)] (by decide +kernel) (Nat.le_of_ble_eq_true rfl) rfl (sX10_trace th a1)
/-! HollowPress.trap(II)I -/
set_option maxRecDepth 20000 in
theorem iv_X10_194 (a : Nat) (x0 : Int32) (x1 : Option Nat) : Inv RX10 4 (.invokevirtual 194) [qv x1, iv x0, qv (some a)] vI (onT a 2 (pX1_cellOfTrap a x0 x1)) := inv_V (As := [iv x0, qv x1]) (t := 2) (kX1_cellOfTrap a x0 x1) _ (by decide) rfl rfl w_567 w_568 w_569 w_67 w_570 ⟨by decide +kernel, by decide +kernel, by show _ = some 2; decide +kernel⟩ (by decide)
abbrev eX10_trap : Env0 := (RX10, "trap", cX10_trap, 5, (some .int), 5)
def pX10_trap (th : Nat) (a1 : Int32) (a2 : Int32) : Prg Int32 :=
    cl (pX10_below a1 (10 : Int32)) fun v101 =>
    (if v101 = 0 then rt (-1000001 : Int32)
    else gF 10 th 1 fun v102 =>
    un v102 fun a103 =>
    ldF a103 a1 fun v104 =>
    iO 4 v104 fun v105 =>
    (if v105 = 0 then cl (onT th 10 (pX10_otherThing th a1)) fun v106 =>
    rt v106
    else un v104 fun a107 =>
    cO 4 a107 (
    gF 10 th 3 fun v108 =>
    un v108 fun a109 =>
    cl (onT a109 2 (pX1_fill a109 (some a107))) fun _ =>
    gF 10 th 3 fun v110 =>
    un v110 fun a111 =>
    cl (onT a111 2 (pX1_cellOfTrap a111 a2 (some a107))) fun v112 =>
    cl (onT th 10 (pX10_fine th v112)) fun v113 =>
    rt v113)))
set_option maxRecDepth 20000 in
theorem sX10_trap (th : Nat) (a1 : Int32) (a2 : Int32) : Sim eX10_trap vI 0 [(0, qv (some th)), (1, iv a1), (2, iv a2)] [] (pX10_trap th a1 a2) := by
  unfold pX10_trap
  refine sm_iload_n (pc' := 1) dX10_trap_0 rfl rfl ?_
  refine sm_bipush (pc' := 3) (10 : Int32) dX10_trap_1 (by decide) rfl ?_
  refine sm_calli (pc' := 6) (sa := [iv (10 : Int32), iv a1]) (st := []) (iv_X10_53 a1 (10 : Int32)) (Nat.le_of_ble_eq_true rfl) dX10_trap_3 rfl (Nat.le_of_ble_eq_true rfl) (fun v101 => ?_)
  refine sm_if_ne (pc' := 9) (pc1 := 12) dX10_trap_6 (by decide) rfl (fun _ => ?_) (fun _ => ?_)
  · skip
    refine sm_aload_n (pc' := 13) dX10_trap_12 rfl rfl ?_
    refine sm_getF (pc' := 16) fk_X10_17 yr_10_1 dX10_trap_13 rfl (fun v102 => ?_)
    refine sm_iload_n (pc' := 17) dX10_trap_16 rfl rfl ?_
    rcases v102 with _ | a103
    · exact sm_unN
    refine sm_unS ?_
    refine sm_aaload (pc' := 18) dX10_trap_17 rfl (fun v104 => ?_)
    refine sm_astore (pc' := 20) [(4, qv v104), (0, qv (some th)), (1, iv a1), (2, iv a2)] dX10_trap_18  (Nat.le_of_ble_eq_true rfl) rfl rfl ?_
    refine sm_aload (pc' := 22) dX10_trap_20 rfl rfl ?_
    refine sm_inst (pc' := 25) (Or.inl ⟨rfl, rfl⟩) w_283 dX10_trap_22 rfl (fun v105 => ?_)
    refine sm_if_eq (pc' := 28) (pc1 := 37) dX10_trap_25 (by decide) rfl (fun _ => ?_) (fun _ => ?_)
    · skip
      refine sm_aload_n (pc' := 38) dX10_trap_37 rfl rfl ?_
      refine sm_iload_n (pc' := 39) dX10_trap_38 rfl rfl ?_
      refine sm_calli (pc' := 42) (sa := [iv a1, qv (some th)]) (st := []) (iv_X10_145 th a1) (Nat.le_of_ble_eq_true rfl) dX10_trap_39 rfl (Nat.le_of_ble_eq_true rfl) (fun v106 => ?_)
      exact sm_ireturn rfl dX10_trap_42
    · skip
      refine sm_aload (pc' := 30) dX10_trap_28 rfl rfl ?_
      rcases v104 with _ | a107
      · exact sm_unN
      refine sm_unS ?_
      refine sm_cast (pc' := 33) (Or.inl ⟨rfl, rfl⟩) w_283 dX10_trap_30 rfl ?_
      refine sm_astore_n (pc' := 34) [(3, qv (some a107)), (4, qv (some a107)), (0, qv (some th)), (1, iv a1), (2, iv a2)] dX10_trap_33 rfl (Nat.le_of_ble_eq_true rfl) rfl rfl ?_
      refine sm_goto (pc' := 43) dX10_trap_34 (by decide) ?_
      refine sm_aload_n (pc' := 44) dX10_trap_43 rfl rfl ?_
      refine sm_getF (pc' := 47) fk_X10_31 yr_10_3 dX10_trap_44 rfl (fun v108 => ?_)
      refine sm_aload_n (pc' := 48) dX10_trap_47 rfl rfl ?_
      rcases v108 with _ | a109
      · exact sm_unN
      refine sm_unS ?_
      refine sm_callv (pc' := 51) (sa := [qv (some a107), qv (some a109)]) (st := []) (iv_X10_173 a109 (some a107)) (Nat.le_of_ble_eq_true rfl) dX10_trap_48 rfl (Nat.le_of_ble_eq_true rfl) (fun _ => ?_)
      refine sm_aload_n (pc' := 52) dX10_trap_51 rfl rfl ?_
      refine sm_aload_n (pc' := 53) dX10_trap_52 rfl rfl ?_
      refine sm_getF (pc' := 56) fk_X10_31 yr_10_3 dX10_trap_53 rfl (fun v110 => ?_)
      refine sm_iload_n (pc' := 57) dX10_trap_56 rfl rfl ?_
      refine sm_aload_n (pc' := 58) dX10_trap_57 rfl rfl ?_
      rcases v110 with _ | a111
      · exact sm_unN
      refine sm_unS ?_
      refine sm_calli (pc' := 61) (sa := [qv (some a107), iv a2, qv (some a111)]) (st := [qv (some th)]) (iv_X10_194 a111 a2 (some a107)) (Nat.le_of_ble_eq_true rfl) dX10_trap_58 rfl (Nat.le_of_ble_eq_true rfl) (fun v112 => ?_)
      refine sm_calli (pc' := 64) (sa := [iv v112, qv (some th)]) (st := []) (iv_X10_65 th v112) (Nat.le_of_ble_eq_true rfl) dX10_trap_61 rfl (Nat.le_of_ble_eq_true rfl) (fun v113 => ?_)
      exact sm_ireturn rfl dX10_trap_64
  · skip
    refine sm_ldc (pc' := 11) (-1000001 : Int32) w_189 dX10_trap_9 rfl ?_
    exact sm_ireturn rfl dX10_trap_11
theorem kX10_trap (th : Nat) (a1 : Int32) (a2 : Int32) : Callee 5 yX10_trap cX10_trap 5 (some .int) [qv (some th), iv a1, iv a2] vI (pX10_trap th a1 a2) := callee_ofS [(0, qv (some th)), (1, iv a1), (2, iv a2)] (by decide +kernel) (Nat.le_of_ble_eq_true rfl) rfl (sX10_trap th a1 a2)
/-! HollowPress$Part.turnVent(I)Z -/
abbrev eX3_turnVent : Env0 := (RX3, "turnVent", cX3_turnVent, 2, (some .boolean), 1)
def pX3_turnVent (th : Nat) (a1 : Int32) : Prg Int32 :=
    gF 4 th 3 fun v101 =>
    un v101 fun a102 =>
    ln a102 fun v103 =>
    cl (pX10_below a1 v103) fun v104 =>
    (if v104 = 0 then rtZ (0 : Int32)
    else gF 4 th 3 fun v105 =>
    gF 4 th 3 fun v106 =>
    un v106 fun a107 =>
    ldZ a107 a1 fun v108 =>
    (lt (fun (v109 : Int32) => un v105 fun a111 =>
    stZ a111 a1 v109 (
    gF 4 th 3 fun v112 =>
    un v112 fun a113 =>
    ldZ a113 a1 fun v114 =>
    rtZ v114) : Int32 → Prg Int32) fun k110 =>
    (if v108 = 0 then k110 (1 : Int32)
    else k110 (0 : Int32))))
set_option maxRecDepth 20000 in
theorem sX3_turnVent (th : Nat) (a1 : Int32) : Sim eX3_turnVent vI 0 [(0, qv (some th)), (1, iv a1)] [] (pX3_turnVent th a1) := by
  unfold pX3_turnVent
  refine sm_iload_n (pc' := 1) dX3_turnVent_0 rfl rfl ?_
  refine sm_aload_n (pc' := 2) dX3_turnVent_1 rfl rfl ?_
  refine sm_getF (pc' := 5) fk_X3_39 yr_4_3 dX3_turnVent_2 rfl (fun v101 => ?_)
  rcases v101 with _ | a102
  · exact sm_unN
  refine sm_unS ?_
  refine sm_alen (pc' := 6) dX3_turnVent_5 rfl (fun v103 => ?_)
  refine sm_calli (pc' := 9) (sa := [iv v103, iv a1]) (st := []) (iv_X3_57 a1 v103) (Nat.le_of_ble_eq_true rfl) dX3_turnVent_6 rfl (Nat.le_of_ble_eq_true rfl) (fun v104 => ?_)
  refine sm_if_ne (pc' := 12) (pc1 := 14) dX3_turnVent_9 (by decide) rfl (fun _ => ?_) (fun _ => ?_)
  · skip
    refine sm_aload_n (pc' := 15) dX3_turnVent_14 rfl rfl ?_
    refine sm_getF (pc' := 18) fk_X3_39 yr_4_3 dX3_turnVent_15 rfl (fun v105 => ?_)
    refine sm_iload_n (pc' := 19) dX3_turnVent_18 rfl rfl ?_
    refine sm_aload_n (pc' := 20) dX3_turnVent_19 rfl rfl ?_
    refine sm_getF (pc' := 23) fk_X3_39 yr_4_3 dX3_turnVent_20 rfl (fun v106 => ?_)
    refine sm_iload_n (pc' := 24) dX3_turnVent_23 rfl rfl ?_
    rcases v106 with _ | a107
    · exact sm_unN
    refine sm_unS ?_
    refine sm_zaload (pc' := 25) dX3_turnVent_24 rfl (fun v108 => ?_)
    refine sm_lt (fun k110 => ∀ (v109 : Int32), Sim eX3_turnVent vI 33 [(0, qv (some th)), (1, iv a1)] [iv v109, iv a1, qv v105] (k110 v109)) ?_ (fun k110 hk110 => ?_)
    · intro v109
      rcases v105 with _ | a111
      · exact sm_unN
      refine sm_unS ?_
      refine sm_zastore (pc' := 34) dX3_turnVent_33 rfl ?_
      refine sm_aload_n (pc' := 35) dX3_turnVent_34 rfl rfl ?_
      refine sm_getF (pc' := 38) fk_X3_39 yr_4_3 dX3_turnVent_35 rfl (fun v112 => ?_)
      refine sm_iload_n (pc' := 39) dX3_turnVent_38 rfl rfl ?_
      rcases v112 with _ | a113
      · exact sm_unN
      refine sm_unS ?_
      refine sm_zaload (pc' := 40) dX3_turnVent_39 rfl (fun v114 => ?_)
      exact sm_zreturn rfl dX3_turnVent_40
    · skip
      refine sm_if_ne (pc' := 28) (pc1 := 32) dX3_turnVent_25 (by decide) rfl (fun _ => ?_) (fun _ => ?_)
      · skip
        refine sm_iconst (pc' := 33) (0 : Int32) dX3_turnVent_32 (by decide) rfl ?_
        exact hk110 (0 : Int32)
      · skip
        refine sm_iconst (pc' := 29) (1 : Int32) dX3_turnVent_28 (by decide) rfl ?_
        refine sm_goto (pc' := 33) dX3_turnVent_29 (by decide) ?_
        exact hk110 (1 : Int32)
  · skip
    refine sm_iconst (pc' := 13) (0 : Int32) dX3_turnVent_12 (by decide) rfl ?_
    exact sm_zreturn rfl dX3_turnVent_13
theorem kX3_turnVent (th : Nat) (a1 : Int32) : Callee 1 yX3_turnVent cX3_turnVent 2 (some .boolean) [qv (some th), iv a1] vI (pX3_turnVent th a1) := callee_ofS [(0, qv (some th)), (1, iv a1)] (by decide +kernel) (Nat.le_of_ble_eq_true rfl) rfl (sX3_turnVent th a1)
/-! HollowPress.vent(II)I -/
set_option maxRecDepth 20000 in
theorem iv_X10_166 (a : Nat) (x0 : Int32) : Inv RX10 2 (.invokevirtual 166) [iv x0, qv (some a)] vI (or2 a 4 (pX3_turnVent a x0) (or2 a 1 (pX3_turnVent a x0) (onT a 5 (pX3_turnVent a x0)))) := inv_or (inv_V (As := [iv x0]) (t := 4) (kX3_turnVent a x0) _ (by decide) rfl rfl w_571 w_572 w_573 w_25 w_574 ⟨by decide +kernel, by decide +kernel, by show _ = some 1; decide +kernel⟩ (by decide)) (inv_or (inv_U (As := [iv x0]) (t := 1) (owner := "HollowPress$Part") (xn := ⟨"HollowPress$Part", "turnVent", "(I)Z"⟩) (kX3_turnVent a x0) _ (by decide) rfl w_571 w_575 (Or.inr ⟨w_572, cX3_turnVent, 2, (some .boolean), w_574⟩) w_576 w_572 w_25 w_574 ⟨by decide +kernel, by decide +kernel, by show _ = some 1; decide +kernel⟩ (by decide)) (inv_U (As := [iv x0]) (t := 5) (owner := "HollowPress$Part") (xn := ⟨"HollowPress$Part", "turnVent", "(I)Z"⟩) (kX3_turnVent a x0) _ (by decide) rfl w_571 w_575 (Or.inr ⟨w_572, cX3_turnVent, 2, (some .boolean), w_574⟩) w_577 w_572 w_25 w_574 ⟨by decide +kernel, by decide +kernel, by show _ = some 1; decide +kernel⟩ (by decide)))
abbrev eX10_vent : Env0 := (RX10, "vent", cX10_vent, 5, (some .int), 2)
def pX10_vent (th : Nat) (a1 : Int32) (a2 : Int32) : Prg Int32 :=
    cl (pX10_below a1 (10 : Int32)) fun v101 =>
    (if v101 = 0 then rt (-1000001 : Int32)
    else gF 10 th 1 fun v102 =>
    un v102 fun a103 =>
    ldF a103 a1 fun v104 =>
    iO 4 v104 fun v105 =>
    (if v105 = 0 then cl (onT th 10 (pX10_otherThing th a1)) fun v106 =>
    rt v106
    else un v104 fun a107 =>
    cO 4 a107 (
    cl (or2 a107 4 (pX3_thickness a107 a2) (or2 a107 1 (pX3_thickness a107 a2) (onT a107 5 (pX3_thickness a107 a2)))) fun v108 =>
    (if v108 = 0 then rt (-1000001 : Int32)
    else cl (or2 a107 4 (pX3_turnVent a107 a2) (or2 a107 1 (pX3_turnVent a107 a2) (onT a107 5 (pX3_turnVent a107 a2)))) fun v109 =>
    (lt (fun (v110 : Int32) => cl (onT th 10 (pX10_fine th v110)) fun v112 =>
    rt v112 : Int32 → Prg Int32) fun k111 =>
    (if v109 = 0 then k111 (0 : Int32)
    else k111 (1 : Int32)))))))
set_option maxRecDepth 20000 in
theorem sX10_vent (th : Nat) (a1 : Int32) (a2 : Int32) : Sim eX10_vent vI 0 [(0, qv (some th)), (1, iv a1), (2, iv a2)] [] (pX10_vent th a1 a2) := by
  unfold pX10_vent
  refine sm_iload_n (pc' := 1) dX10_vent_0 rfl rfl ?_
  refine sm_bipush (pc' := 3) (10 : Int32) dX10_vent_1 (by decide) rfl ?_
  refine sm_calli (pc' := 6) (sa := [iv (10 : Int32), iv a1]) (st := []) (iv_X10_53 a1 (10 : Int32)) (Nat.le_of_ble_eq_true rfl) dX10_vent_3 rfl (Nat.le_of_ble_eq_true rfl) (fun v101 => ?_)
  refine sm_if_ne (pc' := 9) (pc1 := 12) dX10_vent_6 (by decide) rfl (fun _ => ?_) (fun _ => ?_)
  · skip
    refine sm_aload_n (pc' := 13) dX10_vent_12 rfl rfl ?_
    refine sm_getF (pc' := 16) fk_X10_17 yr_10_1 dX10_vent_13 rfl (fun v102 => ?_)
    refine sm_iload_n (pc' := 17) dX10_vent_16 rfl rfl ?_
    rcases v102 with _ | a103
    · exact sm_unN
    refine sm_unS ?_
    refine sm_aaload (pc' := 18) dX10_vent_17 rfl (fun v104 => ?_)
    refine sm_astore (pc' := 20) [(4, qv v104), (0, qv (some th)), (1, iv a1), (2, iv a2)] dX10_vent_18  (Nat.le_of_ble_eq_true rfl) rfl rfl ?_
    refine sm_aload (pc' := 22) dX10_vent_20 rfl rfl ?_
    refine sm_inst (pc' := 25) (Or.inl ⟨rfl, rfl⟩) w_283 dX10_vent_22 rfl (fun v105 => ?_)
    refine sm_if_eq (pc' := 28) (pc1 := 37) dX10_vent_25 (by decide) rfl (fun _ => ?_) (fun _ => ?_)
    · skip
      refine sm_aload_n (pc' := 38) dX10_vent_37 rfl rfl ?_
      refine sm_iload_n (pc' := 39) dX10_vent_38 rfl rfl ?_
      refine sm_calli (pc' := 42) (sa := [iv a1, qv (some th)]) (st := []) (iv_X10_145 th a1) (Nat.le_of_ble_eq_true rfl) dX10_vent_39 rfl (Nat.le_of_ble_eq_true rfl) (fun v106 => ?_)
      exact sm_ireturn rfl dX10_vent_42
    · skip
      refine sm_aload (pc' := 30) dX10_vent_28 rfl rfl ?_
      rcases v104 with _ | a107
      · exact sm_unN
      refine sm_unS ?_
      refine sm_cast (pc' := 33) (Or.inl ⟨rfl, rfl⟩) w_283 dX10_vent_30 rfl ?_
      refine sm_astore_n (pc' := 34) [(3, qv (some a107)), (4, qv (some a107)), (0, qv (some th)), (1, iv a1), (2, iv a2)] dX10_vent_33 rfl (Nat.le_of_ble_eq_true rfl) rfl rfl ?_
      refine sm_goto (pc' := 43) dX10_vent_34 (by decide) ?_
      refine sm_aload_n (pc' := 44) dX10_vent_43 rfl rfl ?_
      refine sm_iload_n (pc' := 45) dX10_vent_44 rfl rfl ?_
      refine sm_calli (pc' := 48) (sa := [iv a2, qv (some a107)]) (st := []) (iv_X10_148 a107 a2) (Nat.le_of_ble_eq_true rfl) dX10_vent_45 rfl (Nat.le_of_ble_eq_true rfl) (fun v108 => ?_)
      refine sm_if_ne (pc' := 51) (pc1 := 54) dX10_vent_48 (by decide) rfl (fun _ => ?_) (fun _ => ?_)
      · skip
        refine sm_aload_n (pc' := 55) dX10_vent_54 rfl rfl ?_
        refine sm_aload_n (pc' := 56) dX10_vent_55 rfl rfl ?_
        refine sm_iload_n (pc' := 57) dX10_vent_56 rfl rfl ?_
        refine sm_calli (pc' := 60) (sa := [iv a2, qv (some a107)]) (st := [qv (some th)]) (iv_X10_166 a107 a2) (Nat.le_of_ble_eq_true rfl) dX10_vent_57 rfl (Nat.le_of_ble_eq_true rfl) (fun v109 => ?_)
        refine sm_lt (fun k111 => ∀ (v110 : Int32), Sim eX10_vent vI 68 [] [iv v110, qv (some th)] (k111 v110)) ?_ (fun k111 hk111 => ?_)
        · intro v110
          refine sm_calli (pc' := 71) (sa := [iv v110, qv (some th)]) (st := []) (iv_X10_65 th v110) (Nat.le_of_ble_eq_true rfl) dX10_vent_68 rfl (Nat.le_of_ble_eq_true rfl) (fun v112 => ?_)
          exact sm_ireturn rfl dX10_vent_71
        · skip
          refine sm_if_eq (pc' := 63) (pc1 := 67) dX10_vent_60 (by decide) rfl (fun _ => ?_) (fun _ => ?_)
          · skip
            refine sm_iconst (pc' := 68) (0 : Int32) dX10_vent_67 (by decide) rfl ?_
            refine sm_sub [] rfl ?_
            exact hk111 (0 : Int32)
          · skip
            refine sm_iconst (pc' := 64) (1 : Int32) dX10_vent_63 (by decide) rfl ?_
            refine sm_goto (pc' := 68) dX10_vent_64 (by decide) ?_
            refine sm_sub [] rfl ?_
            exact hk111 (1 : Int32)
      · skip
        refine sm_ldc (pc' := 53) (-1000001 : Int32) w_189 dX10_vent_51 rfl ?_
        exact sm_ireturn rfl dX10_vent_53
  · skip
    refine sm_ldc (pc' := 11) (-1000001 : Int32) w_189 dX10_vent_9 rfl ?_
    exact sm_ireturn rfl dX10_vent_11
theorem kX10_vent (th : Nat) (a1 : Int32) (a2 : Int32) : Callee 2 yX10_vent cX10_vent 5 (some .int) [qv (some th), iv a1, iv a2] vI (pX10_vent th a1 a2) := callee_ofS [(0, qv (some th)), (1, iv a1), (2, iv a2)] (by decide +kernel) (Nat.le_of_ble_eq_true rfl) rfl (sX10_vent th a1 a2)
/-! HollowPress.warmth(II)I -/
abbrev eX10_warmth : Env0 := (RX10, "warmth", cX10_warmth, 5, (some .int), 2)
def pX10_warmth (th : Nat) (a1 : Int32) (a2 : Int32) : Prg Int32 :=
    cl (pX10_below a1 (10 : Int32)) fun v101 =>
    (if v101 = 0 then rt (-1000001 : Int32)
    else gF 10 th 1 fun v102 =>
    un v102 fun a103 =>
    ldF a103 a1 fun v104 =>
    iO 3 v104 fun v105 =>
    (if v105 = 0 then cl (onT th 10 (pX10_otherThing th a1)) fun v106 =>
    rt v106
    else un v104 fun a107 =>
    cO 3 a107 (
    (if a2 = (-1000000 : Int32) then gI 3 a107 2 fun v116 =>
    cl (onT th 10 (pX10_fine th v116)) fun v117 =>
    rt v117
    else gF 3 a107 0 fun v108 =>
    un v108 fun a109 =>
    ln a109 fun v110 =>
    cl (pX10_below a2 v110) fun v111 =>
    (if v111 = 0 then rt (-1000001 : Int32)
    else gF 3 a107 0 fun v112 =>
    un v112 fun a113 =>
    ldI a113 a2 fun v114 =>
    cl (onT th 10 (pX10_fine th v114)) fun v115 =>
    rt v115)))))
set_option maxRecDepth 20000 in
theorem sX10_warmth (th : Nat) (a1 : Int32) (a2 : Int32) : Sim eX10_warmth vI 0 [(0, qv (some th)), (1, iv a1), (2, iv a2)] [] (pX10_warmth th a1 a2) := by
  unfold pX10_warmth
  refine sm_iload_n (pc' := 1) dX10_warmth_0 rfl rfl ?_
  refine sm_bipush (pc' := 3) (10 : Int32) dX10_warmth_1 (by decide) rfl ?_
  refine sm_calli (pc' := 6) (sa := [iv (10 : Int32), iv a1]) (st := []) (iv_X10_53 a1 (10 : Int32)) (Nat.le_of_ble_eq_true rfl) dX10_warmth_3 rfl (Nat.le_of_ble_eq_true rfl) (fun v101 => ?_)
  refine sm_if_ne (pc' := 9) (pc1 := 12) dX10_warmth_6 (by decide) rfl (fun _ => ?_) (fun _ => ?_)
  · skip
    refine sm_aload_n (pc' := 13) dX10_warmth_12 rfl rfl ?_
    refine sm_getF (pc' := 16) fk_X10_17 yr_10_1 dX10_warmth_13 rfl (fun v102 => ?_)
    refine sm_iload_n (pc' := 17) dX10_warmth_16 rfl rfl ?_
    rcases v102 with _ | a103
    · exact sm_unN
    refine sm_unS ?_
    refine sm_aaload (pc' := 18) dX10_warmth_17 rfl (fun v104 => ?_)
    refine sm_astore (pc' := 20) [(4, qv v104), (0, qv (some th)), (1, iv a1), (2, iv a2)] dX10_warmth_18  (Nat.le_of_ble_eq_true rfl) rfl rfl ?_
    refine sm_aload (pc' := 22) dX10_warmth_20 rfl rfl ?_
    refine sm_inst (pc' := 25) (Or.inr ⟨rfl, rfl⟩) w_274 dX10_warmth_22 rfl (fun v105 => ?_)
    refine sm_if_eq (pc' := 28) (pc1 := 37) dX10_warmth_25 (by decide) rfl (fun _ => ?_) (fun _ => ?_)
    · skip
      refine sm_aload_n (pc' := 38) dX10_warmth_37 rfl rfl ?_
      refine sm_iload_n (pc' := 39) dX10_warmth_38 rfl rfl ?_
      refine sm_calli (pc' := 42) (sa := [iv a1, qv (some th)]) (st := []) (iv_X10_145 th a1) (Nat.le_of_ble_eq_true rfl) dX10_warmth_39 rfl (Nat.le_of_ble_eq_true rfl) (fun v106 => ?_)
      exact sm_ireturn rfl dX10_warmth_42
    · skip
      refine sm_aload (pc' := 30) dX10_warmth_28 rfl rfl ?_
      rcases v104 with _ | a107
      · exact sm_unN
      refine sm_unS ?_
      refine sm_cast (pc' := 33) (Or.inr ⟨rfl, rfl⟩) w_274 dX10_warmth_30 rfl ?_
      refine sm_astore_n (pc' := 34) [(3, qv (some a107)), (4, qv (some a107)), (0, qv (some th)), (1, iv a1), (2, iv a2)] dX10_warmth_33 rfl (Nat.le_of_ble_eq_true rfl) rfl rfl ?_
      refine sm_goto (pc' := 43) dX10_warmth_34 (by decide) ?_
      refine sm_iload_n (pc' := 44) dX10_warmth_43 rfl rfl ?_
      refine sm_ldc (pc' := 46) (-1000000 : Int32) w_292 dX10_warmth_44 rfl ?_
      refine sm_icmp_ne (pc' := 49) (pc1 := 58) dX10_warmth_46 (by decide) rfl (fun _ => ?_) (fun _ => ?_)
      · skip
        refine sm_iload_n (pc' := 59) dX10_warmth_58 rfl rfl ?_
        refine sm_aload_n (pc' := 60) dX10_warmth_59 rfl rfl ?_
        refine sm_getF (pc' := 63) fk_X10_257 yr_3_0 dX10_warmth_60 rfl (fun v108 => ?_)
        rcases v108 with _ | a109
        · exact sm_unN
        refine sm_unS ?_
        refine sm_alen (pc' := 64) dX10_warmth_63 rfl (fun v110 => ?_)
        refine sm_calli (pc' := 67) (sa := [iv v110, iv a2]) (st := []) (iv_X10_53 a2 v110) (Nat.le_of_ble_eq_true rfl) dX10_warmth_64 rfl (Nat.le_of_ble_eq_true rfl) (fun v111 => ?_)
        refine sm_if_ne (pc' := 70) (pc1 := 73) dX10_warmth_67 (by decide) rfl (fun _ => ?_) (fun _ => ?_)
        · skip
          refine sm_aload_n (pc' := 74) dX10_warmth_73 rfl rfl ?_
          refine sm_aload_n (pc' := 75) dX10_warmth_74 rfl rfl ?_
          refine sm_getF (pc' := 78) fk_X10_257 yr_3_0 dX10_warmth_75 rfl (fun v112 => ?_)
          refine sm_iload_n (pc' := 79) dX10_warmth_78 rfl rfl ?_
          rcases v112 with _ | a113
          · exact sm_unN
          refine sm_unS ?_
          refine sm_iaload (pc' := 80) dX10_warmth_79 rfl (fun v114 => ?_)
          refine sm_calli (pc' := 83) (sa := [iv v114, qv (some th)]) (st := []) (iv_X10_65 th v114) (Nat.le_of_ble_eq_true rfl) dX10_warmth_80 rfl (Nat.le_of_ble_eq_true rfl) (fun v115 => ?_)
          exact sm_ireturn rfl dX10_warmth_83
        · skip
          refine sm_ldc (pc' := 72) (-1000001 : Int32) w_189 dX10_warmth_70 rfl ?_
          exact sm_ireturn rfl dX10_warmth_72
      · skip
        refine sm_aload_n (pc' := 50) dX10_warmth_49 rfl rfl ?_
        refine sm_aload_n (pc' := 51) dX10_warmth_50 rfl rfl ?_
        refine sm_getI (pc' := 54) fk_X10_254 nr_3_2 dX10_warmth_51 rfl (fun v116 => ?_)
        refine sm_calli (pc' := 57) (sa := [iv v116, qv (some th)]) (st := []) (iv_X10_65 th v116) (Nat.le_of_ble_eq_true rfl) dX10_warmth_54 rfl (Nat.le_of_ble_eq_true rfl) (fun v117 => ?_)
        exact sm_ireturn rfl dX10_warmth_57
  · skip
    refine sm_ldc (pc' := 11) (-1000001 : Int32) w_189 dX10_warmth_9 rfl ?_
    exact sm_ireturn rfl dX10_warmth_11
theorem kX10_warmth (th : Nat) (a1 : Int32) (a2 : Int32) : Callee 2 yX10_warmth cX10_warmth 5 (some .int) [qv (some th), iv a1, iv a2] vI (pX10_warmth th a1 a2) := callee_ofS [(0, qv (some th)), (1, iv a1), (2, iv a2)] (by decide +kernel) (Nat.le_of_ble_eq_true rfl) rfl (sX10_warmth th a1 a2)
/-! HollowPressModel.found(I)I -/
abbrev eX11_found : Env0 := (RX11, "found", cX11_found, 2, (some .int), 0)
def pX11_found (th : Nat) (a1 : Int32) : Prg Int32 :=
    pI 11 th 1 a1 (
    rt ((-1000010 : Int32) - a1))
set_option maxRecDepth 20000 in
theorem sX11_found (th : Nat) (a1 : Int32) : Sim eX11_found vI 0 [(0, qv (some th)), (1, iv a1)] [] (pX11_found th a1) := by
  unfold pX11_found
  refine sm_aload_n (pc' := 1) dX11_found_0 rfl rfl ?_
  refine sm_iload_n (pc' := 2) dX11_found_1 rfl rfl ?_
  refine sm_putI (pc' := 5) (gk_X11_128 _ _ _ _ _) ti_11_1 dX11_found_2 rfl ?_
  refine sm_ldc (pc' := 7) (-1000010 : Int32) w_581 dX11_found_5 rfl ?_
  refine sm_iload_n (pc' := 8) dX11_found_7 rfl rfl ?_
  refine sm_isub (pc' := 9) dX11_found_8 rfl ?_
  exact sm_ireturn rfl dX11_found_9
theorem kX11_found (th : Nat) (a1 : Int32) : Callee 0 yX11_found cX11_found 2 (some .int) [qv (some th), iv a1] vI (pX11_found th a1) := callee_ofS [(0, qv (some th)), (1, iv a1)] (by decide +kernel) (Nat.le_of_ble_eq_true rfl) rfl (sX11_found th a1)
/-! HollowPressModel.in(JJJ)Z -/
abbrev eX11_in : Env0 := (RX11, "in", cX11_in, 6, (some .boolean), 0)
def pX11_in (a1 : Int64) (a2 : Int64) (a3 : Int64) : Prg Int32 :=
    (lt (fun (v101 : Int32) => rtZ v101 : Int32 → Prg Int32) fun k102 =>
    (lt (k102 (0 : Int32) : Prg Int32) fun k103 =>
    (if (lg_cmp a1 a2) < 0 then k103
    else (if 0 < (lg_cmp a1 a3) then k103
    else k102 (1 : Int32)))))
set_option maxRecDepth 20000 in
theorem sX11_in (a1 : Int64) (a2 : Int64) (a3 : Int64) : Sim eX11_in vI 0 [(0, jv a1), (2, jv a2), (4, jv a3)] [] (pX11_in a1 a2 a3) := by
  unfold pX11_in
  refine sm_lload_n (pc' := 1) dX11_in_0 rfl rfl ?_
  refine sm_lload_n (pc' := 2) dX11_in_1 rfl rfl ?_
  refine sm_lcmp (pc' := 3) dX11_in_2 rfl ?_
  refine sm_lt (fun k102 => ∀ (v101 : Int32), Sim eX11_in vI 18 [] [iv v101] (k102 v101)) ?_ (fun k102 hk102 => ?_)
  · intro v101
    exact sm_zreturn rfl dX11_in_18
  · skip
    refine sm_lt (fun k103 => Sim eX11_in vI 17 [] [] (k103)) ?_ (fun k103 hk103 => ?_)
    · skip
      refine sm_iconst (pc' := 18) (0 : Int32) dX11_in_17 (by decide) rfl ?_
      exact hk102 (0 : Int32)
    · skip
      refine sm_if_lt (pc' := 6) (pc1 := 17) dX11_in_3 (by decide) rfl (fun _ => ?_) (fun _ => ?_)
      · skip
        refine sm_sub [] rfl ?_
        exact hk103
      · skip
        refine sm_lload_n (pc' := 7) dX11_in_6 rfl rfl ?_
        refine sm_lload (pc' := 9) dX11_in_7 rfl rfl ?_
        refine sm_lcmp (pc' := 10) dX11_in_9 rfl ?_
        refine sm_if_gt (pc' := 13) (pc1 := 17) dX11_in_10 (by decide) rfl (fun _ => ?_) (fun _ => ?_)
        · skip
          refine sm_sub [] rfl ?_
          exact hk103
        · skip
          refine sm_iconst (pc' := 14) (1 : Int32) dX11_in_13 (by decide) rfl ?_
          refine sm_goto (pc' := 18) dX11_in_14 (by decide) ?_
          refine sm_sub [] rfl ?_
          exact hk102 (1 : Int32)
theorem kX11_in (a1 : Int64) (a2 : Int64) (a3 : Int64) : Callee 0 yX11_in cX11_in 6 (some .boolean) [jv a1, jv a2, jv a3] vI (pX11_in a1 a2 a3) := callee_ofS [(0, jv a1), (2, jv a2), (4, jv a3)] (by decide +kernel) (Nat.le_of_ble_eq_true rfl) rfl (sX11_in a1 a2 a3)
/-! HollowPressModel.isPlace(I)Z -/
set_option maxRecDepth 20000 in
theorem iv_X11_134 (x0 : Int64) (x1 : Int64) (x2 : Int64) : Inv RX11 1 (.invokestatic 134) [jv x2, jv x1, jv x0] vI (pX11_in x0 x1 x2) := inv_S (As := [jv x0, jv x1, jv x2]) (kX11_in x0 x1 x2) w_583 w_584 w_585 w_586 ⟨by decide +kernel, by decide +kernel, by show _ = some 3; decide +kernel⟩ (by decide)
abbrev eX11_isPlace : Env0 := (RX11, "isPlace", cX11_isPlace, 1, (some .boolean), 1)
def pX11_isPlace (a1 : Int32) : Prg Int32 :=
    cl (pX11_in (Int32.toInt64 a1) (0 : Int64) (9 : Int64)) fun v101 =>
    rtZ v101
set_option maxRecDepth 20000 in
theorem sX11_isPlace (a1 : Int32) : Sim eX11_isPlace vI 0 [(0, iv a1)] [] (pX11_isPlace a1) := by
  unfold pX11_isPlace
  refine sm_iload_n (pc' := 1) dX11_isPlace_0 rfl rfl ?_
  refine sm_i2l (pc' := 2) dX11_isPlace_1 rfl ?_
  refine sm_lconst (pc' := 3) (0 : Int64) dX11_isPlace_2 (by decide) rfl ?_
  refine sm_ldc2 (pc' := 6) (9 : Int64) w_582 dX11_isPlace_3 rfl ?_
  refine sm_calli (pc' := 9) (sa := [jv (9 : Int64), jv (0 : Int64), jv (Int32.toInt64 a1)]) (st := []) (iv_X11_134 (Int32.toInt64 a1) (0 : Int64) (9 : Int64)) (Nat.le_of_ble_eq_true rfl) dX11_isPlace_6 rfl (Nat.le_of_ble_eq_true rfl) (fun v101 => ?_)
  exact sm_zreturn rfl dX11_isPlace_9
theorem kX11_isPlace (a1 : Int32) : Callee 1 yX11_isPlace cX11_isPlace 1 (some .boolean) [iv a1] vI (pX11_isPlace a1) := callee_ofS [(0, iv a1)] (by decide +kernel) (Nat.le_of_ble_eq_true rfl) rfl (sX11_isPlace a1)
/-! HollowPressModel.began(I)V -/
abbrev eX11_began : Env0 := (RX11, "began", cX11_began, 2, none, 0)
def pX11_began (th : Nat) (a1 : Int32) : Prg Unit :=
    gI 11 th 17 fun v101 =>
    (lt (rt () : Prg Unit) fun k102 =>
    (if (16 : Int32) ≤ v101 then k102
    else gF 11 th 16 fun v103 =>
    gI 11 th 17 fun v104 =>
    un v103 fun a105 =>
    stI a105 v104 a1 (
    gI 11 th 17 fun v106 =>
    pI 11 th 17 (v106 + (1 : Int32)) (
    k102))))
set_option maxRecDepth 20000 in
theorem sX11_began (th : Nat) (a1 : Int32) : Sim eX11_began vU 0 [(0, qv (some th)), (1, iv a1)] [] (pX11_began th a1) := by
  unfold pX11_began
  refine sm_aload_n (pc' := 1) dX11_began_0 rfl rfl ?_
  refine sm_getI (pc' := 4) fk_X11_173 nr_11_17 dX11_began_1 rfl (fun v101 => ?_)
  refine sm_bipush (pc' := 6) (16 : Int32) dX11_began_4 (by decide) rfl ?_
  refine sm_lt (fun k102 => Sim eX11_began vU 29 [] [] (k102)) ?_ (fun k102 hk102 => ?_)
  · skip
    exact sm_return rfl dX11_began_29
  · skip
    refine sm_icmp_ge (pc' := 9) (pc1 := 29) dX11_began_6 (by decide) rfl (fun _ => ?_) (fun _ => ?_)
    · skip
      refine sm_sub [] rfl ?_
      exact hk102
    · skip
      refine sm_aload_n (pc' := 10) dX11_began_9 rfl rfl ?_
      refine sm_getF (pc' := 13) fk_X11_54 yr_11_16 dX11_began_10 rfl (fun v103 => ?_)
      refine sm_aload_n (pc' := 14) dX11_began_13 rfl rfl ?_
      refine sm_getI (pc' := 17) fk_X11_173 nr_11_17 dX11_began_14 rfl (fun v104 => ?_)
      refine sm_iload_n (pc' := 18) dX11_began_17 rfl rfl ?_
      rcases v103 with _ | a105
      · exact sm_unN
      refine sm_unS ?_
      refine sm_iastore (pc' := 19) dX11_began_18 rfl ?_
      refine sm_aload_n (pc' := 20) dX11_began_19 rfl rfl ?_
      refine sm_dup (pc' := 21) dX11_began_20 rfl rfl ?_
      refine sm_getI (pc' := 24) fk_X11_173 nr_11_17 dX11_began_21 rfl (fun v106 => ?_)
      refine sm_iconst (pc' := 25) (1 : Int32) dX11_began_24 (by decide) rfl ?_
      refine sm_iadd (pc' := 26) dX11_began_25 rfl ?_
      refine sm_putI (pc' := 29) (gk_X11_173 _ _ _ _ _) ti_11_17 dX11_began_26 rfl ?_
      refine sm_sub [] rfl ?_
      exact hk102
theorem kX11_began (th : Nat) (a1 : Int32) : Callee 0 yX11_began cX11_began 2 none [qv (some th), iv a1] vU (pX11_began th a1) := callee_ofS [(0, qv (some th)), (1, iv a1)] (by decide +kernel) (Nat.le_of_ble_eq_true rfl) rfl (sX11_began th a1)
/-! HollowPressModel.isOf(II)Z -/
abbrev eX11_isOf : Env0 := (RX11, "isOf", cX11_isOf, 2, (some .boolean), 0)
def pX11_isOf (a1 : Int32) (a2 : Int32) : Prg Int32 :=
    (lt (fun (v101 : Int32) => rtZ v101 : Int32 → Prg Int32) fun k102 =>
    (lt (k102 (0 : Int32) : Prg Int32) fun k103 =>
    (if a1 < 0 then k103
    else (lt (k102 (1 : Int32) : Prg Int32) fun k104 =>
    (if a2 = 0 then k104
    else (if a1 = a2 then k104
    else (lt ((if a2 = (2 : Int32) then (if a1 = (3 : Int32) then k104
    else k103)
    else k103) : Prg Int32) fun k105 =>
    (if a2 = (1 : Int32) then (if a1 ≤ (3 : Int32) then k104
    else k105)
    else k105))))))))
set_option maxRecDepth 20000 in
theorem sX11_isOf (a1 : Int32) (a2 : Int32) : Sim eX11_isOf vI 0 [(0, iv a1), (1, iv a2)] [] (pX11_isOf a1 a2) := by
  unfold pX11_isOf
  refine sm_iload_n (pc' := 1) dX11_isOf_0 rfl rfl ?_
  refine sm_lt (fun k102 => ∀ (v101 : Int32), Sim eX11_isOf vI 38 [] [iv v101] (k102 v101)) ?_ (fun k102 hk102 => ?_)
  · intro v101
    exact sm_zreturn rfl dX11_isOf_38
  · skip
    refine sm_lt (fun k103 => Sim eX11_isOf vI 37 [] [] (k103)) ?_ (fun k103 hk103 => ?_)
    · skip
      refine sm_iconst (pc' := 38) (0 : Int32) dX11_isOf_37 (by decide) rfl ?_
      exact hk102 (0 : Int32)
    · skip
      refine sm_if_lt (pc' := 4) (pc1 := 37) dX11_isOf_1 (by decide) rfl (fun _ => ?_) (fun _ => ?_)
      · skip
        refine sm_sub [] rfl ?_
        exact hk103
      · skip
        refine sm_iload_n (pc' := 5) dX11_isOf_4 rfl rfl ?_
        refine sm_lt (fun k104 => Sim eX11_isOf vI 33 [] [] (k104)) ?_ (fun k104 hk104 => ?_)
        · skip
          refine sm_iconst (pc' := 34) (1 : Int32) dX11_isOf_33 (by decide) rfl ?_
          refine sm_goto (pc' := 38) dX11_isOf_34 (by decide) ?_
          exact hk102 (1 : Int32)
        · skip
          refine sm_if_eq (pc' := 8) (pc1 := 33) dX11_isOf_5 (by decide) rfl (fun _ => ?_) (fun _ => ?_)
          · skip
            refine sm_sub [] rfl ?_
            exact hk104
          · skip
            refine sm_iload_n (pc' := 9) dX11_isOf_8 rfl rfl ?_
            refine sm_iload_n (pc' := 10) dX11_isOf_9 rfl rfl ?_
            refine sm_icmp_eq (pc' := 13) (pc1 := 33) dX11_isOf_10 (by decide) rfl (fun _ => ?_) (fun _ => ?_)
            · skip
              refine sm_sub [] rfl ?_
              exact hk104
            · skip
              refine sm_iload_n (pc' := 14) dX11_isOf_13 rfl rfl ?_
              refine sm_iconst (pc' := 15) (1 : Int32) dX11_isOf_14 (by decide) rfl ?_
              refine sm_lt (fun k105 => Sim eX11_isOf vI 23 [(0, iv a1), (1, iv a2)] [] (k105)) ?_ (fun k105 hk105 => ?_)
              · skip
                refine sm_iload_n (pc' := 24) dX11_isOf_23 rfl rfl ?_
                refine sm_iconst (pc' := 25) (2 : Int32) dX11_isOf_24 (by decide) rfl ?_
                refine sm_icmp_ne (pc' := 28) (pc1 := 37) dX11_isOf_25 (by decide) rfl (fun _ => ?_) (fun _ => ?_)
                · skip
                  refine sm_sub [] rfl ?_
                  exact hk103
                · skip
                  refine sm_iload_n (pc' := 29) dX11_isOf_28 rfl rfl ?_
                  refine sm_iconst (pc' := 30) (3 : Int32) dX11_isOf_29 (by decide) rfl ?_
                  refine sm_icmp_ne (pc' := 33) (pc1 := 37) dX11_isOf_30 (by decide) rfl (fun _ => ?_) (fun _ => ?_)
                  · skip
                    refine sm_sub [] rfl ?_
                    exact hk103
                  · skip
                    refine sm_sub [] rfl ?_
                    exact hk104
              · skip
                refine sm_icmp_ne (pc' := 18) (pc1 := 23) dX11_isOf_15 (by decide) rfl (fun _ => ?_) (fun _ => ?_)
                · skip
                  exact hk105
                · skip
                  refine sm_iload_n (pc' := 19) dX11_isOf_18 rfl rfl ?_
                  refine sm_iconst (pc' := 20) (3 : Int32) dX11_isOf_19 (by decide) rfl ?_
                  refine sm_icmp_le (pc' := 23) (pc1 := 33) dX11_isOf_20 (by decide) rfl (fun _ => ?_) (fun _ => ?_)
                  · skip
                    refine sm_sub [] rfl ?_
                    exact hk104
                  · skip
                    exact hk105
theorem kX11_isOf (a1 : Int32) (a2 : Int32) : Callee 0 yX11_isOf cX11_isOf 2 (some .boolean) [iv a1, iv a2] vI (pX11_isOf a1 a2) := callee_ofS [(0, iv a1), (1, iv a2)] (by decide +kernel) (Nat.le_of_ble_eq_true rfl) rfl (sX11_isOf a1 a2)
/-! HollowPressModel.weight(I)I -/
set_option maxRecDepth 20000 in
theorem iv_X11_169 (x0 : Int32) (x1 : Int32) : Inv RX11 1 (.invokestatic 169) [iv x1, iv x0] vI (pX11_isOf x0 x1) := inv_S (As := [iv x0, iv x1]) (kX11_isOf x0 x1) w_590 w_591 w_585 w_592 ⟨by decide +kernel, by decide +kernel, by show _ = some 2; decide +kernel⟩ (by decide)
set_option maxRecDepth 20000 in
theorem iv_X11_176 (a : Nat) (x0 : Int32) : Inv RX11 1 (.invokevirtual 176) [iv x0, qv (some a)] vU (onT a 11 (pX11_began a x0)) := inv_V (As := [iv x0]) (t := 11) (kX11_began a x0) _ (by decide) rfl rfl w_593 w_594 w_595 w_585 w_596 ⟨by decide +kernel, by decide +kernel, by show _ = some 1; decide +kernel⟩ (by decide)
abbrev eX11_weight : Env0 := (RX11, "weight", cX11_weight, 5, (some .int), 1)
def pX11_weight_L55 (th : Nat) (a1 : Int32) (v107 : Int32) (k111 : Int32 → Prg Int32) : Nat → Int32 → Int32 → Prg Int32
  | 0, _, _ => fl
  | n + 1, v109, v110 =>
    (if (144 : Int32) ≤ v110 then k111 v109
    else gF 11 th 8 fun v112 =>
    un v112 fun a113 =>
    ldI a113 (((144 : Int32) * a1) + v110) fun v114 =>
    pX11_weight_L55 th a1 v107 k111 n (v109 + v114) (v110 + (1 : Int32)))
def pX11_weight (th : Nat) (a1 : Int32) : Prg Int32 :=
    gF 11 th 5 fun v101 =>
    un v101 fun a102 =>
    ldI a102 a1 fun v103 =>
    (if v103 = (4 : Int32) then cl (onT th 11 (pX11_began th (13 : Int32))) fun _ =>
    gF 11 th 6 fun v121 =>
    un v121 fun a122 =>
    ldI a122 a1 fun v123 =>
    rt v123
    else gF 11 th 5 fun v104 =>
    un v104 fun a105 =>
    ldI a105 a1 fun v106 =>
    cl (pX11_isOf v106 (2 : Int32)) fun v107 =>
    (lt (cl (onT th 11 (pX11_began th (11 : Int32))) fun _ =>
    pX11_weight_L55 th a1 v107 (fun (v115 : Int32) => cl (onT th 11 (pX11_began th (10 : Int32))) fun _ =>
    (lt (fun (v116 : Int32) => rt ((v115 + (1 : Int32)) + v116) : Int32 → Prg Int32) fun k117 =>
    (if v107 = 0 then k117 (0 : Int32)
    else gF 11 th 9 fun v118 =>
    un v118 fun a119 =>
    ldI a119 a1 fun v120 =>
    k117 v120))) FL (0 : Int32) (0 : Int32) : Prg Int32) fun k108 =>
    (if v107 = 0 then k108
    else cl (onT th 11 (pX11_began th (12 : Int32))) fun _ =>
    k108)))
set_option maxRecDepth 20000 in
theorem sX11_weight_L55 (th : Nat) (a1 : Int32) (v107 : Int32) (k111 : Int32 → Prg Int32) (hk111 : ∀ (q2 : Int32), Sim eX11_weight vI 85 [(0, qv (some th)), (1, iv a1), (2, iv q2), (3, iv v107)] [] (k111 q2)) : ∀ (n : Nat), ∀ (v109 : Int32) (v110 : Int32), Sim eX11_weight vI 55 [(0, qv (some th)), (1, iv a1), (2, iv v109), (3, iv v107), (4, iv v110)] [] (pX11_weight_L55 th a1 v107 k111 n v109 v110) := by
  intro n
  induction n with
  | zero =>
    intros
    exact sm_fl
  | succ n ih =>
    intro v109 v110
    unfold pX11_weight_L55
    refine sm_iload (pc' := 57) dX11_weight_55 rfl rfl ?_
    refine sm_sipush (pc' := 60) (144 : Int32) dX11_weight_57 (by decide) rfl ?_
    refine sm_icmp_ge (pc' := 63) (pc1 := 85) dX11_weight_60 (by decide) rfl (fun _ => ?_) (fun _ => ?_)
    · skip
      refine sm_sub [0, 1, 2, 3] rfl ?_
      exact hk111 v109
    · skip
      refine sm_iload_n (pc' := 64) dX11_weight_63 rfl rfl ?_
      refine sm_aload_n (pc' := 65) dX11_weight_64 rfl rfl ?_
      refine sm_getF (pc' := 68) fk_X11_29 yr_11_8 dX11_weight_65 rfl (fun v112 => ?_)
      refine sm_sipush (pc' := 71) (144 : Int32) dX11_weight_68 (by decide) rfl ?_
      refine sm_iload_n (pc' := 72) dX11_weight_71 rfl rfl ?_
      refine sm_imul (pc' := 73) dX11_weight_72 rfl ?_
      refine sm_iload (pc' := 75) dX11_weight_73 rfl rfl ?_
      refine sm_iadd (pc' := 76) dX11_weight_75 rfl ?_
      rcases v112 with _ | a113
      · exact sm_unN
      refine sm_unS ?_
      refine sm_iaload (pc' := 77) dX11_weight_76 rfl (fun v114 => ?_)
      refine sm_iadd (pc' := 78) dX11_weight_77 rfl ?_
      refine sm_istore_n (pc' := 79) [(2, iv (v109 + v114)), (0, qv (some th)), (1, iv a1), (3, iv v107), (4, iv v110)] dX11_weight_78 rfl (Nat.le_of_ble_eq_true rfl) rfl rfl ?_
      refine sm_iinc (pc' := 82) (v110 + (1 : Int32)) [(4, iv (v110 + (1 : Int32))), (2, iv (v109 + v114)), (0, qv (some th)), (1, iv a1), (3, iv v107)] dX11_weight_79 rfl rfl (Nat.le_of_ble_eq_true rfl) rfl rfl ?_
      refine sm_goto (pc' := 55) dX11_weight_82 (by decide) ?_
      refine sm_sub [2, 3, 1, 4, 0] rfl ?_
      exact ih (v109 + v114) (v110 + (1 : Int32))
set_option maxRecDepth 20000 in
theorem sX11_weight (th : Nat) (a1 : Int32) : Sim eX11_weight vI 0 [(0, qv (some th)), (1, iv a1)] [] (pX11_weight th a1) := by
  unfold pX11_weight
  refine sm_iconst (pc' := 1) (0 : Int32) dX11_weight_0 (by decide) rfl ?_
  refine sm_istore_n (pc' := 2) [(2, iv (0 : Int32)), (0, qv (some th)), (1, iv a1)] dX11_weight_1 rfl (Nat.le_of_ble_eq_true rfl) rfl rfl ?_
  refine sm_aload_n (pc' := 3) dX11_weight_2 rfl rfl ?_
  refine sm_getF (pc' := 6) fk_X11_20 yr_11_5 dX11_weight_3 rfl (fun v101 => ?_)
  refine sm_iload_n (pc' := 7) dX11_weight_6 rfl rfl ?_
  rcases v101 with _ | a102
  · exact sm_unN
  refine sm_unS ?_
  refine sm_iaload (pc' := 8) dX11_weight_7 rfl (fun v103 => ?_)
  refine sm_iconst (pc' := 9) (4 : Int32) dX11_weight_8 (by decide) rfl ?_
  refine sm_icmp_ne (pc' := 12) (pc1 := 25) dX11_weight_9 (by decide) rfl (fun _ => ?_) (fun _ => ?_)
  · skip
    refine sm_aload_n (pc' := 26) dX11_weight_25 rfl rfl ?_
    refine sm_getF (pc' := 29) fk_X11_20 yr_11_5 dX11_weight_26 rfl (fun v104 => ?_)
    refine sm_iload_n (pc' := 30) dX11_weight_29 rfl rfl ?_
    rcases v104 with _ | a105
    · exact sm_unN
    refine sm_unS ?_
    refine sm_iaload (pc' := 31) dX11_weight_30 rfl (fun v106 => ?_)
    refine sm_iconst (pc' := 32) (2 : Int32) dX11_weight_31 (by decide) rfl ?_
    refine sm_calli (pc' := 35) (sa := [iv (2 : Int32), iv v106]) (st := []) (iv_X11_169 v106 (2 : Int32)) (Nat.le_of_ble_eq_true rfl) dX11_weight_32 rfl (Nat.le_of_ble_eq_true rfl) (fun v107 => ?_)
    refine sm_istore_n (pc' := 36) [(3, iv v107), (2, iv (0 : Int32)), (0, qv (some th)), (1, iv a1)] dX11_weight_35 rfl (Nat.le_of_ble_eq_true rfl) rfl rfl ?_
    refine sm_iload_n (pc' := 37) dX11_weight_36 rfl rfl ?_
    refine sm_lt (fun k108 => Sim eX11_weight vI 46 [(0, qv (some th)), (1, iv a1), (2, iv (0 : Int32)), (3, iv v107)] [] (k108)) ?_ (fun k108 hk108 => ?_)
    · skip
      refine sm_aload_n (pc' := 47) dX11_weight_46 rfl rfl ?_
      refine sm_bipush (pc' := 49) (11 : Int32) dX11_weight_47 (by decide) rfl ?_
      refine sm_callv (pc' := 52) (sa := [iv (11 : Int32), qv (some th)]) (st := []) (iv_X11_176 th (11 : Int32)) (Nat.le_of_ble_eq_true rfl) dX11_weight_49 rfl (Nat.le_of_ble_eq_true rfl) (fun _ => ?_)
      refine sm_iconst (pc' := 53) (0 : Int32) dX11_weight_52 (by decide) rfl ?_
      refine sm_istore (pc' := 55) [(4, iv (0 : Int32)), (0, qv (some th)), (1, iv a1), (2, iv (0 : Int32)), (3, iv v107)] dX11_weight_53  (Nat.le_of_ble_eq_true rfl) rfl rfl ?_
      refine sm_sub [1, 2, 3, 4, 0] rfl ?_
      refine sX11_weight_L55 th a1 v107 _ ?_ FL (0 : Int32) (0 : Int32)
      · intro v115
        refine sm_aload_n (pc' := 86) dX11_weight_85 rfl rfl ?_
        refine sm_bipush (pc' := 88) (10 : Int32) dX11_weight_86 (by decide) rfl ?_
        refine sm_callv (pc' := 91) (sa := [iv (10 : Int32), qv (some th)]) (st := []) (iv_X11_176 th (10 : Int32)) (Nat.le_of_ble_eq_true rfl) dX11_weight_88 rfl (Nat.le_of_ble_eq_true rfl) (fun _ => ?_)
        refine sm_iload_n (pc' := 92) dX11_weight_91 rfl rfl ?_
        refine sm_iconst (pc' := 93) (1 : Int32) dX11_weight_92 (by decide) rfl ?_
        refine sm_iadd (pc' := 94) dX11_weight_93 rfl ?_
        refine sm_iload_n (pc' := 95) dX11_weight_94 rfl rfl ?_
        refine sm_lt (fun k117 => ∀ (v116 : Int32), Sim eX11_weight vI 108 [] [iv v116, iv (v115 + (1 : Int32))] (k117 v116)) ?_ (fun k117 hk117 => ?_)
        · intro v116
          refine sm_iadd (pc' := 109) dX11_weight_108 rfl ?_
          exact sm_ireturn rfl dX11_weight_109
        · skip
          refine sm_if_eq (pc' := 98) (pc1 := 107) dX11_weight_95 (by decide) rfl (fun _ => ?_) (fun _ => ?_)
          · skip
            refine sm_iconst (pc' := 108) (0 : Int32) dX11_weight_107 (by decide) rfl ?_
            refine sm_sub [] rfl ?_
            exact hk117 (0 : Int32)
          · skip
            refine sm_aload_n (pc' := 99) dX11_weight_98 rfl rfl ?_
            refine sm_getF (pc' := 102) fk_X11_32 yr_11_9 dX11_weight_99 rfl (fun v118 => ?_)
            refine sm_iload_n (pc' := 103) dX11_weight_102 rfl rfl ?_
            rcases v118 with _ | a119
            · exact sm_unN
            refine sm_unS ?_
            refine sm_iaload (pc' := 104) dX11_weight_103 rfl (fun v120 => ?_)
            refine sm_goto (pc' := 108) dX11_weight_104 (by decide) ?_
            refine sm_sub [] rfl ?_
            exact hk117 v120
    · skip
      refine sm_if_eq (pc' := 40) (pc1 := 46) dX11_weight_37 (by decide) rfl (fun _ => ?_) (fun _ => ?_)
      · skip
        refine sm_sub [2, 3, 1, 0] rfl ?_
        exact hk108
      · skip
        refine sm_aload_n (pc' := 41) dX11_weight_40 rfl rfl ?_
        refine sm_bipush (pc' := 43) (12 : Int32) dX11_weight_41 (by decide) rfl ?_
        refine sm_callv (pc' := 46) (sa := [iv (12 : Int32), qv (some th)]) (st := []) (iv_X11_176 th (12 : Int32)) (Nat.le_of_ble_eq_true rfl) dX11_weight_43 rfl (Nat.le_of_ble_eq_true rfl) (fun _ => ?_)
        refine sm_sub [2, 3, 1, 0] rfl ?_
        exact hk108
  · skip
    refine sm_aload_n (pc' := 13) dX11_weight_12 rfl rfl ?_
    refine sm_bipush (pc' := 15) (13 : Int32) dX11_weight_13 (by decide) rfl ?_
    refine sm_callv (pc' := 18) (sa := [iv (13 : Int32), qv (some th)]) (st := []) (iv_X11_176 th (13 : Int32)) (Nat.le_of_ble_eq_true rfl) dX11_weight_15 rfl (Nat.le_of_ble_eq_true rfl) (fun _ => ?_)
    refine sm_aload_n (pc' := 19) dX11_weight_18 rfl rfl ?_
    refine sm_getF (pc' := 22) fk_X11_23 yr_11_6 dX11_weight_19 rfl (fun v121 => ?_)
    refine sm_iload_n (pc' := 23) dX11_weight_22 rfl rfl ?_
    rcases v121 with _ | a122
    · exact sm_unN
    refine sm_unS ?_
    refine sm_iaload (pc' := 24) dX11_weight_23 rfl (fun v123 => ?_)
    exact sm_ireturn rfl dX11_weight_24
theorem kX11_weight (th : Nat) (a1 : Int32) : Callee 1 yX11_weight cX11_weight 5 (some .int) [qv (some th), iv a1] vI (pX11_weight th a1) := callee_ofS [(0, qv (some th)), (1, iv a1)] (by decide +kernel) (Nat.le_of_ble_eq_true rfl) rfl (sX11_weight th a1)
/-! HollowPressModel.marked(I)I -/
set_option maxRecDepth 20000 in
theorem iv_X11_180 (a : Nat) (x0 : Int32) : Inv RX11 2 (.invokevirtual 180) [iv x0, qv (some a)] vI (onT a 11 (pX11_weight a x0)) := inv_V (As := [iv x0]) (t := 11) (kX11_weight a x0) _ (by decide) rfl rfl w_600 w_601 w_602 w_585 w_603 ⟨by decide +kernel, by decide +kernel, by show _ = some 1; decide +kernel⟩ (by decide)
abbrev eX11_marked : Env0 := (RX11, "marked", cX11_marked, 4, (some .int), 2)
def pX11_marked_L20 (th : Nat) (a1 : Int32) (k116 : Int32 → Prg Int32) : Nat → Int32 → Int32 → Prg Int32
  | 0, _, _ => fl
  | n + 1, v114, v115 =>
    gF 11 th 6 fun v117 =>
    un v117 fun a118 =>
    ldI a118 a1 fun v119 =>
    (if v119 ≤ v115 then k116 v114
    else gF 11 th 12 fun v120 =>
    un v120 fun a121 =>
    ldI a121 (((20 : Int32) * a1) + v115) fun v122 =>
    (lt (fun (v123 : Int32) => pX11_marked_L20 th a1 k116 n v123 (v115 + (1 : Int32)) : Int32 → Prg Int32) fun k124 =>
    (if v122 ≤ v114 then k124 v114
    else gF 11 th 12 fun v125 =>
    un v125 fun a126 =>
    ldI a126 (((20 : Int32) * a1) + v115) fun v127 =>
    k124 v127)))
def pX11_marked (th : Nat) (a1 : Int32) : Prg Int32 :=
    gF 11 th 5 fun v101 =>
    un v101 fun a102 =>
    ldI a102 a1 fun v103 =>
    (if v103 = (4 : Int32) then cl (onT th 11 (pX11_began th (22 : Int32))) fun _ =>
    pX11_marked_L20 th a1 (fun (v128 : Int32) => rt v128) FL (0 : Int32) (0 : Int32)
    else gF 11 th 5 fun v104 =>
    un v104 fun a105 =>
    ldI a105 a1 fun v106 =>
    (lt (cl (onT th 11 (pX11_began th (20 : Int32))) fun _ =>
    cl (onT th 11 (pX11_weight th a1)) fun v108 =>
    gF 11 th 5 fun v109 =>
    un v109 fun a110 =>
    ldI a110 a1 fun v111 =>
    (lt (fun (v112 : Int32) => rt v112 : Int32 → Prg Int32) fun k113 =>
    (if v111 = (3 : Int32) then k113 ((2 : Int32) * (v108 + (5 : Int32)))
    else k113 (v108 + (5 : Int32)))) : Prg Int32) fun k107 =>
    (if v106 = (3 : Int32) then cl (onT th 11 (pX11_began th (21 : Int32))) fun _ =>
    k107
    else k107)))
set_option maxRecDepth 20000 in
theorem sX11_marked_L20 (th : Nat) (a1 : Int32) (k116 : Int32 → Prg Int32) (hk116 : ∀ (q2 : Int32), Sim eX11_marked vI 67 [(2, iv q2)] [] (k116 q2)) : ∀ (n : Nat), ∀ (v114 : Int32) (v115 : Int32), Sim eX11_marked vI 20 [(0, qv (some th)), (1, iv a1), (2, iv v114), (3, iv v115)] [] (pX11_marked_L20 th a1 k116 n v114 v115) := by
  intro n
  induction n with
  | zero =>
    intros
    exact sm_fl
  | succ n ih =>
    intro v114 v115
    unfold pX11_marked_L20
    refine sm_iload_n (pc' := 21) dX11_marked_20 rfl rfl ?_
    refine sm_aload_n (pc' := 22) dX11_marked_21 rfl rfl ?_
    refine sm_getF (pc' := 25) fk_X11_23 yr_11_6 dX11_marked_22 rfl (fun v117 => ?_)
    refine sm_iload_n (pc' := 26) dX11_marked_25 rfl rfl ?_
    rcases v117 with _ | a118
    · exact sm_unN
    refine sm_unS ?_
    refine sm_iaload (pc' := 27) dX11_marked_26 rfl (fun v119 => ?_)
    refine sm_icmp_ge (pc' := 30) (pc1 := 67) dX11_marked_27 (by decide) rfl (fun _ => ?_) (fun _ => ?_)
    · skip
      refine sm_sub [2] rfl ?_
      exact hk116 v114
    · skip
      refine sm_aload_n (pc' := 31) dX11_marked_30 rfl rfl ?_
      refine sm_getF (pc' := 34) fk_X11_42 yr_11_12 dX11_marked_31 rfl (fun v120 => ?_)
      refine sm_bipush (pc' := 36) (20 : Int32) dX11_marked_34 (by decide) rfl ?_
      refine sm_iload_n (pc' := 37) dX11_marked_36 rfl rfl ?_
      refine sm_imul (pc' := 38) dX11_marked_37 rfl ?_
      refine sm_iload_n (pc' := 39) dX11_marked_38 rfl rfl ?_
      refine sm_iadd (pc' := 40) dX11_marked_39 rfl ?_
      rcases v120 with _ | a121
      · exact sm_unN
      refine sm_unS ?_
      refine sm_iaload (pc' := 41) dX11_marked_40 rfl (fun v122 => ?_)
      refine sm_iload_n (pc' := 42) dX11_marked_41 rfl rfl ?_
      refine sm_lt (fun k124 => ∀ (v123 : Int32), Sim eX11_marked vI 60 [(0, qv (some th)), (1, iv a1), (3, iv v115)] [iv v123] (k124 v123)) ?_ (fun k124 hk124 => ?_)
      · intro v123
        refine sm_istore_n (pc' := 61) [(2, iv v123), (0, qv (some th)), (1, iv a1), (3, iv v115)] dX11_marked_60 rfl (Nat.le_of_ble_eq_true rfl) rfl rfl ?_
        refine sm_iinc (pc' := 64) (v115 + (1 : Int32)) [(3, iv (v115 + (1 : Int32))), (2, iv v123), (0, qv (some th)), (1, iv a1)] dX11_marked_61 rfl rfl (Nat.le_of_ble_eq_true rfl) rfl rfl ?_
        refine sm_goto (pc' := 20) dX11_marked_64 (by decide) ?_
        refine sm_sub [2, 3, 1, 0] rfl ?_
        exact ih v123 (v115 + (1 : Int32))
      · skip
        refine sm_icmp_le (pc' := 45) (pc1 := 59) dX11_marked_42 (by decide) rfl (fun _ => ?_) (fun _ => ?_)
        · skip
          refine sm_iload_n (pc' := 60) dX11_marked_59 rfl rfl ?_
          refine sm_sub [0, 1, 3] rfl ?_
          exact hk124 v114
        · skip
          refine sm_aload_n (pc' := 46) dX11_marked_45 rfl rfl ?_
          refine sm_getF (pc' := 49) fk_X11_42 yr_11_12 dX11_marked_46 rfl (fun v125 => ?_)
          refine sm_bipush (pc' := 51) (20 : Int32) dX11_marked_49 (by decide) rfl ?_
          refine sm_iload_n (pc' := 52) dX11_marked_51 rfl rfl ?_
          refine sm_imul (pc' := 53) dX11_marked_52 rfl ?_
          refine sm_iload_n (pc' := 54) dX11_marked_53 rfl rfl ?_
          refine sm_iadd (pc' := 55) dX11_marked_54 rfl ?_
          rcases v125 with _ | a126
          · exact sm_unN
          refine sm_unS ?_
          refine sm_iaload (pc' := 56) dX11_marked_55 rfl (fun v127 => ?_)
          refine sm_goto (pc' := 60) dX11_marked_56 (by decide) ?_
          refine sm_sub [0, 1, 3] rfl ?_
          exact hk124 v127
set_option maxRecDepth 20000 in
theorem sX11_marked (th : Nat) (a1 : Int32) : Sim eX11_marked vI 0 [(0, qv (some th)), (1, iv a1)] [] (pX11_marked th a1) := by
  unfold pX11_marked
  refine sm_aload_n (pc' := 1) dX11_marked_0 rfl rfl ?_
  refine sm_getF (pc' := 4) fk_X11_20 yr_11_5 dX11_marked_1 rfl (fun v101 => ?_)
  refine sm_iload_n (pc' := 5) dX11_marked_4 rfl rfl ?_
  rcases v101 with _ | a102
  · exact sm_unN
  refine sm_unS ?_
  refine sm_iaload (pc' := 6) dX11_marked_5 rfl (fun v103 => ?_)
  refine sm_iconst (pc' := 7) (4 : Int32) dX11_marked_6 (by decide) rfl ?_
  refine sm_icmp_ne (pc' := 10) (pc1 := 69) dX11_marked_7 (by decide) rfl (fun _ => ?_) (fun _ => ?_)
  · skip
    refine sm_aload_n (pc' := 70) dX11_marked_69 rfl rfl ?_
    refine sm_getF (pc' := 73) fk_X11_20 yr_11_5 dX11_marked_70 rfl (fun v104 => ?_)
    refine sm_iload_n (pc' := 74) dX11_marked_73 rfl rfl ?_
    rcases v104 with _ | a105
    · exact sm_unN
    refine sm_unS ?_
    refine sm_iaload (pc' := 75) dX11_marked_74 rfl (fun v106 => ?_)
    refine sm_iconst (pc' := 76) (3 : Int32) dX11_marked_75 (by decide) rfl ?_
    refine sm_lt (fun k107 => Sim eX11_marked vI 85 [(0, qv (some th)), (1, iv a1)] [] (k107)) ?_ (fun k107 hk107 => ?_)
    · skip
      refine sm_aload_n (pc' := 86) dX11_marked_85 rfl rfl ?_
      refine sm_bipush (pc' := 88) (20 : Int32) dX11_marked_86 (by decide) rfl ?_
      refine sm_callv (pc' := 91) (sa := [iv (20 : Int32), qv (some th)]) (st := []) (iv_X11_176 th (20 : Int32)) (Nat.le_of_ble_eq_true rfl) dX11_marked_88 rfl (Nat.le_of_ble_eq_true rfl) (fun _ => ?_)
      refine sm_aload_n (pc' := 92) dX11_marked_91 rfl rfl ?_
      refine sm_iload_n (pc' := 93) dX11_marked_92 rfl rfl ?_
      refine sm_calli (pc' := 96) (sa := [iv a1, qv (some th)]) (st := []) (iv_X11_180 th a1) (Nat.le_of_ble_eq_true rfl) dX11_marked_93 rfl (Nat.le_of_ble_eq_true rfl) (fun v108 => ?_)
      refine sm_iconst (pc' := 97) (5 : Int32) dX11_marked_96 (by decide) rfl ?_
      refine sm_iadd (pc' := 98) dX11_marked_97 rfl ?_
      refine sm_istore_n (pc' := 99) [(2, iv (v108 + (5 : Int32))), (0, qv (some th)), (1, iv a1)] dX11_marked_98 rfl (Nat.le_of_ble_eq_true rfl) rfl rfl ?_
      refine sm_aload_n (pc' := 100) dX11_marked_99 rfl rfl ?_
      refine sm_getF (pc' := 103) fk_X11_20 yr_11_5 dX11_marked_100 rfl (fun v109 => ?_)
      refine sm_iload_n (pc' := 104) dX11_marked_103 rfl rfl ?_
      rcases v109 with _ | a110
      · exact sm_unN
      refine sm_unS ?_
      refine sm_iaload (pc' := 105) dX11_marked_104 rfl (fun v111 => ?_)
      refine sm_iconst (pc' := 106) (3 : Int32) dX11_marked_105 (by decide) rfl ?_
      refine sm_lt (fun k113 => ∀ (v112 : Int32), Sim eX11_marked vI 116 [] [iv v112] (k113 v112)) ?_ (fun k113 hk113 => ?_)
      · intro v112
        exact sm_ireturn rfl dX11_marked_116
      · skip
        refine sm_icmp_ne (pc' := 109) (pc1 := 115) dX11_marked_106 (by decide) rfl (fun _ => ?_) (fun _ => ?_)
        · skip
          refine sm_iload_n (pc' := 116) dX11_marked_115 rfl rfl ?_
          refine sm_sub [] rfl ?_
          exact hk113 (v108 + (5 : Int32))
        · skip
          refine sm_iconst (pc' := 110) (2 : Int32) dX11_marked_109 (by decide) rfl ?_
          refine sm_iload_n (pc' := 111) dX11_marked_110 rfl rfl ?_
          refine sm_imul (pc' := 112) dX11_marked_111 rfl ?_
          refine sm_goto (pc' := 116) dX11_marked_112 (by decide) ?_
          refine sm_sub [] rfl ?_
          exact hk113 ((2 : Int32) * (v108 + (5 : Int32)))
    · skip
      refine sm_icmp_ne (pc' := 79) (pc1 := 85) dX11_marked_76 (by decide) rfl (fun _ => ?_) (fun _ => ?_)
      · skip
        exact hk107
      · skip
        refine sm_aload_n (pc' := 80) dX11_marked_79 rfl rfl ?_
        refine sm_bipush (pc' := 82) (21 : Int32) dX11_marked_80 (by decide) rfl ?_
        refine sm_callv (pc' := 85) (sa := [iv (21 : Int32), qv (some th)]) (st := []) (iv_X11_176 th (21 : Int32)) (Nat.le_of_ble_eq_true rfl) dX11_marked_82 rfl (Nat.le_of_ble_eq_true rfl) (fun _ => ?_)
        exact hk107
  · skip
    refine sm_aload_n (pc' := 11) dX11_marked_10 rfl rfl ?_
    refine sm_bipush (pc' := 13) (22 : Int32) dX11_marked_11 (by decide) rfl ?_
    refine sm_callv (pc' := 16) (sa := [iv (22 : Int32), qv (some th)]) (st := []) (iv_X11_176 th (22 : Int32)) (Nat.le_of_ble_eq_true rfl) dX11_marked_13 rfl (Nat.le_of_ble_eq_true rfl) (fun _ => ?_)
    refine sm_iconst (pc' := 17) (0 : Int32) dX11_marked_16 (by decide) rfl ?_
    refine sm_istore_n (pc' := 18) [(2, iv (0 : Int32)), (0, qv (some th)), (1, iv a1)] dX11_marked_17 rfl (Nat.le_of_ble_eq_true rfl) rfl rfl ?_
    refine sm_iconst (pc' := 19) (0 : Int32) dX11_marked_18 (by decide) rfl ?_
    refine sm_istore_n (pc' := 20) [(3, iv (0 : Int32)), (2, iv (0 : Int32)), (0, qv (some th)), (1, iv a1)] dX11_marked_19 rfl (Nat.le_of_ble_eq_true rfl) rfl rfl ?_
    refine sm_sub [2, 3, 1, 0] rfl ?_
    refine sX11_marked_L20 th a1 _ ?_ FL (0 : Int32) (0 : Int32)
    · intro v128
      refine sm_iload_n (pc' := 68) dX11_marked_67 rfl rfl ?_
      exact sm_ireturn rfl dX11_marked_68
theorem kX11_marked (th : Nat) (a1 : Int32) : Callee 2 yX11_marked cX11_marked 4 (some .int) [qv (some th), iv a1] vI (pX11_marked th a1) := callee_ofS [(0, qv (some th)), (1, iv a1)] (by decide +kernel) (Nat.le_of_ble_eq_true rfl) rfl (sX11_marked th a1)
