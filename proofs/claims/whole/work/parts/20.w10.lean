/-! HollowPressModel.ask(II)I -/
set_option maxRecDepth 20000 in
theorem iv_X11_153 (x0 : Int32) : Inv RX11 2 (.invokestatic 153) [iv x0] vI (pX11_isPlace x0) := inv_S (As := [iv x0]) (kX11_isPlace x0) w_606 w_607 w_585 w_608 ⟨by decide +kernel, by decide +kernel, by show _ = some 1; decide +kernel⟩ (by decide)
set_option maxRecDepth 20000 in
theorem iv_X11_183 (a : Nat) (x0 : Int32) : Inv RX11 3 (.invokevirtual 183) [iv x0, qv (some a)] vI (onT a 11 (pX11_marked a x0)) := inv_V (As := [iv x0]) (t := 11) (kX11_marked a x0) _ (by decide) rfl rfl w_610 w_611 w_612 w_585 w_613 ⟨by decide +kernel, by decide +kernel, by show _ = some 1; decide +kernel⟩ (by decide)
set_option maxRecDepth 20000 in
theorem iv_X11_145 (a : Nat) (x0 : Int32) : Inv RX11 1 (.invokevirtual 145) [iv x0, qv (some a)] vI (onT a 11 (pX11_found a x0)) := inv_V (As := [iv x0]) (t := 11) (kX11_found a x0) _ (by decide) rfl rfl w_614 w_615 w_616 w_585 w_617 ⟨by decide +kernel, by decide +kernel, by show _ = some 1; decide +kernel⟩ (by decide)
abbrev eX11_ask : Env0 := (RX11, "ask", cX11_ask, 3, (some .int), 3)
def pX11_ask (th : Nat) (a1 : Int32) (a2 : Int32) : Prg Int32 :=
    pI 11 th 0 (0 : Int32) (
    cl (pX11_isPlace a1) fun v101 =>
    (lt (rt (-1000001 : Int32) : Prg Int32) fun k102 =>
    (if v101 = 0 then k102
    else cl (pX11_in (Int32.toInt64 a2) (0 : Int64) (1 : Int64)) fun v103 =>
    (if v103 = 0 then k102
    else pI 11 th 17 (0 : Int32) (
    pI 11 th 1 (0 : Int32) (
    gF 11 th 5 fun v104 =>
    un v104 fun a105 =>
    ldI a105 a1 fun v106 =>
    (lt (fun (v107 : Int32) => rt v107 : Int32 → Prg Int32) fun k108 =>
    (if 0 ≤ v106 then (if a2 = 0 then cl (onT th 11 (pX11_weight th a1)) fun v110 =>
    k108 v110
    else cl (onT th 11 (pX11_marked th a1)) fun v109 =>
    k108 v109)
    else cl (onT th 11 (pX11_found th (1 : Int32))) fun v111 =>
    k108 v111))))))))
set_option maxRecDepth 20000 in
theorem sX11_ask (th : Nat) (a1 : Int32) (a2 : Int32) : Sim eX11_ask vI 0 [(0, qv (some th)), (1, iv a1), (2, iv a2)] [] (pX11_ask th a1 a2) := by
  unfold pX11_ask
  refine sm_aload_n (pc' := 1) dX11_ask_0 rfl rfl ?_
  refine sm_iconst (pc' := 2) (0 : Int32) dX11_ask_1 (by decide) rfl ?_
  refine sm_putI (pc' := 5) (gk_X11_124 _ _ _ _ _) ti_11_0 dX11_ask_2 rfl ?_
  refine sm_iload_n (pc' := 6) dX11_ask_5 rfl rfl ?_
  refine sm_calli (pc' := 9) (sa := [iv a1]) (st := []) (iv_X11_153 a1) (Nat.le_of_ble_eq_true rfl) dX11_ask_6 rfl (Nat.le_of_ble_eq_true rfl) (fun v101 => ?_)
  refine sm_lt (fun k102 => Sim eX11_ask vI 22 [] [] (k102)) ?_ (fun k102 hk102 => ?_)
  · skip
    refine sm_ldc (pc' := 24) (-1000001 : Int32) w_609 dX11_ask_22 rfl ?_
    exact sm_ireturn rfl dX11_ask_24
  · skip
    refine sm_if_eq (pc' := 12) (pc1 := 22) dX11_ask_9 (by decide) rfl (fun _ => ?_) (fun _ => ?_)
    · skip
      refine sm_sub [] rfl ?_
      exact hk102
    · skip
      refine sm_iload_n (pc' := 13) dX11_ask_12 rfl rfl ?_
      refine sm_i2l (pc' := 14) dX11_ask_13 rfl ?_
      refine sm_lconst (pc' := 15) (0 : Int64) dX11_ask_14 (by decide) rfl ?_
      refine sm_lconst (pc' := 16) (1 : Int64) dX11_ask_15 (by decide) rfl ?_
      refine sm_calli (pc' := 19) (sa := [jv (1 : Int64), jv (0 : Int64), jv (Int32.toInt64 a2)]) (st := []) (iv_X11_134 (Int32.toInt64 a2) (0 : Int64) (1 : Int64)) (Nat.le_of_ble_eq_true rfl) dX11_ask_16 rfl (Nat.le_of_ble_eq_true rfl) (fun v103 => ?_)
      refine sm_if_ne (pc' := 22) (pc1 := 25) dX11_ask_19 (by decide) rfl (fun _ => ?_) (fun _ => ?_)
      · skip
        refine sm_aload_n (pc' := 26) dX11_ask_25 rfl rfl ?_
        refine sm_iconst (pc' := 27) (0 : Int32) dX11_ask_26 (by decide) rfl ?_
        refine sm_putI (pc' := 30) (gk_X11_173 _ _ _ _ _) ti_11_17 dX11_ask_27 rfl ?_
        refine sm_aload_n (pc' := 31) dX11_ask_30 rfl rfl ?_
        refine sm_iconst (pc' := 32) (0 : Int32) dX11_ask_31 (by decide) rfl ?_
        refine sm_putI (pc' := 35) (gk_X11_128 _ _ _ _ _) ti_11_1 dX11_ask_32 rfl ?_
        refine sm_aload_n (pc' := 36) dX11_ask_35 rfl rfl ?_
        refine sm_getF (pc' := 39) fk_X11_20 yr_11_5 dX11_ask_36 rfl (fun v104 => ?_)
        refine sm_iload_n (pc' := 40) dX11_ask_39 rfl rfl ?_
        rcases v104 with _ | a105
        · exact sm_unN
        refine sm_unS ?_
        refine sm_iaload (pc' := 41) dX11_ask_40 rfl (fun v106 => ?_)
        refine sm_lt (fun k108 => ∀ (v107 : Int32), Sim eX11_ask vI 69 [] [iv v107] (k108 v107)) ?_ (fun k108 hk108 => ?_)
        · intro v107
          exact sm_ireturn rfl dX11_ask_69
        · skip
          refine sm_if_ge (pc' := 44) (pc1 := 52) dX11_ask_41 (by decide) rfl (fun _ => ?_) (fun _ => ?_)
          · skip
            refine sm_iload_n (pc' := 53) dX11_ask_52 rfl rfl ?_
            refine sm_if_ne (pc' := 56) (pc1 := 64) dX11_ask_53 (by decide) rfl (fun _ => ?_) (fun _ => ?_)
            · skip
              refine sm_aload_n (pc' := 65) dX11_ask_64 rfl rfl ?_
              refine sm_iload_n (pc' := 66) dX11_ask_65 rfl rfl ?_
              refine sm_calli (pc' := 69) (sa := [iv a1, qv (some th)]) (st := []) (iv_X11_183 th a1) (Nat.le_of_ble_eq_true rfl) dX11_ask_66 rfl (Nat.le_of_ble_eq_true rfl) (fun v109 => ?_)
              refine sm_sub [] rfl ?_
              exact hk108 v109
            · skip
              refine sm_aload_n (pc' := 57) dX11_ask_56 rfl rfl ?_
              refine sm_iload_n (pc' := 58) dX11_ask_57 rfl rfl ?_
              refine sm_calli (pc' := 61) (sa := [iv a1, qv (some th)]) (st := []) (iv_X11_180 th a1) (Nat.le_of_ble_eq_true rfl) dX11_ask_58 rfl (Nat.le_of_ble_eq_true rfl) (fun v110 => ?_)
              refine sm_goto (pc' := 69) dX11_ask_61 (by decide) ?_
              refine sm_sub [] rfl ?_
              exact hk108 v110
          · skip
            refine sm_aload_n (pc' := 45) dX11_ask_44 rfl rfl ?_
            refine sm_iconst (pc' := 46) (1 : Int32) dX11_ask_45 (by decide) rfl ?_
            refine sm_calli (pc' := 49) (sa := [iv (1 : Int32), qv (some th)]) (st := []) (iv_X11_145 th (1 : Int32)) (Nat.le_of_ble_eq_true rfl) dX11_ask_46 rfl (Nat.le_of_ble_eq_true rfl) (fun v111 => ?_)
            refine sm_goto (pc' := 69) dX11_ask_49 (by decide) ?_
            refine sm_sub [] rfl ?_
            exact hk108 v111
      · skip
        refine sm_sub [] rfl ?_
        exact hk102
theorem kX11_ask (th : Nat) (a1 : Int32) (a2 : Int32) : Callee 3 yX11_ask cX11_ask 3 (some .int) [qv (some th), iv a1, iv a2] vI (pX11_ask th a1 a2) := callee_ofS [(0, qv (some th)), (1, iv a1), (2, iv a2)] (by decide +kernel) (Nat.le_of_ble_eq_true rfl) rfl (sX11_ask th a1 a2)
/-! HollowPressModel.asked(II)I -/
abbrev eX11_asked : Env0 := (RX11, "asked", cX11_asked, 3, (some .int), 1)
def pX11_asked (th : Nat) (a1 : Int32) (a2 : Int32) : Prg Int32 :=
    gF 11 th 5 fun v101 =>
    un v101 fun a102 =>
    ldI a102 a1 fun v103 =>
    (lt (fun (v104 : Int32) => rt v104 : Int32 → Prg Int32) fun k105 =>
    (if 0 ≤ v103 then gF 11 th 5 fun v106 =>
    un v106 fun a107 =>
    ldI a107 a1 fun v108 =>
    cl (pX11_isOf v108 a2) fun v109 =>
    (if v109 = 0 then k105 (3 : Int32)
    else k105 (0 : Int32))
    else k105 (1 : Int32)))
set_option maxRecDepth 20000 in
theorem sX11_asked (th : Nat) (a1 : Int32) (a2 : Int32) : Sim eX11_asked vI 0 [(0, qv (some th)), (1, iv a1), (2, iv a2)] [] (pX11_asked th a1 a2) := by
  unfold pX11_asked
  refine sm_aload_n (pc' := 1) dX11_asked_0 rfl rfl ?_
  refine sm_getF (pc' := 4) fk_X11_20 yr_11_5 dX11_asked_1 rfl (fun v101 => ?_)
  refine sm_iload_n (pc' := 5) dX11_asked_4 rfl rfl ?_
  rcases v101 with _ | a102
  · exact sm_unN
  refine sm_unS ?_
  refine sm_iaload (pc' := 6) dX11_asked_5 rfl (fun v103 => ?_)
  refine sm_lt (fun k105 => ∀ (v104 : Int32), Sim eX11_asked vI 31 [] [iv v104] (k105 v104)) ?_ (fun k105 hk105 => ?_)
  · intro v104
    exact sm_ireturn rfl dX11_asked_31
  · skip
    refine sm_if_ge (pc' := 9) (pc1 := 13) dX11_asked_6 (by decide) rfl (fun _ => ?_) (fun _ => ?_)
    · skip
      refine sm_aload_n (pc' := 14) dX11_asked_13 rfl rfl ?_
      refine sm_getF (pc' := 17) fk_X11_20 yr_11_5 dX11_asked_14 rfl (fun v106 => ?_)
      refine sm_iload_n (pc' := 18) dX11_asked_17 rfl rfl ?_
      rcases v106 with _ | a107
      · exact sm_unN
      refine sm_unS ?_
      refine sm_iaload (pc' := 19) dX11_asked_18 rfl (fun v108 => ?_)
      refine sm_iload_n (pc' := 20) dX11_asked_19 rfl rfl ?_
      refine sm_calli (pc' := 23) (sa := [iv a2, iv v108]) (st := []) (iv_X11_169 v108 a2) (Nat.le_of_ble_eq_true rfl) dX11_asked_20 rfl (Nat.le_of_ble_eq_true rfl) (fun v109 => ?_)
      refine sm_if_eq (pc' := 26) (pc1 := 30) dX11_asked_23 (by decide) rfl (fun _ => ?_) (fun _ => ?_)
      · skip
        refine sm_iconst (pc' := 31) (3 : Int32) dX11_asked_30 (by decide) rfl ?_
        refine sm_sub [] rfl ?_
        exact hk105 (3 : Int32)
      · skip
        refine sm_iconst (pc' := 27) (0 : Int32) dX11_asked_26 (by decide) rfl ?_
        refine sm_goto (pc' := 31) dX11_asked_27 (by decide) ?_
        refine sm_sub [] rfl ?_
        exact hk105 (0 : Int32)
    · skip
      refine sm_iconst (pc' := 10) (1 : Int32) dX11_asked_9 (by decide) rfl ?_
      refine sm_goto (pc' := 31) dX11_asked_10 (by decide) ?_
      refine sm_sub [] rfl ?_
      exact hk105 (1 : Int32)
theorem kX11_asked (th : Nat) (a1 : Int32) (a2 : Int32) : Callee 1 yX11_asked cX11_asked 3 (some .int) [qv (some th), iv a1, iv a2] vI (pX11_asked th a1 a2) := callee_ofS [(0, qv (some th)), (1, iv a1), (2, iv a2)] (by decide +kernel) (Nat.le_of_ble_eq_true rfl) rfl (sX11_asked th a1 a2)
/-! HollowPressModel.ends()I -/
abbrev eX11_ends : Env0 := (RX11, "ends", cX11_ends, 1, (some .int), 0)
def pX11_ends (th : Nat) : Prg Int32 :=
    gI 11 th 23 fun v101 =>
    (lt (fun (v102 : Int32) => rt v102 : Int32 → Prg Int32) fun k103 =>
    (if v101 = 0 then k103 (0 : Int32)
    else gF 11 th 18 fun v104 =>
    gF 11 th 20 fun v105 =>
    gI 11 th 23 fun v106 =>
    un v105 fun a107 =>
    ldI a107 (v106 - (1 : Int32)) fun v108 =>
    un v104 fun a109 =>
    ldI a109 v108 fun v110 =>
    k103 v110))
set_option maxRecDepth 20000 in
theorem sX11_ends (th : Nat) : Sim eX11_ends vI 0 [(0, qv (some th))] [] (pX11_ends th) := by
  unfold pX11_ends
  refine sm_aload_n (pc' := 1) dX11_ends_0 rfl rfl ?_
  refine sm_getI (pc' := 4) fk_X11_195 nr_11_23 dX11_ends_1 rfl (fun v101 => ?_)
  refine sm_lt (fun k103 => ∀ (v102 : Int32), Sim eX11_ends vI 27 [] [iv v102] (k103 v102)) ?_ (fun k103 hk103 => ?_)
  · intro v102
    exact sm_ireturn rfl dX11_ends_27
  · skip
    refine sm_if_ne (pc' := 7) (pc1 := 11) dX11_ends_4 (by decide) rfl (fun _ => ?_) (fun _ => ?_)
    · skip
      refine sm_aload_n (pc' := 12) dX11_ends_11 rfl rfl ?_
      refine sm_getF (pc' := 15) fk_X11_57 yr_11_18 dX11_ends_12 rfl (fun v104 => ?_)
      refine sm_aload_n (pc' := 16) dX11_ends_15 rfl rfl ?_
      refine sm_getF (pc' := 19) fk_X11_63 yr_11_20 dX11_ends_16 rfl (fun v105 => ?_)
      refine sm_aload_n (pc' := 20) dX11_ends_19 rfl rfl ?_
      refine sm_getI (pc' := 23) fk_X11_195 nr_11_23 dX11_ends_20 rfl (fun v106 => ?_)
      refine sm_iconst (pc' := 24) (1 : Int32) dX11_ends_23 (by decide) rfl ?_
      refine sm_isub (pc' := 25) dX11_ends_24 rfl ?_
      rcases v105 with _ | a107
      · exact sm_unN
      refine sm_unS ?_
      refine sm_iaload (pc' := 26) dX11_ends_25 rfl (fun v108 => ?_)
      rcases v104 with _ | a109
      · exact sm_unN
      refine sm_unS ?_
      refine sm_iaload (pc' := 27) dX11_ends_26 rfl (fun v110 => ?_)
      refine sm_sub [] rfl ?_
      exact hk103 v110
    · skip
      refine sm_iconst (pc' := 8) (0 : Int32) dX11_ends_7 (by decide) rfl ?_
      refine sm_goto (pc' := 27) dX11_ends_8 (by decide) ?_
      refine sm_sub [] rfl ?_
      exact hk103 (0 : Int32)
theorem kX11_ends (th : Nat) : Callee 0 yX11_ends cX11_ends 1 (some .int) [qv (some th)] vI (pX11_ends th) := callee_ofS [(0, qv (some th))] (by decide +kernel) (Nat.le_of_ble_eq_true rfl) rfl (sX11_ends th)
/-! HollowPressModel.drag(I)I -/
abbrev eX11_drag : Env0 := (RX11, "drag", cX11_drag, 1, (some .int), 0)
def pX11_drag (a1 : Int32) : Prg Int32 :=
    dv (5000 : Int32) ((a1 * a1) * a1) fun v101 =>
    rt v101
set_option maxRecDepth 20000 in
theorem sX11_drag (a1 : Int32) : Sim eX11_drag vI 0 [(0, iv a1)] [] (pX11_drag a1) := by
  unfold pX11_drag
  refine sm_sipush (pc' := 3) (5000 : Int32) dX11_drag_0 (by decide) rfl ?_
  refine sm_iload_n (pc' := 4) dX11_drag_3 rfl rfl ?_
  refine sm_iload_n (pc' := 5) dX11_drag_4 rfl rfl ?_
  refine sm_imul (pc' := 6) dX11_drag_5 rfl ?_
  refine sm_iload_n (pc' := 7) dX11_drag_6 rfl rfl ?_
  refine sm_imul (pc' := 8) dX11_drag_7 rfl ?_
  refine sm_idiv (pc' := 9) dX11_drag_8 rfl (fun _ v101 _ => ?_)
  exact sm_ireturn rfl dX11_drag_9
theorem kX11_drag (a1 : Int32) : Callee 0 yX11_drag cX11_drag 1 (some .int) [iv a1] vI (pX11_drag a1) := callee_ofS [(0, iv a1)] (by decide +kernel) (Nat.le_of_ble_eq_true rfl) rfl (sX11_drag a1)
/-! HollowPressModel.neighbour(III)I -/
abbrev eX11_neighbour : Env0 := (RX11, "neighbour", cX11_neighbour, 7, (some .int), 1)
def pX11_neighbour (th : Nat) (a1 : Int32) (a2 : Int32) (a3 : Int32) : Prg Int32 :=
    gF 11 th 6 fun v101 =>
    un v101 fun a102 =>
    ldI a102 a1 fun v103 =>
    rm a2 v103 fun v104 =>
    (lt (fun (v105 : Int32) => dv a2 v103 fun v107 =>
    (lt (fun (v108 : Int32) => cl (pX11_in (Int32.toInt64 (v104 + v105)) (0 : Int64) (Int32.toInt64 (v103 - (1 : Int32)))) fun v110 =>
    (lt (fun (v111 : Int32) => rt v111 : Int32 → Prg Int32) fun k112 =>
    (lt (k112 (-1000000 : Int32) : Prg Int32) fun k113 =>
    (if v110 = 0 then k113
    else gF 11 th 7 fun v114 =>
    un v114 fun a115 =>
    ldI a115 a1 fun v116 =>
    cl (pX11_in (Int32.toInt64 (v107 + v108)) (0 : Int64) (Int32.toInt64 (v116 - (1 : Int32)))) fun v117 =>
    (if v117 = 0 then k113
    else gF 11 th 8 fun v118 =>
    un v118 fun a119 =>
    ldI a119 ((((144 : Int32) * a1) + (v103 * (v107 + v108))) + (v104 + v105)) fun v120 =>
    (if v120 ≤ 0 then k113
    else k112 ((v103 * (v107 + v108)) + (v104 + v105))))))) : Int32 → Prg Int32) fun k109 =>
    (if a3 = (2 : Int32) then k109 (1 : Int32)
    else (if a3 = (3 : Int32) then k109 (-1 : Int32)
    else k109 (0 : Int32)))) : Int32 → Prg Int32) fun k106 =>
    (if a3 = 0 then k106 (1 : Int32)
    else (if a3 = (1 : Int32) then k106 (-1 : Int32)
    else k106 (0 : Int32))))
set_option maxRecDepth 20000 in
theorem sX11_neighbour (th : Nat) (a1 : Int32) (a2 : Int32) (a3 : Int32) : Sim eX11_neighbour vI 0 [(0, qv (some th)), (1, iv a1), (2, iv a2), (3, iv a3)] [] (pX11_neighbour th a1 a2 a3) := by
  unfold pX11_neighbour
  refine sm_aload_n (pc' := 1) dX11_neighbour_0 rfl rfl ?_
  refine sm_getF (pc' := 4) fk_X11_23 yr_11_6 dX11_neighbour_1 rfl (fun v101 => ?_)
  refine sm_iload_n (pc' := 5) dX11_neighbour_4 rfl rfl ?_
  rcases v101 with _ | a102
  · exact sm_unN
  refine sm_unS ?_
  refine sm_iaload (pc' := 6) dX11_neighbour_5 rfl (fun v103 => ?_)
  refine sm_istore (pc' := 8) [(4, iv v103), (0, qv (some th)), (1, iv a1), (2, iv a2), (3, iv a3)] dX11_neighbour_6  (Nat.le_of_ble_eq_true rfl) rfl rfl ?_
  refine sm_iload_n (pc' := 9) dX11_neighbour_8 rfl rfl ?_
  refine sm_iload (pc' := 11) dX11_neighbour_9 rfl rfl ?_
  refine sm_irem (pc' := 12) dX11_neighbour_11 rfl (fun _ v104 _ => ?_)
  refine sm_iload_n (pc' := 13) dX11_neighbour_12 rfl rfl ?_
  refine sm_lt (fun k106 => ∀ (v105 : Int32), Sim eX11_neighbour vI 30 [(0, qv (some th)), (1, iv a1), (2, iv a2), (3, iv a3), (4, iv v103)] [iv v105, iv v104] (k106 v105)) ?_ (fun k106 hk106 => ?_)
  · intro v105
    refine sm_iadd (pc' := 31) dX11_neighbour_30 rfl ?_
    refine sm_istore (pc' := 33) [(5, iv (v104 + v105)), (0, qv (some th)), (1, iv a1), (2, iv a2), (3, iv a3), (4, iv v103)] dX11_neighbour_31  (Nat.le_of_ble_eq_true rfl) rfl rfl ?_
    refine sm_iload_n (pc' := 34) dX11_neighbour_33 rfl rfl ?_
    refine sm_iload (pc' := 36) dX11_neighbour_34 rfl rfl ?_
    refine sm_idiv (pc' := 37) dX11_neighbour_36 rfl (fun _ v107 _ => ?_)
    refine sm_iload_n (pc' := 38) dX11_neighbour_37 rfl rfl ?_
    refine sm_iconst (pc' := 39) (2 : Int32) dX11_neighbour_38 (by decide) rfl ?_
    refine sm_lt (fun k109 => ∀ (v108 : Int32), Sim eX11_neighbour vI 56 [(0, qv (some th)), (1, iv a1), (4, iv v103), (5, iv (v104 + v105))] [iv v108, iv v107] (k109 v108)) ?_ (fun k109 hk109 => ?_)
    · intro v108
      refine sm_iadd (pc' := 57) dX11_neighbour_56 rfl ?_
      refine sm_istore (pc' := 59) [(6, iv (v107 + v108)), (0, qv (some th)), (1, iv a1), (4, iv v103), (5, iv (v104 + v105))] dX11_neighbour_57  (Nat.le_of_ble_eq_true rfl) rfl rfl ?_
      refine sm_iload (pc' := 61) dX11_neighbour_59 rfl rfl ?_
      refine sm_i2l (pc' := 62) dX11_neighbour_61 rfl ?_
      refine sm_lconst (pc' := 63) (0 : Int64) dX11_neighbour_62 (by decide) rfl ?_
      refine sm_iload (pc' := 65) dX11_neighbour_63 rfl rfl ?_
      refine sm_iconst (pc' := 66) (1 : Int32) dX11_neighbour_65 (by decide) rfl ?_
      refine sm_isub (pc' := 67) dX11_neighbour_66 rfl ?_
      refine sm_i2l (pc' := 68) dX11_neighbour_67 rfl ?_
      refine sm_calli (pc' := 71) (sa := [jv (Int32.toInt64 (v103 - (1 : Int32))), jv (0 : Int64), jv (Int32.toInt64 (v104 + v105))]) (st := []) (iv_X11_134 (Int32.toInt64 (v104 + v105)) (0 : Int64) (Int32.toInt64 (v103 - (1 : Int32)))) (Nat.le_of_ble_eq_true rfl) dX11_neighbour_68 rfl (Nat.le_of_ble_eq_true rfl) (fun v110 => ?_)
      refine sm_lt (fun k112 => ∀ (v111 : Int32), Sim eX11_neighbour vI 128 [] [iv v111] (k112 v111)) ?_ (fun k112 hk112 => ?_)
      · intro v111
        exact sm_ireturn rfl dX11_neighbour_128
      · skip
        refine sm_lt (fun k113 => Sim eX11_neighbour vI 126 [] [] (k113)) ?_ (fun k113 hk113 => ?_)
        · skip
          refine sm_ldc (pc' := 128) (-1000000 : Int32) w_621 dX11_neighbour_126 rfl ?_
          exact hk112 (-1000000 : Int32)
        · skip
          refine sm_if_eq (pc' := 74) (pc1 := 126) dX11_neighbour_71 (by decide) rfl (fun _ => ?_) (fun _ => ?_)
          · skip
            refine sm_sub [] rfl ?_
            exact hk113
          · skip
            refine sm_iload (pc' := 76) dX11_neighbour_74 rfl rfl ?_
            refine sm_i2l (pc' := 77) dX11_neighbour_76 rfl ?_
            refine sm_lconst (pc' := 78) (0 : Int64) dX11_neighbour_77 (by decide) rfl ?_
            refine sm_aload_n (pc' := 79) dX11_neighbour_78 rfl rfl ?_
            refine sm_getF (pc' := 82) fk_X11_26 yr_11_7 dX11_neighbour_79 rfl (fun v114 => ?_)
            refine sm_iload_n (pc' := 83) dX11_neighbour_82 rfl rfl ?_
            rcases v114 with _ | a115
            · exact sm_unN
            refine sm_unS ?_
            refine sm_iaload (pc' := 84) dX11_neighbour_83 rfl (fun v116 => ?_)
            refine sm_iconst (pc' := 85) (1 : Int32) dX11_neighbour_84 (by decide) rfl ?_
            refine sm_isub (pc' := 86) dX11_neighbour_85 rfl ?_
            refine sm_i2l (pc' := 87) dX11_neighbour_86 rfl ?_
            refine sm_calli (pc' := 90) (sa := [jv (Int32.toInt64 (v116 - (1 : Int32))), jv (0 : Int64), jv (Int32.toInt64 (v107 + v108))]) (st := []) (iv_X11_134 (Int32.toInt64 (v107 + v108)) (0 : Int64) (Int32.toInt64 (v116 - (1 : Int32)))) (Nat.le_of_ble_eq_true rfl) dX11_neighbour_87 rfl (Nat.le_of_ble_eq_true rfl) (fun v117 => ?_)
            refine sm_if_eq (pc' := 93) (pc1 := 126) dX11_neighbour_90 (by decide) rfl (fun _ => ?_) (fun _ => ?_)
            · skip
              refine sm_sub [] rfl ?_
              exact hk113
            · skip
              refine sm_aload_n (pc' := 94) dX11_neighbour_93 rfl rfl ?_
              refine sm_getF (pc' := 97) fk_X11_29 yr_11_8 dX11_neighbour_94 rfl (fun v118 => ?_)
              refine sm_sipush (pc' := 100) (144 : Int32) dX11_neighbour_97 (by decide) rfl ?_
              refine sm_iload_n (pc' := 101) dX11_neighbour_100 rfl rfl ?_
              refine sm_imul (pc' := 102) dX11_neighbour_101 rfl ?_
              refine sm_iload (pc' := 104) dX11_neighbour_102 rfl rfl ?_
              refine sm_iload (pc' := 106) dX11_neighbour_104 rfl rfl ?_
              refine sm_imul (pc' := 107) dX11_neighbour_106 rfl ?_
              refine sm_iadd (pc' := 108) dX11_neighbour_107 rfl ?_
              refine sm_iload (pc' := 110) dX11_neighbour_108 rfl rfl ?_
              refine sm_iadd (pc' := 111) dX11_neighbour_110 rfl ?_
              rcases v118 with _ | a119
              · exact sm_unN
              refine sm_unS ?_
              refine sm_iaload (pc' := 112) dX11_neighbour_111 rfl (fun v120 => ?_)
              refine sm_if_le (pc' := 115) (pc1 := 126) dX11_neighbour_112 (by decide) rfl (fun _ => ?_) (fun _ => ?_)
              · skip
                refine sm_sub [] rfl ?_
                exact hk113
              · skip
                refine sm_iload (pc' := 117) dX11_neighbour_115 rfl rfl ?_
                refine sm_iload (pc' := 119) dX11_neighbour_117 rfl rfl ?_
                refine sm_imul (pc' := 120) dX11_neighbour_119 rfl ?_
                refine sm_iload (pc' := 122) dX11_neighbour_120 rfl rfl ?_
                refine sm_iadd (pc' := 123) dX11_neighbour_122 rfl ?_
                refine sm_goto (pc' := 128) dX11_neighbour_123 (by decide) ?_
                refine sm_sub [] rfl ?_
                exact hk112 ((v103 * (v107 + v108)) + (v104 + v105))
    · skip
      refine sm_icmp_ne (pc' := 42) (pc1 := 46) dX11_neighbour_39 (by decide) rfl (fun _ => ?_) (fun _ => ?_)
      · skip
        refine sm_iload_n (pc' := 47) dX11_neighbour_46 rfl rfl ?_
        refine sm_iconst (pc' := 48) (3 : Int32) dX11_neighbour_47 (by decide) rfl ?_
        refine sm_icmp_ne (pc' := 51) (pc1 := 55) dX11_neighbour_48 (by decide) rfl (fun _ => ?_) (fun _ => ?_)
        · skip
          refine sm_iconst (pc' := 56) (0 : Int32) dX11_neighbour_55 (by decide) rfl ?_
          refine sm_sub [1, 2, 5, 0] rfl ?_
          exact hk109 (0 : Int32)
        · skip
          refine sm_iconst (pc' := 52) (-1 : Int32) dX11_neighbour_51 (by decide) rfl ?_
          refine sm_goto (pc' := 56) dX11_neighbour_52 (by decide) ?_
          refine sm_sub [1, 2, 5, 0] rfl ?_
          exact hk109 (-1 : Int32)
      · skip
        refine sm_iconst (pc' := 43) (1 : Int32) dX11_neighbour_42 (by decide) rfl ?_
        refine sm_goto (pc' := 56) dX11_neighbour_43 (by decide) ?_
        refine sm_sub [1, 2, 5, 0] rfl ?_
        exact hk109 (1 : Int32)
  · skip
    refine sm_if_ne (pc' := 16) (pc1 := 20) dX11_neighbour_13 (by decide) rfl (fun _ => ?_) (fun _ => ?_)
    · skip
      refine sm_iload_n (pc' := 21) dX11_neighbour_20 rfl rfl ?_
      refine sm_iconst (pc' := 22) (1 : Int32) dX11_neighbour_21 (by decide) rfl ?_
      refine sm_icmp_ne (pc' := 25) (pc1 := 29) dX11_neighbour_22 (by decide) rfl (fun _ => ?_) (fun _ => ?_)
      · skip
        refine sm_iconst (pc' := 30) (0 : Int32) dX11_neighbour_29 (by decide) rfl ?_
        refine sm_sub [1, 2, 3, 4, 0] rfl ?_
        exact hk106 (0 : Int32)
      · skip
        refine sm_iconst (pc' := 26) (-1 : Int32) dX11_neighbour_25 (by decide) rfl ?_
        refine sm_goto (pc' := 30) dX11_neighbour_26 (by decide) ?_
        refine sm_sub [1, 2, 3, 4, 0] rfl ?_
        exact hk106 (-1 : Int32)
    · skip
      refine sm_iconst (pc' := 17) (1 : Int32) dX11_neighbour_16 (by decide) rfl ?_
      refine sm_goto (pc' := 30) dX11_neighbour_17 (by decide) ?_
      refine sm_sub [1, 2, 3, 4, 0] rfl ?_
      exact hk106 (1 : Int32)
theorem kX11_neighbour (th : Nat) (a1 : Int32) (a2 : Int32) (a3 : Int32) : Callee 1 yX11_neighbour cX11_neighbour 7 (some .int) [qv (some th), iv a1, iv a2, iv a3] vI (pX11_neighbour th a1 a2 a3) := callee_ofS [(0, qv (some th)), (1, iv a1), (2, iv a2), (3, iv a3)] (by decide +kernel) (Nat.le_of_ble_eq_true rfl) rfl (sX11_neighbour th a1 a2 a3)
/-! HollowPressModel.next()I -/
abbrev eX11_next : Env0 := (RX11, "next", cX11_next, 3, (some .int), 0)
def pX11_next_L5 (th : Nat) (k103 : Int32 → Prg Int32) : Nat → Int32 → Int32 → Prg Int32
  | 0, _, _ => fl
  | n + 1, v101, v102 =>
    (if (144 : Int32) ≤ v102 then k103 v101
    else gF 11 th 18 fun v104 =>
    un v104 fun a105 =>
    ldI a105 v102 fun v106 =>
    (lt (fun (v107 : Int32) => pX11_next_L5 th k103 n v107 (v102 + (1 : Int32)) : Int32 → Prg Int32) fun k108 =>
    (if v106 = (-1000000 : Int32) then k108 v101
    else gF 11 th 22 fun v109 =>
    un v109 fun a110 =>
    ldZ a110 v102 fun v111 =>
    (if v111 = 0 then (lt (k108 v102 : Prg Int32) fun k112 =>
    (if v101 = (-1000000 : Int32) then k112
    else gF 11 th 18 fun v113 =>
    un v113 fun a114 =>
    ldI a114 v102 fun v115 =>
    gF 11 th 18 fun v116 =>
    un v116 fun a117 =>
    ldI a117 v101 fun v118 =>
    (if v118 ≤ v115 then k108 v101
    else k112)))
    else k108 v101))))
def pX11_next (th : Nat) : Prg Int32 :=
    pX11_next_L5 th (fun (v119 : Int32) => rt v119) FL (-1000000 : Int32) (0 : Int32)
set_option maxRecDepth 20000 in
theorem sX11_next_L5 (th : Nat) (k103 : Int32 → Prg Int32) (hk103 : ∀ (q1 : Int32), Sim eX11_next vI 61 [(1, iv q1)] [] (k103 q1)) : ∀ (n : Nat), ∀ (v101 : Int32) (v102 : Int32), Sim eX11_next vI 5 [(0, qv (some th)), (1, iv v101), (2, iv v102)] [] (pX11_next_L5 th k103 n v101 v102) := by
  intro n
  induction n with
  | zero =>
    intros
    exact sm_fl
  | succ n ih =>
    intro v101 v102
    unfold pX11_next_L5
    refine sm_iload_n (pc' := 6) dX11_next_5 rfl rfl ?_
    refine sm_sipush (pc' := 9) (144 : Int32) dX11_next_6 (by decide) rfl ?_
    refine sm_icmp_ge (pc' := 12) (pc1 := 61) dX11_next_9 (by decide) rfl (fun _ => ?_) (fun _ => ?_)
    · skip
      refine sm_sub [1] rfl ?_
      exact hk103 v101
    · skip
      refine sm_aload_n (pc' := 13) dX11_next_12 rfl rfl ?_
      refine sm_getF (pc' := 16) fk_X11_57 yr_11_18 dX11_next_13 rfl (fun v104 => ?_)
      refine sm_iload_n (pc' := 17) dX11_next_16 rfl rfl ?_
      rcases v104 with _ | a105
      · exact sm_unN
      refine sm_unS ?_
      refine sm_iaload (pc' := 18) dX11_next_17 rfl (fun v106 => ?_)
      refine sm_ldc (pc' := 20) (-1000000 : Int32) w_621 dX11_next_18 rfl ?_
      refine sm_lt (fun k108 => ∀ (v107 : Int32), Sim eX11_next vI 55 [(0, qv (some th)), (1, iv v107), (2, iv v102)] [] (k108 v107)) ?_ (fun k108 hk108 => ?_)
      · intro v107
        refine sm_iinc (pc' := 58) (v102 + (1 : Int32)) [(2, iv (v102 + (1 : Int32))), (0, qv (some th)), (1, iv v107)] dX11_next_55 rfl rfl (Nat.le_of_ble_eq_true rfl) rfl rfl ?_
        refine sm_goto (pc' := 5) dX11_next_58 (by decide) ?_
        refine sm_sub [1, 2, 0] rfl ?_
        exact ih v107 (v102 + (1 : Int32))
      · skip
        refine sm_icmp_eq (pc' := 23) (pc1 := 55) dX11_next_20 (by decide) rfl (fun _ => ?_) (fun _ => ?_)
        · skip
          exact hk108 v101
        · skip
          refine sm_aload_n (pc' := 24) dX11_next_23 rfl rfl ?_
          refine sm_getF (pc' := 27) fk_X11_69 yr_11_22 dX11_next_24 rfl (fun v109 => ?_)
          refine sm_iload_n (pc' := 28) dX11_next_27 rfl rfl ?_
          rcases v109 with _ | a110
          · exact sm_unN
          refine sm_unS ?_
          refine sm_zaload (pc' := 29) dX11_next_28 rfl (fun v111 => ?_)
          refine sm_if_ne (pc' := 32) (pc1 := 55) dX11_next_29 (by decide) rfl (fun _ => ?_) (fun _ => ?_)
          · skip
            exact hk108 v101
          · skip
            refine sm_iload_n (pc' := 33) dX11_next_32 rfl rfl ?_
            refine sm_ldc (pc' := 35) (-1000000 : Int32) w_621 dX11_next_33 rfl ?_
            refine sm_lt (fun k112 => Sim eX11_next vI 53 [(0, qv (some th)), (2, iv v102)] [] (k112)) ?_ (fun k112 hk112 => ?_)
            · skip
              refine sm_iload_n (pc' := 54) dX11_next_53 rfl rfl ?_
              refine sm_istore_n (pc' := 55) [(1, iv v102), (0, qv (some th)), (2, iv v102)] dX11_next_54 rfl (Nat.le_of_ble_eq_true rfl) rfl rfl ?_
              refine sm_sub [1, 0, 2] rfl ?_
              exact hk108 v102
            · skip
              refine sm_icmp_eq (pc' := 38) (pc1 := 53) dX11_next_35 (by decide) rfl (fun _ => ?_) (fun _ => ?_)
              · skip
                refine sm_sub [0, 2] rfl ?_
                exact hk112
              · skip
                refine sm_aload_n (pc' := 39) dX11_next_38 rfl rfl ?_
                refine sm_getF (pc' := 42) fk_X11_57 yr_11_18 dX11_next_39 rfl (fun v113 => ?_)
                refine sm_iload_n (pc' := 43) dX11_next_42 rfl rfl ?_
                rcases v113 with _ | a114
                · exact sm_unN
                refine sm_unS ?_
                refine sm_iaload (pc' := 44) dX11_next_43 rfl (fun v115 => ?_)
                refine sm_aload_n (pc' := 45) dX11_next_44 rfl rfl ?_
                refine sm_getF (pc' := 48) fk_X11_57 yr_11_18 dX11_next_45 rfl (fun v116 => ?_)
                refine sm_iload_n (pc' := 49) dX11_next_48 rfl rfl ?_
                rcases v116 with _ | a117
                · exact sm_unN
                refine sm_unS ?_
                refine sm_iaload (pc' := 50) dX11_next_49 rfl (fun v118 => ?_)
                refine sm_icmp_ge (pc' := 53) (pc1 := 55) dX11_next_50 (by decide) rfl (fun _ => ?_) (fun _ => ?_)
                · skip
                  exact hk108 v101
                · skip
                  refine sm_sub [0, 2] rfl ?_
                  exact hk112
set_option maxRecDepth 20000 in
theorem sX11_next (th : Nat) : Sim eX11_next vI 0 [(0, qv (some th))] [] (pX11_next th) := by
  unfold pX11_next
  refine sm_ldc (pc' := 2) (-1000000 : Int32) w_621 dX11_next_0 rfl ?_
  refine sm_istore_n (pc' := 3) [(1, iv (-1000000 : Int32)), (0, qv (some th))] dX11_next_2 rfl (Nat.le_of_ble_eq_true rfl) rfl rfl ?_
  refine sm_iconst (pc' := 4) (0 : Int32) dX11_next_3 (by decide) rfl ?_
  refine sm_istore_n (pc' := 5) [(2, iv (0 : Int32)), (1, iv (-1000000 : Int32)), (0, qv (some th))] dX11_next_4 rfl (Nat.le_of_ble_eq_true rfl) rfl rfl ?_
  refine sm_sub [2, 1, 0] rfl ?_
  refine sX11_next_L5 th _ ?_ FL (-1000000 : Int32) (0 : Int32)
  · intro v119
    refine sm_iload_n (pc' := 62) dX11_next_61 rfl rfl ?_
    exact sm_ireturn rfl dX11_next_62
theorem kX11_next (th : Nat) : Callee 0 yX11_next cX11_next 3 (some .int) [qv (some th)] vI (pX11_next th) := callee_ofS [(0, qv (some th))] (by decide +kernel) (Nat.le_of_ble_eq_true rfl) rfl (sX11_next th)
/-! HollowPressModel.fill(II)V -/
set_option maxRecDepth 20000 in
theorem iv_X11_198 (x0 : Int32) : Inv RX11 1 (.invokestatic 198) [iv x0] vI (pX11_drag x0) := inv_S (As := [iv x0]) (kX11_drag x0) w_626 w_627 w_585 w_628 ⟨by decide +kernel, by decide +kernel, by show _ = some 1; decide +kernel⟩ (by decide)
set_option maxRecDepth 20000 in
theorem iv_X11_201 (a : Nat)  : Inv RX11 1 (.invokevirtual 201) [qv (some a)] vI (onT a 11 (pX11_next a )) := inv_V (As := []) (t := 11) (kX11_next a ) _ (by decide) rfl rfl w_630 w_631 w_632 w_585 w_633 ⟨by decide +kernel, by decide +kernel, by show _ = some 0; decide +kernel⟩ (by decide)
set_option maxRecDepth 20000 in
theorem iv_X11_205 (a : Nat) (x0 : Int32) (x1 : Int32) (x2 : Int32) : Inv RX11 2 (.invokevirtual 205) [iv x2, iv x1, iv x0, qv (some a)] vI (onT a 11 (pX11_neighbour a x0 x1 x2)) := inv_V (As := [iv x0, iv x1, iv x2]) (t := 11) (kX11_neighbour a x0 x1 x2) _ (by decide) rfl rfl w_634 w_635 w_636 w_585 w_637 ⟨by decide +kernel, by decide +kernel, by show _ = some 3; decide +kernel⟩ (by decide)
abbrev eX11_fill : Env0 := (RX11, "fill", cX11_fill, 7, none, 2)
def pX11_fill_L7 (th : Nat) (a1 : Int32) (a2 : Int32) (k102 : Prg Unit) : Nat → Int32 → Prg Unit
  | 0, _ => fl
  | n + 1, v101 =>
    (if (144 : Int32) ≤ v101 then k102
    else gF 11 th 18 fun v103 =>
    un v103 fun a104 =>
    stI a104 v101 (-1000000 : Int32) (
    gF 11 th 19 fun v105 =>
    un v105 fun a106 =>
    stI a106 v101 (-1000000 : Int32) (
    gF 11 th 21 fun v107 =>
    un v107 fun a108 =>
    stI a108 v101 (-1000000 : Int32) (
    gF 11 th 22 fun v109 =>
    un v109 fun a110 =>
    stZ a110 v101 (0 : Int32) (
    pX11_fill_L7 th a1 a2 k102 n (v101 + (1 : Int32)))))))
def pX11_fill_L53 (th : Nat) (a1 : Int32) (a2 : Int32) (k112 : Prg Unit) : Nat → Int32 → Prg Unit
  | 0, _ => fl
  | n + 1, v111 =>
    (lt (fun (v113 : Int32) => (if v113 ≤ v111 then k112
    else (lt (fun (v115 : Int32) => gF 11 th 18 fun v117 =>
    gF 11 th 8 fun v118 =>
    un v118 fun a119 =>
    ldI a119 (((144 : Int32) * a1) + v115) fun v120 =>
    cl (pX11_drag v120) fun v121 =>
    un v117 fun a122 =>
    stI a122 v115 v121 (
    gF 11 th 19 fun v123 =>
    un v123 fun a124 =>
    stI a124 v115 v111 (
    pX11_fill_L53 th a1 a2 k112 n (v111 + (1 : Int32)))) : Int32 → Prg Unit) fun k116 =>
    (if a2 = (-1000000 : Int32) then gF 11 th 10 fun v125 =>
    un v125 fun a126 =>
    ldI a126 (((4 : Int32) * a1) + v111) fun v127 =>
    k116 v127
    else k116 a2))) : Int32 → Prg Unit) fun k114 =>
    (if a2 = (-1000000 : Int32) then gF 11 th 9 fun v128 =>
    un v128 fun a129 =>
    ldI a129 a1 fun v130 =>
    k114 v130
    else k114 (1 : Int32)))
def pX11_fill_L183 (th : Nat) (a1 : Int32) (v132 : Int32) (k144 : Prg Unit) : Nat → Int32 → Prg Unit
  | 0, _ => fl
  | n + 1, v143 =>
    (if (4 : Int32) ≤ v143 then k144
    else cl (onT th 11 (pX11_neighbour th a1 v132 v143)) fun v145 =>
    (lt (fun (v146 : Int32) => (lt (pX11_fill_L183 th a1 v132 k144 n (v143 + (1 : Int32)) : Prg Unit) fun k148 =>
    (lt ((if v145 = (-1000000 : Int32) then k148
    else gF 11 th 18 fun v150 =>
    un v150 fun a151 =>
    ldI a151 v145 fun v152 =>
    (if v146 = v152 then gF 11 th 19 fun v153 =>
    un v153 fun a154 =>
    ldI a154 v132 fun v155 =>
    gF 11 th 19 fun v156 =>
    un v156 fun a157 =>
    ldI a157 v145 fun v158 =>
    (if v158 ≤ v155 then k148
    else gF 11 th 19 fun v159 =>
    gF 11 th 19 fun v160 =>
    un v160 fun a161 =>
    ldI a161 v132 fun v162 =>
    un v159 fun a163 =>
    stI a163 v145 v162 (
    k148))
    else k148)) : Prg Unit) fun k149 =>
    (if v145 = (-1000000 : Int32) then k149
    else gF 11 th 18 fun v164 =>
    un v164 fun a165 =>
    ldI a165 v145 fun v166 =>
    (lt (gF 11 th 18 fun v168 =>
    un v168 fun a169 =>
    stI a169 v145 v146 (
    gF 11 th 19 fun v170 =>
    gF 11 th 19 fun v171 =>
    un v171 fun a172 =>
    ldI a172 v132 fun v173 =>
    un v170 fun a174 =>
    stI a174 v145 v173 (
    k148)) : Prg Unit) fun k167 =>
    (if v166 = (-1000000 : Int32) then k167
    else gF 11 th 18 fun v175 =>
    un v175 fun a176 =>
    ldI a176 v145 fun v177 =>
    (if v177 ≤ v146 then k149
    else k167)))))) : Int32 → Prg Unit) fun k147 =>
    (if v145 = (-1000000 : Int32) then k147 (0 : Int32)
    else gF 11 th 18 fun v178 =>
    un v178 fun a179 =>
    ldI a179 v132 fun v180 =>
    gF 11 th 8 fun v181 =>
    un v181 fun a182 =>
    ldI a182 (((144 : Int32) * a1) + v145) fun v183 =>
    cl (pX11_drag v183) fun v184 =>
    k147 (v180 + v184))))
def pX11_fill_L137 (th : Nat) (a1 : Int32) (k133 : Prg Unit) : Nat → Int32 → Prg Unit
  | 0, _ => fl
  | n + 1, v132 =>
    (if v132 = (-1000000 : Int32) then k133
    else gF 11 th 22 fun v134 =>
    un v134 fun a135 =>
    stZ a135 v132 (1 : Int32) (
    gF 11 th 20 fun v136 =>
    gI 11 th 23 fun v137 =>
    un v136 fun a138 =>
    stI a138 v137 v132 (
    gF 11 th 21 fun v139 =>
    gI 11 th 23 fun v140 =>
    un v139 fun a141 =>
    stI a141 v132 v140 (
    gI 11 th 23 fun v142 =>
    pI 11 th 23 (v142 + (1 : Int32)) (
    pX11_fill_L183 th a1 v132 (cl (onT th 11 (pX11_next th)) fun v185 =>
    pX11_fill_L137 th a1 k133 n v185) FL (0 : Int32))))))
def pX11_fill (th : Nat) (a1 : Int32) (a2 : Int32) : Prg Unit :=
    pI 11 th 23 (0 : Int32) (
    pX11_fill_L7 th a1 a2 (pX11_fill_L53 th a1 a2 (cl (onT th 11 (pX11_next th)) fun v131 =>
    pX11_fill_L137 th a1 (rt ()) FL v131) FL (0 : Int32)) FL (0 : Int32))
set_option maxRecDepth 20000 in
theorem sX11_fill_L7 (th : Nat) (a1 : Int32) (a2 : Int32) (k102 : Prg Unit) (hk102 : Sim eX11_fill vU 51 [(0, qv (some th)), (1, iv a1), (2, iv a2)] [] (k102)) : ∀ (n : Nat), ∀ (v101 : Int32), Sim eX11_fill vU 7 [(0, qv (some th)), (1, iv a1), (2, iv a2), (3, iv v101)] [] (pX11_fill_L7 th a1 a2 k102 n v101) := by
  intro n
  induction n with
  | zero =>
    intros
    exact sm_fl
  | succ n ih =>
    intro v101
    unfold pX11_fill_L7
    refine sm_iload_n (pc' := 8) dX11_fill_7 rfl rfl ?_
    refine sm_sipush (pc' := 11) (144 : Int32) dX11_fill_8 (by decide) rfl ?_
    refine sm_icmp_ge (pc' := 14) (pc1 := 51) dX11_fill_11 (by decide) rfl (fun _ => ?_) (fun _ => ?_)
    · skip
      refine sm_sub [0, 1, 2] rfl ?_
      exact hk102
    · skip
      refine sm_aload_n (pc' := 15) dX11_fill_14 rfl rfl ?_
      refine sm_getF (pc' := 18) fk_X11_57 yr_11_18 dX11_fill_15 rfl (fun v103 => ?_)
      refine sm_iload_n (pc' := 19) dX11_fill_18 rfl rfl ?_
      refine sm_ldc (pc' := 21) (-1000000 : Int32) w_621 dX11_fill_19 rfl ?_
      rcases v103 with _ | a104
      · exact sm_unN
      refine sm_unS ?_
      refine sm_iastore (pc' := 22) dX11_fill_21 rfl ?_
      refine sm_aload_n (pc' := 23) dX11_fill_22 rfl rfl ?_
      refine sm_getF (pc' := 26) fk_X11_60 yr_11_19 dX11_fill_23 rfl (fun v105 => ?_)
      refine sm_iload_n (pc' := 27) dX11_fill_26 rfl rfl ?_
      refine sm_ldc (pc' := 29) (-1000000 : Int32) w_621 dX11_fill_27 rfl ?_
      rcases v105 with _ | a106
      · exact sm_unN
      refine sm_unS ?_
      refine sm_iastore (pc' := 30) dX11_fill_29 rfl ?_
      refine sm_aload_n (pc' := 31) dX11_fill_30 rfl rfl ?_
      refine sm_getF (pc' := 34) fk_X11_66 yr_11_21 dX11_fill_31 rfl (fun v107 => ?_)
      refine sm_iload_n (pc' := 35) dX11_fill_34 rfl rfl ?_
      refine sm_ldc (pc' := 37) (-1000000 : Int32) w_621 dX11_fill_35 rfl ?_
      rcases v107 with _ | a108
      · exact sm_unN
      refine sm_unS ?_
      refine sm_iastore (pc' := 38) dX11_fill_37 rfl ?_
      refine sm_aload_n (pc' := 39) dX11_fill_38 rfl rfl ?_
      refine sm_getF (pc' := 42) fk_X11_69 yr_11_22 dX11_fill_39 rfl (fun v109 => ?_)
      refine sm_iload_n (pc' := 43) dX11_fill_42 rfl rfl ?_
      refine sm_iconst (pc' := 44) (0 : Int32) dX11_fill_43 (by decide) rfl ?_
      rcases v109 with _ | a110
      · exact sm_unN
      refine sm_unS ?_
      refine sm_zastore (pc' := 45) dX11_fill_44 rfl ?_
      refine sm_iinc (pc' := 48) (v101 + (1 : Int32)) [(3, iv (v101 + (1 : Int32))), (0, qv (some th)), (1, iv a1), (2, iv a2)] dX11_fill_45 rfl rfl (Nat.le_of_ble_eq_true rfl) rfl rfl ?_
      refine sm_goto (pc' := 7) dX11_fill_48 (by decide) ?_
      refine sm_sub [1, 2, 3, 0] rfl ?_
      exact ih (v101 + (1 : Int32))
set_option maxRecDepth 20000 in
theorem sX11_fill_L53 (th : Nat) (a1 : Int32) (a2 : Int32) (k112 : Prg Unit) (hk112 : Sim eX11_fill vU 132 [(0, qv (some th)), (1, iv a1)] [] (k112)) : ∀ (n : Nat), ∀ (v111 : Int32), Sim eX11_fill vU 53 [(0, qv (some th)), (1, iv a1), (2, iv a2), (3, iv v111)] [] (pX11_fill_L53 th a1 a2 k112 n v111) := by
  intro n
  induction n with
  | zero =>
    intros
    exact sm_fl
  | succ n ih =>
    intro v111
    unfold pX11_fill_L53
    refine sm_iload_n (pc' := 54) dX11_fill_53 rfl rfl ?_
    refine sm_iload_n (pc' := 55) dX11_fill_54 rfl rfl ?_
    refine sm_ldc (pc' := 57) (-1000000 : Int32) w_621 dX11_fill_55 rfl ?_
    refine sm_lt (fun k114 => ∀ (v113 : Int32), Sim eX11_fill vU 70 [(0, qv (some th)), (1, iv a1), (2, iv a2), (3, iv v111)] [iv v113, iv v111] (k114 v113)) ?_ (fun k114 hk114 => ?_)
    · intro v113
      refine sm_icmp_ge (pc' := 73) (pc1 := 132) dX11_fill_70 (by decide) rfl (fun _ => ?_) (fun _ => ?_)
      · skip
        refine sm_sub [0, 1] rfl ?_
        exact hk112
      · skip
        refine sm_iload_n (pc' := 74) dX11_fill_73 rfl rfl ?_
        refine sm_ldc (pc' := 76) (-1000000 : Int32) w_621 dX11_fill_74 rfl ?_
        refine sm_lt (fun k116 => ∀ (v115 : Int32), Sim eX11_fill vU 93 [(0, qv (some th)), (1, iv a1), (2, iv a2), (3, iv v111)] [iv v115] (k116 v115)) ?_ (fun k116 hk116 => ?_)
        · intro v115
          refine sm_istore (pc' := 95) [(4, iv v115), (0, qv (some th)), (1, iv a1), (2, iv a2), (3, iv v111)] dX11_fill_93  (Nat.le_of_ble_eq_true rfl) rfl rfl ?_
          refine sm_aload_n (pc' := 96) dX11_fill_95 rfl rfl ?_
          refine sm_getF (pc' := 99) fk_X11_57 yr_11_18 dX11_fill_96 rfl (fun v117 => ?_)
          refine sm_iload (pc' := 101) dX11_fill_99 rfl rfl ?_
          refine sm_aload_n (pc' := 102) dX11_fill_101 rfl rfl ?_
          refine sm_getF (pc' := 105) fk_X11_29 yr_11_8 dX11_fill_102 rfl (fun v118 => ?_)
          refine sm_sipush (pc' := 108) (144 : Int32) dX11_fill_105 (by decide) rfl ?_
          refine sm_iload_n (pc' := 109) dX11_fill_108 rfl rfl ?_
          refine sm_imul (pc' := 110) dX11_fill_109 rfl ?_
          refine sm_iload (pc' := 112) dX11_fill_110 rfl rfl ?_
          refine sm_iadd (pc' := 113) dX11_fill_112 rfl ?_
          rcases v118 with _ | a119
          · exact sm_unN
          refine sm_unS ?_
          refine sm_iaload (pc' := 114) dX11_fill_113 rfl (fun v120 => ?_)
          refine sm_calli (pc' := 117) (sa := [iv v120]) (st := [iv v115, qv v117]) (iv_X11_198 v120) (Nat.le_of_ble_eq_true rfl) dX11_fill_114 rfl (Nat.le_of_ble_eq_true rfl) (fun v121 => ?_)
          rcases v117 with _ | a122
          · exact sm_unN
          refine sm_unS ?_
          refine sm_iastore (pc' := 118) dX11_fill_117 rfl ?_
          refine sm_aload_n (pc' := 119) dX11_fill_118 rfl rfl ?_
          refine sm_getF (pc' := 122) fk_X11_60 yr_11_19 dX11_fill_119 rfl (fun v123 => ?_)
          refine sm_iload (pc' := 124) dX11_fill_122 rfl rfl ?_
          refine sm_iload_n (pc' := 125) dX11_fill_124 rfl rfl ?_
          rcases v123 with _ | a124
          · exact sm_unN
          refine sm_unS ?_
          refine sm_iastore (pc' := 126) dX11_fill_125 rfl ?_
          refine sm_iinc (pc' := 129) (v111 + (1 : Int32)) [(3, iv (v111 + (1 : Int32))), (4, iv v115), (0, qv (some th)), (1, iv a1), (2, iv a2)] dX11_fill_126 rfl rfl (Nat.le_of_ble_eq_true rfl) rfl rfl ?_
          refine sm_goto (pc' := 53) dX11_fill_129 (by decide) ?_
          refine sm_sub [2, 3, 4, 0] rfl ?_
          exact ih (v111 + (1 : Int32))
        · skip
          refine sm_icmp_ne (pc' := 79) (pc1 := 92) dX11_fill_76 (by decide) rfl (fun _ => ?_) (fun _ => ?_)
          · skip
            refine sm_iload_n (pc' := 93) dX11_fill_92 rfl rfl ?_
            exact hk116 a2
          · skip
            refine sm_aload_n (pc' := 80) dX11_fill_79 rfl rfl ?_
            refine sm_getF (pc' := 83) fk_X11_35 yr_11_10 dX11_fill_80 rfl (fun v125 => ?_)
            refine sm_iconst (pc' := 84) (4 : Int32) dX11_fill_83 (by decide) rfl ?_
            refine sm_iload_n (pc' := 85) dX11_fill_84 rfl rfl ?_
            refine sm_imul (pc' := 86) dX11_fill_85 rfl ?_
            refine sm_iload_n (pc' := 87) dX11_fill_86 rfl rfl ?_
            refine sm_iadd (pc' := 88) dX11_fill_87 rfl ?_
            rcases v125 with _ | a126
            · exact sm_unN
            refine sm_unS ?_
            refine sm_iaload (pc' := 89) dX11_fill_88 rfl (fun v127 => ?_)
            refine sm_goto (pc' := 93) dX11_fill_89 (by decide) ?_
            exact hk116 v127
    · skip
      refine sm_icmp_ne (pc' := 60) (pc1 := 69) dX11_fill_57 (by decide) rfl (fun _ => ?_) (fun _ => ?_)
      · skip
        refine sm_iconst (pc' := 70) (1 : Int32) dX11_fill_69 (by decide) rfl ?_
        exact hk114 (1 : Int32)
      · skip
        refine sm_aload_n (pc' := 61) dX11_fill_60 rfl rfl ?_
        refine sm_getF (pc' := 64) fk_X11_32 yr_11_9 dX11_fill_61 rfl (fun v128 => ?_)
        refine sm_iload_n (pc' := 65) dX11_fill_64 rfl rfl ?_
        rcases v128 with _ | a129
        · exact sm_unN
        refine sm_unS ?_
        refine sm_iaload (pc' := 66) dX11_fill_65 rfl (fun v130 => ?_)
        refine sm_goto (pc' := 70) dX11_fill_66 (by decide) ?_
        exact hk114 v130
set_option maxRecDepth 20000 in
theorem sX11_fill_L183 (th : Nat) (a1 : Int32) (v132 : Int32) (k144 : Prg Unit) (hk144 : Sim eX11_fill vU 345 [(0, qv (some th)), (1, iv a1)] [] (k144)) : ∀ (n : Nat), ∀ (v143 : Int32), Sim eX11_fill vU 183 [(0, qv (some th)), (1, iv a1), (3, iv v132), (4, iv v143)] [] (pX11_fill_L183 th a1 v132 k144 n v143) := by
  intro n
  induction n with
  | zero =>
    intros
    exact sm_fl
  | succ n ih =>
    intro v143
    unfold pX11_fill_L183
    refine sm_iload (pc' := 185) dX11_fill_183 rfl rfl ?_
    refine sm_iconst (pc' := 186) (4 : Int32) dX11_fill_185 (by decide) rfl ?_
    refine sm_icmp_ge (pc' := 189) (pc1 := 345) dX11_fill_186 (by decide) rfl (fun _ => ?_) (fun _ => ?_)
    · skip
      refine sm_sub [0, 1] rfl ?_
      exact hk144
    · skip
      refine sm_aload_n (pc' := 190) dX11_fill_189 rfl rfl ?_
      refine sm_iload_n (pc' := 191) dX11_fill_190 rfl rfl ?_
      refine sm_iload_n (pc' := 192) dX11_fill_191 rfl rfl ?_
      refine sm_iload (pc' := 194) dX11_fill_192 rfl rfl ?_
      refine sm_calli (pc' := 197) (sa := [iv v143, iv v132, iv a1, qv (some th)]) (st := []) (iv_X11_205 th a1 v132 v143) (Nat.le_of_ble_eq_true rfl) dX11_fill_194 rfl (Nat.le_of_ble_eq_true rfl) (fun v145 => ?_)
      refine sm_istore (pc' := 199) [(5, iv v145), (0, qv (some th)), (1, iv a1), (3, iv v132), (4, iv v143)] dX11_fill_197  (Nat.le_of_ble_eq_true rfl) rfl rfl ?_
      refine sm_iload (pc' := 201) dX11_fill_199 rfl rfl ?_
      refine sm_ldc (pc' := 203) (-1000000 : Int32) w_621 dX11_fill_201 rfl ?_
      refine sm_lt (fun k147 => ∀ (v146 : Int32), Sim eX11_fill vU 233 [(0, qv (some th)), (1, iv a1), (3, iv v132), (4, iv v143), (5, iv v145)] [iv v146] (k147 v146)) ?_ (fun k147 hk147 => ?_)
      · intro v146
        refine sm_istore (pc' := 235) [(6, iv v146), (0, qv (some th)), (1, iv a1), (3, iv v132), (4, iv v143), (5, iv v145)] dX11_fill_233  (Nat.le_of_ble_eq_true rfl) rfl rfl ?_
        refine sm_iload (pc' := 237) dX11_fill_235 rfl rfl ?_
        refine sm_ldc (pc' := 239) (-1000000 : Int32) w_621 dX11_fill_237 rfl ?_
        refine sm_lt (fun k148 => Sim eX11_fill vU 339 [(0, qv (some th)), (1, iv a1), (3, iv v132), (4, iv v143)] [] (k148)) ?_ (fun k148 hk148 => ?_)
        · skip
          refine sm_iinc (pc' := 342) (v143 + (1 : Int32)) [(4, iv (v143 + (1 : Int32))), (0, qv (some th)), (1, iv a1), (3, iv v132)] dX11_fill_339 rfl rfl (Nat.le_of_ble_eq_true rfl) rfl rfl ?_
          refine sm_goto (pc' := 183) dX11_fill_342 (by decide) ?_
          refine sm_sub [1, 2, 3, 0] rfl ?_
          exact ih (v143 + (1 : Int32))
        · skip
          refine sm_lt (fun k149 => Sim eX11_fill vU 291 [(0, qv (some th)), (1, iv a1), (3, iv v132), (4, iv v143), (5, iv v145), (6, iv v146)] [] (k149)) ?_ (fun k149 hk149 => ?_)
          · skip
            refine sm_iload (pc' := 293) dX11_fill_291 rfl rfl ?_
            refine sm_ldc (pc' := 295) (-1000000 : Int32) w_621 dX11_fill_293 rfl ?_
            refine sm_icmp_eq (pc' := 298) (pc1 := 339) dX11_fill_295 (by decide) rfl (fun _ => ?_) (fun _ => ?_)
            · skip
              refine sm_sub [0, 1, 2, 3] rfl ?_
              exact hk148
            · skip
              refine sm_iload (pc' := 300) dX11_fill_298 rfl rfl ?_
              refine sm_aload_n (pc' := 301) dX11_fill_300 rfl rfl ?_
              refine sm_getF (pc' := 304) fk_X11_57 yr_11_18 dX11_fill_301 rfl (fun v150 => ?_)
              refine sm_iload (pc' := 306) dX11_fill_304 rfl rfl ?_
              rcases v150 with _ | a151
              · exact sm_unN
              refine sm_unS ?_
              refine sm_iaload (pc' := 307) dX11_fill_306 rfl (fun v152 => ?_)
              refine sm_icmp_ne (pc' := 310) (pc1 := 339) dX11_fill_307 (by decide) rfl (fun _ => ?_) (fun _ => ?_)
              · skip
                refine sm_sub [0, 1, 2, 3] rfl ?_
                exact hk148
              · skip
                refine sm_aload_n (pc' := 311) dX11_fill_310 rfl rfl ?_
                refine sm_getF (pc' := 314) fk_X11_60 yr_11_19 dX11_fill_311 rfl (fun v153 => ?_)
                refine sm_iload_n (pc' := 315) dX11_fill_314 rfl rfl ?_
                rcases v153 with _ | a154
                · exact sm_unN
                refine sm_unS ?_
                refine sm_iaload (pc' := 316) dX11_fill_315 rfl (fun v155 => ?_)
                refine sm_aload_n (pc' := 317) dX11_fill_316 rfl rfl ?_
                refine sm_getF (pc' := 320) fk_X11_60 yr_11_19 dX11_fill_317 rfl (fun v156 => ?_)
                refine sm_iload (pc' := 322) dX11_fill_320 rfl rfl ?_
                rcases v156 with _ | a157
                · exact sm_unN
                refine sm_unS ?_
                refine sm_iaload (pc' := 323) dX11_fill_322 rfl (fun v158 => ?_)
                refine sm_icmp_ge (pc' := 326) (pc1 := 339) dX11_fill_323 (by decide) rfl (fun _ => ?_) (fun _ => ?_)
                · skip
                  refine sm_sub [0, 1, 2, 3] rfl ?_
                  exact hk148
                · skip
                  refine sm_aload_n (pc' := 327) dX11_fill_326 rfl rfl ?_
                  refine sm_getF (pc' := 330) fk_X11_60 yr_11_19 dX11_fill_327 rfl (fun v159 => ?_)
                  refine sm_iload (pc' := 332) dX11_fill_330 rfl rfl ?_
                  refine sm_aload_n (pc' := 333) dX11_fill_332 rfl rfl ?_
                  refine sm_getF (pc' := 336) fk_X11_60 yr_11_19 dX11_fill_333 rfl (fun v160 => ?_)
                  refine sm_iload_n (pc' := 337) dX11_fill_336 rfl rfl ?_
                  rcases v160 with _ | a161
                  · exact sm_unN
                  refine sm_unS ?_
                  refine sm_iaload (pc' := 338) dX11_fill_337 rfl (fun v162 => ?_)
                  rcases v159 with _ | a163
                  · exact sm_unN
                  refine sm_unS ?_
                  refine sm_iastore (pc' := 339) dX11_fill_338 rfl ?_
                  refine sm_sub [0, 1, 2, 3] rfl ?_
                  exact hk148
          · skip
            refine sm_icmp_eq (pc' := 242) (pc1 := 291) dX11_fill_239 (by decide) rfl (fun _ => ?_) (fun _ => ?_)
            · skip
              refine sm_sub [1, 2, 3, 4, 5, 0] rfl ?_
              exact hk149
            · skip
              refine sm_aload_n (pc' := 243) dX11_fill_242 rfl rfl ?_
              refine sm_getF (pc' := 246) fk_X11_57 yr_11_18 dX11_fill_243 rfl (fun v164 => ?_)
              refine sm_iload (pc' := 248) dX11_fill_246 rfl rfl ?_
              rcases v164 with _ | a165
              · exact sm_unN
              refine sm_unS ?_
              refine sm_iaload (pc' := 249) dX11_fill_248 rfl (fun v166 => ?_)
              refine sm_ldc (pc' := 251) (-1000000 : Int32) w_621 dX11_fill_249 rfl ?_
              refine sm_lt (fun k167 => Sim eX11_fill vU 266 [(0, qv (some th)), (1, iv a1), (3, iv v132), (4, iv v143), (5, iv v145), (6, iv v146)] [] (k167)) ?_ (fun k167 hk167 => ?_)
              · skip
                refine sm_aload_n (pc' := 267) dX11_fill_266 rfl rfl ?_
                refine sm_getF (pc' := 270) fk_X11_57 yr_11_18 dX11_fill_267 rfl (fun v168 => ?_)
                refine sm_iload (pc' := 272) dX11_fill_270 rfl rfl ?_
                refine sm_iload (pc' := 274) dX11_fill_272 rfl rfl ?_
                rcases v168 with _ | a169
                · exact sm_unN
                refine sm_unS ?_
                refine sm_iastore (pc' := 275) dX11_fill_274 rfl ?_
                refine sm_aload_n (pc' := 276) dX11_fill_275 rfl rfl ?_
                refine sm_getF (pc' := 279) fk_X11_60 yr_11_19 dX11_fill_276 rfl (fun v170 => ?_)
                refine sm_iload (pc' := 281) dX11_fill_279 rfl rfl ?_
                refine sm_aload_n (pc' := 282) dX11_fill_281 rfl rfl ?_
                refine sm_getF (pc' := 285) fk_X11_60 yr_11_19 dX11_fill_282 rfl (fun v171 => ?_)
                refine sm_iload_n (pc' := 286) dX11_fill_285 rfl rfl ?_
                rcases v171 with _ | a172
                · exact sm_unN
                refine sm_unS ?_
                refine sm_iaload (pc' := 287) dX11_fill_286 rfl (fun v173 => ?_)
                rcases v170 with _ | a174
                · exact sm_unN
                refine sm_unS ?_
                refine sm_iastore (pc' := 288) dX11_fill_287 rfl ?_
                refine sm_goto (pc' := 339) dX11_fill_288 (by decide) ?_
                refine sm_sub [0, 1, 2, 3] rfl ?_
                exact hk148
              · skip
                refine sm_icmp_eq (pc' := 254) (pc1 := 266) dX11_fill_251 (by decide) rfl (fun _ => ?_) (fun _ => ?_)
                · skip
                  refine sm_sub [1, 2, 3, 4, 5, 0] rfl ?_
                  exact hk167
                · skip
                  refine sm_iload (pc' := 256) dX11_fill_254 rfl rfl ?_
                  refine sm_aload_n (pc' := 257) dX11_fill_256 rfl rfl ?_
                  refine sm_getF (pc' := 260) fk_X11_57 yr_11_18 dX11_fill_257 rfl (fun v175 => ?_)
                  refine sm_iload (pc' := 262) dX11_fill_260 rfl rfl ?_
                  rcases v175 with _ | a176
                  · exact sm_unN
                  refine sm_unS ?_
                  refine sm_iaload (pc' := 263) dX11_fill_262 rfl (fun v177 => ?_)
                  refine sm_icmp_ge (pc' := 266) (pc1 := 291) dX11_fill_263 (by decide) rfl (fun _ => ?_) (fun _ => ?_)
                  · skip
                    refine sm_sub [1, 2, 3, 4, 5, 0] rfl ?_
                    exact hk149
                  · skip
                    refine sm_sub [1, 2, 3, 4, 5, 0] rfl ?_
                    exact hk167
      · skip
        refine sm_icmp_ne (pc' := 206) (pc1 := 210) dX11_fill_203 (by decide) rfl (fun _ => ?_) (fun _ => ?_)
        · skip
          refine sm_aload_n (pc' := 211) dX11_fill_210 rfl rfl ?_
          refine sm_getF (pc' := 214) fk_X11_57 yr_11_18 dX11_fill_211 rfl (fun v178 => ?_)
          refine sm_iload_n (pc' := 215) dX11_fill_214 rfl rfl ?_
          rcases v178 with _ | a179
          · exact sm_unN
          refine sm_unS ?_
          refine sm_iaload (pc' := 216) dX11_fill_215 rfl (fun v180 => ?_)
          refine sm_aload_n (pc' := 217) dX11_fill_216 rfl rfl ?_
          refine sm_getF (pc' := 220) fk_X11_29 yr_11_8 dX11_fill_217 rfl (fun v181 => ?_)
          refine sm_sipush (pc' := 223) (144 : Int32) dX11_fill_220 (by decide) rfl ?_
          refine sm_iload_n (pc' := 224) dX11_fill_223 rfl rfl ?_
          refine sm_imul (pc' := 225) dX11_fill_224 rfl ?_
          refine sm_iload (pc' := 227) dX11_fill_225 rfl rfl ?_
          refine sm_iadd (pc' := 228) dX11_fill_227 rfl ?_
          rcases v181 with _ | a182
          · exact sm_unN
          refine sm_unS ?_
          refine sm_iaload (pc' := 229) dX11_fill_228 rfl (fun v183 => ?_)
          refine sm_calli (pc' := 232) (sa := [iv v183]) (st := [iv v180]) (iv_X11_198 v183) (Nat.le_of_ble_eq_true rfl) dX11_fill_229 rfl (Nat.le_of_ble_eq_true rfl) (fun v184 => ?_)
          refine sm_iadd (pc' := 233) dX11_fill_232 rfl ?_
          refine sm_sub [1, 2, 3, 4, 0] rfl ?_
          exact hk147 (v180 + v184)
        · skip
          refine sm_iconst (pc' := 207) (0 : Int32) dX11_fill_206 (by decide) rfl ?_
          refine sm_goto (pc' := 233) dX11_fill_207 (by decide) ?_
          refine sm_sub [1, 2, 3, 4, 0] rfl ?_
          exact hk147 (0 : Int32)
set_option maxRecDepth 20000 in
theorem sX11_fill_L137 (th : Nat) (a1 : Int32) (k133 : Prg Unit) (hk133 : Sim eX11_fill vU 353 [] [] (k133)) : ∀ (n : Nat), ∀ (v132 : Int32), Sim eX11_fill vU 137 [(0, qv (some th)), (1, iv a1), (3, iv v132)] [] (pX11_fill_L137 th a1 k133 n v132) := by
  intro n
  induction n with
  | zero =>
    intros
    exact sm_fl
  | succ n ih =>
    intro v132
    unfold pX11_fill_L137
    refine sm_iload_n (pc' := 138) dX11_fill_137 rfl rfl ?_
    refine sm_ldc (pc' := 140) (-1000000 : Int32) w_621 dX11_fill_138 rfl ?_
    refine sm_icmp_eq (pc' := 143) (pc1 := 353) dX11_fill_140 (by decide) rfl (fun _ => ?_) (fun _ => ?_)
    · skip
      refine sm_sub [] rfl ?_
      exact hk133
    · skip
      refine sm_aload_n (pc' := 144) dX11_fill_143 rfl rfl ?_
      refine sm_getF (pc' := 147) fk_X11_69 yr_11_22 dX11_fill_144 rfl (fun v134 => ?_)
      refine sm_iload_n (pc' := 148) dX11_fill_147 rfl rfl ?_
      refine sm_iconst (pc' := 149) (1 : Int32) dX11_fill_148 (by decide) rfl ?_
      rcases v134 with _ | a135
      · exact sm_unN
      refine sm_unS ?_
      refine sm_zastore (pc' := 150) dX11_fill_149 rfl ?_
      refine sm_aload_n (pc' := 151) dX11_fill_150 rfl rfl ?_
      refine sm_getF (pc' := 154) fk_X11_63 yr_11_20 dX11_fill_151 rfl (fun v136 => ?_)
      refine sm_aload_n (pc' := 155) dX11_fill_154 rfl rfl ?_
      refine sm_getI (pc' := 158) fk_X11_195 nr_11_23 dX11_fill_155 rfl (fun v137 => ?_)
      refine sm_iload_n (pc' := 159) dX11_fill_158 rfl rfl ?_
      rcases v136 with _ | a138
      · exact sm_unN
      refine sm_unS ?_
      refine sm_iastore (pc' := 160) dX11_fill_159 rfl ?_
      refine sm_aload_n (pc' := 161) dX11_fill_160 rfl rfl ?_
      refine sm_getF (pc' := 164) fk_X11_66 yr_11_21 dX11_fill_161 rfl (fun v139 => ?_)
      refine sm_iload_n (pc' := 165) dX11_fill_164 rfl rfl ?_
      refine sm_aload_n (pc' := 166) dX11_fill_165 rfl rfl ?_
      refine sm_getI (pc' := 169) fk_X11_195 nr_11_23 dX11_fill_166 rfl (fun v140 => ?_)
      rcases v139 with _ | a141
      · exact sm_unN
      refine sm_unS ?_
      refine sm_iastore (pc' := 170) dX11_fill_169 rfl ?_
      refine sm_aload_n (pc' := 171) dX11_fill_170 rfl rfl ?_
      refine sm_dup (pc' := 172) dX11_fill_171 rfl rfl ?_
      refine sm_getI (pc' := 175) fk_X11_195 nr_11_23 dX11_fill_172 rfl (fun v142 => ?_)
      refine sm_iconst (pc' := 176) (1 : Int32) dX11_fill_175 (by decide) rfl ?_
      refine sm_iadd (pc' := 177) dX11_fill_176 rfl ?_
      refine sm_putI (pc' := 180) (gk_X11_195 _ _ _ _ _) ti_11_23 dX11_fill_177 rfl ?_
      refine sm_iconst (pc' := 181) (0 : Int32) dX11_fill_180 (by decide) rfl ?_
      refine sm_istore (pc' := 183) [(4, iv (0 : Int32)), (0, qv (some th)), (1, iv a1), (3, iv v132)] dX11_fill_181  (Nat.le_of_ble_eq_true rfl) rfl rfl ?_
      refine sm_sub [1, 2, 3, 0] rfl ?_
      refine sX11_fill_L183 th a1 v132 _ ?_ FL (0 : Int32)
      · skip
        refine sm_aload_n (pc' := 346) dX11_fill_345 rfl rfl ?_
        refine sm_calli (pc' := 349) (sa := [qv (some th)]) (st := []) (iv_X11_201 th) (Nat.le_of_ble_eq_true rfl) dX11_fill_346 rfl (Nat.le_of_ble_eq_true rfl) (fun v185 => ?_)
        refine sm_istore_n (pc' := 350) [(3, iv v185), (0, qv (some th)), (1, iv a1)] dX11_fill_349 rfl (Nat.le_of_ble_eq_true rfl) rfl rfl ?_
        refine sm_goto (pc' := 137) dX11_fill_350 (by decide) ?_
        refine sm_sub [1, 2, 0] rfl ?_
        exact ih v185
set_option maxRecDepth 20000 in
theorem sX11_fill (th : Nat) (a1 : Int32) (a2 : Int32) : Sim eX11_fill vU 0 [(0, qv (some th)), (1, iv a1), (2, iv a2)] [] (pX11_fill th a1 a2) := by
  unfold pX11_fill
  refine sm_aload_n (pc' := 1) dX11_fill_0 rfl rfl ?_
  refine sm_iconst (pc' := 2) (0 : Int32) dX11_fill_1 (by decide) rfl ?_
  refine sm_putI (pc' := 5) (gk_X11_195 _ _ _ _ _) ti_11_23 dX11_fill_2 rfl ?_
  refine sm_iconst (pc' := 6) (0 : Int32) dX11_fill_5 (by decide) rfl ?_
  refine sm_istore_n (pc' := 7) [(3, iv (0 : Int32)), (0, qv (some th)), (1, iv a1), (2, iv a2)] dX11_fill_6 rfl (Nat.le_of_ble_eq_true rfl) rfl rfl ?_
  refine sm_sub [1, 2, 3, 0] rfl ?_
  refine sX11_fill_L7 th a1 a2 _ ?_ FL (0 : Int32)
  · skip
    refine sm_iconst (pc' := 52) (0 : Int32) dX11_fill_51 (by decide) rfl ?_
    refine sm_istore_n (pc' := 53) [(3, iv (0 : Int32)), (0, qv (some th)), (1, iv a1), (2, iv a2)] dX11_fill_52 rfl (Nat.le_of_ble_eq_true rfl) rfl rfl ?_
    refine sm_sub [1, 2, 3, 0] rfl ?_
    refine sX11_fill_L53 th a1 a2 _ ?_ FL (0 : Int32)
    · skip
      refine sm_aload_n (pc' := 133) dX11_fill_132 rfl rfl ?_
      refine sm_calli (pc' := 136) (sa := [qv (some th)]) (st := []) (iv_X11_201 th) (Nat.le_of_ble_eq_true rfl) dX11_fill_133 rfl (Nat.le_of_ble_eq_true rfl) (fun v131 => ?_)
      refine sm_istore_n (pc' := 137) [(3, iv v131), (0, qv (some th)), (1, iv a1)] dX11_fill_136 rfl (Nat.le_of_ble_eq_true rfl) rfl rfl ?_
      refine sm_sub [1, 2, 0] rfl ?_
      refine sX11_fill_L137 th a1 _ ?_ FL v131
      · skip
        exact sm_return rfl dX11_fill_353
theorem kX11_fill (th : Nat) (a1 : Int32) (a2 : Int32) : Callee 2 yX11_fill cX11_fill 7 none [qv (some th), iv a1, iv a2] vU (pX11_fill th a1 a2) := callee_ofS [(0, qv (some th)), (1, iv a1), (2, iv a2)] (by decide +kernel) (Nat.le_of_ble_eq_true rfl) rfl (sX11_fill th a1 a2)
/-! HollowPressModel.findEnds()V -/
set_option maxRecDepth 20000 in
theorem iv_X11_209 (a : Nat) (x0 : Int32) (x1 : Int32) : Inv RX11 3 (.invokevirtual 209) [iv x1, iv x0, qv (some a)] vU (onT a 11 (pX11_fill a x0 x1)) := inv_V (As := [iv x0, iv x1]) (t := 11) (kX11_fill a x0 x1) _ (by decide) rfl rfl w_640 w_641 w_642 w_585 w_643 ⟨by decide +kernel, by decide +kernel, by show _ = some 2; decide +kernel⟩ (by decide)
set_option maxRecDepth 20000 in
theorem iv_X11_215 (a : Nat)  : Inv RX11 1 (.invokevirtual 215) [qv (some a)] vI (onT a 11 (pX11_ends a )) := inv_V (As := []) (t := 11) (kX11_ends a ) _ (by decide) rfl rfl w_645 w_646 w_647 w_585 w_648 ⟨by decide +kernel, by decide +kernel, by show _ = some 0; decide +kernel⟩ (by decide)
abbrev eX11_findEnds : Env0 := (RX11, "findEnds", cX11_findEnds, 2, none, 3)
def pX11_findEnds_L2 (th : Nat) (k102 : Prg Unit) : Nat → Int32 → Prg Unit
  | 0, _ => fl
  | n + 1, v101 =>
    gI 11 th 24 fun v103 =>
    (if v103 ≤ v101 then k102
    else gF 11 th 28 fun v104 =>
    un v104 fun a105 =>
    ldI a105 v101 fun v106 =>
    (lt (pX11_findEnds_L2 th k102 n (v101 + (1 : Int32)) : Prg Unit) fun k107 =>
    (if v106 = (-1000000 : Int32) then k107
    else gF 11 th 28 fun v108 =>
    un v108 fun a109 =>
    ldI a109 v101 fun v110 =>
    cl (onT th 11 (pX11_fill th v110 (-1000000 : Int32))) fun _ =>
    gF 11 th 29 fun v111 =>
    cl (onT th 11 (pX11_ends th)) fun v112 =>
    un v111 fun a113 =>
    stI a113 v101 v112 (
    k107))))
def pX11_findEnds (th : Nat) : Prg Unit :=
    pX11_findEnds_L2 th (rt ()) FL (0 : Int32)
set_option maxRecDepth 20000 in
theorem sX11_findEnds_L2 (th : Nat) (k102 : Prg Unit) (hk102 : Sim eX11_findEnds vU 49 [] [] (k102)) : ∀ (n : Nat), ∀ (v101 : Int32), Sim eX11_findEnds vU 2 [(0, qv (some th)), (1, iv v101)] [] (pX11_findEnds_L2 th k102 n v101) := by
  intro n
  induction n with
  | zero =>
    intros
    exact sm_fl
  | succ n ih =>
    intro v101
    unfold pX11_findEnds_L2
    refine sm_iload_n (pc' := 3) dX11_findEnds_2 rfl rfl ?_
    refine sm_aload_n (pc' := 4) dX11_findEnds_3 rfl rfl ?_
    refine sm_getI (pc' := 7) fk_X11_218 nr_11_24 dX11_findEnds_4 rfl (fun v103 => ?_)
    refine sm_icmp_ge (pc' := 10) (pc1 := 49) dX11_findEnds_7 (by decide) rfl (fun _ => ?_) (fun _ => ?_)
    · skip
      refine sm_sub [] rfl ?_
      exact hk102
    · skip
      refine sm_aload_n (pc' := 11) dX11_findEnds_10 rfl rfl ?_
      refine sm_getF (pc' := 14) fk_X11_81 yr_11_28 dX11_findEnds_11 rfl (fun v104 => ?_)
      refine sm_iload_n (pc' := 15) dX11_findEnds_14 rfl rfl ?_
      rcases v104 with _ | a105
      · exact sm_unN
      refine sm_unS ?_
      refine sm_iaload (pc' := 16) dX11_findEnds_15 rfl (fun v106 => ?_)
      refine sm_ldc (pc' := 18) (-1000000 : Int32) w_621 dX11_findEnds_16 rfl ?_
      refine sm_lt (fun k107 => Sim eX11_findEnds vU 43 [(0, qv (some th)), (1, iv v101)] [] (k107)) ?_ (fun k107 hk107 => ?_)
      · skip
        refine sm_iinc (pc' := 46) (v101 + (1 : Int32)) [(1, iv (v101 + (1 : Int32))), (0, qv (some th))] dX11_findEnds_43 rfl rfl (Nat.le_of_ble_eq_true rfl) rfl rfl ?_
        refine sm_goto (pc' := 2) dX11_findEnds_46 (by decide) ?_
        refine sm_sub [1, 0] rfl ?_
        exact ih (v101 + (1 : Int32))
      · skip
        refine sm_icmp_eq (pc' := 21) (pc1 := 43) dX11_findEnds_18 (by decide) rfl (fun _ => ?_) (fun _ => ?_)
        · skip
          exact hk107
        · skip
          refine sm_aload_n (pc' := 22) dX11_findEnds_21 rfl rfl ?_
          refine sm_aload_n (pc' := 23) dX11_findEnds_22 rfl rfl ?_
          refine sm_getF (pc' := 26) fk_X11_81 yr_11_28 dX11_findEnds_23 rfl (fun v108 => ?_)
          refine sm_iload_n (pc' := 27) dX11_findEnds_26 rfl rfl ?_
          rcases v108 with _ | a109
          · exact sm_unN
          refine sm_unS ?_
          refine sm_iaload (pc' := 28) dX11_findEnds_27 rfl (fun v110 => ?_)
          refine sm_ldc (pc' := 30) (-1000000 : Int32) w_621 dX11_findEnds_28 rfl ?_
          refine sm_callv (pc' := 33) (sa := [iv (-1000000 : Int32), iv v110, qv (some th)]) (st := []) (iv_X11_209 th v110 (-1000000 : Int32)) (Nat.le_of_ble_eq_true rfl) dX11_findEnds_30 rfl (Nat.le_of_ble_eq_true rfl) (fun _ => ?_)
          refine sm_aload_n (pc' := 34) dX11_findEnds_33 rfl rfl ?_
          refine sm_getF (pc' := 37) fk_X11_84 yr_11_29 dX11_findEnds_34 rfl (fun v111 => ?_)
          refine sm_iload_n (pc' := 38) dX11_findEnds_37 rfl rfl ?_
          refine sm_aload_n (pc' := 39) dX11_findEnds_38 rfl rfl ?_
          refine sm_calli (pc' := 42) (sa := [qv (some th)]) (st := [iv v101, qv v111]) (iv_X11_215 th) (Nat.le_of_ble_eq_true rfl) dX11_findEnds_39 rfl (Nat.le_of_ble_eq_true rfl) (fun v112 => ?_)
          rcases v111 with _ | a113
          · exact sm_unN
          refine sm_unS ?_
          refine sm_iastore (pc' := 43) dX11_findEnds_42 rfl ?_
          exact hk107
set_option maxRecDepth 20000 in
theorem sX11_findEnds (th : Nat) : Sim eX11_findEnds vU 0 [(0, qv (some th))] [] (pX11_findEnds th) := by
  unfold pX11_findEnds
  refine sm_iconst (pc' := 1) (0 : Int32) dX11_findEnds_0 (by decide) rfl ?_
  refine sm_istore_n (pc' := 2) [(1, iv (0 : Int32)), (0, qv (some th))] dX11_findEnds_1 rfl (Nat.le_of_ble_eq_true rfl) rfl rfl ?_
  refine sm_sub [1, 0] rfl ?_
  refine sX11_findEnds_L2 th _ ?_ FL (0 : Int32)
  · skip
    exact sm_return rfl dX11_findEnds_49
theorem kX11_findEnds (th : Nat) : Callee 3 yX11_findEnds cX11_findEnds 2 none [qv (some th)] vU (pX11_findEnds th) := callee_ofS [(0, qv (some th))] (by decide +kernel) (Nat.le_of_ble_eq_true rfl) rfl (sX11_findEnds th)
