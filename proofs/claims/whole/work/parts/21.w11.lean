/-! HollowPressModel.lay(II)V -/
abbrev eX11_lay : Env0 := (RX11, "lay", cX11_lay, 5, none, 0)
def pX11_lay_L10 (th : Nat) (a2 : Int32) (k104 : Prg Unit) : Nat → Int32 → Int32 → Prg Unit
  | 0, _, _ => fl
  | n + 1, v102, v103 =>
    (if v103 < 0 then k104
    else gF 11 th 27 fun v105 =>
    gF 11 th 30 fun v106 =>
    rm v102 a2 fun v107 =>
    un v106 fun a108 =>
    ldI a108 v107 fun v109 =>
    un v105 fun a110 =>
    stI a110 v103 v109 (
    dv v102 a2 fun v111 =>
    pX11_lay_L10 th a2 k104 n v111 (v103 + (-1 : Int32))))
def pX11_lay (th : Nat) (a1 : Int32) (a2 : Int32) : Prg Unit :=
    gI 11 th 24 fun v101 =>
    pX11_lay_L10 th a2 (rt ()) FL a1 (v101 - (1 : Int32))
set_option maxRecDepth 20000 in
theorem sX11_lay_L10 (th : Nat) (a2 : Int32) (k104 : Prg Unit) (hk104 : Sim eX11_lay vU 40 [] [] (k104)) : ∀ (n : Nat), ∀ (v102 : Int32) (v103 : Int32), Sim eX11_lay vU 10 [(0, qv (some th)), (2, iv a2), (3, iv v102), (4, iv v103)] [] (pX11_lay_L10 th a2 k104 n v102 v103) := by
  intro n
  induction n with
  | zero =>
    intros
    exact sm_fl
  | succ n ih =>
    intro v102 v103
    unfold pX11_lay_L10
    refine sm_iload (pc' := 12) dX11_lay_10 rfl rfl ?_
    refine sm_if_lt (pc' := 15) (pc1 := 40) dX11_lay_12 (by decide) rfl (fun _ => ?_) (fun _ => ?_)
    · skip
      refine sm_sub [] rfl ?_
      exact hk104
    · skip
      refine sm_aload_n (pc' := 16) dX11_lay_15 rfl rfl ?_
      refine sm_getF (pc' := 19) fk_X11_78 yr_11_27 dX11_lay_16 rfl (fun v105 => ?_)
      refine sm_iload (pc' := 21) dX11_lay_19 rfl rfl ?_
      refine sm_aload_n (pc' := 22) dX11_lay_21 rfl rfl ?_
      refine sm_getF (pc' := 25) fk_X11_87 yr_11_30 dX11_lay_22 rfl (fun v106 => ?_)
      refine sm_iload_n (pc' := 26) dX11_lay_25 rfl rfl ?_
      refine sm_iload_n (pc' := 27) dX11_lay_26 rfl rfl ?_
      refine sm_irem (pc' := 28) dX11_lay_27 rfl (fun _ v107 _ => ?_)
      rcases v106 with _ | a108
      · exact sm_unN
      refine sm_unS ?_
      refine sm_iaload (pc' := 29) dX11_lay_28 rfl (fun v109 => ?_)
      rcases v105 with _ | a110
      · exact sm_unN
      refine sm_unS ?_
      refine sm_iastore (pc' := 30) dX11_lay_29 rfl ?_
      refine sm_iload_n (pc' := 31) dX11_lay_30 rfl rfl ?_
      refine sm_iload_n (pc' := 32) dX11_lay_31 rfl rfl ?_
      refine sm_idiv (pc' := 33) dX11_lay_32 rfl (fun _ v111 _ => ?_)
      refine sm_istore_n (pc' := 34) [(3, iv v111), (0, qv (some th)), (2, iv a2), (4, iv v103)] dX11_lay_33 rfl (Nat.le_of_ble_eq_true rfl) rfl rfl ?_
      refine sm_iinc (pc' := 37) (v103 + (-1 : Int32)) [(4, iv (v103 + (-1 : Int32))), (3, iv v111), (0, qv (some th)), (2, iv a2)] dX11_lay_34 rfl rfl (Nat.le_of_ble_eq_true rfl) rfl rfl ?_
      refine sm_goto (pc' := 10) dX11_lay_37 (by decide) ?_
      refine sm_sub [2, 3, 1, 0] rfl ?_
      exact ih v111 (v103 + (-1 : Int32))
set_option maxRecDepth 20000 in
theorem sX11_lay (th : Nat) (a1 : Int32) (a2 : Int32) : Sim eX11_lay vU 0 [(0, qv (some th)), (1, iv a1), (2, iv a2)] [] (pX11_lay th a1 a2) := by
  unfold pX11_lay
  refine sm_iload_n (pc' := 1) dX11_lay_0 rfl rfl ?_
  refine sm_istore_n (pc' := 2) [(3, iv a1), (0, qv (some th)), (1, iv a1), (2, iv a2)] dX11_lay_1 rfl (Nat.le_of_ble_eq_true rfl) rfl rfl ?_
  refine sm_aload_n (pc' := 3) dX11_lay_2 rfl rfl ?_
  refine sm_getI (pc' := 6) fk_X11_218 nr_11_24 dX11_lay_3 rfl (fun v101 => ?_)
  refine sm_iconst (pc' := 7) (1 : Int32) dX11_lay_6 (by decide) rfl ?_
  refine sm_isub (pc' := 8) dX11_lay_7 rfl ?_
  refine sm_istore (pc' := 10) [(4, iv (v101 - (1 : Int32))), (3, iv a1), (0, qv (some th)), (1, iv a1), (2, iv a2)] dX11_lay_8  (Nat.le_of_ble_eq_true rfl) rfl rfl ?_
  refine sm_sub [2, 4, 1, 0] rfl ?_
  refine sX11_lay_L10 th a2 _ ?_ FL a1 (v101 - (1 : Int32))
  · skip
    exact sm_return rfl dX11_lay_40
theorem kX11_lay (th : Nat) (a1 : Int32) (a2 : Int32) : Callee 0 yX11_lay cX11_lay 5 none [qv (some th), iv a1, iv a2] vU (pX11_lay th a1 a2) := callee_ofS [(0, qv (some th)), (1, iv a1), (2, iv a2)] (by decide +kernel) (Nat.le_of_ble_eq_true rfl) rfl (sX11_lay th a1 a2)
/-! HollowPressModel.mass()I -/
abbrev eX11_mass : Env0 := (RX11, "mass", cX11_mass, 3, (some .int), 0)
def pX11_mass_L4 (th : Nat) (k103 : Int32 → Prg Int32) : Nat → Int32 → Int32 → Prg Int32
  | 0, _, _ => fl
  | n + 1, v101, v102 =>
    gI 11 th 24 fun v104 =>
    (if v104 ≤ v102 then k103 v101
    else gF 11 th 26 fun v105 =>
    un v105 fun a106 =>
    ldI a106 v102 fun v107 =>
    gF 11 th 27 fun v108 =>
    un v108 fun a109 =>
    ldI a109 v102 fun v110 =>
    gF 11 th 27 fun v111 =>
    un v111 fun a112 =>
    ldI a112 v102 fun v113 =>
    pX11_mass_L4 th k103 n (v101 + ((v107 * v110) * v113)) (v102 + (1 : Int32)))
def pX11_mass (th : Nat) : Prg Int32 :=
    pX11_mass_L4 th (fun (v114 : Int32) => rt v114) FL (0 : Int32) (0 : Int32)
set_option maxRecDepth 20000 in
theorem sX11_mass_L4 (th : Nat) (k103 : Int32 → Prg Int32) (hk103 : ∀ (q1 : Int32), Sim eX11_mass vI 41 [(1, iv q1)] [] (k103 q1)) : ∀ (n : Nat), ∀ (v101 : Int32) (v102 : Int32), Sim eX11_mass vI 4 [(0, qv (some th)), (1, iv v101), (2, iv v102)] [] (pX11_mass_L4 th k103 n v101 v102) := by
  intro n
  induction n with
  | zero =>
    intros
    exact sm_fl
  | succ n ih =>
    intro v101 v102
    unfold pX11_mass_L4
    refine sm_iload_n (pc' := 5) dX11_mass_4 rfl rfl ?_
    refine sm_aload_n (pc' := 6) dX11_mass_5 rfl rfl ?_
    refine sm_getI (pc' := 9) fk_X11_218 nr_11_24 dX11_mass_6 rfl (fun v104 => ?_)
    refine sm_icmp_ge (pc' := 12) (pc1 := 41) dX11_mass_9 (by decide) rfl (fun _ => ?_) (fun _ => ?_)
    · skip
      refine sm_sub [1] rfl ?_
      exact hk103 v101
    · skip
      refine sm_iload_n (pc' := 13) dX11_mass_12 rfl rfl ?_
      refine sm_aload_n (pc' := 14) dX11_mass_13 rfl rfl ?_
      refine sm_getF (pc' := 17) fk_X11_75 yr_11_26 dX11_mass_14 rfl (fun v105 => ?_)
      refine sm_iload_n (pc' := 18) dX11_mass_17 rfl rfl ?_
      rcases v105 with _ | a106
      · exact sm_unN
      refine sm_unS ?_
      refine sm_iaload (pc' := 19) dX11_mass_18 rfl (fun v107 => ?_)
      refine sm_aload_n (pc' := 20) dX11_mass_19 rfl rfl ?_
      refine sm_getF (pc' := 23) fk_X11_78 yr_11_27 dX11_mass_20 rfl (fun v108 => ?_)
      refine sm_iload_n (pc' := 24) dX11_mass_23 rfl rfl ?_
      rcases v108 with _ | a109
      · exact sm_unN
      refine sm_unS ?_
      refine sm_iaload (pc' := 25) dX11_mass_24 rfl (fun v110 => ?_)
      refine sm_imul (pc' := 26) dX11_mass_25 rfl ?_
      refine sm_aload_n (pc' := 27) dX11_mass_26 rfl rfl ?_
      refine sm_getF (pc' := 30) fk_X11_78 yr_11_27 dX11_mass_27 rfl (fun v111 => ?_)
      refine sm_iload_n (pc' := 31) dX11_mass_30 rfl rfl ?_
      rcases v111 with _ | a112
      · exact sm_unN
      refine sm_unS ?_
      refine sm_iaload (pc' := 32) dX11_mass_31 rfl (fun v113 => ?_)
      refine sm_imul (pc' := 33) dX11_mass_32 rfl ?_
      refine sm_iadd (pc' := 34) dX11_mass_33 rfl ?_
      refine sm_istore_n (pc' := 35) [(1, iv (v101 + ((v107 * v110) * v113))), (0, qv (some th)), (2, iv v102)] dX11_mass_34 rfl (Nat.le_of_ble_eq_true rfl) rfl rfl ?_
      refine sm_iinc (pc' := 38) (v102 + (1 : Int32)) [(2, iv (v102 + (1 : Int32))), (1, iv (v101 + ((v107 * v110) * v113))), (0, qv (some th))] dX11_mass_35 rfl rfl (Nat.le_of_ble_eq_true rfl) rfl rfl ?_
      refine sm_goto (pc' := 4) dX11_mass_38 (by decide) ?_
      refine sm_sub [2, 1, 0] rfl ?_
      exact ih (v101 + ((v107 * v110) * v113)) (v102 + (1 : Int32))
set_option maxRecDepth 20000 in
theorem sX11_mass (th : Nat) : Sim eX11_mass vI 0 [(0, qv (some th))] [] (pX11_mass th) := by
  unfold pX11_mass
  refine sm_iconst (pc' := 1) (0 : Int32) dX11_mass_0 (by decide) rfl ?_
  refine sm_istore_n (pc' := 2) [(1, iv (0 : Int32)), (0, qv (some th))] dX11_mass_1 rfl (Nat.le_of_ble_eq_true rfl) rfl rfl ?_
  refine sm_iconst (pc' := 3) (0 : Int32) dX11_mass_2 (by decide) rfl ?_
  refine sm_istore_n (pc' := 4) [(2, iv (0 : Int32)), (1, iv (0 : Int32)), (0, qv (some th))] dX11_mass_3 rfl (Nat.le_of_ble_eq_true rfl) rfl rfl ?_
  refine sm_sub [2, 1, 0] rfl ?_
  refine sX11_mass_L4 th _ ?_ FL (0 : Int32) (0 : Int32)
  · intro v114
    refine sm_iload_n (pc' := 42) dX11_mass_41 rfl rfl ?_
    exact sm_ireturn rfl dX11_mass_42
theorem kX11_mass (th : Nat) : Callee 0 yX11_mass cX11_mass 3 (some .int) [qv (some th)] vI (pX11_mass th) := callee_ofS [(0, qv (some th))] (by decide +kernel) (Nat.le_of_ble_eq_true rfl) rfl (sX11_mass th)
/-! HollowPressModel.endOf(I)I -/
abbrev eX11_endOf : Env0 := (RX11, "endOf", cX11_endOf, 4, (some .int), 0)
def pX11_endOf_L9 (th : Nat) (k106 : Int32 → Prg Int32) : Nat → Int32 → Int32 → Prg Int32
  | 0, _, _ => fl
  | n + 1, v104, v105 =>
    (if v105 = (-1000000 : Int32) then k106 v104
    else gF 11 th 26 fun v107 =>
    un v107 fun a108 =>
    ldI a108 v105 fun v109 =>
    gF 11 th 27 fun v110 =>
    un v110 fun a111 =>
    ldI a111 v105 fun v112 =>
    gF 11 th 27 fun v113 =>
    un v113 fun a114 =>
    ldI a114 v105 fun v115 =>
    gF 11 th 27 fun v116 =>
    un v116 fun a117 =>
    ldI a117 v105 fun v118 =>
    dv (v109 * (5000 : Int32)) ((v112 * v115) * v118) fun v119 =>
    gF 11 th 25 fun v120 =>
    un v120 fun a121 =>
    ldI a121 v105 fun v122 =>
    pX11_endOf_L9 th k106 n (v104 + v119) v122)
def pX11_endOf (th : Nat) (a1 : Int32) : Prg Int32 :=
    gF 11 th 29 fun v101 =>
    un v101 fun a102 =>
    ldI a102 a1 fun v103 =>
    pX11_endOf_L9 th (fun (v123 : Int32) => rt v123) FL v103 a1
set_option maxRecDepth 20000 in
theorem sX11_endOf_L9 (th : Nat) (k106 : Int32 → Prg Int32) (hk106 : ∀ (q2 : Int32), Sim eX11_endOf vI 59 [(2, iv q2)] [] (k106 q2)) : ∀ (n : Nat), ∀ (v104 : Int32) (v105 : Int32), Sim eX11_endOf vI 9 [(0, qv (some th)), (2, iv v104), (3, iv v105)] [] (pX11_endOf_L9 th k106 n v104 v105) := by
  intro n
  induction n with
  | zero =>
    intros
    exact sm_fl
  | succ n ih =>
    intro v104 v105
    unfold pX11_endOf_L9
    refine sm_iload_n (pc' := 10) dX11_endOf_9 rfl rfl ?_
    refine sm_ldc (pc' := 12) (-1000000 : Int32) w_621 dX11_endOf_10 rfl ?_
    refine sm_icmp_eq (pc' := 15) (pc1 := 59) dX11_endOf_12 (by decide) rfl (fun _ => ?_) (fun _ => ?_)
    · skip
      refine sm_sub [1] rfl ?_
      exact hk106 v104
    · skip
      refine sm_iload_n (pc' := 16) dX11_endOf_15 rfl rfl ?_
      refine sm_aload_n (pc' := 17) dX11_endOf_16 rfl rfl ?_
      refine sm_getF (pc' := 20) fk_X11_75 yr_11_26 dX11_endOf_17 rfl (fun v107 => ?_)
      refine sm_iload_n (pc' := 21) dX11_endOf_20 rfl rfl ?_
      rcases v107 with _ | a108
      · exact sm_unN
      refine sm_unS ?_
      refine sm_iaload (pc' := 22) dX11_endOf_21 rfl (fun v109 => ?_)
      refine sm_sipush (pc' := 25) (5000 : Int32) dX11_endOf_22 (by decide) rfl ?_
      refine sm_imul (pc' := 26) dX11_endOf_25 rfl ?_
      refine sm_aload_n (pc' := 27) dX11_endOf_26 rfl rfl ?_
      refine sm_getF (pc' := 30) fk_X11_78 yr_11_27 dX11_endOf_27 rfl (fun v110 => ?_)
      refine sm_iload_n (pc' := 31) dX11_endOf_30 rfl rfl ?_
      rcases v110 with _ | a111
      · exact sm_unN
      refine sm_unS ?_
      refine sm_iaload (pc' := 32) dX11_endOf_31 rfl (fun v112 => ?_)
      refine sm_aload_n (pc' := 33) dX11_endOf_32 rfl rfl ?_
      refine sm_getF (pc' := 36) fk_X11_78 yr_11_27 dX11_endOf_33 rfl (fun v113 => ?_)
      refine sm_iload_n (pc' := 37) dX11_endOf_36 rfl rfl ?_
      rcases v113 with _ | a114
      · exact sm_unN
      refine sm_unS ?_
      refine sm_iaload (pc' := 38) dX11_endOf_37 rfl (fun v115 => ?_)
      refine sm_imul (pc' := 39) dX11_endOf_38 rfl ?_
      refine sm_aload_n (pc' := 40) dX11_endOf_39 rfl rfl ?_
      refine sm_getF (pc' := 43) fk_X11_78 yr_11_27 dX11_endOf_40 rfl (fun v116 => ?_)
      refine sm_iload_n (pc' := 44) dX11_endOf_43 rfl rfl ?_
      rcases v116 with _ | a117
      · exact sm_unN
      refine sm_unS ?_
      refine sm_iaload (pc' := 45) dX11_endOf_44 rfl (fun v118 => ?_)
      refine sm_imul (pc' := 46) dX11_endOf_45 rfl ?_
      refine sm_idiv (pc' := 47) dX11_endOf_46 rfl (fun _ v119 _ => ?_)
      refine sm_iadd (pc' := 48) dX11_endOf_47 rfl ?_
      refine sm_istore_n (pc' := 49) [(2, iv (v104 + v119)), (0, qv (some th)), (3, iv v105)] dX11_endOf_48 rfl (Nat.le_of_ble_eq_true rfl) rfl rfl ?_
      refine sm_aload_n (pc' := 50) dX11_endOf_49 rfl rfl ?_
      refine sm_getF (pc' := 53) fk_X11_72 yr_11_25 dX11_endOf_50 rfl (fun v120 => ?_)
      refine sm_iload_n (pc' := 54) dX11_endOf_53 rfl rfl ?_
      rcases v120 with _ | a121
      · exact sm_unN
      refine sm_unS ?_
      refine sm_iaload (pc' := 55) dX11_endOf_54 rfl (fun v122 => ?_)
      refine sm_istore_n (pc' := 56) [(3, iv v122), (2, iv (v104 + v119)), (0, qv (some th))] dX11_endOf_55 rfl (Nat.le_of_ble_eq_true rfl) rfl rfl ?_
      refine sm_goto (pc' := 9) dX11_endOf_56 (by decide) ?_
      refine sm_sub [2, 1, 0] rfl ?_
      exact ih (v104 + v119) v122
set_option maxRecDepth 20000 in
theorem sX11_endOf (th : Nat) (a1 : Int32) : Sim eX11_endOf vI 0 [(0, qv (some th)), (1, iv a1)] [] (pX11_endOf th a1) := by
  unfold pX11_endOf
  refine sm_aload_n (pc' := 1) dX11_endOf_0 rfl rfl ?_
  refine sm_getF (pc' := 4) fk_X11_84 yr_11_29 dX11_endOf_1 rfl (fun v101 => ?_)
  refine sm_iload_n (pc' := 5) dX11_endOf_4 rfl rfl ?_
  rcases v101 with _ | a102
  · exact sm_unN
  refine sm_unS ?_
  refine sm_iaload (pc' := 6) dX11_endOf_5 rfl (fun v103 => ?_)
  refine sm_istore_n (pc' := 7) [(2, iv v103), (0, qv (some th)), (1, iv a1)] dX11_endOf_6 rfl (Nat.le_of_ble_eq_true rfl) rfl rfl ?_
  refine sm_iload_n (pc' := 8) dX11_endOf_7 rfl rfl ?_
  refine sm_istore_n (pc' := 9) [(3, iv a1), (2, iv v103), (0, qv (some th)), (1, iv a1)] dX11_endOf_8 rfl (Nat.le_of_ble_eq_true rfl) rfl rfl ?_
  refine sm_sub [2, 1, 0] rfl ?_
  refine sX11_endOf_L9 th _ ?_ FL v103 a1
  · intro v123
    refine sm_iload_n (pc' := 60) dX11_endOf_59 rfl rfl ?_
    exact sm_ireturn rfl dX11_endOf_60
theorem kX11_endOf (th : Nat) (a1 : Int32) : Callee 0 yX11_endOf cX11_endOf 4 (some .int) [qv (some th), iv a1] vI (pX11_endOf th a1) := callee_ofS [(0, qv (some th)), (1, iv a1)] (by decide +kernel) (Nat.le_of_ble_eq_true rfl) rfl (sX11_endOf th a1)
/-! HollowPressModel.spread()I -/
set_option maxRecDepth 20000 in
theorem iv_X11_226 (a : Nat) (x0 : Int32) : Inv RX11 1 (.invokevirtual 226) [iv x0, qv (some a)] vI (onT a 11 (pX11_endOf a x0)) := inv_V (As := [iv x0]) (t := 11) (kX11_endOf a x0) _ (by decide) rfl rfl w_653 w_654 w_655 w_585 w_656 ⟨by decide +kernel, by decide +kernel, by show _ = some 1; decide +kernel⟩ (by decide)
abbrev eX11_spread : Env0 := (RX11, "spread", cX11_spread, 6, (some .int), 1)
def pX11_spread_L9 (th : Nat) (k105 : Int32 → Int32 → Prg Int32) : Nat → Int32 → Int32 → Int32 → Int32 → Prg Int32
  | 0, _, _, _, _ => fl
  | n + 1, v101, v102, v103, v104 =>
    gI 11 th 24 fun v106 =>
    (if v106 ≤ v104 then k105 v101 v102
    else gF 11 th 28 fun v107 =>
    un v107 fun a108 =>
    ldI a108 v104 fun v109 =>
    (lt (fun (v110 : Int32) (v111 : Int32) (v112 : Int32) => pX11_spread_L9 th k105 n v110 v111 v112 (v104 + (1 : Int32)) : Int32 → Int32 → Int32 → Prg Int32) fun k113 =>
    (if v109 = (-1000000 : Int32) then k113 v101 v102 v103
    else cl (onT th 11 (pX11_endOf th v104)) fun v114 =>
    (lt (fun (v115 : Int32) => (lt (fun (v117 : Int32) => k113 v115 v117 (v103 + (1 : Int32)) : Int32 → Prg Int32) fun k118 =>
    (lt (k118 v114 : Prg Int32) fun k119 =>
    (if v103 = 0 then k119
    else (if v114 ≤ v102 then k118 v102
    else k119)))) : Int32 → Prg Int32) fun k116 =>
    (lt (k116 v114 : Prg Int32) fun k120 =>
    (if v103 = 0 then k120
    else (if v101 ≤ v114 then k116 v101
    else k120)))))))
def pX11_spread (th : Nat) : Prg Int32 :=
    pX11_spread_L9 th (fun (v121 : Int32) (v122 : Int32) => rt (v122 - v121)) FL (0 : Int32) (0 : Int32) (0 : Int32) (0 : Int32)
set_option maxRecDepth 20000 in
theorem sX11_spread_L9 (th : Nat) (k105 : Int32 → Int32 → Prg Int32) (hk105 : ∀ (q1 : Int32) (q2 : Int32), Sim eX11_spread vI 81 [(1, iv q1), (2, iv q2)] [] (k105 q1 q2)) : ∀ (n : Nat), ∀ (v101 : Int32) (v102 : Int32) (v103 : Int32) (v104 : Int32), Sim eX11_spread vI 9 [(0, qv (some th)), (1, iv v101), (2, iv v102), (3, iv v103), (4, iv v104)] [] (pX11_spread_L9 th k105 n v101 v102 v103 v104) := by
  intro n
  induction n with
  | zero =>
    intros
    exact sm_fl
  | succ n ih =>
    intro v101 v102 v103 v104
    unfold pX11_spread_L9
    refine sm_iload (pc' := 11) dX11_spread_9 rfl rfl ?_
    refine sm_aload_n (pc' := 12) dX11_spread_11 rfl rfl ?_
    refine sm_getI (pc' := 15) fk_X11_218 nr_11_24 dX11_spread_12 rfl (fun v106 => ?_)
    refine sm_icmp_ge (pc' := 18) (pc1 := 81) dX11_spread_15 (by decide) rfl (fun _ => ?_) (fun _ => ?_)
    · skip
      refine sm_sub [1, 2] rfl ?_
      exact hk105 v101 v102
    · skip
      refine sm_aload_n (pc' := 19) dX11_spread_18 rfl rfl ?_
      refine sm_getF (pc' := 22) fk_X11_81 yr_11_28 dX11_spread_19 rfl (fun v107 => ?_)
      refine sm_iload (pc' := 24) dX11_spread_22 rfl rfl ?_
      rcases v107 with _ | a108
      · exact sm_unN
      refine sm_unS ?_
      refine sm_iaload (pc' := 25) dX11_spread_24 rfl (fun v109 => ?_)
      refine sm_ldc (pc' := 27) (-1000000 : Int32) w_621 dX11_spread_25 rfl ?_
      refine sm_lt (fun k113 => ∀ (v110 : Int32) (v111 : Int32) (v112 : Int32), Sim eX11_spread vI 75 [(0, qv (some th)), (1, iv v110), (2, iv v111), (3, iv v112), (4, iv v104)] [] (k113 v110 v111 v112)) ?_ (fun k113 hk113 => ?_)
      · intro v110 v111 v112
        refine sm_iinc (pc' := 78) (v104 + (1 : Int32)) [(4, iv (v104 + (1 : Int32))), (0, qv (some th)), (1, iv v110), (2, iv v111), (3, iv v112)] dX11_spread_75 rfl rfl (Nat.le_of_ble_eq_true rfl) rfl rfl ?_
        refine sm_goto (pc' := 9) dX11_spread_78 (by decide) ?_
        refine sm_sub [1, 2, 3, 4, 0] rfl ?_
        exact ih v110 v111 v112 (v104 + (1 : Int32))
      · skip
        refine sm_icmp_eq (pc' := 30) (pc1 := 75) dX11_spread_27 (by decide) rfl (fun _ => ?_) (fun _ => ?_)
        · skip
          exact hk113 v101 v102 v103
        · skip
          refine sm_aload_n (pc' := 31) dX11_spread_30 rfl rfl ?_
          refine sm_iload (pc' := 33) dX11_spread_31 rfl rfl ?_
          refine sm_calli (pc' := 36) (sa := [iv v104, qv (some th)]) (st := []) (iv_X11_226 th v104) (Nat.le_of_ble_eq_true rfl) dX11_spread_33 rfl (Nat.le_of_ble_eq_true rfl) (fun v114 => ?_)
          refine sm_istore (pc' := 38) [(5, iv v114), (0, qv (some th)), (1, iv v101), (2, iv v102), (3, iv v103), (4, iv v104)] dX11_spread_36  (Nat.le_of_ble_eq_true rfl) rfl rfl ?_
          refine sm_iload_n (pc' := 39) dX11_spread_38 rfl rfl ?_
          refine sm_lt (fun k116 => ∀ (v115 : Int32), Sim eX11_spread vI 54 [(0, qv (some th)), (2, iv v102), (3, iv v103), (4, iv v104), (5, iv v114)] [iv v115] (k116 v115)) ?_ (fun k116 hk116 => ?_)
          · intro v115
            refine sm_istore_n (pc' := 55) [(1, iv v115), (0, qv (some th)), (2, iv v102), (3, iv v103), (4, iv v104), (5, iv v114)] dX11_spread_54 rfl (Nat.le_of_ble_eq_true rfl) rfl rfl ?_
            refine sm_iload_n (pc' := 56) dX11_spread_55 rfl rfl ?_
            refine sm_lt (fun k118 => ∀ (v117 : Int32), Sim eX11_spread vI 71 [(0, qv (some th)), (1, iv v115), (3, iv v103), (4, iv v104)] [iv v117] (k118 v117)) ?_ (fun k118 hk118 => ?_)
            · intro v117
              refine sm_istore_n (pc' := 72) [(2, iv v117), (0, qv (some th)), (1, iv v115), (3, iv v103), (4, iv v104)] dX11_spread_71 rfl (Nat.le_of_ble_eq_true rfl) rfl rfl ?_
              refine sm_iinc (pc' := 75) (v103 + (1 : Int32)) [(3, iv (v103 + (1 : Int32))), (2, iv v117), (0, qv (some th)), (1, iv v115), (4, iv v104)] dX11_spread_72 rfl rfl (Nat.le_of_ble_eq_true rfl) rfl rfl ?_
              refine sm_sub [2, 3, 1, 0, 4] rfl ?_
              exact hk113 v115 v117 (v103 + (1 : Int32))
            · skip
              refine sm_lt (fun k119 => Sim eX11_spread vI 65 [(0, qv (some th)), (1, iv v115), (3, iv v103), (4, iv v104), (5, iv v114)] [] (k119)) ?_ (fun k119 hk119 => ?_)
              · skip
                refine sm_iload (pc' := 67) dX11_spread_65 rfl rfl ?_
                refine sm_goto (pc' := 71) dX11_spread_67 (by decide) ?_
                refine sm_sub [0, 1, 2, 3] rfl ?_
                exact hk118 v114
              · skip
                refine sm_if_eq (pc' := 59) (pc1 := 65) dX11_spread_56 (by decide) rfl (fun _ => ?_) (fun _ => ?_)
                · skip
                  refine sm_sub [1, 0, 3, 4, 5] rfl ?_
                  exact hk119
                · skip
                  refine sm_iload (pc' := 61) dX11_spread_59 rfl rfl ?_
                  refine sm_iload_n (pc' := 62) dX11_spread_61 rfl rfl ?_
                  refine sm_icmp_le (pc' := 65) (pc1 := 70) dX11_spread_62 (by decide) rfl (fun _ => ?_) (fun _ => ?_)
                  · skip
                    refine sm_iload_n (pc' := 71) dX11_spread_70 rfl rfl ?_
                    refine sm_sub [1, 0, 3, 4] rfl ?_
                    exact hk118 v102
                  · skip
                    refine sm_sub [1, 0, 3, 4, 5] rfl ?_
                    exact hk119
          · skip
            refine sm_lt (fun k120 => Sim eX11_spread vI 48 [(0, qv (some th)), (2, iv v102), (3, iv v103), (4, iv v104), (5, iv v114)] [] (k120)) ?_ (fun k120 hk120 => ?_)
            · skip
              refine sm_iload (pc' := 50) dX11_spread_48 rfl rfl ?_
              refine sm_goto (pc' := 54) dX11_spread_50 (by decide) ?_
              exact hk116 v114
            · skip
              refine sm_if_eq (pc' := 42) (pc1 := 48) dX11_spread_39 (by decide) rfl (fun _ => ?_) (fun _ => ?_)
              · skip
                refine sm_sub [1, 3, 4, 5, 0] rfl ?_
                exact hk120
              · skip
                refine sm_iload (pc' := 44) dX11_spread_42 rfl rfl ?_
                refine sm_iload_n (pc' := 45) dX11_spread_44 rfl rfl ?_
                refine sm_icmp_ge (pc' := 48) (pc1 := 53) dX11_spread_45 (by decide) rfl (fun _ => ?_) (fun _ => ?_)
                · skip
                  refine sm_iload_n (pc' := 54) dX11_spread_53 rfl rfl ?_
                  refine sm_sub [1, 3, 4, 5, 0] rfl ?_
                  exact hk116 v101
                · skip
                  refine sm_sub [1, 3, 4, 5, 0] rfl ?_
                  exact hk120
set_option maxRecDepth 20000 in
theorem sX11_spread (th : Nat) : Sim eX11_spread vI 0 [(0, qv (some th))] [] (pX11_spread th) := by
  unfold pX11_spread
  refine sm_iconst (pc' := 1) (0 : Int32) dX11_spread_0 (by decide) rfl ?_
  refine sm_istore_n (pc' := 2) [(1, iv (0 : Int32)), (0, qv (some th))] dX11_spread_1 rfl (Nat.le_of_ble_eq_true rfl) rfl rfl ?_
  refine sm_iconst (pc' := 3) (0 : Int32) dX11_spread_2 (by decide) rfl ?_
  refine sm_istore_n (pc' := 4) [(2, iv (0 : Int32)), (1, iv (0 : Int32)), (0, qv (some th))] dX11_spread_3 rfl (Nat.le_of_ble_eq_true rfl) rfl rfl ?_
  refine sm_iconst (pc' := 5) (0 : Int32) dX11_spread_4 (by decide) rfl ?_
  refine sm_istore_n (pc' := 6) [(3, iv (0 : Int32)), (2, iv (0 : Int32)), (1, iv (0 : Int32)), (0, qv (some th))] dX11_spread_5 rfl (Nat.le_of_ble_eq_true rfl) rfl rfl ?_
  refine sm_iconst (pc' := 7) (0 : Int32) dX11_spread_6 (by decide) rfl ?_
  refine sm_istore (pc' := 9) [(4, iv (0 : Int32)), (3, iv (0 : Int32)), (2, iv (0 : Int32)), (1, iv (0 : Int32)), (0, qv (some th))] dX11_spread_7  (Nat.le_of_ble_eq_true rfl) rfl rfl ?_
  refine sm_sub [4, 3, 2, 1, 0] rfl ?_
  refine sX11_spread_L9 th _ ?_ FL (0 : Int32) (0 : Int32) (0 : Int32) (0 : Int32)
  · intro v121 v122
    refine sm_iload_n (pc' := 82) dX11_spread_81 rfl rfl ?_
    refine sm_iload_n (pc' := 83) dX11_spread_82 rfl rfl ?_
    refine sm_isub (pc' := 84) dX11_spread_83 rfl ?_
    exact sm_ireturn rfl dX11_spread_84
theorem kX11_spread (th : Nat) : Callee 1 yX11_spread cX11_spread 6 (some .int) [qv (some th)] vI (pX11_spread th) := callee_ofS [(0, qv (some th))] (by decide +kernel) (Nat.le_of_ble_eq_true rfl) rfl (sX11_spread th)
/-! HollowPressModel.balance(I)I -/
set_option maxRecDepth 20000 in
theorem iv_X11_229 (a : Nat)  : Inv RX11 4 (.invokevirtual 229) [qv (some a)] vU (onT a 11 (pX11_findEnds a )) := inv_V (As := []) (t := 11) (kX11_findEnds a ) _ (by decide) rfl rfl w_657 w_658 w_659 w_585 w_660 ⟨by decide +kernel, by decide +kernel, by show _ = some 0; decide +kernel⟩ (by decide)
set_option maxRecDepth 20000 in
theorem iv_X11_238 (a : Nat) (x0 : Int32) (x1 : Int32) : Inv RX11 1 (.invokevirtual 238) [iv x1, iv x0, qv (some a)] vU (onT a 11 (pX11_lay a x0 x1)) := inv_V (As := [iv x0, iv x1]) (t := 11) (kX11_lay a x0 x1) _ (by decide) rfl rfl w_661 w_662 w_663 w_585 w_664 ⟨by decide +kernel, by decide +kernel, by show _ = some 2; decide +kernel⟩ (by decide)
set_option maxRecDepth 20000 in
theorem iv_X11_232 (a : Nat)  : Inv RX11 2 (.invokevirtual 232) [qv (some a)] vI (onT a 11 (pX11_spread a )) := inv_V (As := []) (t := 11) (kX11_spread a ) _ (by decide) rfl rfl w_665 w_666 w_667 w_585 w_668 ⟨by decide +kernel, by decide +kernel, by show _ = some 0; decide +kernel⟩ (by decide)
set_option maxRecDepth 20000 in
theorem iv_X11_235 (a : Nat)  : Inv RX11 1 (.invokevirtual 235) [qv (some a)] vI (onT a 11 (pX11_mass a )) := inv_V (As := []) (t := 11) (kX11_mass a ) _ (by decide) rfl rfl w_669 w_670 w_671 w_585 w_672 ⟨by decide +kernel, by decide +kernel, by show _ = some 0; decide +kernel⟩ (by decide)
abbrev eX11_balance : Env0 := (RX11, "balance", cX11_balance, 10, (some .int), 4)
def pX11_balance_L9 (th : Nat) (a1 : Int32) (k103 : Int32 → Prg Int32) : Nat → Int32 → Int32 → Prg Int32
  | 0, _, _ => fl
  | n + 1, v101, v102 =>
    (if (10 : Int32) ≤ v102 then k103 v101
    else (lt (fun (v104 : Int32) => pX11_balance_L9 th a1 k103 n v104 (v102 + (1 : Int32)) : Int32 → Prg Int32) fun k105 =>
    (if ((a1 >>> (v102 &&& 31)) &&& (1 : Int32)) = (1 : Int32) then (lt (k105 (v101 + (1 : Int32)) : Prg Int32) fun k106 =>
    (if (3 : Int32) ≤ v101 then k106
    else gF 11 th 30 fun v107 =>
    un v107 fun a108 =>
    stI a108 v101 v102 (
    k106)))
    else k105 v101)))
def pX11_balance_L75 (th : Nat) (v109 : Int32) (k113 : Int32 → Prg Int32) : Nat → Int32 → Int32 → Prg Int32
  | 0, _, _ => fl
  | n + 1, v111, v112 =>
    gI 11 th 24 fun v114 =>
    (if v114 ≤ v112 then k113 v111
    else pX11_balance_L75 th v109 k113 n (v111 * v109) (v112 + (1 : Int32)))
def pX11_balance_L107 (th : Nat) (v109 : Int32) (v115 : Int32) (k120 : Int32 → Prg Int32) : Nat → Int32 → Int32 → Int32 → Int32 → Prg Int32
  | 0, _, _, _, _ => fl
  | n + 1, v116, v117, v118, v119 =>
    (if v115 ≤ v119 then k120 v116
    else cl (onT th 11 (pX11_lay th v119 v109)) fun _ =>
    cl (onT th 11 (pX11_spread th)) fun v121 =>
    cl (onT th 11 (pX11_mass th)) fun v122 =>
    (lt (fun (v123 : Int32) (v124 : Int32) (v125 : Int32) => pX11_balance_L107 th v109 v115 k120 n v123 v124 v125 (v119 + (1 : Int32)) : Int32 → Int32 → Int32 → Prg Int32) fun k126 =>
    (lt (k126 v119 v121 v122 : Prg Int32) fun k127 =>
    (if v116 = (-1000000 : Int32) then k127
    else (if v121 < v117 then k127
    else (if v121 = v117 then (if v118 ≤ v122 then k126 v116 v117 v118
    else k127)
    else k126 v116 v117 v118))))))
def pX11_balance (th : Nat) (a1 : Int32) : Prg Int32 :=
    pI 11 th 0 (0 : Int32) (
    pX11_balance_L9 th a1 (fun (v109 : Int32) => (lt (rt (-1000001 : Int32) : Prg Int32) fun k110 =>
    (if v109 < (1 : Int32) then k110
    else (if (3 : Int32) < v109 then k110
    else (if (a1 &&& (-1023 : Int32)) = 0 then cl (onT th 11 (pX11_findEnds th)) fun _ =>
    pX11_balance_L75 th v109 (fun (v115 : Int32) => pX11_balance_L107 th v109 v115 (fun (v128 : Int32) => cl (onT th 11 (pX11_lay th v128 v109)) fun _ =>
    cl (onT th 11 (pX11_spread th)) fun v129 =>
    rt v129) FL (-1000000 : Int32) (0 : Int32) (0 : Int32) (0 : Int32)) FL (1 : Int32) (0 : Int32)
    else k110))))) FL (0 : Int32) (1 : Int32))
set_option maxRecDepth 20000 in
theorem sX11_balance_L9 (th : Nat) (a1 : Int32) (k103 : Int32 → Prg Int32) (hk103 : ∀ (q2 : Int32), Sim eX11_balance vI 45 [(0, qv (some th)), (1, iv a1), (2, iv q2)] [] (k103 q2)) : ∀ (n : Nat), ∀ (v101 : Int32) (v102 : Int32), Sim eX11_balance vI 9 [(0, qv (some th)), (1, iv a1), (2, iv v101), (3, iv v102)] [] (pX11_balance_L9 th a1 k103 n v101 v102) := by
  intro n
  induction n with
  | zero =>
    intros
    exact sm_fl
  | succ n ih =>
    intro v101 v102
    unfold pX11_balance_L9
    refine sm_iload_n (pc' := 10) dX11_balance_9 rfl rfl ?_
    refine sm_bipush (pc' := 12) (10 : Int32) dX11_balance_10 (by decide) rfl ?_
    refine sm_icmp_ge (pc' := 15) (pc1 := 45) dX11_balance_12 (by decide) rfl (fun _ => ?_) (fun _ => ?_)
    · skip
      refine sm_sub [0, 1, 2] rfl ?_
      exact hk103 v101
    · skip
      refine sm_iload_n (pc' := 16) dX11_balance_15 rfl rfl ?_
      refine sm_iload_n (pc' := 17) dX11_balance_16 rfl rfl ?_
      refine sm_ishr (pc' := 18) dX11_balance_17 rfl ?_
      refine sm_iconst (pc' := 19) (1 : Int32) dX11_balance_18 (by decide) rfl ?_
      refine sm_iand (pc' := 20) dX11_balance_19 rfl ?_
      refine sm_iconst (pc' := 21) (1 : Int32) dX11_balance_20 (by decide) rfl ?_
      refine sm_lt (fun k105 => ∀ (v104 : Int32), Sim eX11_balance vI 39 [(0, qv (some th)), (1, iv a1), (2, iv v104), (3, iv v102)] [] (k105 v104)) ?_ (fun k105 hk105 => ?_)
      · intro v104
        refine sm_iinc (pc' := 42) (v102 + (1 : Int32)) [(3, iv (v102 + (1 : Int32))), (0, qv (some th)), (1, iv a1), (2, iv v104)] dX11_balance_39 rfl rfl (Nat.le_of_ble_eq_true rfl) rfl rfl ?_
        refine sm_goto (pc' := 9) dX11_balance_42 (by decide) ?_
        refine sm_sub [1, 2, 3, 0] rfl ?_
        exact ih v104 (v102 + (1 : Int32))
      · skip
        refine sm_icmp_ne (pc' := 24) (pc1 := 39) dX11_balance_21 (by decide) rfl (fun _ => ?_) (fun _ => ?_)
        · skip
          exact hk105 v101
        · skip
          refine sm_iload_n (pc' := 25) dX11_balance_24 rfl rfl ?_
          refine sm_iconst (pc' := 26) (3 : Int32) dX11_balance_25 (by decide) rfl ?_
          refine sm_lt (fun k106 => Sim eX11_balance vI 36 [(0, qv (some th)), (1, iv a1), (2, iv v101), (3, iv v102)] [] (k106)) ?_ (fun k106 hk106 => ?_)
          · skip
            refine sm_iinc (pc' := 39) (v101 + (1 : Int32)) [(2, iv (v101 + (1 : Int32))), (0, qv (some th)), (1, iv a1), (3, iv v102)] dX11_balance_36 rfl rfl (Nat.le_of_ble_eq_true rfl) rfl rfl ?_
            refine sm_sub [1, 2, 0, 3] rfl ?_
            exact hk105 (v101 + (1 : Int32))
          · skip
            refine sm_icmp_ge (pc' := 29) (pc1 := 36) dX11_balance_26 (by decide) rfl (fun _ => ?_) (fun _ => ?_)
            · skip
              exact hk106
            · skip
              refine sm_aload_n (pc' := 30) dX11_balance_29 rfl rfl ?_
              refine sm_getF (pc' := 33) fk_X11_87 yr_11_30 dX11_balance_30 rfl (fun v107 => ?_)
              refine sm_iload_n (pc' := 34) dX11_balance_33 rfl rfl ?_
              refine sm_iload_n (pc' := 35) dX11_balance_34 rfl rfl ?_
              rcases v107 with _ | a108
              · exact sm_unN
              refine sm_unS ?_
              refine sm_iastore (pc' := 36) dX11_balance_35 rfl ?_
              exact hk106
set_option maxRecDepth 20000 in
theorem sX11_balance_L75 (th : Nat) (v109 : Int32) (k113 : Int32 → Prg Int32) (hk113 : ∀ (q3 : Int32), Sim eX11_balance vI 94 [(0, qv (some th)), (2, iv v109), (3, iv q3)] [] (k113 q3)) : ∀ (n : Nat), ∀ (v111 : Int32) (v112 : Int32), Sim eX11_balance vI 75 [(0, qv (some th)), (2, iv v109), (3, iv v111), (4, iv v112)] [] (pX11_balance_L75 th v109 k113 n v111 v112) := by
  intro n
  induction n with
  | zero =>
    intros
    exact sm_fl
  | succ n ih =>
    intro v111 v112
    unfold pX11_balance_L75
    refine sm_iload (pc' := 77) dX11_balance_75 rfl rfl ?_
    refine sm_aload_n (pc' := 78) dX11_balance_77 rfl rfl ?_
    refine sm_getI (pc' := 81) fk_X11_218 nr_11_24 dX11_balance_78 rfl (fun v114 => ?_)
    refine sm_icmp_ge (pc' := 84) (pc1 := 94) dX11_balance_81 (by decide) rfl (fun _ => ?_) (fun _ => ?_)
    · skip
      refine sm_sub [0, 1, 2] rfl ?_
      exact hk113 v111
    · skip
      refine sm_iload_n (pc' := 85) dX11_balance_84 rfl rfl ?_
      refine sm_iload_n (pc' := 86) dX11_balance_85 rfl rfl ?_
      refine sm_imul (pc' := 87) dX11_balance_86 rfl ?_
      refine sm_istore_n (pc' := 88) [(3, iv (v111 * v109)), (0, qv (some th)), (2, iv v109), (4, iv v112)] dX11_balance_87 rfl (Nat.le_of_ble_eq_true rfl) rfl rfl ?_
      refine sm_iinc (pc' := 91) (v112 + (1 : Int32)) [(4, iv (v112 + (1 : Int32))), (3, iv (v111 * v109)), (0, qv (some th)), (2, iv v109)] dX11_balance_88 rfl rfl (Nat.le_of_ble_eq_true rfl) rfl rfl ?_
      refine sm_goto (pc' := 75) dX11_balance_91 (by decide) ?_
      refine sm_sub [2, 3, 1, 0] rfl ?_
      exact ih (v111 * v109) (v112 + (1 : Int32))
set_option maxRecDepth 20000 in
theorem sX11_balance_L107 (th : Nat) (v109 : Int32) (v115 : Int32) (k120 : Int32 → Prg Int32) (hk120 : ∀ (q4 : Int32), Sim eX11_balance vI 178 [(0, qv (some th)), (2, iv v109), (4, iv q4)] [] (k120 q4)) : ∀ (n : Nat), ∀ (v116 : Int32) (v117 : Int32) (v118 : Int32) (v119 : Int32), Sim eX11_balance vI 107 [(0, qv (some th)), (2, iv v109), (3, iv v115), (4, iv v116), (5, iv v117), (6, iv v118), (7, iv v119)] [] (pX11_balance_L107 th v109 v115 k120 n v116 v117 v118 v119) := by
  intro n
  induction n with
  | zero =>
    intros
    exact sm_fl
  | succ n ih =>
    intro v116 v117 v118 v119
    unfold pX11_balance_L107
    refine sm_iload (pc' := 109) dX11_balance_107 rfl rfl ?_
    refine sm_iload_n (pc' := 110) dX11_balance_109 rfl rfl ?_
    refine sm_icmp_ge (pc' := 113) (pc1 := 178) dX11_balance_110 (by decide) rfl (fun _ => ?_) (fun _ => ?_)
    · skip
      refine sm_sub [0, 1, 3] rfl ?_
      exact hk120 v116
    · skip
      refine sm_aload_n (pc' := 114) dX11_balance_113 rfl rfl ?_
      refine sm_iload (pc' := 116) dX11_balance_114 rfl rfl ?_
      refine sm_iload_n (pc' := 117) dX11_balance_116 rfl rfl ?_
      refine sm_callv (pc' := 120) (sa := [iv v109, iv v119, qv (some th)]) (st := []) (iv_X11_238 th v119 v109) (Nat.le_of_ble_eq_true rfl) dX11_balance_117 rfl (Nat.le_of_ble_eq_true rfl) (fun _ => ?_)
      refine sm_aload_n (pc' := 121) dX11_balance_120 rfl rfl ?_
      refine sm_calli (pc' := 124) (sa := [qv (some th)]) (st := []) (iv_X11_232 th) (Nat.le_of_ble_eq_true rfl) dX11_balance_121 rfl (Nat.le_of_ble_eq_true rfl) (fun v121 => ?_)
      refine sm_istore (pc' := 126) [(8, iv v121), (0, qv (some th)), (2, iv v109), (3, iv v115), (4, iv v116), (5, iv v117), (6, iv v118), (7, iv v119)] dX11_balance_124  (Nat.le_of_ble_eq_true rfl) rfl rfl ?_
      refine sm_aload_n (pc' := 127) dX11_balance_126 rfl rfl ?_
      refine sm_calli (pc' := 130) (sa := [qv (some th)]) (st := []) (iv_X11_235 th) (Nat.le_of_ble_eq_true rfl) dX11_balance_127 rfl (Nat.le_of_ble_eq_true rfl) (fun v122 => ?_)
      refine sm_istore (pc' := 132) [(9, iv v122), (8, iv v121), (0, qv (some th)), (2, iv v109), (3, iv v115), (4, iv v116), (5, iv v117), (6, iv v118), (7, iv v119)] dX11_balance_130  (Nat.le_of_ble_eq_true rfl) rfl rfl ?_
      refine sm_iload (pc' := 134) dX11_balance_132 rfl rfl ?_
      refine sm_ldc (pc' := 136) (-1000000 : Int32) w_621 dX11_balance_134 rfl ?_
      refine sm_lt (fun k126 => ∀ (v123 : Int32) (v124 : Int32) (v125 : Int32), Sim eX11_balance vI 172 [(0, qv (some th)), (2, iv v109), (3, iv v115), (4, iv v123), (5, iv v124), (6, iv v125), (7, iv v119)] [] (k126 v123 v124 v125)) ?_ (fun k126 hk126 => ?_)
      · intro v123 v124 v125
        refine sm_iinc (pc' := 175) (v119 + (1 : Int32)) [(7, iv (v119 + (1 : Int32))), (0, qv (some th)), (2, iv v109), (3, iv v115), (4, iv v123), (5, iv v124), (6, iv v125)] dX11_balance_172 rfl rfl (Nat.le_of_ble_eq_true rfl) rfl rfl ?_
        refine sm_goto (pc' := 107) dX11_balance_175 (by decide) ?_
        refine sm_sub [1, 2, 3, 4, 5, 6, 0] rfl ?_
        exact ih v123 v124 v125 (v119 + (1 : Int32))
      · skip
        refine sm_lt (fun k127 => Sim eX11_balance vI 160 [(0, qv (some th)), (2, iv v109), (3, iv v115), (7, iv v119), (8, iv v121), (9, iv v122)] [] (k127)) ?_ (fun k127 hk127 => ?_)
        · skip
          refine sm_iload (pc' := 162) dX11_balance_160 rfl rfl ?_
          refine sm_istore (pc' := 164) [(4, iv v119), (0, qv (some th)), (2, iv v109), (3, iv v115), (7, iv v119), (8, iv v121), (9, iv v122)] dX11_balance_162  (Nat.le_of_ble_eq_true rfl) rfl rfl ?_
          refine sm_iload (pc' := 166) dX11_balance_164 rfl rfl ?_
          refine sm_istore (pc' := 168) [(5, iv v121), (4, iv v119), (0, qv (some th)), (2, iv v109), (3, iv v115), (7, iv v119), (8, iv v121), (9, iv v122)] dX11_balance_166  (Nat.le_of_ble_eq_true rfl) rfl rfl ?_
          refine sm_iload (pc' := 170) dX11_balance_168 rfl rfl ?_
          refine sm_istore (pc' := 172) [(6, iv v122), (5, iv v121), (4, iv v119), (0, qv (some th)), (2, iv v109), (3, iv v115), (7, iv v119), (8, iv v121), (9, iv v122)] dX11_balance_170  (Nat.le_of_ble_eq_true rfl) rfl rfl ?_
          refine sm_sub [3, 4, 5, 2, 1, 0, 6] rfl ?_
          exact hk126 v119 v121 v122
        · skip
          refine sm_icmp_eq (pc' := 139) (pc1 := 160) dX11_balance_136 (by decide) rfl (fun _ => ?_) (fun _ => ?_)
          · skip
            refine sm_sub [2, 3, 4, 8, 1, 0] rfl ?_
            exact hk127
          · skip
            refine sm_iload (pc' := 141) dX11_balance_139 rfl rfl ?_
            refine sm_iload (pc' := 143) dX11_balance_141 rfl rfl ?_
            refine sm_icmp_lt (pc' := 146) (pc1 := 160) dX11_balance_143 (by decide) rfl (fun _ => ?_) (fun _ => ?_)
            · skip
              refine sm_sub [2, 3, 4, 8, 1, 0] rfl ?_
              exact hk127
            · skip
              refine sm_iload (pc' := 148) dX11_balance_146 rfl rfl ?_
              refine sm_iload (pc' := 150) dX11_balance_148 rfl rfl ?_
              refine sm_icmp_ne (pc' := 153) (pc1 := 172) dX11_balance_150 (by decide) rfl (fun _ => ?_) (fun _ => ?_)
              · skip
                refine sm_sub [2, 3, 4, 5, 6, 7, 8] rfl ?_
                exact hk126 v116 v117 v118
              · skip
                refine sm_iload (pc' := 155) dX11_balance_153 rfl rfl ?_
                refine sm_iload (pc' := 157) dX11_balance_155 rfl rfl ?_
                refine sm_icmp_ge (pc' := 160) (pc1 := 172) dX11_balance_157 (by decide) rfl (fun _ => ?_) (fun _ => ?_)
                · skip
                  refine sm_sub [2, 3, 4, 5, 6, 7, 8] rfl ?_
                  exact hk126 v116 v117 v118
                · skip
                  refine sm_sub [2, 3, 4, 8, 1, 0] rfl ?_
                  exact hk127
set_option maxRecDepth 20000 in
theorem sX11_balance (th : Nat) (a1 : Int32) : Sim eX11_balance vI 0 [(0, qv (some th)), (1, iv a1)] [] (pX11_balance th a1) := by
  unfold pX11_balance
  refine sm_aload_n (pc' := 1) dX11_balance_0 rfl rfl ?_
  refine sm_iconst (pc' := 2) (0 : Int32) dX11_balance_1 (by decide) rfl ?_
  refine sm_putI (pc' := 5) (gk_X11_124 _ _ _ _ _) ti_11_0 dX11_balance_2 rfl ?_
  refine sm_iconst (pc' := 6) (0 : Int32) dX11_balance_5 (by decide) rfl ?_
  refine sm_istore_n (pc' := 7) [(2, iv (0 : Int32)), (0, qv (some th)), (1, iv a1)] dX11_balance_6 rfl (Nat.le_of_ble_eq_true rfl) rfl rfl ?_
  refine sm_iconst (pc' := 8) (1 : Int32) dX11_balance_7 (by decide) rfl ?_
  refine sm_istore_n (pc' := 9) [(3, iv (1 : Int32)), (2, iv (0 : Int32)), (0, qv (some th)), (1, iv a1)] dX11_balance_8 rfl (Nat.le_of_ble_eq_true rfl) rfl rfl ?_
  refine sm_sub [2, 3, 1, 0] rfl ?_
  refine sX11_balance_L9 th a1 _ ?_ FL (0 : Int32) (1 : Int32)
  · intro v109
    refine sm_iload_n (pc' := 46) dX11_balance_45 rfl rfl ?_
    refine sm_iconst (pc' := 47) (1 : Int32) dX11_balance_46 (by decide) rfl ?_
    refine sm_lt (fun k110 => Sim eX11_balance vI 63 [] [] (k110)) ?_ (fun k110 hk110 => ?_)
    · skip
      refine sm_ldc (pc' := 65) (-1000001 : Int32) w_609 dX11_balance_63 rfl ?_
      exact sm_ireturn rfl dX11_balance_65
    · skip
      refine sm_icmp_lt (pc' := 50) (pc1 := 63) dX11_balance_47 (by decide) rfl (fun _ => ?_) (fun _ => ?_)
      · skip
        refine sm_sub [] rfl ?_
        exact hk110
      · skip
        refine sm_iload_n (pc' := 51) dX11_balance_50 rfl rfl ?_
        refine sm_iconst (pc' := 52) (3 : Int32) dX11_balance_51 (by decide) rfl ?_
        refine sm_icmp_gt (pc' := 55) (pc1 := 63) dX11_balance_52 (by decide) rfl (fun _ => ?_) (fun _ => ?_)
        · skip
          refine sm_sub [] rfl ?_
          exact hk110
        · skip
          refine sm_iload_n (pc' := 56) dX11_balance_55 rfl rfl ?_
          refine sm_sipush (pc' := 59) (-1023 : Int32) dX11_balance_56 (by decide) rfl ?_
          refine sm_iand (pc' := 60) dX11_balance_59 rfl ?_
          refine sm_if_eq (pc' := 63) (pc1 := 66) dX11_balance_60 (by decide) rfl (fun _ => ?_) (fun _ => ?_)
          · skip
            refine sm_aload_n (pc' := 67) dX11_balance_66 rfl rfl ?_
            refine sm_callv (pc' := 70) (sa := [qv (some th)]) (st := []) (iv_X11_229 th) (Nat.le_of_ble_eq_true rfl) dX11_balance_67 rfl (Nat.le_of_ble_eq_true rfl) (fun _ => ?_)
            refine sm_iconst (pc' := 71) (1 : Int32) dX11_balance_70 (by decide) rfl ?_
            refine sm_istore_n (pc' := 72) [(3, iv (1 : Int32)), (0, qv (some th)), (1, iv a1), (2, iv v109)] dX11_balance_71 rfl (Nat.le_of_ble_eq_true rfl) rfl rfl ?_
            refine sm_iconst (pc' := 73) (0 : Int32) dX11_balance_72 (by decide) rfl ?_
            refine sm_istore (pc' := 75) [(4, iv (0 : Int32)), (3, iv (1 : Int32)), (0, qv (some th)), (1, iv a1), (2, iv v109)] dX11_balance_73  (Nat.le_of_ble_eq_true rfl) rfl rfl ?_
            refine sm_sub [2, 4, 1, 0] rfl ?_
            refine sX11_balance_L75 th v109 _ ?_ FL (1 : Int32) (0 : Int32)
            · intro v115
              refine sm_ldc (pc' := 96) (-1000000 : Int32) w_621 dX11_balance_94 rfl ?_
              refine sm_istore (pc' := 98) [(4, iv (-1000000 : Int32)), (0, qv (some th)), (2, iv v109), (3, iv v115)] dX11_balance_96  (Nat.le_of_ble_eq_true rfl) rfl rfl ?_
              refine sm_iconst (pc' := 99) (0 : Int32) dX11_balance_98 (by decide) rfl ?_
              refine sm_istore (pc' := 101) [(5, iv (0 : Int32)), (4, iv (-1000000 : Int32)), (0, qv (some th)), (2, iv v109), (3, iv v115)] dX11_balance_99  (Nat.le_of_ble_eq_true rfl) rfl rfl ?_
              refine sm_iconst (pc' := 102) (0 : Int32) dX11_balance_101 (by decide) rfl ?_
              refine sm_istore (pc' := 104) [(6, iv (0 : Int32)), (5, iv (0 : Int32)), (4, iv (-1000000 : Int32)), (0, qv (some th)), (2, iv v109), (3, iv v115)] dX11_balance_102  (Nat.le_of_ble_eq_true rfl) rfl rfl ?_
              refine sm_iconst (pc' := 105) (0 : Int32) dX11_balance_104 (by decide) rfl ?_
              refine sm_istore (pc' := 107) [(7, iv (0 : Int32)), (6, iv (0 : Int32)), (5, iv (0 : Int32)), (4, iv (-1000000 : Int32)), (0, qv (some th)), (2, iv v109), (3, iv v115)] dX11_balance_105  (Nat.le_of_ble_eq_true rfl) rfl rfl ?_
              refine sm_sub [4, 5, 6, 3, 2, 1, 0] rfl ?_
              refine sX11_balance_L107 th v109 v115 _ ?_ FL (-1000000 : Int32) (0 : Int32) (0 : Int32) (0 : Int32)
              · intro v128
                refine sm_aload_n (pc' := 179) dX11_balance_178 rfl rfl ?_
                refine sm_iload (pc' := 181) dX11_balance_179 rfl rfl ?_
                refine sm_iload_n (pc' := 182) dX11_balance_181 rfl rfl ?_
                refine sm_callv (pc' := 185) (sa := [iv v109, iv v128, qv (some th)]) (st := []) (iv_X11_238 th v128 v109) (Nat.le_of_ble_eq_true rfl) dX11_balance_182 rfl (Nat.le_of_ble_eq_true rfl) (fun _ => ?_)
                refine sm_aload_n (pc' := 186) dX11_balance_185 rfl rfl ?_
                refine sm_calli (pc' := 189) (sa := [qv (some th)]) (st := []) (iv_X11_232 th) (Nat.le_of_ble_eq_true rfl) dX11_balance_186 rfl (Nat.le_of_ble_eq_true rfl) (fun v129 => ?_)
                exact sm_ireturn rfl dX11_balance_189
          · skip
            refine sm_sub [] rfl ?_
            exact hk110
theorem kX11_balance (th : Nat) (a1 : Int32) : Callee 4 yX11_balance cX11_balance 10 (some .int) [qv (some th), iv a1] vI (pX11_balance th a1) := callee_ofS [(0, qv (some th)), (1, iv a1)] (by decide +kernel) (Nat.le_of_ble_eq_true rfl) rfl (sX11_balance th a1)
/-! HollowPressModel.isAbove(II)Z -/
abbrev eX11_isAbove : Env0 := (RX11, "isAbove", cX11_isAbove, 5, (some .boolean), 0)
def pX11_isAbove_L5 (th : Nat) (a1 : Int32) (a2 : Int32) (k103 : Int32 → Prg Int32) : Nat → Int32 → Int32 → Prg Int32
  | 0, _, _ => fl
  | n + 1, v101, v102 =>
    gF 11 th 6 fun v104 =>
    un v104 fun a105 =>
    ldI a105 a1 fun v106 =>
    (if v106 ≤ v102 then k103 v101
    else (lt (fun (v107 : Int32) => pX11_isAbove_L5 th a1 a2 k103 n v107 (v102 + (1 : Int32)) : Int32 → Prg Int32) fun k108 =>
    (lt (k108 (1 : Int32) : Prg Int32) fun k109 =>
    (if v101 = 0 then gF 11 th 12 fun v110 =>
    un v110 fun a111 =>
    ldI a111 (((20 : Int32) * a1) + v102) fun v112 =>
    (if v112 ≤ a2 then k108 (0 : Int32)
    else k109)
    else k109))))
def pX11_isAbove (th : Nat) (a1 : Int32) (a2 : Int32) : Prg Int32 :=
    pX11_isAbove_L5 th a1 a2 (fun (v113 : Int32) => rtZ v113) FL (0 : Int32) (0 : Int32)
set_option maxRecDepth 20000 in
theorem sX11_isAbove_L5 (th : Nat) (a1 : Int32) (a2 : Int32) (k103 : Int32 → Prg Int32) (hk103 : ∀ (q3 : Int32), Sim eX11_isAbove vI 48 [(3, iv q3)] [] (k103 q3)) : ∀ (n : Nat), ∀ (v101 : Int32) (v102 : Int32), Sim eX11_isAbove vI 5 [(0, qv (some th)), (1, iv a1), (2, iv a2), (3, iv v101), (4, iv v102)] [] (pX11_isAbove_L5 th a1 a2 k103 n v101 v102) := by
  intro n
  induction n with
  | zero =>
    intros
    exact sm_fl
  | succ n ih =>
    intro v101 v102
    unfold pX11_isAbove_L5
    refine sm_iload (pc' := 7) dX11_isAbove_5 rfl rfl ?_
    refine sm_aload_n (pc' := 8) dX11_isAbove_7 rfl rfl ?_
    refine sm_getF (pc' := 11) fk_X11_23 yr_11_6 dX11_isAbove_8 rfl (fun v104 => ?_)
    refine sm_iload_n (pc' := 12) dX11_isAbove_11 rfl rfl ?_
    rcases v104 with _ | a105
    · exact sm_unN
    refine sm_unS ?_
    refine sm_iaload (pc' := 13) dX11_isAbove_12 rfl (fun v106 => ?_)
    refine sm_icmp_ge (pc' := 16) (pc1 := 48) dX11_isAbove_13 (by decide) rfl (fun _ => ?_) (fun _ => ?_)
    · skip
      refine sm_sub [3] rfl ?_
      exact hk103 v101
    · skip
      refine sm_iload_n (pc' := 17) dX11_isAbove_16 rfl rfl ?_
      refine sm_lt (fun k108 => ∀ (v107 : Int32), Sim eX11_isAbove vI 41 [(0, qv (some th)), (1, iv a1), (2, iv a2), (4, iv v102)] [iv v107] (k108 v107)) ?_ (fun k108 hk108 => ?_)
      · intro v107
        refine sm_istore_n (pc' := 42) [(3, iv v107), (0, qv (some th)), (1, iv a1), (2, iv a2), (4, iv v102)] dX11_isAbove_41 rfl (Nat.le_of_ble_eq_true rfl) rfl rfl ?_
        refine sm_iinc (pc' := 45) (v102 + (1 : Int32)) [(4, iv (v102 + (1 : Int32))), (3, iv v107), (0, qv (some th)), (1, iv a1), (2, iv a2)] dX11_isAbove_42 rfl rfl (Nat.le_of_ble_eq_true rfl) rfl rfl ?_
        refine sm_goto (pc' := 5) dX11_isAbove_45 (by decide) ?_
        refine sm_sub [2, 3, 4, 1, 0] rfl ?_
        exact ih v107 (v102 + (1 : Int32))
      · skip
        refine sm_lt (fun k109 => Sim eX11_isAbove vI 36 [(0, qv (some th)), (1, iv a1), (2, iv a2), (4, iv v102)] [] (k109)) ?_ (fun k109 hk109 => ?_)
        · skip
          refine sm_iconst (pc' := 37) (1 : Int32) dX11_isAbove_36 (by decide) rfl ?_
          refine sm_goto (pc' := 41) dX11_isAbove_37 (by decide) ?_
          exact hk108 (1 : Int32)
        · skip
          refine sm_if_ne (pc' := 20) (pc1 := 36) dX11_isAbove_17 (by decide) rfl (fun _ => ?_) (fun _ => ?_)
          · skip
            refine sm_sub [0, 1, 2, 4] rfl ?_
            exact hk109
          · skip
            refine sm_aload_n (pc' := 21) dX11_isAbove_20 rfl rfl ?_
            refine sm_getF (pc' := 24) fk_X11_42 yr_11_12 dX11_isAbove_21 rfl (fun v110 => ?_)
            refine sm_bipush (pc' := 26) (20 : Int32) dX11_isAbove_24 (by decide) rfl ?_
            refine sm_iload_n (pc' := 27) dX11_isAbove_26 rfl rfl ?_
            refine sm_imul (pc' := 28) dX11_isAbove_27 rfl ?_
            refine sm_iload (pc' := 30) dX11_isAbove_28 rfl rfl ?_
            refine sm_iadd (pc' := 31) dX11_isAbove_30 rfl ?_
            rcases v110 with _ | a111
            · exact sm_unN
            refine sm_unS ?_
            refine sm_iaload (pc' := 32) dX11_isAbove_31 rfl (fun v112 => ?_)
            refine sm_iload_n (pc' := 33) dX11_isAbove_32 rfl rfl ?_
            refine sm_icmp_le (pc' := 36) (pc1 := 40) dX11_isAbove_33 (by decide) rfl (fun _ => ?_) (fun _ => ?_)
            · skip
              refine sm_iconst (pc' := 41) (0 : Int32) dX11_isAbove_40 (by decide) rfl ?_
              refine sm_sub [0, 1, 2, 4] rfl ?_
              exact hk108 (0 : Int32)
            · skip
              refine sm_sub [0, 1, 2, 4] rfl ?_
              exact hk109
set_option maxRecDepth 20000 in
theorem sX11_isAbove (th : Nat) (a1 : Int32) (a2 : Int32) : Sim eX11_isAbove vI 0 [(0, qv (some th)), (1, iv a1), (2, iv a2)] [] (pX11_isAbove th a1 a2) := by
  unfold pX11_isAbove
  refine sm_iconst (pc' := 1) (0 : Int32) dX11_isAbove_0 (by decide) rfl ?_
  refine sm_istore_n (pc' := 2) [(3, iv (0 : Int32)), (0, qv (some th)), (1, iv a1), (2, iv a2)] dX11_isAbove_1 rfl (Nat.le_of_ble_eq_true rfl) rfl rfl ?_
  refine sm_iconst (pc' := 3) (0 : Int32) dX11_isAbove_2 (by decide) rfl ?_
  refine sm_istore (pc' := 5) [(4, iv (0 : Int32)), (3, iv (0 : Int32)), (0, qv (some th)), (1, iv a1), (2, iv a2)] dX11_isAbove_3  (Nat.le_of_ble_eq_true rfl) rfl rfl ?_
  refine sm_sub [2, 3, 4, 1, 0] rfl ?_
  refine sX11_isAbove_L5 th a1 a2 _ ?_ FL (0 : Int32) (0 : Int32)
  · intro v113
    refine sm_iload_n (pc' := 49) dX11_isAbove_48 rfl rfl ?_
    exact sm_zreturn rfl dX11_isAbove_49
theorem kX11_isAbove (th : Nat) (a1 : Int32) (a2 : Int32) : Callee 0 yX11_isAbove cX11_isAbove 5 (some .boolean) [qv (some th), iv a1, iv a2] vI (pX11_isAbove th a1 a2) := callee_ofS [(0, qv (some th)), (1, iv a1), (2, iv a2)] (by decide +kernel) (Nat.le_of_ble_eq_true rfl) rfl (sX11_isAbove th a1 a2)
/-! HollowPressModel.beat(IIII)I -/
set_option maxRecDepth 20000 in
theorem iv_X11_187 (a : Nat) (x0 : Int32) (x1 : Int32) : Inv RX11 2 (.invokevirtual 187) [iv x1, iv x0, qv (some a)] vI (onT a 11 (pX11_asked a x0 x1)) := inv_V (As := [iv x0, iv x1]) (t := 11) (kX11_asked a x0 x1) _ (by decide) rfl rfl w_676 w_677 w_678 w_585 w_679 ⟨by decide +kernel, by decide +kernel, by show _ = some 2; decide +kernel⟩ (by decide)
set_option maxRecDepth 20000 in
theorem iv_X11_245 (a : Nat) (x0 : Int32) (x1 : Int32) : Inv RX11 1 (.invokevirtual 245) [iv x1, iv x0, qv (some a)] vI (onT a 11 (pX11_isAbove a x0 x1)) := inv_V (As := [iv x0, iv x1]) (t := 11) (kX11_isAbove a x0 x1) _ (by decide) rfl rfl w_680 w_681 w_682 w_585 w_683 ⟨by decide +kernel, by decide +kernel, by show _ = some 2; decide +kernel⟩ (by decide)
abbrev eX11_beat : Env0 := (RX11, "beat", cX11_beat, 10, (some .int), 2)
def pX11_beat_L134 (th : Nat) (a1 : Int32) (a2 : Int32) (a3 : Int32) (a4 : Int32) (v107 : Int32) (v112 : Int32) (k124 : Prg Int32) : Nat → Int32 → Prg Int32
  | 0, _ => fl
  | n + 1, v123 =>
    (if v112 ≤ v123 then k124
    else gF 11 th 32 fun v125 =>
    gF 11 th 12 fun v126 =>
    un v126 fun a127 =>
    ldI a127 (((20 : Int32) * a1) + v123) fun v128 =>
    un v125 fun a129 =>
    stI a129 (v123 + (1 : Int32)) v128 (
    pX11_beat_L134 th a1 a2 a3 a4 v107 v112 k124 n (v123 + (1 : Int32))))
def pX11_beat_L171 (th : Nat) (a1 : Int32) (a2 : Int32) (a3 : Int32) (a4 : Int32) (v107 : Int32) (v112 : Int32) (k131 : Prg Int32) : Nat → Int32 → Prg Int32
  | 0, _ => fl
  | n + 1, v130 =>
    (if v112 < v130 then k131
    else gF 11 th 32 fun v132 =>
    un v132 fun a133 =>
    ldI a133 v130 fun v134 =>
    gF 11 th 32 fun v135 =>
    un v135 fun a136 =>
    ldI a136 (v130 + (1 : Int32)) fun v137 =>
    dv ((v134 - v137) * a3) (16 : Int32) fun v138 =>
    (lt ((lt (gF 11 th 14 fun v141 =>
    un v141 fun a142 =>
    ldI a142 a1 fun v143 =>
    (lt (fun (v144 : Int32) => stI a142 a1 (v143 + v144) (
    pX11_beat_L171 th a1 a2 a3 a4 v107 v112 k131 n (v130 + (1 : Int32))) : Int32 → Prg Int32) fun k145 =>
    (if v130 = 0 then k145 (-v138)
    else (if v130 = v112 then k145 v138
    else k145 (0 : Int32)))) : Prg Int32) fun k140 =>
    (if v112 ≤ v130 then k140
    else gF 11 th 12 fun v146 =>
    un v146 fun a147 =>
    ldI a147 (((20 : Int32) * a1) + v130) fun v148 =>
    stI a147 (((20 : Int32) * a1) + v130) (v148 + v138) (
    k140))) : Prg Int32) fun k139 =>
    (if v130 ≤ 0 then k139
    else gF 11 th 12 fun v149 =>
    un v149 fun a150 =>
    ldI a150 ((((20 : Int32) * a1) + v130) - (1 : Int32)) fun v151 =>
    stI a150 ((((20 : Int32) * a1) + v130) - (1 : Int32)) (v151 - v138) (
    k139))))
def pX11_beat_L80 (th : Nat) (a1 : Int32) (a2 : Int32) (a3 : Int32) (a4 : Int32) (k108 : Int32 → Prg Int32) : Nat → Int32 → Prg Int32
  | 0, _ => fl
  | n + 1, v107 =>
    (if a2 ≤ v107 then k108 v107
    else cl (onT th 11 (pX11_isAbove th a1 a4)) fun v109 =>
    (if v109 = 0 then k108 v107
    else gF 11 th 6 fun v110 =>
    un v110 fun a111 =>
    ldI a111 a1 fun v112 =>
    gF 11 th 32 fun v113 =>
    gF 11 th 13 fun v114 =>
    un v114 fun a115 =>
    ldI a115 a1 fun v116 =>
    un v113 fun a117 =>
    stI a117 (0 : Int32) v116 (
    gF 11 th 32 fun v118 =>
    gF 11 th 13 fun v119 =>
    un v119 fun a120 =>
    ldI a120 a1 fun v121 =>
    un v118 fun a122 =>
    stI a122 (v112 + (1 : Int32)) v121 (
    pX11_beat_L134 th a1 a2 a3 a4 v107 v112 (pX11_beat_L171 th a1 a2 a3 a4 v107 v112 (pX11_beat_L80 th a1 a2 a3 a4 k108 n (v107 + (1 : Int32))) FL (0 : Int32)) FL (0 : Int32)))))
def pX11_beat (th : Nat) (a1 : Int32) (a2 : Int32) (a3 : Int32) (a4 : Int32) : Prg Int32 :=
    pI 11 th 0 (0 : Int32) (
    cl (pX11_isPlace a1) fun v101 =>
    (lt (rt (-1000001 : Int32) : Prg Int32) fun k102 =>
    (if v101 = 0 then k102
    else cl (pX11_in (Int32.toInt64 a2) (1 : Int64) (100 : Int64)) fun v103 =>
    (if v103 = 0 then k102
    else cl (pX11_in (Int32.toInt64 a3) (1 : Int64) (5 : Int64)) fun v104 =>
    (if v104 = 0 then k102
    else cl (pX11_in (Int32.toInt64 a4) (0 : Int64) (10000 : Int64)) fun v105 =>
    (if v105 = 0 then k102
    else cl (onT th 11 (pX11_asked th a1 (4 : Int32))) fun v106 =>
    (if v106 ≤ 0 then pI 11 th 1 (0 : Int32) (
    pX11_beat_L80 th a1 a2 a3 a4 (fun (v152 : Int32) => rt v152) FL (0 : Int32))
    else cl (onT th 11 (pX11_found th v106)) fun v153 =>
    rt v153)))))))
set_option maxRecDepth 20000 in
theorem sX11_beat_L134 (th : Nat) (a1 : Int32) (a2 : Int32) (a3 : Int32) (a4 : Int32) (v107 : Int32) (v112 : Int32) (k124 : Prg Int32) (hk124 : Sim eX11_beat vI 168 [(0, qv (some th)), (1, iv a1), (2, iv a2), (3, iv a3), (4, iv a4), (6, iv v107), (7, iv v112)] [] (k124)) : ∀ (n : Nat), ∀ (v123 : Int32), Sim eX11_beat vI 134 [(0, qv (some th)), (1, iv a1), (2, iv a2), (3, iv a3), (4, iv a4), (6, iv v107), (7, iv v112), (8, iv v123)] [] (pX11_beat_L134 th a1 a2 a3 a4 v107 v112 k124 n v123) := by
  intro n
  induction n with
  | zero =>
    intros
    exact sm_fl
  | succ n ih =>
    intro v123
    unfold pX11_beat_L134
    refine sm_iload (pc' := 136) dX11_beat_134 rfl rfl ?_
    refine sm_iload (pc' := 138) dX11_beat_136 rfl rfl ?_
    refine sm_icmp_ge (pc' := 141) (pc1 := 168) dX11_beat_138 (by decide) rfl (fun _ => ?_) (fun _ => ?_)
    · skip
      refine sm_sub [0, 1, 2, 3, 4, 5, 6] rfl ?_
      exact hk124
    · skip
      refine sm_aload_n (pc' := 142) dX11_beat_141 rfl rfl ?_
      refine sm_getF (pc' := 145) fk_X11_93 yr_11_32 dX11_beat_142 rfl (fun v125 => ?_)
      refine sm_iload (pc' := 147) dX11_beat_145 rfl rfl ?_
      refine sm_iconst (pc' := 148) (1 : Int32) dX11_beat_147 (by decide) rfl ?_
      refine sm_iadd (pc' := 149) dX11_beat_148 rfl ?_
      refine sm_aload_n (pc' := 150) dX11_beat_149 rfl rfl ?_
      refine sm_getF (pc' := 153) fk_X11_42 yr_11_12 dX11_beat_150 rfl (fun v126 => ?_)
      refine sm_bipush (pc' := 155) (20 : Int32) dX11_beat_153 (by decide) rfl ?_
      refine sm_iload_n (pc' := 156) dX11_beat_155 rfl rfl ?_
      refine sm_imul (pc' := 157) dX11_beat_156 rfl ?_
      refine sm_iload (pc' := 159) dX11_beat_157 rfl rfl ?_
      refine sm_iadd (pc' := 160) dX11_beat_159 rfl ?_
      rcases v126 with _ | a127
      · exact sm_unN
      refine sm_unS ?_
      refine sm_iaload (pc' := 161) dX11_beat_160 rfl (fun v128 => ?_)
      rcases v125 with _ | a129
      · exact sm_unN
      refine sm_unS ?_
      refine sm_iastore (pc' := 162) dX11_beat_161 rfl ?_
      refine sm_iinc (pc' := 165) (v123 + (1 : Int32)) [(8, iv (v123 + (1 : Int32))), (0, qv (some th)), (1, iv a1), (2, iv a2), (3, iv a3), (4, iv a4), (6, iv v107), (7, iv v112)] dX11_beat_162 rfl rfl (Nat.le_of_ble_eq_true rfl) rfl rfl ?_
      refine sm_goto (pc' := 134) dX11_beat_165 (by decide) ?_
      refine sm_sub [1, 2, 3, 4, 5, 6, 7, 0] rfl ?_
      exact ih (v123 + (1 : Int32))
set_option maxRecDepth 20000 in
theorem sX11_beat_L171 (th : Nat) (a1 : Int32) (a2 : Int32) (a3 : Int32) (a4 : Int32) (v107 : Int32) (v112 : Int32) (k131 : Prg Int32) (hk131 : Sim eX11_beat vI 289 [(0, qv (some th)), (1, iv a1), (2, iv a2), (3, iv a3), (4, iv a4), (6, iv v107)] [] (k131)) : ∀ (n : Nat), ∀ (v130 : Int32), Sim eX11_beat vI 171 [(0, qv (some th)), (1, iv a1), (2, iv a2), (3, iv a3), (4, iv a4), (6, iv v107), (7, iv v112), (8, iv v130)] [] (pX11_beat_L171 th a1 a2 a3 a4 v107 v112 k131 n v130) := by
  intro n
  induction n with
  | zero =>
    intros
    exact sm_fl
  | succ n ih =>
    intro v130
    unfold pX11_beat_L171
    refine sm_iload (pc' := 173) dX11_beat_171 rfl rfl ?_
    refine sm_iload (pc' := 175) dX11_beat_173 rfl rfl ?_
    refine sm_icmp_gt (pc' := 178) (pc1 := 289) dX11_beat_175 (by decide) rfl (fun _ => ?_) (fun _ => ?_)
    · skip
      refine sm_sub [0, 1, 2, 3, 4, 5] rfl ?_
      exact hk131
    · skip
      refine sm_aload_n (pc' := 179) dX11_beat_178 rfl rfl ?_
      refine sm_getF (pc' := 182) fk_X11_93 yr_11_32 dX11_beat_179 rfl (fun v132 => ?_)
      refine sm_iload (pc' := 184) dX11_beat_182 rfl rfl ?_
      rcases v132 with _ | a133
      · exact sm_unN
      refine sm_unS ?_
      refine sm_iaload (pc' := 185) dX11_beat_184 rfl (fun v134 => ?_)
      refine sm_aload_n (pc' := 186) dX11_beat_185 rfl rfl ?_
      refine sm_getF (pc' := 189) fk_X11_93 yr_11_32 dX11_beat_186 rfl (fun v135 => ?_)
      refine sm_iload (pc' := 191) dX11_beat_189 rfl rfl ?_
      refine sm_iconst (pc' := 192) (1 : Int32) dX11_beat_191 (by decide) rfl ?_
      refine sm_iadd (pc' := 193) dX11_beat_192 rfl ?_
      rcases v135 with _ | a136
      · exact sm_unN
      refine sm_unS ?_
      refine sm_iaload (pc' := 194) dX11_beat_193 rfl (fun v137 => ?_)
      refine sm_isub (pc' := 195) dX11_beat_194 rfl ?_
      refine sm_iload_n (pc' := 196) dX11_beat_195 rfl rfl ?_
      refine sm_imul (pc' := 197) dX11_beat_196 rfl ?_
      refine sm_bipush (pc' := 199) (16 : Int32) dX11_beat_197 (by decide) rfl ?_
      refine sm_idiv (pc' := 200) dX11_beat_199 rfl (fun _ v138 _ => ?_)
      refine sm_istore (pc' := 202) [(9, iv v138), (0, qv (some th)), (1, iv a1), (2, iv a2), (3, iv a3), (4, iv a4), (6, iv v107), (7, iv v112), (8, iv v130)] dX11_beat_200  (Nat.le_of_ble_eq_true rfl) rfl rfl ?_
      refine sm_iload (pc' := 204) dX11_beat_202 rfl rfl ?_
      refine sm_lt (fun k139 => Sim eX11_beat vI 226 [(0, qv (some th)), (1, iv a1), (2, iv a2), (3, iv a3), (4, iv a4), (6, iv v107), (7, iv v112), (8, iv v130), (9, iv v138)] [] (k139)) ?_ (fun k139 hk139 => ?_)
      · skip
        refine sm_iload (pc' := 228) dX11_beat_226 rfl rfl ?_
        refine sm_iload (pc' := 230) dX11_beat_228 rfl rfl ?_
        refine sm_lt (fun k140 => Sim eX11_beat vI 250 [(0, qv (some th)), (1, iv a1), (2, iv a2), (3, iv a3), (4, iv a4), (6, iv v107), (7, iv v112), (8, iv v130), (9, iv v138)] [] (k140)) ?_ (fun k140 hk140 => ?_)
        · skip
          refine sm_aload_n (pc' := 251) dX11_beat_250 rfl rfl ?_
          refine sm_getF (pc' := 254) fk_X11_48 yr_11_14 dX11_beat_251 rfl (fun v141 => ?_)
          refine sm_iload_n (pc' := 255) dX11_beat_254 rfl rfl ?_
          refine sm_dup2 (pc' := 256) dX11_beat_255 rfl rfl rfl ?_
          rcases v141 with _ | a142
          · exact sm_unN
          refine sm_unS ?_
          refine sm_iaload (pc' := 257) dX11_beat_256 rfl (fun v143 => ?_)
          refine sm_iload (pc' := 259) dX11_beat_257 rfl rfl ?_
          refine sm_lt (fun k145 => ∀ (v144 : Int32), Sim eX11_beat vI 281 [(0, qv (some th)), (1, iv a1), (2, iv a2), (3, iv a3), (4, iv a4), (6, iv v107), (7, iv v112), (8, iv v130)] [iv v144, iv v143, iv a1, qv (some a142)] (k145 v144)) ?_ (fun k145 hk145 => ?_)
          · intro v144
            refine sm_iadd (pc' := 282) dX11_beat_281 rfl ?_
            refine sm_iastore (pc' := 283) dX11_beat_282 rfl ?_
            refine sm_iinc (pc' := 286) (v130 + (1 : Int32)) [(8, iv (v130 + (1 : Int32))), (0, qv (some th)), (1, iv a1), (2, iv a2), (3, iv a3), (4, iv a4), (6, iv v107), (7, iv v112)] dX11_beat_283 rfl rfl (Nat.le_of_ble_eq_true rfl) rfl rfl ?_
            refine sm_goto (pc' := 171) dX11_beat_286 (by decide) ?_
            refine sm_sub [1, 2, 3, 4, 5, 6, 7, 0] rfl ?_
            exact ih (v130 + (1 : Int32))
          · skip
            refine sm_if_ne (pc' := 262) (pc1 := 268) dX11_beat_259 (by decide) rfl (fun _ => ?_) (fun _ => ?_)
            · skip
              refine sm_iload (pc' := 270) dX11_beat_268 rfl rfl ?_
              refine sm_iload (pc' := 272) dX11_beat_270 rfl rfl ?_
              refine sm_icmp_ne (pc' := 275) (pc1 := 280) dX11_beat_272 (by decide) rfl (fun _ => ?_) (fun _ => ?_)
              · skip
                refine sm_iconst (pc' := 281) (0 : Int32) dX11_beat_280 (by decide) rfl ?_
                refine sm_sub [0, 1, 2, 3, 4, 5, 6, 7] rfl ?_
                exact hk145 (0 : Int32)
              · skip
                refine sm_iload (pc' := 277) dX11_beat_275 rfl rfl ?_
                refine sm_goto (pc' := 281) dX11_beat_277 (by decide) ?_
                refine sm_sub [0, 1, 2, 3, 4, 5, 6, 7] rfl ?_
                exact hk145 v138
            · skip
              refine sm_iload (pc' := 264) dX11_beat_262 rfl rfl ?_
              refine sm_ineg (pc' := 265) dX11_beat_264 rfl ?_
              refine sm_goto (pc' := 281) dX11_beat_265 (by decide) ?_
              refine sm_sub [0, 1, 2, 3, 4, 5, 6, 7] rfl ?_
              exact hk145 (-v138)
        · skip
          refine sm_icmp_ge (pc' := 233) (pc1 := 250) dX11_beat_230 (by decide) rfl (fun _ => ?_) (fun _ => ?_)
          · skip
            exact hk140
          · skip
            refine sm_aload_n (pc' := 234) dX11_beat_233 rfl rfl ?_
            refine sm_getF (pc' := 237) fk_X11_42 yr_11_12 dX11_beat_234 rfl (fun v146 => ?_)
            refine sm_bipush (pc' := 239) (20 : Int32) dX11_beat_237 (by decide) rfl ?_
            refine sm_iload_n (pc' := 240) dX11_beat_239 rfl rfl ?_
            refine sm_imul (pc' := 241) dX11_beat_240 rfl ?_
            refine sm_iload (pc' := 243) dX11_beat_241 rfl rfl ?_
            refine sm_iadd (pc' := 244) dX11_beat_243 rfl ?_
            refine sm_dup2 (pc' := 245) dX11_beat_244 rfl rfl rfl ?_
            rcases v146 with _ | a147
            · exact sm_unN
            refine sm_unS ?_
            refine sm_iaload (pc' := 246) dX11_beat_245 rfl (fun v148 => ?_)
            refine sm_iload (pc' := 248) dX11_beat_246 rfl rfl ?_
            refine sm_iadd (pc' := 249) dX11_beat_248 rfl ?_
            refine sm_iastore (pc' := 250) dX11_beat_249 rfl ?_
            exact hk140
      · skip
        refine sm_if_le (pc' := 207) (pc1 := 226) dX11_beat_204 (by decide) rfl (fun _ => ?_) (fun _ => ?_)
        · skip
          refine sm_sub [1, 2, 3, 4, 5, 6, 7, 8, 0] rfl ?_
          exact hk139
        · skip
          refine sm_aload_n (pc' := 208) dX11_beat_207 rfl rfl ?_
          refine sm_getF (pc' := 211) fk_X11_42 yr_11_12 dX11_beat_208 rfl (fun v149 => ?_)
          refine sm_bipush (pc' := 213) (20 : Int32) dX11_beat_211 (by decide) rfl ?_
          refine sm_iload_n (pc' := 214) dX11_beat_213 rfl rfl ?_
          refine sm_imul (pc' := 215) dX11_beat_214 rfl ?_
          refine sm_iload (pc' := 217) dX11_beat_215 rfl rfl ?_
          refine sm_iadd (pc' := 218) dX11_beat_217 rfl ?_
          refine sm_iconst (pc' := 219) (1 : Int32) dX11_beat_218 (by decide) rfl ?_
          refine sm_isub (pc' := 220) dX11_beat_219 rfl ?_
          refine sm_dup2 (pc' := 221) dX11_beat_220 rfl rfl rfl ?_
          rcases v149 with _ | a150
          · exact sm_unN
          refine sm_unS ?_
          refine sm_iaload (pc' := 222) dX11_beat_221 rfl (fun v151 => ?_)
          refine sm_iload (pc' := 224) dX11_beat_222 rfl rfl ?_
          refine sm_isub (pc' := 225) dX11_beat_224 rfl ?_
          refine sm_iastore (pc' := 226) dX11_beat_225 rfl ?_
          refine sm_sub [1, 2, 3, 4, 5, 6, 7, 8, 0] rfl ?_
          exact hk139
set_option maxRecDepth 20000 in
theorem sX11_beat_L80 (th : Nat) (a1 : Int32) (a2 : Int32) (a3 : Int32) (a4 : Int32) (k108 : Int32 → Prg Int32) (hk108 : ∀ (q6 : Int32), Sim eX11_beat vI 295 [(6, iv q6)] [] (k108 q6)) : ∀ (n : Nat), ∀ (v107 : Int32), Sim eX11_beat vI 80 [(0, qv (some th)), (1, iv a1), (2, iv a2), (3, iv a3), (4, iv a4), (6, iv v107)] [] (pX11_beat_L80 th a1 a2 a3 a4 k108 n v107) := by
  intro n
  induction n with
  | zero =>
    intros
    exact sm_fl
  | succ n ih =>
    intro v107
    unfold pX11_beat_L80
    refine sm_iload (pc' := 82) dX11_beat_80 rfl rfl ?_
    refine sm_iload_n (pc' := 83) dX11_beat_82 rfl rfl ?_
    refine sm_icmp_ge (pc' := 86) (pc1 := 295) dX11_beat_83 (by decide) rfl (fun _ => ?_) (fun _ => ?_)
    · skip
      refine sm_sub [5] rfl ?_
      exact hk108 v107
    · skip
      refine sm_aload_n (pc' := 87) dX11_beat_86 rfl rfl ?_
      refine sm_iload_n (pc' := 88) dX11_beat_87 rfl rfl ?_
      refine sm_iload (pc' := 90) dX11_beat_88 rfl rfl ?_
      refine sm_calli (pc' := 93) (sa := [iv a4, iv a1, qv (some th)]) (st := []) (iv_X11_245 th a1 a4) (Nat.le_of_ble_eq_true rfl) dX11_beat_90 rfl (Nat.le_of_ble_eq_true rfl) (fun v109 => ?_)
      refine sm_if_eq (pc' := 96) (pc1 := 295) dX11_beat_93 (by decide) rfl (fun _ => ?_) (fun _ => ?_)
      · skip
        refine sm_sub [5] rfl ?_
        exact hk108 v107
      · skip
        refine sm_aload_n (pc' := 97) dX11_beat_96 rfl rfl ?_
        refine sm_getF (pc' := 100) fk_X11_23 yr_11_6 dX11_beat_97 rfl (fun v110 => ?_)
        refine sm_iload_n (pc' := 101) dX11_beat_100 rfl rfl ?_
        rcases v110 with _ | a111
        · exact sm_unN
        refine sm_unS ?_
        refine sm_iaload (pc' := 102) dX11_beat_101 rfl (fun v112 => ?_)
        refine sm_istore (pc' := 104) [(7, iv v112), (0, qv (some th)), (1, iv a1), (2, iv a2), (3, iv a3), (4, iv a4), (6, iv v107)] dX11_beat_102  (Nat.le_of_ble_eq_true rfl) rfl rfl ?_
        refine sm_aload_n (pc' := 105) dX11_beat_104 rfl rfl ?_
        refine sm_getF (pc' := 108) fk_X11_93 yr_11_32 dX11_beat_105 rfl (fun v113 => ?_)
        refine sm_iconst (pc' := 109) (0 : Int32) dX11_beat_108 (by decide) rfl ?_
        refine sm_aload_n (pc' := 110) dX11_beat_109 rfl rfl ?_
        refine sm_getF (pc' := 113) fk_X11_45 yr_11_13 dX11_beat_110 rfl (fun v114 => ?_)
        refine sm_iload_n (pc' := 114) dX11_beat_113 rfl rfl ?_
        rcases v114 with _ | a115
        · exact sm_unN
        refine sm_unS ?_
        refine sm_iaload (pc' := 115) dX11_beat_114 rfl (fun v116 => ?_)
        rcases v113 with _ | a117
        · exact sm_unN
        refine sm_unS ?_
        refine sm_iastore (pc' := 116) dX11_beat_115 rfl ?_
        refine sm_aload_n (pc' := 117) dX11_beat_116 rfl rfl ?_
        refine sm_getF (pc' := 120) fk_X11_93 yr_11_32 dX11_beat_117 rfl (fun v118 => ?_)
        refine sm_iload (pc' := 122) dX11_beat_120 rfl rfl ?_
        refine sm_iconst (pc' := 123) (1 : Int32) dX11_beat_122 (by decide) rfl ?_
        refine sm_iadd (pc' := 124) dX11_beat_123 rfl ?_
        refine sm_aload_n (pc' := 125) dX11_beat_124 rfl rfl ?_
        refine sm_getF (pc' := 128) fk_X11_45 yr_11_13 dX11_beat_125 rfl (fun v119 => ?_)
        refine sm_iload_n (pc' := 129) dX11_beat_128 rfl rfl ?_
        rcases v119 with _ | a120
        · exact sm_unN
        refine sm_unS ?_
        refine sm_iaload (pc' := 130) dX11_beat_129 rfl (fun v121 => ?_)
        rcases v118 with _ | a122
        · exact sm_unN
        refine sm_unS ?_
        refine sm_iastore (pc' := 131) dX11_beat_130 rfl ?_
        refine sm_iconst (pc' := 132) (0 : Int32) dX11_beat_131 (by decide) rfl ?_
        refine sm_istore (pc' := 134) [(8, iv (0 : Int32)), (7, iv v112), (0, qv (some th)), (1, iv a1), (2, iv a2), (3, iv a3), (4, iv a4), (6, iv v107)] dX11_beat_132  (Nat.le_of_ble_eq_true rfl) rfl rfl ?_
        refine sm_sub [2, 3, 4, 5, 6, 7, 1, 0] rfl ?_
        refine sX11_beat_L134 th a1 a2 a3 a4 v107 v112 _ ?_ FL (0 : Int32)
        · skip
          refine sm_iconst (pc' := 169) (0 : Int32) dX11_beat_168 (by decide) rfl ?_
          refine sm_istore (pc' := 171) [(8, iv (0 : Int32)), (0, qv (some th)), (1, iv a1), (2, iv a2), (3, iv a3), (4, iv a4), (6, iv v107), (7, iv v112)] dX11_beat_169  (Nat.le_of_ble_eq_true rfl) rfl rfl ?_
          refine sm_sub [1, 2, 3, 4, 5, 6, 7, 0] rfl ?_
          refine sX11_beat_L171 th a1 a2 a3 a4 v107 v112 _ ?_ FL (0 : Int32)
          · skip
            refine sm_iinc (pc' := 292) (v107 + (1 : Int32)) [(6, iv (v107 + (1 : Int32))), (0, qv (some th)), (1, iv a1), (2, iv a2), (3, iv a3), (4, iv a4)] dX11_beat_289 rfl rfl (Nat.le_of_ble_eq_true rfl) rfl rfl ?_
            refine sm_goto (pc' := 80) dX11_beat_292 (by decide) ?_
            refine sm_sub [1, 2, 3, 4, 5, 0] rfl ?_
            exact ih (v107 + (1 : Int32))
set_option maxRecDepth 20000 in
theorem sX11_beat (th : Nat) (a1 : Int32) (a2 : Int32) (a3 : Int32) (a4 : Int32) : Sim eX11_beat vI 0 [(0, qv (some th)), (1, iv a1), (2, iv a2), (3, iv a3), (4, iv a4)] [] (pX11_beat th a1 a2 a3 a4) := by
  unfold pX11_beat
  refine sm_aload_n (pc' := 1) dX11_beat_0 rfl rfl ?_
  refine sm_iconst (pc' := 2) (0 : Int32) dX11_beat_1 (by decide) rfl ?_
  refine sm_putI (pc' := 5) (gk_X11_124 _ _ _ _ _) ti_11_0 dX11_beat_2 rfl ?_
  refine sm_iload_n (pc' := 6) dX11_beat_5 rfl rfl ?_
  refine sm_calli (pc' := 9) (sa := [iv a1]) (st := []) (iv_X11_153 a1) (Nat.le_of_ble_eq_true rfl) dX11_beat_6 rfl (Nat.le_of_ble_eq_true rfl) (fun v101 => ?_)
  refine sm_lt (fun k102 => Sim eX11_beat vI 49 [] [] (k102)) ?_ (fun k102 hk102 => ?_)
  · skip
    refine sm_ldc (pc' := 51) (-1000001 : Int32) w_609 dX11_beat_49 rfl ?_
    exact sm_ireturn rfl dX11_beat_51
  · skip
    refine sm_if_eq (pc' := 12) (pc1 := 49) dX11_beat_9 (by decide) rfl (fun _ => ?_) (fun _ => ?_)
    · skip
      refine sm_sub [] rfl ?_
      exact hk102
    · skip
      refine sm_iload_n (pc' := 13) dX11_beat_12 rfl rfl ?_
      refine sm_i2l (pc' := 14) dX11_beat_13 rfl ?_
      refine sm_lconst (pc' := 15) (1 : Int64) dX11_beat_14 (by decide) rfl ?_
      refine sm_ldc2 (pc' := 18) (100 : Int64) w_673 dX11_beat_15 rfl ?_
      refine sm_calli (pc' := 21) (sa := [jv (100 : Int64), jv (1 : Int64), jv (Int32.toInt64 a2)]) (st := []) (iv_X11_134 (Int32.toInt64 a2) (1 : Int64) (100 : Int64)) (Nat.le_of_ble_eq_true rfl) dX11_beat_18 rfl (Nat.le_of_ble_eq_true rfl) (fun v103 => ?_)
      refine sm_if_eq (pc' := 24) (pc1 := 49) dX11_beat_21 (by decide) rfl (fun _ => ?_) (fun _ => ?_)
      · skip
        refine sm_sub [] rfl ?_
        exact hk102
      · skip
        refine sm_iload_n (pc' := 25) dX11_beat_24 rfl rfl ?_
        refine sm_i2l (pc' := 26) dX11_beat_25 rfl ?_
        refine sm_lconst (pc' := 27) (1 : Int64) dX11_beat_26 (by decide) rfl ?_
        refine sm_ldc2 (pc' := 30) (5 : Int64) w_674 dX11_beat_27 rfl ?_
        refine sm_calli (pc' := 33) (sa := [jv (5 : Int64), jv (1 : Int64), jv (Int32.toInt64 a3)]) (st := []) (iv_X11_134 (Int32.toInt64 a3) (1 : Int64) (5 : Int64)) (Nat.le_of_ble_eq_true rfl) dX11_beat_30 rfl (Nat.le_of_ble_eq_true rfl) (fun v104 => ?_)
        refine sm_if_eq (pc' := 36) (pc1 := 49) dX11_beat_33 (by decide) rfl (fun _ => ?_) (fun _ => ?_)
        · skip
          refine sm_sub [] rfl ?_
          exact hk102
        · skip
          refine sm_iload (pc' := 38) dX11_beat_36 rfl rfl ?_
          refine sm_i2l (pc' := 39) dX11_beat_38 rfl ?_
          refine sm_lconst (pc' := 40) (0 : Int64) dX11_beat_39 (by decide) rfl ?_
          refine sm_ldc2 (pc' := 43) (10000 : Int64) w_675 dX11_beat_40 rfl ?_
          refine sm_calli (pc' := 46) (sa := [jv (10000 : Int64), jv (0 : Int64), jv (Int32.toInt64 a4)]) (st := []) (iv_X11_134 (Int32.toInt64 a4) (0 : Int64) (10000 : Int64)) (Nat.le_of_ble_eq_true rfl) dX11_beat_43 rfl (Nat.le_of_ble_eq_true rfl) (fun v105 => ?_)
          refine sm_if_ne (pc' := 49) (pc1 := 52) dX11_beat_46 (by decide) rfl (fun _ => ?_) (fun _ => ?_)
          · skip
            refine sm_aload_n (pc' := 53) dX11_beat_52 rfl rfl ?_
            refine sm_iload_n (pc' := 54) dX11_beat_53 rfl rfl ?_
            refine sm_iconst (pc' := 55) (4 : Int32) dX11_beat_54 (by decide) rfl ?_
            refine sm_calli (pc' := 58) (sa := [iv (4 : Int32), iv a1, qv (some th)]) (st := []) (iv_X11_187 th a1 (4 : Int32)) (Nat.le_of_ble_eq_true rfl) dX11_beat_55 rfl (Nat.le_of_ble_eq_true rfl) (fun v106 => ?_)
            refine sm_istore (pc' := 60) [(5, iv v106), (0, qv (some th)), (1, iv a1), (2, iv a2), (3, iv a3), (4, iv a4)] dX11_beat_58  (Nat.le_of_ble_eq_true rfl) rfl rfl ?_
            refine sm_iload (pc' := 62) dX11_beat_60 rfl rfl ?_
            refine sm_if_le (pc' := 65) (pc1 := 72) dX11_beat_62 (by decide) rfl (fun _ => ?_) (fun _ => ?_)
            · skip
              refine sm_aload_n (pc' := 73) dX11_beat_72 rfl rfl ?_
              refine sm_iconst (pc' := 74) (0 : Int32) dX11_beat_73 (by decide) rfl ?_
              refine sm_putI (pc' := 77) (gk_X11_128 _ _ _ _ _) ti_11_1 dX11_beat_74 rfl ?_
              refine sm_iconst (pc' := 78) (0 : Int32) dX11_beat_77 (by decide) rfl ?_
              refine sm_istore (pc' := 80) [(6, iv (0 : Int32)), (5, iv v106), (0, qv (some th)), (1, iv a1), (2, iv a2), (3, iv a3), (4, iv a4)] dX11_beat_78  (Nat.le_of_ble_eq_true rfl) rfl rfl ?_
              refine sm_sub [2, 3, 4, 5, 6, 0] rfl ?_
              refine sX11_beat_L80 th a1 a2 a3 a4 _ ?_ FL (0 : Int32)
              · intro v152
                refine sm_iload (pc' := 297) dX11_beat_295 rfl rfl ?_
                exact sm_ireturn rfl dX11_beat_297
            · skip
              refine sm_aload_n (pc' := 66) dX11_beat_65 rfl rfl ?_
              refine sm_iload (pc' := 68) dX11_beat_66 rfl rfl ?_
              refine sm_calli (pc' := 71) (sa := [iv v106, qv (some th)]) (st := []) (iv_X11_145 th v106) (Nat.le_of_ble_eq_true rfl) dX11_beat_68 rfl (Nat.le_of_ble_eq_true rfl) (fun v153 => ?_)
              exact sm_ireturn rfl dX11_beat_71
          · skip
            refine sm_sub [] rfl ?_
            exact hk102
theorem kX11_beat (th : Nat) (a1 : Int32) (a2 : Int32) (a3 : Int32) (a4 : Int32) : Callee 2 yX11_beat cX11_beat 10 (some .int) [qv (some th), iv a1, iv a2, iv a3, iv a4] vI (pX11_beat th a1 a2 a3 a4) := callee_ofS [(0, qv (some th)), (1, iv a1), (2, iv a2), (3, iv a3), (4, iv a4)] (by decide +kernel) (Nat.le_of_ble_eq_true rfl) rfl (sX11_beat th a1 a2 a3 a4)
