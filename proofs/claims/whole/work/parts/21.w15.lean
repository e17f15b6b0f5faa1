/-! HollowPressModel.times(I)I -/
abbrev eX11_times : Env0 := (RX11, "times", cX11_times, 4, (some .int), 0)
def pX11_times_L4 (th : Nat) (a1 : Int32) (k103 : Int32 → Prg Int32) : Nat → Int32 → Int32 → Prg Int32
  | 0, _, _ => fl
  | n + 1, v101, v102 =>
    gF 11 th 41 fun v104 =>
    un v104 fun a105 =>
    ldI a105 a1 fun v106 =>
    (if v106 ≤ v102 then k103 v101
    else gF 11 th 38 fun v107 =>
    gF 11 th 40 fun v108 =>
    un v108 fun a109 =>
    ldI a109 (((12 : Int32) * a1) + v102) fun v110 =>
    un v107 fun a111 =>
    ldI a111 v110 fun v112 =>
    pX11_times_L4 th a1 k103 n (v101 + v112) (v102 + (1 : Int32)))
def pX11_times (th : Nat) (a1 : Int32) : Prg Int32 :=
    pX11_times_L4 th a1 (fun (v113 : Int32) => rt v113) FL (0 : Int32) (0 : Int32)
set_option maxRecDepth 20000 in
theorem sX11_times_L4 (th : Nat) (a1 : Int32) (k103 : Int32 → Prg Int32) (hk103 : ∀ (q2 : Int32), Sim eX11_times vI 39 [(2, iv q2)] [] (k103 q2)) : ∀ (n : Nat), ∀ (v101 : Int32) (v102 : Int32), Sim eX11_times vI 4 [(0, qv (some th)), (1, iv a1), (2, iv v101), (3, iv v102)] [] (pX11_times_L4 th a1 k103 n v101 v102) := by
  intro n
  induction n with
  | zero =>
    intros
    exact sm_fl
  | succ n ih =>
    intro v101 v102
    unfold pX11_times_L4
    refine sm_iload_n (pc' := 5) dX11_times_4 rfl rfl ?_
    refine sm_aload_n (pc' := 6) dX11_times_5 rfl rfl ?_
    refine sm_getF (pc' := 9) fk_X11_111 yr_11_41 dX11_times_6 rfl (fun v104 => ?_)
    refine sm_iload_n (pc' := 10) dX11_times_9 rfl rfl ?_
    rcases v104 with _ | a105
    · exact sm_unN
    refine sm_unS ?_
    refine sm_iaload (pc' := 11) dX11_times_10 rfl (fun v106 => ?_)
    refine sm_icmp_ge (pc' := 14) (pc1 := 39) dX11_times_11 (by decide) rfl (fun _ => ?_) (fun _ => ?_)
    · skip
      refine sm_sub [2] rfl ?_
      exact hk103 v101
    · skip
      refine sm_iload_n (pc' := 15) dX11_times_14 rfl rfl ?_
      refine sm_aload_n (pc' := 16) dX11_times_15 rfl rfl ?_
      refine sm_getF (pc' := 19) fk_X11_105 yr_11_38 dX11_times_16 rfl (fun v107 => ?_)
      refine sm_aload_n (pc' := 20) dX11_times_19 rfl rfl ?_
      refine sm_getF (pc' := 23) fk_X11_108 yr_11_40 dX11_times_20 rfl (fun v108 => ?_)
      refine sm_bipush (pc' := 25) (12 : Int32) dX11_times_23 (by decide) rfl ?_
      refine sm_iload_n (pc' := 26) dX11_times_25 rfl rfl ?_
      refine sm_imul (pc' := 27) dX11_times_26 rfl ?_
      refine sm_iload_n (pc' := 28) dX11_times_27 rfl rfl ?_
      refine sm_iadd (pc' := 29) dX11_times_28 rfl ?_
      rcases v108 with _ | a109
      · exact sm_unN
      refine sm_unS ?_
      refine sm_iaload (pc' := 30) dX11_times_29 rfl (fun v110 => ?_)
      rcases v107 with _ | a111
      · exact sm_unN
      refine sm_unS ?_
      refine sm_iaload (pc' := 31) dX11_times_30 rfl (fun v112 => ?_)
      refine sm_iadd (pc' := 32) dX11_times_31 rfl ?_
      refine sm_istore_n (pc' := 33) [(2, iv (v101 + v112)), (0, qv (some th)), (1, iv a1), (3, iv v102)] dX11_times_32 rfl (Nat.le_of_ble_eq_true rfl) rfl rfl ?_
      refine sm_iinc (pc' := 36) (v102 + (1 : Int32)) [(3, iv (v102 + (1 : Int32))), (2, iv (v101 + v112)), (0, qv (some th)), (1, iv a1)] dX11_times_33 rfl rfl (Nat.le_of_ble_eq_true rfl) rfl rfl ?_
      refine sm_goto (pc' := 4) dX11_times_36 (by decide) ?_
      refine sm_sub [2, 3, 1, 0] rfl ?_
      exact ih (v101 + v112) (v102 + (1 : Int32))
set_option maxRecDepth 20000 in
theorem sX11_times (th : Nat) (a1 : Int32) : Sim eX11_times vI 0 [(0, qv (some th)), (1, iv a1)] [] (pX11_times th a1) := by
  unfold pX11_times
  refine sm_iconst (pc' := 1) (0 : Int32) dX11_times_0 (by decide) rfl ?_
  refine sm_istore_n (pc' := 2) [(2, iv (0 : Int32)), (0, qv (some th)), (1, iv a1)] dX11_times_1 rfl (Nat.le_of_ble_eq_true rfl) rfl rfl ?_
  refine sm_iconst (pc' := 3) (0 : Int32) dX11_times_2 (by decide) rfl ?_
  refine sm_istore_n (pc' := 4) [(3, iv (0 : Int32)), (2, iv (0 : Int32)), (0, qv (some th)), (1, iv a1)] dX11_times_3 rfl (Nat.le_of_ble_eq_true rfl) rfl rfl ?_
  refine sm_sub [2, 3, 1, 0] rfl ?_
  refine sX11_times_L4 th a1 _ ?_ FL (0 : Int32) (0 : Int32)
  · intro v113
    refine sm_iload_n (pc' := 40) dX11_times_39 rfl rfl ?_
    exact sm_ireturn rfl dX11_times_40
theorem kX11_times (th : Nat) (a1 : Int32) : Callee 0 yX11_times cX11_times 4 (some .int) [qv (some th), iv a1] vI (pX11_times th a1) := callee_ofS [(0, qv (some th)), (1, iv a1)] (by decide +kernel) (Nat.le_of_ble_eq_true rfl) rfl (sX11_times th a1)
/-! HollowPressModel.load(II)I -/
set_option maxRecDepth 20000 in
theorem iv_X11_265 (a : Nat) (x0 : Int32) : Inv RX11 1 (.invokevirtual 265) [iv x0, qv (some a)] vI (onT a 11 (pX11_times a x0)) := inv_V (As := [iv x0]) (t := 11) (kX11_times a x0) _ (by decide) rfl rfl w_733 w_734 w_735 w_585 w_736 ⟨by decide +kernel, by decide +kernel, by show _ = some 1; decide +kernel⟩ (by decide)
abbrev eX11_load : Env0 := (RX11, "load", cX11_load, 3, (some .int), 1)
def pX11_load (th : Nat) (a1 : Int32) (a2 : Int32) : Prg Int32 :=
    pI 11 th 0 (0 : Int32) (
    gI 11 th 33 fun v101 =>
    cl (pX11_in (Int32.toInt64 a1) (0 : Int64) (Int32.toInt64 (v101 - (1 : Int32)))) fun v102 =>
    (lt (rt (-1000001 : Int32) : Prg Int32) fun k103 =>
    (if v102 = 0 then k103
    else cl (pX11_in (Int32.toInt64 a2) (0 : Int64) (2 : Int64)) fun v104 =>
    (if v104 = 0 then k103
    else gI 11 th 39 fun v105 =>
    (lt (fun (v106 : Int32) => rt v106 : Int32 → Prg Int32) fun k107 =>
    (if v105 = 0 then k107 (0 : Int32)
    else (if a2 = 0 then gF 11 th 41 fun v112 =>
    un v112 fun a113 =>
    ldI a113 a1 fun v114 =>
    k107 v114
    else (if a2 = (1 : Int32) then cl (onT th 11 (pX11_times th a1)) fun v111 =>
    k107 v111
    else gF 11 th 42 fun v108 =>
    un v108 fun a109 =>
    ldI a109 a1 fun v110 =>
    k107 v110))))))))
set_option maxRecDepth 20000 in
theorem sX11_load (th : Nat) (a1 : Int32) (a2 : Int32) : Sim eX11_load vI 0 [(0, qv (some th)), (1, iv a1), (2, iv a2)] [] (pX11_load th a1 a2) := by
  unfold pX11_load
  refine sm_aload_n (pc' := 1) dX11_load_0 rfl rfl ?_
  refine sm_iconst (pc' := 2) (0 : Int32) dX11_load_1 (by decide) rfl ?_
  refine sm_putI (pc' := 5) (gk_X11_124 _ _ _ _ _) ti_11_0 dX11_load_2 rfl ?_
  refine sm_iload_n (pc' := 6) dX11_load_5 rfl rfl ?_
  refine sm_i2l (pc' := 7) dX11_load_6 rfl ?_
  refine sm_lconst (pc' := 8) (0 : Int64) dX11_load_7 (by decide) rfl ?_
  refine sm_aload_n (pc' := 9) dX11_load_8 rfl rfl ?_
  refine sm_getI (pc' := 12) fk_X11_250 nr_11_33 dX11_load_9 rfl (fun v101 => ?_)
  refine sm_iconst (pc' := 13) (1 : Int32) dX11_load_12 (by decide) rfl ?_
  refine sm_isub (pc' := 14) dX11_load_13 rfl ?_
  refine sm_i2l (pc' := 15) dX11_load_14 rfl ?_
  refine sm_calli (pc' := 18) (sa := [jv (Int32.toInt64 (v101 - (1 : Int32))), jv (0 : Int64), jv (Int32.toInt64 a1)]) (st := []) (iv_X11_134 (Int32.toInt64 a1) (0 : Int64) (Int32.toInt64 (v101 - (1 : Int32)))) (Nat.le_of_ble_eq_true rfl) dX11_load_15 rfl (Nat.le_of_ble_eq_true rfl) (fun v102 => ?_)
  refine sm_lt (fun k103 => Sim eX11_load vI 33 [] [] (k103)) ?_ (fun k103 hk103 => ?_)
  · skip
    refine sm_ldc (pc' := 35) (-1000001 : Int32) w_609 dX11_load_33 rfl ?_
    exact sm_ireturn rfl dX11_load_35
  · skip
    refine sm_if_eq (pc' := 21) (pc1 := 33) dX11_load_18 (by decide) rfl (fun _ => ?_) (fun _ => ?_)
    · skip
      refine sm_sub [] rfl ?_
      exact hk103
    · skip
      refine sm_iload_n (pc' := 22) dX11_load_21 rfl rfl ?_
      refine sm_i2l (pc' := 23) dX11_load_22 rfl ?_
      refine sm_lconst (pc' := 24) (0 : Int64) dX11_load_23 (by decide) rfl ?_
      refine sm_ldc2 (pc' := 27) (2 : Int64) w_727 dX11_load_24 rfl ?_
      refine sm_calli (pc' := 30) (sa := [jv (2 : Int64), jv (0 : Int64), jv (Int32.toInt64 a2)]) (st := []) (iv_X11_134 (Int32.toInt64 a2) (0 : Int64) (2 : Int64)) (Nat.le_of_ble_eq_true rfl) dX11_load_27 rfl (Nat.le_of_ble_eq_true rfl) (fun v104 => ?_)
      refine sm_if_ne (pc' := 33) (pc1 := 36) dX11_load_30 (by decide) rfl (fun _ => ?_) (fun _ => ?_)
      · skip
        refine sm_aload_n (pc' := 37) dX11_load_36 rfl rfl ?_
        refine sm_getI (pc' := 40) fk_X11_253 nr_11_39 dX11_load_37 rfl (fun v105 => ?_)
        refine sm_lt (fun k107 => ∀ (v106 : Int32), Sim eX11_load vI 79 [] [iv v106] (k107 v106)) ?_ (fun k107 hk107 => ?_)
        · intro v106
          exact sm_ireturn rfl dX11_load_79
        · skip
          refine sm_if_ne (pc' := 43) (pc1 := 47) dX11_load_40 (by decide) rfl (fun _ => ?_) (fun _ => ?_)
          · skip
            refine sm_iload_n (pc' := 48) dX11_load_47 rfl rfl ?_
            refine sm_if_ne (pc' := 51) (pc1 := 60) dX11_load_48 (by decide) rfl (fun _ => ?_) (fun _ => ?_)
            · skip
              refine sm_iload_n (pc' := 61) dX11_load_60 rfl rfl ?_
              refine sm_iconst (pc' := 62) (1 : Int32) dX11_load_61 (by decide) rfl ?_
              refine sm_icmp_ne (pc' := 65) (pc1 := 73) dX11_load_62 (by decide) rfl (fun _ => ?_) (fun _ => ?_)
              · skip
                refine sm_aload_n (pc' := 74) dX11_load_73 rfl rfl ?_
                refine sm_getF (pc' := 77) fk_X11_114 yr_11_42 dX11_load_74 rfl (fun v108 => ?_)
                refine sm_iload_n (pc' := 78) dX11_load_77 rfl rfl ?_
                rcases v108 with _ | a109
                · exact sm_unN
                refine sm_unS ?_
                refine sm_iaload (pc' := 79) dX11_load_78 rfl (fun v110 => ?_)
                refine sm_sub [] rfl ?_
                exact hk107 v110
              · skip
                refine sm_aload_n (pc' := 66) dX11_load_65 rfl rfl ?_
                refine sm_iload_n (pc' := 67) dX11_load_66 rfl rfl ?_
                refine sm_calli (pc' := 70) (sa := [iv a1, qv (some th)]) (st := []) (iv_X11_265 th a1) (Nat.le_of_ble_eq_true rfl) dX11_load_67 rfl (Nat.le_of_ble_eq_true rfl) (fun v111 => ?_)
                refine sm_goto (pc' := 79) dX11_load_70 (by decide) ?_
                refine sm_sub [] rfl ?_
                exact hk107 v111
            · skip
              refine sm_aload_n (pc' := 52) dX11_load_51 rfl rfl ?_
              refine sm_getF (pc' := 55) fk_X11_111 yr_11_41 dX11_load_52 rfl (fun v112 => ?_)
              refine sm_iload_n (pc' := 56) dX11_load_55 rfl rfl ?_
              rcases v112 with _ | a113
              · exact sm_unN
              refine sm_unS ?_
              refine sm_iaload (pc' := 57) dX11_load_56 rfl (fun v114 => ?_)
              refine sm_goto (pc' := 79) dX11_load_57 (by decide) ?_
              refine sm_sub [] rfl ?_
              exact hk107 v114
          · skip
            refine sm_iconst (pc' := 44) (0 : Int32) dX11_load_43 (by decide) rfl ?_
            refine sm_goto (pc' := 79) dX11_load_44 (by decide) ?_
            refine sm_sub [] rfl ?_
            exact hk107 (0 : Int32)
      · skip
        refine sm_sub [] rfl ?_
        exact hk103
theorem kX11_load (th : Nat) (a1 : Int32) (a2 : Int32) : Callee 1 yX11_load cX11_load 3 (some .int) [qv (some th), iv a1, iv a2] vI (pX11_load th a1 a2) := callee_ofS [(0, qv (some th)), (1, iv a1), (2, iv a2)] (by decide +kernel) (Nat.le_of_ble_eq_true rfl) rfl (sX11_load th a1 a2)
/-! HollowPressModel.meeting(III)I -/
abbrev eX11_meeting : Env0 := (RX11, "meeting", cX11_meeting, 9, (some .int), 3)
def pX11_meeting_L84 (th : Nat) (a1 : Int32) (a2 : Int32) (a3 : Int32) (v106 : Int32) (k116 : Int32 → Prg Int32) : Nat → Int32 → Int32 → Prg Int32
  | 0, _, _ => fl
  | n + 1, v114, v115 =>
    (if (3 : Int32) ≤ v115 then k116 v114
    else gF 11 th 8 fun v117 =>
    un v117 fun a118 =>
    ldI a118 (((144 : Int32) * a1) + v106) fun v119 =>
    (lt (fun (v120 : Int32) => (lt (fun (v122 : Int32) => pX11_meeting_L84 th a1 a2 a3 v106 k116 n v122 (v115 + (2 : Int32)) : Int32 → Prg Int32) fun k123 =>
    (if v120 = (-1000000 : Int32) then k123 v114
    else gF 11 th 19 fun v124 =>
    un v124 fun a125 =>
    ldI a125 v120 fun v126 =>
    gF 11 th 19 fun v127 =>
    un v127 fun a128 =>
    ldI a128 v106 fun v129 =>
    (if v126 = v129 then k123 v114
    else (if v114 = a2 then (lt (fun (v130 : Int32) => rt v130 : Int32 → Prg Int32) fun k131 =>
    (if a3 = 0 then k131 v106
    else k131 v120))
    else k123 (v114 + (1 : Int32)))))) : Int32 → Prg Int32) fun k121 =>
    (if v119 ≤ 0 then k121 (-1000000 : Int32)
    else cl (onT th 11 (pX11_neighbour th a1 v106 v115)) fun v132 =>
    k121 v132)))
def pX11_meeting_L63 (th : Nat) (a1 : Int32) (a2 : Int32) (a3 : Int32) (k107 : Prg Int32) : Nat → Int32 → Int32 → Prg Int32
  | 0, _, _ => fl
  | n + 1, v105, v106 =>
    gF 11 th 6 fun v108 =>
    un v108 fun a109 =>
    ldI a109 a1 fun v110 =>
    gF 11 th 7 fun v111 =>
    un v111 fun a112 =>
    ldI a112 a1 fun v113 =>
    (if (v110 * v113) ≤ v106 then k107
    else pX11_meeting_L84 th a1 a2 a3 v106 (fun (v133 : Int32) => pX11_meeting_L63 th a1 a2 a3 k107 n v133 (v106 + (1 : Int32))) FL v105 (0 : Int32))
def pX11_meeting (th : Nat) (a1 : Int32) (a2 : Int32) (a3 : Int32) : Prg Int32 :=
    pI 11 th 0 (0 : Int32) (
    cl (pX11_isPlace a1) fun v101 =>
    (lt (rt (-1000001 : Int32) : Prg Int32) fun k102 =>
    (if v101 = 0 then k102
    else cl (pX11_in (Int32.toInt64 a3) (0 : Int64) (1 : Int64)) fun v103 =>
    (if v103 = 0 then k102
    else cl (onT th 11 (pX11_asked th a1 (1 : Int32))) fun v104 =>
    (if v104 ≤ 0 then pI 11 th 1 (0 : Int32) (
    cl (onT th 11 (pX11_fill th a1 (-1000000 : Int32))) fun _ =>
    pX11_meeting_L63 th a1 a2 a3 (rt (-1000000 : Int32)) FL (0 : Int32) (0 : Int32))
    else cl (onT th 11 (pX11_found th v104)) fun v134 =>
    rt v134)))))
set_option maxRecDepth 20000 in
theorem sX11_meeting_L84 (th : Nat) (a1 : Int32) (a2 : Int32) (a3 : Int32) (v106 : Int32) (k116 : Int32 → Prg Int32) (hk116 : ∀ (q5 : Int32), Sim eX11_meeting vI 173 [(0, qv (some th)), (1, iv a1), (2, iv a2), (3, iv a3), (5, iv q5), (6, iv v106)] [] (k116 q5)) : ∀ (n : Nat), ∀ (v114 : Int32) (v115 : Int32), Sim eX11_meeting vI 84 [(0, qv (some th)), (1, iv a1), (2, iv a2), (3, iv a3), (5, iv v114), (6, iv v106), (7, iv v115)] [] (pX11_meeting_L84 th a1 a2 a3 v106 k116 n v114 v115) := by
  intro n
  induction n with
  | zero =>
    intros
    exact sm_fl
  | succ n ih =>
    intro v114 v115
    unfold pX11_meeting_L84
    refine sm_iload (pc' := 86) dX11_meeting_84 rfl rfl ?_
    refine sm_iconst (pc' := 87) (3 : Int32) dX11_meeting_86 (by decide) rfl ?_
    refine sm_icmp_ge (pc' := 90) (pc1 := 173) dX11_meeting_87 (by decide) rfl (fun _ => ?_) (fun _ => ?_)
    · skip
      refine sm_sub [0, 1, 2, 3, 4, 5] rfl ?_
      exact hk116 v114
    · skip
      refine sm_aload_n (pc' := 91) dX11_meeting_90 rfl rfl ?_
      refine sm_getF (pc' := 94) fk_X11_29 yr_11_8 dX11_meeting_91 rfl (fun v117 => ?_)
      refine sm_sipush (pc' := 97) (144 : Int32) dX11_meeting_94 (by decide) rfl ?_
      refine sm_iload_n (pc' := 98) dX11_meeting_97 rfl rfl ?_
      refine sm_imul (pc' := 99) dX11_meeting_98 rfl ?_
      refine sm_iload (pc' := 101) dX11_meeting_99 rfl rfl ?_
      refine sm_iadd (pc' := 102) dX11_meeting_101 rfl ?_
      rcases v117 with _ | a118
      · exact sm_unN
      refine sm_unS ?_
      refine sm_iaload (pc' := 103) dX11_meeting_102 rfl (fun v119 => ?_)
      refine sm_lt (fun k121 => ∀ (v120 : Int32), Sim eX11_meeting vI 120 [(0, qv (some th)), (1, iv a1), (2, iv a2), (3, iv a3), (5, iv v114), (6, iv v106), (7, iv v115)] [iv v120] (k121 v120)) ?_ (fun k121 hk121 => ?_)
      · intro v120
        refine sm_istore (pc' := 122) [(8, iv v120), (0, qv (some th)), (1, iv a1), (2, iv a2), (3, iv a3), (5, iv v114), (6, iv v106), (7, iv v115)] dX11_meeting_120  (Nat.le_of_ble_eq_true rfl) rfl rfl ?_
        refine sm_iload (pc' := 124) dX11_meeting_122 rfl rfl ?_
        refine sm_ldc (pc' := 126) (-1000000 : Int32) w_621 dX11_meeting_124 rfl ?_
        refine sm_lt (fun k123 => ∀ (v122 : Int32), Sim eX11_meeting vI 167 [(0, qv (some th)), (1, iv a1), (2, iv a2), (3, iv a3), (5, iv v122), (6, iv v106), (7, iv v115)] [] (k123 v122)) ?_ (fun k123 hk123 => ?_)
        · intro v122
          refine sm_iinc (pc' := 170) (v115 + (2 : Int32)) [(7, iv (v115 + (2 : Int32))), (0, qv (some th)), (1, iv a1), (2, iv a2), (3, iv a3), (5, iv v122), (6, iv v106)] dX11_meeting_167 rfl rfl (Nat.le_of_ble_eq_true rfl) rfl rfl ?_
          refine sm_goto (pc' := 84) dX11_meeting_170 (by decide) ?_
          refine sm_sub [1, 2, 3, 4, 5, 6, 0] rfl ?_
          exact ih v122 (v115 + (2 : Int32))
        · skip
          refine sm_icmp_eq (pc' := 129) (pc1 := 167) dX11_meeting_126 (by decide) rfl (fun _ => ?_) (fun _ => ?_)
          · skip
            refine sm_sub [1, 2, 3, 4, 5, 6, 7] rfl ?_
            exact hk123 v114
          · skip
            refine sm_aload_n (pc' := 130) dX11_meeting_129 rfl rfl ?_
            refine sm_getF (pc' := 133) fk_X11_60 yr_11_19 dX11_meeting_130 rfl (fun v124 => ?_)
            refine sm_iload (pc' := 135) dX11_meeting_133 rfl rfl ?_
            rcases v124 with _ | a125
            · exact sm_unN
            refine sm_unS ?_
            refine sm_iaload (pc' := 136) dX11_meeting_135 rfl (fun v126 => ?_)
            refine sm_aload_n (pc' := 137) dX11_meeting_136 rfl rfl ?_
            refine sm_getF (pc' := 140) fk_X11_60 yr_11_19 dX11_meeting_137 rfl (fun v127 => ?_)
            refine sm_iload (pc' := 142) dX11_meeting_140 rfl rfl ?_
            rcases v127 with _ | a128
            · exact sm_unN
            refine sm_unS ?_
            refine sm_iaload (pc' := 143) dX11_meeting_142 rfl (fun v129 => ?_)
            refine sm_icmp_eq (pc' := 146) (pc1 := 167) dX11_meeting_143 (by decide) rfl (fun _ => ?_) (fun _ => ?_)
            · skip
              refine sm_sub [1, 2, 3, 4, 5, 6, 7] rfl ?_
              exact hk123 v114
            · skip
              refine sm_iload (pc' := 148) dX11_meeting_146 rfl rfl ?_
              refine sm_iload_n (pc' := 149) dX11_meeting_148 rfl rfl ?_
              refine sm_icmp_ne (pc' := 152) (pc1 := 164) dX11_meeting_149 (by decide) rfl (fun _ => ?_) (fun _ => ?_)
              · skip
                refine sm_iinc (pc' := 167) (v114 + (1 : Int32)) [(5, iv (v114 + (1 : Int32))), (8, iv v120), (0, qv (some th)), (1, iv a1), (2, iv a2), (3, iv a3), (6, iv v106), (7, iv v115)] dX11_meeting_164 rfl rfl (Nat.le_of_ble_eq_true rfl) rfl rfl ?_
                refine sm_sub [2, 3, 4, 5, 0, 6, 7] rfl ?_
                exact hk123 (v114 + (1 : Int32))
              · skip
                refine sm_iload_n (pc' := 153) dX11_meeting_152 rfl rfl ?_
                refine sm_lt (fun k131 => ∀ (v130 : Int32), Sim eX11_meeting vI 163 [] [iv v130] (k131 v130)) ?_ (fun k131 hk131 => ?_)
                · intro v130
                  exact sm_ireturn rfl dX11_meeting_163
                · skip
                  refine sm_if_ne (pc' := 156) (pc1 := 161) dX11_meeting_153 (by decide) rfl (fun _ => ?_) (fun _ => ?_)
                  · skip
                    refine sm_iload (pc' := 163) dX11_meeting_161 rfl rfl ?_
                    refine sm_sub [] rfl ?_
                    exact hk131 v120
                  · skip
                    refine sm_iload (pc' := 158) dX11_meeting_156 rfl rfl ?_
                    refine sm_goto (pc' := 163) dX11_meeting_158 (by decide) ?_
                    refine sm_sub [] rfl ?_
                    exact hk131 v106
      · skip
        refine sm_if_le (pc' := 106) (pc1 := 118) dX11_meeting_103 (by decide) rfl (fun _ => ?_) (fun _ => ?_)
        · skip
          refine sm_ldc (pc' := 120) (-1000000 : Int32) w_621 dX11_meeting_118 rfl ?_
          exact hk121 (-1000000 : Int32)
        · skip
          refine sm_aload_n (pc' := 107) dX11_meeting_106 rfl rfl ?_
          refine sm_iload_n (pc' := 108) dX11_meeting_107 rfl rfl ?_
          refine sm_iload (pc' := 110) dX11_meeting_108 rfl rfl ?_
          refine sm_iload (pc' := 112) dX11_meeting_110 rfl rfl ?_
          refine sm_calli (pc' := 115) (sa := [iv v115, iv v106, iv a1, qv (some th)]) (st := []) (iv_X11_205 th a1 v106 v115) (Nat.le_of_ble_eq_true rfl) dX11_meeting_112 rfl (Nat.le_of_ble_eq_true rfl) (fun v132 => ?_)
          refine sm_goto (pc' := 120) dX11_meeting_115 (by decide) ?_
          exact hk121 v132
set_option maxRecDepth 20000 in
theorem sX11_meeting_L63 (th : Nat) (a1 : Int32) (a2 : Int32) (a3 : Int32) (k107 : Prg Int32) (hk107 : Sim eX11_meeting vI 179 [] [] (k107)) : ∀ (n : Nat), ∀ (v105 : Int32) (v106 : Int32), Sim eX11_meeting vI 63 [(0, qv (some th)), (1, iv a1), (2, iv a2), (3, iv a3), (5, iv v105), (6, iv v106)] [] (pX11_meeting_L63 th a1 a2 a3 k107 n v105 v106) := by
  intro n
  induction n with
  | zero =>
    intros
    exact sm_fl
  | succ n ih =>
    intro v105 v106
    unfold pX11_meeting_L63
    refine sm_iload (pc' := 65) dX11_meeting_63 rfl rfl ?_
    refine sm_aload_n (pc' := 66) dX11_meeting_65 rfl rfl ?_
    refine sm_getF (pc' := 69) fk_X11_23 yr_11_6 dX11_meeting_66 rfl (fun v108 => ?_)
    refine sm_iload_n (pc' := 70) dX11_meeting_69 rfl rfl ?_
    rcases v108 with _ | a109
    · exact sm_unN
    refine sm_unS ?_
    refine sm_iaload (pc' := 71) dX11_meeting_70 rfl (fun v110 => ?_)
    refine sm_aload_n (pc' := 72) dX11_meeting_71 rfl rfl ?_
    refine sm_getF (pc' := 75) fk_X11_26 yr_11_7 dX11_meeting_72 rfl (fun v111 => ?_)
    refine sm_iload_n (pc' := 76) dX11_meeting_75 rfl rfl ?_
    rcases v111 with _ | a112
    · exact sm_unN
    refine sm_unS ?_
    refine sm_iaload (pc' := 77) dX11_meeting_76 rfl (fun v113 => ?_)
    refine sm_imul (pc' := 78) dX11_meeting_77 rfl ?_
    refine sm_icmp_ge (pc' := 81) (pc1 := 179) dX11_meeting_78 (by decide) rfl (fun _ => ?_) (fun _ => ?_)
    · skip
      refine sm_sub [] rfl ?_
      exact hk107
    · skip
      refine sm_iconst (pc' := 82) (0 : Int32) dX11_meeting_81 (by decide) rfl ?_
      refine sm_istore (pc' := 84) [(7, iv (0 : Int32)), (0, qv (some th)), (1, iv a1), (2, iv a2), (3, iv a3), (5, iv v105), (6, iv v106)] dX11_meeting_82  (Nat.le_of_ble_eq_true rfl) rfl rfl ?_
      refine sm_sub [1, 2, 3, 4, 5, 6, 0] rfl ?_
      refine sX11_meeting_L84 th a1 a2 a3 v106 _ ?_ FL v105 (0 : Int32)
      · intro v133
        refine sm_iinc (pc' := 176) (v106 + (1 : Int32)) [(6, iv (v106 + (1 : Int32))), (0, qv (some th)), (1, iv a1), (2, iv a2), (3, iv a3), (5, iv v133)] dX11_meeting_173 rfl rfl (Nat.le_of_ble_eq_true rfl) rfl rfl ?_
        refine sm_goto (pc' := 63) dX11_meeting_176 (by decide) ?_
        refine sm_sub [1, 2, 3, 4, 5, 0] rfl ?_
        exact ih v133 (v106 + (1 : Int32))
set_option maxRecDepth 20000 in
theorem sX11_meeting (th : Nat) (a1 : Int32) (a2 : Int32) (a3 : Int32) : Sim eX11_meeting vI 0 [(0, qv (some th)), (1, iv a1), (2, iv a2), (3, iv a3)] [] (pX11_meeting th a1 a2 a3) := by
  unfold pX11_meeting
  refine sm_aload_n (pc' := 1) dX11_meeting_0 rfl rfl ?_
  refine sm_iconst (pc' := 2) (0 : Int32) dX11_meeting_1 (by decide) rfl ?_
  refine sm_putI (pc' := 5) (gk_X11_124 _ _ _ _ _) ti_11_0 dX11_meeting_2 rfl ?_
  refine sm_iload_n (pc' := 6) dX11_meeting_5 rfl rfl ?_
  refine sm_calli (pc' := 9) (sa := [iv a1]) (st := []) (iv_X11_153 a1) (Nat.le_of_ble_eq_true rfl) dX11_meeting_6 rfl (Nat.le_of_ble_eq_true rfl) (fun v101 => ?_)
  refine sm_lt (fun k102 => Sim eX11_meeting vI 22 [] [] (k102)) ?_ (fun k102 hk102 => ?_)
  · skip
    refine sm_ldc (pc' := 24) (-1000001 : Int32) w_609 dX11_meeting_22 rfl ?_
    exact sm_ireturn rfl dX11_meeting_24
  · skip
    refine sm_if_eq (pc' := 12) (pc1 := 22) dX11_meeting_9 (by decide) rfl (fun _ => ?_) (fun _ => ?_)
    · skip
      refine sm_sub [] rfl ?_
      exact hk102
    · skip
      refine sm_iload_n (pc' := 13) dX11_meeting_12 rfl rfl ?_
      refine sm_i2l (pc' := 14) dX11_meeting_13 rfl ?_
      refine sm_lconst (pc' := 15) (0 : Int64) dX11_meeting_14 (by decide) rfl ?_
      refine sm_lconst (pc' := 16) (1 : Int64) dX11_meeting_15 (by decide) rfl ?_
      refine sm_calli (pc' := 19) (sa := [jv (1 : Int64), jv (0 : Int64), jv (Int32.toInt64 a3)]) (st := []) (iv_X11_134 (Int32.toInt64 a3) (0 : Int64) (1 : Int64)) (Nat.le_of_ble_eq_true rfl) dX11_meeting_16 rfl (Nat.le_of_ble_eq_true rfl) (fun v103 => ?_)
      refine sm_if_ne (pc' := 22) (pc1 := 25) dX11_meeting_19 (by decide) rfl (fun _ => ?_) (fun _ => ?_)
      · skip
        refine sm_aload_n (pc' := 26) dX11_meeting_25 rfl rfl ?_
        refine sm_iload_n (pc' := 27) dX11_meeting_26 rfl rfl ?_
        refine sm_iconst (pc' := 28) (1 : Int32) dX11_meeting_27 (by decide) rfl ?_
        refine sm_calli (pc' := 31) (sa := [iv (1 : Int32), iv a1, qv (some th)]) (st := []) (iv_X11_187 th a1 (1 : Int32)) (Nat.le_of_ble_eq_true rfl) dX11_meeting_28 rfl (Nat.le_of_ble_eq_true rfl) (fun v104 => ?_)
        refine sm_istore (pc' := 33) [(4, iv v104), (0, qv (some th)), (1, iv a1), (2, iv a2), (3, iv a3)] dX11_meeting_31  (Nat.le_of_ble_eq_true rfl) rfl rfl ?_
        refine sm_iload (pc' := 35) dX11_meeting_33 rfl rfl ?_
        refine sm_if_le (pc' := 38) (pc1 := 45) dX11_meeting_35 (by decide) rfl (fun _ => ?_) (fun _ => ?_)
        · skip
          refine sm_aload_n (pc' := 46) dX11_meeting_45 rfl rfl ?_
          refine sm_iconst (pc' := 47) (0 : Int32) dX11_meeting_46 (by decide) rfl ?_
          refine sm_putI (pc' := 50) (gk_X11_128 _ _ _ _ _) ti_11_1 dX11_meeting_47 rfl ?_
          refine sm_aload_n (pc' := 51) dX11_meeting_50 rfl rfl ?_
          refine sm_iload_n (pc' := 52) dX11_meeting_51 rfl rfl ?_
          refine sm_ldc (pc' := 54) (-1000000 : Int32) w_621 dX11_meeting_52 rfl ?_
          refine sm_callv (pc' := 57) (sa := [iv (-1000000 : Int32), iv a1, qv (some th)]) (st := []) (iv_X11_209 th a1 (-1000000 : Int32)) (Nat.le_of_ble_eq_true rfl) dX11_meeting_54 rfl (Nat.le_of_ble_eq_true rfl) (fun _ => ?_)
          refine sm_iconst (pc' := 58) (0 : Int32) dX11_meeting_57 (by decide) rfl ?_
          refine sm_istore (pc' := 60) [(5, iv (0 : Int32)), (4, iv v104), (0, qv (some th)), (1, iv a1), (2, iv a2), (3, iv a3)] dX11_meeting_58  (Nat.le_of_ble_eq_true rfl) rfl rfl ?_
          refine sm_iconst (pc' := 61) (0 : Int32) dX11_meeting_60 (by decide) rfl ?_
          refine sm_istore (pc' := 63) [(6, iv (0 : Int32)), (5, iv (0 : Int32)), (4, iv v104), (0, qv (some th)), (1, iv a1), (2, iv a2), (3, iv a3)] dX11_meeting_61  (Nat.le_of_ble_eq_true rfl) rfl rfl ?_
          refine sm_sub [3, 4, 5, 6, 1, 0] rfl ?_
          refine sX11_meeting_L63 th a1 a2 a3 _ ?_ FL (0 : Int32) (0 : Int32)
          · skip
            refine sm_ldc (pc' := 181) (-1000000 : Int32) w_621 dX11_meeting_179 rfl ?_
            exact sm_ireturn rfl dX11_meeting_181
        · skip
          refine sm_aload_n (pc' := 39) dX11_meeting_38 rfl rfl ?_
          refine sm_iload (pc' := 41) dX11_meeting_39 rfl rfl ?_
          refine sm_calli (pc' := 44) (sa := [iv v104, qv (some th)]) (st := []) (iv_X11_145 th v104) (Nat.le_of_ble_eq_true rfl) dX11_meeting_41 rfl (Nat.le_of_ble_eq_true rfl) (fun v134 => ?_)
          exact sm_ireturn rfl dX11_meeting_44
      · skip
        refine sm_sub [] rfl ?_
        exact hk102
theorem kX11_meeting (th : Nat) (a1 : Int32) (a2 : Int32) (a3 : Int32) : Callee 3 yX11_meeting cX11_meeting 9 (some .int) [qv (some th), iv a1, iv a2, iv a3] vI (pX11_meeting th a1 a2 a3) := callee_ofS [(0, qv (some th)), (1, iv a1), (2, iv a2), (3, iv a3)] (by decide +kernel) (Nat.le_of_ble_eq_true rfl) rfl (sX11_meeting th a1 a2 a3)
/-! HollowPressModel.pain(II)I -/
abbrev eX11_pain : Env0 := (RX11, "pain", cX11_pain, 4, (some .int), 0)
def pX11_pain (th : Nat) (a1 : Int32) (a2 : Int32) : Prg Int32 :=
    gF 11 th 37 fun v101 =>
    un v101 fun a102 =>
    ldI a102 a2 fun v103 =>
    gF 11 th 37 fun v104 =>
    un v104 fun a105 =>
    ldI a105 a1 fun v106 =>
    (lt (fun (v107 : Int32) => rt v107 : Int32 → Prg Int32) fun k108 =>
    (if (v103 - v106) < 0 then k108 ((3 : Int32) - ((5 : Int32) * (v103 - v106)))
    else k108 (v103 - v106)))
set_option maxRecDepth 20000 in
theorem sX11_pain (th : Nat) (a1 : Int32) (a2 : Int32) : Sim eX11_pain vI 0 [(0, qv (some th)), (1, iv a1), (2, iv a2)] [] (pX11_pain th a1 a2) := by
  unfold pX11_pain
  refine sm_aload_n (pc' := 1) dX11_pain_0 rfl rfl ?_
  refine sm_getF (pc' := 4) fk_X11_102 yr_11_37 dX11_pain_1 rfl (fun v101 => ?_)
  refine sm_iload_n (pc' := 5) dX11_pain_4 rfl rfl ?_
  rcases v101 with _ | a102
  · exact sm_unN
  refine sm_unS ?_
  refine sm_iaload (pc' := 6) dX11_pain_5 rfl (fun v103 => ?_)
  refine sm_aload_n (pc' := 7) dX11_pain_6 rfl rfl ?_
  refine sm_getF (pc' := 10) fk_X11_102 yr_11_37 dX11_pain_7 rfl (fun v104 => ?_)
  refine sm_iload_n (pc' := 11) dX11_pain_10 rfl rfl ?_
  rcases v104 with _ | a105
  · exact sm_unN
  refine sm_unS ?_
  refine sm_iaload (pc' := 12) dX11_pain_11 rfl (fun v106 => ?_)
  refine sm_isub (pc' := 13) dX11_pain_12 rfl ?_
  refine sm_istore_n (pc' := 14) [(3, iv (v103 - v106)), (0, qv (some th)), (1, iv a1), (2, iv a2)] dX11_pain_13 rfl (Nat.le_of_ble_eq_true rfl) rfl rfl ?_
  refine sm_iload_n (pc' := 15) dX11_pain_14 rfl rfl ?_
  refine sm_lt (fun k108 => ∀ (v107 : Int32), Sim eX11_pain vI 27 [] [iv v107] (k108 v107)) ?_ (fun k108 hk108 => ?_)
  · intro v107
    exact sm_ireturn rfl dX11_pain_27
  · skip
    refine sm_if_lt (pc' := 18) (pc1 := 22) dX11_pain_15 (by decide) rfl (fun _ => ?_) (fun _ => ?_)
    · skip
      refine sm_iconst (pc' := 23) (3 : Int32) dX11_pain_22 (by decide) rfl ?_
      refine sm_iconst (pc' := 24) (5 : Int32) dX11_pain_23 (by decide) rfl ?_
      refine sm_iload_n (pc' := 25) dX11_pain_24 rfl rfl ?_
      refine sm_imul (pc' := 26) dX11_pain_25 rfl ?_
      refine sm_isub (pc' := 27) dX11_pain_26 rfl ?_
      refine sm_sub [] rfl ?_
      exact hk108 ((3 : Int32) - ((5 : Int32) * (v103 - v106)))
    · skip
      refine sm_iload_n (pc' := 19) dX11_pain_18 rfl rfl ?_
      refine sm_goto (pc' := 27) dX11_pain_19 (by decide) ?_
      refine sm_sub [] rfl ?_
      exact hk108 (v103 - v106)
theorem kX11_pain (th : Nat) (a1 : Int32) (a2 : Int32) : Callee 0 yX11_pain cX11_pain 4 (some .int) [qv (some th), iv a1, iv a2] vI (pX11_pain th a1 a2) := callee_ofS [(0, qv (some th)), (1, iv a1), (2, iv a2)] (by decide +kernel) (Nat.le_of_ble_eq_true rfl) rfl (sX11_pain th a1 a2)
/-! HollowPressModel.part(IIIII)I -/
abbrev eX11_part : Env0 := (RX11, "part", cX11_part, 13, (some .int), 2)
def pX11_part_L110 (th : Nat) (a1 : Int32) (a2 : Int32) (a3 : Int32) (a4 : Int32) (a5 : Int32) (k118 : Int32 → Int32 → Int32 → Prg Int32) : Nat → Int32 → Int32 → Int32 → Int32 → Int32 → Prg Int32
  | 0, _, _, _, _, _ => fl
  | n + 1, v113, v114, v115, v116, v117 =>
    (if (a4 * a5) ≤ v117 then k118 v113 v114 v116
    else gF 11 th 4 fun v119 =>
    un v119 fun a120 =>
    ldJ a120 ((((144 : Int32) * a2) + a3) + v117) fun v121 =>
    (lt (fun (v122 : Int32) => (lt (fun (v124 : Int32) (v125 : Int32) (v126 : Int32) => pX11_part_L110 th a1 a2 a3 a4 a5 k118 n v122 v124 v125 v126 (v117 + (1 : Int32)) : Int32 → Int32 → Int32 → Prg Int32) fun k127 =>
    (if (lg_cmp v121 (0 : Int64)) = 0 then k127 v114 v115 v116
    else (lt (fun (v128 : Int32) => (lt (fun (v130 : Int32) => k127 (v114 + (1 : Int32)) v128 v130 : Int32 → Prg Int32) fun k131 =>
    (lt (k131 (0 : Int32) : Prg Int32) fun k132 =>
    (if v116 = 0 then k132
    else (if (lg_cmp v121 (Int32.toInt64 v128)) = 0 then k131 (1 : Int32)
    else k132)))) : Int32 → Prg Int32) fun k129 =>
    (if v115 = 0 then k129 (Int64.toInt32 v121)
    else k129 v115)))) : Int32 → Prg Int32) fun k123 =>
    (lt (k123 (0 : Int32) : Prg Int32) fun k133 =>
    (if v113 = 0 then k133
    else cl (pX11_in v121 (0 : Int64) (9 : Int64)) fun v134 =>
    (if v134 = 0 then k133
    else k123 (1 : Int32))))))
def pX11_part_L257 (th : Nat) (a1 : Int32) (a2 : Int32) (a3 : Int32) (a4 : Int32) (a5 : Int32) (v136 : Int32) (v137 : Int32) (k146 : Prg Int32) : Nat → Int32 → Prg Int32
  | 0, _ => fl
  | n + 1, v145 =>
    (if (144 : Int32) ≤ v145 then k146
    else gF 11 th 8 fun v147 =>
    (lt (fun (v148 : Int32) => un v147 fun a150 =>
    stI a150 (((144 : Int32) * a1) + v145) v148 (
    gF 11 th 11 fun v151 =>
    un v151 fun a152 =>
    stZ a152 (((144 : Int32) * a1) + v145) (0 : Int32) (
    pX11_part_L257 th a1 a2 a3 a4 a5 v136 v137 k146 n (v145 + (1 : Int32)))) : Int32 → Prg Int32) fun k149 =>
    (if (a4 * a5) ≤ v145 then k149 (0 : Int32)
    else gF 11 th 4 fun v153 =>
    un v153 fun a154 =>
    ldJ a154 ((((144 : Int32) * a2) + a3) + v145) fun v155 =>
    k149 (Int64.toInt32 v155))))
def pX11_part (th : Nat) (a1 : Int32) (a2 : Int32) (a3 : Int32) (a4 : Int32) (a5 : Int32) : Prg Int32 :=
    pI 11 th 0 (0 : Int32) (
    cl (pX11_isPlace a1) fun v101 =>
    (lt (rt (-1000001 : Int32) : Prg Int32) fun k102 =>
    (if v101 = 0 then k102
    else cl (pX11_isSheet a2) fun v103 =>
    (if v103 = 0 then k102
    else cl (pX11_in (Int32.toInt64 a4) (1 : Int64) (12 : Int64)) fun v104 =>
    (if v104 = 0 then k102
    else cl (pX11_in (Int32.toInt64 a5) (1 : Int64) (12 : Int64)) fun v105 =>
    (if v105 = 0 then k102
    else gF 11 th 15 fun v106 =>
    un v106 fun a107 =>
    ldI a107 a1 fun v108 =>
    (if v108 < 0 then gF 11 th 2 fun v109 =>
    un v109 fun a110 =>
    ldI a110 a2 fun v111 =>
    (if 0 ≤ v111 then cl (onT th 11 (pX11_hasItems th a2 a3 (a4 * a5))) fun v112 =>
    (if v112 = 0 then cl (onT th 11 (pX11_found th (2 : Int32))) fun v163 =>
    rt v163
    else pX11_part_L110 th a1 a2 a3 a4 a5 (fun (v135 : Int32) (v136 : Int32) (v137 : Int32) => (lt (rt (-1000001 : Int32) : Prg Int32) fun k138 =>
    (if v135 = 0 then k138
    else (if v136 = 0 then k138
    else pI 11 th 1 (0 : Int32) (
    gF 11 th 6 fun v139 =>
    un v139 fun a140 =>
    stI a140 a1 a4 (
    gF 11 th 7 fun v141 =>
    un v141 fun a142 =>
    stI a142 a1 a5 (
    gF 11 th 9 fun v143 =>
    un v143 fun a144 =>
    stI a144 a1 (0 : Int32) (
    pX11_part_L257 th a1 a2 a3 a4 a5 v136 v137 (gF 11 th 5 fun v156 =>
    (lt (fun (v157 : Int32) => un v156 fun a159 =>
    stI a159 a1 v157 (
    gF 11 th 5 fun v160 =>
    un v160 fun a161 =>
    ldI a161 a1 fun v162 =>
    rt v162) : Int32 → Prg Int32) fun k158 =>
    (if v137 = 0 then k158 (1 : Int32)
    else (if v136 = (a4 * a5) then k158 (3 : Int32)
    else k158 (2 : Int32))))) FL (0 : Int32))))))))) FL (1 : Int32) (0 : Int32) (0 : Int32) (1 : Int32) (0 : Int32))
    else cl (onT th 11 (pX11_found th (1 : Int32))) fun v164 =>
    rt v164)
    else rt (-1000002 : Int32))))))))
set_option maxRecDepth 20000 in
theorem sX11_part_L110 (th : Nat) (a1 : Int32) (a2 : Int32) (a3 : Int32) (a4 : Int32) (a5 : Int32) (k118 : Int32 → Int32 → Int32 → Prg Int32) (hk118 : ∀ (q6 : Int32) (q7 : Int32) (q9 : Int32), Sim eX11_part vI 213 [(0, qv (some th)), (1, iv a1), (2, iv a2), (3, iv a3), (4, iv a4), (5, iv a5), (6, iv q6), (7, iv q7), (9, iv q9)] [] (k118 q6 q7 q9)) : ∀ (n : Nat), ∀ (v113 : Int32) (v114 : Int32) (v115 : Int32) (v116 : Int32) (v117 : Int32), Sim eX11_part vI 110 [(0, qv (some th)), (1, iv a1), (2, iv a2), (3, iv a3), (4, iv a4), (5, iv a5), (6, iv v113), (7, iv v114), (8, iv v115), (9, iv v116), (10, iv v117)] [] (pX11_part_L110 th a1 a2 a3 a4 a5 k118 n v113 v114 v115 v116 v117) := by
  intro n
  induction n with
  | zero =>
    intros
    exact sm_fl
  | succ n ih =>
    intro v113 v114 v115 v116 v117
    unfold pX11_part_L110
    refine sm_iload (pc' := 112) dX11_part_110 rfl rfl ?_
    refine sm_iload (pc' := 114) dX11_part_112 rfl rfl ?_
    refine sm_iload (pc' := 116) dX11_part_114 rfl rfl ?_
    refine sm_imul (pc' := 117) dX11_part_116 rfl ?_
    refine sm_icmp_ge (pc' := 120) (pc1 := 213) dX11_part_117 (by decide) rfl (fun _ => ?_) (fun _ => ?_)
    · skip
      refine sm_sub [0, 1, 2, 3, 4, 5, 6, 7, 9] rfl ?_
      exact hk118 v113 v114 v116
    · skip
      refine sm_aload_n (pc' := 121) dX11_part_120 rfl rfl ?_
      refine sm_getF (pc' := 124) fk_X11_16 yr_11_4 dX11_part_121 rfl (fun v119 => ?_)
      refine sm_sipush (pc' := 127) (144 : Int32) dX11_part_124 (by decide) rfl ?_
      refine sm_iload_n (pc' := 128) dX11_part_127 rfl rfl ?_
      refine sm_imul (pc' := 129) dX11_part_128 rfl ?_
      refine sm_iload_n (pc' := 130) dX11_part_129 rfl rfl ?_
      refine sm_iadd (pc' := 131) dX11_part_130 rfl ?_
      refine sm_iload (pc' := 133) dX11_part_131 rfl rfl ?_
      refine sm_iadd (pc' := 134) dX11_part_133 rfl ?_
      rcases v119 with _ | a120
      · exact sm_unN
      refine sm_unS ?_
      refine sm_laload (pc' := 135) dX11_part_134 rfl (fun v121 => ?_)
      refine sm_lstore (pc' := 137) [(11, jv v121), (0, qv (some th)), (1, iv a1), (2, iv a2), (3, iv a3), (4, iv a4), (5, iv a5), (6, iv v113), (7, iv v114), (8, iv v115), (9, iv v116), (10, iv v117)] dX11_part_135  (Nat.le_of_ble_eq_true rfl) rfl rfl ?_
      refine sm_iload (pc' := 139) dX11_part_137 rfl rfl ?_
      refine sm_lt (fun k123 => ∀ (v122 : Int32), Sim eX11_part vI 159 [(0, qv (some th)), (1, iv a1), (2, iv a2), (3, iv a3), (4, iv a4), (5, iv a5), (7, iv v114), (8, iv v115), (9, iv v116), (10, iv v117), (11, jv v121)] [iv v122] (k123 v122)) ?_ (fun k123 hk123 => ?_)
      · intro v122
        refine sm_istore (pc' := 161) [(6, iv v122), (0, qv (some th)), (1, iv a1), (2, iv a2), (3, iv a3), (4, iv a4), (5, iv a5), (7, iv v114), (8, iv v115), (9, iv v116), (10, iv v117), (11, jv v121)] dX11_part_159  (Nat.le_of_ble_eq_true rfl) rfl rfl ?_
        refine sm_lload (pc' := 163) dX11_part_161 rfl rfl ?_
        refine sm_lconst (pc' := 164) (0 : Int64) dX11_part_163 (by decide) rfl ?_
        refine sm_lcmp (pc' := 165) dX11_part_164 rfl ?_
        refine sm_lt (fun k127 => ∀ (v124 : Int32) (v125 : Int32) (v126 : Int32), Sim eX11_part vI 207 [(0, qv (some th)), (1, iv a1), (2, iv a2), (3, iv a3), (4, iv a4), (5, iv a5), (6, iv v122), (7, iv v124), (8, iv v125), (9, iv v126), (10, iv v117)] [] (k127 v124 v125 v126)) ?_ (fun k127 hk127 => ?_)
        · intro v124 v125 v126
          refine sm_iinc (pc' := 210) (v117 + (1 : Int32)) [(10, iv (v117 + (1 : Int32))), (0, qv (some th)), (1, iv a1), (2, iv a2), (3, iv a3), (4, iv a4), (5, iv a5), (6, iv v122), (7, iv v124), (8, iv v125), (9, iv v126)] dX11_part_207 rfl rfl (Nat.le_of_ble_eq_true rfl) rfl rfl ?_
          refine sm_goto (pc' := 110) dX11_part_210 (by decide) ?_
          refine sm_sub [1, 2, 3, 4, 5, 6, 7, 8, 9, 10, 0] rfl ?_
          exact ih v122 v124 v125 v126 (v117 + (1 : Int32))
        · skip
          refine sm_if_eq (pc' := 168) (pc1 := 207) dX11_part_165 (by decide) rfl (fun _ => ?_) (fun _ => ?_)
          · skip
            refine sm_sub [1, 2, 3, 4, 5, 6, 0, 7, 8, 9, 10] rfl ?_
            exact hk127 v114 v115 v116
          · skip
            refine sm_iinc (pc' := 171) (v114 + (1 : Int32)) [(7, iv (v114 + (1 : Int32))), (6, iv v122), (0, qv (some th)), (1, iv a1), (2, iv a2), (3, iv a3), (4, iv a4), (5, iv a5), (8, iv v115), (9, iv v116), (10, iv v117), (11, jv v121)] dX11_part_168 rfl rfl (Nat.le_of_ble_eq_true rfl) rfl rfl ?_
            refine sm_iload (pc' := 173) dX11_part_171 rfl rfl ?_
            refine sm_lt (fun k129 => ∀ (v128 : Int32), Sim eX11_part vI 184 [(0, qv (some th)), (1, iv a1), (2, iv a2), (3, iv a3), (4, iv a4), (5, iv a5), (6, iv v122), (7, iv (v114 + (1 : Int32))), (9, iv v116), (10, iv v117), (11, jv v121)] [iv v128] (k129 v128)) ?_ (fun k129 hk129 => ?_)
            · intro v128
              refine sm_istore (pc' := 186) [(8, iv v128), (0, qv (some th)), (1, iv a1), (2, iv a2), (3, iv a3), (4, iv a4), (5, iv a5), (6, iv v122), (7, iv (v114 + (1 : Int32))), (9, iv v116), (10, iv v117), (11, jv v121)] dX11_part_184  (Nat.le_of_ble_eq_true rfl) rfl rfl ?_
              refine sm_iload (pc' := 188) dX11_part_186 rfl rfl ?_
              refine sm_lt (fun k131 => ∀ (v130 : Int32), Sim eX11_part vI 205 [(0, qv (some th)), (1, iv a1), (2, iv a2), (3, iv a3), (4, iv a4), (5, iv a5), (6, iv v122), (7, iv (v114 + (1 : Int32))), (8, iv v128), (10, iv v117)] [iv v130] (k131 v130)) ?_ (fun k131 hk131 => ?_)
              · intro v130
                refine sm_istore (pc' := 207) [(9, iv v130), (0, qv (some th)), (1, iv a1), (2, iv a2), (3, iv a3), (4, iv a4), (5, iv a5), (6, iv v122), (7, iv (v114 + (1 : Int32))), (8, iv v128), (10, iv v117)] dX11_part_205  (Nat.le_of_ble_eq_true rfl) rfl rfl ?_
                refine sm_sub [1, 2, 3, 4, 5, 6, 7, 8, 9, 0, 10] rfl ?_
                exact hk127 (v114 + (1 : Int32)) v128 v130
              · skip
                refine sm_lt (fun k132 => Sim eX11_part vI 204 [(0, qv (some th)), (1, iv a1), (2, iv a2), (3, iv a3), (4, iv a4), (5, iv a5), (6, iv v122), (7, iv (v114 + (1 : Int32))), (8, iv v128), (10, iv v117)] [] (k132)) ?_ (fun k132 hk132 => ?_)
                · skip
                  refine sm_iconst (pc' := 205) (0 : Int32) dX11_part_204 (by decide) rfl ?_
                  exact hk131 (0 : Int32)
                · skip
                  refine sm_if_eq (pc' := 191) (pc1 := 204) dX11_part_188 (by decide) rfl (fun _ => ?_) (fun _ => ?_)
                  · skip
                    refine sm_sub [1, 2, 3, 4, 5, 6, 7, 8, 0, 10] rfl ?_
                    exact hk132
                  · skip
                    refine sm_lload (pc' := 193) dX11_part_191 rfl rfl ?_
                    refine sm_iload (pc' := 195) dX11_part_193 rfl rfl ?_
                    refine sm_i2l (pc' := 196) dX11_part_195 rfl ?_
                    refine sm_lcmp (pc' := 197) dX11_part_196 rfl ?_
                    refine sm_if_ne (pc' := 200) (pc1 := 204) dX11_part_197 (by decide) rfl (fun _ => ?_) (fun _ => ?_)
                    · skip
                      refine sm_sub [1, 2, 3, 4, 5, 6, 7, 8, 0, 10] rfl ?_
                      exact hk132
                    · skip
                      refine sm_iconst (pc' := 201) (1 : Int32) dX11_part_200 (by decide) rfl ?_
                      refine sm_goto (pc' := 205) dX11_part_201 (by decide) ?_
                      refine sm_sub [1, 2, 3, 4, 5, 6, 7, 8, 0, 10] rfl ?_
                      exact hk131 (1 : Int32)
            · skip
              refine sm_if_ne (pc' := 176) (pc1 := 182) dX11_part_173 (by decide) rfl (fun _ => ?_) (fun _ => ?_)
              · skip
                refine sm_iload (pc' := 184) dX11_part_182 rfl rfl ?_
                refine sm_sub [2, 3, 4, 5, 6, 7, 1, 0, 9, 10, 11] rfl ?_
                exact hk129 v115
              · skip
                refine sm_lload (pc' := 178) dX11_part_176 rfl rfl ?_
                refine sm_l2i (pc' := 179) dX11_part_178 rfl ?_
                refine sm_goto (pc' := 184) dX11_part_179 (by decide) ?_
                refine sm_sub [2, 3, 4, 5, 6, 7, 1, 0, 9, 10, 11] rfl ?_
                exact hk129 (Int64.toInt32 v121)
      · skip
        refine sm_lt (fun k133 => Sim eX11_part vI 158 [(0, qv (some th)), (1, iv a1), (2, iv a2), (3, iv a3), (4, iv a4), (5, iv a5), (7, iv v114), (8, iv v115), (9, iv v116), (10, iv v117), (11, jv v121)] [] (k133)) ?_ (fun k133 hk133 => ?_)
        · skip
          refine sm_iconst (pc' := 159) (0 : Int32) dX11_part_158 (by decide) rfl ?_
          exact hk123 (0 : Int32)
        · skip
          refine sm_if_eq (pc' := 142) (pc1 := 158) dX11_part_139 (by decide) rfl (fun _ => ?_) (fun _ => ?_)
          · skip
            refine sm_sub [1, 2, 3, 4, 5, 6, 8, 9, 10, 11, 0] rfl ?_
            exact hk133
          · skip
            refine sm_lload (pc' := 144) dX11_part_142 rfl rfl ?_
            refine sm_lconst (pc' := 145) (0 : Int64) dX11_part_144 (by decide) rfl ?_
            refine sm_ldc2 (pc' := 148) (9 : Int64) w_582 dX11_part_145 rfl ?_
            refine sm_calli (pc' := 151) (sa := [jv (9 : Int64), jv (0 : Int64), jv v121]) (st := []) (iv_X11_134 v121 (0 : Int64) (9 : Int64)) (Nat.le_of_ble_eq_true rfl) dX11_part_148 rfl (Nat.le_of_ble_eq_true rfl) (fun v134 => ?_)
            refine sm_if_eq (pc' := 154) (pc1 := 158) dX11_part_151 (by decide) rfl (fun _ => ?_) (fun _ => ?_)
            · skip
              refine sm_sub [1, 2, 3, 4, 5, 6, 8, 9, 10, 11, 0] rfl ?_
              exact hk133
            · skip
              refine sm_iconst (pc' := 155) (1 : Int32) dX11_part_154 (by decide) rfl ?_
              refine sm_goto (pc' := 159) dX11_part_155 (by decide) ?_
              refine sm_sub [1, 2, 3, 4, 5, 6, 8, 9, 10, 11, 0] rfl ?_
              exact hk123 (1 : Int32)
set_option maxRecDepth 20000 in
theorem sX11_part_L257 (th : Nat) (a1 : Int32) (a2 : Int32) (a3 : Int32) (a4 : Int32) (a5 : Int32) (v136 : Int32) (v137 : Int32) (k146 : Prg Int32) (hk146 : Sim eX11_part vI 328 [(0, qv (some th)), (1, iv a1), (4, iv a4), (5, iv a5), (7, iv v136), (9, iv v137)] [] (k146)) : ∀ (n : Nat), ∀ (v145 : Int32), Sim eX11_part vI 257 [(0, qv (some th)), (1, iv a1), (2, iv a2), (3, iv a3), (4, iv a4), (5, iv a5), (7, iv v136), (9, iv v137), (10, iv v145)] [] (pX11_part_L257 th a1 a2 a3 a4 a5 v136 v137 k146 n v145) := by
  intro n
  induction n with
  | zero =>
    intros
    exact sm_fl
  | succ n ih =>
    intro v145
    unfold pX11_part_L257
    refine sm_iload (pc' := 259) dX11_part_257 rfl rfl ?_
    refine sm_sipush (pc' := 262) (144 : Int32) dX11_part_259 (by decide) rfl ?_
    refine sm_icmp_ge (pc' := 265) (pc1 := 328) dX11_part_262 (by decide) rfl (fun _ => ?_) (fun _ => ?_)
    · skip
      refine sm_sub [0, 1, 4, 5, 6, 7] rfl ?_
      exact hk146
    · skip
      refine sm_aload_n (pc' := 266) dX11_part_265 rfl rfl ?_
      refine sm_getF (pc' := 269) fk_X11_29 yr_11_8 dX11_part_266 rfl (fun v147 => ?_)
      refine sm_sipush (pc' := 272) (144 : Int32) dX11_part_269 (by decide) rfl ?_
      refine sm_iload_n (pc' := 273) dX11_part_272 rfl rfl ?_
      refine sm_imul (pc' := 274) dX11_part_273 rfl ?_
      refine sm_iload (pc' := 276) dX11_part_274 rfl rfl ?_
      refine sm_iadd (pc' := 277) dX11_part_276 rfl ?_
      refine sm_iload (pc' := 279) dX11_part_277 rfl rfl ?_
      refine sm_iload (pc' := 281) dX11_part_279 rfl rfl ?_
      refine sm_iload (pc' := 283) dX11_part_281 rfl rfl ?_
      refine sm_imul (pc' := 284) dX11_part_283 rfl ?_
      refine sm_lt (fun k149 => ∀ (v148 : Int32), Sim eX11_part vI 307 [(0, qv (some th)), (1, iv a1), (2, iv a2), (3, iv a3), (4, iv a4), (5, iv a5), (7, iv v136), (9, iv v137), (10, iv v145)] [iv v148, iv (((144 : Int32) * a1) + v145), qv v147] (k149 v148)) ?_ (fun k149 hk149 => ?_)
      · intro v148
        rcases v147 with _ | a150
        · exact sm_unN
        refine sm_unS ?_
        refine sm_iastore (pc' := 308) dX11_part_307 rfl ?_
        refine sm_aload_n (pc' := 309) dX11_part_308 rfl rfl ?_
        refine sm_getF (pc' := 312) fk_X11_38 yr_11_11 dX11_part_309 rfl (fun v151 => ?_)
        refine sm_sipush (pc' := 315) (144 : Int32) dX11_part_312 (by decide) rfl ?_
        refine sm_iload_n (pc' := 316) dX11_part_315 rfl rfl ?_
        refine sm_imul (pc' := 317) dX11_part_316 rfl ?_
        refine sm_iload (pc' := 319) dX11_part_317 rfl rfl ?_
        refine sm_iadd (pc' := 320) dX11_part_319 rfl ?_
        refine sm_iconst (pc' := 321) (0 : Int32) dX11_part_320 (by decide) rfl ?_
        rcases v151 with _ | a152
        · exact sm_unN
        refine sm_unS ?_
        refine sm_zastore (pc' := 322) dX11_part_321 rfl ?_
        refine sm_iinc (pc' := 325) (v145 + (1 : Int32)) [(10, iv (v145 + (1 : Int32))), (0, qv (some th)), (1, iv a1), (2, iv a2), (3, iv a3), (4, iv a4), (5, iv a5), (7, iv v136), (9, iv v137)] dX11_part_322 rfl rfl (Nat.le_of_ble_eq_true rfl) rfl rfl ?_
        refine sm_goto (pc' := 257) dX11_part_325 (by decide) ?_
        refine sm_sub [1, 2, 3, 4, 5, 6, 7, 8, 0] rfl ?_
        exact ih (v145 + (1 : Int32))
      · skip
        refine sm_icmp_ge (pc' := 287) (pc1 := 306) dX11_part_284 (by decide) rfl (fun _ => ?_) (fun _ => ?_)
        · skip
          refine sm_iconst (pc' := 307) (0 : Int32) dX11_part_306 (by decide) rfl ?_
          exact hk149 (0 : Int32)
        · skip
          refine sm_aload_n (pc' := 288) dX11_part_287 rfl rfl ?_
          refine sm_getF (pc' := 291) fk_X11_16 yr_11_4 dX11_part_288 rfl (fun v153 => ?_)
          refine sm_sipush (pc' := 294) (144 : Int32) dX11_part_291 (by decide) rfl ?_
          refine sm_iload_n (pc' := 295) dX11_part_294 rfl rfl ?_
          refine sm_imul (pc' := 296) dX11_part_295 rfl ?_
          refine sm_iload_n (pc' := 297) dX11_part_296 rfl rfl ?_
          refine sm_iadd (pc' := 298) dX11_part_297 rfl ?_
          refine sm_iload (pc' := 300) dX11_part_298 rfl rfl ?_
          refine sm_iadd (pc' := 301) dX11_part_300 rfl ?_
          rcases v153 with _ | a154
          · exact sm_unN
          refine sm_unS ?_
          refine sm_laload (pc' := 302) dX11_part_301 rfl (fun v155 => ?_)
          refine sm_l2i (pc' := 303) dX11_part_302 rfl ?_
          refine sm_goto (pc' := 307) dX11_part_303 (by decide) ?_
          exact hk149 (Int64.toInt32 v155)
set_option maxRecDepth 20000 in
theorem sX11_part (th : Nat) (a1 : Int32) (a2 : Int32) (a3 : Int32) (a4 : Int32) (a5 : Int32) : Sim eX11_part vI 0 [(0, qv (some th)), (1, iv a1), (2, iv a2), (3, iv a3), (4, iv a4), (5, iv a5)] [] (pX11_part th a1 a2 a3 a4 a5) := by
  unfold pX11_part
  refine sm_aload_n (pc' := 1) dX11_part_0 rfl rfl ?_
  refine sm_iconst (pc' := 2) (0 : Int32) dX11_part_1 (by decide) rfl ?_
  refine sm_putI (pc' := 5) (gk_X11_124 _ _ _ _ _) ti_11_0 dX11_part_2 rfl ?_
  refine sm_iload_n (pc' := 6) dX11_part_5 rfl rfl ?_
  refine sm_calli (pc' := 9) (sa := [iv a1]) (st := []) (iv_X11_153 a1) (Nat.le_of_ble_eq_true rfl) dX11_part_6 rfl (Nat.le_of_ble_eq_true rfl) (fun v101 => ?_)
  refine sm_lt (fun k102 => Sim eX11_part vI 45 [] [] (k102)) ?_ (fun k102 hk102 => ?_)
  · skip
    refine sm_ldc (pc' := 47) (-1000001 : Int32) w_609 dX11_part_45 rfl ?_
    exact sm_ireturn rfl dX11_part_47
  · skip
    refine sm_if_eq (pc' := 12) (pc1 := 45) dX11_part_9 (by decide) rfl (fun _ => ?_) (fun _ => ?_)
    · skip
      refine sm_sub [] rfl ?_
      exact hk102
    · skip
      refine sm_iload_n (pc' := 13) dX11_part_12 rfl rfl ?_
      refine sm_calli (pc' := 16) (sa := [iv a2]) (st := []) (iv_X11_138 a2) (Nat.le_of_ble_eq_true rfl) dX11_part_13 rfl (Nat.le_of_ble_eq_true rfl) (fun v103 => ?_)
      refine sm_if_eq (pc' := 19) (pc1 := 45) dX11_part_16 (by decide) rfl (fun _ => ?_) (fun _ => ?_)
      · skip
        refine sm_sub [] rfl ?_
        exact hk102
      · skip
        refine sm_iload (pc' := 21) dX11_part_19 rfl rfl ?_
        refine sm_i2l (pc' := 22) dX11_part_21 rfl ?_
        refine sm_lconst (pc' := 23) (1 : Int64) dX11_part_22 (by decide) rfl ?_
        refine sm_ldc2 (pc' := 26) (12 : Int64) w_737 dX11_part_23 rfl ?_
        refine sm_calli (pc' := 29) (sa := [jv (12 : Int64), jv (1 : Int64), jv (Int32.toInt64 a4)]) (st := []) (iv_X11_134 (Int32.toInt64 a4) (1 : Int64) (12 : Int64)) (Nat.le_of_ble_eq_true rfl) dX11_part_26 rfl (Nat.le_of_ble_eq_true rfl) (fun v104 => ?_)
        refine sm_if_eq (pc' := 32) (pc1 := 45) dX11_part_29 (by decide) rfl (fun _ => ?_) (fun _ => ?_)
        · skip
          refine sm_sub [] rfl ?_
          exact hk102
        · skip
          refine sm_iload (pc' := 34) dX11_part_32 rfl rfl ?_
          refine sm_i2l (pc' := 35) dX11_part_34 rfl ?_
          refine sm_lconst (pc' := 36) (1 : Int64) dX11_part_35 (by decide) rfl ?_
          refine sm_ldc2 (pc' := 39) (12 : Int64) w_737 dX11_part_36 rfl ?_
          refine sm_calli (pc' := 42) (sa := [jv (12 : Int64), jv (1 : Int64), jv (Int32.toInt64 a5)]) (st := []) (iv_X11_134 (Int32.toInt64 a5) (1 : Int64) (12 : Int64)) (Nat.le_of_ble_eq_true rfl) dX11_part_39 rfl (Nat.le_of_ble_eq_true rfl) (fun v105 => ?_)
          refine sm_if_ne (pc' := 45) (pc1 := 48) dX11_part_42 (by decide) rfl (fun _ => ?_) (fun _ => ?_)
          · skip
            refine sm_aload_n (pc' := 49) dX11_part_48 rfl rfl ?_
            refine sm_getF (pc' := 52) fk_X11_51 yr_11_15 dX11_part_49 rfl (fun v106 => ?_)
            refine sm_iload_n (pc' := 53) dX11_part_52 rfl rfl ?_
            rcases v106 with _ | a107
            · exact sm_unN
            refine sm_unS ?_
            refine sm_iaload (pc' := 54) dX11_part_53 rfl (fun v108 => ?_)
            refine sm_if_lt (pc' := 57) (pc1 := 60) dX11_part_54 (by decide) rfl (fun _ => ?_) (fun _ => ?_)
            · skip
              refine sm_aload_n (pc' := 61) dX11_part_60 rfl rfl ?_
              refine sm_getF (pc' := 64) fk_X11_7 yr_11_2 dX11_part_61 rfl (fun v109 => ?_)
              refine sm_iload_n (pc' := 65) dX11_part_64 rfl rfl ?_
              rcases v109 with _ | a110
              · exact sm_unN
              refine sm_unS ?_
              refine sm_iaload (pc' := 66) dX11_part_65 rfl (fun v111 => ?_)
              refine sm_if_ge (pc' := 69) (pc1 := 75) dX11_part_66 (by decide) rfl (fun _ => ?_) (fun _ => ?_)
              · skip
                refine sm_aload_n (pc' := 76) dX11_part_75 rfl rfl ?_
                refine sm_iload_n (pc' := 77) dX11_part_76 rfl rfl ?_
                refine sm_iload_n (pc' := 78) dX11_part_77 rfl rfl ?_
                refine sm_iload (pc' := 80) dX11_part_78 rfl rfl ?_
                refine sm_iload (pc' := 82) dX11_part_80 rfl rfl ?_
                refine sm_imul (pc' := 83) dX11_part_82 rfl ?_
                refine sm_calli (pc' := 86) (sa := [iv (a4 * a5), iv a3, iv a2, qv (some th)]) (st := []) (iv_X11_159 th a2 a3 (a4 * a5)) (Nat.le_of_ble_eq_true rfl) dX11_part_83 rfl (Nat.le_of_ble_eq_true rfl) (fun v112 => ?_)
                refine sm_if_ne (pc' := 89) (pc1 := 95) dX11_part_86 (by decide) rfl (fun _ => ?_) (fun _ => ?_)
                · skip
                  refine sm_iconst (pc' := 96) (1 : Int32) dX11_part_95 (by decide) rfl ?_
                  refine sm_istore (pc' := 98) [(6, iv (1 : Int32)), (0, qv (some th)), (1, iv a1), (2, iv a2), (3, iv a3), (4, iv a4), (5, iv a5)] dX11_part_96  (Nat.le_of_ble_eq_true rfl) rfl rfl ?_
                  refine sm_iconst (pc' := 99) (0 : Int32) dX11_part_98 (by decide) rfl ?_
                  refine sm_istore (pc' := 101) [(7, iv (0 : Int32)), (6, iv (1 : Int32)), (0, qv (some th)), (1, iv a1), (2, iv a2), (3, iv a3), (4, iv a4), (5, iv a5)] dX11_part_99  (Nat.le_of_ble_eq_true rfl) rfl rfl ?_
                  refine sm_iconst (pc' := 102) (0 : Int32) dX11_part_101 (by decide) rfl ?_
                  refine sm_istore (pc' := 104) [(8, iv (0 : Int32)), (7, iv (0 : Int32)), (6, iv (1 : Int32)), (0, qv (some th)), (1, iv a1), (2, iv a2), (3, iv a3), (4, iv a4), (5, iv a5)] dX11_part_102  (Nat.le_of_ble_eq_true rfl) rfl rfl ?_
                  refine sm_iconst (pc' := 105) (1 : Int32) dX11_part_104 (by decide) rfl ?_
                  refine sm_istore (pc' := 107) [(9, iv (1 : Int32)), (8, iv (0 : Int32)), (7, iv (0 : Int32)), (6, iv (1 : Int32)), (0, qv (some th)), (1, iv a1), (2, iv a2), (3, iv a3), (4, iv a4), (5, iv a5)] dX11_part_105  (Nat.le_of_ble_eq_true rfl) rfl rfl ?_
                  refine sm_iconst (pc' := 108) (0 : Int32) dX11_part_107 (by decide) rfl ?_
                  refine sm_istore (pc' := 110) [(10, iv (0 : Int32)), (9, iv (1 : Int32)), (8, iv (0 : Int32)), (7, iv (0 : Int32)), (6, iv (1 : Int32)), (0, qv (some th)), (1, iv a1), (2, iv a2), (3, iv a3), (4, iv a4), (5, iv a5)] dX11_part_108  (Nat.le_of_ble_eq_true rfl) rfl rfl ?_
                  refine sm_sub [5, 6, 7, 8, 9, 10, 4, 3, 2, 1, 0] rfl ?_
                  refine sX11_part_L110 th a1 a2 a3 a4 a5 _ ?_ FL (1 : Int32) (0 : Int32) (0 : Int32) (1 : Int32) (0 : Int32)
                  · intro v135 v136 v137
                    refine sm_iload (pc' := 215) dX11_part_213 rfl rfl ?_
                    refine sm_lt (fun k138 => Sim eX11_part vI 223 [] [] (k138)) ?_ (fun k138 hk138 => ?_)
                    · skip
                      refine sm_ldc (pc' := 225) (-1000001 : Int32) w_609 dX11_part_223 rfl ?_
                      exact sm_ireturn rfl dX11_part_225
                    · skip
                      refine sm_if_eq (pc' := 218) (pc1 := 223) dX11_part_215 (by decide) rfl (fun _ => ?_) (fun _ => ?_)
                      · skip
                        refine sm_sub [] rfl ?_
                        exact hk138
                      · skip
                        refine sm_iload (pc' := 220) dX11_part_218 rfl rfl ?_
                        refine sm_if_ne (pc' := 223) (pc1 := 226) dX11_part_220 (by decide) rfl (fun _ => ?_) (fun _ => ?_)
                        · skip
                          refine sm_aload_n (pc' := 227) dX11_part_226 rfl rfl ?_
                          refine sm_iconst (pc' := 228) (0 : Int32) dX11_part_227 (by decide) rfl ?_
                          refine sm_putI (pc' := 231) (gk_X11_128 _ _ _ _ _) ti_11_1 dX11_part_228 rfl ?_
                          refine sm_aload_n (pc' := 232) dX11_part_231 rfl rfl ?_
                          refine sm_getF (pc' := 235) fk_X11_23 yr_11_6 dX11_part_232 rfl (fun v139 => ?_)
                          refine sm_iload_n (pc' := 236) dX11_part_235 rfl rfl ?_
                          refine sm_iload (pc' := 238) dX11_part_236 rfl rfl ?_
                          rcases v139 with _ | a140
                          · exact sm_unN
                          refine sm_unS ?_
                          refine sm_iastore (pc' := 239) dX11_part_238 rfl ?_
                          refine sm_aload_n (pc' := 240) dX11_part_239 rfl rfl ?_
                          refine sm_getF (pc' := 243) fk_X11_26 yr_11_7 dX11_part_240 rfl (fun v141 => ?_)
                          refine sm_iload_n (pc' := 244) dX11_part_243 rfl rfl ?_
                          refine sm_iload (pc' := 246) dX11_part_244 rfl rfl ?_
                          rcases v141 with _ | a142
                          · exact sm_unN
                          refine sm_unS ?_
                          refine sm_iastore (pc' := 247) dX11_part_246 rfl ?_
                          refine sm_aload_n (pc' := 248) dX11_part_247 rfl rfl ?_
                          refine sm_getF (pc' := 251) fk_X11_32 yr_11_9 dX11_part_248 rfl (fun v143 => ?_)
                          refine sm_iload_n (pc' := 252) dX11_part_251 rfl rfl ?_
                          refine sm_iconst (pc' := 253) (0 : Int32) dX11_part_252 (by decide) rfl ?_
                          rcases v143 with _ | a144
                          · exact sm_unN
                          refine sm_unS ?_
                          refine sm_iastore (pc' := 254) dX11_part_253 rfl ?_
                          refine sm_iconst (pc' := 255) (0 : Int32) dX11_part_254 (by decide) rfl ?_
                          refine sm_istore (pc' := 257) [(10, iv (0 : Int32)), (0, qv (some th)), (1, iv a1), (2, iv a2), (3, iv a3), (4, iv a4), (5, iv a5), (6, iv v135), (7, iv v136), (9, iv v137)] dX11_part_255  (Nat.le_of_ble_eq_true rfl) rfl rfl ?_
                          refine sm_sub [1, 2, 3, 4, 5, 6, 8, 9, 0] rfl ?_
                          refine sX11_part_L257 th a1 a2 a3 a4 a5 v136 v137 _ ?_ FL (0 : Int32)
                          · skip
                            refine sm_aload_n (pc' := 329) dX11_part_328 rfl rfl ?_
                            refine sm_getF (pc' := 332) fk_X11_20 yr_11_5 dX11_part_329 rfl (fun v156 => ?_)
                            refine sm_iload_n (pc' := 333) dX11_part_332 rfl rfl ?_
                            refine sm_iload (pc' := 335) dX11_part_333 rfl rfl ?_
                            refine sm_lt (fun k158 => ∀ (v157 : Int32), Sim eX11_part vI 357 [(0, qv (some th)), (1, iv a1)] [iv v157, iv a1, qv v156] (k158 v157)) ?_ (fun k158 hk158 => ?_)
                            · intro v157
                              rcases v156 with _ | a159
                              · exact sm_unN
                              refine sm_unS ?_
                              refine sm_iastore (pc' := 358) dX11_part_357 rfl ?_
                              refine sm_aload_n (pc' := 359) dX11_part_358 rfl rfl ?_
                              refine sm_getF (pc' := 362) fk_X11_20 yr_11_5 dX11_part_359 rfl (fun v160 => ?_)
                              refine sm_iload_n (pc' := 363) dX11_part_362 rfl rfl ?_
                              rcases v160 with _ | a161
                              · exact sm_unN
                              refine sm_unS ?_
                              refine sm_iaload (pc' := 364) dX11_part_363 rfl (fun v162 => ?_)
                              exact sm_ireturn rfl dX11_part_364
                            · skip
                              refine sm_if_ne (pc' := 338) (pc1 := 342) dX11_part_335 (by decide) rfl (fun _ => ?_) (fun _ => ?_)
                              · skip
                                refine sm_iload (pc' := 344) dX11_part_342 rfl rfl ?_
                                refine sm_iload (pc' := 346) dX11_part_344 rfl rfl ?_
                                refine sm_iload (pc' := 348) dX11_part_346 rfl rfl ?_
                                refine sm_imul (pc' := 349) dX11_part_348 rfl ?_
                                refine sm_icmp_ne (pc' := 352) (pc1 := 356) dX11_part_349 (by decide) rfl (fun _ => ?_) (fun _ => ?_)
                                · skip
                                  refine sm_iconst (pc' := 357) (2 : Int32) dX11_part_356 (by decide) rfl ?_
                                  refine sm_sub [0, 1] rfl ?_
                                  exact hk158 (2 : Int32)
                                · skip
                                  refine sm_iconst (pc' := 353) (3 : Int32) dX11_part_352 (by decide) rfl ?_
                                  refine sm_goto (pc' := 357) dX11_part_353 (by decide) ?_
                                  refine sm_sub [0, 1] rfl ?_
                                  exact hk158 (3 : Int32)
                              · skip
                                refine sm_iconst (pc' := 339) (1 : Int32) dX11_part_338 (by decide) rfl ?_
                                refine sm_goto (pc' := 357) dX11_part_339 (by decide) ?_
                                refine sm_sub [0, 1] rfl ?_
                                exact hk158 (1 : Int32)
                        · skip
                          refine sm_sub [] rfl ?_
                          exact hk138
                · skip
                  refine sm_aload_n (pc' := 90) dX11_part_89 rfl rfl ?_
                  refine sm_iconst (pc' := 91) (2 : Int32) dX11_part_90 (by decide) rfl ?_
                  refine sm_calli (pc' := 94) (sa := [iv (2 : Int32), qv (some th)]) (st := []) (iv_X11_145 th (2 : Int32)) (Nat.le_of_ble_eq_true rfl) dX11_part_91 rfl (Nat.le_of_ble_eq_true rfl) (fun v163 => ?_)
                  exact sm_ireturn rfl dX11_part_94
              · skip
                refine sm_aload_n (pc' := 70) dX11_part_69 rfl rfl ?_
                refine sm_iconst (pc' := 71) (1 : Int32) dX11_part_70 (by decide) rfl ?_
                refine sm_calli (pc' := 74) (sa := [iv (1 : Int32), qv (some th)]) (st := []) (iv_X11_145 th (1 : Int32)) (Nat.le_of_ble_eq_true rfl) dX11_part_71 rfl (Nat.le_of_ble_eq_true rfl) (fun v164 => ?_)
                exact sm_ireturn rfl dX11_part_74
            · skip
              refine sm_ldc (pc' := 59) (-1000002 : Int32) w_691 dX11_part_57 rfl ?_
              exact sm_ireturn rfl dX11_part_59
          · skip
            refine sm_sub [] rfl ?_
            exact hk102
theorem kX11_part (th : Nat) (a1 : Int32) (a2 : Int32) (a3 : Int32) (a4 : Int32) (a5 : Int32) : Callee 2 yX11_part cX11_part 13 (some .int) [qv (some th), iv a1, iv a2, iv a3, iv a4, iv a5] vI (pX11_part th a1 a2 a3 a4 a5) := callee_ofS [(0, qv (some th)), (1, iv a1), (2, iv a2), (3, iv a3), (4, iv a4), (5, iv a5)] (by decide +kernel) (Nat.le_of_ble_eq_true rfl) rfl (sX11_part th a1 a2 a3 a4 a5)
/-! HollowPressModel.putInOrder(I)V -/
set_option maxRecDepth 20000 in
theorem iv_X11_262 (a : Nat) (x0 : Int32) (x1 : Int32) : Inv RX11 1 (.invokevirtual 262) [iv x1, iv x0, qv (some a)] vI (onT a 11 (pX11_pain a x0 x1)) := inv_V (As := [iv x0, iv x1]) (t := 11) (kX11_pain a x0 x1) _ (by decide) rfl rfl w_738 w_739 w_740 w_585 w_741 ⟨by decide +kernel, by decide +kernel, by show _ = some 2; decide +kernel⟩ (by decide)
abbrev eX11_putInOrder : Env0 := (RX11, "putInOrder", cX11_putInOrder, 10, none, 1)
def pX11_putInOrder_L9 (th : Nat) (a1 : Int32) (v103 : Int32) (k105 : Prg Unit) : Nat → Int32 → Prg Unit
  | 0, _ => fl
  | n + 1, v104 =>
    (if v103 ≤ v104 then k105
    else gF 11 th 44 fun v106 =>
    gF 11 th 40 fun v107 =>
    un v107 fun a108 =>
    ldI a108 (((12 : Int32) * a1) + v104) fun v109 =>
    un v106 fun a110 =>
    stI a110 v104 v109 (
    pX11_putInOrder_L9 th a1 v103 k105 n (v104 + (1 : Int32))))
def pX11_putInOrder_L71 (th : Nat) (a1 : Int32) (v103 : Int32) (v113 : Int32) (v115 : Int32) (k120 : Int32 → Prg Unit) : Nat → Int32 → Int32 → Int32 → Prg Unit
  | 0, _, _, _ => fl
  | n + 1, v117, v118, v119 =>
    (if v103 ≤ v119 then k120 v117
    else (lt (fun (v121 : Int32) (v122 : Int32) => pX11_putInOrder_L71 th a1 v103 v113 v115 k120 n v121 v122 (v119 + (1 : Int32)) : Int32 → Int32 → Prg Unit) fun k123 =>
    (if ((v113 >>> (v119 &&& 31)) &&& (1 : Int32)) = (1 : Int32) then gF 11 th 44 fun v124 =>
    un v124 fun a125 =>
    ldI a125 v115 fun v126 =>
    gF 11 th 44 fun v127 =>
    un v127 fun a128 =>
    ldI a128 v119 fun v129 =>
    cl (onT th 11 (pX11_pain th v126 v129)) fun v130 =>
    gF 11 th 43 fun v131 =>
    un v131 fun a132 =>
    ldI a132 (((12 : Int32) * (v113 &&& (((1 : Int32) <<< (v119 &&& 31)) ^^^ (-1 : Int32)))) + v119) fun v133 =>
    (lt (fun (v134 : Int32) => k123 v134 (1 : Int32) : Int32 → Prg Unit) fun k135 =>
    (lt (k135 (v130 + v133) : Prg Unit) fun k136 =>
    (if v118 = 0 then k136
    else (if v117 ≤ (v130 + v133) then k135 v117
    else k136))))
    else k123 v117 v118)))
def pX11_putInOrder_L56 (th : Nat) (a1 : Int32) (v103 : Int32) (v113 : Int32) (k116 : Prg Unit) : Nat → Int32 → Prg Unit
  | 0, _ => fl
  | n + 1, v115 =>
    (if v103 ≤ v115 then k116
    else pX11_putInOrder_L71 th a1 v103 v113 v115 (fun (v137 : Int32) => gF 11 th 43 fun v138 =>
    un v138 fun a139 =>
    stI a139 (((12 : Int32) * v113) + v115) v137 (
    pX11_putInOrder_L56 th a1 v103 v113 k116 n (v115 + (1 : Int32)))) FL (0 : Int32) (0 : Int32) (0 : Int32))
def pX11_putInOrder_L46 (th : Nat) (a1 : Int32) (v103 : Int32) (k114 : Prg Unit) : Nat → Int32 → Prg Unit
  | 0, _ => fl
  | n + 1, v113 =>
    (if ((1 : Int32) <<< (v103 &&& 31)) ≤ v113 then k114
    else pX11_putInOrder_L56 th a1 v103 v113 (pX11_putInOrder_L46 th a1 v103 k114 n (v113 + (1 : Int32))) FL (0 : Int32))
def pX11_putInOrder_L212 (th : Nat) (a1 : Int32) (v103 : Int32) (v141 : Int32) (v142 : Int32) (v143 : Int32) (k148 : Int32 → Int32 → Prg Unit) : Nat → Int32 → Int32 → Int32 → Prg Unit
  | 0, _, _, _ => fl
  | n + 1, v145, v146, v147 =>
    (if v103 ≤ v147 then k148 v145 v146
    else (lt (fun (v149 : Int32) (v150 : Int32) => pX11_putInOrder_L212 th a1 v103 v141 v142 v143 k148 n v149 v150 (v147 + (1 : Int32)) : Int32 → Int32 → Prg Unit) fun k151 =>
    (if ((v141 >>> (v147 &&& 31)) &&& (1 : Int32)) = (1 : Int32) then (lt (fun (v152 : Int32) => gF 11 th 43 fun v154 =>
    un v154 fun a155 =>
    ldI a155 (((12 : Int32) * (v141 &&& (((1 : Int32) <<< (v147 &&& 31)) ^^^ (-1 : Int32)))) + v147) fun v156 =>
    (lt (k151 v147 (v152 + v156) : Prg Unit) fun k157 =>
    (if v145 = (-1000000 : Int32) then k157
    else (if v146 ≤ (v152 + v156) then k151 v145 v146
    else k157))) : Int32 → Prg Unit) fun k153 =>
    (if v142 = (-1000000 : Int32) then k153 (0 : Int32)
    else gF 11 th 44 fun v158 =>
    un v158 fun a159 =>
    ldI a159 v142 fun v160 =>
    gF 11 th 44 fun v161 =>
    un v161 fun a162 =>
    ldI a162 v147 fun v163 =>
    cl (onT th 11 (pX11_pain th v160 v163)) fun v164 =>
    k153 v164))
    else k151 v145 v146)))
def pX11_putInOrder_L196 (th : Nat) (a1 : Int32) (v103 : Int32) (k144 : Prg Unit) : Nat → Int32 → Int32 → Int32 → Prg Unit
  | 0, _, _, _ => fl
  | n + 1, v141, v142, v143 =>
    (if v103 ≤ v143 then k144
    else pX11_putInOrder_L212 th a1 v103 v141 v142 v143 (fun (v165 : Int32) (v166 : Int32) => gF 11 th 42 fun v167 =>
    (lt (fun (v168 : Int32) => un v167 fun a170 =>
    stI a170 a1 v168 (
    gF 11 th 40 fun v171 =>
    gF 11 th 44 fun v172 =>
    un v172 fun a173 =>
    ldI a173 v165 fun v174 =>
    un v171 fun a175 =>
    stI a175 (((12 : Int32) * a1) + v143) v174 (
    (lt (v141 &&& (((1 : Int32) <<< (v165 &&& 31)) ^^^ (-1 : Int32))) fun v176 =>
    pX11_putInOrder_L196 th a1 v103 k144 n v176 v165 (v143 + (1 : Int32))))) : Int32 → Prg Unit) fun k169 =>
    (if v143 = 0 then k169 v166
    else gF 11 th 42 fun v177 =>
    un v177 fun a178 =>
    ldI a178 a1 fun v179 =>
    k169 v179))) FL (-1000000 : Int32) (0 : Int32) (0 : Int32))
def pX11_putInOrder (th : Nat) (a1 : Int32) : Prg Unit :=
    gF 11 th 41 fun v101 =>
    un v101 fun a102 =>
    ldI a102 a1 fun v103 =>
    pX11_putInOrder_L9 th a1 v103 (gF 11 th 42 fun v111 =>
    un v111 fun a112 =>
    stI a112 a1 (0 : Int32) (
    pX11_putInOrder_L46 th a1 v103 ((lt (((1 : Int32) <<< (v103 &&& 31)) - (1 : Int32)) fun v140 =>
    pX11_putInOrder_L196 th a1 v103 (rt ()) FL v140 (-1000000 : Int32) (0 : Int32))) FL (0 : Int32))) FL (0 : Int32)
set_option maxRecDepth 20000 in
theorem sX11_putInOrder_L9 (th : Nat) (a1 : Int32) (v103 : Int32) (k105 : Prg Unit) (hk105 : Sim eX11_putInOrder vU 37 [(0, qv (some th)), (1, iv a1), (2, iv v103)] [] (k105)) : ∀ (n : Nat), ∀ (v104 : Int32), Sim eX11_putInOrder vU 9 [(0, qv (some th)), (1, iv a1), (2, iv v103), (3, iv v104)] [] (pX11_putInOrder_L9 th a1 v103 k105 n v104) := by
  intro n
  induction n with
  | zero =>
    intros
    exact sm_fl
  | succ n ih =>
    intro v104
    unfold pX11_putInOrder_L9
    refine sm_iload_n (pc' := 10) dX11_putInOrder_9 rfl rfl ?_
    refine sm_iload_n (pc' := 11) dX11_putInOrder_10 rfl rfl ?_
    refine sm_icmp_ge (pc' := 14) (pc1 := 37) dX11_putInOrder_11 (by decide) rfl (fun _ => ?_) (fun _ => ?_)
    · skip
      refine sm_sub [0, 1, 2] rfl ?_
      exact hk105
    · skip
      refine sm_aload_n (pc' := 15) dX11_putInOrder_14 rfl rfl ?_
      refine sm_getF (pc' := 18) fk_X11_121 yr_11_44 dX11_putInOrder_15 rfl (fun v106 => ?_)
      refine sm_iload_n (pc' := 19) dX11_putInOrder_18 rfl rfl ?_
      refine sm_aload_n (pc' := 20) dX11_putInOrder_19 rfl rfl ?_
      refine sm_getF (pc' := 23) fk_X11_108 yr_11_40 dX11_putInOrder_20 rfl (fun v107 => ?_)
      refine sm_bipush (pc' := 25) (12 : Int32) dX11_putInOrder_23 (by decide) rfl ?_
      refine sm_iload_n (pc' := 26) dX11_putInOrder_25 rfl rfl ?_
      refine sm_imul (pc' := 27) dX11_putInOrder_26 rfl ?_
      refine sm_iload_n (pc' := 28) dX11_putInOrder_27 rfl rfl ?_
      refine sm_iadd (pc' := 29) dX11_putInOrder_28 rfl ?_
      rcases v107 with _ | a108
      · exact sm_unN
      refine sm_unS ?_
      refine sm_iaload (pc' := 30) dX11_putInOrder_29 rfl (fun v109 => ?_)
      rcases v106 with _ | a110
      · exact sm_unN
      refine sm_unS ?_
      refine sm_iastore (pc' := 31) dX11_putInOrder_30 rfl ?_
      refine sm_iinc (pc' := 34) (v104 + (1 : Int32)) [(3, iv (v104 + (1 : Int32))), (0, qv (some th)), (1, iv a1), (2, iv v103)] dX11_putInOrder_31 rfl rfl (Nat.le_of_ble_eq_true rfl) rfl rfl ?_
      refine sm_goto (pc' := 9) dX11_putInOrder_34 (by decide) ?_
      refine sm_sub [1, 2, 3, 0] rfl ?_
      exact ih (v104 + (1 : Int32))
set_option maxRecDepth 20000 in
theorem sX11_putInOrder_L71 (th : Nat) (a1 : Int32) (v103 : Int32) (v113 : Int32) (v115 : Int32) (k120 : Int32 → Prg Unit) (hk120 : ∀ (q5 : Int32), Sim eX11_putInOrder vU 157 [(0, qv (some th)), (1, iv a1), (2, iv v103), (3, iv v113), (4, iv v115), (5, iv q5)] [] (k120 q5)) : ∀ (n : Nat), ∀ (v117 : Int32) (v118 : Int32) (v119 : Int32), Sim eX11_putInOrder vU 71 [(0, qv (some th)), (1, iv a1), (2, iv v103), (3, iv v113), (4, iv v115), (5, iv v117), (6, iv v118), (7, iv v119)] [] (pX11_putInOrder_L71 th a1 v103 v113 v115 k120 n v117 v118 v119) := by
  intro n
  induction n with
  | zero =>
    intros
    exact sm_fl
  | succ n ih =>
    intro v117 v118 v119
    unfold pX11_putInOrder_L71
    refine sm_iload (pc' := 73) dX11_putInOrder_71 rfl rfl ?_
    refine sm_iload_n (pc' := 74) dX11_putInOrder_73 rfl rfl ?_
    refine sm_icmp_ge (pc' := 77) (pc1 := 157) dX11_putInOrder_74 (by decide) rfl (fun _ => ?_) (fun _ => ?_)
    · skip
      refine sm_sub [0, 1, 2, 3, 4, 5] rfl ?_
      exact hk120 v117
    · skip
      refine sm_iload_n (pc' := 78) dX11_putInOrder_77 rfl rfl ?_
      refine sm_iload (pc' := 80) dX11_putInOrder_78 rfl rfl ?_
      refine sm_ishr (pc' := 81) dX11_putInOrder_80 rfl ?_
      refine sm_iconst (pc' := 82) (1 : Int32) dX11_putInOrder_81 (by decide) rfl ?_
      refine sm_iand (pc' := 83) dX11_putInOrder_82 rfl ?_
      refine sm_iconst (pc' := 84) (1 : Int32) dX11_putInOrder_83 (by decide) rfl ?_
      refine sm_lt (fun k123 => ∀ (v121 : Int32) (v122 : Int32), Sim eX11_putInOrder vU 151 [(0, qv (some th)), (1, iv a1), (2, iv v103), (3, iv v113), (4, iv v115), (5, iv v121), (6, iv v122), (7, iv v119)] [] (k123 v121 v122)) ?_ (fun k123 hk123 => ?_)
      · intro v121 v122
        refine sm_iinc (pc' := 154) (v119 + (1 : Int32)) [(7, iv (v119 + (1 : Int32))), (0, qv (some th)), (1, iv a1), (2, iv v103), (3, iv v113), (4, iv v115), (5, iv v121), (6, iv v122)] dX11_putInOrder_151 rfl rfl (Nat.le_of_ble_eq_true rfl) rfl rfl ?_
        refine sm_goto (pc' := 71) dX11_putInOrder_154 (by decide) ?_
        refine sm_sub [1, 2, 3, 4, 5, 6, 7, 0] rfl ?_
        exact ih v121 v122 (v119 + (1 : Int32))
      · skip
        refine sm_icmp_ne (pc' := 87) (pc1 := 151) dX11_putInOrder_84 (by decide) rfl (fun _ => ?_) (fun _ => ?_)
        · skip
          exact hk123 v117 v118
        · skip
          refine sm_aload_n (pc' := 88) dX11_putInOrder_87 rfl rfl ?_
          refine sm_aload_n (pc' := 89) dX11_putInOrder_88 rfl rfl ?_
          refine sm_getF (pc' := 92) fk_X11_121 yr_11_44 dX11_putInOrder_89 rfl (fun v124 => ?_)
          refine sm_iload (pc' := 94) dX11_putInOrder_92 rfl rfl ?_
          rcases v124 with _ | a125
          · exact sm_unN
          refine sm_unS ?_
          refine sm_iaload (pc' := 95) dX11_putInOrder_94 rfl (fun v126 => ?_)
          refine sm_aload_n (pc' := 96) dX11_putInOrder_95 rfl rfl ?_
          refine sm_getF (pc' := 99) fk_X11_121 yr_11_44 dX11_putInOrder_96 rfl (fun v127 => ?_)
          refine sm_iload (pc' := 101) dX11_putInOrder_99 rfl rfl ?_
          rcases v127 with _ | a128
          · exact sm_unN
          refine sm_unS ?_
          refine sm_iaload (pc' := 102) dX11_putInOrder_101 rfl (fun v129 => ?_)
          refine sm_calli (pc' := 105) (sa := [iv v129, iv v126, qv (some th)]) (st := []) (iv_X11_262 th v126 v129) (Nat.le_of_ble_eq_true rfl) dX11_putInOrder_102 rfl (Nat.le_of_ble_eq_true rfl) (fun v130 => ?_)
          refine sm_aload_n (pc' := 106) dX11_putInOrder_105 rfl rfl ?_
          refine sm_getF (pc' := 109) fk_X11_118 yr_11_43 dX11_putInOrder_106 rfl (fun v131 => ?_)
          refine sm_bipush (pc' := 111) (12 : Int32) dX11_putInOrder_109 (by decide) rfl ?_
          refine sm_iload_n (pc' := 112) dX11_putInOrder_111 rfl rfl ?_
          refine sm_iconst (pc' := 113) (1 : Int32) dX11_putInOrder_112 (by decide) rfl ?_
          refine sm_iload (pc' := 115) dX11_putInOrder_113 rfl rfl ?_
          refine sm_ishl (pc' := 116) dX11_putInOrder_115 rfl ?_
          refine sm_iconst (pc' := 117) (-1 : Int32) dX11_putInOrder_116 (by decide) rfl ?_
          refine sm_ixor (pc' := 118) dX11_putInOrder_117 rfl ?_
          refine sm_iand (pc' := 119) dX11_putInOrder_118 rfl ?_
          refine sm_imul (pc' := 120) dX11_putInOrder_119 rfl ?_
          refine sm_iload (pc' := 122) dX11_putInOrder_120 rfl rfl ?_
          refine sm_iadd (pc' := 123) dX11_putInOrder_122 rfl ?_
          rcases v131 with _ | a132
          · exact sm_unN
          refine sm_unS ?_
          refine sm_iaload (pc' := 124) dX11_putInOrder_123 rfl (fun v133 => ?_)
          refine sm_iadd (pc' := 125) dX11_putInOrder_124 rfl ?_
          refine sm_istore (pc' := 127) [(8, iv (v130 + v133)), (0, qv (some th)), (1, iv a1), (2, iv v103), (3, iv v113), (4, iv v115), (5, iv v117), (6, iv v118), (7, iv v119)] dX11_putInOrder_125  (Nat.le_of_ble_eq_true rfl) rfl rfl ?_
          refine sm_iload (pc' := 129) dX11_putInOrder_127 rfl rfl ?_
          refine sm_lt (fun k135 => ∀ (v134 : Int32), Sim eX11_putInOrder vU 146 [(0, qv (some th)), (1, iv a1), (2, iv v103), (3, iv v113), (4, iv v115), (7, iv v119)] [iv v134] (k135 v134)) ?_ (fun k135 hk135 => ?_)
          · intro v134
            refine sm_istore (pc' := 148) [(5, iv v134), (0, qv (some th)), (1, iv a1), (2, iv v103), (3, iv v113), (4, iv v115), (7, iv v119)] dX11_putInOrder_146  (Nat.le_of_ble_eq_true rfl) rfl rfl ?_
            refine sm_iconst (pc' := 149) (1 : Int32) dX11_putInOrder_148 (by decide) rfl ?_
            refine sm_istore (pc' := 151) [(6, iv (1 : Int32)), (5, iv v134), (0, qv (some th)), (1, iv a1), (2, iv v103), (3, iv v113), (4, iv v115), (7, iv v119)] dX11_putInOrder_149  (Nat.le_of_ble_eq_true rfl) rfl rfl ?_
            refine sm_sub [2, 3, 4, 5, 6, 1, 0, 7] rfl ?_
            exact hk123 v134 (1 : Int32)
          · skip
            refine sm_lt (fun k136 => Sim eX11_putInOrder vU 139 [(0, qv (some th)), (1, iv a1), (2, iv v103), (3, iv v113), (4, iv v115), (7, iv v119), (8, iv (v130 + v133))] [] (k136)) ?_ (fun k136 hk136 => ?_)
            · skip
              refine sm_iload (pc' := 141) dX11_putInOrder_139 rfl rfl ?_
              refine sm_goto (pc' := 146) dX11_putInOrder_141 (by decide) ?_
              refine sm_sub [0, 1, 2, 3, 4, 5] rfl ?_
              exact hk135 (v130 + v133)
            · skip
              refine sm_if_eq (pc' := 132) (pc1 := 139) dX11_putInOrder_129 (by decide) rfl (fun _ => ?_) (fun _ => ?_)
              · skip
                refine sm_sub [1, 2, 3, 4, 5, 8, 0] rfl ?_
                exact hk136
              · skip
                refine sm_iload (pc' := 134) dX11_putInOrder_132 rfl rfl ?_
                refine sm_iload (pc' := 136) dX11_putInOrder_134 rfl rfl ?_
                refine sm_icmp_ge (pc' := 139) (pc1 := 144) dX11_putInOrder_136 (by decide) rfl (fun _ => ?_) (fun _ => ?_)
                · skip
                  refine sm_iload (pc' := 146) dX11_putInOrder_144 rfl rfl ?_
                  refine sm_sub [1, 2, 3, 4, 5, 8] rfl ?_
                  exact hk135 v117
                · skip
                  refine sm_sub [1, 2, 3, 4, 5, 8, 0] rfl ?_
                  exact hk136
set_option maxRecDepth 20000 in
theorem sX11_putInOrder_L56 (th : Nat) (a1 : Int32) (v103 : Int32) (v113 : Int32) (k116 : Prg Unit) (hk116 : Sim eX11_putInOrder vU 177 [(0, qv (some th)), (1, iv a1), (2, iv v103), (3, iv v113)] [] (k116)) : ∀ (n : Nat), ∀ (v115 : Int32), Sim eX11_putInOrder vU 56 [(0, qv (some th)), (1, iv a1), (2, iv v103), (3, iv v113), (4, iv v115)] [] (pX11_putInOrder_L56 th a1 v103 v113 k116 n v115) := by
  intro n
  induction n with
  | zero =>
    intros
    exact sm_fl
  | succ n ih =>
    intro v115
    unfold pX11_putInOrder_L56
    refine sm_iload (pc' := 58) dX11_putInOrder_56 rfl rfl ?_
    refine sm_iload_n (pc' := 59) dX11_putInOrder_58 rfl rfl ?_
    refine sm_icmp_ge (pc' := 62) (pc1 := 177) dX11_putInOrder_59 (by decide) rfl (fun _ => ?_) (fun _ => ?_)
    · skip
      refine sm_sub [0, 1, 2, 3] rfl ?_
      exact hk116
    · skip
      refine sm_iconst (pc' := 63) (0 : Int32) dX11_putInOrder_62 (by decide) rfl ?_
      refine sm_istore (pc' := 65) [(5, iv (0 : Int32)), (0, qv (some th)), (1, iv a1), (2, iv v103), (3, iv v113), (4, iv v115)] dX11_putInOrder_63  (Nat.le_of_ble_eq_true rfl) rfl rfl ?_
      refine sm_iconst (pc' := 66) (0 : Int32) dX11_putInOrder_65 (by decide) rfl ?_
      refine sm_istore (pc' := 68) [(6, iv (0 : Int32)), (5, iv (0 : Int32)), (0, qv (some th)), (1, iv a1), (2, iv v103), (3, iv v113), (4, iv v115)] dX11_putInOrder_66  (Nat.le_of_ble_eq_true rfl) rfl rfl ?_
      refine sm_iconst (pc' := 69) (0 : Int32) dX11_putInOrder_68 (by decide) rfl ?_
      refine sm_istore (pc' := 71) [(7, iv (0 : Int32)), (6, iv (0 : Int32)), (5, iv (0 : Int32)), (0, qv (some th)), (1, iv a1), (2, iv v103), (3, iv v113), (4, iv v115)] dX11_putInOrder_69  (Nat.le_of_ble_eq_true rfl) rfl rfl ?_
      refine sm_sub [3, 4, 5, 6, 7, 2, 1, 0] rfl ?_
      refine sX11_putInOrder_L71 th a1 v103 v113 v115 _ ?_ FL (0 : Int32) (0 : Int32) (0 : Int32)
      · intro v137
        refine sm_aload_n (pc' := 158) dX11_putInOrder_157 rfl rfl ?_
        refine sm_getF (pc' := 161) fk_X11_118 yr_11_43 dX11_putInOrder_158 rfl (fun v138 => ?_)
        refine sm_bipush (pc' := 163) (12 : Int32) dX11_putInOrder_161 (by decide) rfl ?_
        refine sm_iload_n (pc' := 164) dX11_putInOrder_163 rfl rfl ?_
        refine sm_imul (pc' := 165) dX11_putInOrder_164 rfl ?_
        refine sm_iload (pc' := 167) dX11_putInOrder_165 rfl rfl ?_
        refine sm_iadd (pc' := 168) dX11_putInOrder_167 rfl ?_
        refine sm_iload (pc' := 170) dX11_putInOrder_168 rfl rfl ?_
        rcases v138 with _ | a139
        · exact sm_unN
        refine sm_unS ?_
        refine sm_iastore (pc' := 171) dX11_putInOrder_170 rfl ?_
        refine sm_iinc (pc' := 174) (v115 + (1 : Int32)) [(4, iv (v115 + (1 : Int32))), (0, qv (some th)), (1, iv a1), (2, iv v103), (3, iv v113), (5, iv v137)] dX11_putInOrder_171 rfl rfl (Nat.le_of_ble_eq_true rfl) rfl rfl ?_
        refine sm_goto (pc' := 56) dX11_putInOrder_174 (by decide) ?_
        refine sm_sub [1, 2, 3, 4, 0] rfl ?_
        exact ih (v115 + (1 : Int32))
set_option maxRecDepth 20000 in
theorem sX11_putInOrder_L46 (th : Nat) (a1 : Int32) (v103 : Int32) (k114 : Prg Unit) (hk114 : Sim eX11_putInOrder vU 183 [(0, qv (some th)), (1, iv a1), (2, iv v103)] [] (k114)) : ∀ (n : Nat), ∀ (v113 : Int32), Sim eX11_putInOrder vU 46 [(0, qv (some th)), (1, iv a1), (2, iv v103), (3, iv v113)] [] (pX11_putInOrder_L46 th a1 v103 k114 n v113) := by
  intro n
  induction n with
  | zero =>
    intros
    exact sm_fl
  | succ n ih =>
    intro v113
    unfold pX11_putInOrder_L46
    refine sm_iload_n (pc' := 47) dX11_putInOrder_46 rfl rfl ?_
    refine sm_iconst (pc' := 48) (1 : Int32) dX11_putInOrder_47 (by decide) rfl ?_
    refine sm_iload_n (pc' := 49) dX11_putInOrder_48 rfl rfl ?_
    refine sm_ishl (pc' := 50) dX11_putInOrder_49 rfl ?_
    refine sm_icmp_ge (pc' := 53) (pc1 := 183) dX11_putInOrder_50 (by decide) rfl (fun _ => ?_) (fun _ => ?_)
    · skip
      refine sm_sub [0, 1, 2] rfl ?_
      exact hk114
    · skip
      refine sm_iconst (pc' := 54) (0 : Int32) dX11_putInOrder_53 (by decide) rfl ?_
      refine sm_istore (pc' := 56) [(4, iv (0 : Int32)), (0, qv (some th)), (1, iv a1), (2, iv v103), (3, iv v113)] dX11_putInOrder_54  (Nat.le_of_ble_eq_true rfl) rfl rfl ?_
      refine sm_sub [1, 2, 3, 4, 0] rfl ?_
      refine sX11_putInOrder_L56 th a1 v103 v113 _ ?_ FL (0 : Int32)
      · skip
        refine sm_iinc (pc' := 180) (v113 + (1 : Int32)) [(3, iv (v113 + (1 : Int32))), (0, qv (some th)), (1, iv a1), (2, iv v103)] dX11_putInOrder_177 rfl rfl (Nat.le_of_ble_eq_true rfl) rfl rfl ?_
        refine sm_goto (pc' := 46) dX11_putInOrder_180 (by decide) ?_
        refine sm_sub [1, 2, 3, 0] rfl ?_
        exact ih (v113 + (1 : Int32))
set_option maxRecDepth 20000 in
theorem sX11_putInOrder_L212 (th : Nat) (a1 : Int32) (v103 : Int32) (v141 : Int32) (v142 : Int32) (v143 : Int32) (k148 : Int32 → Int32 → Prg Unit) (hk148 : ∀ (q6 : Int32) (q7 : Int32), Sim eX11_putInOrder vU 307 [(0, qv (some th)), (1, iv a1), (2, iv v103), (3, iv v141), (5, iv v143), (6, iv q6), (7, iv q7)] [] (k148 q6 q7)) : ∀ (n : Nat), ∀ (v145 : Int32) (v146 : Int32) (v147 : Int32), Sim eX11_putInOrder vU 212 [(0, qv (some th)), (1, iv a1), (2, iv v103), (3, iv v141), (4, iv v142), (5, iv v143), (6, iv v145), (7, iv v146), (8, iv v147)] [] (pX11_putInOrder_L212 th a1 v103 v141 v142 v143 k148 n v145 v146 v147) := by
  intro n
  induction n with
  | zero =>
    intros
    exact sm_fl
  | succ n ih =>
    intro v145 v146 v147
    unfold pX11_putInOrder_L212
    refine sm_iload (pc' := 214) dX11_putInOrder_212 rfl rfl ?_
    refine sm_iload_n (pc' := 215) dX11_putInOrder_214 rfl rfl ?_
    refine sm_icmp_ge (pc' := 218) (pc1 := 307) dX11_putInOrder_215 (by decide) rfl (fun _ => ?_) (fun _ => ?_)
    · skip
      refine sm_sub [0, 1, 2, 3, 5, 6, 7] rfl ?_
      exact hk148 v145 v146
    · skip
      refine sm_iload_n (pc' := 219) dX11_putInOrder_218 rfl rfl ?_
      refine sm_iload (pc' := 221) dX11_putInOrder_219 rfl rfl ?_
      refine sm_ishr (pc' := 222) dX11_putInOrder_221 rfl ?_
      refine sm_iconst (pc' := 223) (1 : Int32) dX11_putInOrder_222 (by decide) rfl ?_
      refine sm_iand (pc' := 224) dX11_putInOrder_223 rfl ?_
      refine sm_iconst (pc' := 225) (1 : Int32) dX11_putInOrder_224 (by decide) rfl ?_
      refine sm_lt (fun k151 => ∀ (v149 : Int32) (v150 : Int32), Sim eX11_putInOrder vU 301 [(0, qv (some th)), (1, iv a1), (2, iv v103), (3, iv v141), (4, iv v142), (5, iv v143), (6, iv v149), (7, iv v150), (8, iv v147)] [] (k151 v149 v150)) ?_ (fun k151 hk151 => ?_)
      · intro v149 v150
        refine sm_iinc (pc' := 304) (v147 + (1 : Int32)) [(8, iv (v147 + (1 : Int32))), (0, qv (some th)), (1, iv a1), (2, iv v103), (3, iv v141), (4, iv v142), (5, iv v143), (6, iv v149), (7, iv v150)] dX11_putInOrder_301 rfl rfl (Nat.le_of_ble_eq_true rfl) rfl rfl ?_
        refine sm_goto (pc' := 212) dX11_putInOrder_304 (by decide) ?_
        refine sm_sub [1, 2, 3, 4, 5, 6, 7, 8, 0] rfl ?_
        exact ih v149 v150 (v147 + (1 : Int32))
      · skip
        refine sm_icmp_ne (pc' := 228) (pc1 := 301) dX11_putInOrder_225 (by decide) rfl (fun _ => ?_) (fun _ => ?_)
        · skip
          exact hk151 v145 v146
        · skip
          refine sm_iload (pc' := 230) dX11_putInOrder_228 rfl rfl ?_
          refine sm_ldc (pc' := 232) (-1000000 : Int32) w_621 dX11_putInOrder_230 rfl ?_
          refine sm_lt (fun k153 => ∀ (v152 : Int32), Sim eX11_putInOrder vU 257 [(0, qv (some th)), (1, iv a1), (2, iv v103), (3, iv v141), (4, iv v142), (5, iv v143), (6, iv v145), (7, iv v146), (8, iv v147)] [iv v152] (k153 v152)) ?_ (fun k153 hk153 => ?_)
          · intro v152
            refine sm_aload_n (pc' := 258) dX11_putInOrder_257 rfl rfl ?_
            refine sm_getF (pc' := 261) fk_X11_118 yr_11_43 dX11_putInOrder_258 rfl (fun v154 => ?_)
            refine sm_bipush (pc' := 263) (12 : Int32) dX11_putInOrder_261 (by decide) rfl ?_
            refine sm_iload_n (pc' := 264) dX11_putInOrder_263 rfl rfl ?_
            refine sm_iconst (pc' := 265) (1 : Int32) dX11_putInOrder_264 (by decide) rfl ?_
            refine sm_iload (pc' := 267) dX11_putInOrder_265 rfl rfl ?_
            refine sm_ishl (pc' := 268) dX11_putInOrder_267 rfl ?_
            refine sm_iconst (pc' := 269) (-1 : Int32) dX11_putInOrder_268 (by decide) rfl ?_
            refine sm_ixor (pc' := 270) dX11_putInOrder_269 rfl ?_
            refine sm_iand (pc' := 271) dX11_putInOrder_270 rfl ?_
            refine sm_imul (pc' := 272) dX11_putInOrder_271 rfl ?_
            refine sm_iload (pc' := 274) dX11_putInOrder_272 rfl rfl ?_
            refine sm_iadd (pc' := 275) dX11_putInOrder_274 rfl ?_
            rcases v154 with _ | a155
            · exact sm_unN
            refine sm_unS ?_
            refine sm_iaload (pc' := 276) dX11_putInOrder_275 rfl (fun v156 => ?_)
            refine sm_iadd (pc' := 277) dX11_putInOrder_276 rfl ?_
            refine sm_istore (pc' := 279) [(9, iv (v152 + v156)), (0, qv (some th)), (1, iv a1), (2, iv v103), (3, iv v141), (4, iv v142), (5, iv v143), (6, iv v145), (7, iv v146), (8, iv v147)] dX11_putInOrder_277  (Nat.le_of_ble_eq_true rfl) rfl rfl ?_
            refine sm_iload (pc' := 281) dX11_putInOrder_279 rfl rfl ?_
            refine sm_ldc (pc' := 283) (-1000000 : Int32) w_621 dX11_putInOrder_281 rfl ?_
            refine sm_lt (fun k157 => Sim eX11_putInOrder vU 293 [(0, qv (some th)), (1, iv a1), (2, iv v103), (3, iv v141), (4, iv v142), (5, iv v143), (8, iv v147), (9, iv (v152 + v156))] [] (k157)) ?_ (fun k157 hk157 => ?_)
            · skip
              refine sm_iload (pc' := 295) dX11_putInOrder_293 rfl rfl ?_
              refine sm_istore (pc' := 297) [(6, iv v147), (0, qv (some th)), (1, iv a1), (2, iv v103), (3, iv v141), (4, iv v142), (5, iv v143), (8, iv v147), (9, iv (v152 + v156))] dX11_putInOrder_295  (Nat.le_of_ble_eq_true rfl) rfl rfl ?_
              refine sm_iload (pc' := 299) dX11_putInOrder_297 rfl rfl ?_
              refine sm_istore (pc' := 301) [(7, iv (v152 + v156)), (6, iv v147), (0, qv (some th)), (1, iv a1), (2, iv v103), (3, iv v141), (4, iv v142), (5, iv v143), (8, iv v147), (9, iv (v152 + v156))] dX11_putInOrder_299  (Nat.le_of_ble_eq_true rfl) rfl rfl ?_
              refine sm_sub [2, 3, 4, 5, 6, 7, 1, 0, 8] rfl ?_
              exact hk151 v147 (v152 + v156)
            · skip
              refine sm_icmp_eq (pc' := 286) (pc1 := 293) dX11_putInOrder_283 (by decide) rfl (fun _ => ?_) (fun _ => ?_)
              · skip
                refine sm_sub [1, 2, 3, 4, 5, 6, 9, 0] rfl ?_
                exact hk157
              · skip
                refine sm_iload (pc' := 288) dX11_putInOrder_286 rfl rfl ?_
                refine sm_iload (pc' := 290) dX11_putInOrder_288 rfl rfl ?_
                refine sm_icmp_ge (pc' := 293) (pc1 := 301) dX11_putInOrder_290 (by decide) rfl (fun _ => ?_) (fun _ => ?_)
                · skip
                  refine sm_sub [1, 2, 3, 4, 5, 6, 7, 8, 9] rfl ?_
                  exact hk151 v145 v146
                · skip
                  refine sm_sub [1, 2, 3, 4, 5, 6, 9, 0] rfl ?_
                  exact hk157
          · skip
            refine sm_icmp_ne (pc' := 235) (pc1 := 239) dX11_putInOrder_232 (by decide) rfl (fun _ => ?_) (fun _ => ?_)
            · skip
              refine sm_aload_n (pc' := 240) dX11_putInOrder_239 rfl rfl ?_
              refine sm_aload_n (pc' := 241) dX11_putInOrder_240 rfl rfl ?_
              refine sm_getF (pc' := 244) fk_X11_121 yr_11_44 dX11_putInOrder_241 rfl (fun v158 => ?_)
              refine sm_iload (pc' := 246) dX11_putInOrder_244 rfl rfl ?_
              rcases v158 with _ | a159
              · exact sm_unN
              refine sm_unS ?_
              refine sm_iaload (pc' := 247) dX11_putInOrder_246 rfl (fun v160 => ?_)
              refine sm_aload_n (pc' := 248) dX11_putInOrder_247 rfl rfl ?_
              refine sm_getF (pc' := 251) fk_X11_121 yr_11_44 dX11_putInOrder_248 rfl (fun v161 => ?_)
              refine sm_iload (pc' := 253) dX11_putInOrder_251 rfl rfl ?_
              rcases v161 with _ | a162
              · exact sm_unN
              refine sm_unS ?_
              refine sm_iaload (pc' := 254) dX11_putInOrder_253 rfl (fun v163 => ?_)
              refine sm_calli (pc' := 257) (sa := [iv v163, iv v160, qv (some th)]) (st := []) (iv_X11_262 th v160 v163) (Nat.le_of_ble_eq_true rfl) dX11_putInOrder_254 rfl (Nat.le_of_ble_eq_true rfl) (fun v164 => ?_)
              exact hk153 v164
            · skip
              refine sm_iconst (pc' := 236) (0 : Int32) dX11_putInOrder_235 (by decide) rfl ?_
              refine sm_goto (pc' := 257) dX11_putInOrder_236 (by decide) ?_
              exact hk153 (0 : Int32)
set_option maxRecDepth 20000 in
theorem sX11_putInOrder_L196 (th : Nat) (a1 : Int32) (v103 : Int32) (k144 : Prg Unit) (hk144 : Sim eX11_putInOrder vU 367 [] [] (k144)) : ∀ (n : Nat), ∀ (v141 : Int32) (v142 : Int32) (v143 : Int32), Sim eX11_putInOrder vU 196 [(0, qv (some th)), (1, iv a1), (2, iv v103), (3, iv v141), (4, iv v142), (5, iv v143)] [] (pX11_putInOrder_L196 th a1 v103 k144 n v141 v142 v143) := by
  intro n
  induction n with
  | zero =>
    intros
    exact sm_fl
  | succ n ih =>
    intro v141 v142 v143
    unfold pX11_putInOrder_L196
    refine sm_iload (pc' := 198) dX11_putInOrder_196 rfl rfl ?_
    refine sm_iload_n (pc' := 199) dX11_putInOrder_198 rfl rfl ?_
    refine sm_icmp_ge (pc' := 202) (pc1 := 367) dX11_putInOrder_199 (by decide) rfl (fun _ => ?_) (fun _ => ?_)
    · skip
      refine sm_sub [] rfl ?_
      exact hk144
    · skip
      refine sm_ldc (pc' := 204) (-1000000 : Int32) w_621 dX11_putInOrder_202 rfl ?_
      refine sm_istore (pc' := 206) [(6, iv (-1000000 : Int32)), (0, qv (some th)), (1, iv a1), (2, iv v103), (3, iv v141), (4, iv v142), (5, iv v143)] dX11_putInOrder_204  (Nat.le_of_ble_eq_true rfl) rfl rfl ?_
      refine sm_iconst (pc' := 207) (0 : Int32) dX11_putInOrder_206 (by decide) rfl ?_
      refine sm_istore (pc' := 209) [(7, iv (0 : Int32)), (6, iv (-1000000 : Int32)), (0, qv (some th)), (1, iv a1), (2, iv v103), (3, iv v141), (4, iv v142), (5, iv v143)] dX11_putInOrder_207  (Nat.le_of_ble_eq_true rfl) rfl rfl ?_
      refine sm_iconst (pc' := 210) (0 : Int32) dX11_putInOrder_209 (by decide) rfl ?_
      refine sm_istore (pc' := 212) [(8, iv (0 : Int32)), (7, iv (0 : Int32)), (6, iv (-1000000 : Int32)), (0, qv (some th)), (1, iv a1), (2, iv v103), (3, iv v141), (4, iv v142), (5, iv v143)] dX11_putInOrder_210  (Nat.le_of_ble_eq_true rfl) rfl rfl ?_
      refine sm_sub [3, 4, 5, 6, 7, 8, 2, 1, 0] rfl ?_
      refine sX11_putInOrder_L212 th a1 v103 v141 v142 v143 _ ?_ FL (-1000000 : Int32) (0 : Int32) (0 : Int32)
      · intro v165 v166
        refine sm_aload_n (pc' := 308) dX11_putInOrder_307 rfl rfl ?_
        refine sm_getF (pc' := 311) fk_X11_114 yr_11_42 dX11_putInOrder_308 rfl (fun v167 => ?_)
        refine sm_iload_n (pc' := 312) dX11_putInOrder_311 rfl rfl ?_
        refine sm_iload (pc' := 314) dX11_putInOrder_312 rfl rfl ?_
        refine sm_lt (fun k169 => ∀ (v168 : Int32), Sim eX11_putInOrder vU 328 [(0, qv (some th)), (1, iv a1), (2, iv v103), (3, iv v141), (5, iv v143), (6, iv v165)] [iv v168, iv a1, qv v167] (k169 v168)) ?_ (fun k169 hk169 => ?_)
        · intro v168
          rcases v167 with _ | a170
          · exact sm_unN
          refine sm_unS ?_
          refine sm_iastore (pc' := 329) dX11_putInOrder_328 rfl ?_
          refine sm_aload_n (pc' := 330) dX11_putInOrder_329 rfl rfl ?_
          refine sm_getF (pc' := 333) fk_X11_108 yr_11_40 dX11_putInOrder_330 rfl (fun v171 => ?_)
          refine sm_bipush (pc' := 335) (12 : Int32) dX11_putInOrder_333 (by decide) rfl ?_
          refine sm_iload_n (pc' := 336) dX11_putInOrder_335 rfl rfl ?_
          refine sm_imul (pc' := 337) dX11_putInOrder_336 rfl ?_
          refine sm_iload (pc' := 339) dX11_putInOrder_337 rfl rfl ?_
          refine sm_iadd (pc' := 340) dX11_putInOrder_339 rfl ?_
          refine sm_aload_n (pc' := 341) dX11_putInOrder_340 rfl rfl ?_
          refine sm_getF (pc' := 344) fk_X11_121 yr_11_44 dX11_putInOrder_341 rfl (fun v172 => ?_)
          refine sm_iload (pc' := 346) dX11_putInOrder_344 rfl rfl ?_
          rcases v172 with _ | a173
          · exact sm_unN
          refine sm_unS ?_
          refine sm_iaload (pc' := 347) dX11_putInOrder_346 rfl (fun v174 => ?_)
          rcases v171 with _ | a175
          · exact sm_unN
          refine sm_unS ?_
          refine sm_iastore (pc' := 348) dX11_putInOrder_347 rfl ?_
          refine sm_iload_n (pc' := 349) dX11_putInOrder_348 rfl rfl ?_
          refine sm_iconst (pc' := 350) (1 : Int32) dX11_putInOrder_349 (by decide) rfl ?_
          refine sm_iload (pc' := 352) dX11_putInOrder_350 rfl rfl ?_
          refine sm_ishl (pc' := 353) dX11_putInOrder_352 rfl ?_
          refine sm_iconst (pc' := 354) (-1 : Int32) dX11_putInOrder_353 (by decide) rfl ?_
          refine sm_ixor (pc' := 355) dX11_putInOrder_354 rfl ?_
          refine sm_iand (pc' := 356) dX11_putInOrder_355 rfl ?_
          refine sm_ltI ?_
          generalize (v141 &&& (((1 : Int32) <<< (v165 &&& 31)) ^^^ (-1 : Int32))) = v176
          refine sm_istore_n (pc' := 357) [(3, iv v176), (0, qv (some th)), (1, iv a1), (2, iv v103), (5, iv v143), (6, iv v165)] dX11_putInOrder_356 rfl (Nat.le_of_ble_eq_true rfl) rfl rfl ?_
          refine sm_iload (pc' := 359) dX11_putInOrder_357 rfl rfl ?_
          refine sm_istore (pc' := 361) [(4, iv v165), (3, iv v176), (0, qv (some th)), (1, iv a1), (2, iv v103), (5, iv v143), (6, iv v165)] dX11_putInOrder_359  (Nat.le_of_ble_eq_true rfl) rfl rfl ?_
          refine sm_iinc (pc' := 364) (v143 + (1 : Int32)) [(5, iv (v143 + (1 : Int32))), (4, iv v165), (3, iv v176), (0, qv (some th)), (1, iv a1), (2, iv v103), (6, iv v165)] dX11_putInOrder_361 rfl rfl (Nat.le_of_ble_eq_true rfl) rfl rfl ?_
          refine sm_goto (pc' := 196) dX11_putInOrder_364 (by decide) ?_
          refine sm_sub [3, 4, 5, 2, 1, 0] rfl ?_
          exact ih v176 v165 (v143 + (1 : Int32))
        · skip
          refine sm_if_ne (pc' := 317) (pc1 := 322) dX11_putInOrder_314 (by decide) rfl (fun _ => ?_) (fun _ => ?_)
          · skip
            refine sm_aload_n (pc' := 323) dX11_putInOrder_322 rfl rfl ?_
            refine sm_getF (pc' := 326) fk_X11_114 yr_11_42 dX11_putInOrder_323 rfl (fun v177 => ?_)
            refine sm_iload_n (pc' := 327) dX11_putInOrder_326 rfl rfl ?_
            rcases v177 with _ | a178
            · exact sm_unN
            refine sm_unS ?_
            refine sm_iaload (pc' := 328) dX11_putInOrder_327 rfl (fun v179 => ?_)
            refine sm_sub [0, 1, 2, 3, 4, 5] rfl ?_
            exact hk169 v179
          · skip
            refine sm_iload (pc' := 319) dX11_putInOrder_317 rfl rfl ?_
            refine sm_goto (pc' := 328) dX11_putInOrder_319 (by decide) ?_
            refine sm_sub [0, 1, 2, 3, 4, 5] rfl ?_
            exact hk169 v166
set_option maxRecDepth 20000 in
theorem sX11_putInOrder (th : Nat) (a1 : Int32) : Sim eX11_putInOrder vU 0 [(0, qv (some th)), (1, iv a1)] [] (pX11_putInOrder th a1) := by
  unfold pX11_putInOrder
  refine sm_aload_n (pc' := 1) dX11_putInOrder_0 rfl rfl ?_
  refine sm_getF (pc' := 4) fk_X11_111 yr_11_41 dX11_putInOrder_1 rfl (fun v101 => ?_)
  refine sm_iload_n (pc' := 5) dX11_putInOrder_4 rfl rfl ?_
  rcases v101 with _ | a102
  · exact sm_unN
  refine sm_unS ?_
  refine sm_iaload (pc' := 6) dX11_putInOrder_5 rfl (fun v103 => ?_)
  refine sm_istore_n (pc' := 7) [(2, iv v103), (0, qv (some th)), (1, iv a1)] dX11_putInOrder_6 rfl (Nat.le_of_ble_eq_true rfl) rfl rfl ?_
  refine sm_iconst (pc' := 8) (0 : Int32) dX11_putInOrder_7 (by decide) rfl ?_
  refine sm_istore_n (pc' := 9) [(3, iv (0 : Int32)), (2, iv v103), (0, qv (some th)), (1, iv a1)] dX11_putInOrder_8 rfl (Nat.le_of_ble_eq_true rfl) rfl rfl ?_
  refine sm_sub [2, 3, 1, 0] rfl ?_
  refine sX11_putInOrder_L9 th a1 v103 _ ?_ FL (0 : Int32)
  · skip
    refine sm_aload_n (pc' := 38) dX11_putInOrder_37 rfl rfl ?_
    refine sm_getF (pc' := 41) fk_X11_114 yr_11_42 dX11_putInOrder_38 rfl (fun v111 => ?_)
    refine sm_iload_n (pc' := 42) dX11_putInOrder_41 rfl rfl ?_
    refine sm_iconst (pc' := 43) (0 : Int32) dX11_putInOrder_42 (by decide) rfl ?_
    rcases v111 with _ | a112
    · exact sm_unN
    refine sm_unS ?_
    refine sm_iastore (pc' := 44) dX11_putInOrder_43 rfl ?_
    refine sm_iconst (pc' := 45) (0 : Int32) dX11_putInOrder_44 (by decide) rfl ?_
    refine sm_istore_n (pc' := 46) [(3, iv (0 : Int32)), (0, qv (some th)), (1, iv a1), (2, iv v103)] dX11_putInOrder_45 rfl (Nat.le_of_ble_eq_true rfl) rfl rfl ?_
    refine sm_sub [1, 2, 3, 0] rfl ?_
    refine sX11_putInOrder_L46 th a1 v103 _ ?_ FL (0 : Int32)
    · skip
      refine sm_iconst (pc' := 184) (1 : Int32) dX11_putInOrder_183 (by decide) rfl ?_
      refine sm_iload_n (pc' := 185) dX11_putInOrder_184 rfl rfl ?_
      refine sm_ishl (pc' := 186) dX11_putInOrder_185 rfl ?_
      refine sm_iconst (pc' := 187) (1 : Int32) dX11_putInOrder_186 (by decide) rfl ?_
      refine sm_isub (pc' := 188) dX11_putInOrder_187 rfl ?_
      refine sm_ltI ?_
      generalize (((1 : Int32) <<< (v103 &&& 31)) - (1 : Int32)) = v140
      refine sm_istore_n (pc' := 189) [(3, iv v140), (0, qv (some th)), (1, iv a1), (2, iv v103)] dX11_putInOrder_188 rfl (Nat.le_of_ble_eq_true rfl) rfl rfl ?_
      refine sm_ldc (pc' := 191) (-1000000 : Int32) w_621 dX11_putInOrder_189 rfl ?_
      refine sm_istore (pc' := 193) [(4, iv (-1000000 : Int32)), (3, iv v140), (0, qv (some th)), (1, iv a1), (2, iv v103)] dX11_putInOrder_191  (Nat.le_of_ble_eq_true rfl) rfl rfl ?_
      refine sm_iconst (pc' := 194) (0 : Int32) dX11_putInOrder_193 (by decide) rfl ?_
      refine sm_istore (pc' := 196) [(5, iv (0 : Int32)), (4, iv (-1000000 : Int32)), (3, iv v140), (0, qv (some th)), (1, iv a1), (2, iv v103)] dX11_putInOrder_194  (Nat.le_of_ble_eq_true rfl) rfl rfl ?_
      refine sm_sub [3, 4, 5, 2, 1, 0] rfl ?_
      refine sX11_putInOrder_L196 th a1 v103 _ ?_ FL v140 (-1000000 : Int32) (0 : Int32)
      · skip
        exact sm_return rfl dX11_putInOrder_367
theorem kX11_putInOrder (th : Nat) (a1 : Int32) : Callee 1 yX11_putInOrder cX11_putInOrder 10 none [qv (some th), iv a1] vU (pX11_putInOrder th a1) := callee_ofS [(0, qv (some th)), (1, iv a1)] (by decide +kernel) (Nat.le_of_ble_eq_true rfl) rfl (sX11_putInOrder th a1)
