/-! HollowPressModel.count(I)I -/
abbrev eX11_count : Env0 := (RX11, "count", cX11_count, 4, (some .int), 1)
def pX11_count_L54 (th : Nat) (k103 : Int32 → Prg Int32) : Nat → Int32 → Int32 → Prg Int32
  | 0, _, _ => fl
  | n + 1, v101, v102 =>
    (if (8 : Int32) ≤ v102 then k103 v101
    else gF 11 th 2 fun v104 =>
    un v104 fun a105 =>
    ldI a105 v102 fun v106 =>
    (lt (fun (v107 : Int32) => pX11_count_L54 th k103 n (v101 + v107) (v102 + (1 : Int32)) : Int32 → Prg Int32) fun k108 =>
    (if v106 < 0 then k108 (0 : Int32)
    else k108 (1 : Int32))))
def pX11_count_L87 (th : Nat) (a1 : Int32) (k112 : Int32 → Prg Int32) : Nat → Int32 → Int32 → Prg Int32
  | 0, _, _ => fl
  | n + 1, v110, v111 =>
    (if (10 : Int32) ≤ v111 then k112 v110
    else gF 11 th 5 fun v113 =>
    un v113 fun a114 =>
    ldI a114 v111 fun v115 =>
    cl (pX11_isOf v115 (a1 - (1 : Int32))) fun v116 =>
    (lt (fun (v117 : Int32) => pX11_count_L87 th a1 k112 n (v110 + v117) (v111 + (1 : Int32)) : Int32 → Prg Int32) fun k118 =>
    (if v116 = 0 then k118 (0 : Int32)
    else k118 (1 : Int32))))
def pX11_count (th : Nat) (a1 : Int32) : Prg Int32 :=
    pI 11 th 0 (0 : Int32) (
    (if a1 = (0 : Int32) then pX11_count_L54 th (fun (v109 : Int32) => rt v109) FL (0 : Int32) (0 : Int32)
    else (if a1 = (1 : Int32) then pX11_count_L87 th a1 (fun (v119 : Int32) => rt v119) FL (0 : Int32) (0 : Int32)
    else (if a1 = (2 : Int32) then pX11_count_L87 th a1 (fun (v129 : Int32) => rt v129) FL (0 : Int32) (0 : Int32)
    else (if a1 = (3 : Int32) then pX11_count_L87 th a1 (fun (v139 : Int32) => rt v139) FL (0 : Int32) (0 : Int32)
    else (if a1 = (4 : Int32) then gI 11 th 24 fun v140 =>
    rt v140
    else (if a1 = (5 : Int32) then gI 11 th 33 fun v141 =>
    rt v141
    else (if a1 = (6 : Int32) then gI 11 th 35 fun v142 =>
    rt v142
    else rt (-1000001 : Int32)))))))))
set_option maxRecDepth 20000 in
theorem sX11_count_L54 (th : Nat) (k103 : Int32 → Prg Int32) (hk103 : ∀ (q2 : Int32), Sim eX11_count vI 83 [(2, iv q2)] [] (k103 q2)) : ∀ (n : Nat), ∀ (v101 : Int32) (v102 : Int32), Sim eX11_count vI 54 [(0, qv (some th)), (2, iv v101), (3, iv v102)] [] (pX11_count_L54 th k103 n v101 v102) := by
  intro n
  induction n with
  | zero =>
    intros
    exact sm_fl
  | succ n ih =>
    intro v101 v102
    unfold pX11_count_L54
    refine sm_iload_n (pc' := 55) dX11_count_54 rfl rfl ?_
    refine sm_bipush (pc' := 57) (8 : Int32) dX11_count_55 (by decide) rfl ?_
    refine sm_icmp_ge (pc' := 60) (pc1 := 83) dX11_count_57 (by decide) rfl (fun _ => ?_) (fun _ => ?_)
    · skip
      refine sm_sub [1] rfl ?_
      exact hk103 v101
    · skip
      refine sm_iload_n (pc' := 61) dX11_count_60 rfl rfl ?_
      refine sm_aload_n (pc' := 62) dX11_count_61 rfl rfl ?_
      refine sm_getF (pc' := 65) fk_X11_7 yr_11_2 dX11_count_62 rfl (fun v104 => ?_)
      refine sm_iload_n (pc' := 66) dX11_count_65 rfl rfl ?_
      rcases v104 with _ | a105
      · exact sm_unN
      refine sm_unS ?_
      refine sm_iaload (pc' := 67) dX11_count_66 rfl (fun v106 => ?_)
      refine sm_lt (fun k108 => ∀ (v107 : Int32), Sim eX11_count vI 75 [(0, qv (some th)), (3, iv v102)] [iv v107, iv v101] (k108 v107)) ?_ (fun k108 hk108 => ?_)
      · intro v107
        refine sm_iadd (pc' := 76) dX11_count_75 rfl ?_
        refine sm_istore_n (pc' := 77) [(2, iv (v101 + v107)), (0, qv (some th)), (3, iv v102)] dX11_count_76 rfl (Nat.le_of_ble_eq_true rfl) rfl rfl ?_
        refine sm_iinc (pc' := 80) (v102 + (1 : Int32)) [(3, iv (v102 + (1 : Int32))), (2, iv (v101 + v107)), (0, qv (some th))] dX11_count_77 rfl rfl (Nat.le_of_ble_eq_true rfl) rfl rfl ?_
        refine sm_goto (pc' := 54) dX11_count_80 (by decide) ?_
        refine sm_sub [2, 1, 0] rfl ?_
        exact ih (v101 + v107) (v102 + (1 : Int32))
      · skip
        refine sm_if_lt (pc' := 70) (pc1 := 74) dX11_count_67 (by decide) rfl (fun _ => ?_) (fun _ => ?_)
        · skip
          refine sm_iconst (pc' := 75) (0 : Int32) dX11_count_74 (by decide) rfl ?_
          refine sm_sub [0, 2] rfl ?_
          exact hk108 (0 : Int32)
        · skip
          refine sm_iconst (pc' := 71) (1 : Int32) dX11_count_70 (by decide) rfl ?_
          refine sm_goto (pc' := 75) dX11_count_71 (by decide) ?_
          refine sm_sub [0, 2] rfl ?_
          exact hk108 (1 : Int32)
set_option maxRecDepth 20000 in
theorem sX11_count_L87 (th : Nat) (a1 : Int32) (k112 : Int32 → Prg Int32) (hk112 : ∀ (q2 : Int32), Sim eX11_count vI 122 [(2, iv q2)] [] (k112 q2)) : ∀ (n : Nat), ∀ (v110 : Int32) (v111 : Int32), Sim eX11_count vI 87 [(0, qv (some th)), (1, iv a1), (2, iv v110), (3, iv v111)] [] (pX11_count_L87 th a1 k112 n v110 v111) := by
  intro n
  induction n with
  | zero =>
    intros
    exact sm_fl
  | succ n ih =>
    intro v110 v111
    unfold pX11_count_L87
    refine sm_iload_n (pc' := 88) dX11_count_87 rfl rfl ?_
    refine sm_bipush (pc' := 90) (10 : Int32) dX11_count_88 (by decide) rfl ?_
    refine sm_icmp_ge (pc' := 93) (pc1 := 122) dX11_count_90 (by decide) rfl (fun _ => ?_) (fun _ => ?_)
    · skip
      refine sm_sub [2] rfl ?_
      exact hk112 v110
    · skip
      refine sm_iload_n (pc' := 94) dX11_count_93 rfl rfl ?_
      refine sm_aload_n (pc' := 95) dX11_count_94 rfl rfl ?_
      refine sm_getF (pc' := 98) fk_X11_20 yr_11_5 dX11_count_95 rfl (fun v113 => ?_)
      refine sm_iload_n (pc' := 99) dX11_count_98 rfl rfl ?_
      rcases v113 with _ | a114
      · exact sm_unN
      refine sm_unS ?_
      refine sm_iaload (pc' := 100) dX11_count_99 rfl (fun v115 => ?_)
      refine sm_iload_n (pc' := 101) dX11_count_100 rfl rfl ?_
      refine sm_iconst (pc' := 102) (1 : Int32) dX11_count_101 (by decide) rfl ?_
      refine sm_isub (pc' := 103) dX11_count_102 rfl ?_
      refine sm_calli (pc' := 106) (sa := [iv (a1 - (1 : Int32)), iv v115]) (st := [iv v110]) (iv_X11_169 v115 (a1 - (1 : Int32))) (Nat.le_of_ble_eq_true rfl) dX11_count_103 rfl (Nat.le_of_ble_eq_true rfl) (fun v116 => ?_)
      refine sm_lt (fun k118 => ∀ (v117 : Int32), Sim eX11_count vI 114 [(0, qv (some th)), (1, iv a1), (3, iv v111)] [iv v117, iv v110] (k118 v117)) ?_ (fun k118 hk118 => ?_)
      · intro v117
        refine sm_iadd (pc' := 115) dX11_count_114 rfl ?_
        refine sm_istore_n (pc' := 116) [(2, iv (v110 + v117)), (0, qv (some th)), (1, iv a1), (3, iv v111)] dX11_count_115 rfl (Nat.le_of_ble_eq_true rfl) rfl rfl ?_
        refine sm_iinc (pc' := 119) (v111 + (1 : Int32)) [(3, iv (v111 + (1 : Int32))), (2, iv (v110 + v117)), (0, qv (some th)), (1, iv a1)] dX11_count_116 rfl rfl (Nat.le_of_ble_eq_true rfl) rfl rfl ?_
        refine sm_goto (pc' := 87) dX11_count_119 (by decide) ?_
        refine sm_sub [2, 3, 1, 0] rfl ?_
        exact ih (v110 + v117) (v111 + (1 : Int32))
      · skip
        refine sm_if_eq (pc' := 109) (pc1 := 113) dX11_count_106 (by decide) rfl (fun _ => ?_) (fun _ => ?_)
        · skip
          refine sm_iconst (pc' := 114) (0 : Int32) dX11_count_113 (by decide) rfl ?_
          refine sm_sub [0, 1, 3] rfl ?_
          exact hk118 (0 : Int32)
        · skip
          refine sm_iconst (pc' := 110) (1 : Int32) dX11_count_109 (by decide) rfl ?_
          refine sm_goto (pc' := 114) dX11_count_110 (by decide) ?_
          refine sm_sub [0, 1, 3] rfl ?_
          exact hk118 (1 : Int32)
set_option maxRecDepth 20000 in
theorem sX11_count (th : Nat) (a1 : Int32) : Sim eX11_count vI 0 [(0, qv (some th)), (1, iv a1)] [] (pX11_count th a1) := by
  unfold pX11_count
  refine sm_aload_n (pc' := 1) dX11_count_0 rfl rfl ?_
  refine sm_iconst (pc' := 2) (0 : Int32) dX11_count_1 (by decide) rfl ?_
  refine sm_putI (pc' := 5) (gk_X11_124 _ _ _ _ _) ti_11_0 dX11_count_2 rfl ?_
  refine sm_iconst (pc' := 6) (0 : Int32) dX11_count_5 (by decide) rfl ?_
  refine sm_istore_n (pc' := 7) [(2, iv (0 : Int32)), (0, qv (some th)), (1, iv a1)] dX11_count_6 rfl (Nat.le_of_ble_eq_true rfl) rfl rfl ?_
  refine sm_iload_n (pc' := 8) dX11_count_7 rfl rfl ?_
  refine sm_case a1 (0 : Int32) ?_ ?_
  · intro hx
    refine sm_tabIn (pc' := 52) (off := 44) dX11_count_8 (by rw [hx]; decide) (by rw [hx]; decide) (by rw [hx]; decide) (by decide) ?_
    refine sm_iconst (pc' := 53) (0 : Int32) dX11_count_52 (by decide) rfl ?_
    refine sm_istore_n (pc' := 54) [(3, iv (0 : Int32)), (2, iv (0 : Int32)), (0, qv (some th)), (1, iv a1)] dX11_count_53 rfl (Nat.le_of_ble_eq_true rfl) rfl rfl ?_
    refine sm_sub [2, 1, 0] rfl ?_
    refine sX11_count_L54 th _ ?_ FL (0 : Int32) (0 : Int32)
    · intro v109
      refine sm_iload_n (pc' := 84) dX11_count_83 rfl rfl ?_
      exact sm_ireturn rfl dX11_count_84
  · intro hx0
    refine sm_case a1 (1 : Int32) ?_ ?_
    · intro hx
      refine sm_tabIn (pc' := 85) (off := 77) dX11_count_8 (by rw [hx]; decide) (by rw [hx]; decide) (by rw [hx]; decide) (by decide) ?_
      refine sm_iconst (pc' := 86) (0 : Int32) dX11_count_85 (by decide) rfl ?_
      refine sm_istore_n (pc' := 87) [(3, iv (0 : Int32)), (2, iv (0 : Int32)), (0, qv (some th)), (1, iv a1)] dX11_count_86 rfl (Nat.le_of_ble_eq_true rfl) rfl rfl ?_
      refine sm_sub [2, 3, 1, 0] rfl ?_
      refine sX11_count_L87 th a1 _ ?_ FL (0 : Int32) (0 : Int32)
      · intro v119
        refine sm_iload_n (pc' := 123) dX11_count_122 rfl rfl ?_
        exact sm_ireturn rfl dX11_count_123
    · intro hx1
      refine sm_case a1 (2 : Int32) ?_ ?_
      · intro hx
        refine sm_tabIn (pc' := 85) (off := 77) dX11_count_8 (by rw [hx]; decide) (by rw [hx]; decide) (by rw [hx]; decide) (by decide) ?_
        refine sm_iconst (pc' := 86) (0 : Int32) dX11_count_85 (by decide) rfl ?_
        refine sm_istore_n (pc' := 87) [(3, iv (0 : Int32)), (2, iv (0 : Int32)), (0, qv (some th)), (1, iv a1)] dX11_count_86 rfl (Nat.le_of_ble_eq_true rfl) rfl rfl ?_
        refine sm_sub [2, 3, 1, 0] rfl ?_
        refine sX11_count_L87 th a1 _ ?_ FL (0 : Int32) (0 : Int32)
        · intro v129
          refine sm_iload_n (pc' := 123) dX11_count_122 rfl rfl ?_
          exact sm_ireturn rfl dX11_count_123
      · intro hx2
        refine sm_case a1 (3 : Int32) ?_ ?_
        · intro hx
          refine sm_tabIn (pc' := 85) (off := 77) dX11_count_8 (by rw [hx]; decide) (by rw [hx]; decide) (by rw [hx]; decide) (by decide) ?_
          refine sm_iconst (pc' := 86) (0 : Int32) dX11_count_85 (by decide) rfl ?_
          refine sm_istore_n (pc' := 87) [(3, iv (0 : Int32)), (2, iv (0 : Int32)), (0, qv (some th)), (1, iv a1)] dX11_count_86 rfl (Nat.le_of_ble_eq_true rfl) rfl rfl ?_
          refine sm_sub [2, 3, 1, 0] rfl ?_
          refine sX11_count_L87 th a1 _ ?_ FL (0 : Int32) (0 : Int32)
          · intro v139
            refine sm_iload_n (pc' := 123) dX11_count_122 rfl rfl ?_
            exact sm_ireturn rfl dX11_count_123
        · intro hx3
          refine sm_case a1 (4 : Int32) ?_ ?_
          · intro hx
            refine sm_tabIn (pc' := 124) (off := 116) dX11_count_8 (by rw [hx]; decide) (by rw [hx]; decide) (by rw [hx]; decide) (by decide) ?_
            refine sm_aload_n (pc' := 125) dX11_count_124 rfl rfl ?_
            refine sm_getI (pc' := 128) fk_X11_218 nr_11_24 dX11_count_125 rfl (fun v140 => ?_)
            exact sm_ireturn rfl dX11_count_128
          · intro hx4
            refine sm_case a1 (5 : Int32) ?_ ?_
            · intro hx
              refine sm_tabIn (pc' := 129) (off := 121) dX11_count_8 (by rw [hx]; decide) (by rw [hx]; decide) (by rw [hx]; decide) (by decide) ?_
              refine sm_aload_n (pc' := 130) dX11_count_129 rfl rfl ?_
              refine sm_getI (pc' := 133) fk_X11_250 nr_11_33 dX11_count_130 rfl (fun v141 => ?_)
              exact sm_ireturn rfl dX11_count_133
            · intro hx5
              refine sm_case a1 (6 : Int32) ?_ ?_
              · intro hx
                refine sm_tabIn (pc' := 134) (off := 126) dX11_count_8 (by rw [hx]; decide) (by rw [hx]; decide) (by rw [hx]; decide) (by decide) ?_
                refine sm_aload_n (pc' := 135) dX11_count_134 rfl rfl ?_
                refine sm_getI (pc' := 138) fk_X11_259 nr_11_35 dX11_count_135 rfl (fun v142 => ?_)
                exact sm_ireturn rfl dX11_count_138
              · intro hx6
                refine sm_tabOut (pc' := 139) dX11_count_8 (tab_out a1 6 (by intro j hj; rcases (show j = 0 ∨ j = 1 ∨ j = 2 ∨ j = 3 ∨ j = 4 ∨ j = 5 ∨ j = 6 by omega) with rfl | rfl | rfl | rfl | rfl | rfl | rfl <;> first | exact hx0 | exact hx1 | exact hx2 | exact hx3 | exact hx4 | exact hx5 | exact hx6) (by decide)) (by decide) ?_
                refine sm_ldc (pc' := 141) (-1000001 : Int32) w_609 dX11_count_139 rfl ?_
                exact sm_ireturn rfl dX11_count_141
theorem kX11_count (th : Nat) (a1 : Int32) : Callee 1 yX11_count cX11_count 4 (some .int) [qv (some th), iv a1] vI (pX11_count th a1) := callee_ofS [(0, qv (some th)), (1, iv a1)] (by decide +kernel) (Nat.le_of_ble_eq_true rfl) rfl (sX11_count th a1)
/-! HollowPressModel.drop(I)I -/
abbrev eX11_drop : Env0 := (RX11, "drop", cX11_drop, 2, (some .int), 2)
def pX11_drop (th : Nat) (a1 : Int32) : Prg Int32 :=
    pI 11 th 0 (0 : Int32) (
    cl (pX11_isSheet a1) fun v101 =>
    (if v101 = 0 then rt (-1000001 : Int32)
    else pI 11 th 1 (0 : Int32) (
    gF 11 th 2 fun v102 =>
    un v102 fun a103 =>
    ldI a103 a1 fun v104 =>
    (if 0 ≤ v104 then gF 11 th 2 fun v105 =>
    un v105 fun a106 =>
    stI a106 a1 (-1 : Int32) (
    gF 11 th 3 fun v107 =>
    un v107 fun a108 =>
    ldI a108 a1 fun v109 =>
    rt v109)
    else cl (onT th 11 (pX11_found th (1 : Int32))) fun v110 =>
    rt v110))))
set_option maxRecDepth 20000 in
theorem sX11_drop (th : Nat) (a1 : Int32) : Sim eX11_drop vI 0 [(0, qv (some th)), (1, iv a1)] [] (pX11_drop th a1) := by
  unfold pX11_drop
  refine sm_aload_n (pc' := 1) dX11_drop_0 rfl rfl ?_
  refine sm_iconst (pc' := 2) (0 : Int32) dX11_drop_1 (by decide) rfl ?_
  refine sm_putI (pc' := 5) (gk_X11_124 _ _ _ _ _) ti_11_0 dX11_drop_2 rfl ?_
  refine sm_iload_n (pc' := 6) dX11_drop_5 rfl rfl ?_
  refine sm_calli (pc' := 9) (sa := [iv a1]) (st := []) (iv_X11_138 a1) (Nat.le_of_ble_eq_true rfl) dX11_drop_6 rfl (Nat.le_of_ble_eq_true rfl) (fun v101 => ?_)
  refine sm_if_ne (pc' := 12) (pc1 := 15) dX11_drop_9 (by decide) rfl (fun _ => ?_) (fun _ => ?_)
  · skip
    refine sm_aload_n (pc' := 16) dX11_drop_15 rfl rfl ?_
    refine sm_iconst (pc' := 17) (0 : Int32) dX11_drop_16 (by decide) rfl ?_
    refine sm_putI (pc' := 20) (gk_X11_128 _ _ _ _ _) ti_11_1 dX11_drop_17 rfl ?_
    refine sm_aload_n (pc' := 21) dX11_drop_20 rfl rfl ?_
    refine sm_getF (pc' := 24) fk_X11_7 yr_11_2 dX11_drop_21 rfl (fun v102 => ?_)
    refine sm_iload_n (pc' := 25) dX11_drop_24 rfl rfl ?_
    rcases v102 with _ | a103
    · exact sm_unN
    refine sm_unS ?_
    refine sm_iaload (pc' := 26) dX11_drop_25 rfl (fun v104 => ?_)
    refine sm_if_ge (pc' := 29) (pc1 := 35) dX11_drop_26 (by decide) rfl (fun _ => ?_) (fun _ => ?_)
    · skip
      refine sm_aload_n (pc' := 36) dX11_drop_35 rfl rfl ?_
      refine sm_getF (pc' := 39) fk_X11_7 yr_11_2 dX11_drop_36 rfl (fun v105 => ?_)
      refine sm_iload_n (pc' := 40) dX11_drop_39 rfl rfl ?_
      refine sm_iconst (pc' := 41) (-1 : Int32) dX11_drop_40 (by decide) rfl ?_
      rcases v105 with _ | a106
      · exact sm_unN
      refine sm_unS ?_
      refine sm_iastore (pc' := 42) dX11_drop_41 rfl ?_
      refine sm_aload_n (pc' := 43) dX11_drop_42 rfl rfl ?_
      refine sm_getF (pc' := 46) fk_X11_13 yr_11_3 dX11_drop_43 rfl (fun v107 => ?_)
      refine sm_iload_n (pc' := 47) dX11_drop_46 rfl rfl ?_
      rcases v107 with _ | a108
      · exact sm_unN
      refine sm_unS ?_
      refine sm_iaload (pc' := 48) dX11_drop_47 rfl (fun v109 => ?_)
      exact sm_ireturn rfl dX11_drop_48
    · skip
      refine sm_aload_n (pc' := 30) dX11_drop_29 rfl rfl ?_
      refine sm_iconst (pc' := 31) (1 : Int32) dX11_drop_30 (by decide) rfl ?_
      refine sm_calli (pc' := 34) (sa := [iv (1 : Int32), qv (some th)]) (st := []) (iv_X11_145 th (1 : Int32)) (Nat.le_of_ble_eq_true rfl) dX11_drop_31 rfl (Nat.le_of_ble_eq_true rfl) (fun v110 => ?_)
      exact sm_ireturn rfl dX11_drop_34
  · skip
    refine sm_ldc (pc' := 14) (-1000001 : Int32) w_609 dX11_drop_12 rfl ?_
    exact sm_ireturn rfl dX11_drop_14
theorem kX11_drop (th : Nat) (a1 : Int32) : Callee 2 yX11_drop cX11_drop 2 (some .int) [qv (some th), iv a1] vI (pX11_drop th a1) := callee_ofS [(0, qv (some th)), (1, iv a1)] (by decide +kernel) (Nat.le_of_ble_eq_true rfl) rfl (sX11_drop th a1)
/-! HollowPressModel.end(I)I -/
abbrev eX11_end : Env0 := (RX11, "end", cX11_end, 2, (some .int), 4)
def pX11_end (th : Nat) (a1 : Int32) : Prg Int32 :=
    pI 11 th 0 (0 : Int32) (
    gI 11 th 24 fun v101 =>
    cl (pX11_in (Int32.toInt64 a1) (0 : Int64) (Int32.toInt64 (v101 - (1 : Int32)))) fun v102 =>
    (if v102 = 0 then rt (-1000001 : Int32)
    else cl (onT th 11 (pX11_findEnds th)) fun _ =>
    gF 11 th 28 fun v103 =>
    un v103 fun a104 =>
    ldI a104 a1 fun v105 =>
    (lt (fun (v106 : Int32) => rt v106 : Int32 → Prg Int32) fun k107 =>
    (if v105 = (-1000000 : Int32) then k107 (-1000000 : Int32)
    else cl (onT th 11 (pX11_endOf th a1)) fun v108 =>
    k107 v108))))
set_option maxRecDepth 20000 in
theorem sX11_end (th : Nat) (a1 : Int32) : Sim eX11_end vI 0 [(0, qv (some th)), (1, iv a1)] [] (pX11_end th a1) := by
  unfold pX11_end
  refine sm_aload_n (pc' := 1) dX11_end_0 rfl rfl ?_
  refine sm_iconst (pc' := 2) (0 : Int32) dX11_end_1 (by decide) rfl ?_
  refine sm_putI (pc' := 5) (gk_X11_124 _ _ _ _ _) ti_11_0 dX11_end_2 rfl ?_
  refine sm_iload_n (pc' := 6) dX11_end_5 rfl rfl ?_
  refine sm_i2l (pc' := 7) dX11_end_6 rfl ?_
  refine sm_lconst (pc' := 8) (0 : Int64) dX11_end_7 (by decide) rfl ?_
  refine sm_aload_n (pc' := 9) dX11_end_8 rfl rfl ?_
  refine sm_getI (pc' := 12) fk_X11_218 nr_11_24 dX11_end_9 rfl (fun v101 => ?_)
  refine sm_iconst (pc' := 13) (1 : Int32) dX11_end_12 (by decide) rfl ?_
  refine sm_isub (pc' := 14) dX11_end_13 rfl ?_
  refine sm_i2l (pc' := 15) dX11_end_14 rfl ?_
  refine sm_calli (pc' := 18) (sa := [jv (Int32.toInt64 (v101 - (1 : Int32))), jv (0 : Int64), jv (Int32.toInt64 a1)]) (st := []) (iv_X11_134 (Int32.toInt64 a1) (0 : Int64) (Int32.toInt64 (v101 - (1 : Int32)))) (Nat.le_of_ble_eq_true rfl) dX11_end_15 rfl (Nat.le_of_ble_eq_true rfl) (fun v102 => ?_)
  refine sm_if_ne (pc' := 21) (pc1 := 24) dX11_end_18 (by decide) rfl (fun _ => ?_) (fun _ => ?_)
  · skip
    refine sm_aload_n (pc' := 25) dX11_end_24 rfl rfl ?_
    refine sm_callv (pc' := 28) (sa := [qv (some th)]) (st := []) (iv_X11_229 th) (Nat.le_of_ble_eq_true rfl) dX11_end_25 rfl (Nat.le_of_ble_eq_true rfl) (fun _ => ?_)
    refine sm_aload_n (pc' := 29) dX11_end_28 rfl rfl ?_
    refine sm_getF (pc' := 32) fk_X11_81 yr_11_28 dX11_end_29 rfl (fun v103 => ?_)
    refine sm_iload_n (pc' := 33) dX11_end_32 rfl rfl ?_
    rcases v103 with _ | a104
    · exact sm_unN
    refine sm_unS ?_
    refine sm_iaload (pc' := 34) dX11_end_33 rfl (fun v105 => ?_)
    refine sm_ldc (pc' := 36) (-1000000 : Int32) w_621 dX11_end_34 rfl ?_
    refine sm_lt (fun k107 => ∀ (v106 : Int32), Sim eX11_end vI 49 [] [iv v106] (k107 v106)) ?_ (fun k107 hk107 => ?_)
    · intro v106
      exact sm_ireturn rfl dX11_end_49
    · skip
      refine sm_icmp_ne (pc' := 39) (pc1 := 44) dX11_end_36 (by decide) rfl (fun _ => ?_) (fun _ => ?_)
      · skip
        refine sm_aload_n (pc' := 45) dX11_end_44 rfl rfl ?_
        refine sm_iload_n (pc' := 46) dX11_end_45 rfl rfl ?_
        refine sm_calli (pc' := 49) (sa := [iv a1, qv (some th)]) (st := []) (iv_X11_226 th a1) (Nat.le_of_ble_eq_true rfl) dX11_end_46 rfl (Nat.le_of_ble_eq_true rfl) (fun v108 => ?_)
        refine sm_sub [] rfl ?_
        exact hk107 v108
      · skip
        refine sm_ldc (pc' := 41) (-1000000 : Int32) w_621 dX11_end_39 rfl ?_
        refine sm_goto (pc' := 49) dX11_end_41 (by decide) ?_
        refine sm_sub [] rfl ?_
        exact hk107 (-1000000 : Int32)
  · skip
    refine sm_ldc (pc' := 23) (-1000001 : Int32) w_609 dX11_end_21 rfl ?_
    exact sm_ireturn rfl dX11_end_23
theorem kX11_end (th : Nat) (a1 : Int32) : Callee 4 yX11_end cX11_end 2 (some .int) [qv (some th), iv a1] vI (pX11_end th a1) := callee_ofS [(0, qv (some th)), (1, iv a1)] (by decide +kernel) (Nat.le_of_ble_eq_true rfl) rfl (sX11_end th a1)
/-! HollowPressModel.force(II)J -/
abbrev eX11_force : Env0 := (RX11, "force", cX11_force, 7, (some .long), 3)
def pX11_force_L72 (th : Nat) (a2 : Int32) (k107 : Int64 → Prg Int64) : Nat → Int64 → Int32 → Prg Int64
  | 0, _, _ => fl
  | n + 1, v105, v106 =>
    (if a2 < v106 then k107 v105
    else gF 11 th 18 fun v108 =>
    gF 11 th 20 fun v109 =>
    un v109 fun a110 =>
    ldI a110 a2 fun v111 =>
    un v108 fun a112 =>
    ldI a112 v111 fun v113 =>
    gF 11 th 18 fun v114 =>
    gF 11 th 20 fun v115 =>
    un v115 fun a116 =>
    ldI a116 v106 fun v117 =>
    un v114 fun a118 =>
    ldI a118 v117 fun v119 =>
    pX11_force_L72 th a2 k107 n (v105 + (Int32.toInt64 (v113 - v119))) (v106 + (1 : Int32)))
def pX11_force (th : Nat) (a1 : Int32) (a2 : Int32) : Prg Int64 :=
    pI 11 th 0 (0 : Int32) (
    cl (pX11_isPlace a1) fun v101 =>
    (if v101 = 0 then rt (-1000001 : Int64)
    else cl (onT th 11 (pX11_asked th a1 (1 : Int32))) fun v102 =>
    (if v102 ≤ 0 then pI 11 th 1 (0 : Int32) (
    cl (onT th 11 (pX11_fill th a1 (-1000000 : Int32))) fun _ =>
    gI 11 th 23 fun v103 =>
    cl (pX11_in (Int32.toInt64 a2) (0 : Int64) (Int32.toInt64 (v103 - (1 : Int32)))) fun v104 =>
    (if v104 = 0 then rt (-1000000 : Int64)
    else pX11_force_L72 th a2 (fun (v120 : Int64) => rt v120) FL (0 : Int64) (0 : Int32)))
    else cl (onT th 11 (pX11_found th v102)) fun v121 =>
    rt (Int32.toInt64 v121))))
set_option maxRecDepth 20000 in
theorem sX11_force_L72 (th : Nat) (a2 : Int32) (k107 : Int64 → Prg Int64) (hk107 : ∀ (q4 : Int64), Sim eX11_force vL 114 [(4, jv q4)] [] (k107 q4)) : ∀ (n : Nat), ∀ (v105 : Int64) (v106 : Int32), Sim eX11_force vL 72 [(0, qv (some th)), (2, iv a2), (4, jv v105), (6, iv v106)] [] (pX11_force_L72 th a2 k107 n v105 v106) := by
  intro n
  induction n with
  | zero =>
    intros
    exact sm_fl
  | succ n ih =>
    intro v105 v106
    unfold pX11_force_L72
    refine sm_iload (pc' := 74) dX11_force_72 rfl rfl ?_
    refine sm_iload_n (pc' := 75) dX11_force_74 rfl rfl ?_
    refine sm_icmp_gt (pc' := 78) (pc1 := 114) dX11_force_75 (by decide) rfl (fun _ => ?_) (fun _ => ?_)
    · skip
      refine sm_sub [2] rfl ?_
      exact hk107 v105
    · skip
      refine sm_lload (pc' := 80) dX11_force_78 rfl rfl ?_
      refine sm_aload_n (pc' := 81) dX11_force_80 rfl rfl ?_
      refine sm_getF (pc' := 84) fk_X11_57 yr_11_18 dX11_force_81 rfl (fun v108 => ?_)
      refine sm_aload_n (pc' := 85) dX11_force_84 rfl rfl ?_
      refine sm_getF (pc' := 88) fk_X11_63 yr_11_20 dX11_force_85 rfl (fun v109 => ?_)
      refine sm_iload_n (pc' := 89) dX11_force_88 rfl rfl ?_
      rcases v109 with _ | a110
      · exact sm_unN
      refine sm_unS ?_
      refine sm_iaload (pc' := 90) dX11_force_89 rfl (fun v111 => ?_)
      rcases v108 with _ | a112
      · exact sm_unN
      refine sm_unS ?_
      refine sm_iaload (pc' := 91) dX11_force_90 rfl (fun v113 => ?_)
      refine sm_aload_n (pc' := 92) dX11_force_91 rfl rfl ?_
      refine sm_getF (pc' := 95) fk_X11_57 yr_11_18 dX11_force_92 rfl (fun v114 => ?_)
      refine sm_aload_n (pc' := 96) dX11_force_95 rfl rfl ?_
      refine sm_getF (pc' := 99) fk_X11_63 yr_11_20 dX11_force_96 rfl (fun v115 => ?_)
      refine sm_iload (pc' := 101) dX11_force_99 rfl rfl ?_
      rcases v115 with _ | a116
      · exact sm_unN
      refine sm_unS ?_
      refine sm_iaload (pc' := 102) dX11_force_101 rfl (fun v117 => ?_)
      rcases v114 with _ | a118
      · exact sm_unN
      refine sm_unS ?_
      refine sm_iaload (pc' := 103) dX11_force_102 rfl (fun v119 => ?_)
      refine sm_isub (pc' := 104) dX11_force_103 rfl ?_
      refine sm_i2l (pc' := 105) dX11_force_104 rfl ?_
      refine sm_ladd (pc' := 106) dX11_force_105 rfl ?_
      refine sm_lstore (pc' := 108) [(4, jv (v105 + (Int32.toInt64 (v113 - v119)))), (0, qv (some th)), (2, iv a2), (6, iv v106)] dX11_force_106  (Nat.le_of_ble_eq_true rfl) rfl rfl ?_
      refine sm_iinc (pc' := 111) (v106 + (1 : Int32)) [(6, iv (v106 + (1 : Int32))), (4, jv (v105 + (Int32.toInt64 (v113 - v119)))), (0, qv (some th)), (2, iv a2)] dX11_force_108 rfl rfl (Nat.le_of_ble_eq_true rfl) rfl rfl ?_
      refine sm_goto (pc' := 72) dX11_force_111 (by decide) ?_
      refine sm_sub [2, 3, 1, 0] rfl ?_
      exact ih (v105 + (Int32.toInt64 (v113 - v119))) (v106 + (1 : Int32))
set_option maxRecDepth 20000 in
theorem sX11_force (th : Nat) (a1 : Int32) (a2 : Int32) : Sim eX11_force vL 0 [(0, qv (some th)), (1, iv a1), (2, iv a2)] [] (pX11_force th a1 a2) := by
  unfold pX11_force
  refine sm_aload_n (pc' := 1) dX11_force_0 rfl rfl ?_
  refine sm_iconst (pc' := 2) (0 : Int32) dX11_force_1 (by decide) rfl ?_
  refine sm_putI (pc' := 5) (gk_X11_124 _ _ _ _ _) ti_11_0 dX11_force_2 rfl ?_
  refine sm_iload_n (pc' := 6) dX11_force_5 rfl rfl ?_
  refine sm_calli (pc' := 9) (sa := [iv a1]) (st := []) (iv_X11_153 a1) (Nat.le_of_ble_eq_true rfl) dX11_force_6 rfl (Nat.le_of_ble_eq_true rfl) (fun v101 => ?_)
  refine sm_if_ne (pc' := 12) (pc1 := 16) dX11_force_9 (by decide) rfl (fun _ => ?_) (fun _ => ?_)
  · skip
    refine sm_aload_n (pc' := 17) dX11_force_16 rfl rfl ?_
    refine sm_iload_n (pc' := 18) dX11_force_17 rfl rfl ?_
    refine sm_iconst (pc' := 19) (1 : Int32) dX11_force_18 (by decide) rfl ?_
    refine sm_calli (pc' := 22) (sa := [iv (1 : Int32), iv a1, qv (some th)]) (st := []) (iv_X11_187 th a1 (1 : Int32)) (Nat.le_of_ble_eq_true rfl) dX11_force_19 rfl (Nat.le_of_ble_eq_true rfl) (fun v102 => ?_)
    refine sm_istore_n (pc' := 23) [(3, iv v102), (0, qv (some th)), (1, iv a1), (2, iv a2)] dX11_force_22 rfl (Nat.le_of_ble_eq_true rfl) rfl rfl ?_
    refine sm_iload_n (pc' := 24) dX11_force_23 rfl rfl ?_
    refine sm_if_le (pc' := 27) (pc1 := 34) dX11_force_24 (by decide) rfl (fun _ => ?_) (fun _ => ?_)
    · skip
      refine sm_aload_n (pc' := 35) dX11_force_34 rfl rfl ?_
      refine sm_iconst (pc' := 36) (0 : Int32) dX11_force_35 (by decide) rfl ?_
      refine sm_putI (pc' := 39) (gk_X11_128 _ _ _ _ _) ti_11_1 dX11_force_36 rfl ?_
      refine sm_aload_n (pc' := 40) dX11_force_39 rfl rfl ?_
      refine sm_iload_n (pc' := 41) dX11_force_40 rfl rfl ?_
      refine sm_ldc (pc' := 43) (-1000000 : Int32) w_621 dX11_force_41 rfl ?_
      refine sm_callv (pc' := 46) (sa := [iv (-1000000 : Int32), iv a1, qv (some th)]) (st := []) (iv_X11_209 th a1 (-1000000 : Int32)) (Nat.le_of_ble_eq_true rfl) dX11_force_43 rfl (Nat.le_of_ble_eq_true rfl) (fun _ => ?_)
      refine sm_iload_n (pc' := 47) dX11_force_46 rfl rfl ?_
      refine sm_i2l (pc' := 48) dX11_force_47 rfl ?_
      refine sm_lconst (pc' := 49) (0 : Int64) dX11_force_48 (by decide) rfl ?_
      refine sm_aload_n (pc' := 50) dX11_force_49 rfl rfl ?_
      refine sm_getI (pc' := 53) fk_X11_195 nr_11_23 dX11_force_50 rfl (fun v103 => ?_)
      refine sm_iconst (pc' := 54) (1 : Int32) dX11_force_53 (by decide) rfl ?_
      refine sm_isub (pc' := 55) dX11_force_54 rfl ?_
      refine sm_i2l (pc' := 56) dX11_force_55 rfl ?_
      refine sm_calli (pc' := 59) (sa := [jv (Int32.toInt64 (v103 - (1 : Int32))), jv (0 : Int64), jv (Int32.toInt64 a2)]) (st := []) (iv_X11_134 (Int32.toInt64 a2) (0 : Int64) (Int32.toInt64 (v103 - (1 : Int32)))) (Nat.le_of_ble_eq_true rfl) dX11_force_56 rfl (Nat.le_of_ble_eq_true rfl) (fun v104 => ?_)
      refine sm_if_ne (pc' := 62) (pc1 := 66) dX11_force_59 (by decide) rfl (fun _ => ?_) (fun _ => ?_)
      · skip
        refine sm_lconst (pc' := 67) (0 : Int64) dX11_force_66 (by decide) rfl ?_
        refine sm_lstore (pc' := 69) [(4, jv (0 : Int64)), (3, iv v102), (0, qv (some th)), (1, iv a1), (2, iv a2)] dX11_force_67  (Nat.le_of_ble_eq_true rfl) rfl rfl ?_
        refine sm_iconst (pc' := 70) (0 : Int32) dX11_force_69 (by decide) rfl ?_
        refine sm_istore (pc' := 72) [(6, iv (0 : Int32)), (4, jv (0 : Int64)), (3, iv v102), (0, qv (some th)), (1, iv a1), (2, iv a2)] dX11_force_70  (Nat.le_of_ble_eq_true rfl) rfl rfl ?_
        refine sm_sub [3, 5, 1, 0] rfl ?_
        refine sX11_force_L72 th a2 _ ?_ FL (0 : Int64) (0 : Int32)
        · intro v120
          refine sm_lload (pc' := 116) dX11_force_114 rfl rfl ?_
          exact sm_lreturn rfl dX11_force_116
      · skip
        refine sm_ldc2 (pc' := 65) (-1000000 : Int64) w_701 dX11_force_62 rfl ?_
        exact sm_lreturn rfl dX11_force_65
    · skip
      refine sm_aload_n (pc' := 28) dX11_force_27 rfl rfl ?_
      refine sm_iload_n (pc' := 29) dX11_force_28 rfl rfl ?_
      refine sm_calli (pc' := 32) (sa := [iv v102, qv (some th)]) (st := []) (iv_X11_145 th v102) (Nat.le_of_ble_eq_true rfl) dX11_force_29 rfl (Nat.le_of_ble_eq_true rfl) (fun v121 => ?_)
      refine sm_i2l (pc' := 33) dX11_force_32 rfl ?_
      exact sm_lreturn rfl dX11_force_33
  · skip
    refine sm_ldc2 (pc' := 15) (-1000001 : Int64) w_702 dX11_force_12 rfl ?_
    exact sm_lreturn rfl dX11_force_15
theorem kX11_force (th : Nat) (a1 : Int32) (a2 : Int32) : Callee 3 yX11_force cX11_force 7 (some .long) [qv (some th), iv a1, iv a2] vL (pX11_force th a1 a2) := callee_ofS [(0, qv (some th)), (1, iv a1), (2, iv a2)] (by decide +kernel) (Nat.le_of_ble_eq_true rfl) rfl (sX11_force th a1 a2)
/-! HollowPressModel.isCell(II)Z -/
abbrev eX11_isCell : Env0 := (RX11, "isCell", cX11_isCell, 3, (some .boolean), 1)
def pX11_isCell (th : Nat) (a1 : Int32) (a2 : Int32) : Prg Int32 :=
    gF 11 th 6 fun v101 =>
    un v101 fun a102 =>
    ldI a102 a1 fun v103 =>
    gF 11 th 7 fun v104 =>
    un v104 fun a105 =>
    ldI a105 a1 fun v106 =>
    cl (pX11_in (Int32.toInt64 a2) (0 : Int64) (Int32.toInt64 ((v103 * v106) - (1 : Int32)))) fun v107 =>
    (lt (fun (v108 : Int32) => rtZ v108 : Int32 → Prg Int32) fun k109 =>
    (lt (k109 (0 : Int32) : Prg Int32) fun k110 =>
    (if v107 = 0 then k110
    else gF 11 th 8 fun v111 =>
    un v111 fun a112 =>
    ldI a112 (((144 : Int32) * a1) + a2) fun v113 =>
    (if v113 ≤ 0 then k110
    else k109 (1 : Int32)))))
set_option maxRecDepth 20000 in
theorem sX11_isCell (th : Nat) (a1 : Int32) (a2 : Int32) : Sim eX11_isCell vI 0 [(0, qv (some th)), (1, iv a1), (2, iv a2)] [] (pX11_isCell th a1 a2) := by
  unfold pX11_isCell
  refine sm_iload_n (pc' := 1) dX11_isCell_0 rfl rfl ?_
  refine sm_i2l (pc' := 2) dX11_isCell_1 rfl ?_
  refine sm_lconst (pc' := 3) (0 : Int64) dX11_isCell_2 (by decide) rfl ?_
  refine sm_aload_n (pc' := 4) dX11_isCell_3 rfl rfl ?_
  refine sm_getF (pc' := 7) fk_X11_23 yr_11_6 dX11_isCell_4 rfl (fun v101 => ?_)
  refine sm_iload_n (pc' := 8) dX11_isCell_7 rfl rfl ?_
  rcases v101 with _ | a102
  · exact sm_unN
  refine sm_unS ?_
  refine sm_iaload (pc' := 9) dX11_isCell_8 rfl (fun v103 => ?_)
  refine sm_aload_n (pc' := 10) dX11_isCell_9 rfl rfl ?_
  refine sm_getF (pc' := 13) fk_X11_26 yr_11_7 dX11_isCell_10 rfl (fun v104 => ?_)
  refine sm_iload_n (pc' := 14) dX11_isCell_13 rfl rfl ?_
  rcases v104 with _ | a105
  · exact sm_unN
  refine sm_unS ?_
  refine sm_iaload (pc' := 15) dX11_isCell_14 rfl (fun v106 => ?_)
  refine sm_imul (pc' := 16) dX11_isCell_15 rfl ?_
  refine sm_iconst (pc' := 17) (1 : Int32) dX11_isCell_16 (by decide) rfl ?_
  refine sm_isub (pc' := 18) dX11_isCell_17 rfl ?_
  refine sm_i2l (pc' := 19) dX11_isCell_18 rfl ?_
  refine sm_calli (pc' := 22) (sa := [jv (Int32.toInt64 ((v103 * v106) - (1 : Int32))), jv (0 : Int64), jv (Int32.toInt64 a2)]) (st := []) (iv_X11_134 (Int32.toInt64 a2) (0 : Int64) (Int32.toInt64 ((v103 * v106) - (1 : Int32)))) (Nat.le_of_ble_eq_true rfl) dX11_isCell_19 rfl (Nat.le_of_ble_eq_true rfl) (fun v107 => ?_)
  refine sm_lt (fun k109 => ∀ (v108 : Int32), Sim eX11_isCell vI 45 [] [iv v108] (k109 v108)) ?_ (fun k109 hk109 => ?_)
  · intro v108
    exact sm_zreturn rfl dX11_isCell_45
  · skip
    refine sm_lt (fun k110 => Sim eX11_isCell vI 44 [] [] (k110)) ?_ (fun k110 hk110 => ?_)
    · skip
      refine sm_iconst (pc' := 45) (0 : Int32) dX11_isCell_44 (by decide) rfl ?_
      exact hk109 (0 : Int32)
    · skip
      refine sm_if_eq (pc' := 25) (pc1 := 44) dX11_isCell_22 (by decide) rfl (fun _ => ?_) (fun _ => ?_)
      · skip
        refine sm_sub [] rfl ?_
        exact hk110
      · skip
        refine sm_aload_n (pc' := 26) dX11_isCell_25 rfl rfl ?_
        refine sm_getF (pc' := 29) fk_X11_29 yr_11_8 dX11_isCell_26 rfl (fun v111 => ?_)
        refine sm_sipush (pc' := 32) (144 : Int32) dX11_isCell_29 (by decide) rfl ?_
        refine sm_iload_n (pc' := 33) dX11_isCell_32 rfl rfl ?_
        refine sm_imul (pc' := 34) dX11_isCell_33 rfl ?_
        refine sm_iload_n (pc' := 35) dX11_isCell_34 rfl rfl ?_
        refine sm_iadd (pc' := 36) dX11_isCell_35 rfl ?_
        rcases v111 with _ | a112
        · exact sm_unN
        refine sm_unS ?_
        refine sm_iaload (pc' := 37) dX11_isCell_36 rfl (fun v113 => ?_)
        refine sm_if_le (pc' := 40) (pc1 := 44) dX11_isCell_37 (by decide) rfl (fun _ => ?_) (fun _ => ?_)
        · skip
          refine sm_sub [] rfl ?_
          exact hk110
        · skip
          refine sm_iconst (pc' := 41) (1 : Int32) dX11_isCell_40 (by decide) rfl ?_
          refine sm_goto (pc' := 45) dX11_isCell_41 (by decide) ?_
          refine sm_sub [] rfl ?_
          exact hk109 (1 : Int32)
theorem kX11_isCell (th : Nat) (a1 : Int32) (a2 : Int32) : Callee 1 yX11_isCell cX11_isCell 3 (some .boolean) [qv (some th), iv a1, iv a2] vI (pX11_isCell th a1 a2) := callee_ofS [(0, qv (some th)), (1, iv a1), (2, iv a2)] (by decide +kernel) (Nat.le_of_ble_eq_true rfl) rfl (sX11_isCell th a1 a2)
/-! HollowPressModel.gate(II)I -/
set_option maxRecDepth 20000 in
theorem iv_X11_191 (a : Nat) (x0 : Int32) (x1 : Int32) : Inv RX11 2 (.invokevirtual 191) [iv x1, iv x0, qv (some a)] vI (onT a 11 (pX11_isCell a x0 x1)) := inv_V (As := [iv x0, iv x1]) (t := 11) (kX11_isCell a x0 x1) _ (by decide) rfl rfl w_703 w_704 w_705 w_585 w_706 ⟨by decide +kernel, by decide +kernel, by show _ = some 2; decide +kernel⟩ (by decide)
abbrev eX11_gate : Env0 := (RX11, "gate", cX11_gate, 6, (some .int), 2)
def pX11_gate_L38 (th : Nat) (a1 : Int32) (a2 : Int32) (k105 : Int32 → Prg Int32) : Nat → Int32 → Int32 → Prg Int32
  | 0, _, _ => fl
  | n + 1, v103, v104 =>
    gF 11 th 9 fun v106 =>
    un v106 fun a107 =>
    ldI a107 a1 fun v108 =>
    (if v108 ≤ v104 then k105 v103
    else (lt (fun (v109 : Int32) => pX11_gate_L38 th a1 a2 k105 n v109 (v104 + (1 : Int32)) : Int32 → Prg Int32) fun k110 =>
    (lt (k110 (1 : Int32) : Prg Int32) fun k111 =>
    (if v103 = 0 then gF 11 th 10 fun v112 =>
    un v112 fun a113 =>
    ldI a113 (((4 : Int32) * a1) + v104) fun v114 =>
    (if v114 = a2 then k111
    else k110 (0 : Int32))
    else k111))))
def pX11_gate (th : Nat) (a1 : Int32) (a2 : Int32) : Prg Int32 :=
    pI 11 th 0 (0 : Int32) (
    cl (pX11_isPlace a1) fun v101 =>
    (if v101 = 0 then rt (-1000001 : Int32)
    else cl (onT th 11 (pX11_asked th a1 (1 : Int32))) fun v102 =>
    (if v102 ≤ 0 then pX11_gate_L38 th a1 a2 (fun (v115 : Int32) => cl (onT th 11 (pX11_isCell th a1 a2)) fun v116 =>
    (lt (rt (-1000001 : Int32) : Prg Int32) fun k117 =>
    (if v116 = 0 then k117
    else (if v115 = 0 then gF 11 th 9 fun v118 =>
    un v118 fun a119 =>
    ldI a119 a1 fun v120 =>
    (if v120 = (4 : Int32) then rt (-1000003 : Int32)
    else pI 11 th 1 (0 : Int32) (
    gF 11 th 10 fun v121 =>
    gF 11 th 9 fun v122 =>
    un v122 fun a123 =>
    ldI a123 a1 fun v124 =>
    un v121 fun a125 =>
    stI a125 (((4 : Int32) * a1) + v124) a2 (
    gF 11 th 9 fun v126 =>
    un v126 fun a127 =>
    ldI a127 a1 fun v128 =>
    stI a127 a1 (v128 + (1 : Int32)) (
    gF 11 th 9 fun v129 =>
    un v129 fun a130 =>
    ldI a130 a1 fun v131 =>
    rt (v131 - (1 : Int32))))))
    else k117)))) FL (0 : Int32) (0 : Int32)
    else cl (onT th 11 (pX11_found th v102)) fun v132 =>
    rt v132)))
set_option maxRecDepth 20000 in
theorem sX11_gate_L38 (th : Nat) (a1 : Int32) (a2 : Int32) (k105 : Int32 → Prg Int32) (hk105 : ∀ (q4 : Int32), Sim eX11_gate vI 82 [(0, qv (some th)), (1, iv a1), (2, iv a2), (4, iv q4)] [] (k105 q4)) : ∀ (n : Nat), ∀ (v103 : Int32) (v104 : Int32), Sim eX11_gate vI 38 [(0, qv (some th)), (1, iv a1), (2, iv a2), (4, iv v103), (5, iv v104)] [] (pX11_gate_L38 th a1 a2 k105 n v103 v104) := by
  intro n
  induction n with
  | zero =>
    intros
    exact sm_fl
  | succ n ih =>
    intro v103 v104
    unfold pX11_gate_L38
    refine sm_iload (pc' := 40) dX11_gate_38 rfl rfl ?_
    refine sm_aload_n (pc' := 41) dX11_gate_40 rfl rfl ?_
    refine sm_getF (pc' := 44) fk_X11_32 yr_11_9 dX11_gate_41 rfl (fun v106 => ?_)
    refine sm_iload_n (pc' := 45) dX11_gate_44 rfl rfl ?_
    rcases v106 with _ | a107
    · exact sm_unN
    refine sm_unS ?_
    refine sm_iaload (pc' := 46) dX11_gate_45 rfl (fun v108 => ?_)
    refine sm_icmp_ge (pc' := 49) (pc1 := 82) dX11_gate_46 (by decide) rfl (fun _ => ?_) (fun _ => ?_)
    · skip
      refine sm_sub [0, 1, 2, 3] rfl ?_
      exact hk105 v103
    · skip
      refine sm_iload (pc' := 51) dX11_gate_49 rfl rfl ?_
      refine sm_lt (fun k110 => ∀ (v109 : Int32), Sim eX11_gate vI 74 [(0, qv (some th)), (1, iv a1), (2, iv a2), (5, iv v104)] [iv v109] (k110 v109)) ?_ (fun k110 hk110 => ?_)
      · intro v109
        refine sm_istore (pc' := 76) [(4, iv v109), (0, qv (some th)), (1, iv a1), (2, iv a2), (5, iv v104)] dX11_gate_74  (Nat.le_of_ble_eq_true rfl) rfl rfl ?_
        refine sm_iinc (pc' := 79) (v104 + (1 : Int32)) [(5, iv (v104 + (1 : Int32))), (4, iv v109), (0, qv (some th)), (1, iv a1), (2, iv a2)] dX11_gate_76 rfl rfl (Nat.le_of_ble_eq_true rfl) rfl rfl ?_
        refine sm_goto (pc' := 38) dX11_gate_79 (by decide) ?_
        refine sm_sub [2, 3, 4, 1, 0] rfl ?_
        exact ih v109 (v104 + (1 : Int32))
      · skip
        refine sm_lt (fun k111 => Sim eX11_gate vI 69 [(0, qv (some th)), (1, iv a1), (2, iv a2), (5, iv v104)] [] (k111)) ?_ (fun k111 hk111 => ?_)
        · skip
          refine sm_iconst (pc' := 70) (1 : Int32) dX11_gate_69 (by decide) rfl ?_
          refine sm_goto (pc' := 74) dX11_gate_70 (by decide) ?_
          exact hk110 (1 : Int32)
        · skip
          refine sm_if_ne (pc' := 54) (pc1 := 69) dX11_gate_51 (by decide) rfl (fun _ => ?_) (fun _ => ?_)
          · skip
            refine sm_sub [0, 1, 2, 4] rfl ?_
            exact hk111
          · skip
            refine sm_aload_n (pc' := 55) dX11_gate_54 rfl rfl ?_
            refine sm_getF (pc' := 58) fk_X11_35 yr_11_10 dX11_gate_55 rfl (fun v112 => ?_)
            refine sm_iconst (pc' := 59) (4 : Int32) dX11_gate_58 (by decide) rfl ?_
            refine sm_iload_n (pc' := 60) dX11_gate_59 rfl rfl ?_
            refine sm_imul (pc' := 61) dX11_gate_60 rfl ?_
            refine sm_iload (pc' := 63) dX11_gate_61 rfl rfl ?_
            refine sm_iadd (pc' := 64) dX11_gate_63 rfl ?_
            rcases v112 with _ | a113
            · exact sm_unN
            refine sm_unS ?_
            refine sm_iaload (pc' := 65) dX11_gate_64 rfl (fun v114 => ?_)
            refine sm_iload_n (pc' := 66) dX11_gate_65 rfl rfl ?_
            refine sm_icmp_ne (pc' := 69) (pc1 := 73) dX11_gate_66 (by decide) rfl (fun _ => ?_) (fun _ => ?_)
            · skip
              refine sm_iconst (pc' := 74) (0 : Int32) dX11_gate_73 (by decide) rfl ?_
              refine sm_sub [0, 1, 2, 4] rfl ?_
              exact hk110 (0 : Int32)
            · skip
              refine sm_sub [0, 1, 2, 4] rfl ?_
              exact hk111
set_option maxRecDepth 20000 in
theorem sX11_gate (th : Nat) (a1 : Int32) (a2 : Int32) : Sim eX11_gate vI 0 [(0, qv (some th)), (1, iv a1), (2, iv a2)] [] (pX11_gate th a1 a2) := by
  unfold pX11_gate
  refine sm_aload_n (pc' := 1) dX11_gate_0 rfl rfl ?_
  refine sm_iconst (pc' := 2) (0 : Int32) dX11_gate_1 (by decide) rfl ?_
  refine sm_putI (pc' := 5) (gk_X11_124 _ _ _ _ _) ti_11_0 dX11_gate_2 rfl ?_
  refine sm_iload_n (pc' := 6) dX11_gate_5 rfl rfl ?_
  refine sm_calli (pc' := 9) (sa := [iv a1]) (st := []) (iv_X11_153 a1) (Nat.le_of_ble_eq_true rfl) dX11_gate_6 rfl (Nat.le_of_ble_eq_true rfl) (fun v101 => ?_)
  refine sm_if_ne (pc' := 12) (pc1 := 15) dX11_gate_9 (by decide) rfl (fun _ => ?_) (fun _ => ?_)
  · skip
    refine sm_aload_n (pc' := 16) dX11_gate_15 rfl rfl ?_
    refine sm_iload_n (pc' := 17) dX11_gate_16 rfl rfl ?_
    refine sm_iconst (pc' := 18) (1 : Int32) dX11_gate_17 (by decide) rfl ?_
    refine sm_calli (pc' := 21) (sa := [iv (1 : Int32), iv a1, qv (some th)]) (st := []) (iv_X11_187 th a1 (1 : Int32)) (Nat.le_of_ble_eq_true rfl) dX11_gate_18 rfl (Nat.le_of_ble_eq_true rfl) (fun v102 => ?_)
    refine sm_istore_n (pc' := 22) [(3, iv v102), (0, qv (some th)), (1, iv a1), (2, iv a2)] dX11_gate_21 rfl (Nat.le_of_ble_eq_true rfl) rfl rfl ?_
    refine sm_iload_n (pc' := 23) dX11_gate_22 rfl rfl ?_
    refine sm_if_le (pc' := 26) (pc1 := 32) dX11_gate_23 (by decide) rfl (fun _ => ?_) (fun _ => ?_)
    · skip
      refine sm_iconst (pc' := 33) (0 : Int32) dX11_gate_32 (by decide) rfl ?_
      refine sm_istore (pc' := 35) [(4, iv (0 : Int32)), (3, iv v102), (0, qv (some th)), (1, iv a1), (2, iv a2)] dX11_gate_33  (Nat.le_of_ble_eq_true rfl) rfl rfl ?_
      refine sm_iconst (pc' := 36) (0 : Int32) dX11_gate_35 (by decide) rfl ?_
      refine sm_istore (pc' := 38) [(5, iv (0 : Int32)), (4, iv (0 : Int32)), (3, iv v102), (0, qv (some th)), (1, iv a1), (2, iv a2)] dX11_gate_36  (Nat.le_of_ble_eq_true rfl) rfl rfl ?_
      refine sm_sub [3, 4, 5, 1, 0] rfl ?_
      refine sX11_gate_L38 th a1 a2 _ ?_ FL (0 : Int32) (0 : Int32)
      · intro v115
        refine sm_aload_n (pc' := 83) dX11_gate_82 rfl rfl ?_
        refine sm_iload_n (pc' := 84) dX11_gate_83 rfl rfl ?_
        refine sm_iload_n (pc' := 85) dX11_gate_84 rfl rfl ?_
        refine sm_calli (pc' := 88) (sa := [iv a2, iv a1, qv (some th)]) (st := []) (iv_X11_191 th a1 a2) (Nat.le_of_ble_eq_true rfl) dX11_gate_85 rfl (Nat.le_of_ble_eq_true rfl) (fun v116 => ?_)
        refine sm_lt (fun k117 => Sim eX11_gate vI 96 [] [] (k117)) ?_ (fun k117 hk117 => ?_)
        · skip
          refine sm_ldc (pc' := 98) (-1000001 : Int32) w_609 dX11_gate_96 rfl ?_
          exact sm_ireturn rfl dX11_gate_98
        · skip
          refine sm_if_eq (pc' := 91) (pc1 := 96) dX11_gate_88 (by decide) rfl (fun _ => ?_) (fun _ => ?_)
          · skip
            refine sm_sub [] rfl ?_
            exact hk117
          · skip
            refine sm_iload (pc' := 93) dX11_gate_91 rfl rfl ?_
            refine sm_if_eq (pc' := 96) (pc1 := 99) dX11_gate_93 (by decide) rfl (fun _ => ?_) (fun _ => ?_)
            · skip
              refine sm_aload_n (pc' := 100) dX11_gate_99 rfl rfl ?_
              refine sm_getF (pc' := 103) fk_X11_32 yr_11_9 dX11_gate_100 rfl (fun v118 => ?_)
              refine sm_iload_n (pc' := 104) dX11_gate_103 rfl rfl ?_
              rcases v118 with _ | a119
              · exact sm_unN
              refine sm_unS ?_
              refine sm_iaload (pc' := 105) dX11_gate_104 rfl (fun v120 => ?_)
              refine sm_iconst (pc' := 106) (4 : Int32) dX11_gate_105 (by decide) rfl ?_
              refine sm_icmp_ne (pc' := 109) (pc1 := 112) dX11_gate_106 (by decide) rfl (fun _ => ?_) (fun _ => ?_)
              · skip
                refine sm_aload_n (pc' := 113) dX11_gate_112 rfl rfl ?_
                refine sm_iconst (pc' := 114) (0 : Int32) dX11_gate_113 (by decide) rfl ?_
                refine sm_putI (pc' := 117) (gk_X11_128 _ _ _ _ _) ti_11_1 dX11_gate_114 rfl ?_
                refine sm_aload_n (pc' := 118) dX11_gate_117 rfl rfl ?_
                refine sm_getF (pc' := 121) fk_X11_35 yr_11_10 dX11_gate_118 rfl (fun v121 => ?_)
                refine sm_iconst (pc' := 122) (4 : Int32) dX11_gate_121 (by decide) rfl ?_
                refine sm_iload_n (pc' := 123) dX11_gate_122 rfl rfl ?_
                refine sm_imul (pc' := 124) dX11_gate_123 rfl ?_
                refine sm_aload_n (pc' := 125) dX11_gate_124 rfl rfl ?_
                refine sm_getF (pc' := 128) fk_X11_32 yr_11_9 dX11_gate_125 rfl (fun v122 => ?_)
                refine sm_iload_n (pc' := 129) dX11_gate_128 rfl rfl ?_
                rcases v122 with _ | a123
                · exact sm_unN
                refine sm_unS ?_
                refine sm_iaload (pc' := 130) dX11_gate_129 rfl (fun v124 => ?_)
                refine sm_iadd (pc' := 131) dX11_gate_130 rfl ?_
                refine sm_iload_n (pc' := 132) dX11_gate_131 rfl rfl ?_
                rcases v121 with _ | a125
                · exact sm_unN
                refine sm_unS ?_
                refine sm_iastore (pc' := 133) dX11_gate_132 rfl ?_
                refine sm_aload_n (pc' := 134) dX11_gate_133 rfl rfl ?_
                refine sm_getF (pc' := 137) fk_X11_32 yr_11_9 dX11_gate_134 rfl (fun v126 => ?_)
                refine sm_iload_n (pc' := 138) dX11_gate_137 rfl rfl ?_
                refine sm_dup2 (pc' := 139) dX11_gate_138 rfl rfl rfl ?_
                rcases v126 with _ | a127
                · exact sm_unN
                refine sm_unS ?_
                refine sm_iaload (pc' := 140) dX11_gate_139 rfl (fun v128 => ?_)
                refine sm_iconst (pc' := 141) (1 : Int32) dX11_gate_140 (by decide) rfl ?_
                refine sm_iadd (pc' := 142) dX11_gate_141 rfl ?_
                refine sm_iastore (pc' := 143) dX11_gate_142 rfl ?_
                refine sm_aload_n (pc' := 144) dX11_gate_143 rfl rfl ?_
                refine sm_getF (pc' := 147) fk_X11_32 yr_11_9 dX11_gate_144 rfl (fun v129 => ?_)
                refine sm_iload_n (pc' := 148) dX11_gate_147 rfl rfl ?_
                rcases v129 with _ | a130
                · exact sm_unN
                refine sm_unS ?_
                refine sm_iaload (pc' := 149) dX11_gate_148 rfl (fun v131 => ?_)
                refine sm_iconst (pc' := 150) (1 : Int32) dX11_gate_149 (by decide) rfl ?_
                refine sm_isub (pc' := 151) dX11_gate_150 rfl ?_
                exact sm_ireturn rfl dX11_gate_151
              · skip
                refine sm_ldc (pc' := 111) (-1000003 : Int32) w_688 dX11_gate_109 rfl ?_
                exact sm_ireturn rfl dX11_gate_111
            · skip
              refine sm_sub [] rfl ?_
              exact hk117
    · skip
      refine sm_aload_n (pc' := 27) dX11_gate_26 rfl rfl ?_
      refine sm_iload_n (pc' := 28) dX11_gate_27 rfl rfl ?_
      refine sm_calli (pc' := 31) (sa := [iv v102, qv (some th)]) (st := []) (iv_X11_145 th v102) (Nat.le_of_ble_eq_true rfl) dX11_gate_28 rfl (Nat.le_of_ble_eq_true rfl) (fun v132 => ?_)
      exact sm_ireturn rfl dX11_gate_31
  · skip
    refine sm_ldc (pc' := 14) (-1000001 : Int32) w_609 dX11_gate_12 rfl ?_
    exact sm_ireturn rfl dX11_gate_14
theorem kX11_gate (th : Nat) (a1 : Int32) (a2 : Int32) : Callee 2 yX11_gate cX11_gate 6 (some .int) [qv (some th), iv a1, iv a2] vI (pX11_gate th a1 a2) := callee_ofS [(0, qv (some th)), (1, iv a1), (2, iv a2)] (by decide +kernel) (Nat.le_of_ble_eq_true rfl) rfl (sX11_gate th a1 a2)
/-! HollowPressModel.hanging()I -/
abbrev eX11_hanging : Env0 := (RX11, "hanging", cX11_hanging, 3, (some .int), 0)
def pX11_hanging_L4 (th : Nat) (k103 : Int32 → Prg Int32) : Nat → Int32 → Int32 → Prg Int32
  | 0, _, _ => fl
  | n + 1, v101, v102 =>
    gI 11 th 24 fun v104 =>
    (if v104 ≤ v102 then k103 v101
    else gF 11 th 28 fun v105 =>
    un v105 fun a106 =>
    ldI a106 v102 fun v107 =>
    (lt (fun (v108 : Int32) => pX11_hanging_L4 th k103 n (v101 + v108) (v102 + (1 : Int32)) : Int32 → Prg Int32) fun k109 =>
    (if v107 = (-1000000 : Int32) then k109 (0 : Int32)
    else k109 (1 : Int32))))
def pX11_hanging (th : Nat) : Prg Int32 :=
    pX11_hanging_L4 th (fun (v110 : Int32) => rt v110) FL (0 : Int32) (0 : Int32)
set_option maxRecDepth 20000 in
theorem sX11_hanging_L4 (th : Nat) (k103 : Int32 → Prg Int32) (hk103 : ∀ (q1 : Int32), Sim eX11_hanging vI 37 [(1, iv q1)] [] (k103 q1)) : ∀ (n : Nat), ∀ (v101 : Int32) (v102 : Int32), Sim eX11_hanging vI 4 [(0, qv (some th)), (1, iv v101), (2, iv v102)] [] (pX11_hanging_L4 th k103 n v101 v102) := by
  intro n
  induction n with
  | zero =>
    intros
    exact sm_fl
  | succ n ih =>
    intro v101 v102
    unfold pX11_hanging_L4
    refine sm_iload_n (pc' := 5) dX11_hanging_4 rfl rfl ?_
    refine sm_aload_n (pc' := 6) dX11_hanging_5 rfl rfl ?_
    refine sm_getI (pc' := 9) fk_X11_218 nr_11_24 dX11_hanging_6 rfl (fun v104 => ?_)
    refine sm_icmp_ge (pc' := 12) (pc1 := 37) dX11_hanging_9 (by decide) rfl (fun _ => ?_) (fun _ => ?_)
    · skip
      refine sm_sub [1] rfl ?_
      exact hk103 v101
    · skip
      refine sm_iload_n (pc' := 13) dX11_hanging_12 rfl rfl ?_
      refine sm_aload_n (pc' := 14) dX11_hanging_13 rfl rfl ?_
      refine sm_getF (pc' := 17) fk_X11_81 yr_11_28 dX11_hanging_14 rfl (fun v105 => ?_)
      refine sm_iload_n (pc' := 18) dX11_hanging_17 rfl rfl ?_
      rcases v105 with _ | a106
      · exact sm_unN
      refine sm_unS ?_
      refine sm_iaload (pc' := 19) dX11_hanging_18 rfl (fun v107 => ?_)
      refine sm_ldc (pc' := 21) (-1000000 : Int32) w_621 dX11_hanging_19 rfl ?_
      refine sm_lt (fun k109 => ∀ (v108 : Int32), Sim eX11_hanging vI 29 [(0, qv (some th)), (2, iv v102)] [iv v108, iv v101] (k109 v108)) ?_ (fun k109 hk109 => ?_)
      · intro v108
        refine sm_iadd (pc' := 30) dX11_hanging_29 rfl ?_
        refine sm_istore_n (pc' := 31) [(1, iv (v101 + v108)), (0, qv (some th)), (2, iv v102)] dX11_hanging_30 rfl (Nat.le_of_ble_eq_true rfl) rfl rfl ?_
        refine sm_iinc (pc' := 34) (v102 + (1 : Int32)) [(2, iv (v102 + (1 : Int32))), (1, iv (v101 + v108)), (0, qv (some th))] dX11_hanging_31 rfl rfl (Nat.le_of_ble_eq_true rfl) rfl rfl ?_
        refine sm_goto (pc' := 4) dX11_hanging_34 (by decide) ?_
        refine sm_sub [2, 1, 0] rfl ?_
        exact ih (v101 + v108) (v102 + (1 : Int32))
      · skip
        refine sm_icmp_eq (pc' := 24) (pc1 := 28) dX11_hanging_21 (by decide) rfl (fun _ => ?_) (fun _ => ?_)
        · skip
          refine sm_iconst (pc' := 29) (0 : Int32) dX11_hanging_28 (by decide) rfl ?_
          refine sm_sub [0, 2] rfl ?_
          exact hk109 (0 : Int32)
        · skip
          refine sm_iconst (pc' := 25) (1 : Int32) dX11_hanging_24 (by decide) rfl ?_
          refine sm_goto (pc' := 29) dX11_hanging_25 (by decide) ?_
          refine sm_sub [0, 2] rfl ?_
          exact hk109 (1 : Int32)
set_option maxRecDepth 20000 in
theorem sX11_hanging (th : Nat) : Sim eX11_hanging vI 0 [(0, qv (some th))] [] (pX11_hanging th) := by
  unfold pX11_hanging
  refine sm_iconst (pc' := 1) (0 : Int32) dX11_hanging_0 (by decide) rfl ?_
  refine sm_istore_n (pc' := 2) [(1, iv (0 : Int32)), (0, qv (some th))] dX11_hanging_1 rfl (Nat.le_of_ble_eq_true rfl) rfl rfl ?_
  refine sm_iconst (pc' := 3) (0 : Int32) dX11_hanging_2 (by decide) rfl ?_
  refine sm_istore_n (pc' := 4) [(2, iv (0 : Int32)), (1, iv (0 : Int32)), (0, qv (some th))] dX11_hanging_3 rfl (Nat.le_of_ble_eq_true rfl) rfl rfl ?_
  refine sm_sub [2, 1, 0] rfl ?_
  refine sX11_hanging_L4 th _ ?_ FL (0 : Int32) (0 : Int32)
  · intro v110
    refine sm_iload_n (pc' := 38) dX11_hanging_37 rfl rfl ?_
    exact sm_ireturn rfl dX11_hanging_38
theorem kX11_hanging (th : Nat) : Callee 0 yX11_hanging cX11_hanging 3 (some .int) [qv (some th)] vI (pX11_hanging th) := callee_ofS [(0, qv (some th))] (by decide +kernel) (Nat.le_of_ble_eq_true rfl) rfl (sX11_hanging th)
/-! HollowPressModel.hang(II)I -/
set_option maxRecDepth 20000 in
theorem iv_X11_223 (a : Nat)  : Inv RX11 1 (.invokevirtual 223) [qv (some a)] vI (onT a 11 (pX11_hanging a )) := inv_V (As := []) (t := 11) (kX11_hanging a ) _ (by decide) rfl rfl w_707 w_708 w_709 w_585 w_710 ⟨by decide +kernel, by decide +kernel, by show _ = some 0; decide +kernel⟩ (by decide)
abbrev eX11_hang : Env0 := (RX11, "hang", cX11_hang, 4, (some .int), 2)
def pX11_hang (th : Nat) (a1 : Int32) (a2 : Int32) : Prg Int32 :=
    pI 11 th 0 (0 : Int32) (
    gI 11 th 24 fun v101 =>
    cl (pX11_in (Int32.toInt64 a1) (0 : Int64) (Int32.toInt64 (v101 - (1 : Int32)))) fun v102 =>
    (lt (rt (-1000001 : Int32) : Prg Int32) fun k103 =>
    (if v102 = 0 then k103
    else cl (pX11_isPlace a2) fun v104 =>
    (if v104 = 0 then k103
    else gF 11 th 28 fun v105 =>
    un v105 fun a106 =>
    ldI a106 a1 fun v107 =>
    (lt (rt (-1000002 : Int32) : Prg Int32) fun k108 =>
    (if v107 = (-1000000 : Int32) then gF 11 th 15 fun v109 =>
    un v109 fun a110 =>
    ldI a110 a2 fun v111 =>
    (if v111 < 0 then cl (onT th 11 (pX11_asked th a2 (1 : Int32))) fun v112 =>
    (if v112 ≤ 0 then pI 11 th 1 (0 : Int32) (
    gF 11 th 28 fun v113 =>
    un v113 fun a114 =>
    stI a114 a1 a2 (
    gF 11 th 15 fun v115 =>
    un v115 fun a116 =>
    stI a116 a2 a1 (
    cl (onT th 11 (pX11_hanging th)) fun v117 =>
    rt v117)))
    else cl (onT th 11 (pX11_found th v112)) fun v118 =>
    rt v118)
    else k108)
    else k108))))))
set_option maxRecDepth 20000 in
theorem sX11_hang (th : Nat) (a1 : Int32) (a2 : Int32) : Sim eX11_hang vI 0 [(0, qv (some th)), (1, iv a1), (2, iv a2)] [] (pX11_hang th a1 a2) := by
  unfold pX11_hang
  refine sm_aload_n (pc' := 1) dX11_hang_0 rfl rfl ?_
  refine sm_iconst (pc' := 2) (0 : Int32) dX11_hang_1 (by decide) rfl ?_
  refine sm_putI (pc' := 5) (gk_X11_124 _ _ _ _ _) ti_11_0 dX11_hang_2 rfl ?_
  refine sm_iload_n (pc' := 6) dX11_hang_5 rfl rfl ?_
  refine sm_i2l (pc' := 7) dX11_hang_6 rfl ?_
  refine sm_lconst (pc' := 8) (0 : Int64) dX11_hang_7 (by decide) rfl ?_
  refine sm_aload_n (pc' := 9) dX11_hang_8 rfl rfl ?_
  refine sm_getI (pc' := 12) fk_X11_218 nr_11_24 dX11_hang_9 rfl (fun v101 => ?_)
  refine sm_iconst (pc' := 13) (1 : Int32) dX11_hang_12 (by decide) rfl ?_
  refine sm_isub (pc' := 14) dX11_hang_13 rfl ?_
  refine sm_i2l (pc' := 15) dX11_hang_14 rfl ?_
  refine sm_calli (pc' := 18) (sa := [jv (Int32.toInt64 (v101 - (1 : Int32))), jv (0 : Int64), jv (Int32.toInt64 a1)]) (st := []) (iv_X11_134 (Int32.toInt64 a1) (0 : Int64) (Int32.toInt64 (v101 - (1 : Int32)))) (Nat.le_of_ble_eq_true rfl) dX11_hang_15 rfl (Nat.le_of_ble_eq_true rfl) (fun v102 => ?_)
  refine sm_lt (fun k103 => Sim eX11_hang vI 28 [] [] (k103)) ?_ (fun k103 hk103 => ?_)
  · skip
    refine sm_ldc (pc' := 30) (-1000001 : Int32) w_609 dX11_hang_28 rfl ?_
    exact sm_ireturn rfl dX11_hang_30
  · skip
    refine sm_if_eq (pc' := 21) (pc1 := 28) dX11_hang_18 (by decide) rfl (fun _ => ?_) (fun _ => ?_)
    · skip
      refine sm_sub [] rfl ?_
      exact hk103
    · skip
      refine sm_iload_n (pc' := 22) dX11_hang_21 rfl rfl ?_
      refine sm_calli (pc' := 25) (sa := [iv a2]) (st := []) (iv_X11_153 a2) (Nat.le_of_ble_eq_true rfl) dX11_hang_22 rfl (Nat.le_of_ble_eq_true rfl) (fun v104 => ?_)
      refine sm_if_ne (pc' := 28) (pc1 := 31) dX11_hang_25 (by decide) rfl (fun _ => ?_) (fun _ => ?_)
      · skip
        refine sm_aload_n (pc' := 32) dX11_hang_31 rfl rfl ?_
        refine sm_getF (pc' := 35) fk_X11_81 yr_11_28 dX11_hang_32 rfl (fun v105 => ?_)
        refine sm_iload_n (pc' := 36) dX11_hang_35 rfl rfl ?_
        rcases v105 with _ | a106
        · exact sm_unN
        refine sm_unS ?_
        refine sm_iaload (pc' := 37) dX11_hang_36 rfl (fun v107 => ?_)
        refine sm_ldc (pc' := 39) (-1000000 : Int32) w_621 dX11_hang_37 rfl ?_
        refine sm_lt (fun k108 => Sim eX11_hang vI 51 [] [] (k108)) ?_ (fun k108 hk108 => ?_)
        · skip
          refine sm_ldc (pc' := 53) (-1000002 : Int32) w_691 dX11_hang_51 rfl ?_
          exact sm_ireturn rfl dX11_hang_53
        · skip
          refine sm_icmp_ne (pc' := 42) (pc1 := 51) dX11_hang_39 (by decide) rfl (fun _ => ?_) (fun _ => ?_)
          · skip
            refine sm_sub [] rfl ?_
            exact hk108
          · skip
            refine sm_aload_n (pc' := 43) dX11_hang_42 rfl rfl ?_
            refine sm_getF (pc' := 46) fk_X11_51 yr_11_15 dX11_hang_43 rfl (fun v109 => ?_)
            refine sm_iload_n (pc' := 47) dX11_hang_46 rfl rfl ?_
            rcases v109 with _ | a110
            · exact sm_unN
            refine sm_unS ?_
            refine sm_iaload (pc' := 48) dX11_hang_47 rfl (fun v111 => ?_)
            refine sm_if_lt (pc' := 51) (pc1 := 54) dX11_hang_48 (by decide) rfl (fun _ => ?_) (fun _ => ?_)
            · skip
              refine sm_aload_n (pc' := 55) dX11_hang_54 rfl rfl ?_
              refine sm_iload_n (pc' := 56) dX11_hang_55 rfl rfl ?_
              refine sm_iconst (pc' := 57) (1 : Int32) dX11_hang_56 (by decide) rfl ?_
              refine sm_calli (pc' := 60) (sa := [iv (1 : Int32), iv a2, qv (some th)]) (st := []) (iv_X11_187 th a2 (1 : Int32)) (Nat.le_of_ble_eq_true rfl) dX11_hang_57 rfl (Nat.le_of_ble_eq_true rfl) (fun v112 => ?_)
              refine sm_istore_n (pc' := 61) [(3, iv v112), (0, qv (some th)), (1, iv a1), (2, iv a2)] dX11_hang_60 rfl (Nat.le_of_ble_eq_true rfl) rfl rfl ?_
              refine sm_iload_n (pc' := 62) dX11_hang_61 rfl rfl ?_
              refine sm_if_le (pc' := 65) (pc1 := 71) dX11_hang_62 (by decide) rfl (fun _ => ?_) (fun _ => ?_)
              · skip
                refine sm_aload_n (pc' := 72) dX11_hang_71 rfl rfl ?_
                refine sm_iconst (pc' := 73) (0 : Int32) dX11_hang_72 (by decide) rfl ?_
                refine sm_putI (pc' := 76) (gk_X11_128 _ _ _ _ _) ti_11_1 dX11_hang_73 rfl ?_
                refine sm_aload_n (pc' := 77) dX11_hang_76 rfl rfl ?_
                refine sm_getF (pc' := 80) fk_X11_81 yr_11_28 dX11_hang_77 rfl (fun v113 => ?_)
                refine sm_iload_n (pc' := 81) dX11_hang_80 rfl rfl ?_
                refine sm_iload_n (pc' := 82) dX11_hang_81 rfl rfl ?_
                rcases v113 with _ | a114
                · exact sm_unN
                refine sm_unS ?_
                refine sm_iastore (pc' := 83) dX11_hang_82 rfl ?_
                refine sm_aload_n (pc' := 84) dX11_hang_83 rfl rfl ?_
                refine sm_getF (pc' := 87) fk_X11_51 yr_11_15 dX11_hang_84 rfl (fun v115 => ?_)
                refine sm_iload_n (pc' := 88) dX11_hang_87 rfl rfl ?_
                refine sm_iload_n (pc' := 89) dX11_hang_88 rfl rfl ?_
                rcases v115 with _ | a116
                · exact sm_unN
                refine sm_unS ?_
                refine sm_iastore (pc' := 90) dX11_hang_89 rfl ?_
                refine sm_aload_n (pc' := 91) dX11_hang_90 rfl rfl ?_
                refine sm_calli (pc' := 94) (sa := [qv (some th)]) (st := []) (iv_X11_223 th) (Nat.le_of_ble_eq_true rfl) dX11_hang_91 rfl (Nat.le_of_ble_eq_true rfl) (fun v117 => ?_)
                exact sm_ireturn rfl dX11_hang_94
              · skip
                refine sm_aload_n (pc' := 66) dX11_hang_65 rfl rfl ?_
                refine sm_iload_n (pc' := 67) dX11_hang_66 rfl rfl ?_
                refine sm_calli (pc' := 70) (sa := [iv v112, qv (some th)]) (st := []) (iv_X11_145 th v112) (Nat.le_of_ble_eq_true rfl) dX11_hang_67 rfl (Nat.le_of_ble_eq_true rfl) (fun v118 => ?_)
                exact sm_ireturn rfl dX11_hang_70
            · skip
              refine sm_sub [] rfl ?_
              exact hk108
      · skip
        refine sm_sub [] rfl ?_
        exact hk103
theorem kX11_hang (th : Nat) (a1 : Int32) (a2 : Int32) : Callee 2 yX11_hang cX11_hang 4 (some .int) [qv (some th), iv a1, iv a2] vI (pX11_hang th a1 a2) := callee_ofS [(0, qv (some th)), (1, iv a1), (2, iv a2)] (by decide +kernel) (Nat.le_of_ble_eq_true rfl) rfl (sX11_hang th a1 a2)
/-! HollowPressModel.hasItems(III)Z -/
abbrev eX11_hasItems : Env0 := (RX11, "hasItems", cX11_hasItems, 4, (some .boolean), 0)
def pX11_hasItems (th : Nat) (a1 : Int32) (a2 : Int32) (a3 : Int32) : Prg Int32 :=
    (lt (fun (v101 : Int32) => rtZ v101 : Int32 → Prg Int32) fun k102 =>
    (lt (k102 (0 : Int32) : Prg Int32) fun k103 =>
    (if a2 < 0 then k103
    else gF 11 th 3 fun v104 =>
    un v104 fun a105 =>
    ldI a105 a1 fun v106 =>
    (if 0 < (lg_cmp ((Int32.toInt64 a2) + (Int32.toInt64 a3)) (Int32.toInt64 v106)) then k103
    else k102 (1 : Int32)))))
set_option maxRecDepth 20000 in
theorem sX11_hasItems (th : Nat) (a1 : Int32) (a2 : Int32) (a3 : Int32) : Sim eX11_hasItems vI 0 [(0, qv (some th)), (1, iv a1), (2, iv a2), (3, iv a3)] [] (pX11_hasItems th a1 a2 a3) := by
  unfold pX11_hasItems
  refine sm_iload_n (pc' := 1) dX11_hasItems_0 rfl rfl ?_
  refine sm_lt (fun k102 => ∀ (v101 : Int32), Sim eX11_hasItems vI 25 [] [iv v101] (k102 v101)) ?_ (fun k102 hk102 => ?_)
  · intro v101
    exact sm_zreturn rfl dX11_hasItems_25
  · skip
    refine sm_lt (fun k103 => Sim eX11_hasItems vI 24 [] [] (k103)) ?_ (fun k103 hk103 => ?_)
    · skip
      refine sm_iconst (pc' := 25) (0 : Int32) dX11_hasItems_24 (by decide) rfl ?_
      exact hk102 (0 : Int32)
    · skip
      refine sm_if_lt (pc' := 4) (pc1 := 24) dX11_hasItems_1 (by decide) rfl (fun _ => ?_) (fun _ => ?_)
      · skip
        refine sm_sub [] rfl ?_
        exact hk103
      · skip
        refine sm_iload_n (pc' := 5) dX11_hasItems_4 rfl rfl ?_
        refine sm_i2l (pc' := 6) dX11_hasItems_5 rfl ?_
        refine sm_iload_n (pc' := 7) dX11_hasItems_6 rfl rfl ?_
        refine sm_i2l (pc' := 8) dX11_hasItems_7 rfl ?_
        refine sm_ladd (pc' := 9) dX11_hasItems_8 rfl ?_
        refine sm_aload_n (pc' := 10) dX11_hasItems_9 rfl rfl ?_
        refine sm_getF (pc' := 13) fk_X11_13 yr_11_3 dX11_hasItems_10 rfl (fun v104 => ?_)
        refine sm_iload_n (pc' := 14) dX11_hasItems_13 rfl rfl ?_
        rcases v104 with _ | a105
        · exact sm_unN
        refine sm_unS ?_
        refine sm_iaload (pc' := 15) dX11_hasItems_14 rfl (fun v106 => ?_)
        refine sm_i2l (pc' := 16) dX11_hasItems_15 rfl ?_
        refine sm_lcmp (pc' := 17) dX11_hasItems_16 rfl ?_
        refine sm_if_gt (pc' := 20) (pc1 := 24) dX11_hasItems_17 (by decide) rfl (fun _ => ?_) (fun _ => ?_)
        · skip
          refine sm_sub [] rfl ?_
          exact hk103
        · skip
          refine sm_iconst (pc' := 21) (1 : Int32) dX11_hasItems_20 (by decide) rfl ?_
          refine sm_goto (pc' := 25) dX11_hasItems_21 (by decide) ?_
          refine sm_sub [] rfl ?_
          exact hk102 (1 : Int32)
theorem kX11_hasItems (th : Nat) (a1 : Int32) (a2 : Int32) (a3 : Int32) : Callee 0 yX11_hasItems cX11_hasItems 4 (some .boolean) [qv (some th), iv a1, iv a2, iv a3] vI (pX11_hasItems th a1 a2 a3) := callee_ofS [(0, qv (some th)), (1, iv a1), (2, iv a2), (3, iv a3)] (by decide +kernel) (Nat.le_of_ble_eq_true rfl) rfl (sX11_hasItems th a1 a2 a3)
