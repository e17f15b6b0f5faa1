/-! HollowPressModel.best(I)I -/
abbrev eX11_best : Env0 := (RX11, "best", cX11_best, 7, (some .int), 3)
def pX11_best_L42 (th : Nat) (a1 : Int32) (k105 : Int32 → Prg Int32) : Nat → Int32 → Int32 → Prg Int32
  | 0, _, _ => fl
  | n + 1, v103, v104 =>
    (if (144 : Int32) ≤ v104 then k105 v103
    else gF 11 th 8 fun v106 =>
    un v106 fun a107 =>
    ldI a107 (((144 : Int32) * a1) + v104) fun v108 =>
    (lt (fun (v109 : Int32) => pX11_best_L42 th a1 k105 n (v103 + v109) (v104 + (1 : Int32)) : Int32 → Prg Int32) fun k110 =>
    (if v108 ≤ 0 then k110 (0 : Int32)
    else k110 (1 : Int32))))
def pX11_best_L90 (th : Nat) (a1 : Int32) (v111 : Int32) (k115 : Int32 → Prg Int32) : Nat → Int32 → Int32 → Int32 → Prg Int32
  | 0, _, _, _ => fl
  | n + 1, v112, v113, v114 =>
    gF 11 th 6 fun v116 =>
    un v116 fun a117 =>
    ldI a117 a1 fun v118 =>
    gF 11 th 7 fun v119 =>
    un v119 fun a120 =>
    ldI a120 a1 fun v121 =>
    (if (v118 * v121) ≤ v114 then k115 v112
    else gF 11 th 8 fun v122 =>
    un v122 fun a123 =>
    ldI a123 (((144 : Int32) * a1) + v114) fun v124 =>
    (lt (fun (v125 : Int32) (v126 : Int32) => pX11_best_L90 th a1 v111 k115 n v125 v126 (v114 + (1 : Int32)) : Int32 → Int32 → Prg Int32) fun k127 =>
    (if v124 ≤ 0 then k127 v112 v113
    else cl (onT th 11 (pX11_fill th a1 v114)) fun _ =>
    gI 11 th 23 fun v128 =>
    (if v128 = v111 then (lt (cl (onT th 11 (pX11_ends th)) fun v130 =>
    k127 v114 v130 : Prg Int32) fun k129 =>
    (if v112 = (-1000000 : Int32) then k129
    else cl (onT th 11 (pX11_ends th)) fun v131 =>
    (if v113 ≤ v131 then k127 v112 v113
    else k129)))
    else k127 v112 v113))))
def pX11_best (th : Nat) (a1 : Int32) : Prg Int32 :=
    pI 11 th 0 (0 : Int32) (
    cl (pX11_isPlace a1) fun v101 =>
    (if v101 = 0 then rt (-1000001 : Int32)
    else cl (onT th 11 (pX11_asked th a1 (1 : Int32))) fun v102 =>
    (if v102 ≤ 0 then pI 11 th 1 (0 : Int32) (
    pX11_best_L42 th a1 (fun (v111 : Int32) => pX11_best_L90 th a1 v111 (fun (v132 : Int32) => rt v132) FL (-1000000 : Int32) (0 : Int32) (0 : Int32)) FL (0 : Int32) (0 : Int32))
    else cl (onT th 11 (pX11_found th v102)) fun v133 =>
    rt v133)))
set_option maxRecDepth 20000 in
theorem sX11_best_L42 (th : Nat) (a1 : Int32) (k105 : Int32 → Prg Int32) (hk105 : ∀ (q3 : Int32), Sim eX11_best vI 80 [(0, qv (some th)), (1, iv a1), (3, iv q3)] [] (k105 q3)) : ∀ (n : Nat), ∀ (v103 : Int32) (v104 : Int32), Sim eX11_best vI 42 [(0, qv (some th)), (1, iv a1), (3, iv v103), (4, iv v104)] [] (pX11_best_L42 th a1 k105 n v103 v104) := by
  intro n
  induction n with
  | zero =>
    intros
    exact sm_fl
  | succ n ih =>
    intro v103 v104
    unfold pX11_best_L42
    refine sm_iload (pc' := 44) dX11_best_42 rfl rfl ?_
    refine sm_sipush (pc' := 47) (144 : Int32) dX11_best_44 (by decide) rfl ?_
    refine sm_icmp_ge (pc' := 50) (pc1 := 80) dX11_best_47 (by decide) rfl (fun _ => ?_) (fun _ => ?_)
    · skip
      refine sm_sub [0, 1, 2] rfl ?_
      exact hk105 v103
    · skip
      refine sm_iload_n (pc' := 51) dX11_best_50 rfl rfl ?_
      refine sm_aload_n (pc' := 52) dX11_best_51 rfl rfl ?_
      refine sm_getF (pc' := 55) fk_X11_29 yr_11_8 dX11_best_52 rfl (fun v106 => ?_)
      refine sm_sipush (pc' := 58) (144 : Int32) dX11_best_55 (by decide) rfl ?_
      refine sm_iload_n (pc' := 59) dX11_best_58 rfl rfl ?_
      refine sm_imul (pc' := 60) dX11_best_59 rfl ?_
      refine sm_iload (pc' := 62) dX11_best_60 rfl rfl ?_
      refine sm_iadd (pc' := 63) dX11_best_62 rfl ?_
      rcases v106 with _ | a107
      · exact sm_unN
      refine sm_unS ?_
      refine sm_iaload (pc' := 64) dX11_best_63 rfl (fun v108 => ?_)
      refine sm_lt (fun k110 => ∀ (v109 : Int32), Sim eX11_best vI 72 [(0, qv (some th)), (1, iv a1), (4, iv v104)] [iv v109, iv v103] (k110 v109)) ?_ (fun k110 hk110 => ?_)
      · intro v109
        refine sm_iadd (pc' := 73) dX11_best_72 rfl ?_
        refine sm_istore_n (pc' := 74) [(3, iv (v103 + v109)), (0, qv (some th)), (1, iv a1), (4, iv v104)] dX11_best_73 rfl (Nat.le_of_ble_eq_true rfl) rfl rfl ?_
        refine sm_iinc (pc' := 77) (v104 + (1 : Int32)) [(4, iv (v104 + (1 : Int32))), (3, iv (v103 + v109)), (0, qv (some th)), (1, iv a1)] dX11_best_74 rfl rfl (Nat.le_of_ble_eq_true rfl) rfl rfl ?_
        refine sm_goto (pc' := 42) dX11_best_77 (by decide) ?_
        refine sm_sub [2, 3, 1, 0] rfl ?_
        exact ih (v103 + v109) (v104 + (1 : Int32))
      · skip
        refine sm_if_le (pc' := 67) (pc1 := 71) dX11_best_64 (by decide) rfl (fun _ => ?_) (fun _ => ?_)
        · skip
          refine sm_iconst (pc' := 72) (0 : Int32) dX11_best_71 (by decide) rfl ?_
          refine sm_sub [0, 1, 3] rfl ?_
          exact hk110 (0 : Int32)
        · skip
          refine sm_iconst (pc' := 68) (1 : Int32) dX11_best_67 (by decide) rfl ?_
          refine sm_goto (pc' := 72) dX11_best_68 (by decide) ?_
          refine sm_sub [0, 1, 3] rfl ?_
          exact hk110 (1 : Int32)
set_option maxRecDepth 20000 in
theorem sX11_best_L90 (th : Nat) (a1 : Int32) (v111 : Int32) (k115 : Int32 → Prg Int32) (hk115 : ∀ (q4 : Int32), Sim eX11_best vI 171 [(4, iv q4)] [] (k115 q4)) : ∀ (n : Nat), ∀ (v112 : Int32) (v113 : Int32) (v114 : Int32), Sim eX11_best vI 90 [(0, qv (some th)), (1, iv a1), (3, iv v111), (4, iv v112), (5, iv v113), (6, iv v114)] [] (pX11_best_L90 th a1 v111 k115 n v112 v113 v114) := by
  intro n
  induction n with
  | zero =>
    intros
    exact sm_fl
  | succ n ih =>
    intro v112 v113 v114
    unfold pX11_best_L90
    refine sm_iload (pc' := 92) dX11_best_90 rfl rfl ?_
    refine sm_aload_n (pc' := 93) dX11_best_92 rfl rfl ?_
    refine sm_getF (pc' := 96) fk_X11_23 yr_11_6 dX11_best_93 rfl (fun v116 => ?_)
    refine sm_iload_n (pc' := 97) dX11_best_96 rfl rfl ?_
    rcases v116 with _ | a117
    · exact sm_unN
    refine sm_unS ?_
    refine sm_iaload (pc' := 98) dX11_best_97 rfl (fun v118 => ?_)
    refine sm_aload_n (pc' := 99) dX11_best_98 rfl rfl ?_
    refine sm_getF (pc' := 102) fk_X11_26 yr_11_7 dX11_best_99 rfl (fun v119 => ?_)
    refine sm_iload_n (pc' := 103) dX11_best_102 rfl rfl ?_
    rcases v119 with _ | a120
    · exact sm_unN
    refine sm_unS ?_
    refine sm_iaload (pc' := 104) dX11_best_103 rfl (fun v121 => ?_)
    refine sm_imul (pc' := 105) dX11_best_104 rfl ?_
    refine sm_icmp_ge (pc' := 108) (pc1 := 171) dX11_best_105 (by decide) rfl (fun _ => ?_) (fun _ => ?_)
    · skip
      refine sm_sub [3] rfl ?_
      exact hk115 v112
    · skip
      refine sm_aload_n (pc' := 109) dX11_best_108 rfl rfl ?_
      refine sm_getF (pc' := 112) fk_X11_29 yr_11_8 dX11_best_109 rfl (fun v122 => ?_)
      refine sm_sipush (pc' := 115) (144 : Int32) dX11_best_112 (by decide) rfl ?_
      refine sm_iload_n (pc' := 116) dX11_best_115 rfl rfl ?_
      refine sm_imul (pc' := 117) dX11_best_116 rfl ?_
      refine sm_iload (pc' := 119) dX11_best_117 rfl rfl ?_
      refine sm_iadd (pc' := 120) dX11_best_119 rfl ?_
      rcases v122 with _ | a123
      · exact sm_unN
      refine sm_unS ?_
      refine sm_iaload (pc' := 121) dX11_best_120 rfl (fun v124 => ?_)
      refine sm_lt (fun k127 => ∀ (v125 : Int32) (v126 : Int32), Sim eX11_best vI 165 [(0, qv (some th)), (1, iv a1), (3, iv v111), (4, iv v125), (5, iv v126), (6, iv v114)] [] (k127 v125 v126)) ?_ (fun k127 hk127 => ?_)
      · intro v125 v126
        refine sm_iinc (pc' := 168) (v114 + (1 : Int32)) [(6, iv (v114 + (1 : Int32))), (0, qv (some th)), (1, iv a1), (3, iv v111), (4, iv v125), (5, iv v126)] dX11_best_165 rfl rfl (Nat.le_of_ble_eq_true rfl) rfl rfl ?_
        refine sm_goto (pc' := 90) dX11_best_168 (by decide) ?_
        refine sm_sub [1, 2, 3, 4, 5, 0] rfl ?_
        exact ih v125 v126 (v114 + (1 : Int32))
      · skip
        refine sm_if_le (pc' := 124) (pc1 := 165) dX11_best_121 (by decide) rfl (fun _ => ?_) (fun _ => ?_)
        · skip
          exact hk127 v112 v113
        · skip
          refine sm_aload_n (pc' := 125) dX11_best_124 rfl rfl ?_
          refine sm_iload_n (pc' := 126) dX11_best_125 rfl rfl ?_
          refine sm_iload (pc' := 128) dX11_best_126 rfl rfl ?_
          refine sm_callv (pc' := 131) (sa := [iv v114, iv a1, qv (some th)]) (st := []) (iv_X11_209 th a1 v114) (Nat.le_of_ble_eq_true rfl) dX11_best_128 rfl (Nat.le_of_ble_eq_true rfl) (fun _ => ?_)
          refine sm_aload_n (pc' := 132) dX11_best_131 rfl rfl ?_
          refine sm_getI (pc' := 135) fk_X11_195 nr_11_23 dX11_best_132 rfl (fun v128 => ?_)
          refine sm_iload_n (pc' := 136) dX11_best_135 rfl rfl ?_
          refine sm_icmp_ne (pc' := 139) (pc1 := 165) dX11_best_136 (by decide) rfl (fun _ => ?_) (fun _ => ?_)
          · skip
            exact hk127 v112 v113
          · skip
            refine sm_iload (pc' := 141) dX11_best_139 rfl rfl ?_
            refine sm_ldc (pc' := 143) (-1000000 : Int32) w_621 dX11_best_141 rfl ?_
            refine sm_lt (fun k129 => Sim eX11_best vI 155 [(0, qv (some th)), (1, iv a1), (3, iv v111), (6, iv v114)] [] (k129)) ?_ (fun k129 hk129 => ?_)
            · skip
              refine sm_iload (pc' := 157) dX11_best_155 rfl rfl ?_
              refine sm_istore (pc' := 159) [(4, iv v114), (0, qv (some th)), (1, iv a1), (3, iv v111), (6, iv v114)] dX11_best_157  (Nat.le_of_ble_eq_true rfl) rfl rfl ?_
              refine sm_aload_n (pc' := 160) dX11_best_159 rfl rfl ?_
              refine sm_calli (pc' := 163) (sa := [qv (some th)]) (st := []) (iv_X11_215 th) (Nat.le_of_ble_eq_true rfl) dX11_best_160 rfl (Nat.le_of_ble_eq_true rfl) (fun v130 => ?_)
              refine sm_istore (pc' := 165) [(5, iv v130), (4, iv v114), (0, qv (some th)), (1, iv a1), (3, iv v111), (6, iv v114)] dX11_best_163  (Nat.le_of_ble_eq_true rfl) rfl rfl ?_
              refine sm_sub [2, 3, 4, 1, 0, 5] rfl ?_
              exact hk127 v114 v130
            · skip
              refine sm_icmp_eq (pc' := 146) (pc1 := 155) dX11_best_143 (by decide) rfl (fun _ => ?_) (fun _ => ?_)
              · skip
                refine sm_sub [0, 1, 2, 5] rfl ?_
                exact hk129
              · skip
                refine sm_aload_n (pc' := 147) dX11_best_146 rfl rfl ?_
                refine sm_calli (pc' := 150) (sa := [qv (some th)]) (st := []) (iv_X11_215 th) (Nat.le_of_ble_eq_true rfl) dX11_best_147 rfl (Nat.le_of_ble_eq_true rfl) (fun v131 => ?_)
                refine sm_iload (pc' := 152) dX11_best_150 rfl rfl ?_
                refine sm_icmp_ge (pc' := 155) (pc1 := 165) dX11_best_152 (by decide) rfl (fun _ => ?_) (fun _ => ?_)
                · skip
                  exact hk127 v112 v113
                · skip
                  refine sm_sub [0, 1, 2, 5] rfl ?_
                  exact hk129
set_option maxRecDepth 20000 in
theorem sX11_best (th : Nat) (a1 : Int32) : Sim eX11_best vI 0 [(0, qv (some th)), (1, iv a1)] [] (pX11_best th a1) := by
  unfold pX11_best
  refine sm_aload_n (pc' := 1) dX11_best_0 rfl rfl ?_
  refine sm_iconst (pc' := 2) (0 : Int32) dX11_best_1 (by decide) rfl ?_
  refine sm_putI (pc' := 5) (gk_X11_124 _ _ _ _ _) ti_11_0 dX11_best_2 rfl ?_
  refine sm_iload_n (pc' := 6) dX11_best_5 rfl rfl ?_
  refine sm_calli (pc' := 9) (sa := [iv a1]) (st := []) (iv_X11_153 a1) (Nat.le_of_ble_eq_true rfl) dX11_best_6 rfl (Nat.le_of_ble_eq_true rfl) (fun v101 => ?_)
  refine sm_if_ne (pc' := 12) (pc1 := 15) dX11_best_9 (by decide) rfl (fun _ => ?_) (fun _ => ?_)
  · skip
    refine sm_aload_n (pc' := 16) dX11_best_15 rfl rfl ?_
    refine sm_iload_n (pc' := 17) dX11_best_16 rfl rfl ?_
    refine sm_iconst (pc' := 18) (1 : Int32) dX11_best_17 (by decide) rfl ?_
    refine sm_calli (pc' := 21) (sa := [iv (1 : Int32), iv a1, qv (some th)]) (st := []) (iv_X11_187 th a1 (1 : Int32)) (Nat.le_of_ble_eq_true rfl) dX11_best_18 rfl (Nat.le_of_ble_eq_true rfl) (fun v102 => ?_)
    refine sm_istore_n (pc' := 22) [(2, iv v102), (0, qv (some th)), (1, iv a1)] dX11_best_21 rfl (Nat.le_of_ble_eq_true rfl) rfl rfl ?_
    refine sm_iload_n (pc' := 23) dX11_best_22 rfl rfl ?_
    refine sm_if_le (pc' := 26) (pc1 := 32) dX11_best_23 (by decide) rfl (fun _ => ?_) (fun _ => ?_)
    · skip
      refine sm_aload_n (pc' := 33) dX11_best_32 rfl rfl ?_
      refine sm_iconst (pc' := 34) (0 : Int32) dX11_best_33 (by decide) rfl ?_
      refine sm_putI (pc' := 37) (gk_X11_128 _ _ _ _ _) ti_11_1 dX11_best_34 rfl ?_
      refine sm_iconst (pc' := 38) (0 : Int32) dX11_best_37 (by decide) rfl ?_
      refine sm_istore_n (pc' := 39) [(3, iv (0 : Int32)), (2, iv v102), (0, qv (some th)), (1, iv a1)] dX11_best_38 rfl (Nat.le_of_ble_eq_true rfl) rfl rfl ?_
      refine sm_iconst (pc' := 40) (0 : Int32) dX11_best_39 (by decide) rfl ?_
      refine sm_istore (pc' := 42) [(4, iv (0 : Int32)), (3, iv (0 : Int32)), (2, iv v102), (0, qv (some th)), (1, iv a1)] dX11_best_40  (Nat.le_of_ble_eq_true rfl) rfl rfl ?_
      refine sm_sub [3, 4, 1, 0] rfl ?_
      refine sX11_best_L42 th a1 _ ?_ FL (0 : Int32) (0 : Int32)
      · intro v111
        refine sm_ldc (pc' := 82) (-1000000 : Int32) w_621 dX11_best_80 rfl ?_
        refine sm_istore (pc' := 84) [(4, iv (-1000000 : Int32)), (0, qv (some th)), (1, iv a1), (3, iv v111)] dX11_best_82  (Nat.le_of_ble_eq_true rfl) rfl rfl ?_
        refine sm_iconst (pc' := 85) (0 : Int32) dX11_best_84 (by decide) rfl ?_
        refine sm_istore (pc' := 87) [(5, iv (0 : Int32)), (4, iv (-1000000 : Int32)), (0, qv (some th)), (1, iv a1), (3, iv v111)] dX11_best_85  (Nat.le_of_ble_eq_true rfl) rfl rfl ?_
        refine sm_iconst (pc' := 88) (0 : Int32) dX11_best_87 (by decide) rfl ?_
        refine sm_istore (pc' := 90) [(6, iv (0 : Int32)), (5, iv (0 : Int32)), (4, iv (-1000000 : Int32)), (0, qv (some th)), (1, iv a1), (3, iv v111)] dX11_best_88  (Nat.le_of_ble_eq_true rfl) rfl rfl ?_
        refine sm_sub [3, 4, 5, 2, 1, 0] rfl ?_
        refine sX11_best_L90 th a1 v111 _ ?_ FL (-1000000 : Int32) (0 : Int32) (0 : Int32)
        · intro v132
          refine sm_iload (pc' := 173) dX11_best_171 rfl rfl ?_
          exact sm_ireturn rfl dX11_best_173
    · skip
      refine sm_aload_n (pc' := 27) dX11_best_26 rfl rfl ?_
      refine sm_iload_n (pc' := 28) dX11_best_27 rfl rfl ?_
      refine sm_calli (pc' := 31) (sa := [iv v102, qv (some th)]) (st := []) (iv_X11_145 th v102) (Nat.le_of_ble_eq_true rfl) dX11_best_28 rfl (Nat.le_of_ble_eq_true rfl) (fun v133 => ?_)
      exact sm_ireturn rfl dX11_best_31
  · skip
    refine sm_ldc (pc' := 14) (-1000001 : Int32) w_609 dX11_best_12 rfl ?_
    exact sm_ireturn rfl dX11_best_14
theorem kX11_best (th : Nat) (a1 : Int32) : Callee 3 yX11_best cX11_best 7 (some .int) [qv (some th), iv a1] vI (pX11_best th a1) := callee_ofS [(0, qv (some th)), (1, iv a1)] (by decide +kernel) (Nat.le_of_ble_eq_true rfl) rfl (sX11_best th a1)
/-! HollowPressModel.branch(III)I -/
abbrev eX11_branch : Env0 := (RX11, "branch", cX11_branch, 4, (some .int), 1)
def pX11_branch (th : Nat) (a1 : Int32) (a2 : Int32) (a3 : Int32) : Prg Int32 :=
    pI 11 th 0 (0 : Int32) (
    (lt (rt (-1000001 : Int32) : Prg Int32) fun k101 =>
    (lt (cl (pX11_in (Int32.toInt64 a2) (1 : Int64) (50 : Int64)) fun v103 =>
    (if v103 = 0 then k101
    else cl (pX11_in (Int32.toInt64 a3) (1 : Int64) (9 : Int64)) fun v104 =>
    (if v104 = 0 then k101
    else gI 11 th 24 fun v105 =>
    (if v105 = (8 : Int32) then rt (-1000003 : Int32)
    else gF 11 th 25 fun v106 =>
    gI 11 th 24 fun v107 =>
    un v106 fun a108 =>
    stI a108 v107 a1 (
    gF 11 th 26 fun v109 =>
    gI 11 th 24 fun v110 =>
    un v109 fun a111 =>
    stI a111 v110 a2 (
    gF 11 th 27 fun v112 =>
    gI 11 th 24 fun v113 =>
    un v112 fun a114 =>
    stI a114 v113 a3 (
    gF 11 th 28 fun v115 =>
    gI 11 th 24 fun v116 =>
    un v115 fun a117 =>
    stI a117 v116 (-1000000 : Int32) (
    gI 11 th 24 fun v118 =>
    pI 11 th 24 (v118 + (1 : Int32)) (
    gI 11 th 24 fun v119 =>
    rt (v119 - (1 : Int32)))))))))) : Prg Int32) fun k102 =>
    (if a1 = (-1000000 : Int32) then k102
    else gI 11 th 24 fun v120 =>
    cl (pX11_in (Int32.toInt64 a1) (0 : Int64) (Int32.toInt64 (v120 - (1 : Int32)))) fun v121 =>
    (if v121 = 0 then k101
    else k102)))))
set_option maxRecDepth 20000 in
theorem sX11_branch (th : Nat) (a1 : Int32) (a2 : Int32) (a3 : Int32) : Sim eX11_branch vI 0 [(0, qv (some th)), (1, iv a1), (2, iv a2), (3, iv a3)] [] (pX11_branch th a1 a2 a3) := by
  unfold pX11_branch
  refine sm_aload_n (pc' := 1) dX11_branch_0 rfl rfl ?_
  refine sm_iconst (pc' := 2) (0 : Int32) dX11_branch_1 (by decide) rfl ?_
  refine sm_putI (pc' := 5) (gk_X11_124 _ _ _ _ _) ti_11_0 dX11_branch_2 rfl ?_
  refine sm_iload_n (pc' := 6) dX11_branch_5 rfl rfl ?_
  refine sm_ldc (pc' := 8) (-1000000 : Int32) w_621 dX11_branch_6 rfl ?_
  refine sm_lt (fun k101 => Sim eX11_branch vI 51 [] [] (k101)) ?_ (fun k101 hk101 => ?_)
  · skip
    refine sm_ldc (pc' := 53) (-1000001 : Int32) w_609 dX11_branch_51 rfl ?_
    exact sm_ireturn rfl dX11_branch_53
  · skip
    refine sm_lt (fun k102 => Sim eX11_branch vI 27 [(0, qv (some th)), (1, iv a1), (2, iv a2), (3, iv a3)] [] (k102)) ?_ (fun k102 hk102 => ?_)
    · skip
      refine sm_iload_n (pc' := 28) dX11_branch_27 rfl rfl ?_
      refine sm_i2l (pc' := 29) dX11_branch_28 rfl ?_
      refine sm_lconst (pc' := 30) (1 : Int64) dX11_branch_29 (by decide) rfl ?_
      refine sm_ldc2 (pc' := 33) (50 : Int64) w_687 dX11_branch_30 rfl ?_
      refine sm_calli (pc' := 36) (sa := [jv (50 : Int64), jv (1 : Int64), jv (Int32.toInt64 a2)]) (st := []) (iv_X11_134 (Int32.toInt64 a2) (1 : Int64) (50 : Int64)) (Nat.le_of_ble_eq_true rfl) dX11_branch_33 rfl (Nat.le_of_ble_eq_true rfl) (fun v103 => ?_)
      refine sm_if_eq (pc' := 39) (pc1 := 51) dX11_branch_36 (by decide) rfl (fun _ => ?_) (fun _ => ?_)
      · skip
        refine sm_sub [] rfl ?_
        exact hk101
      · skip
        refine sm_iload_n (pc' := 40) dX11_branch_39 rfl rfl ?_
        refine sm_i2l (pc' := 41) dX11_branch_40 rfl ?_
        refine sm_lconst (pc' := 42) (1 : Int64) dX11_branch_41 (by decide) rfl ?_
        refine sm_ldc2 (pc' := 45) (9 : Int64) w_582 dX11_branch_42 rfl ?_
        refine sm_calli (pc' := 48) (sa := [jv (9 : Int64), jv (1 : Int64), jv (Int32.toInt64 a3)]) (st := []) (iv_X11_134 (Int32.toInt64 a3) (1 : Int64) (9 : Int64)) (Nat.le_of_ble_eq_true rfl) dX11_branch_45 rfl (Nat.le_of_ble_eq_true rfl) (fun v104 => ?_)
        refine sm_if_ne (pc' := 51) (pc1 := 54) dX11_branch_48 (by decide) rfl (fun _ => ?_) (fun _ => ?_)
        · skip
          refine sm_aload_n (pc' := 55) dX11_branch_54 rfl rfl ?_
          refine sm_getI (pc' := 58) fk_X11_218 nr_11_24 dX11_branch_55 rfl (fun v105 => ?_)
          refine sm_bipush (pc' := 60) (8 : Int32) dX11_branch_58 (by decide) rfl ?_
          refine sm_icmp_ne (pc' := 63) (pc1 := 66) dX11_branch_60 (by decide) rfl (fun _ => ?_) (fun _ => ?_)
          · skip
            refine sm_aload_n (pc' := 67) dX11_branch_66 rfl rfl ?_
            refine sm_getF (pc' := 70) fk_X11_72 yr_11_25 dX11_branch_67 rfl (fun v106 => ?_)
            refine sm_aload_n (pc' := 71) dX11_branch_70 rfl rfl ?_
            refine sm_getI (pc' := 74) fk_X11_218 nr_11_24 dX11_branch_71 rfl (fun v107 => ?_)
            refine sm_iload_n (pc' := 75) dX11_branch_74 rfl rfl ?_
            rcases v106 with _ | a108
            · exact sm_unN
            refine sm_unS ?_
            refine sm_iastore (pc' := 76) dX11_branch_75 rfl ?_
            refine sm_aload_n (pc' := 77) dX11_branch_76 rfl rfl ?_
            refine sm_getF (pc' := 80) fk_X11_75 yr_11_26 dX11_branch_77 rfl (fun v109 => ?_)
            refine sm_aload_n (pc' := 81) dX11_branch_80 rfl rfl ?_
            refine sm_getI (pc' := 84) fk_X11_218 nr_11_24 dX11_branch_81 rfl (fun v110 => ?_)
            refine sm_iload_n (pc' := 85) dX11_branch_84 rfl rfl ?_
            rcases v109 with _ | a111
            · exact sm_unN
            refine sm_unS ?_
            refine sm_iastore (pc' := 86) dX11_branch_85 rfl ?_
            refine sm_aload_n (pc' := 87) dX11_branch_86 rfl rfl ?_
            refine sm_getF (pc' := 90) fk_X11_78 yr_11_27 dX11_branch_87 rfl (fun v112 => ?_)
            refine sm_aload_n (pc' := 91) dX11_branch_90 rfl rfl ?_
            refine sm_getI (pc' := 94) fk_X11_218 nr_11_24 dX11_branch_91 rfl (fun v113 => ?_)
            refine sm_iload_n (pc' := 95) dX11_branch_94 rfl rfl ?_
            rcases v112 with _ | a114
            · exact sm_unN
            refine sm_unS ?_
            refine sm_iastore (pc' := 96) dX11_branch_95 rfl ?_
            refine sm_aload_n (pc' := 97) dX11_branch_96 rfl rfl ?_
            refine sm_getF (pc' := 100) fk_X11_81 yr_11_28 dX11_branch_97 rfl (fun v115 => ?_)
            refine sm_aload_n (pc' := 101) dX11_branch_100 rfl rfl ?_
            refine sm_getI (pc' := 104) fk_X11_218 nr_11_24 dX11_branch_101 rfl (fun v116 => ?_)
            refine sm_ldc (pc' := 106) (-1000000 : Int32) w_621 dX11_branch_104 rfl ?_
            rcases v115 with _ | a117
            · exact sm_unN
            refine sm_unS ?_
            refine sm_iastore (pc' := 107) dX11_branch_106 rfl ?_
            refine sm_aload_n (pc' := 108) dX11_branch_107 rfl rfl ?_
            refine sm_dup (pc' := 109) dX11_branch_108 rfl rfl ?_
            refine sm_getI (pc' := 112) fk_X11_218 nr_11_24 dX11_branch_109 rfl (fun v118 => ?_)
            refine sm_iconst (pc' := 113) (1 : Int32) dX11_branch_112 (by decide) rfl ?_
            refine sm_iadd (pc' := 114) dX11_branch_113 rfl ?_
            refine sm_putI (pc' := 117) (gk_X11_218 _ _ _ _ _) ti_11_24 dX11_branch_114 rfl ?_
            refine sm_aload_n (pc' := 118) dX11_branch_117 rfl rfl ?_
            refine sm_getI (pc' := 121) fk_X11_218 nr_11_24 dX11_branch_118 rfl (fun v119 => ?_)
            refine sm_iconst (pc' := 122) (1 : Int32) dX11_branch_121 (by decide) rfl ?_
            refine sm_isub (pc' := 123) dX11_branch_122 rfl ?_
            exact sm_ireturn rfl dX11_branch_123
          · skip
            refine sm_ldc (pc' := 65) (-1000003 : Int32) w_688 dX11_branch_63 rfl ?_
            exact sm_ireturn rfl dX11_branch_65
        · skip
          refine sm_sub [] rfl ?_
          exact hk101
    · skip
      refine sm_icmp_eq (pc' := 11) (pc1 := 27) dX11_branch_8 (by decide) rfl (fun _ => ?_) (fun _ => ?_)
      · skip
        exact hk102
      · skip
        refine sm_iload_n (pc' := 12) dX11_branch_11 rfl rfl ?_
        refine sm_i2l (pc' := 13) dX11_branch_12 rfl ?_
        refine sm_lconst (pc' := 14) (0 : Int64) dX11_branch_13 (by decide) rfl ?_
        refine sm_aload_n (pc' := 15) dX11_branch_14 rfl rfl ?_
        refine sm_getI (pc' := 18) fk_X11_218 nr_11_24 dX11_branch_15 rfl (fun v120 => ?_)
        refine sm_iconst (pc' := 19) (1 : Int32) dX11_branch_18 (by decide) rfl ?_
        refine sm_isub (pc' := 20) dX11_branch_19 rfl ?_
        refine sm_i2l (pc' := 21) dX11_branch_20 rfl ?_
        refine sm_calli (pc' := 24) (sa := [jv (Int32.toInt64 (v120 - (1 : Int32))), jv (0 : Int64), jv (Int32.toInt64 a1)]) (st := []) (iv_X11_134 (Int32.toInt64 a1) (0 : Int64) (Int32.toInt64 (v120 - (1 : Int32)))) (Nat.le_of_ble_eq_true rfl) dX11_branch_21 rfl (Nat.le_of_ble_eq_true rfl) (fun v121 => ?_)
        refine sm_if_eq (pc' := 27) (pc1 := 51) dX11_branch_24 (by decide) rfl (fun _ => ?_) (fun _ => ?_)
        · skip
          refine sm_sub [] rfl ?_
          exact hk101
        · skip
          exact hk102
theorem kX11_branch (th : Nat) (a1 : Int32) (a2 : Int32) (a3 : Int32) : Callee 1 yX11_branch cX11_branch 4 (some .int) [qv (some th), iv a1, iv a2, iv a3] vI (pX11_branch th a1 a2 a3) := callee_ofS [(0, qv (some th)), (1, iv a1), (2, iv a2), (3, iv a3)] (by decide +kernel) (Nat.le_of_ble_eq_true rfl) rfl (sX11_branch th a1 a2 a3)
/-! HollowPressModel.cell(III)I -/
abbrev eX11_cell : Env0 := (RX11, "cell", cX11_cell, 7, (some .int), 3)
def pX11_cell_L98 (th : Nat) (a1 : Int32) (a2 : Int32) (k128 : Int32 → Prg Int32) : Nat → Int32 → Int32 → Prg Int32
  | 0, _, _ => fl
  | n + 1, v126, v127 =>
    gF 11 th 21 fun v129 =>
    un v129 fun a130 =>
    ldI a130 a2 fun v131 =>
    (if v131 < v127 then k128 v126
    else gF 11 th 8 fun v132 =>
    gF 11 th 20 fun v133 =>
    un v133 fun a134 =>
    ldI a134 v127 fun v135 =>
    un v132 fun a136 =>
    ldI a136 (((144 : Int32) * a1) + v135) fun v137 =>
    pX11_cell_L98 th a1 a2 k128 n (v126 + v137) (v127 + (1 : Int32)))
def pX11_cell (th : Nat) (a1 : Int32) (a2 : Int32) (a3 : Int32) : Prg Int32 :=
    pI 11 th 0 (0 : Int32) (
    cl (pX11_isPlace a1) fun v101 =>
    (lt (rt (-1000001 : Int32) : Prg Int32) fun k102 =>
    (if v101 = 0 then k102
    else cl (pX11_in (Int32.toInt64 a3) (0 : Int64) (4 : Int64)) fun v103 =>
    (if v103 = 0 then k102
    else cl (onT th 11 (pX11_asked th a1 (1 : Int32))) fun v104 =>
    (if v104 ≤ 0 then gF 11 th 6 fun v105 =>
    un v105 fun a106 =>
    ldI a106 a1 fun v107 =>
    gF 11 th 7 fun v108 =>
    un v108 fun a109 =>
    ldI a109 a1 fun v110 =>
    cl (pX11_in (Int32.toInt64 a2) (0 : Int64) (Int32.toInt64 ((v107 * v110) - (1 : Int32)))) fun v111 =>
    (if v111 = 0 then rt (-1000001 : Int32)
    else pI 11 th 1 (0 : Int32) (
    cl (onT th 11 (pX11_fill th a1 (-1000000 : Int32))) fun _ =>
    (if a3 = (4 : Int32) then pX11_cell_L98 th a1 a2 (fun (v138 : Int32) => gF 11 th 21 fun v139 =>
    un v139 fun a140 =>
    ldI a140 a2 fun v141 =>
    (lt (fun (v142 : Int32) => rt v142 : Int32 → Prg Int32) fun k143 =>
    (if v141 = (-1000000 : Int32) then k143 (-1000000 : Int32)
    else k143 v138))) FL (0 : Int32) (0 : Int32)
    else (lt (fun (v112 : Int32) => rt v112 : Int32 → Prg Int32) fun k113 =>
    (if a3 = 0 then gF 11 th 8 fun v123 =>
    un v123 fun a124 =>
    ldI a124 (((144 : Int32) * a1) + a2) fun v125 =>
    k113 v125
    else (if a3 = (1 : Int32) then gF 11 th 18 fun v120 =>
    un v120 fun a121 =>
    ldI a121 a2 fun v122 =>
    k113 v122
    else (if a3 = (2 : Int32) then gF 11 th 19 fun v117 =>
    un v117 fun a118 =>
    ldI a118 a2 fun v119 =>
    k113 v119
    else gF 11 th 21 fun v114 =>
    un v114 fun a115 =>
    ldI a115 a2 fun v116 =>
    k113 v116)))))))
    else cl (onT th 11 (pX11_found th v104)) fun v144 =>
    rt v144)))))
set_option maxRecDepth 20000 in
theorem sX11_cell_L98 (th : Nat) (a1 : Int32) (a2 : Int32) (k128 : Int32 → Prg Int32) (hk128 : ∀ (q5 : Int32), Sim eX11_cell vI 138 [(0, qv (some th)), (2, iv a2), (5, iv q5)] [] (k128 q5)) : ∀ (n : Nat), ∀ (v126 : Int32) (v127 : Int32), Sim eX11_cell vI 98 [(0, qv (some th)), (1, iv a1), (2, iv a2), (5, iv v126), (6, iv v127)] [] (pX11_cell_L98 th a1 a2 k128 n v126 v127) := by
  intro n
  induction n with
  | zero =>
    intros
    exact sm_fl
  | succ n ih =>
    intro v126 v127
    unfold pX11_cell_L98
    refine sm_iload (pc' := 100) dX11_cell_98 rfl rfl ?_
    refine sm_aload_n (pc' := 101) dX11_cell_100 rfl rfl ?_
    refine sm_getF (pc' := 104) fk_X11_66 yr_11_21 dX11_cell_101 rfl (fun v129 => ?_)
    refine sm_iload_n (pc' := 105) dX11_cell_104 rfl rfl ?_
    rcases v129 with _ | a130
    · exact sm_unN
    refine sm_unS ?_
    refine sm_iaload (pc' := 106) dX11_cell_105 rfl (fun v131 => ?_)
    refine sm_icmp_gt (pc' := 109) (pc1 := 138) dX11_cell_106 (by decide) rfl (fun _ => ?_) (fun _ => ?_)
    · skip
      refine sm_sub [0, 2, 3] rfl ?_
      exact hk128 v126
    · skip
      refine sm_iload (pc' := 111) dX11_cell_109 rfl rfl ?_
      refine sm_aload_n (pc' := 112) dX11_cell_111 rfl rfl ?_
      refine sm_getF (pc' := 115) fk_X11_29 yr_11_8 dX11_cell_112 rfl (fun v132 => ?_)
      refine sm_sipush (pc' := 118) (144 : Int32) dX11_cell_115 (by decide) rfl ?_
      refine sm_iload_n (pc' := 119) dX11_cell_118 rfl rfl ?_
      refine sm_imul (pc' := 120) dX11_cell_119 rfl ?_
      refine sm_aload_n (pc' := 121) dX11_cell_120 rfl rfl ?_
      refine sm_getF (pc' := 124) fk_X11_63 yr_11_20 dX11_cell_121 rfl (fun v133 => ?_)
      refine sm_iload (pc' := 126) dX11_cell_124 rfl rfl ?_
      rcases v133 with _ | a134
      · exact sm_unN
      refine sm_unS ?_
      refine sm_iaload (pc' := 127) dX11_cell_126 rfl (fun v135 => ?_)
      refine sm_iadd (pc' := 128) dX11_cell_127 rfl ?_
      rcases v132 with _ | a136
      · exact sm_unN
      refine sm_unS ?_
      refine sm_iaload (pc' := 129) dX11_cell_128 rfl (fun v137 => ?_)
      refine sm_iadd (pc' := 130) dX11_cell_129 rfl ?_
      refine sm_istore (pc' := 132) [(5, iv (v126 + v137)), (0, qv (some th)), (1, iv a1), (2, iv a2), (6, iv v127)] dX11_cell_130  (Nat.le_of_ble_eq_true rfl) rfl rfl ?_
      refine sm_iinc (pc' := 135) (v127 + (1 : Int32)) [(6, iv (v127 + (1 : Int32))), (5, iv (v126 + v137)), (0, qv (some th)), (1, iv a1), (2, iv a2)] dX11_cell_132 rfl rfl (Nat.le_of_ble_eq_true rfl) rfl rfl ?_
      refine sm_goto (pc' := 98) dX11_cell_135 (by decide) ?_
      refine sm_sub [2, 3, 4, 1, 0] rfl ?_
      exact ih (v126 + v137) (v127 + (1 : Int32))
set_option maxRecDepth 20000 in
theorem sX11_cell (th : Nat) (a1 : Int32) (a2 : Int32) (a3 : Int32) : Sim eX11_cell vI 0 [(0, qv (some th)), (1, iv a1), (2, iv a2), (3, iv a3)] [] (pX11_cell th a1 a2 a3) := by
  unfold pX11_cell
  refine sm_aload_n (pc' := 1) dX11_cell_0 rfl rfl ?_
  refine sm_iconst (pc' := 2) (0 : Int32) dX11_cell_1 (by decide) rfl ?_
  refine sm_putI (pc' := 5) (gk_X11_124 _ _ _ _ _) ti_11_0 dX11_cell_2 rfl ?_
  refine sm_iload_n (pc' := 6) dX11_cell_5 rfl rfl ?_
  refine sm_calli (pc' := 9) (sa := [iv a1]) (st := []) (iv_X11_153 a1) (Nat.le_of_ble_eq_true rfl) dX11_cell_6 rfl (Nat.le_of_ble_eq_true rfl) (fun v101 => ?_)
  refine sm_lt (fun k102 => Sim eX11_cell vI 24 [] [] (k102)) ?_ (fun k102 hk102 => ?_)
  · skip
    refine sm_ldc (pc' := 26) (-1000001 : Int32) w_609 dX11_cell_24 rfl ?_
    exact sm_ireturn rfl dX11_cell_26
  · skip
    refine sm_if_eq (pc' := 12) (pc1 := 24) dX11_cell_9 (by decide) rfl (fun _ => ?_) (fun _ => ?_)
    · skip
      refine sm_sub [] rfl ?_
      exact hk102
    · skip
      refine sm_iload_n (pc' := 13) dX11_cell_12 rfl rfl ?_
      refine sm_i2l (pc' := 14) dX11_cell_13 rfl ?_
      refine sm_lconst (pc' := 15) (0 : Int64) dX11_cell_14 (by decide) rfl ?_
      refine sm_ldc2 (pc' := 18) (4 : Int64) w_689 dX11_cell_15 rfl ?_
      refine sm_calli (pc' := 21) (sa := [jv (4 : Int64), jv (0 : Int64), jv (Int32.toInt64 a3)]) (st := []) (iv_X11_134 (Int32.toInt64 a3) (0 : Int64) (4 : Int64)) (Nat.le_of_ble_eq_true rfl) dX11_cell_18 rfl (Nat.le_of_ble_eq_true rfl) (fun v103 => ?_)
      refine sm_if_ne (pc' := 24) (pc1 := 27) dX11_cell_21 (by decide) rfl (fun _ => ?_) (fun _ => ?_)
      · skip
        refine sm_aload_n (pc' := 28) dX11_cell_27 rfl rfl ?_
        refine sm_iload_n (pc' := 29) dX11_cell_28 rfl rfl ?_
        refine sm_iconst (pc' := 30) (1 : Int32) dX11_cell_29 (by decide) rfl ?_
        refine sm_calli (pc' := 33) (sa := [iv (1 : Int32), iv a1, qv (some th)]) (st := []) (iv_X11_187 th a1 (1 : Int32)) (Nat.le_of_ble_eq_true rfl) dX11_cell_30 rfl (Nat.le_of_ble_eq_true rfl) (fun v104 => ?_)
        refine sm_istore (pc' := 35) [(4, iv v104), (0, qv (some th)), (1, iv a1), (2, iv a2), (3, iv a3)] dX11_cell_33  (Nat.le_of_ble_eq_true rfl) rfl rfl ?_
        refine sm_iload (pc' := 37) dX11_cell_35 rfl rfl ?_
        refine sm_if_le (pc' := 40) (pc1 := 47) dX11_cell_37 (by decide) rfl (fun _ => ?_) (fun _ => ?_)
        · skip
          refine sm_iload_n (pc' := 48) dX11_cell_47 rfl rfl ?_
          refine sm_i2l (pc' := 49) dX11_cell_48 rfl ?_
          refine sm_lconst (pc' := 50) (0 : Int64) dX11_cell_49 (by decide) rfl ?_
          refine sm_aload_n (pc' := 51) dX11_cell_50 rfl rfl ?_
          refine sm_getF (pc' := 54) fk_X11_23 yr_11_6 dX11_cell_51 rfl (fun v105 => ?_)
          refine sm_iload_n (pc' := 55) dX11_cell_54 rfl rfl ?_
          rcases v105 with _ | a106
          · exact sm_unN
          refine sm_unS ?_
          refine sm_iaload (pc' := 56) dX11_cell_55 rfl (fun v107 => ?_)
          refine sm_aload_n (pc' := 57) dX11_cell_56 rfl rfl ?_
          refine sm_getF (pc' := 60) fk_X11_26 yr_11_7 dX11_cell_57 rfl (fun v108 => ?_)
          refine sm_iload_n (pc' := 61) dX11_cell_60 rfl rfl ?_
          rcases v108 with _ | a109
          · exact sm_unN
          refine sm_unS ?_
          refine sm_iaload (pc' := 62) dX11_cell_61 rfl (fun v110 => ?_)
          refine sm_imul (pc' := 63) dX11_cell_62 rfl ?_
          refine sm_iconst (pc' := 64) (1 : Int32) dX11_cell_63 (by decide) rfl ?_
          refine sm_isub (pc' := 65) dX11_cell_64 rfl ?_
          refine sm_i2l (pc' := 66) dX11_cell_65 rfl ?_
          refine sm_calli (pc' := 69) (sa := [jv (Int32.toInt64 ((v107 * v110) - (1 : Int32))), jv (0 : Int64), jv (Int32.toInt64 a2)]) (st := []) (iv_X11_134 (Int32.toInt64 a2) (0 : Int64) (Int32.toInt64 ((v107 * v110) - (1 : Int32)))) (Nat.le_of_ble_eq_true rfl) dX11_cell_66 rfl (Nat.le_of_ble_eq_true rfl) (fun v111 => ?_)
          refine sm_if_ne (pc' := 72) (pc1 := 75) dX11_cell_69 (by decide) rfl (fun _ => ?_) (fun _ => ?_)
          · skip
            refine sm_aload_n (pc' := 76) dX11_cell_75 rfl rfl ?_
            refine sm_iconst (pc' := 77) (0 : Int32) dX11_cell_76 (by decide) rfl ?_
            refine sm_putI (pc' := 80) (gk_X11_128 _ _ _ _ _) ti_11_1 dX11_cell_77 rfl ?_
            refine sm_aload_n (pc' := 81) dX11_cell_80 rfl rfl ?_
            refine sm_iload_n (pc' := 82) dX11_cell_81 rfl rfl ?_
            refine sm_ldc (pc' := 84) (-1000000 : Int32) w_621 dX11_cell_82 rfl ?_
            refine sm_callv (pc' := 87) (sa := [iv (-1000000 : Int32), iv a1, qv (some th)]) (st := []) (iv_X11_209 th a1 (-1000000 : Int32)) (Nat.le_of_ble_eq_true rfl) dX11_cell_84 rfl (Nat.le_of_ble_eq_true rfl) (fun _ => ?_)
            refine sm_iload_n (pc' := 88) dX11_cell_87 rfl rfl ?_
            refine sm_iconst (pc' := 89) (4 : Int32) dX11_cell_88 (by decide) rfl ?_
            refine sm_icmp_ne (pc' := 92) (pc1 := 157) dX11_cell_89 (by decide) rfl (fun _ => ?_) (fun _ => ?_)
            · skip
              refine sm_iload_n (pc' := 158) dX11_cell_157 rfl rfl ?_
              refine sm_lt (fun k113 => ∀ (v112 : Int32), Sim eX11_cell vI 210 [] [iv v112] (k113 v112)) ?_ (fun k113 hk113 => ?_)
              · intro v112
                exact sm_ireturn rfl dX11_cell_210
              · skip
                refine sm_if_ne (pc' := 161) (pc1 := 176) dX11_cell_158 (by decide) rfl (fun _ => ?_) (fun _ => ?_)
                · skip
                  refine sm_iload_n (pc' := 177) dX11_cell_176 rfl rfl ?_
                  refine sm_iconst (pc' := 178) (1 : Int32) dX11_cell_177 (by decide) rfl ?_
                  refine sm_icmp_ne (pc' := 181) (pc1 := 190) dX11_cell_178 (by decide) rfl (fun _ => ?_) (fun _ => ?_)
                  · skip
                    refine sm_iload_n (pc' := 191) dX11_cell_190 rfl rfl ?_
                    refine sm_iconst (pc' := 192) (2 : Int32) dX11_cell_191 (by decide) rfl ?_
                    refine sm_icmp_ne (pc' := 195) (pc1 := 204) dX11_cell_192 (by decide) rfl (fun _ => ?_) (fun _ => ?_)
                    · skip
                      refine sm_aload_n (pc' := 205) dX11_cell_204 rfl rfl ?_
                      refine sm_getF (pc' := 208) fk_X11_66 yr_11_21 dX11_cell_205 rfl (fun v114 => ?_)
                      refine sm_iload_n (pc' := 209) dX11_cell_208 rfl rfl ?_
                      rcases v114 with _ | a115
                      · exact sm_unN
                      refine sm_unS ?_
                      refine sm_iaload (pc' := 210) dX11_cell_209 rfl (fun v116 => ?_)
                      refine sm_sub [] rfl ?_
                      exact hk113 v116
                    · skip
                      refine sm_aload_n (pc' := 196) dX11_cell_195 rfl rfl ?_
                      refine sm_getF (pc' := 199) fk_X11_60 yr_11_19 dX11_cell_196 rfl (fun v117 => ?_)
                      refine sm_iload_n (pc' := 200) dX11_cell_199 rfl rfl ?_
                      rcases v117 with _ | a118
                      · exact sm_unN
                      refine sm_unS ?_
                      refine sm_iaload (pc' := 201) dX11_cell_200 rfl (fun v119 => ?_)
                      refine sm_goto (pc' := 210) dX11_cell_201 (by decide) ?_
                      refine sm_sub [] rfl ?_
                      exact hk113 v119
                  · skip
                    refine sm_aload_n (pc' := 182) dX11_cell_181 rfl rfl ?_
                    refine sm_getF (pc' := 185) fk_X11_57 yr_11_18 dX11_cell_182 rfl (fun v120 => ?_)
                    refine sm_iload_n (pc' := 186) dX11_cell_185 rfl rfl ?_
                    rcases v120 with _ | a121
                    · exact sm_unN
                    refine sm_unS ?_
                    refine sm_iaload (pc' := 187) dX11_cell_186 rfl (fun v122 => ?_)
                    refine sm_goto (pc' := 210) dX11_cell_187 (by decide) ?_
                    refine sm_sub [] rfl ?_
                    exact hk113 v122
                · skip
                  refine sm_aload_n (pc' := 162) dX11_cell_161 rfl rfl ?_
                  refine sm_getF (pc' := 165) fk_X11_29 yr_11_8 dX11_cell_162 rfl (fun v123 => ?_)
                  refine sm_sipush (pc' := 168) (144 : Int32) dX11_cell_165 (by decide) rfl ?_
                  refine sm_iload_n (pc' := 169) dX11_cell_168 rfl rfl ?_
                  refine sm_imul (pc' := 170) dX11_cell_169 rfl ?_
                  refine sm_iload_n (pc' := 171) dX11_cell_170 rfl rfl ?_
                  refine sm_iadd (pc' := 172) dX11_cell_171 rfl ?_
                  rcases v123 with _ | a124
                  · exact sm_unN
                  refine sm_unS ?_
                  refine sm_iaload (pc' := 173) dX11_cell_172 rfl (fun v125 => ?_)
                  refine sm_goto (pc' := 210) dX11_cell_173 (by decide) ?_
                  refine sm_sub [] rfl ?_
                  exact hk113 v125
            · skip
              refine sm_iconst (pc' := 93) (0 : Int32) dX11_cell_92 (by decide) rfl ?_
              refine sm_istore (pc' := 95) [(5, iv (0 : Int32)), (4, iv v104), (0, qv (some th)), (1, iv a1), (2, iv a2), (3, iv a3)] dX11_cell_93  (Nat.le_of_ble_eq_true rfl) rfl rfl ?_
              refine sm_iconst (pc' := 96) (0 : Int32) dX11_cell_95 (by decide) rfl ?_
              refine sm_istore (pc' := 98) [(6, iv (0 : Int32)), (5, iv (0 : Int32)), (4, iv v104), (0, qv (some th)), (1, iv a1), (2, iv a2), (3, iv a3)] dX11_cell_96  (Nat.le_of_ble_eq_true rfl) rfl rfl ?_
              refine sm_sub [3, 4, 5, 1, 0] rfl ?_
              refine sX11_cell_L98 th a1 a2 _ ?_ FL (0 : Int32) (0 : Int32)
              · intro v138
                refine sm_aload_n (pc' := 139) dX11_cell_138 rfl rfl ?_
                refine sm_getF (pc' := 142) fk_X11_66 yr_11_21 dX11_cell_139 rfl (fun v139 => ?_)
                refine sm_iload_n (pc' := 143) dX11_cell_142 rfl rfl ?_
                rcases v139 with _ | a140
                · exact sm_unN
                refine sm_unS ?_
                refine sm_iaload (pc' := 144) dX11_cell_143 rfl (fun v141 => ?_)
                refine sm_ldc (pc' := 146) (-1000000 : Int32) w_621 dX11_cell_144 rfl ?_
                refine sm_lt (fun k143 => ∀ (v142 : Int32), Sim eX11_cell vI 156 [] [iv v142] (k143 v142)) ?_ (fun k143 hk143 => ?_)
                · intro v142
                  exact sm_ireturn rfl dX11_cell_156
                · skip
                  refine sm_icmp_ne (pc' := 149) (pc1 := 154) dX11_cell_146 (by decide) rfl (fun _ => ?_) (fun _ => ?_)
                  · skip
                    refine sm_iload (pc' := 156) dX11_cell_154 rfl rfl ?_
                    refine sm_sub [] rfl ?_
                    exact hk143 v138
                  · skip
                    refine sm_ldc (pc' := 151) (-1000000 : Int32) w_621 dX11_cell_149 rfl ?_
                    refine sm_goto (pc' := 156) dX11_cell_151 (by decide) ?_
                    refine sm_sub [] rfl ?_
                    exact hk143 (-1000000 : Int32)
          · skip
            refine sm_ldc (pc' := 74) (-1000001 : Int32) w_609 dX11_cell_72 rfl ?_
            exact sm_ireturn rfl dX11_cell_74
        · skip
          refine sm_aload_n (pc' := 41) dX11_cell_40 rfl rfl ?_
          refine sm_iload (pc' := 43) dX11_cell_41 rfl rfl ?_
          refine sm_calli (pc' := 46) (sa := [iv v104, qv (some th)]) (st := []) (iv_X11_145 th v104) (Nat.le_of_ble_eq_true rfl) dX11_cell_43 rfl (Nat.le_of_ble_eq_true rfl) (fun v144 => ?_)
          exact sm_ireturn rfl dX11_cell_46
      · skip
        refine sm_sub [] rfl ?_
        exact hk102
theorem kX11_cell (th : Nat) (a1 : Int32) (a2 : Int32) (a3 : Int32) : Callee 3 yX11_cell cX11_cell 7 (some .int) [qv (some th), iv a1, iv a2, iv a3] vI (pX11_cell th a1 a2 a3) := callee_ofS [(0, qv (some th)), (1, iv a1), (2, iv a2), (3, iv a3)] (by decide +kernel) (Nat.le_of_ble_eq_true rfl) rfl (sX11_cell th a1 a2 a3)
/-! HollowPressModel.clear(I)I -/
abbrev eX11_clear : Env0 := (RX11, "clear", cX11_clear, 3, (some .int), 2)
def pX11_clear (th : Nat) (a1 : Int32) : Prg Int32 :=
    pI 11 th 0 (0 : Int32) (
    cl (pX11_isPlace a1) fun v101 =>
    (if v101 = 0 then rt (-1000001 : Int32)
    else gF 11 th 15 fun v102 =>
    un v102 fun a103 =>
    ldI a103 a1 fun v104 =>
    (if v104 < 0 then gF 11 th 5 fun v105 =>
    un v105 fun a106 =>
    ldI a106 a1 fun v107 =>
    (lt (fun (v108 : Int32) => gF 11 th 5 fun v110 =>
    un v110 fun a111 =>
    stI a111 a1 (-1 : Int32) (
    rt v108) : Int32 → Prg Int32) fun k109 =>
    (if 0 ≤ v107 then k109 (1 : Int32)
    else k109 (0 : Int32)))
    else rt (-1000002 : Int32))))
set_option maxRecDepth 20000 in
theorem sX11_clear (th : Nat) (a1 : Int32) : Sim eX11_clear vI 0 [(0, qv (some th)), (1, iv a1)] [] (pX11_clear th a1) := by
  unfold pX11_clear
  refine sm_aload_n (pc' := 1) dX11_clear_0 rfl rfl ?_
  refine sm_iconst (pc' := 2) (0 : Int32) dX11_clear_1 (by decide) rfl ?_
  refine sm_putI (pc' := 5) (gk_X11_124 _ _ _ _ _) ti_11_0 dX11_clear_2 rfl ?_
  refine sm_iload_n (pc' := 6) dX11_clear_5 rfl rfl ?_
  refine sm_calli (pc' := 9) (sa := [iv a1]) (st := []) (iv_X11_153 a1) (Nat.le_of_ble_eq_true rfl) dX11_clear_6 rfl (Nat.le_of_ble_eq_true rfl) (fun v101 => ?_)
  refine sm_if_ne (pc' := 12) (pc1 := 15) dX11_clear_9 (by decide) rfl (fun _ => ?_) (fun _ => ?_)
  · skip
    refine sm_aload_n (pc' := 16) dX11_clear_15 rfl rfl ?_
    refine sm_getF (pc' := 19) fk_X11_51 yr_11_15 dX11_clear_16 rfl (fun v102 => ?_)
    refine sm_iload_n (pc' := 20) dX11_clear_19 rfl rfl ?_
    rcases v102 with _ | a103
    · exact sm_unN
    refine sm_unS ?_
    refine sm_iaload (pc' := 21) dX11_clear_20 rfl (fun v104 => ?_)
    refine sm_if_lt (pc' := 24) (pc1 := 27) dX11_clear_21 (by decide) rfl (fun _ => ?_) (fun _ => ?_)
    · skip
      refine sm_aload_n (pc' := 28) dX11_clear_27 rfl rfl ?_
      refine sm_getF (pc' := 31) fk_X11_20 yr_11_5 dX11_clear_28 rfl (fun v105 => ?_)
      refine sm_iload_n (pc' := 32) dX11_clear_31 rfl rfl ?_
      rcases v105 with _ | a106
      · exact sm_unN
      refine sm_unS ?_
      refine sm_iaload (pc' := 33) dX11_clear_32 rfl (fun v107 => ?_)
      refine sm_lt (fun k109 => ∀ (v108 : Int32), Sim eX11_clear vI 41 [(0, qv (some th)), (1, iv a1)] [iv v108] (k109 v108)) ?_ (fun k109 hk109 => ?_)
      · intro v108
        refine sm_istore_n (pc' := 42) [(2, iv v108), (0, qv (some th)), (1, iv a1)] dX11_clear_41 rfl (Nat.le_of_ble_eq_true rfl) rfl rfl ?_
        refine sm_aload_n (pc' := 43) dX11_clear_42 rfl rfl ?_
        refine sm_getF (pc' := 46) fk_X11_20 yr_11_5 dX11_clear_43 rfl (fun v110 => ?_)
        refine sm_iload_n (pc' := 47) dX11_clear_46 rfl rfl ?_
        refine sm_iconst (pc' := 48) (-1 : Int32) dX11_clear_47 (by decide) rfl ?_
        rcases v110 with _ | a111
        · exact sm_unN
        refine sm_unS ?_
        refine sm_iastore (pc' := 49) dX11_clear_48 rfl ?_
        refine sm_iload_n (pc' := 50) dX11_clear_49 rfl rfl ?_
        exact sm_ireturn rfl dX11_clear_50
      · skip
        refine sm_if_ge (pc' := 36) (pc1 := 40) dX11_clear_33 (by decide) rfl (fun _ => ?_) (fun _ => ?_)
        · skip
          refine sm_iconst (pc' := 41) (1 : Int32) dX11_clear_40 (by decide) rfl ?_
          exact hk109 (1 : Int32)
        · skip
          refine sm_iconst (pc' := 37) (0 : Int32) dX11_clear_36 (by decide) rfl ?_
          refine sm_goto (pc' := 41) dX11_clear_37 (by decide) ?_
          exact hk109 (0 : Int32)
    · skip
      refine sm_ldc (pc' := 26) (-1000002 : Int32) w_691 dX11_clear_24 rfl ?_
      exact sm_ireturn rfl dX11_clear_26
  · skip
    refine sm_ldc (pc' := 14) (-1000001 : Int32) w_609 dX11_clear_12 rfl ?_
    exact sm_ireturn rfl dX11_clear_14
theorem kX11_clear (th : Nat) (a1 : Int32) : Callee 2 yX11_clear cX11_clear 3 (some .int) [qv (some th), iv a1] vI (pX11_clear th a1) := callee_ofS [(0, qv (some th)), (1, iv a1)] (by decide +kernel) (Nat.le_of_ble_eq_true rfl) rfl (sX11_clear th a1)
/-! HollowPressModel.isSheet(I)Z -/
abbrev eX11_isSheet : Env0 := (RX11, "isSheet", cX11_isSheet, 1, (some .boolean), 1)
def pX11_isSheet (a1 : Int32) : Prg Int32 :=
    cl (pX11_in (Int32.toInt64 a1) (0 : Int64) (7 : Int64)) fun v101 =>
    rtZ v101
set_option maxRecDepth 20000 in
theorem sX11_isSheet (a1 : Int32) : Sim eX11_isSheet vI 0 [(0, iv a1)] [] (pX11_isSheet a1) := by
  unfold pX11_isSheet
  refine sm_iload_n (pc' := 1) dX11_isSheet_0 rfl rfl ?_
  refine sm_i2l (pc' := 2) dX11_isSheet_1 rfl ?_
  refine sm_lconst (pc' := 3) (0 : Int64) dX11_isSheet_2 (by decide) rfl ?_
  refine sm_ldc2 (pc' := 6) (7 : Int64) w_692 dX11_isSheet_3 rfl ?_
  refine sm_calli (pc' := 9) (sa := [jv (7 : Int64), jv (0 : Int64), jv (Int32.toInt64 a1)]) (st := []) (iv_X11_134 (Int32.toInt64 a1) (0 : Int64) (7 : Int64)) (Nat.le_of_ble_eq_true rfl) dX11_isSheet_6 rfl (Nat.le_of_ble_eq_true rfl) (fun v101 => ?_)
  exact sm_zreturn rfl dX11_isSheet_9
theorem kX11_isSheet (a1 : Int32) : Callee 1 yX11_isSheet cX11_isSheet 1 (some .boolean) [iv a1] vI (pX11_isSheet a1) := callee_ofS [(0, iv a1)] (by decide +kernel) (Nat.le_of_ble_eq_true rfl) rfl (sX11_isSheet a1)
/-! HollowPressModel.copy(IIIII)I -/
set_option maxRecDepth 20000 in
theorem iv_X11_138 (x0 : Int32) : Inv RX11 2 (.invokestatic 138) [iv x0] vI (pX11_isSheet x0) := inv_S (As := [iv x0]) (kX11_isSheet x0) w_693 w_694 w_585 w_695 ⟨by decide +kernel, by decide +kernel, by show _ = some 1; decide +kernel⟩ (by decide)
abbrev eX11_copy : Env0 := (RX11, "copy", cX11_copy, 9, (some .int), 2)
def pX11_copy_L143 (th : Nat) (a1 : Int32) (a2 : Int32) (a3 : Int32) (a4 : Int32) (a5 : Int32) (v126 : Int32) (k129 : Prg Int32) : Nat → Int32 → Prg Int32
  | 0, _ => fl
  | n + 1, v128 =>
    (if a5 ≤ v128 then k129
    else (lt (fun (v130 : Int32) => gF 11 th 4 fun v132 =>
    gF 11 th 4 fun v133 =>
    un v133 fun a134 =>
    ldJ a134 ((((144 : Int32) * a1) + a2) + v130) fun v135 =>
    un v132 fun a136 =>
    stJ a136 ((((144 : Int32) * a3) + a4) + v130) v135 (
    pX11_copy_L143 th a1 a2 a3 a4 a5 v126 k129 n (v128 + (1 : Int32))) : Int32 → Prg Int32) fun k131 =>
    (if v126 = 0 then k131 ((a5 - (1 : Int32)) - v128)
    else k131 v128)))
def pX11_copy (th : Nat) (a1 : Int32) (a2 : Int32) (a3 : Int32) (a4 : Int32) (a5 : Int32) : Prg Int32 :=
    pI 11 th 0 (0 : Int32) (
    cl (pX11_isSheet a1) fun v101 =>
    (lt (rt (-1000001 : Int32) : Prg Int32) fun k102 =>
    (if v101 = 0 then k102
    else cl (pX11_isSheet a3) fun v103 =>
    (if v103 = 0 then k102
    else pI 11 th 1 (0 : Int32) (
    gF 11 th 2 fun v104 =>
    un v104 fun a105 =>
    ldI a105 a1 fun v106 =>
    (lt (cl (onT th 11 (pX11_found th (1 : Int32))) fun v108 =>
    rt v108 : Prg Int32) fun k107 =>
    (if v106 < 0 then k107
    else gF 11 th 2 fun v109 =>
    un v109 fun a110 =>
    ldI a110 a3 fun v111 =>
    (if 0 ≤ v111 then gF 11 th 2 fun v112 =>
    un v112 fun a113 =>
    ldI a113 a1 fun v114 =>
    gF 11 th 2 fun v115 =>
    un v115 fun a116 =>
    ldI a116 a3 fun v117 =>
    (if v114 = v117 then (lt (cl (onT th 11 (pX11_found th (2 : Int32))) fun v119 =>
    rt v119 : Prg Int32) fun k118 =>
    (if a2 < 0 then k118
    else (if a4 < 0 then k118
    else (if a5 < 0 then k118
    else gF 11 th 3 fun v120 =>
    un v120 fun a121 =>
    ldI a121 a1 fun v122 =>
    (if 0 < (lg_cmp ((Int32.toInt64 a2) + (Int32.toInt64 a5)) (Int32.toInt64 v122)) then k118
    else gF 11 th 3 fun v123 =>
    un v123 fun a124 =>
    ldI a124 a3 fun v125 =>
    (if (lg_cmp ((Int32.toInt64 a4) + (Int32.toInt64 a5)) (Int32.toInt64 v125)) ≤ 0 then (lt (fun (v126 : Int32) => pX11_copy_L143 th a1 a2 a3 a4 a5 v126 (rt a5) FL (0 : Int32) : Int32 → Prg Int32) fun k127 =>
    (if a2 < a4 then k127 (0 : Int32)
    else k127 (1 : Int32)))
    else k118))))))
    else cl (onT th 11 (pX11_found th (5 : Int32))) fun v137 =>
    rt v137)
    else k107))))))))
set_option maxRecDepth 20000 in
theorem sX11_copy_L143 (th : Nat) (a1 : Int32) (a2 : Int32) (a3 : Int32) (a4 : Int32) (a5 : Int32) (v126 : Int32) (k129 : Prg Int32) (hk129 : Sim eX11_copy vI 206 [(5, iv a5)] [] (k129)) : ∀ (n : Nat), ∀ (v128 : Int32), Sim eX11_copy vI 143 [(0, qv (some th)), (1, iv a1), (2, iv a2), (3, iv a3), (4, iv a4), (5, iv a5), (6, iv v126), (7, iv v128)] [] (pX11_copy_L143 th a1 a2 a3 a4 a5 v126 k129 n v128) := by
  intro n
  induction n with
  | zero =>
    intros
    exact sm_fl
  | succ n ih =>
    intro v128
    unfold pX11_copy_L143
    refine sm_iload (pc' := 145) dX11_copy_143 rfl rfl ?_
    refine sm_iload (pc' := 147) dX11_copy_145 rfl rfl ?_
    refine sm_icmp_ge (pc' := 150) (pc1 := 206) dX11_copy_147 (by decide) rfl (fun _ => ?_) (fun _ => ?_)
    · skip
      refine sm_sub [5] rfl ?_
      exact hk129
    · skip
      refine sm_iload (pc' := 152) dX11_copy_150 rfl rfl ?_
      refine sm_lt (fun k131 => ∀ (v130 : Int32), Sim eX11_copy vI 167 [(0, qv (some th)), (1, iv a1), (2, iv a2), (3, iv a3), (4, iv a4), (5, iv a5), (6, iv v126), (7, iv v128)] [iv v130] (k131 v130)) ?_ (fun k131 hk131 => ?_)
      · intro v130
        refine sm_istore (pc' := 169) [(8, iv v130), (0, qv (some th)), (1, iv a1), (2, iv a2), (3, iv a3), (4, iv a4), (5, iv a5), (6, iv v126), (7, iv v128)] dX11_copy_167  (Nat.le_of_ble_eq_true rfl) rfl rfl ?_
        refine sm_aload_n (pc' := 170) dX11_copy_169 rfl rfl ?_
        refine sm_getF (pc' := 173) fk_X11_16 yr_11_4 dX11_copy_170 rfl (fun v132 => ?_)
        refine sm_sipush (pc' := 176) (144 : Int32) dX11_copy_173 (by decide) rfl ?_
        refine sm_iload_n (pc' := 177) dX11_copy_176 rfl rfl ?_
        refine sm_imul (pc' := 178) dX11_copy_177 rfl ?_
        refine sm_iload (pc' := 180) dX11_copy_178 rfl rfl ?_
        refine sm_iadd (pc' := 181) dX11_copy_180 rfl ?_
        refine sm_iload (pc' := 183) dX11_copy_181 rfl rfl ?_
        refine sm_iadd (pc' := 184) dX11_copy_183 rfl ?_
        refine sm_aload_n (pc' := 185) dX11_copy_184 rfl rfl ?_
        refine sm_getF (pc' := 188) fk_X11_16 yr_11_4 dX11_copy_185 rfl (fun v133 => ?_)
        refine sm_sipush (pc' := 191) (144 : Int32) dX11_copy_188 (by decide) rfl ?_
        refine sm_iload_n (pc' := 192) dX11_copy_191 rfl rfl ?_
        refine sm_imul (pc' := 193) dX11_copy_192 rfl ?_
        refine sm_iload_n (pc' := 194) dX11_copy_193 rfl rfl ?_
        refine sm_iadd (pc' := 195) dX11_copy_194 rfl ?_
        refine sm_iload (pc' := 197) dX11_copy_195 rfl rfl ?_
        refine sm_iadd (pc' := 198) dX11_copy_197 rfl ?_
        rcases v133 with _ | a134
        · exact sm_unN
        refine sm_unS ?_
        refine sm_laload (pc' := 199) dX11_copy_198 rfl (fun v135 => ?_)
        rcases v132 with _ | a136
        · exact sm_unN
        refine sm_unS ?_
        refine sm_lastore (pc' := 200) dX11_copy_199 rfl ?_
        refine sm_iinc (pc' := 203) (v128 + (1 : Int32)) [(7, iv (v128 + (1 : Int32))), (8, iv v130), (0, qv (some th)), (1, iv a1), (2, iv a2), (3, iv a3), (4, iv a4), (5, iv a5), (6, iv v126)] dX11_copy_200 rfl rfl (Nat.le_of_ble_eq_true rfl) rfl rfl ?_
        refine sm_goto (pc' := 143) dX11_copy_203 (by decide) ?_
        refine sm_sub [2, 3, 4, 5, 6, 7, 8, 0] rfl ?_
        exact ih (v128 + (1 : Int32))
      · skip
        refine sm_if_eq (pc' := 155) (pc1 := 160) dX11_copy_152 (by decide) rfl (fun _ => ?_) (fun _ => ?_)
        · skip
          refine sm_iload (pc' := 162) dX11_copy_160 rfl rfl ?_
          refine sm_iconst (pc' := 163) (1 : Int32) dX11_copy_162 (by decide) rfl ?_
          refine sm_isub (pc' := 164) dX11_copy_163 rfl ?_
          refine sm_iload (pc' := 166) dX11_copy_164 rfl rfl ?_
          refine sm_isub (pc' := 167) dX11_copy_166 rfl ?_
          exact hk131 ((a5 - (1 : Int32)) - v128)
        · skip
          refine sm_iload (pc' := 157) dX11_copy_155 rfl rfl ?_
          refine sm_goto (pc' := 167) dX11_copy_157 (by decide) ?_
          exact hk131 v128
set_option maxRecDepth 20000 in
theorem sX11_copy (th : Nat) (a1 : Int32) (a2 : Int32) (a3 : Int32) (a4 : Int32) (a5 : Int32) : Sim eX11_copy vI 0 [(0, qv (some th)), (1, iv a1), (2, iv a2), (3, iv a3), (4, iv a4), (5, iv a5)] [] (pX11_copy th a1 a2 a3 a4 a5) := by
  unfold pX11_copy
  refine sm_aload_n (pc' := 1) dX11_copy_0 rfl rfl ?_
  refine sm_iconst (pc' := 2) (0 : Int32) dX11_copy_1 (by decide) rfl ?_
  refine sm_putI (pc' := 5) (gk_X11_124 _ _ _ _ _) ti_11_0 dX11_copy_2 rfl ?_
  refine sm_iload_n (pc' := 6) dX11_copy_5 rfl rfl ?_
  refine sm_calli (pc' := 9) (sa := [iv a1]) (st := []) (iv_X11_138 a1) (Nat.le_of_ble_eq_true rfl) dX11_copy_6 rfl (Nat.le_of_ble_eq_true rfl) (fun v101 => ?_)
  refine sm_lt (fun k102 => Sim eX11_copy vI 19 [] [] (k102)) ?_ (fun k102 hk102 => ?_)
  · skip
    refine sm_ldc (pc' := 21) (-1000001 : Int32) w_609 dX11_copy_19 rfl ?_
    exact sm_ireturn rfl dX11_copy_21
  · skip
    refine sm_if_eq (pc' := 12) (pc1 := 19) dX11_copy_9 (by decide) rfl (fun _ => ?_) (fun _ => ?_)
    · skip
      refine sm_sub [] rfl ?_
      exact hk102
    · skip
      refine sm_iload_n (pc' := 13) dX11_copy_12 rfl rfl ?_
      refine sm_calli (pc' := 16) (sa := [iv a3]) (st := []) (iv_X11_138 a3) (Nat.le_of_ble_eq_true rfl) dX11_copy_13 rfl (Nat.le_of_ble_eq_true rfl) (fun v103 => ?_)
      refine sm_if_ne (pc' := 19) (pc1 := 22) dX11_copy_16 (by decide) rfl (fun _ => ?_) (fun _ => ?_)
      · skip
        refine sm_aload_n (pc' := 23) dX11_copy_22 rfl rfl ?_
        refine sm_iconst (pc' := 24) (0 : Int32) dX11_copy_23 (by decide) rfl ?_
        refine sm_putI (pc' := 27) (gk_X11_128 _ _ _ _ _) ti_11_1 dX11_copy_24 rfl ?_
        refine sm_aload_n (pc' := 28) dX11_copy_27 rfl rfl ?_
        refine sm_getF (pc' := 31) fk_X11_7 yr_11_2 dX11_copy_28 rfl (fun v104 => ?_)
        refine sm_iload_n (pc' := 32) dX11_copy_31 rfl rfl ?_
        rcases v104 with _ | a105
        · exact sm_unN
        refine sm_unS ?_
        refine sm_iaload (pc' := 33) dX11_copy_32 rfl (fun v106 => ?_)
        refine sm_lt (fun k107 => Sim eX11_copy vI 45 [(0, qv (some th))] [] (k107)) ?_ (fun k107 hk107 => ?_)
        · skip
          refine sm_aload_n (pc' := 46) dX11_copy_45 rfl rfl ?_
          refine sm_iconst (pc' := 47) (1 : Int32) dX11_copy_46 (by decide) rfl ?_
          refine sm_calli (pc' := 50) (sa := [iv (1 : Int32), qv (some th)]) (st := []) (iv_X11_145 th (1 : Int32)) (Nat.le_of_ble_eq_true rfl) dX11_copy_47 rfl (Nat.le_of_ble_eq_true rfl) (fun v108 => ?_)
          exact sm_ireturn rfl dX11_copy_50
        · skip
          refine sm_if_lt (pc' := 36) (pc1 := 45) dX11_copy_33 (by decide) rfl (fun _ => ?_) (fun _ => ?_)
          · skip
            refine sm_sub [0] rfl ?_
            exact hk107
          · skip
            refine sm_aload_n (pc' := 37) dX11_copy_36 rfl rfl ?_
            refine sm_getF (pc' := 40) fk_X11_7 yr_11_2 dX11_copy_37 rfl (fun v109 => ?_)
            refine sm_iload_n (pc' := 41) dX11_copy_40 rfl rfl ?_
            rcases v109 with _ | a110
            · exact sm_unN
            refine sm_unS ?_
            refine sm_iaload (pc' := 42) dX11_copy_41 rfl (fun v111 => ?_)
            refine sm_if_ge (pc' := 45) (pc1 := 51) dX11_copy_42 (by decide) rfl (fun _ => ?_) (fun _ => ?_)
            · skip
              refine sm_aload_n (pc' := 52) dX11_copy_51 rfl rfl ?_
              refine sm_getF (pc' := 55) fk_X11_7 yr_11_2 dX11_copy_52 rfl (fun v112 => ?_)
              refine sm_iload_n (pc' := 56) dX11_copy_55 rfl rfl ?_
              rcases v112 with _ | a113
              · exact sm_unN
              refine sm_unS ?_
              refine sm_iaload (pc' := 57) dX11_copy_56 rfl (fun v114 => ?_)
              refine sm_aload_n (pc' := 58) dX11_copy_57 rfl rfl ?_
              refine sm_getF (pc' := 61) fk_X11_7 yr_11_2 dX11_copy_58 rfl (fun v115 => ?_)
              refine sm_iload_n (pc' := 62) dX11_copy_61 rfl rfl ?_
              rcases v115 with _ | a116
              · exact sm_unN
              refine sm_unS ?_
              refine sm_iaload (pc' := 63) dX11_copy_62 rfl (fun v117 => ?_)
              refine sm_icmp_eq (pc' := 66) (pc1 := 72) dX11_copy_63 (by decide) rfl (fun _ => ?_) (fun _ => ?_)
              · skip
                refine sm_iload_n (pc' := 73) dX11_copy_72 rfl rfl ?_
                refine sm_lt (fun k118 => Sim eX11_copy vI 121 [(0, qv (some th))] [] (k118)) ?_ (fun k118 hk118 => ?_)
                · skip
                  refine sm_aload_n (pc' := 122) dX11_copy_121 rfl rfl ?_
                  refine sm_iconst (pc' := 123) (2 : Int32) dX11_copy_122 (by decide) rfl ?_
                  refine sm_calli (pc' := 126) (sa := [iv (2 : Int32), qv (some th)]) (st := []) (iv_X11_145 th (2 : Int32)) (Nat.le_of_ble_eq_true rfl) dX11_copy_123 rfl (Nat.le_of_ble_eq_true rfl) (fun v119 => ?_)
                  exact sm_ireturn rfl dX11_copy_126
                · skip
                  refine sm_if_lt (pc' := 76) (pc1 := 121) dX11_copy_73 (by decide) rfl (fun _ => ?_) (fun _ => ?_)
                  · skip
                    refine sm_sub [0] rfl ?_
                    exact hk118
                  · skip
                    refine sm_iload (pc' := 78) dX11_copy_76 rfl rfl ?_
                    refine sm_if_lt (pc' := 81) (pc1 := 121) dX11_copy_78 (by decide) rfl (fun _ => ?_) (fun _ => ?_)
                    · skip
                      refine sm_sub [0] rfl ?_
                      exact hk118
                    · skip
                      refine sm_iload (pc' := 83) dX11_copy_81 rfl rfl ?_
                      refine sm_if_lt (pc' := 86) (pc1 := 121) dX11_copy_83 (by decide) rfl (fun _ => ?_) (fun _ => ?_)
                      · skip
                        refine sm_sub [0] rfl ?_
                        exact hk118
                      · skip
                        refine sm_iload_n (pc' := 87) dX11_copy_86 rfl rfl ?_
                        refine sm_i2l (pc' := 88) dX11_copy_87 rfl ?_
                        refine sm_iload (pc' := 90) dX11_copy_88 rfl rfl ?_
                        refine sm_i2l (pc' := 91) dX11_copy_90 rfl ?_
                        refine sm_ladd (pc' := 92) dX11_copy_91 rfl ?_
                        refine sm_aload_n (pc' := 93) dX11_copy_92 rfl rfl ?_
                        refine sm_getF (pc' := 96) fk_X11_13 yr_11_3 dX11_copy_93 rfl (fun v120 => ?_)
                        refine sm_iload_n (pc' := 97) dX11_copy_96 rfl rfl ?_
                        rcases v120 with _ | a121
                        · exact sm_unN
                        refine sm_unS ?_
                        refine sm_iaload (pc' := 98) dX11_copy_97 rfl (fun v122 => ?_)
                        refine sm_i2l (pc' := 99) dX11_copy_98 rfl ?_
                        refine sm_lcmp (pc' := 100) dX11_copy_99 rfl ?_
                        refine sm_if_gt (pc' := 103) (pc1 := 121) dX11_copy_100 (by decide) rfl (fun _ => ?_) (fun _ => ?_)
                        · skip
                          refine sm_sub [0] rfl ?_
                          exact hk118
                        · skip
                          refine sm_iload (pc' := 105) dX11_copy_103 rfl rfl ?_
                          refine sm_i2l (pc' := 106) dX11_copy_105 rfl ?_
                          refine sm_iload (pc' := 108) dX11_copy_106 rfl rfl ?_
                          refine sm_i2l (pc' := 109) dX11_copy_108 rfl ?_
                          refine sm_ladd (pc' := 110) dX11_copy_109 rfl ?_
                          refine sm_aload_n (pc' := 111) dX11_copy_110 rfl rfl ?_
                          refine sm_getF (pc' := 114) fk_X11_13 yr_11_3 dX11_copy_111 rfl (fun v123 => ?_)
                          refine sm_iload_n (pc' := 115) dX11_copy_114 rfl rfl ?_
                          rcases v123 with _ | a124
                          · exact sm_unN
                          refine sm_unS ?_
                          refine sm_iaload (pc' := 116) dX11_copy_115 rfl (fun v125 => ?_)
                          refine sm_i2l (pc' := 117) dX11_copy_116 rfl ?_
                          refine sm_lcmp (pc' := 118) dX11_copy_117 rfl ?_
                          refine sm_if_le (pc' := 121) (pc1 := 127) dX11_copy_118 (by decide) rfl (fun _ => ?_) (fun _ => ?_)
                          · skip
                            refine sm_iload_n (pc' := 128) dX11_copy_127 rfl rfl ?_
                            refine sm_iload (pc' := 130) dX11_copy_128 rfl rfl ?_
                            refine sm_lt (fun k127 => ∀ (v126 : Int32), Sim eX11_copy vI 138 [(0, qv (some th)), (1, iv a1), (2, iv a2), (3, iv a3), (4, iv a4), (5, iv a5)] [iv v126] (k127 v126)) ?_ (fun k127 hk127 => ?_)
                            · intro v126
                              refine sm_istore (pc' := 140) [(6, iv v126), (0, qv (some th)), (1, iv a1), (2, iv a2), (3, iv a3), (4, iv a4), (5, iv a5)] dX11_copy_138  (Nat.le_of_ble_eq_true rfl) rfl rfl ?_
                              refine sm_iconst (pc' := 141) (0 : Int32) dX11_copy_140 (by decide) rfl ?_
                              refine sm_istore (pc' := 143) [(7, iv (0 : Int32)), (6, iv v126), (0, qv (some th)), (1, iv a1), (2, iv a2), (3, iv a3), (4, iv a4), (5, iv a5)] dX11_copy_141  (Nat.le_of_ble_eq_true rfl) rfl rfl ?_
                              refine sm_sub [2, 3, 4, 5, 6, 7, 1, 0] rfl ?_
                              refine sX11_copy_L143 th a1 a2 a3 a4 a5 v126 _ ?_ FL (0 : Int32)
                              · skip
                                refine sm_iload (pc' := 208) dX11_copy_206 rfl rfl ?_
                                exact sm_ireturn rfl dX11_copy_208
                            · skip
                              refine sm_icmp_lt (pc' := 133) (pc1 := 137) dX11_copy_130 (by decide) rfl (fun _ => ?_) (fun _ => ?_)
                              · skip
                                refine sm_iconst (pc' := 138) (0 : Int32) dX11_copy_137 (by decide) rfl ?_
                                exact hk127 (0 : Int32)
                              · skip
                                refine sm_iconst (pc' := 134) (1 : Int32) dX11_copy_133 (by decide) rfl ?_
                                refine sm_goto (pc' := 138) dX11_copy_134 (by decide) ?_
                                exact hk127 (1 : Int32)
                          · skip
                            refine sm_sub [0] rfl ?_
                            exact hk118
              · skip
                refine sm_aload_n (pc' := 67) dX11_copy_66 rfl rfl ?_
                refine sm_iconst (pc' := 68) (5 : Int32) dX11_copy_67 (by decide) rfl ?_
                refine sm_calli (pc' := 71) (sa := [iv (5 : Int32), qv (some th)]) (st := []) (iv_X11_145 th (5 : Int32)) (Nat.le_of_ble_eq_true rfl) dX11_copy_68 rfl (Nat.le_of_ble_eq_true rfl) (fun v137 => ?_)
                exact sm_ireturn rfl dX11_copy_71
            · skip
              refine sm_sub [0] rfl ?_
              exact hk107
      · skip
        refine sm_sub [] rfl ?_
        exact hk102
theorem kX11_copy (th : Nat) (a1 : Int32) (a2 : Int32) (a3 : Int32) (a4 : Int32) (a5 : Int32) : Callee 2 yX11_copy cX11_copy 9 (some .int) [qv (some th), iv a1, iv a2, iv a3, iv a4, iv a5] vI (pX11_copy th a1 a2 a3 a4 a5) := callee_ofS [(0, qv (some th)), (1, iv a1), (2, iv a2), (3, iv a3), (4, iv a4), (5, iv a5)] (by decide +kernel) (Nat.le_of_ble_eq_true rfl) rfl (sX11_copy th a1 a2 a3 a4 a5)
