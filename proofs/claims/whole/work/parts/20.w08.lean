/-! HollowPress$Sheet.hasMoreThanZero(II)Z -/
abbrev eX7_hasMoreThanZero : Env0 := (RX7, "hasMoreThanZero", cX7_hasMoreThanZero, 4, (some .boolean), 1)
def pX7_hasMoreThanZero_L13 (th : Nat) (a1 : Int32) (a2 : Int32) (k103 : Prg Int32) : Nat → Int32 → Prg Int32
  | 0, _ => fl
  | n + 1, v102 =>
    (if (a1 + a2) ≤ v102 then k103
    else gF 8 th 1 fun v104 =>
    un v104 fun a105 =>
    ldJ a105 v102 fun v106 =>
    (if (lg_cmp v106 (0 : Int64)) ≤ 0 then pX7_hasMoreThanZero_L13 th a1 a2 k103 n (v102 + (1 : Int32))
    else rtZ (1 : Int32)))
def pX7_hasMoreThanZero (th : Nat) (a1 : Int32) (a2 : Int32) : Prg Int32 :=
    cl (onT th 8 (pX7_covers th a1 a2)) fun v101 =>
    (if v101 = 0 then rtZ (0 : Int32)
    else pX7_hasMoreThanZero_L13 th a1 a2 (rtZ (0 : Int32)) FL a1)
set_option maxRecDepth 20000 in
theorem sX7_hasMoreThanZero_L13 (th : Nat) (a1 : Int32) (a2 : Int32) (k103 : Prg Int32) (hk103 : Sim eX7_hasMoreThanZero vI 39 [] [] (k103)) : ∀ (n : Nat), ∀ (v102 : Int32), Sim eX7_hasMoreThanZero vI 13 [(0, qv (some th)), (1, iv a1), (2, iv a2), (3, iv v102)] [] (pX7_hasMoreThanZero_L13 th a1 a2 k103 n v102) := by
  intro n
  induction n with
  | zero =>
    intros
    exact sm_fl
  | succ n ih =>
    intro v102
    unfold pX7_hasMoreThanZero_L13
    refine sm_iload_n (pc' := 14) dX7_hasMoreThanZero_13 rfl rfl ?_
    refine sm_iload_n (pc' := 15) dX7_hasMoreThanZero_14 rfl rfl ?_
    refine sm_iload_n (pc' := 16) dX7_hasMoreThanZero_15 rfl rfl ?_
    refine sm_iadd (pc' := 17) dX7_hasMoreThanZero_16 rfl ?_
    refine sm_icmp_ge (pc' := 20) (pc1 := 39) dX7_hasMoreThanZero_17 (by decide) rfl (fun _ => ?_) (fun _ => ?_)
    · skip
      refine sm_sub [] rfl ?_
      exact hk103
    · skip
      refine sm_aload_n (pc' := 21) dX7_hasMoreThanZero_20 rfl rfl ?_
      refine sm_getF (pc' := 24) fk_X7_19 yr_8_1 dX7_hasMoreThanZero_21 rfl (fun v104 => ?_)
      refine sm_iload_n (pc' := 25) dX7_hasMoreThanZero_24 rfl rfl ?_
      rcases v104 with _ | a105
      · exact sm_unN
      refine sm_unS ?_
      refine sm_laload (pc' := 26) dX7_hasMoreThanZero_25 rfl (fun v106 => ?_)
      refine sm_lconst (pc' := 27) (0 : Int64) dX7_hasMoreThanZero_26 (by decide) rfl ?_
      refine sm_lcmp (pc' := 28) dX7_hasMoreThanZero_27 rfl ?_
      refine sm_if_le (pc' := 31) (pc1 := 33) dX7_hasMoreThanZero_28 (by decide) rfl (fun _ => ?_) (fun _ => ?_)
      · skip
        refine sm_iinc (pc' := 36) (v102 + (1 : Int32)) [(3, iv (v102 + (1 : Int32))), (0, qv (some th)), (1, iv a1), (2, iv a2)] dX7_hasMoreThanZero_33 rfl rfl (Nat.le_of_ble_eq_true rfl) rfl rfl ?_
        refine sm_goto (pc' := 13) dX7_hasMoreThanZero_36 (by decide) ?_
        refine sm_sub [1, 2, 3, 0] rfl ?_
        exact ih (v102 + (1 : Int32))
      · skip
        refine sm_iconst (pc' := 32) (1 : Int32) dX7_hasMoreThanZero_31 (by decide) rfl ?_
        exact sm_zreturn rfl dX7_hasMoreThanZero_32
set_option maxRecDepth 20000 in
theorem sX7_hasMoreThanZero (th : Nat) (a1 : Int32) (a2 : Int32) : Sim eX7_hasMoreThanZero vI 0 [(0, qv (some th)), (1, iv a1), (2, iv a2)] [] (pX7_hasMoreThanZero th a1 a2) := by
  unfold pX7_hasMoreThanZero
  refine sm_aload_n (pc' := 1) dX7_hasMoreThanZero_0 rfl rfl ?_
  refine sm_iload_n (pc' := 2) dX7_hasMoreThanZero_1 rfl rfl ?_
  refine sm_iload_n (pc' := 3) dX7_hasMoreThanZero_2 rfl rfl ?_
  refine sm_calli (pc' := 6) (sa := [iv a2, iv a1, qv (some th)]) (st := []) (iv_X7_29 th a1 a2) (Nat.le_of_ble_eq_true rfl) dX7_hasMoreThanZero_3 rfl (Nat.le_of_ble_eq_true rfl) (fun v101 => ?_)
  refine sm_if_ne (pc' := 9) (pc1 := 11) dX7_hasMoreThanZero_6 (by decide) rfl (fun _ => ?_) (fun _ => ?_)
  · skip
    refine sm_iload_n (pc' := 12) dX7_hasMoreThanZero_11 rfl rfl ?_
    refine sm_istore_n (pc' := 13) [(3, iv a1), (0, qv (some th)), (1, iv a1), (2, iv a2)] dX7_hasMoreThanZero_12 rfl (Nat.le_of_ble_eq_true rfl) rfl rfl ?_
    refine sm_sub [1, 2, 3, 0] rfl ?_
    refine sX7_hasMoreThanZero_L13 th a1 a2 _ ?_ FL a1
    · skip
      refine sm_iconst (pc' := 40) (0 : Int32) dX7_hasMoreThanZero_39 (by decide) rfl ?_
      exact sm_zreturn rfl dX7_hasMoreThanZero_40
  · skip
    refine sm_iconst (pc' := 10) (0 : Int32) dX7_hasMoreThanZero_9 (by decide) rfl ?_
    exact sm_zreturn rfl dX7_hasMoreThanZero_10
theorem kX7_hasMoreThanZero (th : Nat) (a1 : Int32) (a2 : Int32) : Callee 1 yX7_hasMoreThanZero cX7_hasMoreThanZero 4 (some .boolean) [qv (some th), iv a1, iv a2] vI (pX7_hasMoreThanZero th a1 a2) := callee_ofS [(0, qv (some th)), (1, iv a1), (2, iv a2)] (by decide +kernel) (Nat.le_of_ble_eq_true rfl) rfl (sX7_hasMoreThanZero th a1 a2)
/-! HollowPress.part(IIIII)I -/
set_option maxRecDepth 20000 in
theorem iv_X10_102 (a : Nat) (x0 : Int32) (x1 : Int32) : Inv RX10 2 (.invokevirtual 102) [iv x1, iv x0, qv (some a)] vI (onT a 8 (pX7_hasMoreThanZero a x0 x1)) := inv_V (As := [iv x0, iv x1]) (t := 8) (kX7_hasMoreThanZero a x0 x1) _ (by decide) rfl rfl w_508 w_509 w_510 w_322 w_511 ⟨by decide +kernel, by decide +kernel, by show _ = some 2; decide +kernel⟩ (by decide)
set_option maxRecDepth 20000 in
theorem iv_X10_109 (x0 : Int32) (x1 : Int32) (x2 : Option Nat) : Inv RX10 6 (.invokestatic 109) [qv x2, iv x1, iv x0] vR (pX10_newPart x0 x1 x2) := inv_S (As := [iv x0, iv x1, qv x2]) (kX10_newPart x0 x1 x2) w_512 w_513 w_62 w_514 ⟨by decide +kernel, by decide +kernel, by show _ = some 3; decide +kernel⟩ (by decide)
abbrev eX10_part : Env0 := (RX10, "part", cX10_part, 7, (some .int), 6)
def pX10_part (th : Nat) (a1 : Int32) (a2 : Int32) (a3 : Int32) (a4 : Int32) (a5 : Int32) : Prg Int32 :=
    cl (pX10_below a1 (10 : Int32)) fun v101 =>
    (lt (rt (-1000001 : Int32) : Prg Int32) fun k102 =>
    (if v101 = 0 then k102
    else cl (pX10_below a2 (8 : Int32)) fun v103 =>
    (if v103 = 0 then k102
    else cl (pX10_among a4 (1 : Int32) (12 : Int32)) fun v104 =>
    (lt (rt (-1000001 : Int32) : Prg Int32) fun k105 =>
    (if v104 = 0 then k105
    else cl (pX10_among a5 (1 : Int32) (12 : Int32)) fun v106 =>
    (if v106 = 0 then k105
    else gF 10 th 4 fun v107 =>
    gF 10 th 1 fun v108 =>
    un v108 fun a109 =>
    ldF a109 a1 fun v110 =>
    un v107 fun a111 =>
    cl (onT a111 7 (pX6_holds a111 v110)) fun v112 =>
    (if v112 = 0 then gF 10 th 0 fun v113 =>
    un v113 fun a114 =>
    ldF a114 a2 fun v115 =>
    (nu v115 (cl (onT th 10 (pX10_found th (1 : Int32))) fun v117 =>
    rt v117) fun a116 =>
    cl (onT a116 8 (pX7_covers a116 a3 (a4 * a5))) fun v118 =>
    (if v118 = 0 then cl (onT th 10 (pX10_found th (2 : Int32))) fun v126 =>
    rt v126
    else cl (onT a116 8 (pX7_allAmong a116 a3 (a4 * a5) (9 : Int32))) fun v119 =>
    (lt (rt (-1000001 : Int32) : Prg Int32) fun k120 =>
    (if v119 = 0 then k120
    else cl (onT a116 8 (pX7_hasMoreThanZero a116 a3 (a4 * a5))) fun v121 =>
    (if v121 = 0 then k120
    else cl (onT a116 8 (pX7_slice a116 a3 (a4 * a5))) fun v122 =>
    cl (pX10_newPart a4 a5 v122) fun v123 =>
    cl (onT th 10 (pX10_shelve th a1 v123)) fun v124 =>
    cl (onT th 10 (pX10_fine th v124)) fun v125 =>
    rt v125)))))
    else rt (-1000002 : Int32))))))))
set_option maxRecDepth 20000 in
theorem sX10_part (th : Nat) (a1 : Int32) (a2 : Int32) (a3 : Int32) (a4 : Int32) (a5 : Int32) : Sim eX10_part vI 0 [(0, qv (some th)), (1, iv a1), (2, iv a2), (3, iv a3), (4, iv a4), (5, iv a5)] [] (pX10_part th a1 a2 a3 a4 a5) := by
  unfold pX10_part
  refine sm_iload_n (pc' := 1) dX10_part_0 rfl rfl ?_
  refine sm_bipush (pc' := 3) (10 : Int32) dX10_part_1 (by decide) rfl ?_
  refine sm_calli (pc' := 6) (sa := [iv (10 : Int32), iv a1]) (st := []) (iv_X10_53 a1 (10 : Int32)) (Nat.le_of_ble_eq_true rfl) dX10_part_3 rfl (Nat.le_of_ble_eq_true rfl) (fun v101 => ?_)
  refine sm_lt (fun k102 => Sim eX10_part vI 18 [] [] (k102)) ?_ (fun k102 hk102 => ?_)
  · skip
    refine sm_ldc (pc' := 20) (-1000001 : Int32) w_189 dX10_part_18 rfl ?_
    exact sm_ireturn rfl dX10_part_20
  · skip
    refine sm_if_eq (pc' := 9) (pc1 := 18) dX10_part_6 (by decide) rfl (fun _ => ?_) (fun _ => ?_)
    · skip
      refine sm_sub [] rfl ?_
      exact hk102
    · skip
      refine sm_iload_n (pc' := 10) dX10_part_9 rfl rfl ?_
      refine sm_bipush (pc' := 12) (8 : Int32) dX10_part_10 (by decide) rfl ?_
      refine sm_calli (pc' := 15) (sa := [iv (8 : Int32), iv a2]) (st := []) (iv_X10_53 a2 (8 : Int32)) (Nat.le_of_ble_eq_true rfl) dX10_part_12 rfl (Nat.le_of_ble_eq_true rfl) (fun v103 => ?_)
      refine sm_if_ne (pc' := 18) (pc1 := 21) dX10_part_15 (by decide) rfl (fun _ => ?_) (fun _ => ?_)
      · skip
        refine sm_iload (pc' := 23) dX10_part_21 rfl rfl ?_
        refine sm_iconst (pc' := 24) (1 : Int32) dX10_part_23 (by decide) rfl ?_
        refine sm_bipush (pc' := 26) (12 : Int32) dX10_part_24 (by decide) rfl ?_
        refine sm_calli (pc' := 29) (sa := [iv (12 : Int32), iv (1 : Int32), iv a4]) (st := []) (iv_X10_90 a4 (1 : Int32) (12 : Int32)) (Nat.le_of_ble_eq_true rfl) dX10_part_26 rfl (Nat.le_of_ble_eq_true rfl) (fun v104 => ?_)
        refine sm_lt (fun k105 => Sim eX10_part vI 43 [] [] (k105)) ?_ (fun k105 hk105 => ?_)
        · skip
          refine sm_ldc (pc' := 45) (-1000001 : Int32) w_189 dX10_part_43 rfl ?_
          exact sm_ireturn rfl dX10_part_45
        · skip
          refine sm_if_eq (pc' := 32) (pc1 := 43) dX10_part_29 (by decide) rfl (fun _ => ?_) (fun _ => ?_)
          · skip
            refine sm_sub [] rfl ?_
            exact hk105
          · skip
            refine sm_iload (pc' := 34) dX10_part_32 rfl rfl ?_
            refine sm_iconst (pc' := 35) (1 : Int32) dX10_part_34 (by decide) rfl ?_
            refine sm_bipush (pc' := 37) (12 : Int32) dX10_part_35 (by decide) rfl ?_
            refine sm_calli (pc' := 40) (sa := [iv (12 : Int32), iv (1 : Int32), iv a5]) (st := []) (iv_X10_90 a5 (1 : Int32) (12 : Int32)) (Nat.le_of_ble_eq_true rfl) dX10_part_37 rfl (Nat.le_of_ble_eq_true rfl) (fun v106 => ?_)
            refine sm_if_ne (pc' := 43) (pc1 := 46) dX10_part_40 (by decide) rfl (fun _ => ?_) (fun _ => ?_)
            · skip
              refine sm_aload_n (pc' := 47) dX10_part_46 rfl rfl ?_
              refine sm_getF (pc' := 50) fk_X10_38 yr_10_4 dX10_part_47 rfl (fun v107 => ?_)
              refine sm_aload_n (pc' := 51) dX10_part_50 rfl rfl ?_
              refine sm_getF (pc' := 54) fk_X10_17 yr_10_1 dX10_part_51 rfl (fun v108 => ?_)
              refine sm_iload_n (pc' := 55) dX10_part_54 rfl rfl ?_
              rcases v108 with _ | a109
              · exact sm_unN
              refine sm_unS ?_
              refine sm_aaload (pc' := 56) dX10_part_55 rfl (fun v110 => ?_)
              rcases v107 with _ | a111
              · exact sm_unN
              refine sm_unS ?_
              refine sm_calli (pc' := 59) (sa := [qv v110, qv (some a111)]) (st := []) (iv_X10_94 a111 v110) (Nat.le_of_ble_eq_true rfl) dX10_part_56 rfl (Nat.le_of_ble_eq_true rfl) (fun v112 => ?_)
              refine sm_if_eq (pc' := 62) (pc1 := 65) dX10_part_59 (by decide) rfl (fun _ => ?_) (fun _ => ?_)
              · skip
                refine sm_aload_n (pc' := 66) dX10_part_65 rfl rfl ?_
                refine sm_getF (pc' := 69) fk_X10_11 yr_10_0 dX10_part_66 rfl (fun v113 => ?_)
                refine sm_iload_n (pc' := 70) dX10_part_69 rfl rfl ?_
                rcases v113 with _ | a114
                · exact sm_unN
                refine sm_unS ?_
                refine sm_aaload (pc' := 71) dX10_part_70 rfl (fun v115 => ?_)
                refine sm_astore (pc' := 73) [(6, qv v115), (0, qv (some th)), (1, iv a1), (2, iv a2), (3, iv a3), (4, iv a4), (5, iv a5)] dX10_part_71  (Nat.le_of_ble_eq_true rfl) rfl rfl ?_
                refine sm_aload (pc' := 75) dX10_part_73 rfl rfl ?_
                rcases v115 with _ | a116
                · refine sm_nuN ?_
                  refine sm_ifnonnullN (pc' := 78) dX10_part_75 rfl ?_
                  refine sm_aload_n (pc' := 79) dX10_part_78 rfl rfl ?_
                  refine sm_iconst (pc' := 80) (1 : Int32) dX10_part_79 (by decide) rfl ?_
                  refine sm_calli (pc' := 83) (sa := [iv (1 : Int32), qv (some th)]) (st := []) (iv_X10_58 th (1 : Int32)) (Nat.le_of_ble_eq_true rfl) dX10_part_80 rfl (Nat.le_of_ble_eq_true rfl) (fun v117 => ?_)
                  exact sm_ireturn rfl dX10_part_83
                · refine sm_nuS ?_
                  refine sm_ifnonnullS (pc' := 84) dX10_part_75 (by decide) ?_
                  refine sm_aload (pc' := 86) dX10_part_84 rfl rfl ?_
                  refine sm_iload_n (pc' := 87) dX10_part_86 rfl rfl ?_
                  refine sm_iload (pc' := 89) dX10_part_87 rfl rfl ?_
                  refine sm_iload (pc' := 91) dX10_part_89 rfl rfl ?_
                  refine sm_imul (pc' := 92) dX10_part_91 rfl ?_
                  refine sm_calli (pc' := 95) (sa := [iv (a4 * a5), iv a3, qv (some a116)]) (st := []) (iv_X10_70 a116 a3 (a4 * a5)) (Nat.le_of_ble_eq_true rfl) dX10_part_92 rfl (Nat.le_of_ble_eq_true rfl) (fun v118 => ?_)
                  refine sm_if_ne (pc' := 98) (pc1 := 104) dX10_part_95 (by decide) rfl (fun _ => ?_) (fun _ => ?_)
                  · skip
                    refine sm_aload (pc' := 106) dX10_part_104 rfl rfl ?_
                    refine sm_iload_n (pc' := 107) dX10_part_106 rfl rfl ?_
                    refine sm_iload (pc' := 109) dX10_part_107 rfl rfl ?_
                    refine sm_iload (pc' := 111) dX10_part_109 rfl rfl ?_
                    refine sm_imul (pc' := 112) dX10_part_111 rfl ?_
                    refine sm_bipush (pc' := 114) (9 : Int32) dX10_part_112 (by decide) rfl ?_
                    refine sm_calli (pc' := 117) (sa := [iv (9 : Int32), iv (a4 * a5), iv a3, qv (some a116)]) (st := []) (iv_X10_99 a116 a3 (a4 * a5) (9 : Int32)) (Nat.le_of_ble_eq_true rfl) dX10_part_114 rfl (Nat.le_of_ble_eq_true rfl) (fun v119 => ?_)
                    refine sm_lt (fun k120 => Sim eX10_part vI 134 [] [] (k120)) ?_ (fun k120 hk120 => ?_)
                    · skip
                      refine sm_ldc (pc' := 136) (-1000001 : Int32) w_189 dX10_part_134 rfl ?_
                      exact sm_ireturn rfl dX10_part_136
                    · skip
                      refine sm_if_eq (pc' := 120) (pc1 := 134) dX10_part_117 (by decide) rfl (fun _ => ?_) (fun _ => ?_)
                      · skip
                        refine sm_sub [] rfl ?_
                        exact hk120
                      · skip
                        refine sm_aload (pc' := 122) dX10_part_120 rfl rfl ?_
                        refine sm_iload_n (pc' := 123) dX10_part_122 rfl rfl ?_
                        refine sm_iload (pc' := 125) dX10_part_123 rfl rfl ?_
                        refine sm_iload (pc' := 127) dX10_part_125 rfl rfl ?_
                        refine sm_imul (pc' := 128) dX10_part_127 rfl ?_
                        refine sm_calli (pc' := 131) (sa := [iv (a4 * a5), iv a3, qv (some a116)]) (st := []) (iv_X10_102 a116 a3 (a4 * a5)) (Nat.le_of_ble_eq_true rfl) dX10_part_128 rfl (Nat.le_of_ble_eq_true rfl) (fun v121 => ?_)
                        refine sm_if_ne (pc' := 134) (pc1 := 137) dX10_part_131 (by decide) rfl (fun _ => ?_) (fun _ => ?_)
                        · skip
                          refine sm_aload_n (pc' := 138) dX10_part_137 rfl rfl ?_
                          refine sm_aload_n (pc' := 139) dX10_part_138 rfl rfl ?_
                          refine sm_iload_n (pc' := 140) dX10_part_139 rfl rfl ?_
                          refine sm_iload (pc' := 142) dX10_part_140 rfl rfl ?_
                          refine sm_iload (pc' := 144) dX10_part_142 rfl rfl ?_
                          refine sm_aload (pc' := 146) dX10_part_144 rfl rfl ?_
                          refine sm_iload_n (pc' := 147) dX10_part_146 rfl rfl ?_
                          refine sm_iload (pc' := 149) dX10_part_147 rfl rfl ?_
                          refine sm_iload (pc' := 151) dX10_part_149 rfl rfl ?_
                          refine sm_imul (pc' := 152) dX10_part_151 rfl ?_
                          refine sm_callr (pc' := 155) (sa := [iv (a4 * a5), iv a3, qv (some a116)]) (st := [iv a5, iv a4, iv a1, qv (some th), qv (some th)]) (iv_X10_105 a116 a3 (a4 * a5)) (Nat.le_of_ble_eq_true rfl) dX10_part_152 rfl (Nat.le_of_ble_eq_true rfl) (fun v122 => ?_)
                          refine sm_callr (pc' := 158) (sa := [qv v122, iv a5, iv a4]) (st := [iv a1, qv (some th), qv (some th)]) (iv_X10_109 a4 a5 v122) (Nat.le_of_ble_eq_true rfl) dX10_part_155 rfl (Nat.le_of_ble_eq_true rfl) (fun v123 => ?_)
                          refine sm_calli (pc' := 161) (sa := [qv v123, iv a1, qv (some th)]) (st := [qv (some th)]) (iv_X10_113 th a1 v123) (Nat.le_of_ble_eq_true rfl) dX10_part_158 rfl (Nat.le_of_ble_eq_true rfl) (fun v124 => ?_)
                          refine sm_calli (pc' := 164) (sa := [iv v124, qv (some th)]) (st := []) (iv_X10_65 th v124) (Nat.le_of_ble_eq_true rfl) dX10_part_161 rfl (Nat.le_of_ble_eq_true rfl) (fun v125 => ?_)
                          exact sm_ireturn rfl dX10_part_164
                        · skip
                          refine sm_sub [] rfl ?_
                          exact hk120
                  · skip
                    refine sm_aload_n (pc' := 99) dX10_part_98 rfl rfl ?_
                    refine sm_iconst (pc' := 100) (2 : Int32) dX10_part_99 (by decide) rfl ?_
                    refine sm_calli (pc' := 103) (sa := [iv (2 : Int32), qv (some th)]) (st := []) (iv_X10_58 th (2 : Int32)) (Nat.le_of_ble_eq_true rfl) dX10_part_100 rfl (Nat.le_of_ble_eq_true rfl) (fun v126 => ?_)
                    exact sm_ireturn rfl dX10_part_103
              · skip
                refine sm_ldc (pc' := 64) (-1000002 : Int32) w_315 dX10_part_62 rfl ?_
                exact sm_ireturn rfl dX10_part_64
            · skip
              refine sm_sub [] rfl ?_
              exact hk105
      · skip
        refine sm_sub [] rfl ?_
        exact hk102
theorem kX10_part (th : Nat) (a1 : Int32) (a2 : Int32) (a3 : Int32) (a4 : Int32) (a5 : Int32) : Callee 6 yX10_part cX10_part 7 (some .int) [qv (some th), iv a1, iv a2, iv a3, iv a4, iv a5] vI (pX10_part th a1 a2 a3 a4 a5) := callee_ofS [(0, qv (some th)), (1, iv a1), (2, iv a2), (3, iv a3), (4, iv a4), (5, iv a5)] (by decide +kernel) (Nat.le_of_ble_eq_true rfl) rfl (sX10_part th a1 a2 a3 a4 a5)
/-! HollowPress$Presses.pressFor(I)I -/
abbrev eX5_pressFor : Env0 := (RX5, "pressFor", cX5_pressFor, 4, (some .int), 0)
def pX5_pressFor_L5 (th : Nat) (a1 : Int32) (k103 : Int32 → Prg Int32) : Nat → Int32 → Int32 → Prg Int32
  | 0, _, _ => fl
  | n + 1, v101, v102 =>
    gI 6 th 7 fun v104 =>
    (if v104 ≤ v102 then k103 v101
    else gF 6 th 0 fun v105 =>
    un v105 fun a106 =>
    ldI a106 v102 fun v107 =>
    gF 6 th 1 fun v108 =>
    un v108 fun a109 =>
    ldI a109 a1 fun v110 =>
    (lt (fun (v111 : Int32) => pX5_pressFor_L5 th a1 k103 n v111 (v102 + (1 : Int32)) : Int32 → Prg Int32) fun k112 =>
    (if v110 ≤ v107 then (lt (k112 v102 : Prg Int32) fun k113 =>
    (if v101 = (-1000000 : Int32) then k113
    else gF 6 th 6 fun v114 =>
    un v114 fun a115 =>
    ldI a115 v102 fun v116 =>
    gF 6 th 6 fun v117 =>
    un v117 fun a118 =>
    ldI a118 v101 fun v119 =>
    (if v119 ≤ v116 then k112 v101
    else k113)))
    else k112 v101)))
def pX5_pressFor (th : Nat) (a1 : Int32) : Prg Int32 :=
    pX5_pressFor_L5 th a1 (fun (v120 : Int32) => rt v120) FL (-1000000 : Int32) (0 : Int32)
set_option maxRecDepth 20000 in
theorem sX5_pressFor_L5 (th : Nat) (a1 : Int32) (k103 : Int32 → Prg Int32) (hk103 : ∀ (q2 : Int32), Sim eX5_pressFor vI 60 [(2, iv q2)] [] (k103 q2)) : ∀ (n : Nat), ∀ (v101 : Int32) (v102 : Int32), Sim eX5_pressFor vI 5 [(0, qv (some th)), (1, iv a1), (2, iv v101), (3, iv v102)] [] (pX5_pressFor_L5 th a1 k103 n v101 v102) := by
  intro n
  induction n with
  | zero =>
    intros
    exact sm_fl
  | succ n ih =>
    intro v101 v102
    unfold pX5_pressFor_L5
    refine sm_iload_n (pc' := 6) dX5_pressFor_5 rfl rfl ?_
    refine sm_aload_n (pc' := 7) dX5_pressFor_6 rfl rfl ?_
    refine sm_getI (pc' := 10) fk_X5_35 nr_6_7 dX5_pressFor_7 rfl (fun v104 => ?_)
    refine sm_icmp_ge (pc' := 13) (pc1 := 60) dX5_pressFor_10 (by decide) rfl (fun _ => ?_) (fun _ => ?_)
    · skip
      refine sm_sub [2] rfl ?_
      exact hk103 v101
    · skip
      refine sm_aload_n (pc' := 14) dX5_pressFor_13 rfl rfl ?_
      refine sm_getF (pc' := 17) fk_X5_9 yr_6_0 dX5_pressFor_14 rfl (fun v105 => ?_)
      refine sm_iload_n (pc' := 18) dX5_pressFor_17 rfl rfl ?_
      rcases v105 with _ | a106
      · exact sm_unN
      refine sm_unS ?_
      refine sm_iaload (pc' := 19) dX5_pressFor_18 rfl (fun v107 => ?_)
      refine sm_aload_n (pc' := 20) dX5_pressFor_19 rfl rfl ?_
      refine sm_getF (pc' := 23) fk_X5_15 yr_6_1 dX5_pressFor_20 rfl (fun v108 => ?_)
      refine sm_iload_n (pc' := 24) dX5_pressFor_23 rfl rfl ?_
      rcases v108 with _ | a109
      · exact sm_unN
      refine sm_unS ?_
      refine sm_iaload (pc' := 25) dX5_pressFor_24 rfl (fun v110 => ?_)
      refine sm_lt (fun k112 => ∀ (v111 : Int32), Sim eX5_pressFor vI 54 [(0, qv (some th)), (1, iv a1), (2, iv v111), (3, iv v102)] [] (k112 v111)) ?_ (fun k112 hk112 => ?_)
      · intro v111
        refine sm_iinc (pc' := 57) (v102 + (1 : Int32)) [(3, iv (v102 + (1 : Int32))), (0, qv (some th)), (1, iv a1), (2, iv v111)] dX5_pressFor_54 rfl rfl (Nat.le_of_ble_eq_true rfl) rfl rfl ?_
        refine sm_goto (pc' := 5) dX5_pressFor_57 (by decide) ?_
        refine sm_sub [1, 2, 3, 0] rfl ?_
        exact ih v111 (v102 + (1 : Int32))
      · skip
        refine sm_icmp_ge (pc' := 28) (pc1 := 31) dX5_pressFor_25 (by decide) rfl (fun _ => ?_) (fun _ => ?_)
        · skip
          refine sm_iload_n (pc' := 32) dX5_pressFor_31 rfl rfl ?_
          refine sm_ldc (pc' := 34) (-1000000 : Int32) w_515 dX5_pressFor_32 rfl ?_
          refine sm_lt (fun k113 => Sim eX5_pressFor vI 52 [(0, qv (some th)), (1, iv a1), (3, iv v102)] [] (k113)) ?_ (fun k113 hk113 => ?_)
          · skip
            refine sm_iload_n (pc' := 53) dX5_pressFor_52 rfl rfl ?_
            refine sm_istore_n (pc' := 54) [(2, iv v102), (0, qv (some th)), (1, iv a1), (3, iv v102)] dX5_pressFor_53 rfl (Nat.le_of_ble_eq_true rfl) rfl rfl ?_
            refine sm_sub [1, 2, 0, 3] rfl ?_
            exact hk112 v102
          · skip
            refine sm_icmp_eq (pc' := 37) (pc1 := 52) dX5_pressFor_34 (by decide) rfl (fun _ => ?_) (fun _ => ?_)
            · skip
              refine sm_sub [0, 1, 3] rfl ?_
              exact hk113
            · skip
              refine sm_aload_n (pc' := 38) dX5_pressFor_37 rfl rfl ?_
              refine sm_getF (pc' := 41) fk_X5_32 yr_6_6 dX5_pressFor_38 rfl (fun v114 => ?_)
              refine sm_iload_n (pc' := 42) dX5_pressFor_41 rfl rfl ?_
              rcases v114 with _ | a115
              · exact sm_unN
              refine sm_unS ?_
              refine sm_iaload (pc' := 43) dX5_pressFor_42 rfl (fun v116 => ?_)
              refine sm_aload_n (pc' := 44) dX5_pressFor_43 rfl rfl ?_
              refine sm_getF (pc' := 47) fk_X5_32 yr_6_6 dX5_pressFor_44 rfl (fun v117 => ?_)
              refine sm_iload_n (pc' := 48) dX5_pressFor_47 rfl rfl ?_
              rcases v117 with _ | a118
              · exact sm_unN
              refine sm_unS ?_
              refine sm_iaload (pc' := 49) dX5_pressFor_48 rfl (fun v119 => ?_)
              refine sm_icmp_ge (pc' := 52) (pc1 := 54) dX5_pressFor_49 (by decide) rfl (fun _ => ?_) (fun _ => ?_)
              · skip
                exact hk112 v101
              · skip
                refine sm_sub [0, 1, 3] rfl ?_
                exact hk113
        · skip
          refine sm_goto (pc' := 54) dX5_pressFor_28 (by decide) ?_
          exact hk112 v101
set_option maxRecDepth 20000 in
theorem sX5_pressFor (th : Nat) (a1 : Int32) : Sim eX5_pressFor vI 0 [(0, qv (some th)), (1, iv a1)] [] (pX5_pressFor th a1) := by
  unfold pX5_pressFor
  refine sm_ldc (pc' := 2) (-1000000 : Int32) w_515 dX5_pressFor_0 rfl ?_
  refine sm_istore_n (pc' := 3) [(2, iv (-1000000 : Int32)), (0, qv (some th)), (1, iv a1)] dX5_pressFor_2 rfl (Nat.le_of_ble_eq_true rfl) rfl rfl ?_
  refine sm_iconst (pc' := 4) (0 : Int32) dX5_pressFor_3 (by decide) rfl ?_
  refine sm_istore_n (pc' := 5) [(3, iv (0 : Int32)), (2, iv (-1000000 : Int32)), (0, qv (some th)), (1, iv a1)] dX5_pressFor_4 rfl (Nat.le_of_ble_eq_true rfl) rfl rfl ?_
  refine sm_sub [2, 3, 1, 0] rfl ?_
  refine sX5_pressFor_L5 th a1 _ ?_ FL (-1000000 : Int32) (0 : Int32)
  · intro v120
    refine sm_iload_n (pc' := 61) dX5_pressFor_60 rfl rfl ?_
    exact sm_ireturn rfl dX5_pressFor_61
theorem kX5_pressFor (th : Nat) (a1 : Int32) : Callee 0 yX5_pressFor cX5_pressFor 4 (some .int) [qv (some th), iv a1] vI (pX5_pressFor th a1) := callee_ofS [(0, qv (some th)), (1, iv a1)] (by decide +kernel) (Nat.le_of_ble_eq_true rfl) rfl (sX5_pressFor th a1)
/-! HollowPress$Presses.putOn(II)V -/
abbrev eX5_putOn : Env0 := (RX5, "putOn", cX5_putOn, 5, none, 1)
def pX5_putOn_L20 (th : Nat) (a1 : Int32) (a2 : Int32) (v103 : Option Nat) (k108 : Int32 → Prg Unit) : Nat → Int32 → Prg Unit
  | 0, _ => fl
  | n + 1, v107 =>
    (if v107 ≤ 0 then k108 v107
    else gF 6 th 2 fun v109 =>
    un v103 fun a110 =>
    ldI a110 (v107 - (1 : Int32)) fun v111 =>
    un v109 fun a112 =>
    ldI a112 v111 fun v113 =>
    gF 6 th 2 fun v114 =>
    un v114 fun a115 =>
    ldI a115 a2 fun v116 =>
    (if v113 ≤ v116 then k108 v107
    else ldI a110 (v107 - (1 : Int32)) fun v117 =>
    stI a110 v107 v117 (
    pX5_putOn_L20 th a1 a2 v103 k108 n (v107 + (-1 : Int32)))))
def pX5_putOn (th : Nat) (a1 : Int32) (a2 : Int32) : Prg Unit :=
    gF 6 th 4 fun v101 =>
    un v101 fun a102 =>
    ldF a102 a1 fun v103 =>
    gF 6 th 5 fun v104 =>
    un v104 fun a105 =>
    ldI a105 a1 fun v106 =>
    pX5_putOn_L20 th a1 a2 v103 (fun (v118 : Int32) => un v103 fun a119 =>
    stI a119 v118 a2 (
    gF 6 th 5 fun v120 =>
    un v120 fun a121 =>
    ldI a121 a1 fun v122 =>
    stI a121 a1 (v122 + (1 : Int32)) (
    gF 6 th 6 fun v123 =>
    un v123 fun a124 =>
    ldI a124 a1 fun v125 =>
    gF 6 th 3 fun v126 =>
    un v126 fun a127 =>
    ldI a127 a2 fun v128 =>
    stI a124 a1 (v125 + v128) (
    rt ())))) FL (mn v106 (11 : Int32))
set_option maxRecDepth 20000 in
theorem sX5_putOn_L20 (th : Nat) (a1 : Int32) (a2 : Int32) (v103 : Option Nat) (k108 : Int32 → Prg Unit) (hk108 : ∀ (q4 : Int32), Sim eX5_putOn vU 61 [(0, qv (some th)), (1, iv a1), (2, iv a2), (3, qv v103), (4, iv q4)] [] (k108 q4)) : ∀ (n : Nat), ∀ (v107 : Int32), Sim eX5_putOn vU 20 [(0, qv (some th)), (1, iv a1), (2, iv a2), (3, qv v103), (4, iv v107)] [] (pX5_putOn_L20 th a1 a2 v103 k108 n v107) := by
  intro n
  induction n with
  | zero =>
    intros
    exact sm_fl
  | succ n ih =>
    intro v107
    unfold pX5_putOn_L20
    refine sm_iload (pc' := 22) dX5_putOn_20 rfl rfl ?_
    refine sm_if_le (pc' := 25) (pc1 := 61) dX5_putOn_22 (by decide) rfl (fun _ => ?_) (fun _ => ?_)
    · skip
      exact hk108 v107
    · skip
      refine sm_aload_n (pc' := 26) dX5_putOn_25 rfl rfl ?_
      refine sm_getF (pc' := 29) fk_X5_18 yr_6_2 dX5_putOn_26 rfl (fun v109 => ?_)
      refine sm_aload_n (pc' := 30) dX5_putOn_29 rfl rfl ?_
      refine sm_iload (pc' := 32) dX5_putOn_30 rfl rfl ?_
      refine sm_iconst (pc' := 33) (1 : Int32) dX5_putOn_32 (by decide) rfl ?_
      refine sm_isub (pc' := 34) dX5_putOn_33 rfl ?_
      rcases v103 with _ | a110
      · exact sm_unN
      refine sm_unS ?_
      refine sm_iaload (pc' := 35) dX5_putOn_34 rfl (fun v111 => ?_)
      rcases v109 with _ | a112
      · exact sm_unN
      refine sm_unS ?_
      refine sm_iaload (pc' := 36) dX5_putOn_35 rfl (fun v113 => ?_)
      refine sm_aload_n (pc' := 37) dX5_putOn_36 rfl rfl ?_
      refine sm_getF (pc' := 40) fk_X5_18 yr_6_2 dX5_putOn_37 rfl (fun v114 => ?_)
      refine sm_iload_n (pc' := 41) dX5_putOn_40 rfl rfl ?_
      rcases v114 with _ | a115
      · exact sm_unN
      refine sm_unS ?_
      refine sm_iaload (pc' := 42) dX5_putOn_41 rfl (fun v116 => ?_)
      refine sm_icmp_le (pc' := 45) (pc1 := 61) dX5_putOn_42 (by decide) rfl (fun _ => ?_) (fun _ => ?_)
      · skip
        exact hk108 v107
      · skip
        refine sm_aload_n (pc' := 46) dX5_putOn_45 rfl rfl ?_
        refine sm_iload (pc' := 48) dX5_putOn_46 rfl rfl ?_
        refine sm_aload_n (pc' := 49) dX5_putOn_48 rfl rfl ?_
        refine sm_iload (pc' := 51) dX5_putOn_49 rfl rfl ?_
        refine sm_iconst (pc' := 52) (1 : Int32) dX5_putOn_51 (by decide) rfl ?_
        refine sm_isub (pc' := 53) dX5_putOn_52 rfl ?_
        refine sm_iaload (pc' := 54) dX5_putOn_53 rfl (fun v117 => ?_)
        refine sm_iastore (pc' := 55) dX5_putOn_54 rfl ?_
        refine sm_iinc (pc' := 58) (v107 + (-1 : Int32)) [(4, iv (v107 + (-1 : Int32))), (0, qv (some th)), (1, iv a1), (2, iv a2), (3, qv (some a110))] dX5_putOn_55 rfl rfl (Nat.le_of_ble_eq_true rfl) rfl rfl ?_
        refine sm_goto (pc' := 20) dX5_putOn_58 (by decide) ?_
        refine sm_sub [1, 2, 3, 4, 0] rfl ?_
        exact ih (v107 + (-1 : Int32))
set_option maxRecDepth 20000 in
theorem sX5_putOn (th : Nat) (a1 : Int32) (a2 : Int32) : Sim eX5_putOn vU 0 [(0, qv (some th)), (1, iv a1), (2, iv a2)] [] (pX5_putOn th a1 a2) := by
  unfold pX5_putOn
  refine sm_aload_n (pc' := 1) dX5_putOn_0 rfl rfl ?_
  refine sm_getF (pc' := 4) fk_X5_26 yr_6_4 dX5_putOn_1 rfl (fun v101 => ?_)
  refine sm_iload_n (pc' := 5) dX5_putOn_4 rfl rfl ?_
  rcases v101 with _ | a102
  · exact sm_unN
  refine sm_unS ?_
  refine sm_aaload (pc' := 6) dX5_putOn_5 rfl (fun v103 => ?_)
  refine sm_astore_n (pc' := 7) [(3, qv v103), (0, qv (some th)), (1, iv a1), (2, iv a2)] dX5_putOn_6 rfl (Nat.le_of_ble_eq_true rfl) rfl rfl ?_
  refine sm_aload_n (pc' := 8) dX5_putOn_7 rfl rfl ?_
  refine sm_getF (pc' := 11) fk_X5_29 yr_6_5 dX5_putOn_8 rfl (fun v104 => ?_)
  refine sm_iload_n (pc' := 12) dX5_putOn_11 rfl rfl ?_
  rcases v104 with _ | a105
  · exact sm_unN
  refine sm_unS ?_
  refine sm_iaload (pc' := 13) dX5_putOn_12 rfl (fun v106 => ?_)
  refine sm_bipush (pc' := 15) (11 : Int32) dX5_putOn_13 (by decide) rfl ?_
  refine sm_mmin (pc' := 18) w_516 w_95 w_77 w_96 dX5_putOn_15 (by decide) (Nat.le_of_ble_eq_true rfl) rfl ?_
  refine sm_istore (pc' := 20) [(4, iv (mn v106 (11 : Int32))), (3, qv v103), (0, qv (some th)), (1, iv a1), (2, iv a2)] dX5_putOn_18  (Nat.le_of_ble_eq_true rfl) rfl rfl ?_
  refine sm_sub [2, 3, 4, 1, 0] rfl ?_
  refine sX5_putOn_L20 th a1 a2 v103 _ ?_ FL (mn v106 (11 : Int32))
  · intro v118
    refine sm_aload_n (pc' := 62) dX5_putOn_61 rfl rfl ?_
    refine sm_iload (pc' := 64) dX5_putOn_62 rfl rfl ?_
    refine sm_iload_n (pc' := 65) dX5_putOn_64 rfl rfl ?_
    rcases v103 with _ | a119
    · exact sm_unN
    refine sm_unS ?_
    refine sm_iastore (pc' := 66) dX5_putOn_65 rfl ?_
    refine sm_aload_n (pc' := 67) dX5_putOn_66 rfl rfl ?_
    refine sm_getF (pc' := 70) fk_X5_29 yr_6_5 dX5_putOn_67 rfl (fun v120 => ?_)
    refine sm_iload_n (pc' := 71) dX5_putOn_70 rfl rfl ?_
    refine sm_dup2 (pc' := 72) dX5_putOn_71 rfl rfl rfl ?_
    rcases v120 with _ | a121
    · exact sm_unN
    refine sm_unS ?_
    refine sm_iaload (pc' := 73) dX5_putOn_72 rfl (fun v122 => ?_)
    refine sm_iconst (pc' := 74) (1 : Int32) dX5_putOn_73 (by decide) rfl ?_
    refine sm_iadd (pc' := 75) dX5_putOn_74 rfl ?_
    refine sm_iastore (pc' := 76) dX5_putOn_75 rfl ?_
    refine sm_aload_n (pc' := 77) dX5_putOn_76 rfl rfl ?_
    refine sm_getF (pc' := 80) fk_X5_32 yr_6_6 dX5_putOn_77 rfl (fun v123 => ?_)
    refine sm_iload_n (pc' := 81) dX5_putOn_80 rfl rfl ?_
    refine sm_dup2 (pc' := 82) dX5_putOn_81 rfl rfl rfl ?_
    rcases v123 with _ | a124
    · exact sm_unN
    refine sm_unS ?_
    refine sm_iaload (pc' := 83) dX5_putOn_82 rfl (fun v125 => ?_)
    refine sm_aload_n (pc' := 84) dX5_putOn_83 rfl rfl ?_
    refine sm_getF (pc' := 87) fk_X5_21 yr_6_3 dX5_putOn_84 rfl (fun v126 => ?_)
    refine sm_iload_n (pc' := 88) dX5_putOn_87 rfl rfl ?_
    rcases v126 with _ | a127
    · exact sm_unN
    refine sm_unS ?_
    refine sm_iaload (pc' := 89) dX5_putOn_88 rfl (fun v128 => ?_)
    refine sm_iadd (pc' := 90) dX5_putOn_89 rfl ?_
    refine sm_iastore (pc' := 91) dX5_putOn_90 rfl ?_
    exact sm_return rfl dX5_putOn_91
theorem kX5_putOn (th : Nat) (a1 : Int32) (a2 : Int32) : Callee 1 yX5_putOn cX5_putOn 5 none [qv (some th), iv a1, iv a2] vU (pX5_putOn th a1 a2) := callee_ofS [(0, qv (some th)), (1, iv a1), (2, iv a2)] (by decide +kernel) (Nat.le_of_ble_eq_true rfl) rfl (sX5_putOn th a1 a2)
/-! HollowPress$Presses.makePlan()I -/
set_option maxRecDepth 20000 in
theorem iv_X5_46 (a : Nat) (x0 : Int32) : Inv RX5 1 (.invokevirtual 46) [iv x0, qv (some a)] vI (onT a 6 (pX5_pressFor a x0)) := inv_V (As := [iv x0]) (t := 6) (kX5_pressFor a x0) _ (by decide) rfl rfl w_517 w_518 w_519 w_435 w_520 ⟨by decide +kernel, by decide +kernel, by show _ = some 1; decide +kernel⟩ (by decide)
set_option maxRecDepth 20000 in
theorem iv_X5_51 (a : Nat) (x0 : Int32) (x1 : Int32) : Inv RX5 2 (.invokevirtual 51) [iv x1, iv x0, qv (some a)] vU (onT a 6 (pX5_putOn a x0 x1)) := inv_V (As := [iv x0, iv x1]) (t := 6) (kX5_putOn a x0 x1) _ (by decide) rfl rfl w_521 w_522 w_523 w_435 w_524 ⟨by decide +kernel, by decide +kernel, by show _ = some 2; decide +kernel⟩ (by decide)
abbrev eX5_makePlan : Env0 := (RX5, "makePlan", cX5_makePlan, 4, (some .int), 2)
def pX5_makePlan_L8 (th : Nat) (k103 : Int32 → Prg Int32) : Nat → Int32 → Int32 → Prg Int32
  | 0, _, _ => fl
  | n + 1, v101, v102 =>
    gI 6 th 8 fun v104 =>
    (if v104 ≤ v102 then k103 v101
    else cl (onT th 6 (pX5_pressFor th v102)) fun v105 =>
    (lt (fun (v106 : Int32) => pX5_makePlan_L8 th k103 n v106 (v102 + (1 : Int32)) : Int32 → Prg Int32) fun k107 =>
    (if v105 = (-1000000 : Int32) then k107 (v101 + (1 : Int32))
    else cl (onT th 6 (pX5_putOn th v105 v102)) fun _ =>
    k107 v101)))
def pX5_makePlan (th : Nat) : Prg Int32 :=
    cl (onT th 6 (pX5_forgetPlan th)) fun _ =>
    pX5_makePlan_L8 th (fun (v108 : Int32) => rt v108) FL (0 : Int32) (0 : Int32)
set_option maxRecDepth 20000 in
theorem sX5_makePlan_L8 (th : Nat) (k103 : Int32 → Prg Int32) (hk103 : ∀ (q1 : Int32), Sim eX5_makePlan vI 46 [(1, iv q1)] [] (k103 q1)) : ∀ (n : Nat), ∀ (v101 : Int32) (v102 : Int32), Sim eX5_makePlan vI 8 [(0, qv (some th)), (1, iv v101), (2, iv v102)] [] (pX5_makePlan_L8 th k103 n v101 v102) := by
  intro n
  induction n with
  | zero =>
    intros
    exact sm_fl
  | succ n ih =>
    intro v101 v102
    unfold pX5_makePlan_L8
    refine sm_iload_n (pc' := 9) dX5_makePlan_8 rfl rfl ?_
    refine sm_aload_n (pc' := 10) dX5_makePlan_9 rfl rfl ?_
    refine sm_getI (pc' := 13) fk_X5_39 nr_6_8 dX5_makePlan_10 rfl (fun v104 => ?_)
    refine sm_icmp_ge (pc' := 16) (pc1 := 46) dX5_makePlan_13 (by decide) rfl (fun _ => ?_) (fun _ => ?_)
    · skip
      refine sm_sub [1] rfl ?_
      exact hk103 v101
    · skip
      refine sm_aload_n (pc' := 17) dX5_makePlan_16 rfl rfl ?_
      refine sm_iload_n (pc' := 18) dX5_makePlan_17 rfl rfl ?_
      refine sm_calli (pc' := 21) (sa := [iv v102, qv (some th)]) (st := []) (iv_X5_46 th v102) (Nat.le_of_ble_eq_true rfl) dX5_makePlan_18 rfl (Nat.le_of_ble_eq_true rfl) (fun v105 => ?_)
      refine sm_istore_n (pc' := 22) [(3, iv v105), (0, qv (some th)), (1, iv v101), (2, iv v102)] dX5_makePlan_21 rfl (Nat.le_of_ble_eq_true rfl) rfl rfl ?_
      refine sm_iload_n (pc' := 23) dX5_makePlan_22 rfl rfl ?_
      refine sm_ldc (pc' := 25) (-1000000 : Int32) w_515 dX5_makePlan_23 rfl ?_
      refine sm_lt (fun k107 => ∀ (v106 : Int32), Sim eX5_makePlan vI 40 [(0, qv (some th)), (1, iv v106), (2, iv v102)] [] (k107 v106)) ?_ (fun k107 hk107 => ?_)
      · intro v106
        refine sm_iinc (pc' := 43) (v102 + (1 : Int32)) [(2, iv (v102 + (1 : Int32))), (0, qv (some th)), (1, iv v106)] dX5_makePlan_40 rfl rfl (Nat.le_of_ble_eq_true rfl) rfl rfl ?_
        refine sm_goto (pc' := 8) dX5_makePlan_43 (by decide) ?_
        refine sm_sub [1, 2, 0] rfl ?_
        exact ih v106 (v102 + (1 : Int32))
      · skip
        refine sm_icmp_ne (pc' := 28) (pc1 := 34) dX5_makePlan_25 (by decide) rfl (fun _ => ?_) (fun _ => ?_)
        · skip
          refine sm_aload_n (pc' := 35) dX5_makePlan_34 rfl rfl ?_
          refine sm_iload_n (pc' := 36) dX5_makePlan_35 rfl rfl ?_
          refine sm_iload_n (pc' := 37) dX5_makePlan_36 rfl rfl ?_
          refine sm_callv (pc' := 40) (sa := [iv v102, iv v105, qv (some th)]) (st := []) (iv_X5_51 th v105 v102) (Nat.le_of_ble_eq_true rfl) dX5_makePlan_37 rfl (Nat.le_of_ble_eq_true rfl) (fun _ => ?_)
          refine sm_sub [1, 2, 3] rfl ?_
          exact hk107 v101
        · skip
          refine sm_iinc (pc' := 31) (v101 + (1 : Int32)) [(1, iv (v101 + (1 : Int32))), (3, iv v105), (0, qv (some th)), (2, iv v102)] dX5_makePlan_28 rfl rfl (Nat.le_of_ble_eq_true rfl) rfl rfl ?_
          refine sm_goto (pc' := 40) dX5_makePlan_31 (by decide) ?_
          refine sm_sub [2, 0, 3] rfl ?_
          exact hk107 (v101 + (1 : Int32))
set_option maxRecDepth 20000 in
theorem sX5_makePlan (th : Nat) : Sim eX5_makePlan vI 0 [(0, qv (some th))] [] (pX5_makePlan th) := by
  unfold pX5_makePlan
  refine sm_aload_n (pc' := 1) dX5_makePlan_0 rfl rfl ?_
  refine sm_callv (pc' := 4) (sa := [qv (some th)]) (st := []) (iv_X5_43 th) (Nat.le_of_ble_eq_true rfl) dX5_makePlan_1 rfl (Nat.le_of_ble_eq_true rfl) (fun _ => ?_)
  refine sm_iconst (pc' := 5) (0 : Int32) dX5_makePlan_4 (by decide) rfl ?_
  refine sm_istore_n (pc' := 6) [(1, iv (0 : Int32)), (0, qv (some th))] dX5_makePlan_5 rfl (Nat.le_of_ble_eq_true rfl) rfl rfl ?_
  refine sm_iconst (pc' := 7) (0 : Int32) dX5_makePlan_6 (by decide) rfl ?_
  refine sm_istore_n (pc' := 8) [(2, iv (0 : Int32)), (1, iv (0 : Int32)), (0, qv (some th))] dX5_makePlan_7 rfl (Nat.le_of_ble_eq_true rfl) rfl rfl ?_
  refine sm_sub [2, 1, 0] rfl ?_
  refine sX5_makePlan_L8 th _ ?_ FL (0 : Int32) (0 : Int32)
  · intro v108
    refine sm_iload_n (pc' := 47) dX5_makePlan_46 rfl rfl ?_
    exact sm_ireturn rfl dX5_makePlan_47
theorem kX5_makePlan (th : Nat) : Callee 2 yX5_makePlan cX5_makePlan 4 (some .int) [qv (some th)] vI (pX5_makePlan th) := callee_ofS [(0, qv (some th))] (by decide +kernel) (Nat.le_of_ble_eq_true rfl) rfl (sX5_makePlan th)
/-! HollowPress.plan()I -/
set_option maxRecDepth 20000 in
theorem iv_X10_267 (a : Nat)  : Inv RX10 3 (.invokevirtual 267) [qv (some a)] vI (onT a 6 (pX5_makePlan a )) := inv_V (As := []) (t := 6) (kX5_makePlan a ) _ (by decide) rfl rfl w_525 w_526 w_527 w_435 w_528 ⟨by decide +kernel, by decide +kernel, by show _ = some 0; decide +kernel⟩ (by decide)
abbrev eX10_plan : Env0 := (RX10, "plan", cX10_plan, 1, (some .int), 3)
def pX10_plan (th : Nat) : Prg Int32 :=
    gF 10 th 5 fun v101 =>
    un v101 fun a102 =>
    cl (onT a102 6 (pX5_makePlan a102)) fun v103 =>
    rt v103
set_option maxRecDepth 20000 in
theorem sX10_plan (th : Nat) : Sim eX10_plan vI 0 [(0, qv (some th))] [] (pX10_plan th) := by
  unfold pX10_plan
  refine sm_aload_n (pc' := 1) dX10_plan_0 rfl rfl ?_
  refine sm_getF (pc' := 4) fk_X10_45 yr_10_5 dX10_plan_1 rfl (fun v101 => ?_)
  rcases v101 with _ | a102
  · exact sm_unN
  refine sm_unS ?_
  refine sm_calli (pc' := 7) (sa := [qv (some a102)]) (st := []) (iv_X10_267 a102) (Nat.le_of_ble_eq_true rfl) dX10_plan_4 rfl (Nat.le_of_ble_eq_true rfl) (fun v103 => ?_)
  exact sm_ireturn rfl dX10_plan_7
theorem kX10_plan (th : Nat) : Callee 3 yX10_plan cX10_plan 1 (some .int) [qv (some th)] vI (pX10_plan th) := callee_ofS [(0, qv (some th))] (by decide +kernel) (Nat.le_of_ble_eq_true rfl) rfl (sX10_plan th)
/-! HollowPress$Presses.jobOn(II)I -/
set_option maxRecDepth 20000 in
theorem iv_X5_55 (x0 : Int32) (x1 : Int32) : Inv RX5 1 (.invokestatic 55) [iv x1, iv x0] vI (pX10_below x0 x1) := inv_SN (host := "HollowPress") (As := [iv x0, iv x1]) (kX10_below x0 x1) w_529 w_61 w_62 w_63 ⟨by decide +kernel, by decide +kernel, by show _ = some 2; decide +kernel⟩ (by decide)
abbrev eX5_jobOn : Env0 := (RX5, "jobOn", cX5_jobOn, 3, (some .int), 1)
def pX5_jobOn (th : Nat) (a1 : Int32) (a2 : Int32) : Prg Int32 :=
    gF 6 th 5 fun v101 =>
    un v101 fun a102 =>
    ldI a102 a1 fun v103 =>
    cl (pX10_below a2 v103) fun v104 =>
    (lt (fun (v105 : Int32) => rt v105 : Int32 → Prg Int32) fun k106 =>
    (if v104 = 0 then k106 (-1000000 : Int32)
    else gF 6 th 4 fun v107 =>
    un v107 fun a108 =>
    ldF a108 a1 fun v109 =>
    un v109 fun a110 =>
    ldI a110 a2 fun v111 =>
    k106 v111))
set_option maxRecDepth 20000 in
theorem sX5_jobOn (th : Nat) (a1 : Int32) (a2 : Int32) : Sim eX5_jobOn vI 0 [(0, qv (some th)), (1, iv a1), (2, iv a2)] [] (pX5_jobOn th a1 a2) := by
  unfold pX5_jobOn
  refine sm_iload_n (pc' := 1) dX5_jobOn_0 rfl rfl ?_
  refine sm_aload_n (pc' := 2) dX5_jobOn_1 rfl rfl ?_
  refine sm_getF (pc' := 5) fk_X5_29 yr_6_5 dX5_jobOn_2 rfl (fun v101 => ?_)
  refine sm_iload_n (pc' := 6) dX5_jobOn_5 rfl rfl ?_
  rcases v101 with _ | a102
  · exact sm_unN
  refine sm_unS ?_
  refine sm_iaload (pc' := 7) dX5_jobOn_6 rfl (fun v103 => ?_)
  refine sm_calli (pc' := 10) (sa := [iv v103, iv a2]) (st := []) (iv_X5_55 a2 v103) (Nat.le_of_ble_eq_true rfl) dX5_jobOn_7 rfl (Nat.le_of_ble_eq_true rfl) (fun v104 => ?_)
  refine sm_lt (fun k106 => ∀ (v105 : Int32), Sim eX5_jobOn vI 26 [] [iv v105] (k106 v105)) ?_ (fun k106 hk106 => ?_)
  · intro v105
    exact sm_ireturn rfl dX5_jobOn_26
  · skip
    refine sm_if_eq (pc' := 13) (pc1 := 24) dX5_jobOn_10 (by decide) rfl (fun _ => ?_) (fun _ => ?_)
    · skip
      refine sm_ldc (pc' := 26) (-1000000 : Int32) w_515 dX5_jobOn_24 rfl ?_
      refine sm_sub [] rfl ?_
      exact hk106 (-1000000 : Int32)
    · skip
      refine sm_aload_n (pc' := 14) dX5_jobOn_13 rfl rfl ?_
      refine sm_getF (pc' := 17) fk_X5_26 yr_6_4 dX5_jobOn_14 rfl (fun v107 => ?_)
      refine sm_iload_n (pc' := 18) dX5_jobOn_17 rfl rfl ?_
      rcases v107 with _ | a108
      · exact sm_unN
      refine sm_unS ?_
      refine sm_aaload (pc' := 19) dX5_jobOn_18 rfl (fun v109 => ?_)
      refine sm_iload_n (pc' := 20) dX5_jobOn_19 rfl rfl ?_
      rcases v109 with _ | a110
      · exact sm_unN
      refine sm_unS ?_
      refine sm_iaload (pc' := 21) dX5_jobOn_20 rfl (fun v111 => ?_)
      refine sm_goto (pc' := 26) dX5_jobOn_21 (by decide) ?_
      refine sm_sub [] rfl ?_
      exact hk106 v111
theorem kX5_jobOn (th : Nat) (a1 : Int32) (a2 : Int32) : Callee 1 yX5_jobOn cX5_jobOn 3 (some .int) [qv (some th), iv a1, iv a2] vI (pX5_jobOn th a1 a2) := callee_ofS [(0, qv (some th)), (1, iv a1), (2, iv a2)] (by decide +kernel) (Nat.le_of_ble_eq_true rfl) rfl (sX5_jobOn th a1 a2)
/-! HollowPress.planned(II)I -/
set_option maxRecDepth 20000 in
theorem iv_X10_273 (a : Nat) (x0 : Int32) (x1 : Int32) : Inv RX10 2 (.invokevirtual 273) [iv x1, iv x0, qv (some a)] vI (onT a 6 (pX5_jobOn a x0 x1)) := inv_V (As := [iv x0, iv x1]) (t := 6) (kX5_jobOn a x0 x1) _ (by decide) rfl rfl w_530 w_531 w_532 w_435 w_533 ⟨by decide +kernel, by decide +kernel, by show _ = some 2; decide +kernel⟩ (by decide)
abbrev eX10_planned : Env0 := (RX10, "planned", cX10_planned, 3, (some .int), 2)
def pX10_planned (th : Nat) (a1 : Int32) (a2 : Int32) : Prg Int32 :=
    gF 10 th 5 fun v101 =>
    un v101 fun a102 =>
    gI 6 a102 7 fun v103 =>
    cl (pX10_below a1 v103) fun v104 =>
    (if v104 = 0 then rt (-1000001 : Int32)
    else gF 10 th 5 fun v105 =>
    un v105 fun a106 =>
    cl (onT a106 6 (pX5_jobOn a106 a1 a2)) fun v107 =>
    rt v107)
set_option maxRecDepth 20000 in
theorem sX10_planned (th : Nat) (a1 : Int32) (a2 : Int32) : Sim eX10_planned vI 0 [(0, qv (some th)), (1, iv a1), (2, iv a2)] [] (pX10_planned th a1 a2) := by
  unfold pX10_planned
  refine sm_iload_n (pc' := 1) dX10_planned_0 rfl rfl ?_
  refine sm_aload_n (pc' := 2) dX10_planned_1 rfl rfl ?_
  refine sm_getF (pc' := 5) fk_X10_45 yr_10_5 dX10_planned_2 rfl (fun v101 => ?_)
  rcases v101 with _ | a102
  · exact sm_unN
  refine sm_unS ?_
  refine sm_getI (pc' := 8) fk_X10_270 nr_6_7 dX10_planned_5 rfl (fun v103 => ?_)
  refine sm_calli (pc' := 11) (sa := [iv v103, iv a1]) (st := []) (iv_X10_53 a1 v103) (Nat.le_of_ble_eq_true rfl) dX10_planned_8 rfl (Nat.le_of_ble_eq_true rfl) (fun v104 => ?_)
  refine sm_if_ne (pc' := 14) (pc1 := 17) dX10_planned_11 (by decide) rfl (fun _ => ?_) (fun _ => ?_)
  · skip
    refine sm_aload_n (pc' := 18) dX10_planned_17 rfl rfl ?_
    refine sm_getF (pc' := 21) fk_X10_45 yr_10_5 dX10_planned_18 rfl (fun v105 => ?_)
    refine sm_iload_n (pc' := 22) dX10_planned_21 rfl rfl ?_
    refine sm_iload_n (pc' := 23) dX10_planned_22 rfl rfl ?_
    rcases v105 with _ | a106
    · exact sm_unN
    refine sm_unS ?_
    refine sm_calli (pc' := 26) (sa := [iv a2, iv a1, qv (some a106)]) (st := []) (iv_X10_273 a106 a1 a2) (Nat.le_of_ble_eq_true rfl) dX10_planned_23 rfl (Nat.le_of_ble_eq_true rfl) (fun v107 => ?_)
    exact sm_ireturn rfl dX10_planned_26
  · skip
    refine sm_ldc (pc' := 16) (-1000001 : Int32) w_189 dX10_planned_14 rfl ?_
    exact sm_ireturn rfl dX10_planned_16
theorem kX10_planned (th : Nat) (a1 : Int32) (a2 : Int32) : Callee 2 yX10_planned cX10_planned 3 (some .int) [qv (some th), iv a1, iv a2] vI (pX10_planned th a1 a2) := callee_ofS [(0, qv (some th)), (1, iv a1), (2, iv a2)] (by decide +kernel) (Nat.le_of_ble_eq_true rfl) rfl (sX10_planned th a1 a2)
/-! HollowPress$Presses.addPress(I)I -/
abbrev eX5_addPress : Env0 := (RX5, "addPress", cX5_addPress, 2, (some .int), 1)
def pX5_addPress (th : Nat) (a1 : Int32) : Prg Int32 :=
    gI 6 th 7 fun v101 =>
    (if v101 < (6 : Int32) then cl (onT th 6 (pX5_forgetPlan th)) fun _ =>
    gF 6 th 0 fun v102 =>
    gI 6 th 7 fun v103 =>
    un v102 fun a104 =>
    stI a104 v103 a1 (
    gI 6 th 7 fun v105 =>
    pI 6 th 7 (v105 + (1 : Int32)) (
    gI 6 th 7 fun v106 =>
    rt (v106 - (1 : Int32))))
    else rt (-1000003 : Int32))
set_option maxRecDepth 20000 in
theorem sX5_addPress (th : Nat) (a1 : Int32) : Sim eX5_addPress vI 0 [(0, qv (some th)), (1, iv a1)] [] (pX5_addPress th a1) := by
  unfold pX5_addPress
  refine sm_aload_n (pc' := 1) dX5_addPress_0 rfl rfl ?_
  refine sm_getI (pc' := 4) fk_X5_35 nr_6_7 dX5_addPress_1 rfl (fun v101 => ?_)
  refine sm_bipush (pc' := 6) (6 : Int32) dX5_addPress_4 (by decide) rfl ?_
  refine sm_icmp_lt (pc' := 9) (pc1 := 12) dX5_addPress_6 (by decide) rfl (fun _ => ?_) (fun _ => ?_)
  · skip
    refine sm_aload_n (pc' := 13) dX5_addPress_12 rfl rfl ?_
    refine sm_callv (pc' := 16) (sa := [qv (some th)]) (st := []) (iv_X5_43 th) (Nat.le_of_ble_eq_true rfl) dX5_addPress_13 rfl (Nat.le_of_ble_eq_true rfl) (fun _ => ?_)
    refine sm_aload_n (pc' := 17) dX5_addPress_16 rfl rfl ?_
    refine sm_getF (pc' := 20) fk_X5_9 yr_6_0 dX5_addPress_17 rfl (fun v102 => ?_)
    refine sm_aload_n (pc' := 21) dX5_addPress_20 rfl rfl ?_
    refine sm_getI (pc' := 24) fk_X5_35 nr_6_7 dX5_addPress_21 rfl (fun v103 => ?_)
    refine sm_iload_n (pc' := 25) dX5_addPress_24 rfl rfl ?_
    rcases v102 with _ | a104
    · exact sm_unN
    refine sm_unS ?_
    refine sm_iastore (pc' := 26) dX5_addPress_25 rfl ?_
    refine sm_aload_n (pc' := 27) dX5_addPress_26 rfl rfl ?_
    refine sm_dup (pc' := 28) dX5_addPress_27 rfl rfl ?_
    refine sm_getI (pc' := 31) fk_X5_35 nr_6_7 dX5_addPress_28 rfl (fun v105 => ?_)
    refine sm_iconst (pc' := 32) (1 : Int32) dX5_addPress_31 (by decide) rfl ?_
    refine sm_iadd (pc' := 33) dX5_addPress_32 rfl ?_
    refine sm_putI (pc' := 36) (gk_X5_35 _ _ _ _ _) ti_6_7 dX5_addPress_33 rfl ?_
    refine sm_aload_n (pc' := 37) dX5_addPress_36 rfl rfl ?_
    refine sm_getI (pc' := 40) fk_X5_35 nr_6_7 dX5_addPress_37 rfl (fun v106 => ?_)
    refine sm_iconst (pc' := 41) (1 : Int32) dX5_addPress_40 (by decide) rfl ?_
    refine sm_isub (pc' := 42) dX5_addPress_41 rfl ?_
    exact sm_ireturn rfl dX5_addPress_42
  · skip
    refine sm_ldc (pc' := 11) (-1000003 : Int32) w_443 dX5_addPress_9 rfl ?_
    exact sm_ireturn rfl dX5_addPress_11
theorem kX5_addPress (th : Nat) (a1 : Int32) : Callee 1 yX5_addPress cX5_addPress 2 (some .int) [qv (some th), iv a1] vI (pX5_addPress th a1) := callee_ofS [(0, qv (some th)), (1, iv a1)] (by decide +kernel) (Nat.le_of_ble_eq_true rfl) rfl (sX5_addPress th a1)
/-! HollowPress.press(I)I -/
set_option maxRecDepth 20000 in
theorem iv_X10_261 (a : Nat) (x0 : Int32) : Inv RX10 2 (.invokevirtual 261) [iv x0, qv (some a)] vI (onT a 6 (pX5_addPress a x0)) := inv_V (As := [iv x0]) (t := 6) (kX5_addPress a x0) _ (by decide) rfl rfl w_534 w_535 w_536 w_435 w_537 ⟨by decide +kernel, by decide +kernel, by show _ = some 1; decide +kernel⟩ (by decide)
abbrev eX10_press : Env0 := (RX10, "press", cX10_press, 2, (some .int), 2)
def pX10_press (th : Nat) (a1 : Int32) : Prg Int32 :=
    cl (pX10_among a1 (0 : Int32) (1000000 : Int32)) fun v101 =>
    (if v101 = 0 then rt (-1000001 : Int32)
    else gF 10 th 5 fun v102 =>
    un v102 fun a103 =>
    cl (onT a103 6 (pX5_addPress a103 a1)) fun v104 =>
    rt v104)
set_option maxRecDepth 20000 in
theorem sX10_press (th : Nat) (a1 : Int32) : Sim eX10_press vI 0 [(0, qv (some th)), (1, iv a1)] [] (pX10_press th a1) := by
  unfold pX10_press
  refine sm_iload_n (pc' := 1) dX10_press_0 rfl rfl ?_
  refine sm_iconst (pc' := 2) (0 : Int32) dX10_press_1 (by decide) rfl ?_
  refine sm_ldcw (pc' := 5) (1000000 : Int32) w_444 dX10_press_2 rfl ?_
  refine sm_calli (pc' := 8) (sa := [iv (1000000 : Int32), iv (0 : Int32), iv a1]) (st := []) (iv_X10_90 a1 (0 : Int32) (1000000 : Int32)) (Nat.le_of_ble_eq_true rfl) dX10_press_5 rfl (Nat.le_of_ble_eq_true rfl) (fun v101 => ?_)
  refine sm_if_ne (pc' := 11) (pc1 := 14) dX10_press_8 (by decide) rfl (fun _ => ?_) (fun _ => ?_)
  · skip
    refine sm_aload_n (pc' := 15) dX10_press_14 rfl rfl ?_
    refine sm_getF (pc' := 18) fk_X10_45 yr_10_5 dX10_press_15 rfl (fun v102 => ?_)
    refine sm_iload_n (pc' := 19) dX10_press_18 rfl rfl ?_
    rcases v102 with _ | a103
    · exact sm_unN
    refine sm_unS ?_
    refine sm_calli (pc' := 22) (sa := [iv a1, qv (some a103)]) (st := []) (iv_X10_261 a103 a1) (Nat.le_of_ble_eq_true rfl) dX10_press_19 rfl (Nat.le_of_ble_eq_true rfl) (fun v104 => ?_)
    exact sm_ireturn rfl dX10_press_22
  · skip
    refine sm_ldc (pc' := 13) (-1000001 : Int32) w_189 dX10_press_11 rfl ?_
    exact sm_ireturn rfl dX10_press_13
theorem kX10_press (th : Nat) (a1 : Int32) : Callee 2 yX10_press cX10_press 2 (some .int) [qv (some th), iv a1] vI (pX10_press th a1) := callee_ofS [(0, qv (some th)), (1, iv a1)] (by decide +kernel) (Nat.le_of_ble_eq_true rfl) rfl (sX10_press th a1)
/-! HollowPress$Runners.mass()I -/
abbrev eX6_mass : Env0 := (RX6, "mass", cX6_mass, 3, (some .int), 0)
def pX6_mass_L4 (th : Nat) (k103 : Int32 → Prg Int32) : Nat → Int32 → Int32 → Prg Int32
  | 0, _, _ => fl
  | n + 1, v101, v102 =>
    gI 7 th 4 fun v104 =>
    (if v104 ≤ v102 then k103 v101
    else gF 7 th 1 fun v105 =>
    un v105 fun a106 =>
    ldI a106 v102 fun v107 =>
    gF 7 th 2 fun v108 =>
    un v108 fun a109 =>
    ldI a109 v102 fun v110 =>
    gF 7 th 2 fun v111 =>
    un v111 fun a112 =>
    ldI a112 v102 fun v113 =>
    pX6_mass_L4 th k103 n (v101 + ((v107 * v110) * v113)) (v102 + (1 : Int32)))
def pX6_mass (th : Nat) : Prg Int32 :=
    pX6_mass_L4 th (fun (v114 : Int32) => rt v114) FL (0 : Int32) (0 : Int32)
set_option maxRecDepth 20000 in
theorem sX6_mass_L4 (th : Nat) (k103 : Int32 → Prg Int32) (hk103 : ∀ (q1 : Int32), Sim eX6_mass vI 41 [(1, iv q1)] [] (k103 q1)) : ∀ (n : Nat), ∀ (v101 : Int32) (v102 : Int32), Sim eX6_mass vI 4 [(0, qv (some th)), (1, iv v101), (2, iv v102)] [] (pX6_mass_L4 th k103 n v101 v102) := by
  intro n
  induction n with
  | zero =>
    intros
    exact sm_fl
  | succ n ih =>
    intro v101 v102
    unfold pX6_mass_L4
    refine sm_iload_n (pc' := 5) dX6_mass_4 rfl rfl ?_
    refine sm_aload_n (pc' := 6) dX6_mass_5 rfl rfl ?_
    refine sm_getI (pc' := 9) fk_X6_27 nr_7_4 dX6_mass_6 rfl (fun v104 => ?_)
    refine sm_icmp_ge (pc' := 12) (pc1 := 41) dX6_mass_9 (by decide) rfl (fun _ => ?_) (fun _ => ?_)
    · skip
      refine sm_sub [1] rfl ?_
      exact hk103 v101
    · skip
      refine sm_iload_n (pc' := 13) dX6_mass_12 rfl rfl ?_
      refine sm_aload_n (pc' := 14) dX6_mass_13 rfl rfl ?_
      refine sm_getF (pc' := 17) fk_X6_15 yr_7_1 dX6_mass_14 rfl (fun v105 => ?_)
      refine sm_iload_n (pc' := 18) dX6_mass_17 rfl rfl ?_
      rcases v105 with _ | a106
      · exact sm_unN
      refine sm_unS ?_
      refine sm_iaload (pc' := 19) dX6_mass_18 rfl (fun v107 => ?_)
      refine sm_aload_n (pc' := 20) dX6_mass_19 rfl rfl ?_
      refine sm_getF (pc' := 23) fk_X6_18 yr_7_2 dX6_mass_20 rfl (fun v108 => ?_)
      refine sm_iload_n (pc' := 24) dX6_mass_23 rfl rfl ?_
      rcases v108 with _ | a109
      · exact sm_unN
      refine sm_unS ?_
      refine sm_iaload (pc' := 25) dX6_mass_24 rfl (fun v110 => ?_)
      refine sm_imul (pc' := 26) dX6_mass_25 rfl ?_
      refine sm_aload_n (pc' := 27) dX6_mass_26 rfl rfl ?_
      refine sm_getF (pc' := 30) fk_X6_18 yr_7_2 dX6_mass_27 rfl (fun v111 => ?_)
      refine sm_iload_n (pc' := 31) dX6_mass_30 rfl rfl ?_
      rcases v111 with _ | a112
      · exact sm_unN
      refine sm_unS ?_
      refine sm_iaload (pc' := 32) dX6_mass_31 rfl (fun v113 => ?_)
      refine sm_imul (pc' := 33) dX6_mass_32 rfl ?_
      refine sm_iadd (pc' := 34) dX6_mass_33 rfl ?_
      refine sm_istore_n (pc' := 35) [(1, iv (v101 + ((v107 * v110) * v113))), (0, qv (some th)), (2, iv v102)] dX6_mass_34 rfl (Nat.le_of_ble_eq_true rfl) rfl rfl ?_
      refine sm_iinc (pc' := 38) (v102 + (1 : Int32)) [(2, iv (v102 + (1 : Int32))), (1, iv (v101 + ((v107 * v110) * v113))), (0, qv (some th))] dX6_mass_35 rfl rfl (Nat.le_of_ble_eq_true rfl) rfl rfl ?_
      refine sm_goto (pc' := 4) dX6_mass_38 (by decide) ?_
      refine sm_sub [2, 1, 0] rfl ?_
      exact ih (v101 + ((v107 * v110) * v113)) (v102 + (1 : Int32))
set_option maxRecDepth 20000 in
theorem sX6_mass (th : Nat) : Sim eX6_mass vI 0 [(0, qv (some th))] [] (pX6_mass th) := by
  unfold pX6_mass
  refine sm_iconst (pc' := 1) (0 : Int32) dX6_mass_0 (by decide) rfl ?_
  refine sm_istore_n (pc' := 2) [(1, iv (0 : Int32)), (0, qv (some th))] dX6_mass_1 rfl (Nat.le_of_ble_eq_true rfl) rfl rfl ?_
  refine sm_iconst (pc' := 3) (0 : Int32) dX6_mass_2 (by decide) rfl ?_
  refine sm_istore_n (pc' := 4) [(2, iv (0 : Int32)), (1, iv (0 : Int32)), (0, qv (some th))] dX6_mass_3 rfl (Nat.le_of_ble_eq_true rfl) rfl rfl ?_
  refine sm_sub [2, 1, 0] rfl ?_
  refine sX6_mass_L4 th _ ?_ FL (0 : Int32) (0 : Int32)
  · intro v114
    refine sm_iload_n (pc' := 42) dX6_mass_41 rfl rfl ?_
    exact sm_ireturn rfl dX6_mass_42
theorem kX6_mass (th : Nat) : Callee 0 yX6_mass cX6_mass 3 (some .int) [qv (some th)] vI (pX6_mass th) := callee_ofS [(0, qv (some th))] (by decide +kernel) (Nat.le_of_ble_eq_true rfl) rfl (sX6_mass th)
/-! HollowPress.runners(I)I -/
set_option maxRecDepth 20000 in
theorem iv_X10_236 (a : Nat)  : Inv RX10 1 (.invokevirtual 236) [qv (some a)] vI (onT a 7 (pX6_howManyHang a )) := inv_V (As := []) (t := 7) (kX6_howManyHang a ) _ (by decide) rfl rfl w_538 w_387 w_388 w_225 w_389 ⟨by decide +kernel, by decide +kernel, by show _ = some 0; decide +kernel⟩ (by decide)
set_option maxRecDepth 20000 in
theorem iv_X10_233 (a : Nat)  : Inv RX10 1 (.invokevirtual 233) [qv (some a)] vI (onT a 7 (pX6_mass a )) := inv_V (As := []) (t := 7) (kX6_mass a ) _ (by decide) rfl rfl w_539 w_540 w_541 w_225 w_542 ⟨by decide +kernel, by decide +kernel, by show _ = some 0; decide +kernel⟩ (by decide)
abbrev eX10_runners : Env0 := (RX10, "runners", cX10_runners, 2, (some .int), 4)
def pX10_runners (th : Nat) (a1 : Int32) : Prg Int32 :=
    (if a1 = 0 then gF 10 th 4 fun v107 =>
    un v107 fun a108 =>
    cl (onT a108 7 (pX6_spread a108)) fun v109 =>
    rt v109
    else (if a1 = (1 : Int32) then gF 10 th 4 fun v104 =>
    un v104 fun a105 =>
    cl (onT a105 7 (pX6_mass a105)) fun v106 =>
    rt v106
    else (if a1 = (2 : Int32) then gF 10 th 4 fun v101 =>
    un v101 fun a102 =>
    cl (onT a102 7 (pX6_howManyHang a102)) fun v103 =>
    rt v103
    else rt (-1000001 : Int32))))
set_option maxRecDepth 20000 in
theorem sX10_runners (th : Nat) (a1 : Int32) : Sim eX10_runners vI 0 [(0, qv (some th)), (1, iv a1)] [] (pX10_runners th a1) := by
  unfold pX10_runners
  refine sm_iload_n (pc' := 1) dX10_runners_0 rfl rfl ?_
  refine sm_if_ne (pc' := 4) (pc1 := 12) dX10_runners_1 (by decide) rfl (fun _ => ?_) (fun _ => ?_)
  · skip
    refine sm_iload_n (pc' := 13) dX10_runners_12 rfl rfl ?_
    refine sm_iconst (pc' := 14) (1 : Int32) dX10_runners_13 (by decide) rfl ?_
    refine sm_icmp_ne (pc' := 17) (pc1 := 25) dX10_runners_14 (by decide) rfl (fun _ => ?_) (fun _ => ?_)
    · skip
      refine sm_iload_n (pc' := 26) dX10_runners_25 rfl rfl ?_
      refine sm_iconst (pc' := 27) (2 : Int32) dX10_runners_26 (by decide) rfl ?_
      refine sm_icmp_ne (pc' := 30) (pc1 := 38) dX10_runners_27 (by decide) rfl (fun _ => ?_) (fun _ => ?_)
      · skip
        refine sm_ldc (pc' := 40) (-1000001 : Int32) w_189 dX10_runners_38 rfl ?_
        exact sm_ireturn rfl dX10_runners_40
      · skip
        refine sm_aload_n (pc' := 31) dX10_runners_30 rfl rfl ?_
        refine sm_getF (pc' := 34) fk_X10_38 yr_10_4 dX10_runners_31 rfl (fun v101 => ?_)
        rcases v101 with _ | a102
        · exact sm_unN
        refine sm_unS ?_
        refine sm_calli (pc' := 37) (sa := [qv (some a102)]) (st := []) (iv_X10_236 a102) (Nat.le_of_ble_eq_true rfl) dX10_runners_34 rfl (Nat.le_of_ble_eq_true rfl) (fun v103 => ?_)
        exact sm_ireturn rfl dX10_runners_37
    · skip
      refine sm_aload_n (pc' := 18) dX10_runners_17 rfl rfl ?_
      refine sm_getF (pc' := 21) fk_X10_38 yr_10_4 dX10_runners_18 rfl (fun v104 => ?_)
      rcases v104 with _ | a105
      · exact sm_unN
      refine sm_unS ?_
      refine sm_calli (pc' := 24) (sa := [qv (some a105)]) (st := []) (iv_X10_233 a105) (Nat.le_of_ble_eq_true rfl) dX10_runners_21 rfl (Nat.le_of_ble_eq_true rfl) (fun v106 => ?_)
      exact sm_ireturn rfl dX10_runners_24
  · skip
    refine sm_aload_n (pc' := 5) dX10_runners_4 rfl rfl ?_
    refine sm_getF (pc' := 8) fk_X10_38 yr_10_4 dX10_runners_5 rfl (fun v107 => ?_)
    rcases v107 with _ | a108
    · exact sm_unN
    refine sm_unS ?_
    refine sm_calli (pc' := 11) (sa := [qv (some a108)]) (st := []) (iv_X10_230 a108) (Nat.le_of_ble_eq_true rfl) dX10_runners_8 rfl (Nat.le_of_ble_eq_true rfl) (fun v109 => ?_)
    exact sm_ireturn rfl dX10_runners_11
theorem kX10_runners (th : Nat) (a1 : Int32) : Callee 4 yX10_runners cX10_runners 2 (some .int) [qv (some th), iv a1] vI (pX10_runners th a1) := callee_ofS [(0, qv (some th)), (1, iv a1)] (by decide +kernel) (Nat.le_of_ble_eq_true rfl) rfl (sX10_runners th a1)
/-! HollowPress$Sheet.put(IJ)J -/
set_option maxRecDepth 20000 in
theorem iv_X7_23 (x0 : Int32) (x1 : Int32) : Inv RX7 1 (.invokestatic 23) [iv x1, iv x0] vI (pX10_below x0 x1) := inv_SN (host := "HollowPress") (As := [iv x0, iv x1]) (kX10_below x0 x1) w_544 w_61 w_62 w_63 ⟨by decide +kernel, by decide +kernel, by show _ = some 2; decide +kernel⟩ (by decide)
abbrev eX7_put : Env0 := (RX7, "put", cX7_put, 6, (some .long), 1)
def pX7_put (th : Nat) (a1 : Int32) (a2 : Int64) : Prg Int64 :=
    gI 8 th 0 fun v101 =>
    (lt (fun (v102 : Int64) => gI 8 th 0 fun v104 =>
    (lt (fun (v105 : Int64) => gF 8 th 1 fun v107 =>
    un v107 fun a108 =>
    ln a108 fun v109 =>
    cl (pX10_below a1 v109) fun v110 =>
    (lt (rt v105 : Prg Int64) fun k111 =>
    (if v110 = 0 then k111
    else gF 8 th 1 fun v112 =>
    un v112 fun a113 =>
    stJ a113 a1 v105 (
    k111))) : Int64 → Prg Int64) fun k106 =>
    (if v104 = (1 : Int32) then k106 (Int32.toInt64 (Int64.toInt32 a2))
    else k106 v102)) : Int64 → Prg Int64) fun k103 =>
    (if v101 = 0 then (lt (Int32.toInt64 (Int8.toInt32 (Int32.toInt8 (Int64.toInt32 a2)))) fun v114 =>
    k103 v114)
    else k103 a2))
set_option maxRecDepth 20000 in
theorem sX7_put (th : Nat) (a1 : Int32) (a2 : Int64) : Sim eX7_put vL 0 [(0, qv (some th)), (1, iv a1), (2, jv a2)] [] (pX7_put th a1 a2) := by
  unfold pX7_put
  refine sm_lload_n (pc' := 1) dX7_put_0 rfl rfl ?_
  refine sm_lstore (pc' := 3) [(4, jv a2), (0, qv (some th)), (1, iv a1), (2, jv a2)] dX7_put_1  (Nat.le_of_ble_eq_true rfl) rfl rfl ?_
  refine sm_aload_n (pc' := 4) dX7_put_3 rfl rfl ?_
  refine sm_getI (pc' := 7) fk_X7_7 nr_8_0 dX7_put_4 rfl (fun v101 => ?_)
  refine sm_lt (fun k103 => ∀ (v102 : Int64), Sim eX7_put vL 16 [(0, qv (some th)), (1, iv a1), (2, jv a2), (4, jv v102)] [] (k103 v102)) ?_ (fun k103 hk103 => ?_)
  · intro v102
    refine sm_aload_n (pc' := 17) dX7_put_16 rfl rfl ?_
    refine sm_getI (pc' := 20) fk_X7_7 nr_8_0 dX7_put_17 rfl (fun v104 => ?_)
    refine sm_iconst (pc' := 21) (1 : Int32) dX7_put_20 (by decide) rfl ?_
    refine sm_lt (fun k106 => ∀ (v105 : Int64), Sim eX7_put vL 29 [(0, qv (some th)), (1, iv a1), (4, jv v105)] [] (k106 v105)) ?_ (fun k106 hk106 => ?_)
    · intro v105
      refine sm_iload_n (pc' := 30) dX7_put_29 rfl rfl ?_
      refine sm_aload_n (pc' := 31) dX7_put_30 rfl rfl ?_
      refine sm_getF (pc' := 34) fk_X7_19 yr_8_1 dX7_put_31 rfl (fun v107 => ?_)
      rcases v107 with _ | a108
      · exact sm_unN
      refine sm_unS ?_
      refine sm_alen (pc' := 35) dX7_put_34 rfl (fun v109 => ?_)
      refine sm_calli (pc' := 38) (sa := [iv v109, iv a1]) (st := []) (iv_X7_23 a1 v109) (Nat.le_of_ble_eq_true rfl) dX7_put_35 rfl (Nat.le_of_ble_eq_true rfl) (fun v110 => ?_)
      refine sm_lt (fun k111 => Sim eX7_put vL 49 [(4, jv v105)] [] (k111)) ?_ (fun k111 hk111 => ?_)
      · skip
        refine sm_lload (pc' := 51) dX7_put_49 rfl rfl ?_
        exact sm_lreturn rfl dX7_put_51
      · skip
        refine sm_if_eq (pc' := 41) (pc1 := 49) dX7_put_38 (by decide) rfl (fun _ => ?_) (fun _ => ?_)
        · skip
          refine sm_sub [2] rfl ?_
          exact hk111
        · skip
          refine sm_aload_n (pc' := 42) dX7_put_41 rfl rfl ?_
          refine sm_getF (pc' := 45) fk_X7_19 yr_8_1 dX7_put_42 rfl (fun v112 => ?_)
          refine sm_iload_n (pc' := 46) dX7_put_45 rfl rfl ?_
          refine sm_lload (pc' := 48) dX7_put_46 rfl rfl ?_
          rcases v112 with _ | a113
          · exact sm_unN
          refine sm_unS ?_
          refine sm_lastore (pc' := 49) dX7_put_48 rfl ?_
          refine sm_sub [2] rfl ?_
          exact hk111
    · skip
      refine sm_icmp_ne (pc' := 24) (pc1 := 29) dX7_put_21 (by decide) rfl (fun _ => ?_) (fun _ => ?_)
      · skip
        refine sm_sub [0, 1, 3] rfl ?_
        exact hk106 v102
      · skip
        refine sm_lload_n (pc' := 25) dX7_put_24 rfl rfl ?_
        refine sm_l2i (pc' := 26) dX7_put_25 rfl ?_
        refine sm_i2l (pc' := 27) dX7_put_26 rfl ?_
        refine sm_lstore (pc' := 29) [(4, jv (Int32.toInt64 (Int64.toInt32 a2))), (0, qv (some th)), (1, iv a1), (2, jv a2)] dX7_put_27  (Nat.le_of_ble_eq_true rfl) rfl rfl ?_
        refine sm_sub [1, 2, 0] rfl ?_
        exact hk106 (Int32.toInt64 (Int64.toInt32 a2))
  · skip
    refine sm_if_ne (pc' := 10) (pc1 := 16) dX7_put_7 (by decide) rfl (fun _ => ?_) (fun _ => ?_)
    · skip
      refine sm_sub [1, 2, 3, 0] rfl ?_
      exact hk103 a2
    · skip
      refine sm_lload_n (pc' := 11) dX7_put_10 rfl rfl ?_
      refine sm_l2i (pc' := 12) dX7_put_11 rfl ?_
      refine sm_i2b (pc' := 13) dX7_put_12 rfl ?_
      refine sm_i2l (pc' := 14) dX7_put_13 rfl ?_
      refine sm_ltI ?_
      generalize (Int32.toInt64 (Int8.toInt32 (Int32.toInt8 (Int64.toInt32 a2)))) = v114
      refine sm_lstore (pc' := 16) [(4, jv v114), (0, qv (some th)), (1, iv a1), (2, jv a2)] dX7_put_14  (Nat.le_of_ble_eq_true rfl) rfl rfl ?_
      refine sm_sub [1, 2, 3, 0] rfl ?_
      exact hk103 v114
theorem kX7_put (th : Nat) (a1 : Int32) (a2 : Int64) : Callee 1 yX7_put cX7_put 6 (some .long) [qv (some th), iv a1, jv a2] vL (pX7_put th a1 a2) := callee_ofS [(0, qv (some th)), (1, iv a1), (2, jv a2)] (by decide +kernel) (Nat.le_of_ble_eq_true rfl) rfl (sX7_put th a1 a2)
/-! HollowPress.set(IIJ)J -/
set_option maxRecDepth 20000 in
theorem iv_X10_73 (a : Nat) (x0 : Int32) (x1 : Int64) : Inv RX10 2 (.invokevirtual 73) [jv x1, iv x0, qv (some a)] vL (onT a 8 (pX7_put a x0 x1)) := inv_V (As := [iv x0, jv x1]) (t := 8) (kX7_put a x0 x1) _ (by decide) rfl rfl w_545 w_546 w_547 w_322 w_548 ⟨by decide +kernel, by decide +kernel, by show _ = some 2; decide +kernel⟩ (by decide)
abbrev eX10_set : Env0 := (RX10, "set", cX10_set, 6, (some .long), 2)
def pX10_set (th : Nat) (a1 : Int32) (a2 : Int32) (a3 : Int64) : Prg Int64 :=
    cl (pX10_below a1 (8 : Int32)) fun v101 =>
    (if v101 = 0 then rt (-1000001 : Int64)
    else gF 10 th 0 fun v102 =>
    un v102 fun a103 =>
    ldF a103 a1 fun v104 =>
    (nu v104 (cl (onT th 10 (pX10_found th (1 : Int32))) fun v106 =>
    rt (Int32.toInt64 v106)) fun a105 =>
    cl (onT a105 8 (pX7_covers a105 a2 (1 : Int32))) fun v107 =>
    (if v107 = 0 then cl (onT th 10 (pX10_found th (2 : Int32))) fun v109 =>
    rt (Int32.toInt64 v109)
    else pI 10 th 6 (0 : Int32) (
    cl (onT a105 8 (pX7_put a105 a2 a3)) fun v108 =>
    rt v108))))
set_option maxRecDepth 20000 in
theorem sX10_set (th : Nat) (a1 : Int32) (a2 : Int32) (a3 : Int64) : Sim eX10_set vL 0 [(0, qv (some th)), (1, iv a1), (2, iv a2), (3, jv a3)] [] (pX10_set th a1 a2 a3) := by
  unfold pX10_set
  refine sm_iload_n (pc' := 1) dX10_set_0 rfl rfl ?_
  refine sm_bipush (pc' := 3) (8 : Int32) dX10_set_1 (by decide) rfl ?_
  refine sm_calli (pc' := 6) (sa := [iv (8 : Int32), iv a1]) (st := []) (iv_X10_53 a1 (8 : Int32)) (Nat.le_of_ble_eq_true rfl) dX10_set_3 rfl (Nat.le_of_ble_eq_true rfl) (fun v101 => ?_)
  refine sm_if_ne (pc' := 9) (pc1 := 13) dX10_set_6 (by decide) rfl (fun _ => ?_) (fun _ => ?_)
  · skip
    refine sm_aload_n (pc' := 14) dX10_set_13 rfl rfl ?_
    refine sm_getF (pc' := 17) fk_X10_11 yr_10_0 dX10_set_14 rfl (fun v102 => ?_)
    refine sm_iload_n (pc' := 18) dX10_set_17 rfl rfl ?_
    rcases v102 with _ | a103
    · exact sm_unN
    refine sm_unS ?_
    refine sm_aaload (pc' := 19) dX10_set_18 rfl (fun v104 => ?_)
    refine sm_astore (pc' := 21) [(5, qv v104), (0, qv (some th)), (1, iv a1), (2, iv a2), (3, jv a3)] dX10_set_19  (Nat.le_of_ble_eq_true rfl) rfl rfl ?_
    refine sm_aload (pc' := 23) dX10_set_21 rfl rfl ?_
    rcases v104 with _ | a105
    · refine sm_nuN ?_
      refine sm_ifnonnullN (pc' := 26) dX10_set_23 rfl ?_
      refine sm_aload_n (pc' := 27) dX10_set_26 rfl rfl ?_
      refine sm_iconst (pc' := 28) (1 : Int32) dX10_set_27 (by decide) rfl ?_
      refine sm_calli (pc' := 31) (sa := [iv (1 : Int32), qv (some th)]) (st := []) (iv_X10_58 th (1 : Int32)) (Nat.le_of_ble_eq_true rfl) dX10_set_28 rfl (Nat.le_of_ble_eq_true rfl) (fun v106 => ?_)
      refine sm_i2l (pc' := 32) dX10_set_31 rfl ?_
      exact sm_lreturn rfl dX10_set_32
    · refine sm_nuS ?_
      refine sm_ifnonnullS (pc' := 33) dX10_set_23 (by decide) ?_
      refine sm_aload (pc' := 35) dX10_set_33 rfl rfl ?_
      refine sm_iload_n (pc' := 36) dX10_set_35 rfl rfl ?_
      refine sm_iconst (pc' := 37) (1 : Int32) dX10_set_36 (by decide) rfl ?_
      refine sm_calli (pc' := 40) (sa := [iv (1 : Int32), iv a2, qv (some a105)]) (st := []) (iv_X10_70 a105 a2 (1 : Int32)) (Nat.le_of_ble_eq_true rfl) dX10_set_37 rfl (Nat.le_of_ble_eq_true rfl) (fun v107 => ?_)
      refine sm_if_ne (pc' := 43) (pc1 := 50) dX10_set_40 (by decide) rfl (fun _ => ?_) (fun _ => ?_)
      · skip
        refine sm_aload_n (pc' := 51) dX10_set_50 rfl rfl ?_
        refine sm_iconst (pc' := 52) (0 : Int32) dX10_set_51 (by decide) rfl ?_
        refine sm_putI (pc' := 55) (gk_X10_49 _ _ _ _ _) ti_10_6 dX10_set_52 rfl ?_
        refine sm_aload (pc' := 57) dX10_set_55 rfl rfl ?_
        refine sm_iload_n (pc' := 58) dX10_set_57 rfl rfl ?_
        refine sm_lload_n (pc' := 59) dX10_set_58 rfl rfl ?_
        refine sm_calll (pc' := 62) (sa := [jv a3, iv a2, qv (some a105)]) (st := []) (iv_X10_73 a105 a2 a3) (Nat.le_of_ble_eq_true rfl) dX10_set_59 rfl (Nat.le_of_ble_eq_true rfl) (fun v108 => ?_)
        exact sm_lreturn rfl dX10_set_62
      · skip
        refine sm_aload_n (pc' := 44) dX10_set_43 rfl rfl ?_
        refine sm_iconst (pc' := 45) (2 : Int32) dX10_set_44 (by decide) rfl ?_
        refine sm_calli (pc' := 48) (sa := [iv (2 : Int32), qv (some th)]) (st := []) (iv_X10_58 th (2 : Int32)) (Nat.le_of_ble_eq_true rfl) dX10_set_45 rfl (Nat.le_of_ble_eq_true rfl) (fun v109 => ?_)
        refine sm_i2l (pc' := 49) dX10_set_48 rfl ?_
        exact sm_lreturn rfl dX10_set_49
  · skip
    refine sm_ldc2 (pc' := 12) (-1000001 : Int64) w_364 dX10_set_9 rfl ?_
    exact sm_lreturn rfl dX10_set_12
theorem kX10_set (th : Nat) (a1 : Int32) (a2 : Int32) (a3 : Int64) : Callee 2 yX10_set cX10_set 6 (some .long) [qv (some th), iv a1, iv a2, jv a3] vL (pX10_set th a1 a2 a3) := callee_ofS [(0, qv (some th)), (1, iv a1), (2, iv a2), (3, jv a3)] (by decide +kernel) (Nat.le_of_ble_eq_true rfl) rfl (sX10_set th a1 a2 a3)
