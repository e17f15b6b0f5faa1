/-! HollowPress.branch(III)I -/
set_option maxRecDepth 20000 in
theorem iv_X10_214 (a : Nat) (x0 : Int32) (x1 : Int32) (x2 : Int32) : Inv RX10 1 (.invokevirtual 214) [iv x2, iv x1, iv x0, qv (some a)] vI (onT a 7 (pX6_grow a x0 x1 x2)) := inv_V (As := [iv x0, iv x1, iv x2]) (t := 7) (kX6_grow a x0 x1 x2) _ (by decide) rfl rfl w_293 w_294 w_295 w_225 w_296 ⟨by decide +kernel, by decide +kernel, by show _ = some 3; decide +kernel⟩ (by decide)
abbrev eX10_branch : Env0 := (RX10, "branch", cX10_branch, 4, (some .int), 1)
def pX10_branch (th : Nat) (a1 : Int32) (a2 : Int32) (a3 : Int32) : Prg Int32 :=
    (lt (cl (pX10_among a2 (1 : Int32) (50 : Int32)) fun v102 =>
    (lt (rt (-1000001 : Int32) : Prg Int32) fun k103 =>
    (if v102 = 0 then k103
    else cl (pX10_among a3 (1 : Int32) (9 : Int32)) fun v104 =>
    (if v104 = 0 then k103
    else gF 10 th 4 fun v105 =>
    un v105 fun a106 =>
    cl (onT a106 7 (pX6_grow a106 a1 a2 a3)) fun v107 =>
    rt v107))) : Prg Int32) fun k101 =>
    (if a1 = (-1000000 : Int32) then k101
    else gF 10 th 4 fun v108 =>
    un v108 fun a109 =>
    gI 7 a109 4 fun v110 =>
    cl (pX10_below a1 v110) fun v111 =>
    (if v111 = 0 then rt (-1000001 : Int32)
    else k101)))
set_option maxRecDepth 20000 in
theorem sX10_branch (th : Nat) (a1 : Int32) (a2 : Int32) (a3 : Int32) : Sim eX10_branch vI 0 [(0, qv (some th)), (1, iv a1), (2, iv a2), (3, iv a3)] [] (pX10_branch th a1 a2 a3) := by
  unfold pX10_branch
  refine sm_iload_n (pc' := 1) dX10_branch_0 rfl rfl ?_
  refine sm_ldc (pc' := 3) (-1000000 : Int32) w_292 dX10_branch_1 rfl ?_
  refine sm_lt (fun k101 => Sim eX10_branch vI 23 [(0, qv (some th)), (1, iv a1), (2, iv a2), (3, iv a3)] [] (k101)) ?_ (fun k101 hk101 => ?_)
  · skip
    refine sm_iload_n (pc' := 24) dX10_branch_23 rfl rfl ?_
    refine sm_iconst (pc' := 25) (1 : Int32) dX10_branch_24 (by decide) rfl ?_
    refine sm_bipush (pc' := 27) (50 : Int32) dX10_branch_25 (by decide) rfl ?_
    refine sm_calli (pc' := 30) (sa := [iv (50 : Int32), iv (1 : Int32), iv a2]) (st := []) (iv_X10_90 a2 (1 : Int32) (50 : Int32)) (Nat.le_of_ble_eq_true rfl) dX10_branch_27 rfl (Nat.le_of_ble_eq_true rfl) (fun v102 => ?_)
    refine sm_lt (fun k103 => Sim eX10_branch vI 43 [] [] (k103)) ?_ (fun k103 hk103 => ?_)
    · skip
      refine sm_ldc (pc' := 45) (-1000001 : Int32) w_189 dX10_branch_43 rfl ?_
      exact sm_ireturn rfl dX10_branch_45
    · skip
      refine sm_if_eq (pc' := 33) (pc1 := 43) dX10_branch_30 (by decide) rfl (fun _ => ?_) (fun _ => ?_)
      · skip
        refine sm_sub [] rfl ?_
        exact hk103
      · skip
        refine sm_iload_n (pc' := 34) dX10_branch_33 rfl rfl ?_
        refine sm_iconst (pc' := 35) (1 : Int32) dX10_branch_34 (by decide) rfl ?_
        refine sm_bipush (pc' := 37) (9 : Int32) dX10_branch_35 (by decide) rfl ?_
        refine sm_calli (pc' := 40) (sa := [iv (9 : Int32), iv (1 : Int32), iv a3]) (st := []) (iv_X10_90 a3 (1 : Int32) (9 : Int32)) (Nat.le_of_ble_eq_true rfl) dX10_branch_37 rfl (Nat.le_of_ble_eq_true rfl) (fun v104 => ?_)
        refine sm_if_ne (pc' := 43) (pc1 := 46) dX10_branch_40 (by decide) rfl (fun _ => ?_) (fun _ => ?_)
        · skip
          refine sm_aload_n (pc' := 47) dX10_branch_46 rfl rfl ?_
          refine sm_getF (pc' := 50) fk_X10_38 yr_10_4 dX10_branch_47 rfl (fun v105 => ?_)
          refine sm_iload_n (pc' := 51) dX10_branch_50 rfl rfl ?_
          refine sm_iload_n (pc' := 52) dX10_branch_51 rfl rfl ?_
          refine sm_iload_n (pc' := 53) dX10_branch_52 rfl rfl ?_
          rcases v105 with _ | a106
          · exact sm_unN
          refine sm_unS ?_
          refine sm_calli (pc' := 56) (sa := [iv a3, iv a2, iv a1, qv (some a106)]) (st := []) (iv_X10_214 a106 a1 a2 a3) (Nat.le_of_ble_eq_true rfl) dX10_branch_53 rfl (Nat.le_of_ble_eq_true rfl) (fun v107 => ?_)
          exact sm_ireturn rfl dX10_branch_56
        · skip
          refine sm_sub [] rfl ?_
          exact hk103
  · skip
    refine sm_icmp_eq (pc' := 6) (pc1 := 23) dX10_branch_3 (by decide) rfl (fun _ => ?_) (fun _ => ?_)
    · skip
      exact hk101
    · skip
      refine sm_iload_n (pc' := 7) dX10_branch_6 rfl rfl ?_
      refine sm_aload_n (pc' := 8) dX10_branch_7 rfl rfl ?_
      refine sm_getF (pc' := 11) fk_X10_38 yr_10_4 dX10_branch_8 rfl (fun v108 => ?_)
      rcases v108 with _ | a109
      · exact sm_unN
      refine sm_unS ?_
      refine sm_getI (pc' := 14) fk_X10_211 nr_7_4 dX10_branch_11 rfl (fun v110 => ?_)
      refine sm_calli (pc' := 17) (sa := [iv v110, iv a1]) (st := []) (iv_X10_53 a1 v110) (Nat.le_of_ble_eq_true rfl) dX10_branch_14 rfl (Nat.le_of_ble_eq_true rfl) (fun v111 => ?_)
      refine sm_if_ne (pc' := 20) (pc1 := 23) dX10_branch_17 (by decide) rfl (fun _ => ?_) (fun _ => ?_)
      · skip
        exact hk101
      · skip
        refine sm_ldc (pc' := 22) (-1000001 : Int32) w_189 dX10_branch_20 rfl ?_
        exact sm_ireturn rfl dX10_branch_22
theorem kX10_branch (th : Nat) (a1 : Int32) (a2 : Int32) (a3 : Int32) : Callee 1 yX10_branch cX10_branch 4 (some .int) [qv (some th), iv a1, iv a2, iv a3] vI (pX10_branch th a1 a2 a3) := callee_ofS [(0, qv (some th)), (1, iv a1), (2, iv a2), (3, iv a3)] (by decide +kernel) (Nat.le_of_ble_eq_true rfl) rfl (sX10_branch th a1 a2 a3)
/-! HollowPress.cell(III)I -/
set_option maxRecDepth 20000 in
theorem iv_X10_173 (a : Nat) (x0 : Option Nat) : Inv RX10 5 (.invokevirtual 173) [qv x0, qv (some a)] vU (onT a 2 (pX1_fill a x0)) := inv_V (As := [qv x0]) (t := 2) (kX1_fill a x0) _ (by decide) rfl rfl w_299 w_156 w_157 w_67 w_158 ⟨by decide +kernel, by decide +kernel, by show _ = some 1; decide +kernel⟩ (by decide)
set_option maxRecDepth 20000 in
theorem iv_X10_186 (a : Nat) (x0 : Int32) (x1 : Option Nat) : Inv RX10 3 (.invokevirtual 186) [qv x1, iv x0, qv (some a)] vI (onT a 2 (pX1_filledUpTo a x0 x1)) := inv_V (As := [iv x0, qv x1]) (t := 2) (kX1_filledUpTo a x0 x1) _ (by decide) rfl rfl w_300 w_301 w_302 w_67 w_303 ⟨by decide +kernel, by decide +kernel, by show _ = some 2; decide +kernel⟩ (by decide)
set_option maxRecDepth 20000 in
theorem iv_X10_183 (a : Nat) (x0 : Int32) : Inv RX10 3 (.invokevirtual 183) [iv x0, qv (some a)] vI (onT a 2 (pX1_rank a x0)) := inv_V (As := [iv x0]) (t := 2) (kX1_rank a x0) _ (by decide) rfl rfl w_304 w_305 w_306 w_67 w_307 ⟨by decide +kernel, by decide +kernel, by show _ = some 1; decide +kernel⟩ (by decide)
set_option maxRecDepth 20000 in
theorem iv_X10_180 (a : Nat) (x0 : Int32) : Inv RX10 3 (.invokevirtual 180) [iv x0, qv (some a)] vI (onT a 2 (pX1_front a x0)) := inv_V (As := [iv x0]) (t := 2) (kX1_front a x0) _ (by decide) rfl rfl w_308 w_132 w_133 w_67 w_134 ⟨by decide +kernel, by decide +kernel, by show _ = some 1; decide +kernel⟩ (by decide)
set_option maxRecDepth 20000 in
theorem iv_X10_177 (a : Nat) (x0 : Int32) : Inv RX10 3 (.invokevirtual 177) [iv x0, qv (some a)] vI (onT a 2 (pX1_strain a x0)) := inv_V (As := [iv x0]) (t := 2) (kX1_strain a x0) _ (by decide) rfl rfl w_309 w_72 w_73 w_67 w_74 ⟨by decide +kernel, by decide +kernel, by show _ = some 1; decide +kernel⟩ (by decide)
set_option maxRecDepth 20000 in
theorem iv_X10_148 (a : Nat) (x0 : Int32) : Inv RX10 2 (.invokevirtual 148) [iv x0, qv (some a)] vI (or2 a 4 (pX3_thickness a x0) (or2 a 1 (pX3_thickness a x0) (onT a 5 (pX3_thickness a x0)))) := inv_or (inv_V (As := [iv x0]) (t := 4) (kX3_thickness a x0) _ (by decide) rfl rfl w_310 w_87 w_88 w_25 w_89 ⟨by decide +kernel, by decide +kernel, by show _ = some 1; decide +kernel⟩ (by decide)) (inv_or (inv_U (As := [iv x0]) (t := 1) (owner := "HollowPress$Part") (xn := ⟨"HollowPress$Part", "thickness", "(I)I"⟩) (kX3_thickness a x0) _ (by decide) rfl w_310 w_90 (Or.inr ⟨w_87, cX3_thickness, 2, (some .int), w_89⟩) w_91 w_87 w_25 w_89 ⟨by decide +kernel, by decide +kernel, by show _ = some 1; decide +kernel⟩ (by decide)) (inv_U (As := [iv x0]) (t := 5) (owner := "HollowPress$Part") (xn := ⟨"HollowPress$Part", "thickness", "(I)I"⟩) (kX3_thickness a x0) _ (by decide) rfl w_310 w_90 (Or.inr ⟨w_87, cX3_thickness, 2, (some .int), w_89⟩) w_92 w_87 w_25 w_89 ⟨by decide +kernel, by decide +kernel, by show _ = some 1; decide +kernel⟩ (by decide)))
abbrev eX10_cell : Env0 := (RX10, "cell", cX10_cell, 6, (some .int), 5)
def pX10_cell (th : Nat) (a1 : Int32) (a2 : Int32) (a3 : Int32) : Prg Int32 :=
    cl (pX10_below a1 (10 : Int32)) fun v101 =>
    (lt (rt (-1000001 : Int32) : Prg Int32) fun k102 =>
    (if v101 = 0 then k102
    else cl (pX10_among a3 (0 : Int32) (4 : Int32)) fun v103 =>
    (if v103 = 0 then k102
    else gF 10 th 1 fun v104 =>
    un v104 fun a105 =>
    ldF a105 a1 fun v106 =>
    iO 4 v106 fun v107 =>
    (if v107 = 0 then cl (onT th 10 (pX10_otherThing th a1)) fun v108 =>
    rt v108
    else un v106 fun a109 =>
    cO 4 a109 (
    gF 4 a109 2 fun v110 =>
    un v110 fun a111 =>
    ln a111 fun v112 =>
    cl (pX10_below a2 v112) fun v113 =>
    (if v113 = 0 then rt (-1000001 : Int32)
    else (if a3 = 0 then cl (or2 a109 4 (pX3_thickness a109 a2) (or2 a109 1 (pX3_thickness a109 a2) (onT a109 5 (pX3_thickness a109 a2)))) fun v132 =>
    cl (onT th 10 (pX10_fine th v132)) fun v133 =>
    rt v133
    else gF 10 th 3 fun v114 =>
    un v114 fun a115 =>
    cl (onT a115 2 (pX1_fill a115 (some a109))) fun _ =>
    (if a3 = (1 : Int32) then gF 10 th 3 fun v128 =>
    un v128 fun a129 =>
    cl (onT a129 2 (pX1_strain a129 a2)) fun v130 =>
    cl (onT th 10 (pX10_fine th v130)) fun v131 =>
    rt v131
    else (if a3 = (2 : Int32) then gF 10 th 3 fun v124 =>
    un v124 fun a125 =>
    cl (onT a125 2 (pX1_front a125 a2)) fun v126 =>
    cl (onT th 10 (pX10_fine th v126)) fun v127 =>
    rt v127
    else (if a3 = (3 : Int32) then gF 10 th 3 fun v120 =>
    un v120 fun a121 =>
    cl (onT a121 2 (pX1_rank a121 a2)) fun v122 =>
    cl (onT th 10 (pX10_fine th v122)) fun v123 =>
    rt v123
    else gF 10 th 3 fun v116 =>
    un v116 fun a117 =>
    cl (onT a117 2 (pX1_filledUpTo a117 a2 (some a109))) fun v118 =>
    cl (onT th 10 (pX10_fine th v118)) fun v119 =>
    rt v119))))))))))
set_option maxRecDepth 20000 in
theorem sX10_cell (th : Nat) (a1 : Int32) (a2 : Int32) (a3 : Int32) : Sim eX10_cell vI 0 [(0, qv (some th)), (1, iv a1), (2, iv a2), (3, iv a3)] [] (pX10_cell th a1 a2 a3) := by
  unfold pX10_cell
  refine sm_iload_n (pc' := 1) dX10_cell_0 rfl rfl ?_
  refine sm_bipush (pc' := 3) (10 : Int32) dX10_cell_1 (by decide) rfl ?_
  refine sm_calli (pc' := 6) (sa := [iv (10 : Int32), iv a1]) (st := []) (iv_X10_53 a1 (10 : Int32)) (Nat.le_of_ble_eq_true rfl) dX10_cell_3 rfl (Nat.le_of_ble_eq_true rfl) (fun v101 => ?_)
  refine sm_lt (fun k102 => Sim eX10_cell vI 18 [] [] (k102)) ?_ (fun k102 hk102 => ?_)
  · skip
    refine sm_ldc (pc' := 20) (-1000001 : Int32) w_189 dX10_cell_18 rfl ?_
    exact sm_ireturn rfl dX10_cell_20
  · skip
    refine sm_if_eq (pc' := 9) (pc1 := 18) dX10_cell_6 (by decide) rfl (fun _ => ?_) (fun _ => ?_)
    · skip
      refine sm_sub [] rfl ?_
      exact hk102
    · skip
      refine sm_iload_n (pc' := 10) dX10_cell_9 rfl rfl ?_
      refine sm_iconst (pc' := 11) (0 : Int32) dX10_cell_10 (by decide) rfl ?_
      refine sm_iconst (pc' := 12) (4 : Int32) dX10_cell_11 (by decide) rfl ?_
      refine sm_calli (pc' := 15) (sa := [iv (4 : Int32), iv (0 : Int32), iv a3]) (st := []) (iv_X10_90 a3 (0 : Int32) (4 : Int32)) (Nat.le_of_ble_eq_true rfl) dX10_cell_12 rfl (Nat.le_of_ble_eq_true rfl) (fun v103 => ?_)
      refine sm_if_ne (pc' := 18) (pc1 := 21) dX10_cell_15 (by decide) rfl (fun _ => ?_) (fun _ => ?_)
      · skip
        refine sm_aload_n (pc' := 22) dX10_cell_21 rfl rfl ?_
        refine sm_getF (pc' := 25) fk_X10_17 yr_10_1 dX10_cell_22 rfl (fun v104 => ?_)
        refine sm_iload_n (pc' := 26) dX10_cell_25 rfl rfl ?_
        rcases v104 with _ | a105
        · exact sm_unN
        refine sm_unS ?_
        refine sm_aaload (pc' := 27) dX10_cell_26 rfl (fun v106 => ?_)
        refine sm_astore (pc' := 29) [(5, qv v106), (0, qv (some th)), (1, iv a1), (2, iv a2), (3, iv a3)] dX10_cell_27  (Nat.le_of_ble_eq_true rfl) rfl rfl ?_
        refine sm_aload (pc' := 31) dX10_cell_29 rfl rfl ?_
        refine sm_inst (pc' := 34) (Or.inl ⟨rfl, rfl⟩) w_283 dX10_cell_31 rfl (fun v107 => ?_)
        refine sm_if_eq (pc' := 37) (pc1 := 47) dX10_cell_34 (by decide) rfl (fun _ => ?_) (fun _ => ?_)
        · skip
          refine sm_aload_n (pc' := 48) dX10_cell_47 rfl rfl ?_
          refine sm_iload_n (pc' := 49) dX10_cell_48 rfl rfl ?_
          refine sm_calli (pc' := 52) (sa := [iv a1, qv (some th)]) (st := []) (iv_X10_145 th a1) (Nat.le_of_ble_eq_true rfl) dX10_cell_49 rfl (Nat.le_of_ble_eq_true rfl) (fun v108 => ?_)
          exact sm_ireturn rfl dX10_cell_52
        · skip
          refine sm_aload (pc' := 39) dX10_cell_37 rfl rfl ?_
          rcases v106 with _ | a109
          · exact sm_unN
          refine sm_unS ?_
          refine sm_cast (pc' := 42) (Or.inl ⟨rfl, rfl⟩) w_283 dX10_cell_39 rfl ?_
          refine sm_astore (pc' := 44) [(4, qv (some a109)), (5, qv (some a109)), (0, qv (some th)), (1, iv a1), (2, iv a2), (3, iv a3)] dX10_cell_42  (Nat.le_of_ble_eq_true rfl) rfl rfl ?_
          refine sm_goto (pc' := 53) dX10_cell_44 (by decide) ?_
          refine sm_iload_n (pc' := 54) dX10_cell_53 rfl rfl ?_
          refine sm_aload (pc' := 56) dX10_cell_54 rfl rfl ?_
          refine sm_getF (pc' := 59) fk_X10_169 yr_4_2 dX10_cell_56 rfl (fun v110 => ?_)
          rcases v110 with _ | a111
          · exact sm_unN
          refine sm_unS ?_
          refine sm_alen (pc' := 60) dX10_cell_59 rfl (fun v112 => ?_)
          refine sm_calli (pc' := 63) (sa := [iv v112, iv a2]) (st := []) (iv_X10_53 a2 v112) (Nat.le_of_ble_eq_true rfl) dX10_cell_60 rfl (Nat.le_of_ble_eq_true rfl) (fun v113 => ?_)
          refine sm_if_ne (pc' := 66) (pc1 := 69) dX10_cell_63 (by decide) rfl (fun _ => ?_) (fun _ => ?_)
          · skip
            refine sm_iload_n (pc' := 70) dX10_cell_69 rfl rfl ?_
            refine sm_if_ne (pc' := 73) (pc1 := 84) dX10_cell_70 (by decide) rfl (fun _ => ?_) (fun _ => ?_)
            · skip
              refine sm_aload_n (pc' := 85) dX10_cell_84 rfl rfl ?_
              refine sm_getF (pc' := 88) fk_X10_31 yr_10_3 dX10_cell_85 rfl (fun v114 => ?_)
              refine sm_aload (pc' := 90) dX10_cell_88 rfl rfl ?_
              rcases v114 with _ | a115
              · exact sm_unN
              refine sm_unS ?_
              refine sm_callv (pc' := 93) (sa := [qv (some a109), qv (some a115)]) (st := []) (iv_X10_173 a115 (some a109)) (Nat.le_of_ble_eq_true rfl) dX10_cell_90 rfl (Nat.le_of_ble_eq_true rfl) (fun _ => ?_)
              refine sm_iload_n (pc' := 94) dX10_cell_93 rfl rfl ?_
              refine sm_iconst (pc' := 95) (1 : Int32) dX10_cell_94 (by decide) rfl ?_
              refine sm_icmp_ne (pc' := 98) (pc1 := 111) dX10_cell_95 (by decide) rfl (fun _ => ?_) (fun _ => ?_)
              · skip
                refine sm_iload_n (pc' := 112) dX10_cell_111 rfl rfl ?_
                refine sm_iconst (pc' := 113) (2 : Int32) dX10_cell_112 (by decide) rfl ?_
                refine sm_icmp_ne (pc' := 116) (pc1 := 129) dX10_cell_113 (by decide) rfl (fun _ => ?_) (fun _ => ?_)
                · skip
                  refine sm_iload_n (pc' := 130) dX10_cell_129 rfl rfl ?_
                  refine sm_iconst (pc' := 131) (3 : Int32) dX10_cell_130 (by decide) rfl ?_
                  refine sm_icmp_ne (pc' := 134) (pc1 := 147) dX10_cell_131 (by decide) rfl (fun _ => ?_) (fun _ => ?_)
                  · skip
                    refine sm_aload_n (pc' := 148) dX10_cell_147 rfl rfl ?_
                    refine sm_aload_n (pc' := 149) dX10_cell_148 rfl rfl ?_
                    refine sm_getF (pc' := 152) fk_X10_31 yr_10_3 dX10_cell_149 rfl (fun v116 => ?_)
                    refine sm_iload_n (pc' := 153) dX10_cell_152 rfl rfl ?_
                    refine sm_aload (pc' := 155) dX10_cell_153 rfl rfl ?_
                    rcases v116 with _ | a117
                    · exact sm_unN
                    refine sm_unS ?_
                    refine sm_calli (pc' := 158) (sa := [qv (some a109), iv a2, qv (some a117)]) (st := [qv (some th)]) (iv_X10_186 a117 a2 (some a109)) (Nat.le_of_ble_eq_true rfl) dX10_cell_155 rfl (Nat.le_of_ble_eq_true rfl) (fun v118 => ?_)
                    refine sm_calli (pc' := 161) (sa := [iv v118, qv (some th)]) (st := []) (iv_X10_65 th v118) (Nat.le_of_ble_eq_true rfl) dX10_cell_158 rfl (Nat.le_of_ble_eq_true rfl) (fun v119 => ?_)
                    exact sm_ireturn rfl dX10_cell_161
                  · skip
                    refine sm_aload_n (pc' := 135) dX10_cell_134 rfl rfl ?_
                    refine sm_aload_n (pc' := 136) dX10_cell_135 rfl rfl ?_
                    refine sm_getF (pc' := 139) fk_X10_31 yr_10_3 dX10_cell_136 rfl (fun v120 => ?_)
                    refine sm_iload_n (pc' := 140) dX10_cell_139 rfl rfl ?_
                    rcases v120 with _ | a121
                    · exact sm_unN
                    refine sm_unS ?_
                    refine sm_calli (pc' := 143) (sa := [iv a2, qv (some a121)]) (st := [qv (some th)]) (iv_X10_183 a121 a2) (Nat.le_of_ble_eq_true rfl) dX10_cell_140 rfl (Nat.le_of_ble_eq_true rfl) (fun v122 => ?_)
                    refine sm_calli (pc' := 146) (sa := [iv v122, qv (some th)]) (st := []) (iv_X10_65 th v122) (Nat.le_of_ble_eq_true rfl) dX10_cell_143 rfl (Nat.le_of_ble_eq_true rfl) (fun v123 => ?_)
                    exact sm_ireturn rfl dX10_cell_146
                · skip
                  refine sm_aload_n (pc' := 117) dX10_cell_116 rfl rfl ?_
                  refine sm_aload_n (pc' := 118) dX10_cell_117 rfl rfl ?_
                  refine sm_getF (pc' := 121) fk_X10_31 yr_10_3 dX10_cell_118 rfl (fun v124 => ?_)
                  refine sm_iload_n (pc' := 122) dX10_cell_121 rfl rfl ?_
                  rcases v124 with _ | a125
                  · exact sm_unN
                  refine sm_unS ?_
                  refine sm_calli (pc' := 125) (sa := [iv a2, qv (some a125)]) (st := [qv (some th)]) (iv_X10_180 a125 a2) (Nat.le_of_ble_eq_true rfl) dX10_cell_122 rfl (Nat.le_of_ble_eq_true rfl) (fun v126 => ?_)
                  refine sm_calli (pc' := 128) (sa := [iv v126, qv (some th)]) (st := []) (iv_X10_65 th v126) (Nat.le_of_ble_eq_true rfl) dX10_cell_125 rfl (Nat.le_of_ble_eq_true rfl) (fun v127 => ?_)
                  exact sm_ireturn rfl dX10_cell_128
              · skip
                refine sm_aload_n (pc' := 99) dX10_cell_98 rfl rfl ?_
                refine sm_aload_n (pc' := 100) dX10_cell_99 rfl rfl ?_
                refine sm_getF (pc' := 103) fk_X10_31 yr_10_3 dX10_cell_100 rfl (fun v128 => ?_)
                refine sm_iload_n (pc' := 104) dX10_cell_103 rfl rfl ?_
                rcases v128 with _ | a129
                · exact sm_unN
                refine sm_unS ?_
                refine sm_calli (pc' := 107) (sa := [iv a2, qv (some a129)]) (st := [qv (some th)]) (iv_X10_177 a129 a2) (Nat.le_of_ble_eq_true rfl) dX10_cell_104 rfl (Nat.le_of_ble_eq_true rfl) (fun v130 => ?_)
                refine sm_calli (pc' := 110) (sa := [iv v130, qv (some th)]) (st := []) (iv_X10_65 th v130) (Nat.le_of_ble_eq_true rfl) dX10_cell_107 rfl (Nat.le_of_ble_eq_true rfl) (fun v131 => ?_)
                exact sm_ireturn rfl dX10_cell_110
            · skip
              refine sm_aload_n (pc' := 74) dX10_cell_73 rfl rfl ?_
              refine sm_aload (pc' := 76) dX10_cell_74 rfl rfl ?_
              refine sm_iload_n (pc' := 77) dX10_cell_76 rfl rfl ?_
              refine sm_calli (pc' := 80) (sa := [iv a2, qv (some a109)]) (st := [qv (some th)]) (iv_X10_148 a109 a2) (Nat.le_of_ble_eq_true rfl) dX10_cell_77 rfl (Nat.le_of_ble_eq_true rfl) (fun v132 => ?_)
              refine sm_calli (pc' := 83) (sa := [iv v132, qv (some th)]) (st := []) (iv_X10_65 th v132) (Nat.le_of_ble_eq_true rfl) dX10_cell_80 rfl (Nat.le_of_ble_eq_true rfl) (fun v133 => ?_)
              exact sm_ireturn rfl dX10_cell_83
          · skip
            refine sm_ldc (pc' := 68) (-1000001 : Int32) w_189 dX10_cell_66 rfl ?_
            exact sm_ireturn rfl dX10_cell_68
      · skip
        refine sm_sub [] rfl ?_
        exact hk102
theorem kX10_cell (th : Nat) (a1 : Int32) (a2 : Int32) (a3 : Int32) : Callee 5 yX10_cell cX10_cell 6 (some .int) [qv (some th), iv a1, iv a2, iv a3] vI (pX10_cell th a1 a2 a3) := callee_ofS [(0, qv (some th)), (1, iv a1), (2, iv a2), (3, iv a3)] (by decide +kernel) (Nat.le_of_ble_eq_true rfl) rfl (sX10_cell th a1 a2 a3)
/-! HollowPress$Runners.holds(LHollowPress$Thing;)Z -/
abbrev eX6_holds : Env0 := (RX6, "holds", cX6_holds, 3, (some .boolean), 0)
def pX6_holds_L8 (th : Nat) (a101 : Nat) (k103 : Prg Int32) : Nat → Int32 → Prg Int32
  | 0, _ => fl
  | n + 1, v102 =>
    gI 7 th 4 fun v104 =>
    (if v104 ≤ v102 then k103
    else gF 7 th 3 fun v105 =>
    un v105 fun a106 =>
    ldF a106 v102 fun v107 =>
    (if v107 = (some a101) then rtZ (1 : Int32)
    else pX6_holds_L8 th a101 k103 n (v102 + (1 : Int32))))
def pX6_holds (th : Nat) (a1 : Option Nat) : Prg Int32 :=
    (nu a1 (rtZ (0 : Int32)) fun a101 =>
    pX6_holds_L8 th a101 (rtZ (0 : Int32)) FL (0 : Int32))
set_option maxRecDepth 20000 in
theorem sX6_holds_L8 (th : Nat) (a101 : Nat) (k103 : Prg Int32) (hk103 : Sim eX6_holds vI 34 [] [] (k103)) : ∀ (n : Nat), ∀ (v102 : Int32), Sim eX6_holds vI 8 [(0, qv (some th)), (1, qv (some a101)), (2, iv v102)] [] (pX6_holds_L8 th a101 k103 n v102) := by
  intro n
  induction n with
  | zero =>
    intros
    exact sm_fl
  | succ n ih =>
    intro v102
    unfold pX6_holds_L8
    refine sm_iload_n (pc' := 9) dX6_holds_8 rfl rfl ?_
    refine sm_aload_n (pc' := 10) dX6_holds_9 rfl rfl ?_
    refine sm_getI (pc' := 13) fk_X6_27 nr_7_4 dX6_holds_10 rfl (fun v104 => ?_)
    refine sm_icmp_ge (pc' := 16) (pc1 := 34) dX6_holds_13 (by decide) rfl (fun _ => ?_) (fun _ => ?_)
    · skip
      refine sm_sub [] rfl ?_
      exact hk103
    · skip
      refine sm_aload_n (pc' := 17) dX6_holds_16 rfl rfl ?_
      refine sm_getF (pc' := 20) fk_X6_23 yr_7_3 dX6_holds_17 rfl (fun v105 => ?_)
      refine sm_iload_n (pc' := 21) dX6_holds_20 rfl rfl ?_
      rcases v105 with _ | a106
      · exact sm_unN
      refine sm_unS ?_
      refine sm_aaload (pc' := 22) dX6_holds_21 rfl (fun v107 => ?_)
      refine sm_aload_n (pc' := 23) dX6_holds_22 rfl rfl ?_
      refine sm_acmp_ne (pc' := 26) (pc1 := 28) dX6_holds_23 (by decide) rfl (fun _ => ?_) (fun _ => ?_)
      · skip
        refine sm_iinc (pc' := 31) (v102 + (1 : Int32)) [(2, iv (v102 + (1 : Int32))), (0, qv (some th)), (1, qv (some a101))] dX6_holds_28 rfl rfl (Nat.le_of_ble_eq_true rfl) rfl rfl ?_
        refine sm_goto (pc' := 8) dX6_holds_31 (by decide) ?_
        refine sm_sub [1, 2, 0] rfl ?_
        exact ih (v102 + (1 : Int32))
      · skip
        refine sm_iconst (pc' := 27) (1 : Int32) dX6_holds_26 (by decide) rfl ?_
        exact sm_zreturn rfl dX6_holds_27
set_option maxRecDepth 20000 in
theorem sX6_holds (th : Nat) (a1 : Option Nat) : Sim eX6_holds vI 0 [(0, qv (some th)), (1, qv a1)] [] (pX6_holds th a1) := by
  unfold pX6_holds
  refine sm_aload_n (pc' := 1) dX6_holds_0 rfl rfl ?_
  rcases a1 with _ | a101
  · refine sm_nuN ?_
    refine sm_ifnonnullN (pc' := 4) dX6_holds_1 rfl ?_
    refine sm_iconst (pc' := 5) (0 : Int32) dX6_holds_4 (by decide) rfl ?_
    exact sm_zreturn rfl dX6_holds_5
  · refine sm_nuS ?_
    refine sm_ifnonnullS (pc' := 6) dX6_holds_1 (by decide) ?_
    refine sm_iconst (pc' := 7) (0 : Int32) dX6_holds_6 (by decide) rfl ?_
    refine sm_istore_n (pc' := 8) [(2, iv (0 : Int32)), (0, qv (some th)), (1, qv (some a101))] dX6_holds_7 rfl (Nat.le_of_ble_eq_true rfl) rfl rfl ?_
    refine sm_sub [1, 2, 0] rfl ?_
    refine sX6_holds_L8 th a101 _ ?_ FL (0 : Int32)
    · skip
      refine sm_iconst (pc' := 35) (0 : Int32) dX6_holds_34 (by decide) rfl ?_
      exact sm_zreturn rfl dX6_holds_35
theorem kX6_holds (th : Nat) (a1 : Option Nat) : Callee 0 yX6_holds cX6_holds 3 (some .boolean) [qv (some th), qv a1] vI (pX6_holds th a1) := callee_ofS [(0, qv (some th)), (1, qv a1)] (by decide +kernel) (Nat.le_of_ble_eq_true rfl) rfl (sX6_holds th a1)
/-! HollowPress.clear(I)I -/
set_option maxRecDepth 20000 in
theorem iv_X10_94 (a : Nat) (x0 : Option Nat) : Inv RX10 1 (.invokevirtual 94) [qv x0, qv (some a)] vI (onT a 7 (pX6_holds a x0)) := inv_V (As := [qv x0]) (t := 7) (kX6_holds a x0) _ (by decide) rfl rfl w_311 w_312 w_313 w_225 w_314 ⟨by decide +kernel, by decide +kernel, by show _ = some 1; decide +kernel⟩ (by decide)
abbrev eX10_clear : Env0 := (RX10, "clear", cX10_clear, 2, (some .int), 1)
def pX10_clear (th : Nat) (a1 : Int32) : Prg Int32 :=
    cl (pX10_below a1 (10 : Int32)) fun v101 =>
    (if v101 = 0 then rt (-1000001 : Int32)
    else gF 10 th 4 fun v102 =>
    gF 10 th 1 fun v103 =>
    un v103 fun a104 =>
    ldF a104 a1 fun v105 =>
    un v102 fun a106 =>
    cl (onT a106 7 (pX6_holds a106 v105)) fun v107 =>
    (if v107 = 0 then gF 10 th 1 fun v108 =>
    un v108 fun a109 =>
    ldF a109 a1 fun v110 =>
    (nu v110 (rt (0 : Int32)) fun a111 =>
    gF 10 th 1 fun v112 =>
    un v112 fun a113 =>
    stF a113 a1 none (
    rt (1 : Int32)))
    else rt (-1000002 : Int32)))
set_option maxRecDepth 20000 in
theorem sX10_clear (th : Nat) (a1 : Int32) : Sim eX10_clear vI 0 [(0, qv (some th)), (1, iv a1)] [] (pX10_clear th a1) := by
  unfold pX10_clear
  refine sm_iload_n (pc' := 1) dX10_clear_0 rfl rfl ?_
  refine sm_bipush (pc' := 3) (10 : Int32) dX10_clear_1 (by decide) rfl ?_
  refine sm_calli (pc' := 6) (sa := [iv (10 : Int32), iv a1]) (st := []) (iv_X10_53 a1 (10 : Int32)) (Nat.le_of_ble_eq_true rfl) dX10_clear_3 rfl (Nat.le_of_ble_eq_true rfl) (fun v101 => ?_)
  refine sm_if_ne (pc' := 9) (pc1 := 12) dX10_clear_6 (by decide) rfl (fun _ => ?_) (fun _ => ?_)
  · skip
    refine sm_aload_n (pc' := 13) dX10_clear_12 rfl rfl ?_
    refine sm_getF (pc' := 16) fk_X10_38 yr_10_4 dX10_clear_13 rfl (fun v102 => ?_)
    refine sm_aload_n (pc' := 17) dX10_clear_16 rfl rfl ?_
    refine sm_getF (pc' := 20) fk_X10_17 yr_10_1 dX10_clear_17 rfl (fun v103 => ?_)
    refine sm_iload_n (pc' := 21) dX10_clear_20 rfl rfl ?_
    rcases v103 with _ | a104
    · exact sm_unN
    refine sm_unS ?_
    refine sm_aaload (pc' := 22) dX10_clear_21 rfl (fun v105 => ?_)
    rcases v102 with _ | a106
    · exact sm_unN
    refine sm_unS ?_
    refine sm_calli (pc' := 25) (sa := [qv v105, qv (some a106)]) (st := []) (iv_X10_94 a106 v105) (Nat.le_of_ble_eq_true rfl) dX10_clear_22 rfl (Nat.le_of_ble_eq_true rfl) (fun v107 => ?_)
    refine sm_if_eq (pc' := 28) (pc1 := 31) dX10_clear_25 (by decide) rfl (fun _ => ?_) (fun _ => ?_)
    · skip
      refine sm_aload_n (pc' := 32) dX10_clear_31 rfl rfl ?_
      refine sm_getF (pc' := 35) fk_X10_17 yr_10_1 dX10_clear_32 rfl (fun v108 => ?_)
      refine sm_iload_n (pc' := 36) dX10_clear_35 rfl rfl ?_
      rcases v108 with _ | a109
      · exact sm_unN
      refine sm_unS ?_
      refine sm_aaload (pc' := 37) dX10_clear_36 rfl (fun v110 => ?_)
      rcases v110 with _ | a111
      · refine sm_nuN ?_
        refine sm_ifnonnullN (pc' := 40) dX10_clear_37 rfl ?_
        refine sm_iconst (pc' := 41) (0 : Int32) dX10_clear_40 (by decide) rfl ?_
        exact sm_ireturn rfl dX10_clear_41
      · refine sm_nuS ?_
        refine sm_ifnonnullS (pc' := 42) dX10_clear_37 (by decide) ?_
        refine sm_aload_n (pc' := 43) dX10_clear_42 rfl rfl ?_
        refine sm_getF (pc' := 46) fk_X10_17 yr_10_1 dX10_clear_43 rfl (fun v112 => ?_)
        refine sm_iload_n (pc' := 47) dX10_clear_46 rfl rfl ?_
        refine sm_null (pc' := 48) dX10_clear_47 rfl ?_
        rcases v112 with _ | a113
        · exact sm_unN
        refine sm_unS ?_
        refine sm_aastore (pc' := 49) dX10_clear_48 rfl ?_
        refine sm_iconst (pc' := 50) (1 : Int32) dX10_clear_49 (by decide) rfl ?_
        exact sm_ireturn rfl dX10_clear_50
    · skip
      refine sm_ldc (pc' := 30) (-1000002 : Int32) w_315 dX10_clear_28 rfl ?_
      exact sm_ireturn rfl dX10_clear_30
  · skip
    refine sm_ldc (pc' := 11) (-1000001 : Int32) w_189 dX10_clear_9 rfl ?_
    exact sm_ireturn rfl dX10_clear_11
theorem kX10_clear (th : Nat) (a1 : Int32) : Callee 1 yX10_clear cX10_clear 2 (some .int) [qv (some th), iv a1] vI (pX10_clear th a1) := callee_ofS [(0, qv (some th)), (1, iv a1)] (by decide +kernel) (Nat.le_of_ble_eq_true rfl) rfl (sX10_clear th a1)
/-! HollowPress$Sheet.covers(II)Z -/
abbrev eX7_covers : Env0 := (RX7, "covers", cX7_covers, 3, (some .boolean), 0)
def pX7_covers (th : Nat) (a1 : Int32) (a2 : Int32) : Prg Int32 :=
    (lt (fun (v101 : Int32) => rtZ v101 : Int32 → Prg Int32) fun k102 =>
    (lt (k102 (0 : Int32) : Prg Int32) fun k103 =>
    (if a1 < 0 then k103
    else (if a2 < 0 then k103
    else gF 8 th 1 fun v104 =>
    un v104 fun a105 =>
    ln a105 fun v106 =>
    (if v106 < a2 then k103
    else gF 8 th 1 fun v107 =>
    un v107 fun a108 =>
    ln a108 fun v109 =>
    (if (v109 - a2) < a1 then k103
    else k102 (1 : Int32)))))))
set_option maxRecDepth 20000 in
theorem sX7_covers (th : Nat) (a1 : Int32) (a2 : Int32) : Sim eX7_covers vI 0 [(0, qv (some th)), (1, iv a1), (2, iv a2)] [] (pX7_covers th a1 a2) := by
  unfold pX7_covers
  refine sm_iload_n (pc' := 1) dX7_covers_0 rfl rfl ?_
  refine sm_lt (fun k102 => ∀ (v101 : Int32), Sim eX7_covers vI 33 [] [iv v101] (k102 v101)) ?_ (fun k102 hk102 => ?_)
  · intro v101
    exact sm_zreturn rfl dX7_covers_33
  · skip
    refine sm_lt (fun k103 => Sim eX7_covers vI 32 [] [] (k103)) ?_ (fun k103 hk103 => ?_)
    · skip
      refine sm_iconst (pc' := 33) (0 : Int32) dX7_covers_32 (by decide) rfl ?_
      exact hk102 (0 : Int32)
    · skip
      refine sm_if_lt (pc' := 4) (pc1 := 32) dX7_covers_1 (by decide) rfl (fun _ => ?_) (fun _ => ?_)
      · skip
        refine sm_sub [] rfl ?_
        exact hk103
      · skip
        refine sm_iload_n (pc' := 5) dX7_covers_4 rfl rfl ?_
        refine sm_if_lt (pc' := 8) (pc1 := 32) dX7_covers_5 (by decide) rfl (fun _ => ?_) (fun _ => ?_)
        · skip
          refine sm_sub [] rfl ?_
          exact hk103
        · skip
          refine sm_iload_n (pc' := 9) dX7_covers_8 rfl rfl ?_
          refine sm_aload_n (pc' := 10) dX7_covers_9 rfl rfl ?_
          refine sm_getF (pc' := 13) fk_X7_19 yr_8_1 dX7_covers_10 rfl (fun v104 => ?_)
          rcases v104 with _ | a105
          · exact sm_unN
          refine sm_unS ?_
          refine sm_alen (pc' := 14) dX7_covers_13 rfl (fun v106 => ?_)
          refine sm_icmp_gt (pc' := 17) (pc1 := 32) dX7_covers_14 (by decide) rfl (fun _ => ?_) (fun _ => ?_)
          · skip
            refine sm_sub [] rfl ?_
            exact hk103
          · skip
            refine sm_iload_n (pc' := 18) dX7_covers_17 rfl rfl ?_
            refine sm_aload_n (pc' := 19) dX7_covers_18 rfl rfl ?_
            refine sm_getF (pc' := 22) fk_X7_19 yr_8_1 dX7_covers_19 rfl (fun v107 => ?_)
            rcases v107 with _ | a108
            · exact sm_unN
            refine sm_unS ?_
            refine sm_alen (pc' := 23) dX7_covers_22 rfl (fun v109 => ?_)
            refine sm_iload_n (pc' := 24) dX7_covers_23 rfl rfl ?_
            refine sm_isub (pc' := 25) dX7_covers_24 rfl ?_
            refine sm_icmp_gt (pc' := 28) (pc1 := 32) dX7_covers_25 (by decide) rfl (fun _ => ?_) (fun _ => ?_)
            · skip
              refine sm_sub [] rfl ?_
              exact hk103
            · skip
              refine sm_iconst (pc' := 29) (1 : Int32) dX7_covers_28 (by decide) rfl ?_
              refine sm_goto (pc' := 33) dX7_covers_29 (by decide) ?_
              refine sm_sub [] rfl ?_
              exact hk102 (1 : Int32)
theorem kX7_covers (th : Nat) (a1 : Int32) (a2 : Int32) : Callee 0 yX7_covers cX7_covers 3 (some .boolean) [qv (some th), iv a1, iv a2] vI (pX7_covers th a1 a2) := callee_ofS [(0, qv (some th)), (1, iv a1), (2, iv a2)] (by decide +kernel) (Nat.le_of_ble_eq_true rfl) rfl (sX7_covers th a1 a2)
/-! HollowPress.copy(IIIII)I -/
set_option maxRecDepth 20000 in
theorem iv_X10_70 (a : Nat) (x0 : Int32) (x1 : Int32) : Inv RX10 1 (.invokevirtual 70) [iv x1, iv x0, qv (some a)] vI (onT a 8 (pX7_covers a x0 x1)) := inv_V (As := [iv x0, iv x1]) (t := 8) (kX7_covers a x0 x1) _ (by decide) rfl rfl w_319 w_320 w_321 w_322 w_323 ⟨by decide +kernel, by decide +kernel, by show _ = some 2; decide +kernel⟩ (by decide)
abbrev eX10_copy : Env0 := (RX10, "copy", cX10_copy, 8, (some .int), 1)
def pX10_copy (th : Nat) (a1 : Int32) (a2 : Int32) (a3 : Int32) (a4 : Int32) (a5 : Int32) : Prg Int32 :=
    cl (pX10_below a1 (8 : Int32)) fun v101 =>
    (lt (rt (-1000001 : Int32) : Prg Int32) fun k102 =>
    (if v101 = 0 then k102
    else cl (pX10_below a3 (8 : Int32)) fun v103 =>
    (if v103 = 0 then k102
    else gF 10 th 0 fun v104 =>
    un v104 fun a105 =>
    ldF a105 a1 fun v106 =>
    gF 10 th 0 fun v107 =>
    un v107 fun a108 =>
    ldF a108 a3 fun v109 =>
    (lt (cl (onT th 10 (pX10_found th (1 : Int32))) fun v111 =>
    rt v111 : Prg Int32) fun k110 =>
    (nu v106 (k110) fun a112 =>
    (nu v109 (k110) fun a113 =>
    gI 8 a112 0 fun v114 =>
    gI 8 a113 0 fun v115 =>
    (if v114 = v115 then cl (onT a112 8 (pX7_covers a112 a2 a5)) fun v116 =>
    (lt (cl (onT th 10 (pX10_found th (2 : Int32))) fun v118 =>
    rt v118 : Prg Int32) fun k117 =>
    (if v116 = 0 then k117
    else cl (onT a113 8 (pX7_covers a113 a4 a5)) fun v119 =>
    (if v119 = 0 then k117
    else gF 8 a112 1 fun v120 =>
    gF 8 a113 1 fun v121 =>
    un v121 fun a122 =>
    un v120 fun a123 =>
    cpJ a123 a2 a122 a4 a5 (
    cl (onT th 10 (pX10_fine th a5)) fun v124 =>
    rt v124))))
    else cl (onT th 10 (pX10_found th (5 : Int32))) fun v125 =>
    rt v125)))))))
set_option maxRecDepth 20000 in
theorem sX10_copy (th : Nat) (a1 : Int32) (a2 : Int32) (a3 : Int32) (a4 : Int32) (a5 : Int32) : Sim eX10_copy vI 0 [(0, qv (some th)), (1, iv a1), (2, iv a2), (3, iv a3), (4, iv a4), (5, iv a5)] [] (pX10_copy th a1 a2 a3 a4 a5) := by
  unfold pX10_copy
  refine sm_iload_n (pc' := 1) dX10_copy_0 rfl rfl ?_
  refine sm_bipush (pc' := 3) (8 : Int32) dX10_copy_1 (by decide) rfl ?_
  refine sm_calli (pc' := 6) (sa := [iv (8 : Int32), iv a1]) (st := []) (iv_X10_53 a1 (8 : Int32)) (Nat.le_of_ble_eq_true rfl) dX10_copy_3 rfl (Nat.le_of_ble_eq_true rfl) (fun v101 => ?_)
  refine sm_lt (fun k102 => Sim eX10_copy vI 18 [] [] (k102)) ?_ (fun k102 hk102 => ?_)
  · skip
    refine sm_ldc (pc' := 20) (-1000001 : Int32) w_189 dX10_copy_18 rfl ?_
    exact sm_ireturn rfl dX10_copy_20
  · skip
    refine sm_if_eq (pc' := 9) (pc1 := 18) dX10_copy_6 (by decide) rfl (fun _ => ?_) (fun _ => ?_)
    · skip
      refine sm_sub [] rfl ?_
      exact hk102
    · skip
      refine sm_iload_n (pc' := 10) dX10_copy_9 rfl rfl ?_
      refine sm_bipush (pc' := 12) (8 : Int32) dX10_copy_10 (by decide) rfl ?_
      refine sm_calli (pc' := 15) (sa := [iv (8 : Int32), iv a3]) (st := []) (iv_X10_53 a3 (8 : Int32)) (Nat.le_of_ble_eq_true rfl) dX10_copy_12 rfl (Nat.le_of_ble_eq_true rfl) (fun v103 => ?_)
      refine sm_if_ne (pc' := 18) (pc1 := 21) dX10_copy_15 (by decide) rfl (fun _ => ?_) (fun _ => ?_)
      · skip
        refine sm_aload_n (pc' := 22) dX10_copy_21 rfl rfl ?_
        refine sm_getF (pc' := 25) fk_X10_11 yr_10_0 dX10_copy_22 rfl (fun v104 => ?_)
        refine sm_iload_n (pc' := 26) dX10_copy_25 rfl rfl ?_
        rcases v104 with _ | a105
        · exact sm_unN
        refine sm_unS ?_
        refine sm_aaload (pc' := 27) dX10_copy_26 rfl (fun v106 => ?_)
        refine sm_astore (pc' := 29) [(6, qv v106), (0, qv (some th)), (1, iv a1), (2, iv a2), (3, iv a3), (4, iv a4), (5, iv a5)] dX10_copy_27  (Nat.le_of_ble_eq_true rfl) rfl rfl ?_
        refine sm_aload_n (pc' := 30) dX10_copy_29 rfl rfl ?_
        refine sm_getF (pc' := 33) fk_X10_11 yr_10_0 dX10_copy_30 rfl (fun v107 => ?_)
        refine sm_iload_n (pc' := 34) dX10_copy_33 rfl rfl ?_
        rcases v107 with _ | a108
        · exact sm_unN
        refine sm_unS ?_
        refine sm_aaload (pc' := 35) dX10_copy_34 rfl (fun v109 => ?_)
        refine sm_astore (pc' := 37) [(7, qv v109), (6, qv v106), (0, qv (some th)), (1, iv a1), (2, iv a2), (3, iv a3), (4, iv a4), (5, iv a5)] dX10_copy_35  (Nat.le_of_ble_eq_true rfl) rfl rfl ?_
        refine sm_aload (pc' := 39) dX10_copy_37 rfl rfl ?_
        refine sm_lt (fun k110 => Sim eX10_copy vI 47 [(0, qv (some th))] [] (k110)) ?_ (fun k110 hk110 => ?_)
        · skip
          refine sm_aload_n (pc' := 48) dX10_copy_47 rfl rfl ?_
          refine sm_iconst (pc' := 49) (1 : Int32) dX10_copy_48 (by decide) rfl ?_
          refine sm_calli (pc' := 52) (sa := [iv (1 : Int32), qv (some th)]) (st := []) (iv_X10_58 th (1 : Int32)) (Nat.le_of_ble_eq_true rfl) dX10_copy_49 rfl (Nat.le_of_ble_eq_true rfl) (fun v111 => ?_)
          exact sm_ireturn rfl dX10_copy_52
        · skip
          rcases v106 with _ | a112
          · refine sm_nuN ?_
            refine sm_ifnullN (pc' := 47) dX10_copy_39 (by decide) ?_
            refine sm_sub [2] rfl ?_
            exact hk110
          · refine sm_nuS ?_
            refine sm_ifnullS (pc' := 42) dX10_copy_39 rfl ?_
            refine sm_aload (pc' := 44) dX10_copy_42 rfl rfl ?_
            rcases v109 with _ | a113
            · refine sm_nuN ?_
              refine sm_ifnonnullN (pc' := 47) dX10_copy_44 rfl ?_
              refine sm_sub [2] rfl ?_
              exact hk110
            · refine sm_nuS ?_
              refine sm_ifnonnullS (pc' := 53) dX10_copy_44 (by decide) ?_
              refine sm_aload (pc' := 55) dX10_copy_53 rfl rfl ?_
              refine sm_getI (pc' := 58) fk_X10_77 nr_8_0 dX10_copy_55 rfl (fun v114 => ?_)
              refine sm_aload (pc' := 60) dX10_copy_58 rfl rfl ?_
              refine sm_getI (pc' := 63) fk_X10_77 nr_8_0 dX10_copy_60 rfl (fun v115 => ?_)
              refine sm_icmp_eq (pc' := 66) (pc1 := 72) dX10_copy_63 (by decide) rfl (fun _ => ?_) (fun _ => ?_)
              · skip
                refine sm_aload (pc' := 74) dX10_copy_72 rfl rfl ?_
                refine sm_iload_n (pc' := 75) dX10_copy_74 rfl rfl ?_
                refine sm_iload (pc' := 77) dX10_copy_75 rfl rfl ?_
                refine sm_calli (pc' := 80) (sa := [iv a5, iv a2, qv (some a112)]) (st := []) (iv_X10_70 a112 a2 a5) (Nat.le_of_ble_eq_true rfl) dX10_copy_77 rfl (Nat.le_of_ble_eq_true rfl) (fun v116 => ?_)
                refine sm_lt (fun k117 => Sim eX10_copy vI 95 [(0, qv (some th))] [] (k117)) ?_ (fun k117 hk117 => ?_)
                · skip
                  refine sm_aload_n (pc' := 96) dX10_copy_95 rfl rfl ?_
                  refine sm_iconst (pc' := 97) (2 : Int32) dX10_copy_96 (by decide) rfl ?_
                  refine sm_calli (pc' := 100) (sa := [iv (2 : Int32), qv (some th)]) (st := []) (iv_X10_58 th (2 : Int32)) (Nat.le_of_ble_eq_true rfl) dX10_copy_97 rfl (Nat.le_of_ble_eq_true rfl) (fun v118 => ?_)
                  exact sm_ireturn rfl dX10_copy_100
                · skip
                  refine sm_if_eq (pc' := 83) (pc1 := 95) dX10_copy_80 (by decide) rfl (fun _ => ?_) (fun _ => ?_)
                  · skip
                    refine sm_sub [2] rfl ?_
                    exact hk117
                  · skip
                    refine sm_aload (pc' := 85) dX10_copy_83 rfl rfl ?_
                    refine sm_iload (pc' := 87) dX10_copy_85 rfl rfl ?_
                    refine sm_iload (pc' := 89) dX10_copy_87 rfl rfl ?_
                    refine sm_calli (pc' := 92) (sa := [iv a5, iv a4, qv (some a113)]) (st := []) (iv_X10_70 a113 a4 a5) (Nat.le_of_ble_eq_true rfl) dX10_copy_89 rfl (Nat.le_of_ble_eq_true rfl) (fun v119 => ?_)
                    refine sm_if_ne (pc' := 95) (pc1 := 101) dX10_copy_92 (by decide) rfl (fun _ => ?_) (fun _ => ?_)
                    · skip
                      refine sm_aload (pc' := 103) dX10_copy_101 rfl rfl ?_
                      refine sm_getF (pc' := 106) fk_X10_80 yr_8_1 dX10_copy_103 rfl (fun v120 => ?_)
                      refine sm_iload_n (pc' := 107) dX10_copy_106 rfl rfl ?_
                      refine sm_aload (pc' := 109) dX10_copy_107 rfl rfl ?_
                      refine sm_getF (pc' := 112) fk_X10_80 yr_8_1 dX10_copy_109 rfl (fun v121 => ?_)
                      refine sm_iload (pc' := 114) dX10_copy_112 rfl rfl ?_
                      refine sm_iload (pc' := 116) dX10_copy_114 rfl rfl ?_
                      rcases v121 with _ | a122
                      · exact sm_unN
                      refine sm_unS ?_
                      rcases v120 with _ | a123
                      · exact sm_unN
                      refine sm_unS ?_
                      refine sm_cpJ (pc' := 119) w_325 w_243 w_244 w_245 dX10_copy_116 (by decide) (Nat.le_of_ble_eq_true rfl) rfl ?_
                      refine sm_aload_n (pc' := 120) dX10_copy_119 rfl rfl ?_
                      refine sm_iload (pc' := 122) dX10_copy_120 rfl rfl ?_
                      refine sm_calli (pc' := 125) (sa := [iv a5, qv (some th)]) (st := []) (iv_X10_65 th a5) (Nat.le_of_ble_eq_true rfl) dX10_copy_122 rfl (Nat.le_of_ble_eq_true rfl) (fun v124 => ?_)
                      exact sm_ireturn rfl dX10_copy_125
                    · skip
                      refine sm_sub [2] rfl ?_
                      exact hk117
              · skip
                refine sm_aload_n (pc' := 67) dX10_copy_66 rfl rfl ?_
                refine sm_iconst (pc' := 68) (5 : Int32) dX10_copy_67 (by decide) rfl ?_
                refine sm_calli (pc' := 71) (sa := [iv (5 : Int32), qv (some th)]) (st := []) (iv_X10_58 th (5 : Int32)) (Nat.le_of_ble_eq_true rfl) dX10_copy_68 rfl (Nat.le_of_ble_eq_true rfl) (fun v125 => ?_)
                exact sm_ireturn rfl dX10_copy_71
      · skip
        refine sm_sub [] rfl ?_
        exact hk102
theorem kX10_copy (th : Nat) (a1 : Int32) (a2 : Int32) (a3 : Int32) (a4 : Int32) (a5 : Int32) : Callee 1 yX10_copy cX10_copy 8 (some .int) [qv (some th), iv a1, iv a2, iv a3, iv a4, iv a5] vI (pX10_copy th a1 a2 a3 a4 a5) := callee_ofS [(0, qv (some th)), (1, iv a1), (2, iv a2), (3, iv a3), (4, iv a4), (5, iv a5)] (by decide +kernel) (Nat.le_of_ble_eq_true rfl) rfl (sX10_copy th a1 a2 a3 a4 a5)
/-! HollowPress.sheetsThere()I -/
abbrev eX10_sheetsThere : Env0 := (RX10, "sheetsThere", cX10_sheetsThere, 6, (some .int), 0)
def pX10_sheetsThere_L13 (a102 : Nat) (v103 : Int32) (k106 : Int32 → Prg Int32) : Nat → Int32 → Int32 → Prg Int32
  | 0, _, _ => fl
  | n + 1, v104, v105 =>
    (if v103 ≤ v105 then k106 v104
    else ldF a102 v105 fun v107 =>
    (lt (fun (v108 : Int32) => pX10_sheetsThere_L13 a102 v103 k106 n v108 (v105 + (1 : Int32)) : Int32 → Prg Int32) fun k109 =>
    (nu v107 (k109 v104) fun a110 =>
    k109 (v104 + (1 : Int32)))))
def pX10_sheetsThere (th : Nat) : Prg Int32 :=
    gF 10 th 0 fun v101 =>
    un v101 fun a102 =>
    ln a102 fun v103 =>
    pX10_sheetsThere_L13 a102 v103 (fun (v111 : Int32) => rt v111) FL (0 : Int32) (0 : Int32)
set_option maxRecDepth 20000 in
theorem sX10_sheetsThere_L13 (a102 : Nat) (v103 : Int32) (k106 : Int32 → Prg Int32) (hk106 : ∀ (q1 : Int32), Sim eX10_sheetsThere vI 39 [(1, iv q1)] [] (k106 q1)) : ∀ (n : Nat), ∀ (v104 : Int32) (v105 : Int32), Sim eX10_sheetsThere vI 13 [(1, iv v104), (2, qv (some a102)), (3, iv v103), (4, iv v105)] [] (pX10_sheetsThere_L13 a102 v103 k106 n v104 v105) := by
  intro n
  induction n with
  | zero =>
    intros
    exact sm_fl
  | succ n ih =>
    intro v104 v105
    unfold pX10_sheetsThere_L13
    refine sm_iload (pc' := 15) dX10_sheetsThere_13 rfl rfl ?_
    refine sm_iload_n (pc' := 16) dX10_sheetsThere_15 rfl rfl ?_
    refine sm_icmp_ge (pc' := 19) (pc1 := 39) dX10_sheetsThere_16 (by decide) rfl (fun _ => ?_) (fun _ => ?_)
    · skip
      refine sm_sub [0] rfl ?_
      exact hk106 v104
    · skip
      refine sm_aload_n (pc' := 20) dX10_sheetsThere_19 rfl rfl ?_
      refine sm_iload (pc' := 22) dX10_sheetsThere_20 rfl rfl ?_
      refine sm_aaload (pc' := 23) dX10_sheetsThere_22 rfl (fun v107 => ?_)
      refine sm_astore (pc' := 25) [(5, qv v107), (1, iv v104), (2, qv (some a102)), (3, iv v103), (4, iv v105)] dX10_sheetsThere_23  (Nat.le_of_ble_eq_true rfl) rfl rfl ?_
      refine sm_aload (pc' := 27) dX10_sheetsThere_25 rfl rfl ?_
      refine sm_lt (fun k109 => ∀ (v108 : Int32), Sim eX10_sheetsThere vI 33 [(1, iv v108), (2, qv (some a102)), (3, iv v103), (4, iv v105)] [] (k109 v108)) ?_ (fun k109 hk109 => ?_)
      · intro v108
        refine sm_iinc (pc' := 36) (v105 + (1 : Int32)) [(4, iv (v105 + (1 : Int32))), (1, iv v108), (2, qv (some a102)), (3, iv v103)] dX10_sheetsThere_33 rfl rfl (Nat.le_of_ble_eq_true rfl) rfl rfl ?_
        refine sm_goto (pc' := 13) dX10_sheetsThere_36 (by decide) ?_
        refine sm_sub [1, 2, 3, 0] rfl ?_
        exact ih v108 (v105 + (1 : Int32))
      · skip
        rcases v107 with _ | a110
        · refine sm_nuN ?_
          refine sm_ifnullN (pc' := 33) dX10_sheetsThere_27 (by decide) ?_
          refine sm_sub [1, 2, 3, 4] rfl ?_
          exact hk109 v104
        · refine sm_nuS ?_
          refine sm_ifnullS (pc' := 30) dX10_sheetsThere_27 rfl ?_
          refine sm_iinc (pc' := 33) (v104 + (1 : Int32)) [(1, iv (v104 + (1 : Int32))), (5, qv (some a110)), (2, qv (some a102)), (3, iv v103), (4, iv v105)] dX10_sheetsThere_30 rfl rfl (Nat.le_of_ble_eq_true rfl) rfl rfl ?_
          refine sm_sub [0, 2, 3, 4] rfl ?_
          exact hk109 (v104 + (1 : Int32))
set_option maxRecDepth 20000 in
theorem sX10_sheetsThere (th : Nat) : Sim eX10_sheetsThere vI 0 [(0, qv (some th))] [] (pX10_sheetsThere th) := by
  unfold pX10_sheetsThere
  refine sm_iconst (pc' := 1) (0 : Int32) dX10_sheetsThere_0 (by decide) rfl ?_
  refine sm_istore_n (pc' := 2) [(1, iv (0 : Int32)), (0, qv (some th))] dX10_sheetsThere_1 rfl (Nat.le_of_ble_eq_true rfl) rfl rfl ?_
  refine sm_aload_n (pc' := 3) dX10_sheetsThere_2 rfl rfl ?_
  refine sm_getF (pc' := 6) fk_X10_11 yr_10_0 dX10_sheetsThere_3 rfl (fun v101 => ?_)
  refine sm_astore_n (pc' := 7) [(2, qv v101), (1, iv (0 : Int32)), (0, qv (some th))] dX10_sheetsThere_6 rfl (Nat.le_of_ble_eq_true rfl) rfl rfl ?_
  refine sm_aload_n (pc' := 8) dX10_sheetsThere_7 rfl rfl ?_
  rcases v101 with _ | a102
  · exact sm_unN
  refine sm_unS ?_
  refine sm_alen (pc' := 9) dX10_sheetsThere_8 rfl (fun v103 => ?_)
  refine sm_istore_n (pc' := 10) [(3, iv v103), (2, qv (some a102)), (1, iv (0 : Int32)), (0, qv (some th))] dX10_sheetsThere_9 rfl (Nat.le_of_ble_eq_true rfl) rfl rfl ?_
  refine sm_iconst (pc' := 11) (0 : Int32) dX10_sheetsThere_10 (by decide) rfl ?_
  refine sm_istore (pc' := 13) [(4, iv (0 : Int32)), (3, iv v103), (2, qv (some a102)), (1, iv (0 : Int32)), (0, qv (some th))] dX10_sheetsThere_11  (Nat.le_of_ble_eq_true rfl) rfl rfl ?_
  refine sm_sub [3, 2, 1, 0] rfl ?_
  refine sX10_sheetsThere_L13 a102 v103 _ ?_ FL (0 : Int32) (0 : Int32)
  · intro v111
    refine sm_iload_n (pc' := 40) dX10_sheetsThere_39 rfl rfl ?_
    exact sm_ireturn rfl dX10_sheetsThere_40
theorem kX10_sheetsThere (th : Nat) : Callee 0 yX10_sheetsThere cX10_sheetsThere 6 (some .int) [qv (some th)] vI (pX10_sheetsThere th) := callee_ofS [(0, qv (some th))] (by decide +kernel) (Nat.le_of_ble_eq_true rfl) rfl (sX10_sheetsThere th)
/-! HollowPress$Layers.isOf(I)Z -/
set_option maxRecDepth 20000 in
theorem iv_X2_20 (a : Nat) (x0 : Int32) : Inv RX2 1 (.invokespecial 20) [iv x0, qv (some a)] vI (onT a 3 (pX8_isOf a x0)) := inv_SU (As := [iv x0]) (t := 3) (kX8_isOf a x0) _ (by decide) rfl w_326 w_28 w_327 w_30 w_9 w_31 ⟨by decide +kernel, by show _ = some 1; decide +kernel⟩ (by decide)
abbrev eX2_isOf : Env0 := (RX2, "isOf", cX2_isOf, 2, (some .boolean), 1)
def pX2_isOf (th : Nat) (a1 : Int32) : Prg Int32 :=
    (lt (fun (v101 : Int32) => rtZ v101 : Int32 → Prg Int32) fun k102 =>
    (lt (k102 (1 : Int32) : Prg Int32) fun k103 =>
    (if a1 = (4 : Int32) then k103
    else cl (onT th 3 (pX8_isOf th a1)) fun v104 =>
    (if v104 = 0 then k102 (0 : Int32)
    else k103))))
set_option maxRecDepth 20000 in
theorem sX2_isOf (th : Nat) (a1 : Int32) : Sim eX2_isOf vI 0 [(0, qv (some th)), (1, iv a1)] [] (pX2_isOf th a1) := by
  unfold pX2_isOf
  refine sm_iload_n (pc' := 1) dX2_isOf_0 rfl rfl ?_
  refine sm_iconst (pc' := 2) (4 : Int32) dX2_isOf_1 (by decide) rfl ?_
  refine sm_lt (fun k102 => ∀ (v101 : Int32), Sim eX2_isOf vI 18 [] [iv v101] (k102 v101)) ?_ (fun k102 hk102 => ?_)
  · intro v101
    exact sm_zreturn rfl dX2_isOf_18
  · skip
    refine sm_lt (fun k103 => Sim eX2_isOf vI 13 [] [] (k103)) ?_ (fun k103 hk103 => ?_)
    · skip
      refine sm_iconst (pc' := 14) (1 : Int32) dX2_isOf_13 (by decide) rfl ?_
      refine sm_goto (pc' := 18) dX2_isOf_14 (by decide) ?_
      exact hk102 (1 : Int32)
    · skip
      refine sm_icmp_eq (pc' := 5) (pc1 := 13) dX2_isOf_2 (by decide) rfl (fun _ => ?_) (fun _ => ?_)
      · skip
        refine sm_sub [] rfl ?_
        exact hk103
      · skip
        refine sm_aload_n (pc' := 6) dX2_isOf_5 rfl rfl ?_
        refine sm_iload_n (pc' := 7) dX2_isOf_6 rfl rfl ?_
        refine sm_calli (pc' := 10) (sa := [iv a1, qv (some th)]) (st := []) (iv_X2_20 th a1) (Nat.le_of_ble_eq_true rfl) dX2_isOf_7 rfl (Nat.le_of_ble_eq_true rfl) (fun v104 => ?_)
        refine sm_if_eq (pc' := 13) (pc1 := 17) dX2_isOf_10 (by decide) rfl (fun _ => ?_) (fun _ => ?_)
        · skip
          refine sm_iconst (pc' := 18) (0 : Int32) dX2_isOf_17 (by decide) rfl ?_
          refine sm_sub [] rfl ?_
          exact hk102 (0 : Int32)
        · skip
          refine sm_sub [] rfl ?_
          exact hk103
theorem kX2_isOf (th : Nat) (a1 : Int32) : Callee 1 yX2_isOf cX2_isOf 2 (some .boolean) [qv (some th), iv a1] vI (pX2_isOf th a1) := callee_ofS [(0, qv (some th)), (1, iv a1)] (by decide +kernel) (Nat.le_of_ble_eq_true rfl) rfl (sX2_isOf th a1)
/-! HollowPress$Plate.isOf(I)Z -/
set_option maxRecDepth 20000 in
theorem iv_X4_7 (a : Nat) (x0 : Int32) : Inv RX4 3 (.invokespecial 7) [iv x0, qv (some a)] vI (onT a 5 (pX0_isOf a x0)) := inv_SU (As := [iv x0]) (t := 5) (kX0_isOf a x0) _ (by decide) rfl w_328 w_329 w_185 w_330 w_175 w_331 ⟨by decide +kernel, by show _ = some 1; decide +kernel⟩ (by decide)
abbrev eX4_isOf : Env0 := (RX4, "isOf", cX4_isOf, 2, (some .boolean), 3)
def pX4_isOf (th : Nat) (a1 : Int32) : Prg Int32 :=
    (lt (fun (v101 : Int32) => rtZ v101 : Int32 → Prg Int32) fun k102 =>
    (lt (k102 (1 : Int32) : Prg Int32) fun k103 =>
    (if a1 = (3 : Int32) then k103
    else cl (onT th 5 (pX0_isOf th a1)) fun v104 =>
    (if v104 = 0 then k102 (0 : Int32)
    else k103))))
set_option maxRecDepth 20000 in
theorem sX4_isOf (th : Nat) (a1 : Int32) : Sim eX4_isOf vI 0 [(0, qv (some th)), (1, iv a1)] [] (pX4_isOf th a1) := by
  unfold pX4_isOf
  refine sm_iload_n (pc' := 1) dX4_isOf_0 rfl rfl ?_
  refine sm_iconst (pc' := 2) (3 : Int32) dX4_isOf_1 (by decide) rfl ?_
  refine sm_lt (fun k102 => ∀ (v101 : Int32), Sim eX4_isOf vI 18 [] [iv v101] (k102 v101)) ?_ (fun k102 hk102 => ?_)
  · intro v101
    exact sm_zreturn rfl dX4_isOf_18
  · skip
    refine sm_lt (fun k103 => Sim eX4_isOf vI 13 [] [] (k103)) ?_ (fun k103 hk103 => ?_)
    · skip
      refine sm_iconst (pc' := 14) (1 : Int32) dX4_isOf_13 (by decide) rfl ?_
      refine sm_goto (pc' := 18) dX4_isOf_14 (by decide) ?_
      exact hk102 (1 : Int32)
    · skip
      refine sm_icmp_eq (pc' := 5) (pc1 := 13) dX4_isOf_2 (by decide) rfl (fun _ => ?_) (fun _ => ?_)
      · skip
        refine sm_sub [] rfl ?_
        exact hk103
      · skip
        refine sm_aload_n (pc' := 6) dX4_isOf_5 rfl rfl ?_
        refine sm_iload_n (pc' := 7) dX4_isOf_6 rfl rfl ?_
        refine sm_calli (pc' := 10) (sa := [iv a1, qv (some th)]) (st := []) (iv_X4_7 th a1) (Nat.le_of_ble_eq_true rfl) dX4_isOf_7 rfl (Nat.le_of_ble_eq_true rfl) (fun v104 => ?_)
        refine sm_if_eq (pc' := 13) (pc1 := 17) dX4_isOf_10 (by decide) rfl (fun _ => ?_) (fun _ => ?_)
        · skip
          refine sm_iconst (pc' := 18) (0 : Int32) dX4_isOf_17 (by decide) rfl ?_
          refine sm_sub [] rfl ?_
          exact hk102 (0 : Int32)
        · skip
          refine sm_sub [] rfl ?_
          exact hk103
theorem kX4_isOf (th : Nat) (a1 : Int32) : Callee 3 yX4_isOf cX4_isOf 2 (some .boolean) [qv (some th), iv a1] vI (pX4_isOf th a1) := callee_ofS [(0, qv (some th)), (1, iv a1)] (by decide +kernel) (Nat.le_of_ble_eq_true rfl) rfl (sX4_isOf th a1)
/-! HollowPress.isOfKind(LHollowPress$Thing;I)Z -/
set_option maxRecDepth 20000 in
theorem iv_X10_308 (a : Nat) (x0 : Int32) : Inv RX10 4 (.invokevirtual 308) [iv x0, qv (some a)] vI (or2 a 1 (pX0_isOf a x0) (or2 a 3 (pX2_isOf a x0) (or2 a 4 (pX3_isOf a x0) (onT a 5 (pX4_isOf a x0))))) := inv_or (inv_up (d := 3) (inv_U (As := [iv x0]) (t := 1) (owner := "HollowPress$Thing") (xn := ⟨"HollowPress$Thing", "isOf", "(I)Z"⟩) (kX0_isOf a x0) _ (by decide) rfl w_332 w_28 (Or.inr ⟨w_30, cX8_isOf, 2, (some .boolean), w_31⟩) w_333 w_330 w_175 w_331 ⟨by decide +kernel, by decide +kernel, by show _ = some 1; decide +kernel⟩ (by decide)) (by decide)) (inv_or (inv_up (d := 2) (inv_U (As := [iv x0]) (t := 3) (owner := "HollowPress$Thing") (xn := ⟨"HollowPress$Thing", "isOf", "(I)Z"⟩) (kX2_isOf a x0) _ (by decide) rfl w_332 w_28 (Or.inr ⟨w_30, cX8_isOf, 2, (some .boolean), w_31⟩) w_334 w_335 w_170 w_336 ⟨by decide +kernel, by decide +kernel, by show _ = some 1; decide +kernel⟩ (by decide)) (by decide)) (inv_or (inv_up (d := 2) (inv_U (As := [iv x0]) (t := 4) (owner := "HollowPress$Thing") (xn := ⟨"HollowPress$Thing", "isOf", "(I)Z"⟩) (kX3_isOf a x0) _ (by decide) rfl w_332 w_28 (Or.inr ⟨w_30, cX8_isOf, 2, (some .boolean), w_31⟩) w_337 w_35 w_25 w_36 ⟨by decide +kernel, by decide +kernel, by show _ = some 1; decide +kernel⟩ (by decide)) (by decide)) (inv_U (As := [iv x0]) (t := 5) (owner := "HollowPress$Thing") (xn := ⟨"HollowPress$Thing", "isOf", "(I)Z"⟩) (kX4_isOf a x0) _ (by decide) rfl w_332 w_28 (Or.inr ⟨w_30, cX8_isOf, 2, (some .boolean), w_31⟩) w_338 w_339 w_213 w_340 ⟨by decide +kernel, by decide +kernel, by show _ = some 1; decide +kernel⟩ (by decide))))
abbrev eX10_isOfKind : Env0 := (RX10, "isOfKind", cX10_isOfKind, 2, (some .boolean), 4)
def pX10_isOfKind (a1 : Option Nat) (a2 : Int32) : Prg Int32 :=
    (lt (fun (v101 : Int32) => rtZ v101 : Int32 → Prg Int32) fun k102 =>
    (lt (k102 (0 : Int32) : Prg Int32) fun k103 =>
    (nu a1 (k103) fun a104 =>
    cl (or2 a104 1 (pX0_isOf a104 a2) (or2 a104 3 (pX2_isOf a104 a2) (or2 a104 4 (pX3_isOf a104 a2) (onT a104 5 (pX4_isOf a104 a2))))) fun v105 =>
    (if v105 = 0 then k103
    else k102 (1 : Int32)))))
set_option maxRecDepth 20000 in
theorem sX10_isOfKind (a1 : Option Nat) (a2 : Int32) : Sim eX10_isOfKind vI 0 [(0, qv a1), (1, iv a2)] [] (pX10_isOfKind a1 a2) := by
  unfold pX10_isOfKind
  refine sm_aload_n (pc' := 1) dX10_isOfKind_0 rfl rfl ?_
  refine sm_lt (fun k102 => ∀ (v101 : Int32), Sim eX10_isOfKind vI 17 [] [iv v101] (k102 v101)) ?_ (fun k102 hk102 => ?_)
  · intro v101
    exact sm_zreturn rfl dX10_isOfKind_17
  · skip
    refine sm_lt (fun k103 => Sim eX10_isOfKind vI 16 [] [] (k103)) ?_ (fun k103 hk103 => ?_)
    · skip
      refine sm_iconst (pc' := 17) (0 : Int32) dX10_isOfKind_16 (by decide) rfl ?_
      exact hk102 (0 : Int32)
    · skip
      rcases a1 with _ | a104
      · refine sm_nuN ?_
        refine sm_ifnullN (pc' := 16) dX10_isOfKind_1 (by decide) ?_
        refine sm_sub [] rfl ?_
        exact hk103
      · refine sm_nuS ?_
        refine sm_ifnullS (pc' := 4) dX10_isOfKind_1 rfl ?_
        refine sm_aload_n (pc' := 5) dX10_isOfKind_4 rfl rfl ?_
        refine sm_iload_n (pc' := 6) dX10_isOfKind_5 rfl rfl ?_
        refine sm_calli (pc' := 9) (sa := [iv a2, qv (some a104)]) (st := []) (iv_X10_308 a104 a2) (Nat.le_of_ble_eq_true rfl) dX10_isOfKind_6 rfl (Nat.le_of_ble_eq_true rfl) (fun v105 => ?_)
        refine sm_if_eq (pc' := 12) (pc1 := 16) dX10_isOfKind_9 (by decide) rfl (fun _ => ?_) (fun _ => ?_)
        · skip
          refine sm_sub [] rfl ?_
          exact hk103
        · skip
          refine sm_iconst (pc' := 13) (1 : Int32) dX10_isOfKind_12 (by decide) rfl ?_
          refine sm_goto (pc' := 17) dX10_isOfKind_13 (by decide) ?_
          refine sm_sub [] rfl ?_
          exact hk102 (1 : Int32)
theorem kX10_isOfKind (a1 : Option Nat) (a2 : Int32) : Callee 4 yX10_isOfKind cX10_isOfKind 2 (some .boolean) [qv a1, iv a2] vI (pX10_isOfKind a1 a2) := callee_ofS [(0, qv a1), (1, iv a2)] (by decide +kernel) (Nat.le_of_ble_eq_true rfl) rfl (sX10_isOfKind a1 a2)
/-! HollowPress.thingsOfKind(I)I -/
set_option maxRecDepth 20000 in
theorem iv_X10_126 (x0 : Option Nat) (x1 : Int32) : Inv RX10 5 (.invokestatic 126) [iv x1, qv x0] vI (pX10_isOfKind x0 x1) := inv_S (As := [qv x0, iv x1]) (kX10_isOfKind x0 x1) w_341 w_342 w_62 w_343 ⟨by decide +kernel, by decide +kernel, by show _ = some 2; decide +kernel⟩ (by decide)
abbrev eX10_thingsOfKind : Env0 := (RX10, "thingsOfKind", cX10_thingsOfKind, 7, (some .int), 5)
def pX10_thingsOfKind_L14 (a1 : Int32) (a102 : Nat) (v103 : Int32) (k106 : Int32 → Prg Int32) : Nat → Int32 → Int32 → Prg Int32
  | 0, _, _ => fl
  | n + 1, v104, v105 =>
    (if v103 ≤ v105 then k106 v104
    else ldF a102 v105 fun v107 =>
    cl (pX10_isOfKind v107 a1) fun v108 =>
    (lt (fun (v109 : Int32) => pX10_thingsOfKind_L14 a1 a102 v103 k106 n v109 (v105 + (1 : Int32)) : Int32 → Prg Int32) fun k110 =>
    (if v108 = 0 then k110 v104
    else k110 (v104 + (1 : Int32)))))
def pX10_thingsOfKind (th : Nat) (a1 : Int32) : Prg Int32 :=
    gF 10 th 1 fun v101 =>
    un v101 fun a102 =>
    ln a102 fun v103 =>
    pX10_thingsOfKind_L14 a1 a102 v103 (fun (v111 : Int32) => rt v111) FL (0 : Int32) (0 : Int32)
set_option maxRecDepth 20000 in
theorem sX10_thingsOfKind_L14 (a1 : Int32) (a102 : Nat) (v103 : Int32) (k106 : Int32 → Prg Int32) (hk106 : ∀ (q2 : Int32), Sim eX10_thingsOfKind vI 45 [(2, iv q2)] [] (k106 q2)) : ∀ (n : Nat), ∀ (v104 : Int32) (v105 : Int32), Sim eX10_thingsOfKind vI 14 [(1, iv a1), (2, iv v104), (3, qv (some a102)), (4, iv v103), (5, iv v105)] [] (pX10_thingsOfKind_L14 a1 a102 v103 k106 n v104 v105) := by
  intro n
  induction n with
  | zero =>
    intros
    exact sm_fl
  | succ n ih =>
    intro v104 v105
    unfold pX10_thingsOfKind_L14
    refine sm_iload (pc' := 16) dX10_thingsOfKind_14 rfl rfl ?_
    refine sm_iload (pc' := 18) dX10_thingsOfKind_16 rfl rfl ?_
    refine sm_icmp_ge (pc' := 21) (pc1 := 45) dX10_thingsOfKind_18 (by decide) rfl (fun _ => ?_) (fun _ => ?_)
    · skip
      refine sm_sub [1] rfl ?_
      exact hk106 v104
    · skip
      refine sm_aload_n (pc' := 22) dX10_thingsOfKind_21 rfl rfl ?_
      refine sm_iload (pc' := 24) dX10_thingsOfKind_22 rfl rfl ?_
      refine sm_aaload (pc' := 25) dX10_thingsOfKind_24 rfl (fun v107 => ?_)
      refine sm_astore (pc' := 27) [(6, qv v107), (1, iv a1), (2, iv v104), (3, qv (some a102)), (4, iv v103), (5, iv v105)] dX10_thingsOfKind_25  (Nat.le_of_ble_eq_true rfl) rfl rfl ?_
      refine sm_aload (pc' := 29) dX10_thingsOfKind_27 rfl rfl ?_
      refine sm_iload_n (pc' := 30) dX10_thingsOfKind_29 rfl rfl ?_
      refine sm_calli (pc' := 33) (sa := [iv a1, qv v107]) (st := []) (iv_X10_126 v107 a1) (Nat.le_of_ble_eq_true rfl) dX10_thingsOfKind_30 rfl (Nat.le_of_ble_eq_true rfl) (fun v108 => ?_)
      refine sm_lt (fun k110 => ∀ (v109 : Int32), Sim eX10_thingsOfKind vI 39 [(1, iv a1), (2, iv v109), (3, qv (some a102)), (4, iv v103), (5, iv v105)] [] (k110 v109)) ?_ (fun k110 hk110 => ?_)
      · intro v109
        refine sm_iinc (pc' := 42) (v105 + (1 : Int32)) [(5, iv (v105 + (1 : Int32))), (1, iv a1), (2, iv v109), (3, qv (some a102)), (4, iv v103)] dX10_thingsOfKind_39 rfl rfl (Nat.le_of_ble_eq_true rfl) rfl rfl ?_
        refine sm_goto (pc' := 14) dX10_thingsOfKind_42 (by decide) ?_
        refine sm_sub [1, 2, 3, 4, 0] rfl ?_
        exact ih v109 (v105 + (1 : Int32))
      · skip
        refine sm_if_eq (pc' := 36) (pc1 := 39) dX10_thingsOfKind_33 (by decide) rfl (fun _ => ?_) (fun _ => ?_)
        · skip
          refine sm_sub [1, 2, 3, 4, 5] rfl ?_
          exact hk110 v104
        · skip
          refine sm_iinc (pc' := 39) (v104 + (1 : Int32)) [(2, iv (v104 + (1 : Int32))), (6, qv v107), (1, iv a1), (3, qv (some a102)), (4, iv v103), (5, iv v105)] dX10_thingsOfKind_36 rfl rfl (Nat.le_of_ble_eq_true rfl) rfl rfl ?_
          refine sm_sub [2, 0, 3, 4, 5] rfl ?_
          exact hk110 (v104 + (1 : Int32))
set_option maxRecDepth 20000 in
theorem sX10_thingsOfKind (th : Nat) (a1 : Int32) : Sim eX10_thingsOfKind vI 0 [(0, qv (some th)), (1, iv a1)] [] (pX10_thingsOfKind th a1) := by
  unfold pX10_thingsOfKind
  refine sm_iconst (pc' := 1) (0 : Int32) dX10_thingsOfKind_0 (by decide) rfl ?_
  refine sm_istore_n (pc' := 2) [(2, iv (0 : Int32)), (0, qv (some th)), (1, iv a1)] dX10_thingsOfKind_1 rfl (Nat.le_of_ble_eq_true rfl) rfl rfl ?_
  refine sm_aload_n (pc' := 3) dX10_thingsOfKind_2 rfl rfl ?_
  refine sm_getF (pc' := 6) fk_X10_17 yr_10_1 dX10_thingsOfKind_3 rfl (fun v101 => ?_)
  refine sm_astore_n (pc' := 7) [(3, qv v101), (2, iv (0 : Int32)), (0, qv (some th)), (1, iv a1)] dX10_thingsOfKind_6 rfl (Nat.le_of_ble_eq_true rfl) rfl rfl ?_
  refine sm_aload_n (pc' := 8) dX10_thingsOfKind_7 rfl rfl ?_
  rcases v101 with _ | a102
  · exact sm_unN
  refine sm_unS ?_
  refine sm_alen (pc' := 9) dX10_thingsOfKind_8 rfl (fun v103 => ?_)
  refine sm_istore (pc' := 11) [(4, iv v103), (3, qv (some a102)), (2, iv (0 : Int32)), (0, qv (some th)), (1, iv a1)] dX10_thingsOfKind_9  (Nat.le_of_ble_eq_true rfl) rfl rfl ?_
  refine sm_iconst (pc' := 12) (0 : Int32) dX10_thingsOfKind_11 (by decide) rfl ?_
  refine sm_istore (pc' := 14) [(5, iv (0 : Int32)), (4, iv v103), (3, qv (some a102)), (2, iv (0 : Int32)), (0, qv (some th)), (1, iv a1)] dX10_thingsOfKind_12  (Nat.le_of_ble_eq_true rfl) rfl rfl ?_
  refine sm_sub [5, 3, 2, 1, 0] rfl ?_
  refine sX10_thingsOfKind_L14 a1 a102 v103 _ ?_ FL (0 : Int32) (0 : Int32)
  · intro v111
    refine sm_iload_n (pc' := 46) dX10_thingsOfKind_45 rfl rfl ?_
    exact sm_ireturn rfl dX10_thingsOfKind_46
theorem kX10_thingsOfKind (th : Nat) (a1 : Int32) : Callee 5 yX10_thingsOfKind cX10_thingsOfKind 7 (some .int) [qv (some th), iv a1] vI (pX10_thingsOfKind th a1) := callee_ofS [(0, qv (some th)), (1, iv a1)] (by decide +kernel) (Nat.le_of_ble_eq_true rfl) rfl (sX10_thingsOfKind th a1)
/-! HollowPress.count(I)I -/
set_option maxRecDepth 20000 in
theorem iv_X10_288 (a : Nat) (x0 : Int32) : Inv RX10 6 (.invokevirtual 288) [iv x0, qv (some a)] vI (onT a 10 (pX10_thingsOfKind a x0)) := inv_V (As := [iv x0]) (t := 10) (kX10_thingsOfKind a x0) _ (by decide) rfl rfl w_347 w_348 w_349 w_62 w_350 ⟨by decide +kernel, by decide +kernel, by show _ = some 1; decide +kernel⟩ (by decide)
set_option maxRecDepth 20000 in
theorem iv_X10_285 (a : Nat)  : Inv RX10 1 (.invokevirtual 285) [qv (some a)] vI (onT a 10 (pX10_sheetsThere a )) := inv_V (As := []) (t := 10) (kX10_sheetsThere a ) _ (by decide) rfl rfl w_351 w_352 w_353 w_62 w_354 ⟨by decide +kernel, by decide +kernel, by show _ = some 0; decide +kernel⟩ (by decide)
abbrev eX10_count : Env0 := (RX10, "count", cX10_count, 2, (some .int), 6)
def pX10_count (th : Nat) (a1 : Int32) : Prg Int32 :=
    (if a1 = 0 then cl (onT th 10 (pX10_sheetsThere th)) fun v113 =>
    rt v113
    else (if a1 = (1 : Int32) then cl (onT th 10 (pX10_thingsOfKind th (0 : Int32))) fun v112 =>
    rt v112
    else (if a1 = (2 : Int32) then cl (onT th 10 (pX10_thingsOfKind th (1 : Int32))) fun v111 =>
    rt v111
    else (if a1 = (3 : Int32) then cl (onT th 10 (pX10_thingsOfKind th (2 : Int32))) fun v110 =>
    rt v110
    else (if a1 = (4 : Int32) then gF 10 th 4 fun v107 =>
    un v107 fun a108 =>
    gI 7 a108 4 fun v109 =>
    rt v109
    else (if a1 = (5 : Int32) then gF 10 th 5 fun v104 =>
    un v104 fun a105 =>
    gI 6 a105 7 fun v106 =>
    rt v106
    else (if a1 = (6 : Int32) then gF 10 th 5 fun v101 =>
    un v101 fun a102 =>
    gI 6 a102 8 fun v103 =>
    rt v103
    else rt (-1000001 : Int32))))))))
set_option maxRecDepth 20000 in
theorem sX10_count (th : Nat) (a1 : Int32) : Sim eX10_count vI 0 [(0, qv (some th)), (1, iv a1)] [] (pX10_count th a1) := by
  unfold pX10_count
  refine sm_iload_n (pc' := 1) dX10_count_0 rfl rfl ?_
  refine sm_if_ne (pc' := 4) (pc1 := 9) dX10_count_1 (by decide) rfl (fun _ => ?_) (fun _ => ?_)
  · skip
    refine sm_iload_n (pc' := 10) dX10_count_9 rfl rfl ?_
    refine sm_iconst (pc' := 11) (1 : Int32) dX10_count_10 (by decide) rfl ?_
    refine sm_icmp_ne (pc' := 14) (pc1 := 20) dX10_count_11 (by decide) rfl (fun _ => ?_) (fun _ => ?_)
    · skip
      refine sm_iload_n (pc' := 21) dX10_count_20 rfl rfl ?_
      refine sm_iconst (pc' := 22) (2 : Int32) dX10_count_21 (by decide) rfl ?_
      refine sm_icmp_ne (pc' := 25) (pc1 := 31) dX10_count_22 (by decide) rfl (fun _ => ?_) (fun _ => ?_)
      · skip
        refine sm_iload_n (pc' := 32) dX10_count_31 rfl rfl ?_
        refine sm_iconst (pc' := 33) (3 : Int32) dX10_count_32 (by decide) rfl ?_
        refine sm_icmp_ne (pc' := 36) (pc1 := 42) dX10_count_33 (by decide) rfl (fun _ => ?_) (fun _ => ?_)
        · skip
          refine sm_iload_n (pc' := 43) dX10_count_42 rfl rfl ?_
          refine sm_iconst (pc' := 44) (4 : Int32) dX10_count_43 (by decide) rfl ?_
          refine sm_icmp_ne (pc' := 47) (pc1 := 55) dX10_count_44 (by decide) rfl (fun _ => ?_) (fun _ => ?_)
          · skip
            refine sm_iload_n (pc' := 56) dX10_count_55 rfl rfl ?_
            refine sm_iconst (pc' := 57) (5 : Int32) dX10_count_56 (by decide) rfl ?_
            refine sm_icmp_ne (pc' := 60) (pc1 := 68) dX10_count_57 (by decide) rfl (fun _ => ?_) (fun _ => ?_)
            · skip
              refine sm_iload_n (pc' := 69) dX10_count_68 rfl rfl ?_
              refine sm_bipush (pc' := 71) (6 : Int32) dX10_count_69 (by decide) rfl ?_
              refine sm_icmp_ne (pc' := 74) (pc1 := 82) dX10_count_71 (by decide) rfl (fun _ => ?_) (fun _ => ?_)
              · skip
                refine sm_ldc (pc' := 84) (-1000001 : Int32) w_189 dX10_count_82 rfl ?_
                exact sm_ireturn rfl dX10_count_84
              · skip
                refine sm_aload_n (pc' := 75) dX10_count_74 rfl rfl ?_
                refine sm_getF (pc' := 78) fk_X10_45 yr_10_5 dX10_count_75 rfl (fun v101 => ?_)
                rcases v101 with _ | a102
                · exact sm_unN
                refine sm_unS ?_
                refine sm_getI (pc' := 81) fk_X10_291 nr_6_8 dX10_count_78 rfl (fun v103 => ?_)
                exact sm_ireturn rfl dX10_count_81
            · skip
              refine sm_aload_n (pc' := 61) dX10_count_60 rfl rfl ?_
              refine sm_getF (pc' := 64) fk_X10_45 yr_10_5 dX10_count_61 rfl (fun v104 => ?_)
              rcases v104 with _ | a105
              · exact sm_unN
              refine sm_unS ?_
              refine sm_getI (pc' := 67) fk_X10_270 nr_6_7 dX10_count_64 rfl (fun v106 => ?_)
              exact sm_ireturn rfl dX10_count_67
          · skip
            refine sm_aload_n (pc' := 48) dX10_count_47 rfl rfl ?_
            refine sm_getF (pc' := 51) fk_X10_38 yr_10_4 dX10_count_48 rfl (fun v107 => ?_)
            rcases v107 with _ | a108
            · exact sm_unN
            refine sm_unS ?_
            refine sm_getI (pc' := 54) fk_X10_211 nr_7_4 dX10_count_51 rfl (fun v109 => ?_)
            exact sm_ireturn rfl dX10_count_54
        · skip
          refine sm_aload_n (pc' := 37) dX10_count_36 rfl rfl ?_
          refine sm_iconst (pc' := 38) (2 : Int32) dX10_count_37 (by decide) rfl ?_
          refine sm_calli (pc' := 41) (sa := [iv (2 : Int32), qv (some th)]) (st := []) (iv_X10_288 th (2 : Int32)) (Nat.le_of_ble_eq_true rfl) dX10_count_38 rfl (Nat.le_of_ble_eq_true rfl) (fun v110 => ?_)
          exact sm_ireturn rfl dX10_count_41
      · skip
        refine sm_aload_n (pc' := 26) dX10_count_25 rfl rfl ?_
        refine sm_iconst (pc' := 27) (1 : Int32) dX10_count_26 (by decide) rfl ?_
        refine sm_calli (pc' := 30) (sa := [iv (1 : Int32), qv (some th)]) (st := []) (iv_X10_288 th (1 : Int32)) (Nat.le_of_ble_eq_true rfl) dX10_count_27 rfl (Nat.le_of_ble_eq_true rfl) (fun v111 => ?_)
        exact sm_ireturn rfl dX10_count_30
    · skip
      refine sm_aload_n (pc' := 15) dX10_count_14 rfl rfl ?_
      refine sm_iconst (pc' := 16) (0 : Int32) dX10_count_15 (by decide) rfl ?_
      refine sm_calli (pc' := 19) (sa := [iv (0 : Int32), qv (some th)]) (st := []) (iv_X10_288 th (0 : Int32)) (Nat.le_of_ble_eq_true rfl) dX10_count_16 rfl (Nat.le_of_ble_eq_true rfl) (fun v112 => ?_)
      exact sm_ireturn rfl dX10_count_19
  · skip
    refine sm_aload_n (pc' := 5) dX10_count_4 rfl rfl ?_
    refine sm_calli (pc' := 8) (sa := [qv (some th)]) (st := []) (iv_X10_285 th) (Nat.le_of_ble_eq_true rfl) dX10_count_5 rfl (Nat.le_of_ble_eq_true rfl) (fun v113 => ?_)
    exact sm_ireturn rfl dX10_count_8
theorem kX10_count (th : Nat) (a1 : Int32) : Callee 6 yX10_count cX10_count 2 (some .int) [qv (some th), iv a1] vI (pX10_count th a1) := callee_ofS [(0, qv (some th)), (1, iv a1)] (by decide +kernel) (Nat.le_of_ble_eq_true rfl) rfl (sX10_count th a1)
/-! HollowPress.drop(I)I -/
abbrev eX10_drop : Env0 := (RX10, "drop", cX10_drop, 3, (some .int), 1)
def pX10_drop (th : Nat) (a1 : Int32) : Prg Int32 :=
    cl (pX10_below a1 (8 : Int32)) fun v101 =>
    (if v101 = 0 then rt (-1000001 : Int32)
    else gF 10 th 0 fun v102 =>
    un v102 fun a103 =>
    ldF a103 a1 fun v104 =>
    (nu v104 (cl (onT th 10 (pX10_found th (1 : Int32))) fun v106 =>
    rt v106) fun a105 =>
    gF 10 th 0 fun v107 =>
    un v107 fun a108 =>
    stF a108 a1 none (
    gF 8 a105 1 fun v109 =>
    un v109 fun a110 =>
    ln a110 fun v111 =>
    cl (onT th 10 (pX10_fine th v111)) fun v112 =>
    rt v112)))
set_option maxRecDepth 20000 in
theorem sX10_drop (th : Nat) (a1 : Int32) : Sim eX10_drop vI 0 [(0, qv (some th)), (1, iv a1)] [] (pX10_drop th a1) := by
  unfold pX10_drop
  refine sm_iload_n (pc' := 1) dX10_drop_0 rfl rfl ?_
  refine sm_bipush (pc' := 3) (8 : Int32) dX10_drop_1 (by decide) rfl ?_
  refine sm_calli (pc' := 6) (sa := [iv (8 : Int32), iv a1]) (st := []) (iv_X10_53 a1 (8 : Int32)) (Nat.le_of_ble_eq_true rfl) dX10_drop_3 rfl (Nat.le_of_ble_eq_true rfl) (fun v101 => ?_)
  refine sm_if_ne (pc' := 9) (pc1 := 12) dX10_drop_6 (by decide) rfl (fun _ => ?_) (fun _ => ?_)
  · skip
    refine sm_aload_n (pc' := 13) dX10_drop_12 rfl rfl ?_
    refine sm_getF (pc' := 16) fk_X10_11 yr_10_0 dX10_drop_13 rfl (fun v102 => ?_)
    refine sm_iload_n (pc' := 17) dX10_drop_16 rfl rfl ?_
    rcases v102 with _ | a103
    · exact sm_unN
    refine sm_unS ?_
    refine sm_aaload (pc' := 18) dX10_drop_17 rfl (fun v104 => ?_)
    refine sm_astore_n (pc' := 19) [(2, qv v104), (0, qv (some th)), (1, iv a1)] dX10_drop_18 rfl (Nat.le_of_ble_eq_true rfl) rfl rfl ?_
    refine sm_aload_n (pc' := 20) dX10_drop_19 rfl rfl ?_
    rcases v104 with _ | a105
    · refine sm_nuN ?_
      refine sm_ifnonnullN (pc' := 23) dX10_drop_20 rfl ?_
      refine sm_aload_n (pc' := 24) dX10_drop_23 rfl rfl ?_
      refine sm_iconst (pc' := 25) (1 : Int32) dX10_drop_24 (by decide) rfl ?_
      refine sm_calli (pc' := 28) (sa := [iv (1 : Int32), qv (some th)]) (st := []) (iv_X10_58 th (1 : Int32)) (Nat.le_of_ble_eq_true rfl) dX10_drop_25 rfl (Nat.le_of_ble_eq_true rfl) (fun v106 => ?_)
      exact sm_ireturn rfl dX10_drop_28
    · refine sm_nuS ?_
      refine sm_ifnonnullS (pc' := 29) dX10_drop_20 (by decide) ?_
      refine sm_aload_n (pc' := 30) dX10_drop_29 rfl rfl ?_
      refine sm_getF (pc' := 33) fk_X10_11 yr_10_0 dX10_drop_30 rfl (fun v107 => ?_)
      refine sm_iload_n (pc' := 34) dX10_drop_33 rfl rfl ?_
      refine sm_null (pc' := 35) dX10_drop_34 rfl ?_
      rcases v107 with _ | a108
      · exact sm_unN
      refine sm_unS ?_
      refine sm_aastore (pc' := 36) dX10_drop_35 rfl ?_
      refine sm_aload_n (pc' := 37) dX10_drop_36 rfl rfl ?_
      refine sm_aload_n (pc' := 38) dX10_drop_37 rfl rfl ?_
      refine sm_getF (pc' := 41) fk_X10_80 yr_8_1 dX10_drop_38 rfl (fun v109 => ?_)
      rcases v109 with _ | a110
      · exact sm_unN
      refine sm_unS ?_
      refine sm_alen (pc' := 42) dX10_drop_41 rfl (fun v111 => ?_)
      refine sm_calli (pc' := 45) (sa := [iv v111, qv (some th)]) (st := []) (iv_X10_65 th v111) (Nat.le_of_ble_eq_true rfl) dX10_drop_42 rfl (Nat.le_of_ble_eq_true rfl) (fun v112 => ?_)
      exact sm_ireturn rfl dX10_drop_45
  · skip
    refine sm_ldc (pc' := 11) (-1000001 : Int32) w_189 dX10_drop_9 rfl ?_
    exact sm_ireturn rfl dX10_drop_11
theorem kX10_drop (th : Nat) (a1 : Int32) : Callee 1 yX10_drop cX10_drop 3 (some .int) [qv (some th), iv a1] vI (pX10_drop th a1) := callee_ofS [(0, qv (some th)), (1, iv a1)] (by decide +kernel) (Nat.le_of_ble_eq_true rfl) rfl (sX10_drop th a1)
