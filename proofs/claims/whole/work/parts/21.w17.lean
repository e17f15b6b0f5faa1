/-! HollowPressModel.trap(II)I -/
abbrev eX11_trap : Env0 := (RX11, "trap", cX11_trap, 9, (some .int), 3)
def pX11_trap_L106 (th : Nat) (a1 : Int32) (a2 : Int32) (v103 : Int32) (v104 : Int32) (k119 : Int32 → Prg Int32) : Nat → Int32 → Int32 → Prg Int32
  | 0, _, _ => fl
  | n + 1, v117, v118 =>
    (if (4 : Int32) ≤ v118 then k119 v117
    else (if v117 = 0 then k119 v117
    else cl (onT th 11 (pX11_neighbour th a1 v104 v118)) fun v120 =>
    (lt (fun (v121 : Int32) => pX11_trap_L106 th a1 a2 v103 v104 k119 n v121 (v118 + (1 : Int32)) : Int32 → Prg Int32) fun k122 =>
    (lt (k122 (1 : Int32) : Prg Int32) fun k123 =>
    (if v120 = (-1000000 : Int32) then k123
    else gF 11 th 18 fun v124 =>
    un v124 fun a125 =>
    ldI a125 v120 fun v126 =>
    (if v126 = (-1000000 : Int32) then k123
    else gF 11 th 21 fun v127 =>
    un v127 fun a128 =>
    ldI a128 v120 fun v129 =>
    gF 11 th 21 fun v130 =>
    un v130 fun a131 =>
    ldI a131 v104 fun v132 =>
    (if v132 ≤ v129 then k122 (0 : Int32)
    else k123)))))))
def pX11_trap_L50 (th : Nat) (a1 : Int32) (a2 : Int32) (k105 : Prg Int32) : Nat → Int32 → Int32 → Prg Int32
  | 0, _, _ => fl
  | n + 1, v103, v104 =>
    gF 11 th 6 fun v106 =>
    un v106 fun a107 =>
    ldI a107 a1 fun v108 =>
    gF 11 th 7 fun v109 =>
    un v109 fun a110 =>
    ldI a110 a1 fun v111 =>
    (if (v108 * v111) ≤ v104 then k105
    else gF 11 th 18 fun v112 =>
    un v112 fun a113 =>
    ldI a113 v104 fun v114 =>
    (lt (fun (v115 : Int32) => pX11_trap_L106 th a1 a2 v103 v104 (fun (v133 : Int32) => (lt ((lt (fun (v135 : Int32) => pX11_trap_L50 th a1 a2 k105 n (v103 + v135) (v104 + (1 : Int32)) : Int32 → Prg Int32) fun k136 =>
    (if v133 = 0 then k136 (0 : Int32)
    else k136 (1 : Int32))) : Prg Int32) fun k134 =>
    (if v133 = 0 then k134
    else (if v103 = a2 then rt v104
    else k134)))) FL v115 (0 : Int32) : Int32 → Prg Int32) fun k116 =>
    (lt (k116 (0 : Int32) : Prg Int32) fun k137 =>
    (if v114 = (-1000000 : Int32) then k137
    else gF 11 th 11 fun v138 =>
    un v138 fun a139 =>
    ldZ a139 (((144 : Int32) * a1) + v104) fun v140 =>
    (if v140 = 0 then k116 (1 : Int32)
    else k137)))))
def pX11_trap (th : Nat) (a1 : Int32) (a2 : Int32) : Prg Int32 :=
    pI 11 th 0 (0 : Int32) (
    cl (pX11_isPlace a1) fun v101 =>
    (if v101 = 0 then rt (-1000001 : Int32)
    else cl (onT th 11 (pX11_asked th a1 (1 : Int32))) fun v102 =>
    (if v102 ≤ 0 then pI 11 th 1 (0 : Int32) (
    cl (onT th 11 (pX11_fill th a1 (-1000000 : Int32))) fun _ =>
    pX11_trap_L50 th a1 a2 (rt (-1000000 : Int32)) FL (0 : Int32) (0 : Int32))
    else cl (onT th 11 (pX11_found th v102)) fun v141 =>
    rt v141)))
set_option maxRecDepth 20000 in
theorem sX11_trap_L106 (th : Nat) (a1 : Int32) (a2 : Int32) (v103 : Int32) (v104 : Int32) (k119 : Int32 → Prg Int32) (hk119 : ∀ (q6 : Int32), Sim eX11_trap vI 177 [(0, qv (some th)), (1, iv a1), (2, iv a2), (4, iv v103), (5, iv v104), (6, iv q6)] [] (k119 q6)) : ∀ (n : Nat), ∀ (v117 : Int32) (v118 : Int32), Sim eX11_trap vI 106 [(0, qv (some th)), (1, iv a1), (2, iv a2), (4, iv v103), (5, iv v104), (6, iv v117), (7, iv v118)] [] (pX11_trap_L106 th a1 a2 v103 v104 k119 n v117 v118) := by
  intro n
  induction n with
  | zero =>
    intros
    exact sm_fl
  | succ n ih =>
    intro v117 v118
    unfold pX11_trap_L106
    refine sm_iload (pc' := 108) dX11_trap_106 rfl rfl ?_
    refine sm_iconst (pc' := 109) (4 : Int32) dX11_trap_108 (by decide) rfl ?_
    refine sm_icmp_ge (pc' := 112) (pc1 := 177) dX11_trap_109 (by decide) rfl (fun _ => ?_) (fun _ => ?_)
    · skip
      refine sm_sub [0, 1, 2, 3, 4, 5] rfl ?_
      exact hk119 v117
    · skip
      refine sm_iload (pc' := 114) dX11_trap_112 rfl rfl ?_
      refine sm_if_eq (pc' := 117) (pc1 := 177) dX11_trap_114 (by decide) rfl (fun _ => ?_) (fun _ => ?_)
      · skip
        refine sm_sub [0, 1, 2, 3, 4, 5] rfl ?_
        exact hk119 v117
      · skip
        refine sm_aload_n (pc' := 118) dX11_trap_117 rfl rfl ?_
        refine sm_iload_n (pc' := 119) dX11_trap_118 rfl rfl ?_
        refine sm_iload (pc' := 121) dX11_trap_119 rfl rfl ?_
        refine sm_iload (pc' := 123) dX11_trap_121 rfl rfl ?_
        refine sm_calli (pc' := 126) (sa := [iv v118, iv v104, iv a1, qv (some th)]) (st := []) (iv_X11_205 th a1 v104 v118) (Nat.le_of_ble_eq_true rfl) dX11_trap_123 rfl (Nat.le_of_ble_eq_true rfl) (fun v120 => ?_)
        refine sm_istore (pc' := 128) [(8, iv v120), (0, qv (some th)), (1, iv a1), (2, iv a2), (4, iv v103), (5, iv v104), (6, iv v117), (7, iv v118)] dX11_trap_126  (Nat.le_of_ble_eq_true rfl) rfl rfl ?_
        refine sm_iload (pc' := 130) dX11_trap_128 rfl rfl ?_
        refine sm_ldc (pc' := 132) (-1000000 : Int32) w_621 dX11_trap_130 rfl ?_
        refine sm_lt (fun k122 => ∀ (v121 : Int32), Sim eX11_trap vI 169 [(0, qv (some th)), (1, iv a1), (2, iv a2), (4, iv v103), (5, iv v104), (7, iv v118)] [iv v121] (k122 v121)) ?_ (fun k122 hk122 => ?_)
        · intro v121
          refine sm_istore (pc' := 171) [(6, iv v121), (0, qv (some th)), (1, iv a1), (2, iv a2), (4, iv v103), (5, iv v104), (7, iv v118)] dX11_trap_169  (Nat.le_of_ble_eq_true rfl) rfl rfl ?_
          refine sm_iinc (pc' := 174) (v118 + (1 : Int32)) [(7, iv (v118 + (1 : Int32))), (6, iv v121), (0, qv (some th)), (1, iv a1), (2, iv a2), (4, iv v103), (5, iv v104)] dX11_trap_171 rfl rfl (Nat.le_of_ble_eq_true rfl) rfl rfl ?_
          refine sm_goto (pc' := 106) dX11_trap_174 (by decide) ?_
          refine sm_sub [2, 3, 4, 5, 6, 1, 0] rfl ?_
          exact ih v121 (v118 + (1 : Int32))
        · skip
          refine sm_lt (fun k123 => Sim eX11_trap vI 164 [(0, qv (some th)), (1, iv a1), (2, iv a2), (4, iv v103), (5, iv v104), (7, iv v118)] [] (k123)) ?_ (fun k123 hk123 => ?_)
          · skip
            refine sm_iconst (pc' := 165) (1 : Int32) dX11_trap_164 (by decide) rfl ?_
            refine sm_goto (pc' := 169) dX11_trap_165 (by decide) ?_
            exact hk122 (1 : Int32)
          · skip
            refine sm_icmp_eq (pc' := 135) (pc1 := 164) dX11_trap_132 (by decide) rfl (fun _ => ?_) (fun _ => ?_)
            · skip
              refine sm_sub [1, 2, 3, 4, 5, 7] rfl ?_
              exact hk123
            · skip
              refine sm_aload_n (pc' := 136) dX11_trap_135 rfl rfl ?_
              refine sm_getF (pc' := 139) fk_X11_57 yr_11_18 dX11_trap_136 rfl (fun v124 => ?_)
              refine sm_iload (pc' := 141) dX11_trap_139 rfl rfl ?_
              rcases v124 with _ | a125
              · exact sm_unN
              refine sm_unS ?_
              refine sm_iaload (pc' := 142) dX11_trap_141 rfl (fun v126 => ?_)
              refine sm_ldc (pc' := 144) (-1000000 : Int32) w_621 dX11_trap_142 rfl ?_
              refine sm_icmp_eq (pc' := 147) (pc1 := 164) dX11_trap_144 (by decide) rfl (fun _ => ?_) (fun _ => ?_)
              · skip
                refine sm_sub [1, 2, 3, 4, 5, 7] rfl ?_
                exact hk123
              · skip
                refine sm_aload_n (pc' := 148) dX11_trap_147 rfl rfl ?_
                refine sm_getF (pc' := 151) fk_X11_66 yr_11_21 dX11_trap_148 rfl (fun v127 => ?_)
                refine sm_iload (pc' := 153) dX11_trap_151 rfl rfl ?_
                rcases v127 with _ | a128
                · exact sm_unN
                refine sm_unS ?_
                refine sm_iaload (pc' := 154) dX11_trap_153 rfl (fun v129 => ?_)
                refine sm_aload_n (pc' := 155) dX11_trap_154 rfl rfl ?_
                refine sm_getF (pc' := 158) fk_X11_66 yr_11_21 dX11_trap_155 rfl (fun v130 => ?_)
                refine sm_iload (pc' := 160) dX11_trap_158 rfl rfl ?_
                rcases v130 with _ | a131
                · exact sm_unN
                refine sm_unS ?_
                refine sm_iaload (pc' := 161) dX11_trap_160 rfl (fun v132 => ?_)
                refine sm_icmp_ge (pc' := 164) (pc1 := 168) dX11_trap_161 (by decide) rfl (fun _ => ?_) (fun _ => ?_)
                · skip
                  refine sm_iconst (pc' := 169) (0 : Int32) dX11_trap_168 (by decide) rfl ?_
                  refine sm_sub [1, 2, 3, 4, 5, 7] rfl ?_
                  exact hk122 (0 : Int32)
                · skip
                  refine sm_sub [1, 2, 3, 4, 5, 7] rfl ?_
                  exact hk123
set_option maxRecDepth 20000 in
theorem sX11_trap_L50 (th : Nat) (a1 : Int32) (a2 : Int32) (k105 : Prg Int32) (hk105 : Sim eX11_trap vI 212 [] [] (k105)) : ∀ (n : Nat), ∀ (v103 : Int32) (v104 : Int32), Sim eX11_trap vI 50 [(0, qv (some th)), (1, iv a1), (2, iv a2), (4, iv v103), (5, iv v104)] [] (pX11_trap_L50 th a1 a2 k105 n v103 v104) := by
  intro n
  induction n with
  | zero =>
    intros
    exact sm_fl
  | succ n ih =>
    intro v103 v104
    unfold pX11_trap_L50
    refine sm_iload (pc' := 52) dX11_trap_50 rfl rfl ?_
    refine sm_aload_n (pc' := 53) dX11_trap_52 rfl rfl ?_
    refine sm_getF (pc' := 56) fk_X11_23 yr_11_6 dX11_trap_53 rfl (fun v106 => ?_)
    refine sm_iload_n (pc' := 57) dX11_trap_56 rfl rfl ?_
    rcases v106 with _ | a107
    · exact sm_unN
    refine sm_unS ?_
    refine sm_iaload (pc' := 58) dX11_trap_57 rfl (fun v108 => ?_)
    refine sm_aload_n (pc' := 59) dX11_trap_58 rfl rfl ?_
    refine sm_getF (pc' := 62) fk_X11_26 yr_11_7 dX11_trap_59 rfl (fun v109 => ?_)
    refine sm_iload_n (pc' := 63) dX11_trap_62 rfl rfl ?_
    rcases v109 with _ | a110
    · exact sm_unN
    refine sm_unS ?_
    refine sm_iaload (pc' := 64) dX11_trap_63 rfl (fun v111 => ?_)
    refine sm_imul (pc' := 65) dX11_trap_64 rfl ?_
    refine sm_icmp_ge (pc' := 68) (pc1 := 212) dX11_trap_65 (by decide) rfl (fun _ => ?_) (fun _ => ?_)
    · skip
      refine sm_sub [] rfl ?_
      exact hk105
    · skip
      refine sm_aload_n (pc' := 69) dX11_trap_68 rfl rfl ?_
      refine sm_getF (pc' := 72) fk_X11_57 yr_11_18 dX11_trap_69 rfl (fun v112 => ?_)
      refine sm_iload (pc' := 74) dX11_trap_72 rfl rfl ?_
      rcases v112 with _ | a113
      · exact sm_unN
      refine sm_unS ?_
      refine sm_iaload (pc' := 75) dX11_trap_74 rfl (fun v114 => ?_)
      refine sm_ldc (pc' := 77) (-1000000 : Int32) w_621 dX11_trap_75 rfl ?_
      refine sm_lt (fun k116 => ∀ (v115 : Int32), Sim eX11_trap vI 101 [(0, qv (some th)), (1, iv a1), (2, iv a2), (4, iv v103), (5, iv v104)] [iv v115] (k116 v115)) ?_ (fun k116 hk116 => ?_)
      · intro v115
        refine sm_istore (pc' := 103) [(6, iv v115), (0, qv (some th)), (1, iv a1), (2, iv a2), (4, iv v103), (5, iv v104)] dX11_trap_101  (Nat.le_of_ble_eq_true rfl) rfl rfl ?_
        refine sm_iconst (pc' := 104) (0 : Int32) dX11_trap_103 (by decide) rfl ?_
        refine sm_istore (pc' := 106) [(7, iv (0 : Int32)), (6, iv v115), (0, qv (some th)), (1, iv a1), (2, iv a2), (4, iv v103), (5, iv v104)] dX11_trap_104  (Nat.le_of_ble_eq_true rfl) rfl rfl ?_
        refine sm_sub [2, 3, 4, 5, 6, 1, 0] rfl ?_
        refine sX11_trap_L106 th a1 a2 v103 v104 _ ?_ FL v115 (0 : Int32)
        · intro v133
          refine sm_iload (pc' := 179) dX11_trap_177 rfl rfl ?_
          refine sm_lt (fun k134 => Sim eX11_trap vI 191 [(0, qv (some th)), (1, iv a1), (2, iv a2), (4, iv v103), (5, iv v104), (6, iv v133)] [] (k134)) ?_ (fun k134 hk134 => ?_)
          · skip
            refine sm_iload (pc' := 193) dX11_trap_191 rfl rfl ?_
            refine sm_iload (pc' := 195) dX11_trap_193 rfl rfl ?_
            refine sm_lt (fun k136 => ∀ (v135 : Int32), Sim eX11_trap vI 203 [(0, qv (some th)), (1, iv a1), (2, iv a2), (5, iv v104)] [iv v135, iv v103] (k136 v135)) ?_ (fun k136 hk136 => ?_)
            · intro v135
              refine sm_iadd (pc' := 204) dX11_trap_203 rfl ?_
              refine sm_istore (pc' := 206) [(4, iv (v103 + v135)), (0, qv (some th)), (1, iv a1), (2, iv a2), (5, iv v104)] dX11_trap_204  (Nat.le_of_ble_eq_true rfl) rfl rfl ?_
              refine sm_iinc (pc' := 209) (v104 + (1 : Int32)) [(5, iv (v104 + (1 : Int32))), (4, iv (v103 + v135)), (0, qv (some th)), (1, iv a1), (2, iv a2)] dX11_trap_206 rfl rfl (Nat.le_of_ble_eq_true rfl) rfl rfl ?_
              refine sm_goto (pc' := 50) dX11_trap_209 (by decide) ?_
              refine sm_sub [2, 3, 4, 1, 0] rfl ?_
              exact ih (v103 + v135) (v104 + (1 : Int32))
            · skip
              refine sm_if_eq (pc' := 198) (pc1 := 202) dX11_trap_195 (by decide) rfl (fun _ => ?_) (fun _ => ?_)
              · skip
                refine sm_iconst (pc' := 203) (0 : Int32) dX11_trap_202 (by decide) rfl ?_
                refine sm_sub [0, 1, 2, 4] rfl ?_
                exact hk136 (0 : Int32)
              · skip
                refine sm_iconst (pc' := 199) (1 : Int32) dX11_trap_198 (by decide) rfl ?_
                refine sm_goto (pc' := 203) dX11_trap_199 (by decide) ?_
                refine sm_sub [0, 1, 2, 4] rfl ?_
                exact hk136 (1 : Int32)
          · skip
            refine sm_if_eq (pc' := 182) (pc1 := 191) dX11_trap_179 (by decide) rfl (fun _ => ?_) (fun _ => ?_)
            · skip
              exact hk134
            · skip
              refine sm_iload (pc' := 184) dX11_trap_182 rfl rfl ?_
              refine sm_iload_n (pc' := 185) dX11_trap_184 rfl rfl ?_
              refine sm_icmp_ne (pc' := 188) (pc1 := 191) dX11_trap_185 (by decide) rfl (fun _ => ?_) (fun _ => ?_)
              · skip
                exact hk134
              · skip
                refine sm_iload (pc' := 190) dX11_trap_188 rfl rfl ?_
                exact sm_ireturn rfl dX11_trap_190
      · skip
        refine sm_lt (fun k137 => Sim eX11_trap vI 100 [(0, qv (some th)), (1, iv a1), (2, iv a2), (4, iv v103), (5, iv v104)] [] (k137)) ?_ (fun k137 hk137 => ?_)
        · skip
          refine sm_iconst (pc' := 101) (0 : Int32) dX11_trap_100 (by decide) rfl ?_
          exact hk116 (0 : Int32)
        · skip
          refine sm_icmp_eq (pc' := 80) (pc1 := 100) dX11_trap_77 (by decide) rfl (fun _ => ?_) (fun _ => ?_)
          · skip
            exact hk137
          · skip
            refine sm_aload_n (pc' := 81) dX11_trap_80 rfl rfl ?_
            refine sm_getF (pc' := 84) fk_X11_38 yr_11_11 dX11_trap_81 rfl (fun v138 => ?_)
            refine sm_sipush (pc' := 87) (144 : Int32) dX11_trap_84 (by decide) rfl ?_
            refine sm_iload_n (pc' := 88) dX11_trap_87 rfl rfl ?_
            refine sm_imul (pc' := 89) dX11_trap_88 rfl ?_
            refine sm_iload (pc' := 91) dX11_trap_89 rfl rfl ?_
            refine sm_iadd (pc' := 92) dX11_trap_91 rfl ?_
            rcases v138 with _ | a139
            · exact sm_unN
            refine sm_unS ?_
            refine sm_zaload (pc' := 93) dX11_trap_92 rfl (fun v140 => ?_)
            refine sm_if_ne (pc' := 96) (pc1 := 100) dX11_trap_93 (by decide) rfl (fun _ => ?_) (fun _ => ?_)
            · skip
              exact hk137
            · skip
              refine sm_iconst (pc' := 97) (1 : Int32) dX11_trap_96 (by decide) rfl ?_
              refine sm_goto (pc' := 101) dX11_trap_97 (by decide) ?_
              exact hk116 (1 : Int32)
set_option maxRecDepth 20000 in
theorem sX11_trap (th : Nat) (a1 : Int32) (a2 : Int32) : Sim eX11_trap vI 0 [(0, qv (some th)), (1, iv a1), (2, iv a2)] [] (pX11_trap th a1 a2) := by
  unfold pX11_trap
  refine sm_aload_n (pc' := 1) dX11_trap_0 rfl rfl ?_
  refine sm_iconst (pc' := 2) (0 : Int32) dX11_trap_1 (by decide) rfl ?_
  refine sm_putI (pc' := 5) (gk_X11_124 _ _ _ _ _) ti_11_0 dX11_trap_2 rfl ?_
  refine sm_iload_n (pc' := 6) dX11_trap_5 rfl rfl ?_
  refine sm_calli (pc' := 9) (sa := [iv a1]) (st := []) (iv_X11_153 a1) (Nat.le_of_ble_eq_true rfl) dX11_trap_6 rfl (Nat.le_of_ble_eq_true rfl) (fun v101 => ?_)
  refine sm_if_ne (pc' := 12) (pc1 := 15) dX11_trap_9 (by decide) rfl (fun _ => ?_) (fun _ => ?_)
  · skip
    refine sm_aload_n (pc' := 16) dX11_trap_15 rfl rfl ?_
    refine sm_iload_n (pc' := 17) dX11_trap_16 rfl rfl ?_
    refine sm_iconst (pc' := 18) (1 : Int32) dX11_trap_17 (by decide) rfl ?_
    refine sm_calli (pc' := 21) (sa := [iv (1 : Int32), iv a1, qv (some th)]) (st := []) (iv_X11_187 th a1 (1 : Int32)) (Nat.le_of_ble_eq_true rfl) dX11_trap_18 rfl (Nat.le_of_ble_eq_true rfl) (fun v102 => ?_)
    refine sm_istore_n (pc' := 22) [(3, iv v102), (0, qv (some th)), (1, iv a1), (2, iv a2)] dX11_trap_21 rfl (Nat.le_of_ble_eq_true rfl) rfl rfl ?_
    refine sm_iload_n (pc' := 23) dX11_trap_22 rfl rfl ?_
    refine sm_if_le (pc' := 26) (pc1 := 32) dX11_trap_23 (by decide) rfl (fun _ => ?_) (fun _ => ?_)
    · skip
      refine sm_aload_n (pc' := 33) dX11_trap_32 rfl rfl ?_
      refine sm_iconst (pc' := 34) (0 : Int32) dX11_trap_33 (by decide) rfl ?_
      refine sm_putI (pc' := 37) (gk_X11_128 _ _ _ _ _) ti_11_1 dX11_trap_34 rfl ?_
      refine sm_aload_n (pc' := 38) dX11_trap_37 rfl rfl ?_
      refine sm_iload_n (pc' := 39) dX11_trap_38 rfl rfl ?_
      refine sm_ldc (pc' := 41) (-1000000 : Int32) w_621 dX11_trap_39 rfl ?_
      refine sm_callv (pc' := 44) (sa := [iv (-1000000 : Int32), iv a1, qv (some th)]) (st := []) (iv_X11_209 th a1 (-1000000 : Int32)) (Nat.le_of_ble_eq_true rfl) dX11_trap_41 rfl (Nat.le_of_ble_eq_true rfl) (fun _ => ?_)
      refine sm_iconst (pc' := 45) (0 : Int32) dX11_trap_44 (by decide) rfl ?_
      refine sm_istore (pc' := 47) [(4, iv (0 : Int32)), (3, iv v102), (0, qv (some th)), (1, iv a1), (2, iv a2)] dX11_trap_45  (Nat.le_of_ble_eq_true rfl) rfl rfl ?_
      refine sm_iconst (pc' := 48) (0 : Int32) dX11_trap_47 (by decide) rfl ?_
      refine sm_istore (pc' := 50) [(5, iv (0 : Int32)), (4, iv (0 : Int32)), (3, iv v102), (0, qv (some th)), (1, iv a1), (2, iv a2)] dX11_trap_48  (Nat.le_of_ble_eq_true rfl) rfl rfl ?_
      refine sm_sub [3, 4, 5, 1, 0] rfl ?_
      refine sX11_trap_L50 th a1 a2 _ ?_ FL (0 : Int32) (0 : Int32)
      · skip
        refine sm_ldc (pc' := 214) (-1000000 : Int32) w_621 dX11_trap_212 rfl ?_
        exact sm_ireturn rfl dX11_trap_214
    · skip
      refine sm_aload_n (pc' := 27) dX11_trap_26 rfl rfl ?_
      refine sm_iload_n (pc' := 28) dX11_trap_27 rfl rfl ?_
      refine sm_calli (pc' := 31) (sa := [iv v102, qv (some th)]) (st := []) (iv_X11_145 th v102) (Nat.le_of_ble_eq_true rfl) dX11_trap_28 rfl (Nat.le_of_ble_eq_true rfl) (fun v141 => ?_)
      exact sm_ireturn rfl dX11_trap_31
  · skip
    refine sm_ldc (pc' := 14) (-1000001 : Int32) w_609 dX11_trap_12 rfl ?_
    exact sm_ireturn rfl dX11_trap_14
theorem kX11_trap (th : Nat) (a1 : Int32) (a2 : Int32) : Callee 3 yX11_trap cX11_trap 9 (some .int) [qv (some th), iv a1, iv a2] vI (pX11_trap th a1 a2) := callee_ofS [(0, qv (some th)), (1, iv a1), (2, iv a2)] (by decide +kernel) (Nat.le_of_ble_eq_true rfl) rfl (sX11_trap th a1 a2)
/-! HollowPressModel.vent(II)I -/
abbrev eX11_vent : Env0 := (RX11, "vent", cX11_vent, 4, (some .int), 2)
def pX11_vent (th : Nat) (a1 : Int32) (a2 : Int32) : Prg Int32 :=
    pI 11 th 0 (0 : Int32) (
    cl (pX11_isPlace a1) fun v101 =>
    (if v101 = 0 then rt (-1000001 : Int32)
    else cl (onT th 11 (pX11_asked th a1 (1 : Int32))) fun v102 =>
    (if v102 ≤ 0 then cl (onT th 11 (pX11_isCell th a1 a2)) fun v103 =>
    (if v103 = 0 then rt (-1000001 : Int32)
    else pI 11 th 1 (0 : Int32) (
    gF 11 th 11 fun v104 =>
    gF 11 th 11 fun v105 =>
    un v105 fun a106 =>
    ldZ a106 (((144 : Int32) * a1) + a2) fun v107 =>
    (lt (fun (v108 : Int32) => un v104 fun a110 =>
    stZ a110 (((144 : Int32) * a1) + a2) v108 (
    gF 11 th 11 fun v111 =>
    un v111 fun a112 =>
    ldZ a112 (((144 : Int32) * a1) + a2) fun v113 =>
    (lt (fun (v114 : Int32) => rt v114 : Int32 → Prg Int32) fun k115 =>
    (if v113 = 0 then k115 (0 : Int32)
    else k115 (1 : Int32)))) : Int32 → Prg Int32) fun k109 =>
    (if v107 = 0 then k109 (1 : Int32)
    else k109 (0 : Int32)))))
    else cl (onT th 11 (pX11_found th v102)) fun v116 =>
    rt v116)))
set_option maxRecDepth 20000 in
theorem sX11_vent (th : Nat) (a1 : Int32) (a2 : Int32) : Sim eX11_vent vI 0 [(0, qv (some th)), (1, iv a1), (2, iv a2)] [] (pX11_vent th a1 a2) := by
  unfold pX11_vent
  refine sm_aload_n (pc' := 1) dX11_vent_0 rfl rfl ?_
  refine sm_iconst (pc' := 2) (0 : Int32) dX11_vent_1 (by decide) rfl ?_
  refine sm_putI (pc' := 5) (gk_X11_124 _ _ _ _ _) ti_11_0 dX11_vent_2 rfl ?_
  refine sm_iload_n (pc' := 6) dX11_vent_5 rfl rfl ?_
  refine sm_calli (pc' := 9) (sa := [iv a1]) (st := []) (iv_X11_153 a1) (Nat.le_of_ble_eq_true rfl) dX11_vent_6 rfl (Nat.le_of_ble_eq_true rfl) (fun v101 => ?_)
  refine sm_if_ne (pc' := 12) (pc1 := 15) dX11_vent_9 (by decide) rfl (fun _ => ?_) (fun _ => ?_)
  · skip
    refine sm_aload_n (pc' := 16) dX11_vent_15 rfl rfl ?_
    refine sm_iload_n (pc' := 17) dX11_vent_16 rfl rfl ?_
    refine sm_iconst (pc' := 18) (1 : Int32) dX11_vent_17 (by decide) rfl ?_
    refine sm_calli (pc' := 21) (sa := [iv (1 : Int32), iv a1, qv (some th)]) (st := []) (iv_X11_187 th a1 (1 : Int32)) (Nat.le_of_ble_eq_true rfl) dX11_vent_18 rfl (Nat.le_of_ble_eq_true rfl) (fun v102 => ?_)
    refine sm_istore_n (pc' := 22) [(3, iv v102), (0, qv (some th)), (1, iv a1), (2, iv a2)] dX11_vent_21 rfl (Nat.le_of_ble_eq_true rfl) rfl rfl ?_
    refine sm_iload_n (pc' := 23) dX11_vent_22 rfl rfl ?_
    refine sm_if_le (pc' := 26) (pc1 := 32) dX11_vent_23 (by decide) rfl (fun _ => ?_) (fun _ => ?_)
    · skip
      refine sm_aload_n (pc' := 33) dX11_vent_32 rfl rfl ?_
      refine sm_iload_n (pc' := 34) dX11_vent_33 rfl rfl ?_
      refine sm_iload_n (pc' := 35) dX11_vent_34 rfl rfl ?_
      refine sm_calli (pc' := 38) (sa := [iv a2, iv a1, qv (some th)]) (st := []) (iv_X11_191 th a1 a2) (Nat.le_of_ble_eq_true rfl) dX11_vent_35 rfl (Nat.le_of_ble_eq_true rfl) (fun v103 => ?_)
      refine sm_if_ne (pc' := 41) (pc1 := 44) dX11_vent_38 (by decide) rfl (fun _ => ?_) (fun _ => ?_)
      · skip
        refine sm_aload_n (pc' := 45) dX11_vent_44 rfl rfl ?_
        refine sm_iconst (pc' := 46) (0 : Int32) dX11_vent_45 (by decide) rfl ?_
        refine sm_putI (pc' := 49) (gk_X11_128 _ _ _ _ _) ti_11_1 dX11_vent_46 rfl ?_
        refine sm_aload_n (pc' := 50) dX11_vent_49 rfl rfl ?_
        refine sm_getF (pc' := 53) fk_X11_38 yr_11_11 dX11_vent_50 rfl (fun v104 => ?_)
        refine sm_sipush (pc' := 56) (144 : Int32) dX11_vent_53 (by decide) rfl ?_
        refine sm_iload_n (pc' := 57) dX11_vent_56 rfl rfl ?_
        refine sm_imul (pc' := 58) dX11_vent_57 rfl ?_
        refine sm_iload_n (pc' := 59) dX11_vent_58 rfl rfl ?_
        refine sm_iadd (pc' := 60) dX11_vent_59 rfl ?_
        refine sm_aload_n (pc' := 61) dX11_vent_60 rfl rfl ?_
        refine sm_getF (pc' := 64) fk_X11_38 yr_11_11 dX11_vent_61 rfl (fun v105 => ?_)
        refine sm_sipush (pc' := 67) (144 : Int32) dX11_vent_64 (by decide) rfl ?_
        refine sm_iload_n (pc' := 68) dX11_vent_67 rfl rfl ?_
        refine sm_imul (pc' := 69) dX11_vent_68 rfl ?_
        refine sm_iload_n (pc' := 70) dX11_vent_69 rfl rfl ?_
        refine sm_iadd (pc' := 71) dX11_vent_70 rfl ?_
        rcases v105 with _ | a106
        · exact sm_unN
        refine sm_unS ?_
        refine sm_zaload (pc' := 72) dX11_vent_71 rfl (fun v107 => ?_)
        refine sm_lt (fun k109 => ∀ (v108 : Int32), Sim eX11_vent vI 80 [(0, qv (some th)), (1, iv a1), (2, iv a2)] [iv v108, iv (((144 : Int32) * a1) + a2), qv v104] (k109 v108)) ?_ (fun k109 hk109 => ?_)
        · intro v108
          rcases v104 with _ | a110
          · exact sm_unN
          refine sm_unS ?_
          refine sm_zastore (pc' := 81) dX11_vent_80 rfl ?_
          refine sm_aload_n (pc' := 82) dX11_vent_81 rfl rfl ?_
          refine sm_getF (pc' := 85) fk_X11_38 yr_11_11 dX11_vent_82 rfl (fun v111 => ?_)
          refine sm_sipush (pc' := 88) (144 : Int32) dX11_vent_85 (by decide) rfl ?_
          refine sm_iload_n (pc' := 89) dX11_vent_88 rfl rfl ?_
          refine sm_imul (pc' := 90) dX11_vent_89 rfl ?_
          refine sm_iload_n (pc' := 91) dX11_vent_90 rfl rfl ?_
          refine sm_iadd (pc' := 92) dX11_vent_91 rfl ?_
          rcases v111 with _ | a112
          · exact sm_unN
          refine sm_unS ?_
          refine sm_zaload (pc' := 93) dX11_vent_92 rfl (fun v113 => ?_)
          refine sm_lt (fun k115 => ∀ (v114 : Int32), Sim eX11_vent vI 101 [] [iv v114] (k115 v114)) ?_ (fun k115 hk115 => ?_)
          · intro v114
            exact sm_ireturn rfl dX11_vent_101
          · skip
            refine sm_if_eq (pc' := 96) (pc1 := 100) dX11_vent_93 (by decide) rfl (fun _ => ?_) (fun _ => ?_)
            · skip
              refine sm_iconst (pc' := 101) (0 : Int32) dX11_vent_100 (by decide) rfl ?_
              refine sm_sub [] rfl ?_
              exact hk115 (0 : Int32)
            · skip
              refine sm_iconst (pc' := 97) (1 : Int32) dX11_vent_96 (by decide) rfl ?_
              refine sm_goto (pc' := 101) dX11_vent_97 (by decide) ?_
              refine sm_sub [] rfl ?_
              exact hk115 (1 : Int32)
        · skip
          refine sm_if_ne (pc' := 75) (pc1 := 79) dX11_vent_72 (by decide) rfl (fun _ => ?_) (fun _ => ?_)
          · skip
            refine sm_iconst (pc' := 80) (0 : Int32) dX11_vent_79 (by decide) rfl ?_
            refine sm_sub [1, 2, 3] rfl ?_
            exact hk109 (0 : Int32)
          · skip
            refine sm_iconst (pc' := 76) (1 : Int32) dX11_vent_75 (by decide) rfl ?_
            refine sm_goto (pc' := 80) dX11_vent_76 (by decide) ?_
            refine sm_sub [1, 2, 3] rfl ?_
            exact hk109 (1 : Int32)
      · skip
        refine sm_ldc (pc' := 43) (-1000001 : Int32) w_609 dX11_vent_41 rfl ?_
        exact sm_ireturn rfl dX11_vent_43
    · skip
      refine sm_aload_n (pc' := 27) dX11_vent_26 rfl rfl ?_
      refine sm_iload_n (pc' := 28) dX11_vent_27 rfl rfl ?_
      refine sm_calli (pc' := 31) (sa := [iv v102, qv (some th)]) (st := []) (iv_X11_145 th v102) (Nat.le_of_ble_eq_true rfl) dX11_vent_28 rfl (Nat.le_of_ble_eq_true rfl) (fun v116 => ?_)
      exact sm_ireturn rfl dX11_vent_31
  · skip
    refine sm_ldc (pc' := 14) (-1000001 : Int32) w_609 dX11_vent_12 rfl ?_
    exact sm_ireturn rfl dX11_vent_14
theorem kX11_vent (th : Nat) (a1 : Int32) (a2 : Int32) : Callee 2 yX11_vent cX11_vent 4 (some .int) [qv (some th), iv a1, iv a2] vI (pX11_vent th a1 a2) := callee_ofS [(0, qv (some th)), (1, iv a1), (2, iv a2)] (by decide +kernel) (Nat.le_of_ble_eq_true rfl) rfl (sX11_vent th a1 a2)
/-! HollowPressModel.warmth(II)I -/
abbrev eX11_warmth : Env0 := (RX11, "warmth", cX11_warmth, 4, (some .int), 2)
def pX11_warmth (th : Nat) (a1 : Int32) (a2 : Int32) : Prg Int32 :=
    pI 11 th 0 (0 : Int32) (
    cl (pX11_isPlace a1) fun v101 =>
    (if v101 = 0 then rt (-1000001 : Int32)
    else cl (onT th 11 (pX11_asked th a1 (4 : Int32))) fun v102 =>
    (if v102 ≤ 0 then (lt (pI 11 th 1 (0 : Int32) (
    (lt (fun (v104 : Int32) => rt v104 : Int32 → Prg Int32) fun k105 =>
    (if a2 = (-1000000 : Int32) then gF 11 th 14 fun v109 =>
    un v109 fun a110 =>
    ldI a110 a1 fun v111 =>
    k105 v111
    else gF 11 th 12 fun v106 =>
    un v106 fun a107 =>
    ldI a107 (((20 : Int32) * a1) + a2) fun v108 =>
    k105 v108))) : Prg Int32) fun k103 =>
    (if a2 = (-1000000 : Int32) then k103
    else gF 11 th 6 fun v112 =>
    un v112 fun a113 =>
    ldI a113 a1 fun v114 =>
    cl (pX11_in (Int32.toInt64 a2) (0 : Int64) (Int32.toInt64 (v114 - (1 : Int32)))) fun v115 =>
    (if v115 = 0 then rt (-1000001 : Int32)
    else k103)))
    else cl (onT th 11 (pX11_found th v102)) fun v116 =>
    rt v116)))
set_option maxRecDepth 20000 in
theorem sX11_warmth (th : Nat) (a1 : Int32) (a2 : Int32) : Sim eX11_warmth vI 0 [(0, qv (some th)), (1, iv a1), (2, iv a2)] [] (pX11_warmth th a1 a2) := by
  unfold pX11_warmth
  refine sm_aload_n (pc' := 1) dX11_warmth_0 rfl rfl ?_
  refine sm_iconst (pc' := 2) (0 : Int32) dX11_warmth_1 (by decide) rfl ?_
  refine sm_putI (pc' := 5) (gk_X11_124 _ _ _ _ _) ti_11_0 dX11_warmth_2 rfl ?_
  refine sm_iload_n (pc' := 6) dX11_warmth_5 rfl rfl ?_
  refine sm_calli (pc' := 9) (sa := [iv a1]) (st := []) (iv_X11_153 a1) (Nat.le_of_ble_eq_true rfl) dX11_warmth_6 rfl (Nat.le_of_ble_eq_true rfl) (fun v101 => ?_)
  refine sm_if_ne (pc' := 12) (pc1 := 15) dX11_warmth_9 (by decide) rfl (fun _ => ?_) (fun _ => ?_)
  · skip
    refine sm_aload_n (pc' := 16) dX11_warmth_15 rfl rfl ?_
    refine sm_iload_n (pc' := 17) dX11_warmth_16 rfl rfl ?_
    refine sm_iconst (pc' := 18) (4 : Int32) dX11_warmth_17 (by decide) rfl ?_
    refine sm_calli (pc' := 21) (sa := [iv (4 : Int32), iv a1, qv (some th)]) (st := []) (iv_X11_187 th a1 (4 : Int32)) (Nat.le_of_ble_eq_true rfl) dX11_warmth_18 rfl (Nat.le_of_ble_eq_true rfl) (fun v102 => ?_)
    refine sm_istore_n (pc' := 22) [(3, iv v102), (0, qv (some th)), (1, iv a1), (2, iv a2)] dX11_warmth_21 rfl (Nat.le_of_ble_eq_true rfl) rfl rfl ?_
    refine sm_iload_n (pc' := 23) dX11_warmth_22 rfl rfl ?_
    refine sm_if_le (pc' := 26) (pc1 := 32) dX11_warmth_23 (by decide) rfl (fun _ => ?_) (fun _ => ?_)
    · skip
      refine sm_iload_n (pc' := 33) dX11_warmth_32 rfl rfl ?_
      refine sm_ldc (pc' := 35) (-1000000 : Int32) w_621 dX11_warmth_33 rfl ?_
      refine sm_lt (fun k103 => Sim eX11_warmth vI 59 [(0, qv (some th)), (1, iv a1), (2, iv a2)] [] (k103)) ?_ (fun k103 hk103 => ?_)
      · skip
        refine sm_aload_n (pc' := 60) dX11_warmth_59 rfl rfl ?_
        refine sm_iconst (pc' := 61) (0 : Int32) dX11_warmth_60 (by decide) rfl ?_
        refine sm_putI (pc' := 64) (gk_X11_128 _ _ _ _ _) ti_11_1 dX11_warmth_61 rfl ?_
        refine sm_iload_n (pc' := 65) dX11_warmth_64 rfl rfl ?_
        refine sm_ldc (pc' := 67) (-1000000 : Int32) w_621 dX11_warmth_65 rfl ?_
        refine sm_lt (fun k105 => ∀ (v104 : Int32), Sim eX11_warmth vI 90 [] [iv v104] (k105 v104)) ?_ (fun k105 hk105 => ?_)
        · intro v104
          exact sm_ireturn rfl dX11_warmth_90
        · skip
          refine sm_icmp_ne (pc' := 70) (pc1 := 79) dX11_warmth_67 (by decide) rfl (fun _ => ?_) (fun _ => ?_)
          · skip
            refine sm_aload_n (pc' := 80) dX11_warmth_79 rfl rfl ?_
            refine sm_getF (pc' := 83) fk_X11_42 yr_11_12 dX11_warmth_80 rfl (fun v106 => ?_)
            refine sm_bipush (pc' := 85) (20 : Int32) dX11_warmth_83 (by decide) rfl ?_
            refine sm_iload_n (pc' := 86) dX11_warmth_85 rfl rfl ?_
            refine sm_imul (pc' := 87) dX11_warmth_86 rfl ?_
            refine sm_iload_n (pc' := 88) dX11_warmth_87 rfl rfl ?_
            refine sm_iadd (pc' := 89) dX11_warmth_88 rfl ?_
            rcases v106 with _ | a107
            · exact sm_unN
            refine sm_unS ?_
            refine sm_iaload (pc' := 90) dX11_warmth_89 rfl (fun v108 => ?_)
            refine sm_sub [] rfl ?_
            exact hk105 v108
          · skip
            refine sm_aload_n (pc' := 71) dX11_warmth_70 rfl rfl ?_
            refine sm_getF (pc' := 74) fk_X11_48 yr_11_14 dX11_warmth_71 rfl (fun v109 => ?_)
            refine sm_iload_n (pc' := 75) dX11_warmth_74 rfl rfl ?_
            rcases v109 with _ | a110
            · exact sm_unN
            refine sm_unS ?_
            refine sm_iaload (pc' := 76) dX11_warmth_75 rfl (fun v111 => ?_)
            refine sm_goto (pc' := 90) dX11_warmth_76 (by decide) ?_
            refine sm_sub [] rfl ?_
            exact hk105 v111
      · skip
        refine sm_icmp_eq (pc' := 38) (pc1 := 59) dX11_warmth_35 (by decide) rfl (fun _ => ?_) (fun _ => ?_)
        · skip
          refine sm_sub [1, 2, 3] rfl ?_
          exact hk103
        · skip
          refine sm_iload_n (pc' := 39) dX11_warmth_38 rfl rfl ?_
          refine sm_i2l (pc' := 40) dX11_warmth_39 rfl ?_
          refine sm_lconst (pc' := 41) (0 : Int64) dX11_warmth_40 (by decide) rfl ?_
          refine sm_aload_n (pc' := 42) dX11_warmth_41 rfl rfl ?_
          refine sm_getF (pc' := 45) fk_X11_23 yr_11_6 dX11_warmth_42 rfl (fun v112 => ?_)
          refine sm_iload_n (pc' := 46) dX11_warmth_45 rfl rfl ?_
          rcases v112 with _ | a113
          · exact sm_unN
          refine sm_unS ?_
          refine sm_iaload (pc' := 47) dX11_warmth_46 rfl (fun v114 => ?_)
          refine sm_iconst (pc' := 48) (1 : Int32) dX11_warmth_47 (by decide) rfl ?_
          refine sm_isub (pc' := 49) dX11_warmth_48 rfl ?_
          refine sm_i2l (pc' := 50) dX11_warmth_49 rfl ?_
          refine sm_calli (pc' := 53) (sa := [jv (Int32.toInt64 (v114 - (1 : Int32))), jv (0 : Int64), jv (Int32.toInt64 a2)]) (st := []) (iv_X11_134 (Int32.toInt64 a2) (0 : Int64) (Int32.toInt64 (v114 - (1 : Int32)))) (Nat.le_of_ble_eq_true rfl) dX11_warmth_50 rfl (Nat.le_of_ble_eq_true rfl) (fun v115 => ?_)
          refine sm_if_ne (pc' := 56) (pc1 := 59) dX11_warmth_53 (by decide) rfl (fun _ => ?_) (fun _ => ?_)
          · skip
            refine sm_sub [1, 2, 3] rfl ?_
            exact hk103
          · skip
            refine sm_ldc (pc' := 58) (-1000001 : Int32) w_609 dX11_warmth_56 rfl ?_
            exact sm_ireturn rfl dX11_warmth_58
    · skip
      refine sm_aload_n (pc' := 27) dX11_warmth_26 rfl rfl ?_
      refine sm_iload_n (pc' := 28) dX11_warmth_27 rfl rfl ?_
      refine sm_calli (pc' := 31) (sa := [iv v102, qv (some th)]) (st := []) (iv_X11_145 th v102) (Nat.le_of_ble_eq_true rfl) dX11_warmth_28 rfl (Nat.le_of_ble_eq_true rfl) (fun v116 => ?_)
      exact sm_ireturn rfl dX11_warmth_31
  · skip
    refine sm_ldc (pc' := 14) (-1000001 : Int32) w_609 dX11_warmth_12 rfl ?_
    exact sm_ireturn rfl dX11_warmth_14
theorem kX11_warmth (th : Nat) (a1 : Int32) (a2 : Int32) : Callee 2 yX11_warmth cX11_warmth 4 (some .int) [qv (some th), iv a1, iv a2] vI (pX11_warmth th a1 a2) := callee_ofS [(0, qv (some th)), (1, iv a1), (2, iv a2)] (by decide +kernel) (Nat.le_of_ble_eq_true rfl) rfl (sX11_warmth th a1 a2)
