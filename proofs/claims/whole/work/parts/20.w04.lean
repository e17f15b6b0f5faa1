/-! HollowPress$Runners.tryFrom(IIII)V -/
abbrev eX6_tryFrom (dp : Nat) : Env0 := (RX6, "tryFrom", cX6_tryFrom, 12, none, dp)
def pX6_tryFrom_L50 (rec : Nat → Int32 → Int32 → Int32 → Int32 → Prg Unit) (th : Nat) (a1 : Int32) (a2 : Int32) (a3 : Int32) (a4 : Int32) (k110 : Prg Unit) : Nat → Int32 → Prg Unit
  | 0, _ => fl
  | n + 1, v109 =>
    gI 7 th 8 fun v111 =>
    (if v111 ≤ v109 then k110
    else gF 7 th 7 fun v112 =>
    un v112 fun a113 =>
    ldI a113 v109 fun v114 =>
    gF 7 th 6 fun v115 =>
    un v115 fun a116 =>
    stI a116 a1 v114 (
    gF 7 th 5 fun v117 =>
    cl (onT th 7 (pX6_dragUpTo th a1 v114)) fun v118 =>
    un v117 fun a119 =>
    stI a119 a1 v118 (
    gF 7 th 3 fun v120 =>
    un v120 fun a121 =>
    ldF a121 a1 fun v122 =>
    (lt (fun (v123 : Int32) => (lt (fun (v125 : Int32) => gF 7 th 1 fun v127 =>
    un v127 fun a128 =>
    ldI a128 a1 fun v129 =>
    cl (pX6_between v123 v125) fun v130 =>
    gI 7 th 9 fun v131 =>
    (lt (pX6_tryFrom_L50 rec th a1 a2 a3 a4 k110 n (v109 + (1 : Int32)) : Prg Unit) fun k132 =>
    (lt (cl (onT th 7 (rec th (a1 + (1 : Int32)) v123 v125 (a4 + ((v129 * v114) * v114)))) fun _ =>
    k132 : Prg Unit) fun k133 =>
    (if v130 < v131 then k133
    else gI 7 th 9 fun v134 =>
    (if v130 = v134 then gI 7 th 10 fun v135 =>
    (if v135 ≤ (a4 + ((v129 * v114) * v114)) then k132
    else k133)
    else k132)))) : Int32 → Prg Unit) fun k126 =>
    (nu v122 (k126 a3) fun a136 =>
    gF 7 th 5 fun v137 =>
    un v137 fun a138 =>
    ldI a138 a1 fun v139 =>
    gI 4 a136 6 fun v140 =>
    k126 (mx a3 (v139 + v140)))) : Int32 → Prg Unit) fun k124 =>
    (nu v122 (k124 a2) fun a141 =>
    gF 7 th 5 fun v142 =>
    un v142 fun a143 =>
    ldI a143 a1 fun v144 =>
    gI 4 a141 6 fun v145 =>
    k124 (mn a2 (v144 + v145)))))))
def pX6_tryFrom_B (rec : Nat → Int32 → Int32 → Int32 → Int32 → Prg Unit) (th : Nat) (a1 : Int32) (a2 : Int32) (a3 : Int32) (a4 : Int32) : Prg Unit :=
    gI 7 th 4 fun v101 =>
    (lt (cl (pX6_between a2 a3) fun v103 =>
    pI 7 th 9 v103 (
    pI 7 th 10 a4 (
    gF 7 th 6 fun v104 =>
    gF 7 th 2 fun v105 =>
    gI 7 th 4 fun v106 =>
    un v105 fun a107 =>
    un v104 fun a108 =>
    cpI a108 (0 : Int32) a107 (0 : Int32) v106 (
    rt ()))) : Prg Unit) fun k102 =>
    (if v101 ≤ a1 then k102
    else (if a1 < (8 : Int32) then pX6_tryFrom_L50 rec th a1 a2 a3 a4 (rt ()) FL (0 : Int32)
    else k102)))
set_option maxRecDepth 20000 in
theorem sX6_tryFrom_L50 (dp : Nat) (hdp : 5 ≤ dp) (rec : Nat → Int32 → Int32 → Int32 → Int32 → Prg Unit) (hrec : ∀ (a : Nat) (x0 x1 x2 x3 : Int32), Inv RX6 dp (.invokevirtual 74) [iv x3, iv x2, iv x1, iv x0, qv (some a)] vU (onT a 7 (rec a x0 x1 x2 x3))) (th : Nat) (a1 : Int32) (a2 : Int32) (a3 : Int32) (a4 : Int32) (k110 : Prg Unit) (hk110 : Sim (eX6_tryFrom dp) vU 223 [] [] (k110)) : ∀ (n : Nat), ∀ (v109 : Int32), Sim (eX6_tryFrom dp) vU 50 [(0, qv (some th)), (1, iv a1), (2, iv a2), (3, iv a3), (4, iv a4), (5, iv v109)] [] (pX6_tryFrom_L50 rec th a1 a2 a3 a4 k110 n v109) := by
  intro n
  induction n with
  | zero =>
    intros
    exact sm_fl
  | succ n ih =>
    intro v109
    unfold pX6_tryFrom_L50
    refine sm_iload (pc' := 52) dX6_tryFrom_50 rfl rfl ?_
    refine sm_aload_n (pc' := 53) dX6_tryFrom_52 rfl rfl ?_
    refine sm_getI (pc' := 56) fk_X6_40 nr_7_8 dX6_tryFrom_53 rfl (fun v111 => ?_)
    refine sm_icmp_ge (pc' := 59) (pc1 := 223) dX6_tryFrom_56 (by decide) rfl (fun _ => ?_) (fun _ => ?_)
    · skip
      refine sm_sub [] rfl ?_
      exact hk110
    · skip
      refine sm_aload_n (pc' := 60) dX6_tryFrom_59 rfl rfl ?_
      refine sm_getF (pc' := 63) fk_X6_37 yr_7_7 dX6_tryFrom_60 rfl (fun v112 => ?_)
      refine sm_iload (pc' := 65) dX6_tryFrom_63 rfl rfl ?_
      rcases v112 with _ | a113
      · exact sm_unN
      refine sm_unS ?_
      refine sm_iaload (pc' := 66) dX6_tryFrom_65 rfl (fun v114 => ?_)
      refine sm_istore (pc' := 68) [(6, iv v114), (0, qv (some th)), (1, iv a1), (2, iv a2), (3, iv a3), (4, iv a4), (5, iv v109)] dX6_tryFrom_66  (Nat.le_of_ble_eq_true rfl) rfl rfl ?_
      refine sm_aload_n (pc' := 69) dX6_tryFrom_68 rfl rfl ?_
      refine sm_getF (pc' := 72) fk_X6_34 yr_7_6 dX6_tryFrom_69 rfl (fun v115 => ?_)
      refine sm_iload_n (pc' := 73) dX6_tryFrom_72 rfl rfl ?_
      refine sm_iload (pc' := 75) dX6_tryFrom_73 rfl rfl ?_
      rcases v115 with _ | a116
      · exact sm_unN
      refine sm_unS ?_
      refine sm_iastore (pc' := 76) dX6_tryFrom_75 rfl ?_
      refine sm_aload_n (pc' := 77) dX6_tryFrom_76 rfl rfl ?_
      refine sm_getF (pc' := 80) fk_X6_31 yr_7_5 dX6_tryFrom_77 rfl (fun v117 => ?_)
      refine sm_iload_n (pc' := 81) dX6_tryFrom_80 rfl rfl ?_
      refine sm_aload_n (pc' := 82) dX6_tryFrom_81 rfl rfl ?_
      refine sm_iload_n (pc' := 83) dX6_tryFrom_82 rfl rfl ?_
      refine sm_iload (pc' := 85) dX6_tryFrom_83 rfl rfl ?_
      refine sm_calli (pc' := 88) (sa := [iv v114, iv a1, qv (some th)]) (st := [iv a1, qv v117]) (iv_X6_84 th a1 v114) (show (2 : Nat) ≤ dp by omega) dX6_tryFrom_85 rfl (Nat.le_of_ble_eq_true rfl) (fun v118 => ?_)
      rcases v117 with _ | a119
      · exact sm_unN
      refine sm_unS ?_
      refine sm_iastore (pc' := 89) dX6_tryFrom_88 rfl ?_
      refine sm_aload_n (pc' := 90) dX6_tryFrom_89 rfl rfl ?_
      refine sm_getF (pc' := 93) fk_X6_23 yr_7_3 dX6_tryFrom_90 rfl (fun v120 => ?_)
      refine sm_iload_n (pc' := 94) dX6_tryFrom_93 rfl rfl ?_
      rcases v120 with _ | a121
      · exact sm_unN
      refine sm_unS ?_
      refine sm_aaload (pc' := 95) dX6_tryFrom_94 rfl (fun v122 => ?_)
      refine sm_astore (pc' := 97) [(7, qv v122), (6, iv v114), (0, qv (some th)), (1, iv a1), (2, iv a2), (3, iv a3), (4, iv a4), (5, iv v109)] dX6_tryFrom_95  (Nat.le_of_ble_eq_true rfl) rfl rfl ?_
      refine sm_aload (pc' := 99) dX6_tryFrom_97 rfl rfl ?_
      refine sm_lt (fun k124 => ∀ (v123 : Int32), Sim (eX6_tryFrom dp) vU 122 [(0, qv (some th)), (1, iv a1), (2, iv a2), (3, iv a3), (4, iv a4), (5, iv v109), (6, iv v114), (7, qv v122)] [iv v123] (k124 v123)) ?_ (fun k124 hk124 => ?_)
      · intro v123
        refine sm_istore (pc' := 124) [(8, iv v123), (0, qv (some th)), (1, iv a1), (2, iv a2), (3, iv a3), (4, iv a4), (5, iv v109), (6, iv v114), (7, qv v122)] dX6_tryFrom_122  (Nat.le_of_ble_eq_true rfl) rfl rfl ?_
        refine sm_aload (pc' := 126) dX6_tryFrom_124 rfl rfl ?_
        refine sm_lt (fun k126 => ∀ (v125 : Int32), Sim (eX6_tryFrom dp) vU 149 [(0, qv (some th)), (1, iv a1), (2, iv a2), (3, iv a3), (4, iv a4), (5, iv v109), (6, iv v114), (8, iv v123)] [iv v125] (k126 v125)) ?_ (fun k126 hk126 => ?_)
        · intro v125
          refine sm_istore (pc' := 151) [(9, iv v125), (0, qv (some th)), (1, iv a1), (2, iv a2), (3, iv a3), (4, iv a4), (5, iv v109), (6, iv v114), (8, iv v123)] dX6_tryFrom_149  (Nat.le_of_ble_eq_true rfl) rfl rfl ?_
          refine sm_iload (pc' := 153) dX6_tryFrom_151 rfl rfl ?_
          refine sm_aload_n (pc' := 154) dX6_tryFrom_153 rfl rfl ?_
          refine sm_getF (pc' := 157) fk_X6_15 yr_7_1 dX6_tryFrom_154 rfl (fun v127 => ?_)
          refine sm_iload_n (pc' := 158) dX6_tryFrom_157 rfl rfl ?_
          rcases v127 with _ | a128
          · exact sm_unN
          refine sm_unS ?_
          refine sm_iaload (pc' := 159) dX6_tryFrom_158 rfl (fun v129 => ?_)
          refine sm_iload (pc' := 161) dX6_tryFrom_159 rfl rfl ?_
          refine sm_imul (pc' := 162) dX6_tryFrom_161 rfl ?_
          refine sm_iload (pc' := 164) dX6_tryFrom_162 rfl rfl ?_
          refine sm_imul (pc' := 165) dX6_tryFrom_164 rfl ?_
          refine sm_iadd (pc' := 166) dX6_tryFrom_165 rfl ?_
          refine sm_istore (pc' := 168) [(10, iv (a4 + ((v129 * v114) * v114))), (9, iv v125), (0, qv (some th)), (1, iv a1), (2, iv a2), (3, iv a3), (4, iv a4), (5, iv v109), (6, iv v114), (8, iv v123)] dX6_tryFrom_166  (Nat.le_of_ble_eq_true rfl) rfl rfl ?_
          refine sm_iload (pc' := 170) dX6_tryFrom_168 rfl rfl ?_
          refine sm_iload (pc' := 172) dX6_tryFrom_170 rfl rfl ?_
          refine sm_calli (pc' := 175) (sa := [iv v125, iv v123]) (st := []) (iv_X6_71 v123 v125) (show (1 : Nat) ≤ dp by omega) dX6_tryFrom_172 rfl (Nat.le_of_ble_eq_true rfl) (fun v130 => ?_)
          refine sm_istore (pc' := 177) [(11, iv v130), (10, iv (a4 + ((v129 * v114) * v114))), (9, iv v125), (0, qv (some th)), (1, iv a1), (2, iv a2), (3, iv a3), (4, iv a4), (5, iv v109), (6, iv v114), (8, iv v123)] dX6_tryFrom_175  (Nat.le_of_ble_eq_true rfl) rfl rfl ?_
          refine sm_iload (pc' := 179) dX6_tryFrom_177 rfl rfl ?_
          refine sm_aload_n (pc' := 180) dX6_tryFrom_179 rfl rfl ?_
          refine sm_getI (pc' := 183) fk_X6_43 nr_7_9 dX6_tryFrom_180 rfl (fun v131 => ?_)
          refine sm_lt (fun k132 => Sim (eX6_tryFrom dp) vU 217 [(0, qv (some th)), (1, iv a1), (2, iv a2), (3, iv a3), (4, iv a4), (5, iv v109)] [] (k132)) ?_ (fun k132 hk132 => ?_)
          · skip
            refine sm_iinc (pc' := 220) (v109 + (1 : Int32)) [(5, iv (v109 + (1 : Int32))), (0, qv (some th)), (1, iv a1), (2, iv a2), (3, iv a3), (4, iv a4)] dX6_tryFrom_217 rfl rfl (Nat.le_of_ble_eq_true rfl) rfl rfl ?_
            refine sm_goto (pc' := 50) dX6_tryFrom_220 (by decide) ?_
            refine sm_sub [1, 2, 3, 4, 5, 0] rfl ?_
            exact ih (v109 + (1 : Int32))
          · skip
            refine sm_lt (fun k133 => Sim (eX6_tryFrom dp) vU 204 [(0, qv (some th)), (1, iv a1), (2, iv a2), (3, iv a3), (4, iv a4), (5, iv v109), (8, iv v123), (9, iv v125), (10, iv (a4 + ((v129 * v114) * v114)))] [] (k133)) ?_ (fun k133 hk133 => ?_)
            · skip
              refine sm_aload_n (pc' := 205) dX6_tryFrom_204 rfl rfl ?_
              refine sm_iload_n (pc' := 206) dX6_tryFrom_205 rfl rfl ?_
              refine sm_iconst (pc' := 207) (1 : Int32) dX6_tryFrom_206 (by decide) rfl ?_
              refine sm_iadd (pc' := 208) dX6_tryFrom_207 rfl ?_
              refine sm_iload (pc' := 210) dX6_tryFrom_208 rfl rfl ?_
              refine sm_iload (pc' := 212) dX6_tryFrom_210 rfl rfl ?_
              refine sm_iload (pc' := 214) dX6_tryFrom_212 rfl rfl ?_
              refine sm_callv (pc' := 217) (sa := [iv (a4 + ((v129 * v114) * v114)), iv v125, iv v123, iv (a1 + (1 : Int32)), qv (some th)]) (st := []) (hrec th (a1 + (1 : Int32)) v123 v125 (a4 + ((v129 * v114) * v114))) (Nat.le_refl _) dX6_tryFrom_214 rfl (Nat.le_of_ble_eq_true rfl) (fun _ => ?_)
              refine sm_sub [0, 1, 2, 3, 4, 5] rfl ?_
              exact hk132
            · skip
              refine sm_icmp_lt (pc' := 186) (pc1 := 204) dX6_tryFrom_183 (by decide) rfl (fun _ => ?_) (fun _ => ?_)
              · skip
                refine sm_sub [3, 4, 5, 6, 7, 8, 10, 2, 1] rfl ?_
                exact hk133
              · skip
                refine sm_iload (pc' := 188) dX6_tryFrom_186 rfl rfl ?_
                refine sm_aload_n (pc' := 189) dX6_tryFrom_188 rfl rfl ?_
                refine sm_getI (pc' := 192) fk_X6_43 nr_7_9 dX6_tryFrom_189 rfl (fun v134 => ?_)
                refine sm_icmp_ne (pc' := 195) (pc1 := 217) dX6_tryFrom_192 (by decide) rfl (fun _ => ?_) (fun _ => ?_)
                · skip
                  refine sm_sub [3, 4, 5, 6, 7, 8] rfl ?_
                  exact hk132
                · skip
                  refine sm_iload (pc' := 197) dX6_tryFrom_195 rfl rfl ?_
                  refine sm_aload_n (pc' := 198) dX6_tryFrom_197 rfl rfl ?_
                  refine sm_getI (pc' := 201) fk_X6_46 nr_7_10 dX6_tryFrom_198 rfl (fun v135 => ?_)
                  refine sm_icmp_ge (pc' := 204) (pc1 := 217) dX6_tryFrom_201 (by decide) rfl (fun _ => ?_) (fun _ => ?_)
                  · skip
                    refine sm_sub [3, 4, 5, 6, 7, 8] rfl ?_
                    exact hk132
                  · skip
                    refine sm_sub [3, 4, 5, 6, 7, 8, 10, 2, 1] rfl ?_
                    exact hk133
        · skip
          rcases v122 with _ | a136
          · refine sm_nuN ?_
            refine sm_ifnonnullN (pc' := 129) dX6_tryFrom_126 rfl ?_
            refine sm_iload_n (pc' := 130) dX6_tryFrom_129 rfl rfl ?_
            refine sm_goto (pc' := 149) dX6_tryFrom_130 (by decide) ?_
            refine sm_sub [1, 2, 3, 4, 5, 6, 7, 0] rfl ?_
            exact hk126 a3
          · refine sm_nuS ?_
            refine sm_ifnonnullS (pc' := 133) dX6_tryFrom_126 (by decide) ?_
            refine sm_iload_n (pc' := 134) dX6_tryFrom_133 rfl rfl ?_
            refine sm_aload_n (pc' := 135) dX6_tryFrom_134 rfl rfl ?_
            refine sm_getF (pc' := 138) fk_X6_31 yr_7_5 dX6_tryFrom_135 rfl (fun v137 => ?_)
            refine sm_iload_n (pc' := 139) dX6_tryFrom_138 rfl rfl ?_
            rcases v137 with _ | a138
            · exact sm_unN
            refine sm_unS ?_
            refine sm_iaload (pc' := 140) dX6_tryFrom_139 rfl (fun v139 => ?_)
            refine sm_aload (pc' := 142) dX6_tryFrom_140 rfl rfl ?_
            refine sm_getI (pc' := 145) fk_X6_58 nr_4_6 dX6_tryFrom_142 rfl (fun v140 => ?_)
            refine sm_iadd (pc' := 146) dX6_tryFrom_145 rfl ?_
            refine sm_mmax (pc' := 149) w_235 w_76 w_77 w_78 dX6_tryFrom_146 (show (1 : Nat) ≤ dp by omega) (Nat.le_of_ble_eq_true rfl) rfl ?_
            refine sm_sub [1, 2, 3, 4, 5, 6, 7, 0] rfl ?_
            exact hk126 (mx a3 (v139 + v140))
      · skip
        rcases v122 with _ | a141
        · refine sm_nuN ?_
          refine sm_ifnonnullN (pc' := 102) dX6_tryFrom_99 rfl ?_
          refine sm_iload_n (pc' := 103) dX6_tryFrom_102 rfl rfl ?_
          refine sm_goto (pc' := 122) dX6_tryFrom_103 (by decide) ?_
          refine sm_sub [2, 3, 4, 5, 6, 7, 1, 0] rfl ?_
          exact hk124 a2
        · refine sm_nuS ?_
          refine sm_ifnonnullS (pc' := 106) dX6_tryFrom_99 (by decide) ?_
          refine sm_iload_n (pc' := 107) dX6_tryFrom_106 rfl rfl ?_
          refine sm_aload_n (pc' := 108) dX6_tryFrom_107 rfl rfl ?_
          refine sm_getF (pc' := 111) fk_X6_31 yr_7_5 dX6_tryFrom_108 rfl (fun v142 => ?_)
          refine sm_iload_n (pc' := 112) dX6_tryFrom_111 rfl rfl ?_
          rcases v142 with _ | a143
          · exact sm_unN
          refine sm_unS ?_
          refine sm_iaload (pc' := 113) dX6_tryFrom_112 rfl (fun v144 => ?_)
          refine sm_aload (pc' := 115) dX6_tryFrom_113 rfl rfl ?_
          refine sm_getI (pc' := 118) fk_X6_58 nr_4_6 dX6_tryFrom_115 rfl (fun v145 => ?_)
          refine sm_iadd (pc' := 119) dX6_tryFrom_118 rfl ?_
          refine sm_mmin (pc' := 122) w_234 w_95 w_77 w_96 dX6_tryFrom_119 (show (1 : Nat) ≤ dp by omega) (Nat.le_of_ble_eq_true rfl) rfl ?_
          refine sm_sub [2, 3, 4, 5, 6, 7, 1, 0] rfl ?_
          exact hk124 (mn a2 (v144 + v145))
set_option maxRecDepth 20000 in
theorem sX6_tryFrom (dp : Nat) (hdp : 5 ≤ dp) (rec : Nat → Int32 → Int32 → Int32 → Int32 → Prg Unit) (hrec : ∀ (a : Nat) (x0 x1 x2 x3 : Int32), Inv RX6 dp (.invokevirtual 74) [iv x3, iv x2, iv x1, iv x0, qv (some a)] vU (onT a 7 (rec a x0 x1 x2 x3))) (th : Nat) (a1 : Int32) (a2 : Int32) (a3 : Int32) (a4 : Int32) : Sim (eX6_tryFrom dp) vU 0 [(0, qv (some th)), (1, iv a1), (2, iv a2), (3, iv a3), (4, iv a4)] [] (pX6_tryFrom_B rec th a1 a2 a3 a4) := by
  unfold pX6_tryFrom_B
  refine sm_iload_n (pc' := 1) dX6_tryFrom_0 rfl rfl ?_
  refine sm_aload_n (pc' := 2) dX6_tryFrom_1 rfl rfl ?_
  refine sm_getI (pc' := 5) fk_X6_27 nr_7_4 dX6_tryFrom_2 rfl (fun v101 => ?_)
  refine sm_lt (fun k102 => Sim (eX6_tryFrom dp) vU 14 [(0, qv (some th)), (2, iv a2), (3, iv a3), (4, iv a4)] [] (k102)) ?_ (fun k102 hk102 => ?_)
  · skip
    refine sm_aload_n (pc' := 15) dX6_tryFrom_14 rfl rfl ?_
    refine sm_iload_n (pc' := 16) dX6_tryFrom_15 rfl rfl ?_
    refine sm_iload_n (pc' := 17) dX6_tryFrom_16 rfl rfl ?_
    refine sm_calli (pc' := 20) (sa := [iv a3, iv a2]) (st := [qv (some th)]) (iv_X6_71 a2 a3) (show (1 : Nat) ≤ dp by omega) dX6_tryFrom_17 rfl (Nat.le_of_ble_eq_true rfl) (fun v103 => ?_)
    refine sm_putI (pc' := 23) (gk_X6_43 _ _ _ _ _) ti_7_9 dX6_tryFrom_20 rfl ?_
    refine sm_aload_n (pc' := 24) dX6_tryFrom_23 rfl rfl ?_
    refine sm_iload (pc' := 26) dX6_tryFrom_24 rfl rfl ?_
    refine sm_putI (pc' := 29) (gk_X6_46 _ _ _ _ _) ti_7_10 dX6_tryFrom_26 rfl ?_
    refine sm_aload_n (pc' := 30) dX6_tryFrom_29 rfl rfl ?_
    refine sm_getF (pc' := 33) fk_X6_34 yr_7_6 dX6_tryFrom_30 rfl (fun v104 => ?_)
    refine sm_iconst (pc' := 34) (0 : Int32) dX6_tryFrom_33 (by decide) rfl ?_
    refine sm_aload_n (pc' := 35) dX6_tryFrom_34 rfl rfl ?_
    refine sm_getF (pc' := 38) fk_X6_18 yr_7_2 dX6_tryFrom_35 rfl (fun v105 => ?_)
    refine sm_iconst (pc' := 39) (0 : Int32) dX6_tryFrom_38 (by decide) rfl ?_
    refine sm_aload_n (pc' := 40) dX6_tryFrom_39 rfl rfl ?_
    refine sm_getI (pc' := 43) fk_X6_27 nr_7_4 dX6_tryFrom_40 rfl (fun v106 => ?_)
    rcases v105 with _ | a107
    · exact sm_unN
    refine sm_unS ?_
    rcases v104 with _ | a108
    · exact sm_unN
    refine sm_unS ?_
    refine sm_cpI (pc' := 46) w_242 w_243 w_244 w_245 dX6_tryFrom_43 (show (1 : Nat) ≤ dp by omega) (Nat.le_of_ble_eq_true rfl) rfl ?_
    exact sm_return rfl dX6_tryFrom_46
  · skip
    refine sm_icmp_ge (pc' := 8) (pc1 := 14) dX6_tryFrom_5 (by decide) rfl (fun _ => ?_) (fun _ => ?_)
    · skip
      refine sm_sub [0, 2, 3, 4] rfl ?_
      exact hk102
    · skip
      refine sm_iload_n (pc' := 9) dX6_tryFrom_8 rfl rfl ?_
      refine sm_bipush (pc' := 11) (8 : Int32) dX6_tryFrom_9 (by decide) rfl ?_
      refine sm_icmp_lt (pc' := 14) (pc1 := 47) dX6_tryFrom_11 (by decide) rfl (fun _ => ?_) (fun _ => ?_)
      · skip
        refine sm_iconst (pc' := 48) (0 : Int32) dX6_tryFrom_47 (by decide) rfl ?_
        refine sm_istore (pc' := 50) [(5, iv (0 : Int32)), (0, qv (some th)), (1, iv a1), (2, iv a2), (3, iv a3), (4, iv a4)] dX6_tryFrom_48  (Nat.le_of_ble_eq_true rfl) rfl rfl ?_
        refine sm_sub [1, 2, 3, 4, 5, 0] rfl ?_
        refine sX6_tryFrom_L50 dp hdp rec hrec th a1 a2 a3 a4 _ ?_ FL (0 : Int32)
        · skip
          exact sm_return rfl dX6_tryFrom_223
      · skip
        refine sm_sub [0, 2, 3, 4] rfl ?_
        exact hk102
def pX6_tryFrom : Nat → Nat → Int32 → Int32 → Int32 → Int32 → Prg Unit
  | 0 => fun _ _ _ _ _ => fl
  | f + 1 => fun th a1 a2 a3 a4 => pX6_tryFrom_B (pX6_tryFrom f) th a1 a2 a3 a4
theorem kX6_tryFrom : ∀ (f : Nat) (th : Nat) (a1 : Int32) (a2 : Int32) (a3 : Int32) (a4 : Int32), Callee (5 + f) yX6_tryFrom cX6_tryFrom 12 none [qv (some th), iv a1, iv a2, iv a3, iv a4] vU (pX6_tryFrom f th a1 a2 a3 a4)
  | 0, th, a1, a2, a3, a4 => callee_ofS [(0, qv (some th)), (1, iv a1), (2, iv a2), (3, iv a3), (4, iv a4)] (by decide +kernel) (Nat.le_of_ble_eq_true rfl) rfl sm_fl
  | f + 1, th, a1, a2, a3, a4 => callee_ofS [(0, qv (some th)), (1, iv a1), (2, iv a2), (3, iv a3), (4, iv a4)] (by decide +kernel) (Nat.le_of_ble_eq_true rfl) rfl (sX6_tryFrom (5 + f + 1) (by omega) (pX6_tryFrom f) (fun a x0 x1 x2 x3 => inv_V (As := [iv x0, iv x1, iv x2, iv x3]) (t := 7) (kX6_tryFrom f a x0 x1 x2 x3) _ (by decide) rfl rfl w_248 w_249 w_250 w_225 w_251 ⟨by decide +kernel, by decide +kernel, by show _ = some 4; decide +kernel⟩ (by decide)) th a1 a2 a3 a4)
/-! HollowPress$Runners.takeBestSizes(I)V -/
set_option maxRecDepth 20000 in
theorem iv_X6_74 (a : Nat) (x0 : Int32) (x1 : Int32) (x2 : Int32) (x3 : Int32) : Inv RX6 18 (.invokevirtual 74) [iv x3, iv x2, iv x1, iv x0, qv (some a)] vU (onT a 7 (pX6_tryFrom 12 a x0 x1 x2 x3)) := inv_V (As := [iv x0, iv x1, iv x2, iv x3]) (t := 7) (kX6_tryFrom 12 a x0 x1 x2 x3) _ (by decide) rfl rfl w_248 w_249 w_250 w_225 w_251 ⟨by decide +kernel, by decide +kernel, by show _ = some 4; decide +kernel⟩ (by decide)
abbrev eX6_takeBestSizes : Env0 := (RX6, "takeBestSizes", cX6_takeBestSizes, 3, none, 18)
def pX6_takeBestSizes_L7 (th : Nat) (a1 : Int32) (k102 : Prg Unit) : Nat → Int32 → Prg Unit
  | 0, _ => fl
  | n + 1, v101 =>
    (if (9 : Int32) < v101 then k102
    else (lt (pX6_takeBestSizes_L7 th a1 k102 n (v101 + (1 : Int32)) : Prg Unit) fun k103 =>
    (if ((a1 >>> (v101 &&& 31)) &&& (1 : Int32)) = (1 : Int32) then gI 7 th 8 fun v104 =>
    (if (3 : Int32) ≤ v104 then k103
    else gF 7 th 7 fun v105 =>
    gI 7 th 8 fun v106 =>
    un v105 fun a107 =>
    stI a107 v106 v101 (
    gI 7 th 8 fun v108 =>
    pI 7 th 8 (v108 + (1 : Int32)) (
    k103)))
    else k103)))
def pX6_takeBestSizes (th : Nat) (a1 : Int32) : Prg Unit :=
    pI 7 th 8 (0 : Int32) (
    pX6_takeBestSizes_L7 th a1 (pI 7 th 9 (2147483647 : Int32) (
    pI 7 th 10 (2147483647 : Int32) (
    cl (onT th 7 (pX6_tryFrom 12 th (0 : Int32) (2147483647 : Int32) (0 : Int32) (0 : Int32))) fun _ =>
    rt ()))) FL (1 : Int32))
set_option maxRecDepth 20000 in
theorem sX6_takeBestSizes_L7 (th : Nat) (a1 : Int32) (k102 : Prg Unit) (hk102 : Sim eX6_takeBestSizes vU 56 [(0, qv (some th))] [] (k102)) : ∀ (n : Nat), ∀ (v101 : Int32), Sim eX6_takeBestSizes vU 7 [(0, qv (some th)), (1, iv a1), (2, iv v101)] [] (pX6_takeBestSizes_L7 th a1 k102 n v101) := by
  intro n
  induction n with
  | zero =>
    intros
    exact sm_fl
  | succ n ih =>
    intro v101
    unfold pX6_takeBestSizes_L7
    refine sm_iload_n (pc' := 8) dX6_takeBestSizes_7 rfl rfl ?_
    refine sm_bipush (pc' := 10) (9 : Int32) dX6_takeBestSizes_8 (by decide) rfl ?_
    refine sm_icmp_gt (pc' := 13) (pc1 := 56) dX6_takeBestSizes_10 (by decide) rfl (fun _ => ?_) (fun _ => ?_)
    · skip
      refine sm_sub [0] rfl ?_
      exact hk102
    · skip
      refine sm_iload_n (pc' := 14) dX6_takeBestSizes_13 rfl rfl ?_
      refine sm_iload_n (pc' := 15) dX6_takeBestSizes_14 rfl rfl ?_
      refine sm_ishr (pc' := 16) dX6_takeBestSizes_15 rfl ?_
      refine sm_iconst (pc' := 17) (1 : Int32) dX6_takeBestSizes_16 (by decide) rfl ?_
      refine sm_iand (pc' := 18) dX6_takeBestSizes_17 rfl ?_
      refine sm_iconst (pc' := 19) (1 : Int32) dX6_takeBestSizes_18 (by decide) rfl ?_
      refine sm_lt (fun k103 => Sim eX6_takeBestSizes vU 50 [(0, qv (some th)), (1, iv a1), (2, iv v101)] [] (k103)) ?_ (fun k103 hk103 => ?_)
      · skip
        refine sm_iinc (pc' := 53) (v101 + (1 : Int32)) [(2, iv (v101 + (1 : Int32))), (0, qv (some th)), (1, iv a1)] dX6_takeBestSizes_50 rfl rfl (Nat.le_of_ble_eq_true rfl) rfl rfl ?_
        refine sm_goto (pc' := 7) dX6_takeBestSizes_53 (by decide) ?_
        refine sm_sub [1, 2, 0] rfl ?_
        exact ih (v101 + (1 : Int32))
      · skip
        refine sm_icmp_ne (pc' := 22) (pc1 := 50) dX6_takeBestSizes_19 (by decide) rfl (fun _ => ?_) (fun _ => ?_)
        · skip
          exact hk103
        · skip
          refine sm_aload_n (pc' := 23) dX6_takeBestSizes_22 rfl rfl ?_
          refine sm_getI (pc' := 26) fk_X6_40 nr_7_8 dX6_takeBestSizes_23 rfl (fun v104 => ?_)
          refine sm_iconst (pc' := 27) (3 : Int32) dX6_takeBestSizes_26 (by decide) rfl ?_
          refine sm_icmp_ge (pc' := 30) (pc1 := 50) dX6_takeBestSizes_27 (by decide) rfl (fun _ => ?_) (fun _ => ?_)
          · skip
            exact hk103
          · skip
            refine sm_aload_n (pc' := 31) dX6_takeBestSizes_30 rfl rfl ?_
            refine sm_getF (pc' := 34) fk_X6_37 yr_7_7 dX6_takeBestSizes_31 rfl (fun v105 => ?_)
            refine sm_aload_n (pc' := 35) dX6_takeBestSizes_34 rfl rfl ?_
            refine sm_getI (pc' := 38) fk_X6_40 nr_7_8 dX6_takeBestSizes_35 rfl (fun v106 => ?_)
            refine sm_iload_n (pc' := 39) dX6_takeBestSizes_38 rfl rfl ?_
            rcases v105 with _ | a107
            · exact sm_unN
            refine sm_unS ?_
            refine sm_iastore (pc' := 40) dX6_takeBestSizes_39 rfl ?_
            refine sm_aload_n (pc' := 41) dX6_takeBestSizes_40 rfl rfl ?_
            refine sm_dup (pc' := 42) dX6_takeBestSizes_41 rfl rfl ?_
            refine sm_getI (pc' := 45) fk_X6_40 nr_7_8 dX6_takeBestSizes_42 rfl (fun v108 => ?_)
            refine sm_iconst (pc' := 46) (1 : Int32) dX6_takeBestSizes_45 (by decide) rfl ?_
            refine sm_iadd (pc' := 47) dX6_takeBestSizes_46 rfl ?_
            refine sm_putI (pc' := 50) (gk_X6_40 _ _ _ _ _) ti_7_8 dX6_takeBestSizes_47 rfl ?_
            exact hk103
set_option maxRecDepth 20000 in
theorem sX6_takeBestSizes (th : Nat) (a1 : Int32) : Sim eX6_takeBestSizes vU 0 [(0, qv (some th)), (1, iv a1)] [] (pX6_takeBestSizes th a1) := by
  unfold pX6_takeBestSizes
  refine sm_aload_n (pc' := 1) dX6_takeBestSizes_0 rfl rfl ?_
  refine sm_iconst (pc' := 2) (0 : Int32) dX6_takeBestSizes_1 (by decide) rfl ?_
  refine sm_putI (pc' := 5) (gk_X6_40 _ _ _ _ _) ti_7_8 dX6_takeBestSizes_2 rfl ?_
  refine sm_iconst (pc' := 6) (1 : Int32) dX6_takeBestSizes_5 (by decide) rfl ?_
  refine sm_istore_n (pc' := 7) [(2, iv (1 : Int32)), (0, qv (some th)), (1, iv a1)] dX6_takeBestSizes_6 rfl (Nat.le_of_ble_eq_true rfl) rfl rfl ?_
  refine sm_sub [1, 2, 0] rfl ?_
  refine sX6_takeBestSizes_L7 th a1 _ ?_ FL (1 : Int32)
  · skip
    refine sm_aload_n (pc' := 57) dX6_takeBestSizes_56 rfl rfl ?_
    refine sm_ldc (pc' := 59) (2147483647 : Int32) w_231 dX6_takeBestSizes_57 rfl ?_
    refine sm_putI (pc' := 62) (gk_X6_43 _ _ _ _ _) ti_7_9 dX6_takeBestSizes_59 rfl ?_
    refine sm_aload_n (pc' := 63) dX6_takeBestSizes_62 rfl rfl ?_
    refine sm_ldc (pc' := 65) (2147483647 : Int32) w_231 dX6_takeBestSizes_63 rfl ?_
    refine sm_putI (pc' := 68) (gk_X6_46 _ _ _ _ _) ti_7_10 dX6_takeBestSizes_65 rfl ?_
    refine sm_aload_n (pc' := 69) dX6_takeBestSizes_68 rfl rfl ?_
    refine sm_iconst (pc' := 70) (0 : Int32) dX6_takeBestSizes_69 (by decide) rfl ?_
    refine sm_ldc (pc' := 72) (2147483647 : Int32) w_231 dX6_takeBestSizes_70 rfl ?_
    refine sm_iconst (pc' := 73) (0 : Int32) dX6_takeBestSizes_72 (by decide) rfl ?_
    refine sm_iconst (pc' := 74) (0 : Int32) dX6_takeBestSizes_73 (by decide) rfl ?_
    refine sm_callv (pc' := 77) (sa := [iv (0 : Int32), iv (0 : Int32), iv (2147483647 : Int32), iv (0 : Int32), qv (some th)]) (st := []) (iv_X6_74 th (0 : Int32) (2147483647 : Int32) (0 : Int32) (0 : Int32)) (Nat.le_of_ble_eq_true rfl) dX6_takeBestSizes_74 rfl (Nat.le_of_ble_eq_true rfl) (fun _ => ?_)
    exact sm_return rfl dX6_takeBestSizes_77
theorem kX6_takeBestSizes (th : Nat) (a1 : Int32) : Callee 18 yX6_takeBestSizes cX6_takeBestSizes 3 none [qv (some th), iv a1] vU (pX6_takeBestSizes th a1) := callee_ofS [(0, qv (some th)), (1, iv a1)] (by decide +kernel) (Nat.le_of_ble_eq_true rfl) rfl (sX6_takeBestSizes th a1)
/-! HollowPress.balance(I)I -/
set_option maxRecDepth 20000 in
theorem iv_X10_239 (x0 : Int32) : Inv RX10 1 (.invokestatic 239) [iv x0] vI (pJ6_bitCount_0f7a4 x0) := inv_S (As := [iv x0]) (kJ6_bitCount_0f7a4 x0) w_252 w_253 w_254 w_255 ⟨by decide +kernel, by decide +kernel, by show _ = some 1; decide +kernel⟩ (by decide)
set_option maxRecDepth 20000 in
theorem iv_X10_244 (a : Nat) (x0 : Int32) : Inv RX10 19 (.invokevirtual 244) [iv x0, qv (some a)] vU (onT a 7 (pX6_takeBestSizes a x0)) := inv_V (As := [iv x0]) (t := 7) (kX6_takeBestSizes a x0) _ (by decide) rfl rfl w_257 w_258 w_259 w_225 w_260 ⟨by decide +kernel, by decide +kernel, by show _ = some 1; decide +kernel⟩ (by decide)
set_option maxRecDepth 20000 in
theorem iv_X10_230 (a : Nat)  : Inv RX10 4 (.invokevirtual 230) [qv (some a)] vI (onT a 7 (pX6_spread a )) := inv_V (As := []) (t := 7) (kX6_spread a ) _ (by decide) rfl rfl w_261 w_262 w_263 w_225 w_264 ⟨by decide +kernel, by decide +kernel, by show _ = some 0; decide +kernel⟩ (by decide)
abbrev eX10_balance : Env0 := (RX10, "balance", cX10_balance, 2, (some .int), 19)
def pX10_balance (th : Nat) (a1 : Int32) : Prg Int32 :=
    (lt (rt (-1000001 : Int32) : Prg Int32) fun k101 =>
    (if a1 = 0 then k101
    else (if (a1 &&& (-1023 : Int32)) = 0 then cl (pJ6_bitCount_0f7a4 a1) fun v102 =>
    (if v102 ≤ (3 : Int32) then gF 10 th 4 fun v103 =>
    un v103 fun a104 =>
    cl (onT a104 7 (pX6_takeBestSizes a104 a1)) fun _ =>
    gF 10 th 4 fun v105 =>
    un v105 fun a106 =>
    cl (onT a106 7 (pX6_spread a106)) fun v107 =>
    rt v107
    else k101)
    else k101)))
set_option maxRecDepth 20000 in
theorem sX10_balance (th : Nat) (a1 : Int32) : Sim eX10_balance vI 0 [(0, qv (some th)), (1, iv a1)] [] (pX10_balance th a1) := by
  unfold pX10_balance
  refine sm_iload_n (pc' := 1) dX10_balance_0 rfl rfl ?_
  refine sm_lt (fun k101 => Sim eX10_balance vI 20 [] [] (k101)) ?_ (fun k101 hk101 => ?_)
  · skip
    refine sm_ldc (pc' := 22) (-1000001 : Int32) w_189 dX10_balance_20 rfl ?_
    exact sm_ireturn rfl dX10_balance_22
  · skip
    refine sm_if_eq (pc' := 4) (pc1 := 20) dX10_balance_1 (by decide) rfl (fun _ => ?_) (fun _ => ?_)
    · skip
      refine sm_sub [] rfl ?_
      exact hk101
    · skip
      refine sm_iload_n (pc' := 5) dX10_balance_4 rfl rfl ?_
      refine sm_sipush (pc' := 8) (-1023 : Int32) dX10_balance_5 (by decide) rfl ?_
      refine sm_iand (pc' := 9) dX10_balance_8 rfl ?_
      refine sm_if_ne (pc' := 12) (pc1 := 20) dX10_balance_9 (by decide) rfl (fun _ => ?_) (fun _ => ?_)
      · skip
        refine sm_sub [] rfl ?_
        exact hk101
      · skip
        refine sm_iload_n (pc' := 13) dX10_balance_12 rfl rfl ?_
        refine sm_calli (pc' := 16) (sa := [iv a1]) (st := []) (iv_X10_239 a1) (Nat.le_of_ble_eq_true rfl) dX10_balance_13 rfl (Nat.le_of_ble_eq_true rfl) (fun v102 => ?_)
        refine sm_iconst (pc' := 17) (3 : Int32) dX10_balance_16 (by decide) rfl ?_
        refine sm_icmp_le (pc' := 20) (pc1 := 23) dX10_balance_17 (by decide) rfl (fun _ => ?_) (fun _ => ?_)
        · skip
          refine sm_aload_n (pc' := 24) dX10_balance_23 rfl rfl ?_
          refine sm_getF (pc' := 27) fk_X10_38 yr_10_4 dX10_balance_24 rfl (fun v103 => ?_)
          refine sm_iload_n (pc' := 28) dX10_balance_27 rfl rfl ?_
          rcases v103 with _ | a104
          · exact sm_unN
          refine sm_unS ?_
          refine sm_callv (pc' := 31) (sa := [iv a1, qv (some a104)]) (st := []) (iv_X10_244 a104 a1) (Nat.le_of_ble_eq_true rfl) dX10_balance_28 rfl (Nat.le_of_ble_eq_true rfl) (fun _ => ?_)
          refine sm_aload_n (pc' := 32) dX10_balance_31 rfl rfl ?_
          refine sm_getF (pc' := 35) fk_X10_38 yr_10_4 dX10_balance_32 rfl (fun v105 => ?_)
          rcases v105 with _ | a106
          · exact sm_unN
          refine sm_unS ?_
          refine sm_calli (pc' := 38) (sa := [qv (some a106)]) (st := []) (iv_X10_230 a106) (Nat.le_of_ble_eq_true rfl) dX10_balance_35 rfl (Nat.le_of_ble_eq_true rfl) (fun v107 => ?_)
          exact sm_ireturn rfl dX10_balance_38
        · skip
          refine sm_sub [] rfl ?_
          exact hk101
theorem kX10_balance (th : Nat) (a1 : Int32) : Callee 19 yX10_balance cX10_balance 2 (some .int) [qv (some th), iv a1] vI (pX10_balance th a1) := callee_ofS [(0, qv (some th)), (1, iv a1)] (by decide +kernel) (Nat.le_of_ble_eq_true rfl) rfl (sX10_balance th a1)
/-! HollowPress.otherThing(I)I -/
abbrev eX10_otherThing : Env0 := (RX10, "otherThing", cX10_otherThing, 2, (some .int), 1)
def pX10_otherThing (th : Nat) (a1 : Int32) : Prg Int32 :=
    gF 10 th 1 fun v101 =>
    un v101 fun a102 =>
    ldF a102 a1 fun v103 =>
    (lt (fun (v104 : Int32) => cl (onT th 10 (pX10_found th v104)) fun v106 =>
    rt v106 : Int32 → Prg Int32) fun k105 =>
    (nu v103 (k105 (1 : Int32)) fun a107 =>
    k105 (3 : Int32)))
set_option maxRecDepth 20000 in
theorem sX10_otherThing (th : Nat) (a1 : Int32) : Sim eX10_otherThing vI 0 [(0, qv (some th)), (1, iv a1)] [] (pX10_otherThing th a1) := by
  unfold pX10_otherThing
  refine sm_aload_n (pc' := 1) dX10_otherThing_0 rfl rfl ?_
  refine sm_aload_n (pc' := 2) dX10_otherThing_1 rfl rfl ?_
  refine sm_getF (pc' := 5) fk_X10_17 yr_10_1 dX10_otherThing_2 rfl (fun v101 => ?_)
  refine sm_iload_n (pc' := 6) dX10_otherThing_5 rfl rfl ?_
  rcases v101 with _ | a102
  · exact sm_unN
  refine sm_unS ?_
  refine sm_aaload (pc' := 7) dX10_otherThing_6 rfl (fun v103 => ?_)
  refine sm_lt (fun k105 => ∀ (v104 : Int32), Sim eX10_otherThing vI 15 [] [iv v104, qv (some th)] (k105 v104)) ?_ (fun k105 hk105 => ?_)
  · intro v104
    refine sm_calli (pc' := 18) (sa := [iv v104, qv (some th)]) (st := []) (iv_X10_58 th v104) (Nat.le_of_ble_eq_true rfl) dX10_otherThing_15 rfl (Nat.le_of_ble_eq_true rfl) (fun v106 => ?_)
    exact sm_ireturn rfl dX10_otherThing_18
  · skip
    rcases v103 with _ | a107
    · refine sm_nuN ?_
      refine sm_ifnonnullN (pc' := 10) dX10_otherThing_7 rfl ?_
      refine sm_iconst (pc' := 11) (1 : Int32) dX10_otherThing_10 (by decide) rfl ?_
      refine sm_goto (pc' := 15) dX10_otherThing_11 (by decide) ?_
      refine sm_sub [] rfl ?_
      exact hk105 (1 : Int32)
    · refine sm_nuS ?_
      refine sm_ifnonnullS (pc' := 14) dX10_otherThing_7 (by decide) ?_
      refine sm_iconst (pc' := 15) (3 : Int32) dX10_otherThing_14 (by decide) rfl ?_
      refine sm_sub [] rfl ?_
      exact hk105 (3 : Int32)
theorem kX10_otherThing (th : Nat) (a1 : Int32) : Callee 1 yX10_otherThing cX10_otherThing 2 (some .int) [qv (some th), iv a1] vI (pX10_otherThing th a1) := callee_ofS [(0, qv (some th)), (1, iv a1)] (by decide +kernel) (Nat.le_of_ble_eq_true rfl) rfl (sX10_otherThing th a1)
/-! HollowPress$Layers.beatOnce(I)V -/
abbrev eX2_beatOnce : Env0 := (RX2, "beatOnce", cX2_beatOnce, 6, none, 0)
def pX2_beatOnce_L38 (th : Nat) (a1 : Int32) (k112 : Int32 → Prg Unit) : Nat → Int32 → Int32 → Prg Unit
  | 0, _, _ => fl
  | n + 1, v110, v111 =>
    gF 3 th 0 fun v113 =>
    un v113 fun a114 =>
    ln a114 fun v115 =>
    (if v115 ≤ v111 then k112 v110
    else gF 3 th 0 fun v116 =>
    un v116 fun a117 =>
    ln a117 fun v118 =>
    (lt (fun (v119 : Int32) => gF 3 th 0 fun v121 =>
    un v121 fun a122 =>
    ldI a122 v111 fun v123 =>
    dv ((v123 - v119) * a1) (16 : Int32) fun v124 =>
    gF 3 th 0 fun v125 =>
    un v125 fun a126 =>
    ldI a126 v111 fun v127 =>
    stI a126 v111 (v127 + (v110 - v124)) (
    pX2_beatOnce_L38 th a1 k112 n v124 (v111 + (1 : Int32))) : Int32 → Prg Unit) fun k120 =>
    (if v118 ≤ (v111 + (1 : Int32)) then gI 3 th 1 fun v128 =>
    k120 v128
    else gF 3 th 0 fun v129 =>
    un v129 fun a130 =>
    ldI a130 (v111 + (1 : Int32)) fun v131 =>
    k120 v131)))
def pX2_beatOnce (th : Nat) (a1 : Int32) : Prg Unit :=
    gF 3 th 0 fun v101 =>
    un v101 fun a102 =>
    ln a102 fun v103 =>
    (if v103 = 0 then rt ()
    else gI 3 th 1 fun v104 =>
    gF 3 th 0 fun v105 =>
    un v105 fun a106 =>
    ldI a106 (0 : Int32) fun v107 =>
    dv ((v104 - v107) * a1) (16 : Int32) fun v108 =>
    gI 3 th 2 fun v109 =>
    pI 3 th 2 (v109 - v108) (
    pX2_beatOnce_L38 th a1 (fun (v132 : Int32) => gI 3 th 2 fun v133 =>
    pI 3 th 2 (v133 + v132) (
    rt ())) FL v108 (0 : Int32)))
set_option maxRecDepth 20000 in
theorem sX2_beatOnce_L38 (th : Nat) (a1 : Int32) (k112 : Int32 → Prg Unit) (hk112 : ∀ (q2 : Int32), Sim eX2_beatOnce vU 113 [(0, qv (some th)), (2, iv q2)] [] (k112 q2)) : ∀ (n : Nat), ∀ (v110 : Int32) (v111 : Int32), Sim eX2_beatOnce vU 38 [(0, qv (some th)), (1, iv a1), (2, iv v110), (3, iv v111)] [] (pX2_beatOnce_L38 th a1 k112 n v110 v111) := by
  intro n
  induction n with
  | zero =>
    intros
    exact sm_fl
  | succ n ih =>
    intro v110 v111
    unfold pX2_beatOnce_L38
    refine sm_iload_n (pc' := 39) dX2_beatOnce_38 rfl rfl ?_
    refine sm_aload_n (pc' := 40) dX2_beatOnce_39 rfl rfl ?_
    refine sm_getF (pc' := 43) fk_X2_13 yr_3_0 dX2_beatOnce_40 rfl (fun v113 => ?_)
    rcases v113 with _ | a114
    · exact sm_unN
    refine sm_unS ?_
    refine sm_alen (pc' := 44) dX2_beatOnce_43 rfl (fun v115 => ?_)
    refine sm_icmp_ge (pc' := 47) (pc1 := 113) dX2_beatOnce_44 (by decide) rfl (fun _ => ?_) (fun _ => ?_)
    · skip
      refine sm_sub [0, 2] rfl ?_
      exact hk112 v110
    · skip
      refine sm_iload_n (pc' := 48) dX2_beatOnce_47 rfl rfl ?_
      refine sm_iconst (pc' := 49) (1 : Int32) dX2_beatOnce_48 (by decide) rfl ?_
      refine sm_iadd (pc' := 50) dX2_beatOnce_49 rfl ?_
      refine sm_aload_n (pc' := 51) dX2_beatOnce_50 rfl rfl ?_
      refine sm_getF (pc' := 54) fk_X2_13 yr_3_0 dX2_beatOnce_51 rfl (fun v116 => ?_)
      rcases v116 with _ | a117
      · exact sm_unN
      refine sm_unS ?_
      refine sm_alen (pc' := 55) dX2_beatOnce_54 rfl (fun v118 => ?_)
      refine sm_lt (fun k120 => ∀ (v119 : Int32), Sim eX2_beatOnce vU 73 [(0, qv (some th)), (1, iv a1), (2, iv v110), (3, iv v111)] [iv v119] (k120 v119)) ?_ (fun k120 hk120 => ?_)
      · intro v119
        refine sm_istore (pc' := 75) [(4, iv v119), (0, qv (some th)), (1, iv a1), (2, iv v110), (3, iv v111)] dX2_beatOnce_73  (Nat.le_of_ble_eq_true rfl) rfl rfl ?_
        refine sm_aload_n (pc' := 76) dX2_beatOnce_75 rfl rfl ?_
        refine sm_getF (pc' := 79) fk_X2_13 yr_3_0 dX2_beatOnce_76 rfl (fun v121 => ?_)
        refine sm_iload_n (pc' := 80) dX2_beatOnce_79 rfl rfl ?_
        rcases v121 with _ | a122
        · exact sm_unN
        refine sm_unS ?_
        refine sm_iaload (pc' := 81) dX2_beatOnce_80 rfl (fun v123 => ?_)
        refine sm_iload (pc' := 83) dX2_beatOnce_81 rfl rfl ?_
        refine sm_isub (pc' := 84) dX2_beatOnce_83 rfl ?_
        refine sm_iload_n (pc' := 85) dX2_beatOnce_84 rfl rfl ?_
        refine sm_imul (pc' := 86) dX2_beatOnce_85 rfl ?_
        refine sm_bipush (pc' := 88) (16 : Int32) dX2_beatOnce_86 (by decide) rfl ?_
        refine sm_idiv (pc' := 89) dX2_beatOnce_88 rfl (fun _ v124 _ => ?_)
        refine sm_istore (pc' := 91) [(5, iv v124), (4, iv v119), (0, qv (some th)), (1, iv a1), (2, iv v110), (3, iv v111)] dX2_beatOnce_89  (Nat.le_of_ble_eq_true rfl) rfl rfl ?_
        refine sm_aload_n (pc' := 92) dX2_beatOnce_91 rfl rfl ?_
        refine sm_getF (pc' := 95) fk_X2_13 yr_3_0 dX2_beatOnce_92 rfl (fun v125 => ?_)
        refine sm_iload_n (pc' := 96) dX2_beatOnce_95 rfl rfl ?_
        refine sm_dup2 (pc' := 97) dX2_beatOnce_96 rfl rfl rfl ?_
        rcases v125 with _ | a126
        · exact sm_unN
        refine sm_unS ?_
        refine sm_iaload (pc' := 98) dX2_beatOnce_97 rfl (fun v127 => ?_)
        refine sm_iload_n (pc' := 99) dX2_beatOnce_98 rfl rfl ?_
        refine sm_iload (pc' := 101) dX2_beatOnce_99 rfl rfl ?_
        refine sm_isub (pc' := 102) dX2_beatOnce_101 rfl ?_
        refine sm_iadd (pc' := 103) dX2_beatOnce_102 rfl ?_
        refine sm_iastore (pc' := 104) dX2_beatOnce_103 rfl ?_
        refine sm_iload (pc' := 106) dX2_beatOnce_104 rfl rfl ?_
        refine sm_istore_n (pc' := 107) [(2, iv v124), (5, iv v124), (4, iv v119), (0, qv (some th)), (1, iv a1), (3, iv v111)] dX2_beatOnce_106 rfl (Nat.le_of_ble_eq_true rfl) rfl rfl ?_
        refine sm_iinc (pc' := 110) (v111 + (1 : Int32)) [(3, iv (v111 + (1 : Int32))), (2, iv v124), (5, iv v124), (4, iv v119), (0, qv (some th)), (1, iv a1)] dX2_beatOnce_107 rfl rfl (Nat.le_of_ble_eq_true rfl) rfl rfl ?_
        refine sm_goto (pc' := 38) dX2_beatOnce_110 (by decide) ?_
        refine sm_sub [4, 5, 1, 0] rfl ?_
        exact ih v124 (v111 + (1 : Int32))
      · skip
        refine sm_icmp_ge (pc' := 58) (pc1 := 69) dX2_beatOnce_55 (by decide) rfl (fun _ => ?_) (fun _ => ?_)
        · skip
          refine sm_aload_n (pc' := 70) dX2_beatOnce_69 rfl rfl ?_
          refine sm_getI (pc' := 73) fk_X2_17 nr_3_1 dX2_beatOnce_70 rfl (fun v128 => ?_)
          exact hk120 v128
        · skip
          refine sm_aload_n (pc' := 59) dX2_beatOnce_58 rfl rfl ?_
          refine sm_getF (pc' := 62) fk_X2_13 yr_3_0 dX2_beatOnce_59 rfl (fun v129 => ?_)
          refine sm_iload_n (pc' := 63) dX2_beatOnce_62 rfl rfl ?_
          refine sm_iconst (pc' := 64) (1 : Int32) dX2_beatOnce_63 (by decide) rfl ?_
          refine sm_iadd (pc' := 65) dX2_beatOnce_64 rfl ?_
          rcases v129 with _ | a130
          · exact sm_unN
          refine sm_unS ?_
          refine sm_iaload (pc' := 66) dX2_beatOnce_65 rfl (fun v131 => ?_)
          refine sm_goto (pc' := 73) dX2_beatOnce_66 (by decide) ?_
          exact hk120 v131
set_option maxRecDepth 20000 in
theorem sX2_beatOnce (th : Nat) (a1 : Int32) : Sim eX2_beatOnce vU 0 [(0, qv (some th)), (1, iv a1)] [] (pX2_beatOnce th a1) := by
  unfold pX2_beatOnce
  refine sm_aload_n (pc' := 1) dX2_beatOnce_0 rfl rfl ?_
  refine sm_getF (pc' := 4) fk_X2_13 yr_3_0 dX2_beatOnce_1 rfl (fun v101 => ?_)
  rcases v101 with _ | a102
  · exact sm_unN
  refine sm_unS ?_
  refine sm_alen (pc' := 5) dX2_beatOnce_4 rfl (fun v103 => ?_)
  refine sm_if_ne (pc' := 8) (pc1 := 9) dX2_beatOnce_5 (by decide) rfl (fun _ => ?_) (fun _ => ?_)
  · skip
    refine sm_aload_n (pc' := 10) dX2_beatOnce_9 rfl rfl ?_
    refine sm_getI (pc' := 13) fk_X2_17 nr_3_1 dX2_beatOnce_10 rfl (fun v104 => ?_)
    refine sm_aload_n (pc' := 14) dX2_beatOnce_13 rfl rfl ?_
    refine sm_getF (pc' := 17) fk_X2_13 yr_3_0 dX2_beatOnce_14 rfl (fun v105 => ?_)
    refine sm_iconst (pc' := 18) (0 : Int32) dX2_beatOnce_17 (by decide) rfl ?_
    rcases v105 with _ | a106
    · exact sm_unN
    refine sm_unS ?_
    refine sm_iaload (pc' := 19) dX2_beatOnce_18 rfl (fun v107 => ?_)
    refine sm_isub (pc' := 20) dX2_beatOnce_19 rfl ?_
    refine sm_iload_n (pc' := 21) dX2_beatOnce_20 rfl rfl ?_
    refine sm_imul (pc' := 22) dX2_beatOnce_21 rfl ?_
    refine sm_bipush (pc' := 24) (16 : Int32) dX2_beatOnce_22 (by decide) rfl ?_
    refine sm_idiv (pc' := 25) dX2_beatOnce_24 rfl (fun _ v108 _ => ?_)
    refine sm_istore_n (pc' := 26) [(2, iv v108), (0, qv (some th)), (1, iv a1)] dX2_beatOnce_25 rfl (Nat.le_of_ble_eq_true rfl) rfl rfl ?_
    refine sm_aload_n (pc' := 27) dX2_beatOnce_26 rfl rfl ?_
    refine sm_dup (pc' := 28) dX2_beatOnce_27 rfl rfl ?_
    refine sm_getI (pc' := 31) fk_X2_7 nr_3_2 dX2_beatOnce_28 rfl (fun v109 => ?_)
    refine sm_iload_n (pc' := 32) dX2_beatOnce_31 rfl rfl ?_
    refine sm_isub (pc' := 33) dX2_beatOnce_32 rfl ?_
    refine sm_putI (pc' := 36) (gk_X2_7 _ _ _ _ _) ti_3_2 dX2_beatOnce_33 rfl ?_
    refine sm_iconst (pc' := 37) (0 : Int32) dX2_beatOnce_36 (by decide) rfl ?_
    refine sm_istore_n (pc' := 38) [(3, iv (0 : Int32)), (2, iv v108), (0, qv (some th)), (1, iv a1)] dX2_beatOnce_37 rfl (Nat.le_of_ble_eq_true rfl) rfl rfl ?_
    refine sm_sub [2, 3, 1, 0] rfl ?_
    refine sX2_beatOnce_L38 th a1 _ ?_ FL v108 (0 : Int32)
    · intro v132
      refine sm_aload_n (pc' := 114) dX2_beatOnce_113 rfl rfl ?_
      refine sm_dup (pc' := 115) dX2_beatOnce_114 rfl rfl ?_
      refine sm_getI (pc' := 118) fk_X2_7 nr_3_2 dX2_beatOnce_115 rfl (fun v133 => ?_)
      refine sm_iload_n (pc' := 119) dX2_beatOnce_118 rfl rfl ?_
      refine sm_iadd (pc' := 120) dX2_beatOnce_119 rfl ?_
      refine sm_putI (pc' := 123) (gk_X2_7 _ _ _ _ _) ti_3_2 dX2_beatOnce_120 rfl ?_
      exact sm_return rfl dX2_beatOnce_123
  · skip
    exact sm_return rfl dX2_beatOnce_8
theorem kX2_beatOnce (th : Nat) (a1 : Int32) : Callee 0 yX2_beatOnce cX2_beatOnce 6 none [qv (some th), iv a1] vU (pX2_beatOnce th a1) := callee_ofS [(0, qv (some th)), (1, iv a1)] (by decide +kernel) (Nat.le_of_ble_eq_true rfl) rfl (sX2_beatOnce th a1)
/-! HollowPress$Layers.beatTill(III)I -/
set_option maxRecDepth 20000 in
theorem iv_X2_40 (a : Nat) (x0 : Int32) : Inv RX2 1 (.invokevirtual 40) [iv x0, qv (some a)] vU (onT a 3 (pX2_beatOnce a x0)) := inv_V (As := [iv x0]) (t := 3) (kX2_beatOnce a x0) _ (by decide) rfl rfl w_267 w_268 w_269 w_170 w_270 ⟨by decide +kernel, by decide +kernel, by show _ = some 1; decide +kernel⟩ (by decide)
abbrev eX2_beatTill : Env0 := (RX2, "beatTill", cX2_beatTill, 5, (some .int), 2)
def pX2_beatTill_L3 (th : Nat) (a1 : Int32) (a2 : Int32) (a3 : Int32) (k102 : Int32 → Prg Int32) : Nat → Int32 → Prg Int32
  | 0, _ => fl
  | n + 1, v101 =>
    (if a1 ≤ v101 then k102 v101
    else cl (onT th 3 (pX2_greatest th)) fun v103 =>
    (if v103 ≤ a3 then k102 v101
    else cl (onT th 3 (pX2_beatOnce th a2)) fun _ =>
    pX2_beatTill_L3 th a1 a2 a3 k102 n (v101 + (1 : Int32))))
def pX2_beatTill (th : Nat) (a1 : Int32) (a2 : Int32) (a3 : Int32) : Prg Int32 :=
    pX2_beatTill_L3 th a1 a2 a3 (fun (v104 : Int32) => rt v104) FL (0 : Int32)
set_option maxRecDepth 20000 in
theorem sX2_beatTill_L3 (th : Nat) (a1 : Int32) (a2 : Int32) (a3 : Int32) (k102 : Int32 → Prg Int32) (hk102 : ∀ (q4 : Int32), Sim eX2_beatTill vI 28 [(4, iv q4)] [] (k102 q4)) : ∀ (n : Nat), ∀ (v101 : Int32), Sim eX2_beatTill vI 3 [(0, qv (some th)), (1, iv a1), (2, iv a2), (3, iv a3), (4, iv v101)] [] (pX2_beatTill_L3 th a1 a2 a3 k102 n v101) := by
  intro n
  induction n with
  | zero =>
    intros
    exact sm_fl
  | succ n ih =>
    intro v101
    unfold pX2_beatTill_L3
    refine sm_iload (pc' := 5) dX2_beatTill_3 rfl rfl ?_
    refine sm_iload_n (pc' := 6) dX2_beatTill_5 rfl rfl ?_
    refine sm_icmp_ge (pc' := 9) (pc1 := 28) dX2_beatTill_6 (by decide) rfl (fun _ => ?_) (fun _ => ?_)
    · skip
      refine sm_sub [4] rfl ?_
      exact hk102 v101
    · skip
      refine sm_aload_n (pc' := 10) dX2_beatTill_9 rfl rfl ?_
      refine sm_calli (pc' := 13) (sa := [qv (some th)]) (st := []) (iv_X2_30 th) (Nat.le_of_ble_eq_true rfl) dX2_beatTill_10 rfl (Nat.le_of_ble_eq_true rfl) (fun v103 => ?_)
      refine sm_iload_n (pc' := 14) dX2_beatTill_13 rfl rfl ?_
      refine sm_icmp_le (pc' := 17) (pc1 := 28) dX2_beatTill_14 (by decide) rfl (fun _ => ?_) (fun _ => ?_)
      · skip
        refine sm_sub [4] rfl ?_
        exact hk102 v101
      · skip
        refine sm_aload_n (pc' := 18) dX2_beatTill_17 rfl rfl ?_
        refine sm_iload_n (pc' := 19) dX2_beatTill_18 rfl rfl ?_
        refine sm_callv (pc' := 22) (sa := [iv a2, qv (some th)]) (st := []) (iv_X2_40 th a2) (Nat.le_of_ble_eq_true rfl) dX2_beatTill_19 rfl (Nat.le_of_ble_eq_true rfl) (fun _ => ?_)
        refine sm_iinc (pc' := 25) (v101 + (1 : Int32)) [(4, iv (v101 + (1 : Int32))), (0, qv (some th)), (1, iv a1), (2, iv a2), (3, iv a3)] dX2_beatTill_22 rfl rfl (Nat.le_of_ble_eq_true rfl) rfl rfl ?_
        refine sm_goto (pc' := 3) dX2_beatTill_25 (by decide) ?_
        refine sm_sub [1, 2, 3, 4, 0] rfl ?_
        exact ih (v101 + (1 : Int32))
set_option maxRecDepth 20000 in
theorem sX2_beatTill (th : Nat) (a1 : Int32) (a2 : Int32) (a3 : Int32) : Sim eX2_beatTill vI 0 [(0, qv (some th)), (1, iv a1), (2, iv a2), (3, iv a3)] [] (pX2_beatTill th a1 a2 a3) := by
  unfold pX2_beatTill
  refine sm_iconst (pc' := 1) (0 : Int32) dX2_beatTill_0 (by decide) rfl ?_
  refine sm_istore (pc' := 3) [(4, iv (0 : Int32)), (0, qv (some th)), (1, iv a1), (2, iv a2), (3, iv a3)] dX2_beatTill_1  (Nat.le_of_ble_eq_true rfl) rfl rfl ?_
  refine sm_sub [1, 2, 3, 4, 0] rfl ?_
  refine sX2_beatTill_L3 th a1 a2 a3 _ ?_ FL (0 : Int32)
  · intro v104
    refine sm_iload (pc' := 30) dX2_beatTill_28 rfl rfl ?_
    exact sm_ireturn rfl dX2_beatTill_30
theorem kX2_beatTill (th : Nat) (a1 : Int32) (a2 : Int32) (a3 : Int32) : Callee 2 yX2_beatTill cX2_beatTill 5 (some .int) [qv (some th), iv a1, iv a2, iv a3] vI (pX2_beatTill th a1 a2 a3) := callee_ofS [(0, qv (some th)), (1, iv a1), (2, iv a2), (3, iv a3)] (by decide +kernel) (Nat.le_of_ble_eq_true rfl) rfl (sX2_beatTill th a1 a2 a3)
/-! HollowPress.beat(IIII)I -/
set_option maxRecDepth 20000 in
theorem iv_X10_90 (x0 : Int32) (x1 : Int32) (x2 : Int32) : Inv RX10 1 (.invokestatic 90) [iv x2, iv x1, iv x0] vI (pX10_among x0 x1 x2) := inv_S (As := [iv x0, iv x1, iv x2]) (kX10_among x0 x1 x2) w_271 w_272 w_62 w_273 ⟨by decide +kernel, by decide +kernel, by show _ = some 3; decide +kernel⟩ (by decide)
set_option maxRecDepth 20000 in
theorem iv_X10_145 (a : Nat) (x0 : Int32) : Inv RX10 2 (.invokevirtual 145) [iv x0, qv (some a)] vI (onT a 10 (pX10_otherThing a x0)) := inv_V (As := [iv x0]) (t := 10) (kX10_otherThing a x0) _ (by decide) rfl rfl w_275 w_276 w_277 w_62 w_278 ⟨by decide +kernel, by decide +kernel, by show _ = some 1; decide +kernel⟩ (by decide)
set_option maxRecDepth 20000 in
theorem iv_X10_251 (a : Nat) (x0 : Int32) (x1 : Int32) (x2 : Int32) : Inv RX10 3 (.invokevirtual 251) [iv x2, iv x1, iv x0, qv (some a)] vI (onT a 3 (pX2_beatTill a x0 x1 x2)) := inv_V (As := [iv x0, iv x1, iv x2]) (t := 3) (kX2_beatTill a x0 x1 x2) _ (by decide) rfl rfl w_279 w_280 w_281 w_170 w_282 ⟨by decide +kernel, by decide +kernel, by show _ = some 3; decide +kernel⟩ (by decide)
abbrev eX10_beat : Env0 := (RX10, "beat", cX10_beat, 7, (some .int), 3)
def pX10_beat (th : Nat) (a1 : Int32) (a2 : Int32) (a3 : Int32) (a4 : Int32) : Prg Int32 :=
    cl (pX10_below a1 (10 : Int32)) fun v101 =>
    (lt (rt (-1000001 : Int32) : Prg Int32) fun k102 =>
    (if v101 = 0 then k102
    else cl (pX10_among a2 (1 : Int32) (100 : Int32)) fun v103 =>
    (if v103 = 0 then k102
    else cl (pX10_among a3 (1 : Int32) (5 : Int32)) fun v104 =>
    (lt (rt (-1000001 : Int32) : Prg Int32) fun k105 =>
    (if v104 = 0 then k105
    else cl (pX10_among a4 (0 : Int32) (10000 : Int32)) fun v106 =>
    (if v106 = 0 then k105
    else gF 10 th 1 fun v107 =>
    un v107 fun a108 =>
    ldF a108 a1 fun v109 =>
    iO 3 v109 fun v110 =>
    (if v110 = 0 then cl (onT th 10 (pX10_otherThing th a1)) fun v111 =>
    rt v111
    else un v109 fun a112 =>
    cO 3 a112 (
    cl (onT a112 3 (pX2_beatTill a112 a2 a3 a4)) fun v113 =>
    cl (onT th 10 (pX10_fine th v113)) fun v114 =>
    rt v114))))))))
set_option maxRecDepth 20000 in
theorem sX10_beat (th : Nat) (a1 : Int32) (a2 : Int32) (a3 : Int32) (a4 : Int32) : Sim eX10_beat vI 0 [(0, qv (some th)), (1, iv a1), (2, iv a2), (3, iv a3), (4, iv a4)] [] (pX10_beat th a1 a2 a3 a4) := by
  unfold pX10_beat
  refine sm_iload_n (pc' := 1) dX10_beat_0 rfl rfl ?_
  refine sm_bipush (pc' := 3) (10 : Int32) dX10_beat_1 (by decide) rfl ?_
  refine sm_calli (pc' := 6) (sa := [iv (10 : Int32), iv a1]) (st := []) (iv_X10_53 a1 (10 : Int32)) (Nat.le_of_ble_eq_true rfl) dX10_beat_3 rfl (Nat.le_of_ble_eq_true rfl) (fun v101 => ?_)
  refine sm_lt (fun k102 => Sim eX10_beat vI 19 [] [] (k102)) ?_ (fun k102 hk102 => ?_)
  · skip
    refine sm_ldc (pc' := 21) (-1000001 : Int32) w_189 dX10_beat_19 rfl ?_
    exact sm_ireturn rfl dX10_beat_21
  · skip
    refine sm_if_eq (pc' := 9) (pc1 := 19) dX10_beat_6 (by decide) rfl (fun _ => ?_) (fun _ => ?_)
    · skip
      refine sm_sub [] rfl ?_
      exact hk102
    · skip
      refine sm_iload_n (pc' := 10) dX10_beat_9 rfl rfl ?_
      refine sm_iconst (pc' := 11) (1 : Int32) dX10_beat_10 (by decide) rfl ?_
      refine sm_bipush (pc' := 13) (100 : Int32) dX10_beat_11 (by decide) rfl ?_
      refine sm_calli (pc' := 16) (sa := [iv (100 : Int32), iv (1 : Int32), iv a2]) (st := []) (iv_X10_90 a2 (1 : Int32) (100 : Int32)) (Nat.le_of_ble_eq_true rfl) dX10_beat_13 rfl (Nat.le_of_ble_eq_true rfl) (fun v103 => ?_)
      refine sm_if_ne (pc' := 19) (pc1 := 22) dX10_beat_16 (by decide) rfl (fun _ => ?_) (fun _ => ?_)
      · skip
        refine sm_iload_n (pc' := 23) dX10_beat_22 rfl rfl ?_
        refine sm_iconst (pc' := 24) (1 : Int32) dX10_beat_23 (by decide) rfl ?_
        refine sm_iconst (pc' := 25) (5 : Int32) dX10_beat_24 (by decide) rfl ?_
        refine sm_calli (pc' := 28) (sa := [iv (5 : Int32), iv (1 : Int32), iv a3]) (st := []) (iv_X10_90 a3 (1 : Int32) (5 : Int32)) (Nat.le_of_ble_eq_true rfl) dX10_beat_25 rfl (Nat.le_of_ble_eq_true rfl) (fun v104 => ?_)
        refine sm_lt (fun k105 => Sim eX10_beat vI 43 [] [] (k105)) ?_ (fun k105 hk105 => ?_)
        · skip
          refine sm_ldc (pc' := 45) (-1000001 : Int32) w_189 dX10_beat_43 rfl ?_
          exact sm_ireturn rfl dX10_beat_45
        · skip
          refine sm_if_eq (pc' := 31) (pc1 := 43) dX10_beat_28 (by decide) rfl (fun _ => ?_) (fun _ => ?_)
          · skip
            refine sm_sub [] rfl ?_
            exact hk105
          · skip
            refine sm_iload (pc' := 33) dX10_beat_31 rfl rfl ?_
            refine sm_iconst (pc' := 34) (0 : Int32) dX10_beat_33 (by decide) rfl ?_
            refine sm_sipush (pc' := 37) (10000 : Int32) dX10_beat_34 (by decide) rfl ?_
            refine sm_calli (pc' := 40) (sa := [iv (10000 : Int32), iv (0 : Int32), iv a4]) (st := []) (iv_X10_90 a4 (0 : Int32) (10000 : Int32)) (Nat.le_of_ble_eq_true rfl) dX10_beat_37 rfl (Nat.le_of_ble_eq_true rfl) (fun v106 => ?_)
            refine sm_if_ne (pc' := 43) (pc1 := 46) dX10_beat_40 (by decide) rfl (fun _ => ?_) (fun _ => ?_)
            · skip
              refine sm_aload_n (pc' := 47) dX10_beat_46 rfl rfl ?_
              refine sm_getF (pc' := 50) fk_X10_17 yr_10_1 dX10_beat_47 rfl (fun v107 => ?_)
              refine sm_iload_n (pc' := 51) dX10_beat_50 rfl rfl ?_
              rcases v107 with _ | a108
              · exact sm_unN
              refine sm_unS ?_
              refine sm_aaload (pc' := 52) dX10_beat_51 rfl (fun v109 => ?_)
              refine sm_astore (pc' := 54) [(6, qv v109), (0, qv (some th)), (1, iv a1), (2, iv a2), (3, iv a3), (4, iv a4)] dX10_beat_52  (Nat.le_of_ble_eq_true rfl) rfl rfl ?_
              refine sm_aload (pc' := 56) dX10_beat_54 rfl rfl ?_
              refine sm_inst (pc' := 59) (Or.inr ⟨rfl, rfl⟩) w_274 dX10_beat_56 rfl (fun v110 => ?_)
              refine sm_if_eq (pc' := 62) (pc1 := 72) dX10_beat_59 (by decide) rfl (fun _ => ?_) (fun _ => ?_)
              · skip
                refine sm_aload_n (pc' := 73) dX10_beat_72 rfl rfl ?_
                refine sm_iload_n (pc' := 74) dX10_beat_73 rfl rfl ?_
                refine sm_calli (pc' := 77) (sa := [iv a1, qv (some th)]) (st := []) (iv_X10_145 th a1) (Nat.le_of_ble_eq_true rfl) dX10_beat_74 rfl (Nat.le_of_ble_eq_true rfl) (fun v111 => ?_)
                exact sm_ireturn rfl dX10_beat_77
              · skip
                refine sm_aload (pc' := 64) dX10_beat_62 rfl rfl ?_
                rcases v109 with _ | a112
                · exact sm_unN
                refine sm_unS ?_
                refine sm_cast (pc' := 67) (Or.inr ⟨rfl, rfl⟩) w_274 dX10_beat_64 rfl ?_
                refine sm_astore (pc' := 69) [(5, qv (some a112)), (6, qv (some a112)), (0, qv (some th)), (1, iv a1), (2, iv a2), (3, iv a3), (4, iv a4)] dX10_beat_67  (Nat.le_of_ble_eq_true rfl) rfl rfl ?_
                refine sm_goto (pc' := 78) dX10_beat_69 (by decide) ?_
                refine sm_aload_n (pc' := 79) dX10_beat_78 rfl rfl ?_
                refine sm_aload (pc' := 81) dX10_beat_79 rfl rfl ?_
                refine sm_iload_n (pc' := 82) dX10_beat_81 rfl rfl ?_
                refine sm_iload_n (pc' := 83) dX10_beat_82 rfl rfl ?_
                refine sm_iload (pc' := 85) dX10_beat_83 rfl rfl ?_
                refine sm_calli (pc' := 88) (sa := [iv a4, iv a3, iv a2, qv (some a112)]) (st := [qv (some th)]) (iv_X10_251 a112 a2 a3 a4) (Nat.le_of_ble_eq_true rfl) dX10_beat_85 rfl (Nat.le_of_ble_eq_true rfl) (fun v113 => ?_)
                refine sm_calli (pc' := 91) (sa := [iv v113, qv (some th)]) (st := []) (iv_X10_65 th v113) (Nat.le_of_ble_eq_true rfl) dX10_beat_88 rfl (Nat.le_of_ble_eq_true rfl) (fun v114 => ?_)
                exact sm_ireturn rfl dX10_beat_91
            · skip
              refine sm_sub [] rfl ?_
              exact hk105
      · skip
        refine sm_sub [] rfl ?_
        exact hk102
theorem kX10_beat (th : Nat) (a1 : Int32) (a2 : Int32) (a3 : Int32) (a4 : Int32) : Callee 3 yX10_beat cX10_beat 7 (some .int) [qv (some th), iv a1, iv a2, iv a3, iv a4] vI (pX10_beat th a1 a2 a3 a4) := callee_ofS [(0, qv (some th)), (1, iv a1), (2, iv a2), (3, iv a3), (4, iv a4)] (by decide +kernel) (Nat.le_of_ble_eq_true rfl) rfl (sX10_beat th a1 a2 a3 a4)
/-! HollowPress.best(I)I -/
set_option maxRecDepth 20000 in
theorem iv_X10_205 (a : Nat) (x0 : Option Nat) : Inv RX10 5 (.invokevirtual 205) [qv x0, qv (some a)] vI (onT a 2 (pX1_bestGate a x0)) := inv_V (As := [qv x0]) (t := 2) (kX1_bestGate a x0) _ (by decide) rfl rfl w_287 w_288 w_289 w_67 w_290 ⟨by decide +kernel, by decide +kernel, by show _ = some 1; decide +kernel⟩ (by decide)
abbrev eX10_best : Env0 := (RX10, "best", cX10_best, 4, (some .int), 5)
def pX10_best (th : Nat) (a1 : Int32) : Prg Int32 :=
    cl (pX10_below a1 (10 : Int32)) fun v101 =>
    (if v101 = 0 then rt (-1000001 : Int32)
    else gF 10 th 1 fun v102 =>
    un v102 fun a103 =>
    ldF a103 a1 fun v104 =>
    iO 4 v104 fun v105 =>
    (if v105 = 0 then cl (onT th 10 (pX10_otherThing th a1)) fun v106 =>
    rt v106
    else un v104 fun a107 =>
    cO 4 a107 (
    gI 4 a107 7 fun v108 =>
    (lt (gI 4 a107 8 fun v110 =>
    cl (onT th 10 (pX10_fine th v110)) fun v111 =>
    rt v111 : Prg Int32) fun k109 =>
    (if v108 = 0 then gF 10 th 3 fun v112 =>
    un v112 fun a113 =>
    cl (onT a113 2 (pX1_bestGate a113 (some a107))) fun v114 =>
    pI 4 a107 8 v114 (
    pZ 4 a107 7 (1 : Int32) (
    k109))
    else k109)))))
set_option maxRecDepth 20000 in
theorem sX10_best (th : Nat) (a1 : Int32) : Sim eX10_best vI 0 [(0, qv (some th)), (1, iv a1)] [] (pX10_best th a1) := by
  unfold pX10_best
  refine sm_iload_n (pc' := 1) dX10_best_0 rfl rfl ?_
  refine sm_bipush (pc' := 3) (10 : Int32) dX10_best_1 (by decide) rfl ?_
  refine sm_calli (pc' := 6) (sa := [iv (10 : Int32), iv a1]) (st := []) (iv_X10_53 a1 (10 : Int32)) (Nat.le_of_ble_eq_true rfl) dX10_best_3 rfl (Nat.le_of_ble_eq_true rfl) (fun v101 => ?_)
  refine sm_if_ne (pc' := 9) (pc1 := 12) dX10_best_6 (by decide) rfl (fun _ => ?_) (fun _ => ?_)
  · skip
    refine sm_aload_n (pc' := 13) dX10_best_12 rfl rfl ?_
    refine sm_getF (pc' := 16) fk_X10_17 yr_10_1 dX10_best_13 rfl (fun v102 => ?_)
    refine sm_iload_n (pc' := 17) dX10_best_16 rfl rfl ?_
    rcases v102 with _ | a103
    · exact sm_unN
    refine sm_unS ?_
    refine sm_aaload (pc' := 18) dX10_best_17 rfl (fun v104 => ?_)
    refine sm_astore_n (pc' := 19) [(3, qv v104), (0, qv (some th)), (1, iv a1)] dX10_best_18 rfl (Nat.le_of_ble_eq_true rfl) rfl rfl ?_
    refine sm_aload_n (pc' := 20) dX10_best_19 rfl rfl ?_
    refine sm_inst (pc' := 23) (Or.inl ⟨rfl, rfl⟩) w_283 dX10_best_20 rfl (fun v105 => ?_)
    refine sm_if_eq (pc' := 26) (pc1 := 34) dX10_best_23 (by decide) rfl (fun _ => ?_) (fun _ => ?_)
    · skip
      refine sm_aload_n (pc' := 35) dX10_best_34 rfl rfl ?_
      refine sm_iload_n (pc' := 36) dX10_best_35 rfl rfl ?_
      refine sm_calli (pc' := 39) (sa := [iv a1, qv (some th)]) (st := []) (iv_X10_145 th a1) (Nat.le_of_ble_eq_true rfl) dX10_best_36 rfl (Nat.le_of_ble_eq_true rfl) (fun v106 => ?_)
      exact sm_ireturn rfl dX10_best_39
    · skip
      refine sm_aload_n (pc' := 27) dX10_best_26 rfl rfl ?_
      rcases v104 with _ | a107
      · exact sm_unN
      refine sm_unS ?_
      refine sm_cast (pc' := 30) (Or.inl ⟨rfl, rfl⟩) w_283 dX10_best_27 rfl ?_
      refine sm_astore_n (pc' := 31) [(2, qv (some a107)), (3, qv (some a107)), (0, qv (some th)), (1, iv a1)] dX10_best_30 rfl (Nat.le_of_ble_eq_true rfl) rfl rfl ?_
      refine sm_goto (pc' := 40) dX10_best_31 (by decide) ?_
      refine sm_aload_n (pc' := 41) dX10_best_40 rfl rfl ?_
      refine sm_getI (pc' := 44) fk_X10_201 nr_4_7 dX10_best_41 rfl (fun v108 => ?_)
      refine sm_lt (fun k109 => Sim eX10_best vI 64 [(0, qv (some th)), (2, qv (some a107))] [] (k109)) ?_ (fun k109 hk109 => ?_)
      · skip
        refine sm_aload_n (pc' := 65) dX10_best_64 rfl rfl ?_
        refine sm_aload_n (pc' := 66) dX10_best_65 rfl rfl ?_
        refine sm_getI (pc' := 69) fk_X10_208 nr_4_8 dX10_best_66 rfl (fun v110 => ?_)
        refine sm_calli (pc' := 72) (sa := [iv v110, qv (some th)]) (st := []) (iv_X10_65 th v110) (Nat.le_of_ble_eq_true rfl) dX10_best_69 rfl (Nat.le_of_ble_eq_true rfl) (fun v111 => ?_)
        exact sm_ireturn rfl dX10_best_72
      · skip
        refine sm_if_ne (pc' := 47) (pc1 := 64) dX10_best_44 (by decide) rfl (fun _ => ?_) (fun _ => ?_)
        · skip
          refine sm_sub [2, 0] rfl ?_
          exact hk109
        · skip
          refine sm_aload_n (pc' := 48) dX10_best_47 rfl rfl ?_
          refine sm_aload_n (pc' := 49) dX10_best_48 rfl rfl ?_
          refine sm_getF (pc' := 52) fk_X10_31 yr_10_3 dX10_best_49 rfl (fun v112 => ?_)
          refine sm_aload_n (pc' := 53) dX10_best_52 rfl rfl ?_
          rcases v112 with _ | a113
          · exact sm_unN
          refine sm_unS ?_
          refine sm_calli (pc' := 56) (sa := [qv (some a107), qv (some a113)]) (st := [qv (some a107)]) (iv_X10_205 a113 (some a107)) (Nat.le_of_ble_eq_true rfl) dX10_best_53 rfl (Nat.le_of_ble_eq_true rfl) (fun v114 => ?_)
          refine sm_putI (pc' := 59) (gk_X10_208 _ _ _ _ _) ti_4_8 dX10_best_56 rfl ?_
          refine sm_aload_n (pc' := 60) dX10_best_59 rfl rfl ?_
          refine sm_iconst (pc' := 61) (1 : Int32) dX10_best_60 (by decide) rfl ?_
          refine sm_putZ (pc' := 64) (gk_X10_201 _ _ _ _ _) tz_4_7 dX10_best_61 rfl ?_
          refine sm_sub [2, 0] rfl ?_
          exact hk109
  · skip
    refine sm_ldc (pc' := 11) (-1000001 : Int32) w_189 dX10_best_9 rfl ?_
    exact sm_ireturn rfl dX10_best_11
theorem kX10_best (th : Nat) (a1 : Int32) : Callee 5 yX10_best cX10_best 4 (some .int) [qv (some th), iv a1] vI (pX10_best th a1) := callee_ofS [(0, qv (some th)), (1, iv a1)] (by decide +kernel) (Nat.le_of_ble_eq_true rfl) rfl (sX10_best th a1)
/-! HollowPress$Runners.grow(III)I -/
abbrev eX6_grow : Env0 := (RX6, "grow", cX6_grow, 4, (some .int), 0)
def pX6_grow (th : Nat) (a1 : Int32) (a2 : Int32) (a3 : Int32) : Prg Int32 :=
    gI 7 th 4 fun v101 =>
    (if v101 < (8 : Int32) then gF 7 th 0 fun v102 =>
    gI 7 th 4 fun v103 =>
    un v102 fun a104 =>
    stI a104 v103 a1 (
    gF 7 th 1 fun v105 =>
    gI 7 th 4 fun v106 =>
    un v105 fun a107 =>
    stI a107 v106 a2 (
    gF 7 th 2 fun v108 =>
    gI 7 th 4 fun v109 =>
    un v108 fun a110 =>
    stI a110 v109 a3 (
    gF 7 th 3 fun v111 =>
    gI 7 th 4 fun v112 =>
    un v111 fun a113 =>
    stF a113 v112 none (
    gI 7 th 4 fun v114 =>
    pI 7 th 4 (v114 + (1 : Int32)) (
    gI 7 th 4 fun v115 =>
    rt (v115 - (1 : Int32)))))))
    else rt (-1000003 : Int32))
set_option maxRecDepth 20000 in
theorem sX6_grow (th : Nat) (a1 : Int32) (a2 : Int32) (a3 : Int32) : Sim eX6_grow vI 0 [(0, qv (some th)), (1, iv a1), (2, iv a2), (3, iv a3)] [] (pX6_grow th a1 a2 a3) := by
  unfold pX6_grow
  refine sm_aload_n (pc' := 1) dX6_grow_0 rfl rfl ?_
  refine sm_getI (pc' := 4) fk_X6_27 nr_7_4 dX6_grow_1 rfl (fun v101 => ?_)
  refine sm_bipush (pc' := 6) (8 : Int32) dX6_grow_4 (by decide) rfl ?_
  refine sm_icmp_lt (pc' := 9) (pc1 := 12) dX6_grow_6 (by decide) rfl (fun _ => ?_) (fun _ => ?_)
  · skip
    refine sm_aload_n (pc' := 13) dX6_grow_12 rfl rfl ?_
    refine sm_getF (pc' := 16) fk_X6_9 yr_7_0 dX6_grow_13 rfl (fun v102 => ?_)
    refine sm_aload_n (pc' := 17) dX6_grow_16 rfl rfl ?_
    refine sm_getI (pc' := 20) fk_X6_27 nr_7_4 dX6_grow_17 rfl (fun v103 => ?_)
    refine sm_iload_n (pc' := 21) dX6_grow_20 rfl rfl ?_
    rcases v102 with _ | a104
    · exact sm_unN
    refine sm_unS ?_
    refine sm_iastore (pc' := 22) dX6_grow_21 rfl ?_
    refine sm_aload_n (pc' := 23) dX6_grow_22 rfl rfl ?_
    refine sm_getF (pc' := 26) fk_X6_15 yr_7_1 dX6_grow_23 rfl (fun v105 => ?_)
    refine sm_aload_n (pc' := 27) dX6_grow_26 rfl rfl ?_
    refine sm_getI (pc' := 30) fk_X6_27 nr_7_4 dX6_grow_27 rfl (fun v106 => ?_)
    refine sm_iload_n (pc' := 31) dX6_grow_30 rfl rfl ?_
    rcases v105 with _ | a107
    · exact sm_unN
    refine sm_unS ?_
    refine sm_iastore (pc' := 32) dX6_grow_31 rfl ?_
    refine sm_aload_n (pc' := 33) dX6_grow_32 rfl rfl ?_
    refine sm_getF (pc' := 36) fk_X6_18 yr_7_2 dX6_grow_33 rfl (fun v108 => ?_)
    refine sm_aload_n (pc' := 37) dX6_grow_36 rfl rfl ?_
    refine sm_getI (pc' := 40) fk_X6_27 nr_7_4 dX6_grow_37 rfl (fun v109 => ?_)
    refine sm_iload_n (pc' := 41) dX6_grow_40 rfl rfl ?_
    rcases v108 with _ | a110
    · exact sm_unN
    refine sm_unS ?_
    refine sm_iastore (pc' := 42) dX6_grow_41 rfl ?_
    refine sm_aload_n (pc' := 43) dX6_grow_42 rfl rfl ?_
    refine sm_getF (pc' := 46) fk_X6_23 yr_7_3 dX6_grow_43 rfl (fun v111 => ?_)
    refine sm_aload_n (pc' := 47) dX6_grow_46 rfl rfl ?_
    refine sm_getI (pc' := 50) fk_X6_27 nr_7_4 dX6_grow_47 rfl (fun v112 => ?_)
    refine sm_null (pc' := 51) dX6_grow_50 rfl ?_
    rcases v111 with _ | a113
    · exact sm_unN
    refine sm_unS ?_
    refine sm_aastore (pc' := 52) dX6_grow_51 rfl ?_
    refine sm_aload_n (pc' := 53) dX6_grow_52 rfl rfl ?_
    refine sm_dup (pc' := 54) dX6_grow_53 rfl rfl ?_
    refine sm_getI (pc' := 57) fk_X6_27 nr_7_4 dX6_grow_54 rfl (fun v114 => ?_)
    refine sm_iconst (pc' := 58) (1 : Int32) dX6_grow_57 (by decide) rfl ?_
    refine sm_iadd (pc' := 59) dX6_grow_58 rfl ?_
    refine sm_putI (pc' := 62) (gk_X6_27 _ _ _ _ _) ti_7_4 dX6_grow_59 rfl ?_
    refine sm_aload_n (pc' := 63) dX6_grow_62 rfl rfl ?_
    refine sm_getI (pc' := 66) fk_X6_27 nr_7_4 dX6_grow_63 rfl (fun v115 => ?_)
    refine sm_iconst (pc' := 67) (1 : Int32) dX6_grow_66 (by decide) rfl ?_
    refine sm_isub (pc' := 68) dX6_grow_67 rfl ?_
    exact sm_ireturn rfl dX6_grow_68
  · skip
    refine sm_ldc (pc' := 11) (-1000003 : Int32) w_291 dX6_grow_9 rfl ?_
    exact sm_ireturn rfl dX6_grow_11
theorem kX6_grow (th : Nat) (a1 : Int32) (a2 : Int32) (a3 : Int32) : Callee 0 yX6_grow cX6_grow 4 (some .int) [qv (some th), iv a1, iv a2, iv a3] vI (pX6_grow th a1 a2 a3) := callee_ofS [(0, qv (some th)), (1, iv a1), (2, iv a2), (3, iv a3)] (by decide +kernel) (Nat.le_of_ble_eq_true rfl) rfl (sX6_grow th a1 a2 a3)
