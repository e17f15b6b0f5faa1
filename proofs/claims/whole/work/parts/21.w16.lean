/-! HollowPressModel.plan()I -/
set_option maxRecDepth 20000 in
theorem iv_X11_268 (a : Nat) (x0 : Int32) : Inv RX11 2 (.invokevirtual 268) [iv x0, qv (some a)] vU (onT a 11 (pX11_putInOrder a x0)) := inv_V (As := [iv x0]) (t := 11) (kX11_putInOrder a x0) _ (by decide) rfl rfl w_742 w_743 w_744 w_585 w_745 ⟨by decide +kernel, by decide +kernel, by show _ = some 1; decide +kernel⟩ (by decide)
abbrev eX11_plan : Env0 := (RX11, "plan", cX11_plan, 5, (some .int), 2)
def pX11_plan_L12 (th : Nat) (k102 : Prg Int32) : Nat → Int32 → Prg Int32
  | 0, _ => fl
  | n + 1, v101 =>
    gI 11 th 33 fun v103 =>
    (if v103 ≤ v101 then k102
    else gF 11 th 41 fun v104 =>
    un v104 fun a105 =>
    stI a105 v101 (0 : Int32) (
    pX11_plan_L12 th k102 n (v101 + (1 : Int32))))
def pX11_plan_L51 (th : Nat) (v106 : Int32) (v107 : Int32) (k112 : Int32 → Prg Int32) : Nat → Int32 → Int32 → Prg Int32
  | 0, _, _ => fl
  | n + 1, v110, v111 =>
    gI 11 th 33 fun v113 =>
    (if v113 ≤ v111 then k112 v110
    else gF 11 th 34 fun v114 =>
    un v114 fun a115 =>
    ldI a115 v111 fun v116 =>
    gF 11 th 36 fun v117 =>
    un v117 fun a118 =>
    ldI a118 v107 fun v119 =>
    (lt (fun (v120 : Int32) => pX11_plan_L51 th v106 v107 k112 n v120 (v111 + (1 : Int32)) : Int32 → Prg Int32) fun k121 =>
    (if v116 < v119 then k121 v110
    else (lt (k121 v111 : Prg Int32) fun k122 =>
    (if v110 = (-1000000 : Int32) then k122
    else cl (onT th 11 (pX11_times th v111)) fun v123 =>
    cl (onT th 11 (pX11_times th v110)) fun v124 =>
    (if v124 ≤ v123 then k121 v110
    else k122))))))
def pX11_plan_L37 (th : Nat) (k108 : Int32 → Prg Int32) : Nat → Int32 → Int32 → Prg Int32
  | 0, _, _ => fl
  | n + 1, v106, v107 =>
    gI 11 th 35 fun v109 =>
    (if v109 ≤ v107 then k108 v106
    else pX11_plan_L51 th v106 v107 (fun (v125 : Int32) => (lt (fun (v126 : Int32) => pX11_plan_L37 th k108 n v126 (v107 + (1 : Int32)) : Int32 → Prg Int32) fun k127 =>
    (if v125 = (-1000000 : Int32) then k127 (v106 + (1 : Int32))
    else gF 11 th 40 fun v128 =>
    gF 11 th 41 fun v129 =>
    un v129 fun a130 =>
    ldI a130 v125 fun v131 =>
    un v128 fun a132 =>
    stI a132 (((12 : Int32) * v125) + v131) v107 (
    gF 11 th 41 fun v133 =>
    un v133 fun a134 =>
    ldI a134 v125 fun v135 =>
    stI a134 v125 (v135 + (1 : Int32)) (
    k127 v106))))) FL (-1000000 : Int32) (0 : Int32))
def pX11_plan_L152 (th : Nat) (v136 : Int32) (k138 : Prg Int32) : Nat → Int32 → Prg Int32
  | 0, _ => fl
  | n + 1, v137 =>
    gI 11 th 33 fun v139 =>
    (if v139 ≤ v137 then k138
    else cl (onT th 11 (pX11_putInOrder th v137)) fun _ =>
    pX11_plan_L152 th v136 k138 n (v137 + (1 : Int32)))
def pX11_plan (th : Nat) : Prg Int32 :=
    pI 11 th 0 (0 : Int32) (
    pZ 11 th 39 (1 : Int32) (
    pX11_plan_L12 th (pX11_plan_L37 th (fun (v136 : Int32) => pX11_plan_L152 th v136 (rt v136) FL (0 : Int32)) FL (0 : Int32) (0 : Int32)) FL (0 : Int32)))
set_option maxRecDepth 20000 in
theorem sX11_plan_L12 (th : Nat) (k102 : Prg Int32) (hk102 : Sim eX11_plan vI 33 [(0, qv (some th))] [] (k102)) : ∀ (n : Nat), ∀ (v101 : Int32), Sim eX11_plan vI 12 [(0, qv (some th)), (1, iv v101)] [] (pX11_plan_L12 th k102 n v101) := by
  intro n
  induction n with
  | zero =>
    intros
    exact sm_fl
  | succ n ih =>
    intro v101
    unfold pX11_plan_L12
    refine sm_iload_n (pc' := 13) dX11_plan_12 rfl rfl ?_
    refine sm_aload_n (pc' := 14) dX11_plan_13 rfl rfl ?_
    refine sm_getI (pc' := 17) fk_X11_250 nr_11_33 dX11_plan_14 rfl (fun v103 => ?_)
    refine sm_icmp_ge (pc' := 20) (pc1 := 33) dX11_plan_17 (by decide) rfl (fun _ => ?_) (fun _ => ?_)
    · skip
      refine sm_sub [0] rfl ?_
      exact hk102
    · skip
      refine sm_aload_n (pc' := 21) dX11_plan_20 rfl rfl ?_
      refine sm_getF (pc' := 24) fk_X11_111 yr_11_41 dX11_plan_21 rfl (fun v104 => ?_)
      refine sm_iload_n (pc' := 25) dX11_plan_24 rfl rfl ?_
      refine sm_iconst (pc' := 26) (0 : Int32) dX11_plan_25 (by decide) rfl ?_
      rcases v104 with _ | a105
      · exact sm_unN
      refine sm_unS ?_
      refine sm_iastore (pc' := 27) dX11_plan_26 rfl ?_
      refine sm_iinc (pc' := 30) (v101 + (1 : Int32)) [(1, iv (v101 + (1 : Int32))), (0, qv (some th))] dX11_plan_27 rfl rfl (Nat.le_of_ble_eq_true rfl) rfl rfl ?_
      refine sm_goto (pc' := 12) dX11_plan_30 (by decide) ?_
      refine sm_sub [1, 0] rfl ?_
      exact ih (v101 + (1 : Int32))
set_option maxRecDepth 20000 in
theorem sX11_plan_L51 (th : Nat) (v106 : Int32) (v107 : Int32) (k112 : Int32 → Prg Int32) (hk112 : ∀ (q3 : Int32), Sim eX11_plan vI 105 [(0, qv (some th)), (1, iv v106), (2, iv v107), (3, iv q3)] [] (k112 q3)) : ∀ (n : Nat), ∀ (v110 : Int32) (v111 : Int32), Sim eX11_plan vI 51 [(0, qv (some th)), (1, iv v106), (2, iv v107), (3, iv v110), (4, iv v111)] [] (pX11_plan_L51 th v106 v107 k112 n v110 v111) := by
  intro n
  induction n with
  | zero =>
    intros
    exact sm_fl
  | succ n ih =>
    intro v110 v111
    unfold pX11_plan_L51
    refine sm_iload (pc' := 53) dX11_plan_51 rfl rfl ?_
    refine sm_aload_n (pc' := 54) dX11_plan_53 rfl rfl ?_
    refine sm_getI (pc' := 57) fk_X11_250 nr_11_33 dX11_plan_54 rfl (fun v113 => ?_)
    refine sm_icmp_ge (pc' := 60) (pc1 := 105) dX11_plan_57 (by decide) rfl (fun _ => ?_) (fun _ => ?_)
    · skip
      refine sm_sub [0, 1, 2, 3] rfl ?_
      exact hk112 v110
    · skip
      refine sm_aload_n (pc' := 61) dX11_plan_60 rfl rfl ?_
      refine sm_getF (pc' := 64) fk_X11_96 yr_11_34 dX11_plan_61 rfl (fun v114 => ?_)
      refine sm_iload (pc' := 66) dX11_plan_64 rfl rfl ?_
      rcases v114 with _ | a115
      · exact sm_unN
      refine sm_unS ?_
      refine sm_iaload (pc' := 67) dX11_plan_66 rfl (fun v116 => ?_)
      refine sm_aload_n (pc' := 68) dX11_plan_67 rfl rfl ?_
      refine sm_getF (pc' := 71) fk_X11_99 yr_11_36 dX11_plan_68 rfl (fun v117 => ?_)
      refine sm_iload_n (pc' := 72) dX11_plan_71 rfl rfl ?_
      rcases v117 with _ | a118
      · exact sm_unN
      refine sm_unS ?_
      refine sm_iaload (pc' := 73) dX11_plan_72 rfl (fun v119 => ?_)
      refine sm_lt (fun k121 => ∀ (v120 : Int32), Sim eX11_plan vI 99 [(0, qv (some th)), (1, iv v106), (2, iv v107), (3, iv v120), (4, iv v111)] [] (k121 v120)) ?_ (fun k121 hk121 => ?_)
      · intro v120
        refine sm_iinc (pc' := 102) (v111 + (1 : Int32)) [(4, iv (v111 + (1 : Int32))), (0, qv (some th)), (1, iv v106), (2, iv v107), (3, iv v120)] dX11_plan_99 rfl rfl (Nat.le_of_ble_eq_true rfl) rfl rfl ?_
        refine sm_goto (pc' := 51) dX11_plan_102 (by decide) ?_
        refine sm_sub [1, 2, 3, 4, 0] rfl ?_
        exact ih v120 (v111 + (1 : Int32))
      · skip
        refine sm_icmp_lt (pc' := 76) (pc1 := 99) dX11_plan_73 (by decide) rfl (fun _ => ?_) (fun _ => ?_)
        · skip
          exact hk121 v110
        · skip
          refine sm_iload_n (pc' := 77) dX11_plan_76 rfl rfl ?_
          refine sm_ldc (pc' := 79) (-1000000 : Int32) w_621 dX11_plan_77 rfl ?_
          refine sm_lt (fun k122 => Sim eX11_plan vI 96 [(0, qv (some th)), (1, iv v106), (2, iv v107), (4, iv v111)] [] (k122)) ?_ (fun k122 hk122 => ?_)
          · skip
            refine sm_iload (pc' := 98) dX11_plan_96 rfl rfl ?_
            refine sm_istore_n (pc' := 99) [(3, iv v111), (0, qv (some th)), (1, iv v106), (2, iv v107), (4, iv v111)] dX11_plan_98 rfl (Nat.le_of_ble_eq_true rfl) rfl rfl ?_
            refine sm_sub [1, 2, 3, 0, 4] rfl ?_
            exact hk121 v111
          · skip
            refine sm_icmp_eq (pc' := 82) (pc1 := 96) dX11_plan_79 (by decide) rfl (fun _ => ?_) (fun _ => ?_)
            · skip
              refine sm_sub [0, 1, 2, 4] rfl ?_
              exact hk122
            · skip
              refine sm_aload_n (pc' := 83) dX11_plan_82 rfl rfl ?_
              refine sm_iload (pc' := 85) dX11_plan_83 rfl rfl ?_
              refine sm_calli (pc' := 88) (sa := [iv v111, qv (some th)]) (st := []) (iv_X11_265 th v111) (Nat.le_of_ble_eq_true rfl) dX11_plan_85 rfl (Nat.le_of_ble_eq_true rfl) (fun v123 => ?_)
              refine sm_aload_n (pc' := 89) dX11_plan_88 rfl rfl ?_
              refine sm_iload_n (pc' := 90) dX11_plan_89 rfl rfl ?_
              refine sm_calli (pc' := 93) (sa := [iv v110, qv (some th)]) (st := [iv v123]) (iv_X11_265 th v110) (Nat.le_of_ble_eq_true rfl) dX11_plan_90 rfl (Nat.le_of_ble_eq_true rfl) (fun v124 => ?_)
              refine sm_icmp_ge (pc' := 96) (pc1 := 99) dX11_plan_93 (by decide) rfl (fun _ => ?_) (fun _ => ?_)
              · skip
                exact hk121 v110
              · skip
                refine sm_sub [0, 1, 2, 4] rfl ?_
                exact hk122
set_option maxRecDepth 20000 in
theorem sX11_plan_L37 (th : Nat) (k108 : Int32 → Prg Int32) (hk108 : ∀ (q1 : Int32), Sim eX11_plan vI 150 [(0, qv (some th)), (1, iv q1)] [] (k108 q1)) : ∀ (n : Nat), ∀ (v106 : Int32) (v107 : Int32), Sim eX11_plan vI 37 [(0, qv (some th)), (1, iv v106), (2, iv v107)] [] (pX11_plan_L37 th k108 n v106 v107) := by
  intro n
  induction n with
  | zero =>
    intros
    exact sm_fl
  | succ n ih =>
    intro v106 v107
    unfold pX11_plan_L37
    refine sm_iload_n (pc' := 38) dX11_plan_37 rfl rfl ?_
    refine sm_aload_n (pc' := 39) dX11_plan_38 rfl rfl ?_
    refine sm_getI (pc' := 42) fk_X11_259 nr_11_35 dX11_plan_39 rfl (fun v109 => ?_)
    refine sm_icmp_ge (pc' := 45) (pc1 := 150) dX11_plan_42 (by decide) rfl (fun _ => ?_) (fun _ => ?_)
    · skip
      refine sm_sub [0, 1] rfl ?_
      exact hk108 v106
    · skip
      refine sm_ldc (pc' := 47) (-1000000 : Int32) w_621 dX11_plan_45 rfl ?_
      refine sm_istore_n (pc' := 48) [(3, iv (-1000000 : Int32)), (0, qv (some th)), (1, iv v106), (2, iv v107)] dX11_plan_47 rfl (Nat.le_of_ble_eq_true rfl) rfl rfl ?_
      refine sm_iconst (pc' := 49) (0 : Int32) dX11_plan_48 (by decide) rfl ?_
      refine sm_istore (pc' := 51) [(4, iv (0 : Int32)), (3, iv (-1000000 : Int32)), (0, qv (some th)), (1, iv v106), (2, iv v107)] dX11_plan_49  (Nat.le_of_ble_eq_true rfl) rfl rfl ?_
      refine sm_sub [2, 3, 4, 1, 0] rfl ?_
      refine sX11_plan_L51 th v106 v107 _ ?_ FL (-1000000 : Int32) (0 : Int32)
      · intro v125
        refine sm_iload_n (pc' := 106) dX11_plan_105 rfl rfl ?_
        refine sm_ldc (pc' := 108) (-1000000 : Int32) w_621 dX11_plan_106 rfl ?_
        refine sm_lt (fun k127 => ∀ (v126 : Int32), Sim eX11_plan vI 144 [(0, qv (some th)), (1, iv v126), (2, iv v107)] [] (k127 v126)) ?_ (fun k127 hk127 => ?_)
        · intro v126
          refine sm_iinc (pc' := 147) (v107 + (1 : Int32)) [(2, iv (v107 + (1 : Int32))), (0, qv (some th)), (1, iv v126)] dX11_plan_144 rfl rfl (Nat.le_of_ble_eq_true rfl) rfl rfl ?_
          refine sm_goto (pc' := 37) dX11_plan_147 (by decide) ?_
          refine sm_sub [1, 2, 0] rfl ?_
          exact ih v126 (v107 + (1 : Int32))
        · skip
          refine sm_icmp_ne (pc' := 111) (pc1 := 117) dX11_plan_108 (by decide) rfl (fun _ => ?_) (fun _ => ?_)
          · skip
            refine sm_aload_n (pc' := 118) dX11_plan_117 rfl rfl ?_
            refine sm_getF (pc' := 121) fk_X11_108 yr_11_40 dX11_plan_118 rfl (fun v128 => ?_)
            refine sm_bipush (pc' := 123) (12 : Int32) dX11_plan_121 (by decide) rfl ?_
            refine sm_iload_n (pc' := 124) dX11_plan_123 rfl rfl ?_
            refine sm_imul (pc' := 125) dX11_plan_124 rfl ?_
            refine sm_aload_n (pc' := 126) dX11_plan_125 rfl rfl ?_
            refine sm_getF (pc' := 129) fk_X11_111 yr_11_41 dX11_plan_126 rfl (fun v129 => ?_)
            refine sm_iload_n (pc' := 130) dX11_plan_129 rfl rfl ?_
            rcases v129 with _ | a130
            · exact sm_unN
            refine sm_unS ?_
            refine sm_iaload (pc' := 131) dX11_plan_130 rfl (fun v131 => ?_)
            refine sm_iadd (pc' := 132) dX11_plan_131 rfl ?_
            refine sm_iload_n (pc' := 133) dX11_plan_132 rfl rfl ?_
            rcases v128 with _ | a132
            · exact sm_unN
            refine sm_unS ?_
            refine sm_iastore (pc' := 134) dX11_plan_133 rfl ?_
            refine sm_aload_n (pc' := 135) dX11_plan_134 rfl rfl ?_
            refine sm_getF (pc' := 138) fk_X11_111 yr_11_41 dX11_plan_135 rfl (fun v133 => ?_)
            refine sm_iload_n (pc' := 139) dX11_plan_138 rfl rfl ?_
            refine sm_dup2 (pc' := 140) dX11_plan_139 rfl rfl rfl ?_
            rcases v133 with _ | a134
            · exact sm_unN
            refine sm_unS ?_
            refine sm_iaload (pc' := 141) dX11_plan_140 rfl (fun v135 => ?_)
            refine sm_iconst (pc' := 142) (1 : Int32) dX11_plan_141 (by decide) rfl ?_
            refine sm_iadd (pc' := 143) dX11_plan_142 rfl ?_
            refine sm_iastore (pc' := 144) dX11_plan_143 rfl ?_
            refine sm_sub [0, 1, 2] rfl ?_
            exact hk127 v106
          · skip
            refine sm_iinc (pc' := 114) (v106 + (1 : Int32)) [(1, iv (v106 + (1 : Int32))), (0, qv (some th)), (2, iv v107), (3, iv v125)] dX11_plan_111 rfl rfl (Nat.le_of_ble_eq_true rfl) rfl rfl ?_
            refine sm_goto (pc' := 144) dX11_plan_114 (by decide) ?_
            refine sm_sub [1, 0, 2] rfl ?_
            exact hk127 (v106 + (1 : Int32))
set_option maxRecDepth 20000 in
theorem sX11_plan_L152 (th : Nat) (v136 : Int32) (k138 : Prg Int32) (hk138 : Sim eX11_plan vI 171 [(1, iv v136)] [] (k138)) : ∀ (n : Nat), ∀ (v137 : Int32), Sim eX11_plan vI 152 [(0, qv (some th)), (1, iv v136), (2, iv v137)] [] (pX11_plan_L152 th v136 k138 n v137) := by
  intro n
  induction n with
  | zero =>
    intros
    exact sm_fl
  | succ n ih =>
    intro v137
    unfold pX11_plan_L152
    refine sm_iload_n (pc' := 153) dX11_plan_152 rfl rfl ?_
    refine sm_aload_n (pc' := 154) dX11_plan_153 rfl rfl ?_
    refine sm_getI (pc' := 157) fk_X11_250 nr_11_33 dX11_plan_154 rfl (fun v139 => ?_)
    refine sm_icmp_ge (pc' := 160) (pc1 := 171) dX11_plan_157 (by decide) rfl (fun _ => ?_) (fun _ => ?_)
    · skip
      refine sm_sub [1] rfl ?_
      exact hk138
    · skip
      refine sm_aload_n (pc' := 161) dX11_plan_160 rfl rfl ?_
      refine sm_iload_n (pc' := 162) dX11_plan_161 rfl rfl ?_
      refine sm_callv (pc' := 165) (sa := [iv v137, qv (some th)]) (st := []) (iv_X11_268 th v137) (Nat.le_of_ble_eq_true rfl) dX11_plan_162 rfl (Nat.le_of_ble_eq_true rfl) (fun _ => ?_)
      refine sm_iinc (pc' := 168) (v137 + (1 : Int32)) [(2, iv (v137 + (1 : Int32))), (0, qv (some th)), (1, iv v136)] dX11_plan_165 rfl rfl (Nat.le_of_ble_eq_true rfl) rfl rfl ?_
      refine sm_goto (pc' := 152) dX11_plan_168 (by decide) ?_
      refine sm_sub [1, 2, 0] rfl ?_
      exact ih (v137 + (1 : Int32))
set_option maxRecDepth 20000 in
theorem sX11_plan (th : Nat) : Sim eX11_plan vI 0 [(0, qv (some th))] [] (pX11_plan th) := by
  unfold pX11_plan
  refine sm_aload_n (pc' := 1) dX11_plan_0 rfl rfl ?_
  refine sm_iconst (pc' := 2) (0 : Int32) dX11_plan_1 (by decide) rfl ?_
  refine sm_putI (pc' := 5) (gk_X11_124 _ _ _ _ _) ti_11_0 dX11_plan_2 rfl ?_
  refine sm_aload_n (pc' := 6) dX11_plan_5 rfl rfl ?_
  refine sm_iconst (pc' := 7) (1 : Int32) dX11_plan_6 (by decide) rfl ?_
  refine sm_putZ (pc' := 10) (gk_X11_253 _ _ _ _ _) tz_11_39 dX11_plan_7 rfl ?_
  refine sm_iconst (pc' := 11) (0 : Int32) dX11_plan_10 (by decide) rfl ?_
  refine sm_istore_n (pc' := 12) [(1, iv (0 : Int32)), (0, qv (some th))] dX11_plan_11 rfl (Nat.le_of_ble_eq_true rfl) rfl rfl ?_
  refine sm_sub [1, 0] rfl ?_
  refine sX11_plan_L12 th _ ?_ FL (0 : Int32)
  · skip
    refine sm_iconst (pc' := 34) (0 : Int32) dX11_plan_33 (by decide) rfl ?_
    refine sm_istore_n (pc' := 35) [(1, iv (0 : Int32)), (0, qv (some th))] dX11_plan_34 rfl (Nat.le_of_ble_eq_true rfl) rfl rfl ?_
    refine sm_iconst (pc' := 36) (0 : Int32) dX11_plan_35 (by decide) rfl ?_
    refine sm_istore_n (pc' := 37) [(2, iv (0 : Int32)), (1, iv (0 : Int32)), (0, qv (some th))] dX11_plan_36 rfl (Nat.le_of_ble_eq_true rfl) rfl rfl ?_
    refine sm_sub [2, 1, 0] rfl ?_
    refine sX11_plan_L37 th _ ?_ FL (0 : Int32) (0 : Int32)
    · intro v136
      refine sm_iconst (pc' := 151) (0 : Int32) dX11_plan_150 (by decide) rfl ?_
      refine sm_istore_n (pc' := 152) [(2, iv (0 : Int32)), (0, qv (some th)), (1, iv v136)] dX11_plan_151 rfl (Nat.le_of_ble_eq_true rfl) rfl rfl ?_
      refine sm_sub [1, 2, 0] rfl ?_
      refine sX11_plan_L152 th v136 _ ?_ FL (0 : Int32)
      · skip
        refine sm_iload_n (pc' := 172) dX11_plan_171 rfl rfl ?_
        exact sm_ireturn rfl dX11_plan_172
theorem kX11_plan (th : Nat) : Callee 2 yX11_plan cX11_plan 5 (some .int) [qv (some th)] vI (pX11_plan th) := callee_ofS [(0, qv (some th))] (by decide +kernel) (Nat.le_of_ble_eq_true rfl) rfl (sX11_plan th)
/-! HollowPressModel.planned(II)I -/
abbrev eX11_planned : Env0 := (RX11, "planned", cX11_planned, 3, (some .int), 1)
def pX11_planned (th : Nat) (a1 : Int32) (a2 : Int32) : Prg Int32 :=
    pI 11 th 0 (0 : Int32) (
    gI 11 th 33 fun v101 =>
    cl (pX11_in (Int32.toInt64 a1) (0 : Int64) (Int32.toInt64 (v101 - (1 : Int32)))) fun v102 =>
    (if v102 = 0 then rt (-1000001 : Int32)
    else gI 11 th 39 fun v103 =>
    (lt (fun (v104 : Int32) => rt v104 : Int32 → Prg Int32) fun k105 =>
    (lt (k105 (-1000000 : Int32) : Prg Int32) fun k106 =>
    (if v103 = 0 then k106
    else gF 11 th 41 fun v107 =>
    un v107 fun a108 =>
    ldI a108 a1 fun v109 =>
    cl (pX11_in (Int32.toInt64 a2) (0 : Int64) (Int32.toInt64 (v109 - (1 : Int32)))) fun v110 =>
    (if v110 = 0 then k106
    else gF 11 th 40 fun v111 =>
    un v111 fun a112 =>
    ldI a112 (((12 : Int32) * a1) + a2) fun v113 =>
    k105 v113))))))
set_option maxRecDepth 20000 in
theorem sX11_planned (th : Nat) (a1 : Int32) (a2 : Int32) : Sim eX11_planned vI 0 [(0, qv (some th)), (1, iv a1), (2, iv a2)] [] (pX11_planned th a1 a2) := by
  unfold pX11_planned
  refine sm_aload_n (pc' := 1) dX11_planned_0 rfl rfl ?_
  refine sm_iconst (pc' := 2) (0 : Int32) dX11_planned_1 (by decide) rfl ?_
  refine sm_putI (pc' := 5) (gk_X11_124 _ _ _ _ _) ti_11_0 dX11_planned_2 rfl ?_
  refine sm_iload_n (pc' := 6) dX11_planned_5 rfl rfl ?_
  refine sm_i2l (pc' := 7) dX11_planned_6 rfl ?_
  refine sm_lconst (pc' := 8) (0 : Int64) dX11_planned_7 (by decide) rfl ?_
  refine sm_aload_n (pc' := 9) dX11_planned_8 rfl rfl ?_
  refine sm_getI (pc' := 12) fk_X11_250 nr_11_33 dX11_planned_9 rfl (fun v101 => ?_)
  refine sm_iconst (pc' := 13) (1 : Int32) dX11_planned_12 (by decide) rfl ?_
  refine sm_isub (pc' := 14) dX11_planned_13 rfl ?_
  refine sm_i2l (pc' := 15) dX11_planned_14 rfl ?_
  refine sm_calli (pc' := 18) (sa := [jv (Int32.toInt64 (v101 - (1 : Int32))), jv (0 : Int64), jv (Int32.toInt64 a1)]) (st := []) (iv_X11_134 (Int32.toInt64 a1) (0 : Int64) (Int32.toInt64 (v101 - (1 : Int32)))) (Nat.le_of_ble_eq_true rfl) dX11_planned_15 rfl (Nat.le_of_ble_eq_true rfl) (fun v102 => ?_)
  refine sm_if_ne (pc' := 21) (pc1 := 24) dX11_planned_18 (by decide) rfl (fun _ => ?_) (fun _ => ?_)
  · skip
    refine sm_aload_n (pc' := 25) dX11_planned_24 rfl rfl ?_
    refine sm_getI (pc' := 28) fk_X11_253 nr_11_39 dX11_planned_25 rfl (fun v103 => ?_)
    refine sm_lt (fun k105 => ∀ (v104 : Int32), Sim eX11_planned vI 65 [] [iv v104] (k105 v104)) ?_ (fun k105 hk105 => ?_)
    · intro v104
      exact sm_ireturn rfl dX11_planned_65
    · skip
      refine sm_lt (fun k106 => Sim eX11_planned vI 63 [] [] (k106)) ?_ (fun k106 hk106 => ?_)
      · skip
        refine sm_ldc (pc' := 65) (-1000000 : Int32) w_621 dX11_planned_63 rfl ?_
        exact hk105 (-1000000 : Int32)
      · skip
        refine sm_if_eq (pc' := 31) (pc1 := 63) dX11_planned_28 (by decide) rfl (fun _ => ?_) (fun _ => ?_)
        · skip
          refine sm_sub [] rfl ?_
          exact hk106
        · skip
          refine sm_iload_n (pc' := 32) dX11_planned_31 rfl rfl ?_
          refine sm_i2l (pc' := 33) dX11_planned_32 rfl ?_
          refine sm_lconst (pc' := 34) (0 : Int64) dX11_planned_33 (by decide) rfl ?_
          refine sm_aload_n (pc' := 35) dX11_planned_34 rfl rfl ?_
          refine sm_getF (pc' := 38) fk_X11_111 yr_11_41 dX11_planned_35 rfl (fun v107 => ?_)
          refine sm_iload_n (pc' := 39) dX11_planned_38 rfl rfl ?_
          rcases v107 with _ | a108
          · exact sm_unN
          refine sm_unS ?_
          refine sm_iaload (pc' := 40) dX11_planned_39 rfl (fun v109 => ?_)
          refine sm_iconst (pc' := 41) (1 : Int32) dX11_planned_40 (by decide) rfl ?_
          refine sm_isub (pc' := 42) dX11_planned_41 rfl ?_
          refine sm_i2l (pc' := 43) dX11_planned_42 rfl ?_
          refine sm_calli (pc' := 46) (sa := [jv (Int32.toInt64 (v109 - (1 : Int32))), jv (0 : Int64), jv (Int32.toInt64 a2)]) (st := []) (iv_X11_134 (Int32.toInt64 a2) (0 : Int64) (Int32.toInt64 (v109 - (1 : Int32)))) (Nat.le_of_ble_eq_true rfl) dX11_planned_43 rfl (Nat.le_of_ble_eq_true rfl) (fun v110 => ?_)
          refine sm_if_eq (pc' := 49) (pc1 := 63) dX11_planned_46 (by decide) rfl (fun _ => ?_) (fun _ => ?_)
          · skip
            refine sm_sub [] rfl ?_
            exact hk106
          · skip
            refine sm_aload_n (pc' := 50) dX11_planned_49 rfl rfl ?_
            refine sm_getF (pc' := 53) fk_X11_108 yr_11_40 dX11_planned_50 rfl (fun v111 => ?_)
            refine sm_bipush (pc' := 55) (12 : Int32) dX11_planned_53 (by decide) rfl ?_
            refine sm_iload_n (pc' := 56) dX11_planned_55 rfl rfl ?_
            refine sm_imul (pc' := 57) dX11_planned_56 rfl ?_
            refine sm_iload_n (pc' := 58) dX11_planned_57 rfl rfl ?_
            refine sm_iadd (pc' := 59) dX11_planned_58 rfl ?_
            rcases v111 with _ | a112
            · exact sm_unN
            refine sm_unS ?_
            refine sm_iaload (pc' := 60) dX11_planned_59 rfl (fun v113 => ?_)
            refine sm_goto (pc' := 65) dX11_planned_60 (by decide) ?_
            refine sm_sub [] rfl ?_
            exact hk105 v113
  · skip
    refine sm_ldc (pc' := 23) (-1000001 : Int32) w_609 dX11_planned_21 rfl ?_
    exact sm_ireturn rfl dX11_planned_23
theorem kX11_planned (th : Nat) (a1 : Int32) (a2 : Int32) : Callee 1 yX11_planned cX11_planned 3 (some .int) [qv (some th), iv a1, iv a2] vI (pX11_planned th a1 a2) := callee_ofS [(0, qv (some th)), (1, iv a1), (2, iv a2)] (by decide +kernel) (Nat.le_of_ble_eq_true rfl) rfl (sX11_planned th a1 a2)
/-! HollowPressModel.press(I)I -/
abbrev eX11_press : Env0 := (RX11, "press", cX11_press, 2, (some .int), 1)
def pX11_press (th : Nat) (a1 : Int32) : Prg Int32 :=
    pI 11 th 0 (0 : Int32) (
    cl (pX11_in (Int32.toInt64 a1) (0 : Int64) (1000000 : Int64)) fun v101 =>
    (if v101 = 0 then rt (-1000001 : Int32)
    else gI 11 th 33 fun v102 =>
    (if v102 = (6 : Int32) then rt (-1000003 : Int32)
    else gF 11 th 34 fun v103 =>
    gI 11 th 33 fun v104 =>
    un v103 fun a105 =>
    stI a105 v104 a1 (
    gI 11 th 33 fun v106 =>
    pI 11 th 33 (v106 + (1 : Int32)) (
    pZ 11 th 39 (0 : Int32) (
    gI 11 th 33 fun v107 =>
    rt (v107 - (1 : Int32))))))))
set_option maxRecDepth 20000 in
theorem sX11_press (th : Nat) (a1 : Int32) : Sim eX11_press vI 0 [(0, qv (some th)), (1, iv a1)] [] (pX11_press th a1) := by
  unfold pX11_press
  refine sm_aload_n (pc' := 1) dX11_press_0 rfl rfl ?_
  refine sm_iconst (pc' := 2) (0 : Int32) dX11_press_1 (by decide) rfl ?_
  refine sm_putI (pc' := 5) (gk_X11_124 _ _ _ _ _) ti_11_0 dX11_press_2 rfl ?_
  refine sm_iload_n (pc' := 6) dX11_press_5 rfl rfl ?_
  refine sm_i2l (pc' := 7) dX11_press_6 rfl ?_
  refine sm_lconst (pc' := 8) (0 : Int64) dX11_press_7 (by decide) rfl ?_
  refine sm_ldc2 (pc' := 11) (1000000 : Int64) w_724 dX11_press_8 rfl ?_
  refine sm_calli (pc' := 14) (sa := [jv (1000000 : Int64), jv (0 : Int64), jv (Int32.toInt64 a1)]) (st := []) (iv_X11_134 (Int32.toInt64 a1) (0 : Int64) (1000000 : Int64)) (Nat.le_of_ble_eq_true rfl) dX11_press_11 rfl (Nat.le_of_ble_eq_true rfl) (fun v101 => ?_)
  refine sm_if_ne (pc' := 17) (pc1 := 20) dX11_press_14 (by decide) rfl (fun _ => ?_) (fun _ => ?_)
  · skip
    refine sm_aload_n (pc' := 21) dX11_press_20 rfl rfl ?_
    refine sm_getI (pc' := 24) fk_X11_250 nr_11_33 dX11_press_21 rfl (fun v102 => ?_)
    refine sm_bipush (pc' := 26) (6 : Int32) dX11_press_24 (by decide) rfl ?_
    refine sm_icmp_ne (pc' := 29) (pc1 := 32) dX11_press_26 (by decide) rfl (fun _ => ?_) (fun _ => ?_)
    · skip
      refine sm_aload_n (pc' := 33) dX11_press_32 rfl rfl ?_
      refine sm_getF (pc' := 36) fk_X11_96 yr_11_34 dX11_press_33 rfl (fun v103 => ?_)
      refine sm_aload_n (pc' := 37) dX11_press_36 rfl rfl ?_
      refine sm_getI (pc' := 40) fk_X11_250 nr_11_33 dX11_press_37 rfl (fun v104 => ?_)
      refine sm_iload_n (pc' := 41) dX11_press_40 rfl rfl ?_
      rcases v103 with _ | a105
      · exact sm_unN
      refine sm_unS ?_
      refine sm_iastore (pc' := 42) dX11_press_41 rfl ?_
      refine sm_aload_n (pc' := 43) dX11_press_42 rfl rfl ?_
      refine sm_dup (pc' := 44) dX11_press_43 rfl rfl ?_
      refine sm_getI (pc' := 47) fk_X11_250 nr_11_33 dX11_press_44 rfl (fun v106 => ?_)
      refine sm_iconst (pc' := 48) (1 : Int32) dX11_press_47 (by decide) rfl ?_
      refine sm_iadd (pc' := 49) dX11_press_48 rfl ?_
      refine sm_putI (pc' := 52) (gk_X11_250 _ _ _ _ _) ti_11_33 dX11_press_49 rfl ?_
      refine sm_aload_n (pc' := 53) dX11_press_52 rfl rfl ?_
      refine sm_iconst (pc' := 54) (0 : Int32) dX11_press_53 (by decide) rfl ?_
      refine sm_putZ (pc' := 57) (gk_X11_253 _ _ _ _ _) tz_11_39 dX11_press_54 rfl ?_
      refine sm_aload_n (pc' := 58) dX11_press_57 rfl rfl ?_
      refine sm_getI (pc' := 61) fk_X11_250 nr_11_33 dX11_press_58 rfl (fun v107 => ?_)
      refine sm_iconst (pc' := 62) (1 : Int32) dX11_press_61 (by decide) rfl ?_
      refine sm_isub (pc' := 63) dX11_press_62 rfl ?_
      exact sm_ireturn rfl dX11_press_63
    · skip
      refine sm_ldc (pc' := 31) (-1000003 : Int32) w_688 dX11_press_29 rfl ?_
      exact sm_ireturn rfl dX11_press_31
  · skip
    refine sm_ldc (pc' := 19) (-1000001 : Int32) w_609 dX11_press_17 rfl ?_
    exact sm_ireturn rfl dX11_press_19
theorem kX11_press (th : Nat) (a1 : Int32) : Callee 1 yX11_press cX11_press 2 (some .int) [qv (some th), iv a1] vI (pX11_press th a1) := callee_ofS [(0, qv (some th)), (1, iv a1)] (by decide +kernel) (Nat.le_of_ble_eq_true rfl) rfl (sX11_press th a1)
/-! HollowPressModel.runners(I)I -/
abbrev eX11_runners : Env0 := (RX11, "runners", cX11_runners, 2, (some .int), 4)
def pX11_runners (th : Nat) (a1 : Int32) : Prg Int32 :=
    pI 11 th 0 (0 : Int32) (
    cl (pX11_in (Int32.toInt64 a1) (0 : Int64) (2 : Int64)) fun v101 =>
    (if v101 = 0 then rt (-1000001 : Int32)
    else cl (onT th 11 (pX11_findEnds th)) fun _ =>
    (lt (fun (v102 : Int32) => rt v102 : Int32 → Prg Int32) fun k103 =>
    (if a1 = 0 then cl (onT th 11 (pX11_spread th)) fun v106 =>
    k103 v106
    else (if a1 = (1 : Int32) then cl (onT th 11 (pX11_mass th)) fun v105 =>
    k103 v105
    else cl (onT th 11 (pX11_hanging th)) fun v104 =>
    k103 v104)))))
set_option maxRecDepth 20000 in
theorem sX11_runners (th : Nat) (a1 : Int32) : Sim eX11_runners vI 0 [(0, qv (some th)), (1, iv a1)] [] (pX11_runners th a1) := by
  unfold pX11_runners
  refine sm_aload_n (pc' := 1) dX11_runners_0 rfl rfl ?_
  refine sm_iconst (pc' := 2) (0 : Int32) dX11_runners_1 (by decide) rfl ?_
  refine sm_putI (pc' := 5) (gk_X11_124 _ _ _ _ _) ti_11_0 dX11_runners_2 rfl ?_
  refine sm_iload_n (pc' := 6) dX11_runners_5 rfl rfl ?_
  refine sm_i2l (pc' := 7) dX11_runners_6 rfl ?_
  refine sm_lconst (pc' := 8) (0 : Int64) dX11_runners_7 (by decide) rfl ?_
  refine sm_ldc2 (pc' := 11) (2 : Int64) w_727 dX11_runners_8 rfl ?_
  refine sm_calli (pc' := 14) (sa := [jv (2 : Int64), jv (0 : Int64), jv (Int32.toInt64 a1)]) (st := []) (iv_X11_134 (Int32.toInt64 a1) (0 : Int64) (2 : Int64)) (Nat.le_of_ble_eq_true rfl) dX11_runners_11 rfl (Nat.le_of_ble_eq_true rfl) (fun v101 => ?_)
  refine sm_if_ne (pc' := 17) (pc1 := 20) dX11_runners_14 (by decide) rfl (fun _ => ?_) (fun _ => ?_)
  · skip
    refine sm_aload_n (pc' := 21) dX11_runners_20 rfl rfl ?_
    refine sm_callv (pc' := 24) (sa := [qv (some th)]) (st := []) (iv_X11_229 th) (Nat.le_of_ble_eq_true rfl) dX11_runners_21 rfl (Nat.le_of_ble_eq_true rfl) (fun _ => ?_)
    refine sm_iload_n (pc' := 25) dX11_runners_24 rfl rfl ?_
    refine sm_lt (fun k103 => ∀ (v102 : Int32), Sim eX11_runners vI 51 [] [iv v102] (k103 v102)) ?_ (fun k103 hk103 => ?_)
    · intro v102
      exact sm_ireturn rfl dX11_runners_51
    · skip
      refine sm_if_ne (pc' := 28) (pc1 := 35) dX11_runners_25 (by decide) rfl (fun _ => ?_) (fun _ => ?_)
      · skip
        refine sm_iload_n (pc' := 36) dX11_runners_35 rfl rfl ?_
        refine sm_iconst (pc' := 37) (1 : Int32) dX11_runners_36 (by decide) rfl ?_
        refine sm_icmp_ne (pc' := 40) (pc1 := 47) dX11_runners_37 (by decide) rfl (fun _ => ?_) (fun _ => ?_)
        · skip
          refine sm_aload_n (pc' := 48) dX11_runners_47 rfl rfl ?_
          refine sm_calli (pc' := 51) (sa := [qv (some th)]) (st := []) (iv_X11_223 th) (Nat.le_of_ble_eq_true rfl) dX11_runners_48 rfl (Nat.le_of_ble_eq_true rfl) (fun v104 => ?_)
          refine sm_sub [] rfl ?_
          exact hk103 v104
        · skip
          refine sm_aload_n (pc' := 41) dX11_runners_40 rfl rfl ?_
          refine sm_calli (pc' := 44) (sa := [qv (some th)]) (st := []) (iv_X11_235 th) (Nat.le_of_ble_eq_true rfl) dX11_runners_41 rfl (Nat.le_of_ble_eq_true rfl) (fun v105 => ?_)
          refine sm_goto (pc' := 51) dX11_runners_44 (by decide) ?_
          refine sm_sub [] rfl ?_
          exact hk103 v105
      · skip
        refine sm_aload_n (pc' := 29) dX11_runners_28 rfl rfl ?_
        refine sm_calli (pc' := 32) (sa := [qv (some th)]) (st := []) (iv_X11_232 th) (Nat.le_of_ble_eq_true rfl) dX11_runners_29 rfl (Nat.le_of_ble_eq_true rfl) (fun v106 => ?_)
        refine sm_goto (pc' := 51) dX11_runners_32 (by decide) ?_
        refine sm_sub [] rfl ?_
        exact hk103 v106
  · skip
    refine sm_ldc (pc' := 19) (-1000001 : Int32) w_609 dX11_runners_17 rfl ?_
    exact sm_ireturn rfl dX11_runners_19
theorem kX11_runners (th : Nat) (a1 : Int32) : Callee 4 yX11_runners cX11_runners 2 (some .int) [qv (some th), iv a1] vI (pX11_runners th a1) := callee_ofS [(0, qv (some th)), (1, iv a1)] (by decide +kernel) (Nat.le_of_ble_eq_true rfl) rfl (sX11_runners th a1)
/-! HollowPressModel.set(IIJ)J -/
abbrev eX11_set : Env0 := (RX11, "set", cX11_set, 5, (some .long), 2)
def pX11_set (th : Nat) (a1 : Int32) (a2 : Int32) (a3 : Int64) : Prg Int64 :=
    pI 11 th 0 (0 : Int32) (
    cl (pX11_isSheet a1) fun v101 =>
    (if v101 = 0 then rt (-1000001 : Int64)
    else pI 11 th 1 (0 : Int32) (
    gF 11 th 2 fun v102 =>
    un v102 fun a103 =>
    ldI a103 a1 fun v104 =>
    (if 0 ≤ v104 then gF 11 th 3 fun v105 =>
    un v105 fun a106 =>
    ldI a106 a1 fun v107 =>
    cl (pX11_in (Int32.toInt64 a2) (0 : Int64) (Int32.toInt64 (v107 - (1 : Int32)))) fun v108 =>
    (if v108 = 0 then cl (onT th 11 (pX11_found th (2 : Int32))) fun v122 =>
    rt (Int32.toInt64 v122)
    else gF 11 th 4 fun v109 =>
    gF 11 th 2 fun v110 =>
    un v110 fun a111 =>
    ldI a111 a1 fun v112 =>
    (lt (fun (v113 : Int64) => un v109 fun a115 =>
    stJ a115 (((144 : Int32) * a1) + a2) v113 (
    gF 11 th 4 fun v116 =>
    un v116 fun a117 =>
    ldJ a117 (((144 : Int32) * a1) + a2) fun v118 =>
    rt v118) : Int64 → Prg Int64) fun k114 =>
    (if v112 = 0 then k114 (Int32.toInt64 (Int8.toInt32 (Int32.toInt8 (Int64.toInt32 a3))))
    else gF 11 th 2 fun v119 =>
    un v119 fun a120 =>
    ldI a120 a1 fun v121 =>
    (if v121 = (1 : Int32) then k114 (Int32.toInt64 (Int64.toInt32 a3))
    else k114 a3))))
    else cl (onT th 11 (pX11_found th (1 : Int32))) fun v123 =>
    rt (Int32.toInt64 v123)))))
set_option maxRecDepth 20000 in
theorem sX11_set (th : Nat) (a1 : Int32) (a2 : Int32) (a3 : Int64) : Sim eX11_set vL 0 [(0, qv (some th)), (1, iv a1), (2, iv a2), (3, jv a3)] [] (pX11_set th a1 a2 a3) := by
  unfold pX11_set
  refine sm_aload_n (pc' := 1) dX11_set_0 rfl rfl ?_
  refine sm_iconst (pc' := 2) (0 : Int32) dX11_set_1 (by decide) rfl ?_
  refine sm_putI (pc' := 5) (gk_X11_124 _ _ _ _ _) ti_11_0 dX11_set_2 rfl ?_
  refine sm_iload_n (pc' := 6) dX11_set_5 rfl rfl ?_
  refine sm_calli (pc' := 9) (sa := [iv a1]) (st := []) (iv_X11_138 a1) (Nat.le_of_ble_eq_true rfl) dX11_set_6 rfl (Nat.le_of_ble_eq_true rfl) (fun v101 => ?_)
  refine sm_if_ne (pc' := 12) (pc1 := 16) dX11_set_9 (by decide) rfl (fun _ => ?_) (fun _ => ?_)
  · skip
    refine sm_aload_n (pc' := 17) dX11_set_16 rfl rfl ?_
    refine sm_iconst (pc' := 18) (0 : Int32) dX11_set_17 (by decide) rfl ?_
    refine sm_putI (pc' := 21) (gk_X11_128 _ _ _ _ _) ti_11_1 dX11_set_18 rfl ?_
    refine sm_aload_n (pc' := 22) dX11_set_21 rfl rfl ?_
    refine sm_getF (pc' := 25) fk_X11_7 yr_11_2 dX11_set_22 rfl (fun v102 => ?_)
    refine sm_iload_n (pc' := 26) dX11_set_25 rfl rfl ?_
    rcases v102 with _ | a103
    · exact sm_unN
    refine sm_unS ?_
    refine sm_iaload (pc' := 27) dX11_set_26 rfl (fun v104 => ?_)
    refine sm_if_ge (pc' := 30) (pc1 := 37) dX11_set_27 (by decide) rfl (fun _ => ?_) (fun _ => ?_)
    · skip
      refine sm_iload_n (pc' := 38) dX11_set_37 rfl rfl ?_
      refine sm_i2l (pc' := 39) dX11_set_38 rfl ?_
      refine sm_lconst (pc' := 40) (0 : Int64) dX11_set_39 (by decide) rfl ?_
      refine sm_aload_n (pc' := 41) dX11_set_40 rfl rfl ?_
      refine sm_getF (pc' := 44) fk_X11_13 yr_11_3 dX11_set_41 rfl (fun v105 => ?_)
      refine sm_iload_n (pc' := 45) dX11_set_44 rfl rfl ?_
      rcases v105 with _ | a106
      · exact sm_unN
      refine sm_unS ?_
      refine sm_iaload (pc' := 46) dX11_set_45 rfl (fun v107 => ?_)
      refine sm_iconst (pc' := 47) (1 : Int32) dX11_set_46 (by decide) rfl ?_
      refine sm_isub (pc' := 48) dX11_set_47 rfl ?_
      refine sm_i2l (pc' := 49) dX11_set_48 rfl ?_
      refine sm_calli (pc' := 52) (sa := [jv (Int32.toInt64 (v107 - (1 : Int32))), jv (0 : Int64), jv (Int32.toInt64 a2)]) (st := []) (iv_X11_134 (Int32.toInt64 a2) (0 : Int64) (Int32.toInt64 (v107 - (1 : Int32)))) (Nat.le_of_ble_eq_true rfl) dX11_set_49 rfl (Nat.le_of_ble_eq_true rfl) (fun v108 => ?_)
      refine sm_if_ne (pc' := 55) (pc1 := 62) dX11_set_52 (by decide) rfl (fun _ => ?_) (fun _ => ?_)
      · skip
        refine sm_aload_n (pc' := 63) dX11_set_62 rfl rfl ?_
        refine sm_getF (pc' := 66) fk_X11_16 yr_11_4 dX11_set_63 rfl (fun v109 => ?_)
        refine sm_sipush (pc' := 69) (144 : Int32) dX11_set_66 (by decide) rfl ?_
        refine sm_iload_n (pc' := 70) dX11_set_69 rfl rfl ?_
        refine sm_imul (pc' := 71) dX11_set_70 rfl ?_
        refine sm_iload_n (pc' := 72) dX11_set_71 rfl rfl ?_
        refine sm_iadd (pc' := 73) dX11_set_72 rfl ?_
        refine sm_aload_n (pc' := 74) dX11_set_73 rfl rfl ?_
        refine sm_getF (pc' := 77) fk_X11_7 yr_11_2 dX11_set_74 rfl (fun v110 => ?_)
        refine sm_iload_n (pc' := 78) dX11_set_77 rfl rfl ?_
        rcases v110 with _ | a111
        · exact sm_unN
        refine sm_unS ?_
        refine sm_iaload (pc' := 79) dX11_set_78 rfl (fun v112 => ?_)
        refine sm_lt (fun k114 => ∀ (v113 : Int64), Sim eX11_set vL 106 [(0, qv (some th)), (1, iv a1), (2, iv a2)] [jv v113, iv (((144 : Int32) * a1) + a2), qv v109] (k114 v113)) ?_ (fun k114 hk114 => ?_)
        · intro v113
          rcases v109 with _ | a115
          · exact sm_unN
          refine sm_unS ?_
          refine sm_lastore (pc' := 107) dX11_set_106 rfl ?_
          refine sm_aload_n (pc' := 108) dX11_set_107 rfl rfl ?_
          refine sm_getF (pc' := 111) fk_X11_16 yr_11_4 dX11_set_108 rfl (fun v116 => ?_)
          refine sm_sipush (pc' := 114) (144 : Int32) dX11_set_111 (by decide) rfl ?_
          refine sm_iload_n (pc' := 115) dX11_set_114 rfl rfl ?_
          refine sm_imul (pc' := 116) dX11_set_115 rfl ?_
          refine sm_iload_n (pc' := 117) dX11_set_116 rfl rfl ?_
          refine sm_iadd (pc' := 118) dX11_set_117 rfl ?_
          rcases v116 with _ | a117
          · exact sm_unN
          refine sm_unS ?_
          refine sm_laload (pc' := 119) dX11_set_118 rfl (fun v118 => ?_)
          exact sm_lreturn rfl dX11_set_119
        · skip
          refine sm_if_ne (pc' := 82) (pc1 := 89) dX11_set_79 (by decide) rfl (fun _ => ?_) (fun _ => ?_)
          · skip
            refine sm_aload_n (pc' := 90) dX11_set_89 rfl rfl ?_
            refine sm_getF (pc' := 93) fk_X11_7 yr_11_2 dX11_set_90 rfl (fun v119 => ?_)
            refine sm_iload_n (pc' := 94) dX11_set_93 rfl rfl ?_
            rcases v119 with _ | a120
            · exact sm_unN
            refine sm_unS ?_
            refine sm_iaload (pc' := 95) dX11_set_94 rfl (fun v121 => ?_)
            refine sm_iconst (pc' := 96) (1 : Int32) dX11_set_95 (by decide) rfl ?_
            refine sm_icmp_ne (pc' := 99) (pc1 := 105) dX11_set_96 (by decide) rfl (fun _ => ?_) (fun _ => ?_)
            · skip
              refine sm_lload_n (pc' := 106) dX11_set_105 rfl rfl ?_
              refine sm_sub [0, 1, 2] rfl ?_
              exact hk114 a3
            · skip
              refine sm_lload_n (pc' := 100) dX11_set_99 rfl rfl ?_
              refine sm_l2i (pc' := 101) dX11_set_100 rfl ?_
              refine sm_i2l (pc' := 102) dX11_set_101 rfl ?_
              refine sm_goto (pc' := 106) dX11_set_102 (by decide) ?_
              refine sm_sub [0, 1, 2] rfl ?_
              exact hk114 (Int32.toInt64 (Int64.toInt32 a3))
          · skip
            refine sm_lload_n (pc' := 83) dX11_set_82 rfl rfl ?_
            refine sm_l2i (pc' := 84) dX11_set_83 rfl ?_
            refine sm_i2b (pc' := 85) dX11_set_84 rfl ?_
            refine sm_i2l (pc' := 86) dX11_set_85 rfl ?_
            refine sm_goto (pc' := 106) dX11_set_86 (by decide) ?_
            refine sm_sub [0, 1, 2] rfl ?_
            exact hk114 (Int32.toInt64 (Int8.toInt32 (Int32.toInt8 (Int64.toInt32 a3))))
      · skip
        refine sm_aload_n (pc' := 56) dX11_set_55 rfl rfl ?_
        refine sm_iconst (pc' := 57) (2 : Int32) dX11_set_56 (by decide) rfl ?_
        refine sm_calli (pc' := 60) (sa := [iv (2 : Int32), qv (some th)]) (st := []) (iv_X11_145 th (2 : Int32)) (Nat.le_of_ble_eq_true rfl) dX11_set_57 rfl (Nat.le_of_ble_eq_true rfl) (fun v122 => ?_)
        refine sm_i2l (pc' := 61) dX11_set_60 rfl ?_
        exact sm_lreturn rfl dX11_set_61
    · skip
      refine sm_aload_n (pc' := 31) dX11_set_30 rfl rfl ?_
      refine sm_iconst (pc' := 32) (1 : Int32) dX11_set_31 (by decide) rfl ?_
      refine sm_calli (pc' := 35) (sa := [iv (1 : Int32), qv (some th)]) (st := []) (iv_X11_145 th (1 : Int32)) (Nat.le_of_ble_eq_true rfl) dX11_set_32 rfl (Nat.le_of_ble_eq_true rfl) (fun v123 => ?_)
      refine sm_i2l (pc' := 36) dX11_set_35 rfl ?_
      exact sm_lreturn rfl dX11_set_36
  · skip
    refine sm_ldc2 (pc' := 15) (-1000001 : Int64) w_702 dX11_set_12 rfl ?_
    exact sm_lreturn rfl dX11_set_15
theorem kX11_set (th : Nat) (a1 : Int32) (a2 : Int32) (a3 : Int64) : Callee 2 yX11_set cX11_set 5 (some .long) [qv (some th), iv a1, iv a2, jv a3] vL (pX11_set th a1 a2 a3) := callee_ofS [(0, qv (some th)), (1, iv a1), (2, iv a2), (3, jv a3)] (by decide +kernel) (Nat.le_of_ble_eq_true rfl) rfl (sX11_set th a1 a2 a3)
/-! HollowPressModel.sheet(III)I -/
abbrev eX11_sheet : Env0 := (RX11, "sheet", cX11_sheet, 5, (some .int), 2)
def pX11_sheet_L66 (th : Nat) (a1 : Int32) (a3 : Int32) (k109 : Prg Int32) : Nat → Int32 → Prg Int32
  | 0, _ => fl
  | n + 1, v108 =>
    (if (144 : Int32) ≤ v108 then k109
    else gF 11 th 4 fun v110 =>
    un v110 fun a111 =>
    stJ a111 (((144 : Int32) * a1) + v108) (0 : Int64) (
    pX11_sheet_L66 th a1 a3 k109 n (v108 + (1 : Int32))))
def pX11_sheet (th : Nat) (a1 : Int32) (a2 : Int32) (a3 : Int32) : Prg Int32 :=
    pI 11 th 0 (0 : Int32) (
    cl (pX11_isSheet a1) fun v101 =>
    (lt (rt (-1000001 : Int32) : Prg Int32) fun k102 =>
    (if v101 = 0 then k102
    else cl (pX11_in (Int32.toInt64 a2) (0 : Int64) (2 : Int64)) fun v103 =>
    (if v103 = 0 then k102
    else (if a3 ≤ (144 : Int32) then pI 11 th 1 (0 : Int32) (
    (if 0 ≤ a3 then gF 11 th 2 fun v104 =>
    un v104 fun a105 =>
    stI a105 a1 a2 (
    gF 11 th 3 fun v106 =>
    un v106 fun a107 =>
    stI a107 a1 a3 (
    pX11_sheet_L66 th a1 a3 (rt a3) FL (0 : Int32)))
    else cl (onT th 11 (pX11_found th (4 : Int32))) fun v112 =>
    rt v112))
    else k102)))))
set_option maxRecDepth 20000 in
theorem sX11_sheet_L66 (th : Nat) (a1 : Int32) (a3 : Int32) (k109 : Prg Int32) (hk109 : Sim eX11_sheet vI 94 [(3, iv a3)] [] (k109)) : ∀ (n : Nat), ∀ (v108 : Int32), Sim eX11_sheet vI 66 [(0, qv (some th)), (1, iv a1), (3, iv a3), (4, iv v108)] [] (pX11_sheet_L66 th a1 a3 k109 n v108) := by
  intro n
  induction n with
  | zero =>
    intros
    exact sm_fl
  | succ n ih =>
    intro v108
    unfold pX11_sheet_L66
    refine sm_iload (pc' := 68) dX11_sheet_66 rfl rfl ?_
    refine sm_sipush (pc' := 71) (144 : Int32) dX11_sheet_68 (by decide) rfl ?_
    refine sm_icmp_ge (pc' := 74) (pc1 := 94) dX11_sheet_71 (by decide) rfl (fun _ => ?_) (fun _ => ?_)
    · skip
      refine sm_sub [2] rfl ?_
      exact hk109
    · skip
      refine sm_aload_n (pc' := 75) dX11_sheet_74 rfl rfl ?_
      refine sm_getF (pc' := 78) fk_X11_16 yr_11_4 dX11_sheet_75 rfl (fun v110 => ?_)
      refine sm_sipush (pc' := 81) (144 : Int32) dX11_sheet_78 (by decide) rfl ?_
      refine sm_iload_n (pc' := 82) dX11_sheet_81 rfl rfl ?_
      refine sm_imul (pc' := 83) dX11_sheet_82 rfl ?_
      refine sm_iload (pc' := 85) dX11_sheet_83 rfl rfl ?_
      refine sm_iadd (pc' := 86) dX11_sheet_85 rfl ?_
      refine sm_lconst (pc' := 87) (0 : Int64) dX11_sheet_86 (by decide) rfl ?_
      rcases v110 with _ | a111
      · exact sm_unN
      refine sm_unS ?_
      refine sm_lastore (pc' := 88) dX11_sheet_87 rfl ?_
      refine sm_iinc (pc' := 91) (v108 + (1 : Int32)) [(4, iv (v108 + (1 : Int32))), (0, qv (some th)), (1, iv a1), (3, iv a3)] dX11_sheet_88 rfl rfl (Nat.le_of_ble_eq_true rfl) rfl rfl ?_
      refine sm_goto (pc' := 66) dX11_sheet_91 (by decide) ?_
      refine sm_sub [1, 2, 3, 0] rfl ?_
      exact ih (v108 + (1 : Int32))
set_option maxRecDepth 20000 in
theorem sX11_sheet (th : Nat) (a1 : Int32) (a2 : Int32) (a3 : Int32) : Sim eX11_sheet vI 0 [(0, qv (some th)), (1, iv a1), (2, iv a2), (3, iv a3)] [] (pX11_sheet th a1 a2 a3) := by
  unfold pX11_sheet
  refine sm_aload_n (pc' := 1) dX11_sheet_0 rfl rfl ?_
  refine sm_iconst (pc' := 2) (0 : Int32) dX11_sheet_1 (by decide) rfl ?_
  refine sm_putI (pc' := 5) (gk_X11_124 _ _ _ _ _) ti_11_0 dX11_sheet_2 rfl ?_
  refine sm_iload_n (pc' := 6) dX11_sheet_5 rfl rfl ?_
  refine sm_calli (pc' := 9) (sa := [iv a1]) (st := []) (iv_X11_138 a1) (Nat.le_of_ble_eq_true rfl) dX11_sheet_6 rfl (Nat.le_of_ble_eq_true rfl) (fun v101 => ?_)
  refine sm_lt (fun k102 => Sim eX11_sheet vI 31 [] [] (k102)) ?_ (fun k102 hk102 => ?_)
  · skip
    refine sm_ldc (pc' := 33) (-1000001 : Int32) w_609 dX11_sheet_31 rfl ?_
    exact sm_ireturn rfl dX11_sheet_33
  · skip
    refine sm_if_eq (pc' := 12) (pc1 := 31) dX11_sheet_9 (by decide) rfl (fun _ => ?_) (fun _ => ?_)
    · skip
      refine sm_sub [] rfl ?_
      exact hk102
    · skip
      refine sm_iload_n (pc' := 13) dX11_sheet_12 rfl rfl ?_
      refine sm_i2l (pc' := 14) dX11_sheet_13 rfl ?_
      refine sm_lconst (pc' := 15) (0 : Int64) dX11_sheet_14 (by decide) rfl ?_
      refine sm_ldc2 (pc' := 18) (2 : Int64) w_727 dX11_sheet_15 rfl ?_
      refine sm_calli (pc' := 21) (sa := [jv (2 : Int64), jv (0 : Int64), jv (Int32.toInt64 a2)]) (st := []) (iv_X11_134 (Int32.toInt64 a2) (0 : Int64) (2 : Int64)) (Nat.le_of_ble_eq_true rfl) dX11_sheet_18 rfl (Nat.le_of_ble_eq_true rfl) (fun v103 => ?_)
      refine sm_if_eq (pc' := 24) (pc1 := 31) dX11_sheet_21 (by decide) rfl (fun _ => ?_) (fun _ => ?_)
      · skip
        refine sm_sub [] rfl ?_
        exact hk102
      · skip
        refine sm_iload_n (pc' := 25) dX11_sheet_24 rfl rfl ?_
        refine sm_sipush (pc' := 28) (144 : Int32) dX11_sheet_25 (by decide) rfl ?_
        refine sm_icmp_le (pc' := 31) (pc1 := 34) dX11_sheet_28 (by decide) rfl (fun _ => ?_) (fun _ => ?_)
        · skip
          refine sm_aload_n (pc' := 35) dX11_sheet_34 rfl rfl ?_
          refine sm_iconst (pc' := 36) (0 : Int32) dX11_sheet_35 (by decide) rfl ?_
          refine sm_putI (pc' := 39) (gk_X11_128 _ _ _ _ _) ti_11_1 dX11_sheet_36 rfl ?_
          refine sm_iload_n (pc' := 40) dX11_sheet_39 rfl rfl ?_
          refine sm_if_ge (pc' := 43) (pc1 := 49) dX11_sheet_40 (by decide) rfl (fun _ => ?_) (fun _ => ?_)
          · skip
            refine sm_aload_n (pc' := 50) dX11_sheet_49 rfl rfl ?_
            refine sm_getF (pc' := 53) fk_X11_7 yr_11_2 dX11_sheet_50 rfl (fun v104 => ?_)
            refine sm_iload_n (pc' := 54) dX11_sheet_53 rfl rfl ?_
            refine sm_iload_n (pc' := 55) dX11_sheet_54 rfl rfl ?_
            rcases v104 with _ | a105
            · exact sm_unN
            refine sm_unS ?_
            refine sm_iastore (pc' := 56) dX11_sheet_55 rfl ?_
            refine sm_aload_n (pc' := 57) dX11_sheet_56 rfl rfl ?_
            refine sm_getF (pc' := 60) fk_X11_13 yr_11_3 dX11_sheet_57 rfl (fun v106 => ?_)
            refine sm_iload_n (pc' := 61) dX11_sheet_60 rfl rfl ?_
            refine sm_iload_n (pc' := 62) dX11_sheet_61 rfl rfl ?_
            rcases v106 with _ | a107
            · exact sm_unN
            refine sm_unS ?_
            refine sm_iastore (pc' := 63) dX11_sheet_62 rfl ?_
            refine sm_iconst (pc' := 64) (0 : Int32) dX11_sheet_63 (by decide) rfl ?_
            refine sm_istore (pc' := 66) [(4, iv (0 : Int32)), (0, qv (some th)), (1, iv a1), (2, iv a2), (3, iv a3)] dX11_sheet_64  (Nat.le_of_ble_eq_true rfl) rfl rfl ?_
            refine sm_sub [1, 2, 4, 0] rfl ?_
            refine sX11_sheet_L66 th a1 a3 _ ?_ FL (0 : Int32)
            · skip
              refine sm_iload_n (pc' := 95) dX11_sheet_94 rfl rfl ?_
              exact sm_ireturn rfl dX11_sheet_95
          · skip
            refine sm_aload_n (pc' := 44) dX11_sheet_43 rfl rfl ?_
            refine sm_iconst (pc' := 45) (4 : Int32) dX11_sheet_44 (by decide) rfl ?_
            refine sm_calli (pc' := 48) (sa := [iv (4 : Int32), qv (some th)]) (st := []) (iv_X11_145 th (4 : Int32)) (Nat.le_of_ble_eq_true rfl) dX11_sheet_45 rfl (Nat.le_of_ble_eq_true rfl) (fun v112 => ?_)
            exact sm_ireturn rfl dX11_sheet_48
        · skip
          refine sm_sub [] rfl ?_
          exact hk102
theorem kX11_sheet (th : Nat) (a1 : Int32) (a2 : Int32) (a3 : Int32) : Callee 2 yX11_sheet cX11_sheet 5 (some .int) [qv (some th), iv a1, iv a2, iv a3] vI (pX11_sheet th a1 a2 a3) := callee_ofS [(0, qv (some th)), (1, iv a1), (2, iv a2), (3, iv a3)] (by decide +kernel) (Nat.le_of_ble_eq_true rfl) rfl (sX11_sheet th a1 a2 a3)
/-! HollowPressModel.size(I)I -/
abbrev eX11_size : Env0 := (RX11, "size", cX11_size, 2, (some .int), 1)
def pX11_size (th : Nat) (a1 : Int32) : Prg Int32 :=
    pI 11 th 0 (0 : Int32) (
    gI 11 th 24 fun v101 =>
    cl (pX11_in (Int32.toInt64 a1) (0 : Int64) (Int32.toInt64 (v101 - (1 : Int32)))) fun v102 =>
    (lt (fun (v103 : Int32) => rt v103 : Int32 → Prg Int32) fun k104 =>
    (if v102 = 0 then k104 (-1000001 : Int32)
    else gF 11 th 27 fun v105 =>
    un v105 fun a106 =>
    ldI a106 a1 fun v107 =>
    k104 v107)))
set_option maxRecDepth 20000 in
theorem sX11_size (th : Nat) (a1 : Int32) : Sim eX11_size vI 0 [(0, qv (some th)), (1, iv a1)] [] (pX11_size th a1) := by
  unfold pX11_size
  refine sm_aload_n (pc' := 1) dX11_size_0 rfl rfl ?_
  refine sm_iconst (pc' := 2) (0 : Int32) dX11_size_1 (by decide) rfl ?_
  refine sm_putI (pc' := 5) (gk_X11_124 _ _ _ _ _) ti_11_0 dX11_size_2 rfl ?_
  refine sm_iload_n (pc' := 6) dX11_size_5 rfl rfl ?_
  refine sm_i2l (pc' := 7) dX11_size_6 rfl ?_
  refine sm_lconst (pc' := 8) (0 : Int64) dX11_size_7 (by decide) rfl ?_
  refine sm_aload_n (pc' := 9) dX11_size_8 rfl rfl ?_
  refine sm_getI (pc' := 12) fk_X11_218 nr_11_24 dX11_size_9 rfl (fun v101 => ?_)
  refine sm_iconst (pc' := 13) (1 : Int32) dX11_size_12 (by decide) rfl ?_
  refine sm_isub (pc' := 14) dX11_size_13 rfl ?_
  refine sm_i2l (pc' := 15) dX11_size_14 rfl ?_
  refine sm_calli (pc' := 18) (sa := [jv (Int32.toInt64 (v101 - (1 : Int32))), jv (0 : Int64), jv (Int32.toInt64 a1)]) (st := []) (iv_X11_134 (Int32.toInt64 a1) (0 : Int64) (Int32.toInt64 (v101 - (1 : Int32)))) (Nat.le_of_ble_eq_true rfl) dX11_size_15 rfl (Nat.le_of_ble_eq_true rfl) (fun v102 => ?_)
  refine sm_lt (fun k104 => ∀ (v103 : Int32), Sim eX11_size vI 32 [] [iv v103] (k104 v103)) ?_ (fun k104 hk104 => ?_)
  · intro v103
    exact sm_ireturn rfl dX11_size_32
  · skip
    refine sm_if_eq (pc' := 21) (pc1 := 30) dX11_size_18 (by decide) rfl (fun _ => ?_) (fun _ => ?_)
    · skip
      refine sm_ldc (pc' := 32) (-1000001 : Int32) w_609 dX11_size_30 rfl ?_
      refine sm_sub [] rfl ?_
      exact hk104 (-1000001 : Int32)
    · skip
      refine sm_aload_n (pc' := 22) dX11_size_21 rfl rfl ?_
      refine sm_getF (pc' := 25) fk_X11_78 yr_11_27 dX11_size_22 rfl (fun v105 => ?_)
      refine sm_iload_n (pc' := 26) dX11_size_25 rfl rfl ?_
      rcases v105 with _ | a106
      · exact sm_unN
      refine sm_unS ?_
      refine sm_iaload (pc' := 27) dX11_size_26 rfl (fun v107 => ?_)
      refine sm_goto (pc' := 32) dX11_size_27 (by decide) ?_
      refine sm_sub [] rfl ?_
      exact hk104 v107
theorem kX11_size (th : Nat) (a1 : Int32) : Callee 1 yX11_size cX11_size 2 (some .int) [qv (some th), iv a1] vI (pX11_size th a1) := callee_ofS [(0, qv (some th)), (1, iv a1)] (by decide +kernel) (Nat.le_of_ble_eq_true rfl) rfl (sX11_size th a1)
/-! HollowPressModel.status()I -/
abbrev eX11_status : Env0 := (RX11, "status", cX11_status, 1, (some .int), 0)
def pX11_status (th : Nat) : Prg Int32 :=
    pI 11 th 0 (0 : Int32) (
    gI 11 th 1 fun v101 =>
    rt v101)
set_option maxRecDepth 20000 in
theorem sX11_status (th : Nat) : Sim eX11_status vI 0 [(0, qv (some th))] [] (pX11_status th) := by
  unfold pX11_status
  refine sm_aload_n (pc' := 1) dX11_status_0 rfl rfl ?_
  refine sm_iconst (pc' := 2) (0 : Int32) dX11_status_1 (by decide) rfl ?_
  refine sm_putI (pc' := 5) (gk_X11_124 _ _ _ _ _) ti_11_0 dX11_status_2 rfl ?_
  refine sm_aload_n (pc' := 6) dX11_status_5 rfl rfl ?_
  refine sm_getI (pc' := 9) fk_X11_128 nr_11_1 dX11_status_6 rfl (fun v101 => ?_)
  exact sm_ireturn rfl dX11_status_9
theorem kX11_status (th : Nat) : Callee 0 yX11_status cX11_status 1 (some .int) [qv (some th)] vI (pX11_status th) := callee_ofS [(0, qv (some th))] (by decide +kernel) (Nat.le_of_ble_eq_true rfl) rfl (sX11_status th)
/-! HollowPressModel.strip()I -/
abbrev eX11_strip : Env0 := (RX11, "strip", cX11_strip, 3, (some .int), 0)
def pX11_strip_L17 (th : Nat) (v101 : Int32) (k103 : Prg Int32) : Nat → Int32 → Prg Int32
  | 0, _ => fl
  | n + 1, v102 =>
    (if (10 : Int32) ≤ v102 then k103
    else gF 11 th 15 fun v104 =>
    un v104 fun a105 =>
    stI a105 v102 (-1 : Int32) (
    pX11_strip_L17 th v101 k103 n (v102 + (1 : Int32))))
def pX11_strip (th : Nat) : Prg Int32 :=
    pI 11 th 0 (0 : Int32) (
    gI 11 th 24 fun v101 =>
    pI 11 th 24 (0 : Int32) (
    pX11_strip_L17 th v101 (rt v101) FL (0 : Int32)))
set_option maxRecDepth 20000 in
theorem sX11_strip_L17 (th : Nat) (v101 : Int32) (k103 : Prg Int32) (hk103 : Sim eX11_strip vI 36 [(1, iv v101)] [] (k103)) : ∀ (n : Nat), ∀ (v102 : Int32), Sim eX11_strip vI 17 [(0, qv (some th)), (1, iv v101), (2, iv v102)] [] (pX11_strip_L17 th v101 k103 n v102) := by
  intro n
  induction n with
  | zero =>
    intros
    exact sm_fl
  | succ n ih =>
    intro v102
    unfold pX11_strip_L17
    refine sm_iload_n (pc' := 18) dX11_strip_17 rfl rfl ?_
    refine sm_bipush (pc' := 20) (10 : Int32) dX11_strip_18 (by decide) rfl ?_
    refine sm_icmp_ge (pc' := 23) (pc1 := 36) dX11_strip_20 (by decide) rfl (fun _ => ?_) (fun _ => ?_)
    · skip
      refine sm_sub [1] rfl ?_
      exact hk103
    · skip
      refine sm_aload_n (pc' := 24) dX11_strip_23 rfl rfl ?_
      refine sm_getF (pc' := 27) fk_X11_51 yr_11_15 dX11_strip_24 rfl (fun v104 => ?_)
      refine sm_iload_n (pc' := 28) dX11_strip_27 rfl rfl ?_
      refine sm_iconst (pc' := 29) (-1 : Int32) dX11_strip_28 (by decide) rfl ?_
      rcases v104 with _ | a105
      · exact sm_unN
      refine sm_unS ?_
      refine sm_iastore (pc' := 30) dX11_strip_29 rfl ?_
      refine sm_iinc (pc' := 33) (v102 + (1 : Int32)) [(2, iv (v102 + (1 : Int32))), (0, qv (some th)), (1, iv v101)] dX11_strip_30 rfl rfl (Nat.le_of_ble_eq_true rfl) rfl rfl ?_
      refine sm_goto (pc' := 17) dX11_strip_33 (by decide) ?_
      refine sm_sub [1, 2, 0] rfl ?_
      exact ih (v102 + (1 : Int32))
set_option maxRecDepth 20000 in
theorem sX11_strip (th : Nat) : Sim eX11_strip vI 0 [(0, qv (some th))] [] (pX11_strip th) := by
  unfold pX11_strip
  refine sm_aload_n (pc' := 1) dX11_strip_0 rfl rfl ?_
  refine sm_iconst (pc' := 2) (0 : Int32) dX11_strip_1 (by decide) rfl ?_
  refine sm_putI (pc' := 5) (gk_X11_124 _ _ _ _ _) ti_11_0 dX11_strip_2 rfl ?_
  refine sm_aload_n (pc' := 6) dX11_strip_5 rfl rfl ?_
  refine sm_getI (pc' := 9) fk_X11_218 nr_11_24 dX11_strip_6 rfl (fun v101 => ?_)
  refine sm_istore_n (pc' := 10) [(1, iv v101), (0, qv (some th))] dX11_strip_9 rfl (Nat.le_of_ble_eq_true rfl) rfl rfl ?_
  refine sm_aload_n (pc' := 11) dX11_strip_10 rfl rfl ?_
  refine sm_iconst (pc' := 12) (0 : Int32) dX11_strip_11 (by decide) rfl ?_
  refine sm_putI (pc' := 15) (gk_X11_218 _ _ _ _ _) ti_11_24 dX11_strip_12 rfl ?_
  refine sm_iconst (pc' := 16) (0 : Int32) dX11_strip_15 (by decide) rfl ?_
  refine sm_istore_n (pc' := 17) [(2, iv (0 : Int32)), (1, iv v101), (0, qv (some th))] dX11_strip_16 rfl (Nat.le_of_ble_eq_true rfl) rfl rfl ?_
  refine sm_sub [2, 1, 0] rfl ?_
  refine sX11_strip_L17 th v101 _ ?_ FL (0 : Int32)
  · skip
    refine sm_iload_n (pc' := 37) dX11_strip_36 rfl rfl ?_
    exact sm_ireturn rfl dX11_strip_37
theorem kX11_strip (th : Nat) : Callee 0 yX11_strip cX11_strip 3 (some .int) [qv (some th)] vI (pX11_strip th) := callee_ofS [(0, qv (some th))] (by decide +kernel) (Nat.le_of_ble_eq_true rfl) rfl (sX11_strip th)
/-! HollowPressModel.trace(I)I -/
abbrev eX11_trace : Env0 := (RX11, "trace", cX11_trace, 2, (some .int), 1)
def pX11_trace (th : Nat) (a1 : Int32) : Prg Int32 :=
    pI 11 th 0 (0 : Int32) (
    gI 11 th 17 fun v101 =>
    cl (pX11_in (Int32.toInt64 a1) (0 : Int64) (Int32.toInt64 (v101 - (1 : Int32)))) fun v102 =>
    (lt (fun (v103 : Int32) => rt v103 : Int32 → Prg Int32) fun k104 =>
    (if v102 = 0 then k104 (-1000000 : Int32)
    else gF 11 th 16 fun v105 =>
    un v105 fun a106 =>
    ldI a106 a1 fun v107 =>
    k104 v107)))
set_option maxRecDepth 20000 in
theorem sX11_trace (th : Nat) (a1 : Int32) : Sim eX11_trace vI 0 [(0, qv (some th)), (1, iv a1)] [] (pX11_trace th a1) := by
  unfold pX11_trace
  refine sm_aload_n (pc' := 1) dX11_trace_0 rfl rfl ?_
  refine sm_iconst (pc' := 2) (0 : Int32) dX11_trace_1 (by decide) rfl ?_
  refine sm_putI (pc' := 5) (gk_X11_124 _ _ _ _ _) ti_11_0 dX11_trace_2 rfl ?_
  refine sm_iload_n (pc' := 6) dX11_trace_5 rfl rfl ?_
  refine sm_i2l (pc' := 7) dX11_trace_6 rfl ?_
  refine sm_lconst (pc' := 8) (0 : Int64) dX11_trace_7 (by decide) rfl ?_
  refine sm_aload_n (pc' := 9) dX11_trace_8 rfl rfl ?_
  refine sm_getI (pc' := 12) fk_X11_173 nr_11_17 dX11_trace_9 rfl (fun v101 => ?_)
  refine sm_iconst (pc' := 13) (1 : Int32) dX11_trace_12 (by decide) rfl ?_
  refine sm_isub (pc' := 14) dX11_trace_13 rfl ?_
  refine sm_i2l (pc' := 15) dX11_trace_14 rfl ?_
  refine sm_calli (pc' := 18) (sa := [jv (Int32.toInt64 (v101 - (1 : Int32))), jv (0 : Int64), jv (Int32.toInt64 a1)]) (st := []) (iv_X11_134 (Int32.toInt64 a1) (0 : Int64) (Int32.toInt64 (v101 - (1 : Int32)))) (Nat.le_of_ble_eq_true rfl) dX11_trace_15 rfl (Nat.le_of_ble_eq_true rfl) (fun v102 => ?_)
  refine sm_lt (fun k104 => ∀ (v103 : Int32), Sim eX11_trace vI 32 [] [iv v103] (k104 v103)) ?_ (fun k104 hk104 => ?_)
  · intro v103
    exact sm_ireturn rfl dX11_trace_32
  · skip
    refine sm_if_eq (pc' := 21) (pc1 := 30) dX11_trace_18 (by decide) rfl (fun _ => ?_) (fun _ => ?_)
    · skip
      refine sm_ldc (pc' := 32) (-1000000 : Int32) w_621 dX11_trace_30 rfl ?_
      refine sm_sub [] rfl ?_
      exact hk104 (-1000000 : Int32)
    · skip
      refine sm_aload_n (pc' := 22) dX11_trace_21 rfl rfl ?_
      refine sm_getF (pc' := 25) fk_X11_54 yr_11_16 dX11_trace_22 rfl (fun v105 => ?_)
      refine sm_iload_n (pc' := 26) dX11_trace_25 rfl rfl ?_
      rcases v105 with _ | a106
      · exact sm_unN
      refine sm_unS ?_
      refine sm_iaload (pc' := 27) dX11_trace_26 rfl (fun v107 => ?_)
      refine sm_goto (pc' := 32) dX11_trace_27 (by decide) ?_
      refine sm_sub [] rfl ?_
      exact hk104 v107
theorem kX11_trace (th : Nat) (a1 : Int32) : Callee 1 yX11_trace cX11_trace 2 (some .int) [qv (some th), iv a1] vI (pX11_trace th a1) := callee_ofS [(0, qv (some th)), (1, iv a1)] (by decide +kernel) (Nat.le_of_ble_eq_true rfl) rfl (sX11_trace th a1)
