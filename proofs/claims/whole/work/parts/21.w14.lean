/-! HollowPressModel.<init>()V -/
abbrev eX11_init : Env0 := (RX11, "<init>", cX11_init, 1, none, 1)
def pX11_init (th : Nat) : Prg Unit :=
    nA 20 (8 : Int32) fun a101 =>
    stI a101 (0 : Int32) (-1 : Int32) (
    stI a101 (1 : Int32) (-1 : Int32) (
    stI a101 (2 : Int32) (-1 : Int32) (
    stI a101 (3 : Int32) (-1 : Int32) (
    stI a101 (4 : Int32) (-1 : Int32) (
    stI a101 (5 : Int32) (-1 : Int32) (
    stI a101 (6 : Int32) (-1 : Int32) (
    stI a101 (7 : Int32) (-1 : Int32) (
    pF 11 th 2 (some a101) (
    nA 20 (8 : Int32) fun a102 =>
    pF 11 th 3 (some a102) (
    nA 22 (1152 : Int32) fun a103 =>
    pF 11 th 4 (some a103) (
    nA 20 (10 : Int32) fun a104 =>
    stI a104 (0 : Int32) (-1 : Int32) (
    stI a104 (1 : Int32) (-1 : Int32) (
    stI a104 (2 : Int32) (-1 : Int32) (
    stI a104 (3 : Int32) (-1 : Int32) (
    stI a104 (4 : Int32) (-1 : Int32) (
    stI a104 (5 : Int32) (-1 : Int32) (
    stI a104 (6 : Int32) (-1 : Int32) (
    stI a104 (7 : Int32) (-1 : Int32) (
    stI a104 (8 : Int32) (-1 : Int32) (
    stI a104 (9 : Int32) (-1 : Int32) (
    pF 11 th 5 (some a104) (
    nA 20 (10 : Int32) fun a105 =>
    pF 11 th 6 (some a105) (
    nA 20 (10 : Int32) fun a106 =>
    pF 11 th 7 (some a106) (
    nA 20 (1440 : Int32) fun a107 =>
    pF 11 th 8 (some a107) (
    nA 20 (10 : Int32) fun a108 =>
    pF 11 th 9 (some a108) (
    nA 20 (40 : Int32) fun a109 =>
    pF 11 th 10 (some a109) (
    nA 21 (1440 : Int32) fun a110 =>
    pF 11 th 11 (some a110) (
    nA 20 (200 : Int32) fun a111 =>
    pF 11 th 12 (some a111) (
    nA 20 (10 : Int32) fun a112 =>
    pF 11 th 13 (some a112) (
    nA 20 (10 : Int32) fun a113 =>
    pF 11 th 14 (some a113) (
    nA 20 (10 : Int32) fun a114 =>
    stI a114 (0 : Int32) (-1 : Int32) (
    stI a114 (1 : Int32) (-1 : Int32) (
    stI a114 (2 : Int32) (-1 : Int32) (
    stI a114 (3 : Int32) (-1 : Int32) (
    stI a114 (4 : Int32) (-1 : Int32) (
    stI a114 (5 : Int32) (-1 : Int32) (
    stI a114 (6 : Int32) (-1 : Int32) (
    stI a114 (7 : Int32) (-1 : Int32) (
    stI a114 (8 : Int32) (-1 : Int32) (
    stI a114 (9 : Int32) (-1 : Int32) (
    pF 11 th 15 (some a114) (
    nA 20 (16 : Int32) fun a115 =>
    pF 11 th 16 (some a115) (
    nA 20 (144 : Int32) fun a116 =>
    pF 11 th 18 (some a116) (
    nA 20 (144 : Int32) fun a117 =>
    pF 11 th 19 (some a117) (
    nA 20 (144 : Int32) fun a118 =>
    pF 11 th 20 (some a118) (
    nA 20 (144 : Int32) fun a119 =>
    pF 11 th 21 (some a119) (
    nA 21 (144 : Int32) fun a120 =>
    pF 11 th 22 (some a120) (
    nA 20 (8 : Int32) fun a121 =>
    pF 11 th 25 (some a121) (
    nA 20 (8 : Int32) fun a122 =>
    pF 11 th 26 (some a122) (
    nA 20 (8 : Int32) fun a123 =>
    pF 11 th 27 (some a123) (
    nA 20 (8 : Int32) fun a124 =>
    pF 11 th 28 (some a124) (
    nA 20 (8 : Int32) fun a125 =>
    pF 11 th 29 (some a125) (
    nA 20 (3 : Int32) fun a126 =>
    pF 11 th 30 (some a126) (
    nA 20 (8 : Int32) fun a127 =>
    pF 11 th 31 (some a127) (
    nA 20 (22 : Int32) fun a128 =>
    pF 11 th 32 (some a128) (
    nA 20 (6 : Int32) fun a129 =>
    pF 11 th 34 (some a129) (
    nA 20 (12 : Int32) fun a130 =>
    pF 11 th 36 (some a130) (
    nA 20 (12 : Int32) fun a131 =>
    pF 11 th 37 (some a131) (
    nA 20 (12 : Int32) fun a132 =>
    pF 11 th 38 (some a132) (
    nA 20 (72 : Int32) fun a133 =>
    pF 11 th 40 (some a133) (
    nA 20 (6 : Int32) fun a134 =>
    pF 11 th 41 (some a134) (
    nA 20 (6 : Int32) fun a135 =>
    pF 11 th 42 (some a135) (
    nA 20 (49152 : Int32) fun a136 =>
    pF 11 th 43 (some a136) (
    nA 20 (12 : Int32) fun a137 =>
    pF 11 th 44 (some a137) (
    rt ())))))))))))))))))))))))))))))))))))))))))))))))))))))))))))))))))
set_option maxRecDepth 20000 in
theorem sX11_init (th : Nat) : Sim eX11_init vU 0 [(0, qv (some th))] [] (pX11_init th) := by
  unfold pX11_init
  refine sm_aload_n (pc' := 1) dX11_init_0 rfl rfl ?_
  refine sm_objInit (pc' := 4) w_711 w_5 w_6 dX11_init_1 (by decide) (Nat.le_of_ble_eq_true rfl) rfl ?_
  refine sm_aload_n (pc' := 5) dX11_init_4 rfl rfl ?_
  refine sm_bipush (pc' := 7) (8 : Int32) dX11_init_5 (by decide) rfl ?_
  refine sm_newarr (pc' := 9) (atype := .int) (Or.inl ⟨rfl, rfl⟩) w_11 dX11_init_7 rfl (fun a101 => ?_)
  refine sm_dup (pc' := 10) dX11_init_9 rfl rfl ?_
  refine sm_iconst (pc' := 11) (0 : Int32) dX11_init_10 (by decide) rfl ?_
  refine sm_iconst (pc' := 12) (-1 : Int32) dX11_init_11 (by decide) rfl ?_
  refine sm_iastore (pc' := 13) dX11_init_12 rfl ?_
  refine sm_dup (pc' := 14) dX11_init_13 rfl rfl ?_
  refine sm_iconst (pc' := 15) (1 : Int32) dX11_init_14 (by decide) rfl ?_
  refine sm_iconst (pc' := 16) (-1 : Int32) dX11_init_15 (by decide) rfl ?_
  refine sm_iastore (pc' := 17) dX11_init_16 rfl ?_
  refine sm_dup (pc' := 18) dX11_init_17 rfl rfl ?_
  refine sm_iconst (pc' := 19) (2 : Int32) dX11_init_18 (by decide) rfl ?_
  refine sm_iconst (pc' := 20) (-1 : Int32) dX11_init_19 (by decide) rfl ?_
  refine sm_iastore (pc' := 21) dX11_init_20 rfl ?_
  refine sm_dup (pc' := 22) dX11_init_21 rfl rfl ?_
  refine sm_iconst (pc' := 23) (3 : Int32) dX11_init_22 (by decide) rfl ?_
  refine sm_iconst (pc' := 24) (-1 : Int32) dX11_init_23 (by decide) rfl ?_
  refine sm_iastore (pc' := 25) dX11_init_24 rfl ?_
  refine sm_dup (pc' := 26) dX11_init_25 rfl rfl ?_
  refine sm_iconst (pc' := 27) (4 : Int32) dX11_init_26 (by decide) rfl ?_
  refine sm_iconst (pc' := 28) (-1 : Int32) dX11_init_27 (by decide) rfl ?_
  refine sm_iastore (pc' := 29) dX11_init_28 rfl ?_
  refine sm_dup (pc' := 30) dX11_init_29 rfl rfl ?_
  refine sm_iconst (pc' := 31) (5 : Int32) dX11_init_30 (by decide) rfl ?_
  refine sm_iconst (pc' := 32) (-1 : Int32) dX11_init_31 (by decide) rfl ?_
  refine sm_iastore (pc' := 33) dX11_init_32 rfl ?_
  refine sm_dup (pc' := 34) dX11_init_33 rfl rfl ?_
  refine sm_bipush (pc' := 36) (6 : Int32) dX11_init_34 (by decide) rfl ?_
  refine sm_iconst (pc' := 37) (-1 : Int32) dX11_init_36 (by decide) rfl ?_
  refine sm_iastore (pc' := 38) dX11_init_37 rfl ?_
  refine sm_dup (pc' := 39) dX11_init_38 rfl rfl ?_
  refine sm_bipush (pc' := 41) (7 : Int32) dX11_init_39 (by decide) rfl ?_
  refine sm_iconst (pc' := 42) (-1 : Int32) dX11_init_41 (by decide) rfl ?_
  refine sm_iastore (pc' := 43) dX11_init_42 rfl ?_
  refine sm_putF (pc' := 46) (gk_X11_7i _ _ _ _) yr_11_2 dX11_init_43 rfl ?_
  refine sm_aload_n (pc' := 47) dX11_init_46 rfl rfl ?_
  refine sm_bipush (pc' := 49) (8 : Int32) dX11_init_47 (by decide) rfl ?_
  refine sm_newarr (pc' := 51) (atype := .int) (Or.inl ⟨rfl, rfl⟩) w_11 dX11_init_49 rfl (fun a102 => ?_)
  refine sm_putF (pc' := 54) (gk_X11_13i _ _ _ _) yr_11_3 dX11_init_51 rfl ?_
  refine sm_aload_n (pc' := 55) dX11_init_54 rfl rfl ?_
  refine sm_sipush (pc' := 58) (1152 : Int32) dX11_init_55 (by decide) rfl ?_
  refine sm_newarr (pc' := 60) (atype := .long) (Or.inr (Or.inr ⟨rfl, rfl⟩)) w_551 dX11_init_58 rfl (fun a103 => ?_)
  refine sm_putF (pc' := 63) (gk_X11_16i _ _ _ _) yr_11_4 dX11_init_60 rfl ?_
  refine sm_aload_n (pc' := 64) dX11_init_63 rfl rfl ?_
  refine sm_bipush (pc' := 66) (10 : Int32) dX11_init_64 (by decide) rfl ?_
  refine sm_newarr (pc' := 68) (atype := .int) (Or.inl ⟨rfl, rfl⟩) w_11 dX11_init_66 rfl (fun a104 => ?_)
  refine sm_dup (pc' := 69) dX11_init_68 rfl rfl ?_
  refine sm_iconst (pc' := 70) (0 : Int32) dX11_init_69 (by decide) rfl ?_
  refine sm_iconst (pc' := 71) (-1 : Int32) dX11_init_70 (by decide) rfl ?_
  refine sm_iastore (pc' := 72) dX11_init_71 rfl ?_
  refine sm_dup (pc' := 73) dX11_init_72 rfl rfl ?_
  refine sm_iconst (pc' := 74) (1 : Int32) dX11_init_73 (by decide) rfl ?_
  refine sm_iconst (pc' := 75) (-1 : Int32) dX11_init_74 (by decide) rfl ?_
  refine sm_iastore (pc' := 76) dX11_init_75 rfl ?_
  refine sm_dup (pc' := 77) dX11_init_76 rfl rfl ?_
  refine sm_iconst (pc' := 78) (2 : Int32) dX11_init_77 (by decide) rfl ?_
  refine sm_iconst (pc' := 79) (-1 : Int32) dX11_init_78 (by decide) rfl ?_
  refine sm_iastore (pc' := 80) dX11_init_79 rfl ?_
  refine sm_dup (pc' := 81) dX11_init_80 rfl rfl ?_
  refine sm_iconst (pc' := 82) (3 : Int32) dX11_init_81 (by decide) rfl ?_
  refine sm_iconst (pc' := 83) (-1 : Int32) dX11_init_82 (by decide) rfl ?_
  refine sm_iastore (pc' := 84) dX11_init_83 rfl ?_
  refine sm_dup (pc' := 85) dX11_init_84 rfl rfl ?_
  refine sm_iconst (pc' := 86) (4 : Int32) dX11_init_85 (by decide) rfl ?_
  refine sm_iconst (pc' := 87) (-1 : Int32) dX11_init_86 (by decide) rfl ?_
  refine sm_iastore (pc' := 88) dX11_init_87 rfl ?_
  refine sm_dup (pc' := 89) dX11_init_88 rfl rfl ?_
  refine sm_iconst (pc' := 90) (5 : Int32) dX11_init_89 (by decide) rfl ?_
  refine sm_iconst (pc' := 91) (-1 : Int32) dX11_init_90 (by decide) rfl ?_
  refine sm_iastore (pc' := 92) dX11_init_91 rfl ?_
  refine sm_dup (pc' := 93) dX11_init_92 rfl rfl ?_
  refine sm_bipush (pc' := 95) (6 : Int32) dX11_init_93 (by decide) rfl ?_
  refine sm_iconst (pc' := 96) (-1 : Int32) dX11_init_95 (by decide) rfl ?_
  refine sm_iastore (pc' := 97) dX11_init_96 rfl ?_
  refine sm_dup (pc' := 98) dX11_init_97 rfl rfl ?_
  refine sm_bipush (pc' := 100) (7 : Int32) dX11_init_98 (by decide) rfl ?_
  refine sm_iconst (pc' := 101) (-1 : Int32) dX11_init_100 (by decide) rfl ?_
  refine sm_iastore (pc' := 102) dX11_init_101 rfl ?_
  refine sm_dup (pc' := 103) dX11_init_102 rfl rfl ?_
  refine sm_bipush (pc' := 105) (8 : Int32) dX11_init_103 (by decide) rfl ?_
  refine sm_iconst (pc' := 106) (-1 : Int32) dX11_init_105 (by decide) rfl ?_
  refine sm_iastore (pc' := 107) dX11_init_106 rfl ?_
  refine sm_dup (pc' := 108) dX11_init_107 rfl rfl ?_
  refine sm_bipush (pc' := 110) (9 : Int32) dX11_init_108 (by decide) rfl ?_
  refine sm_iconst (pc' := 111) (-1 : Int32) dX11_init_110 (by decide) rfl ?_
  refine sm_iastore (pc' := 112) dX11_init_111 rfl ?_
  refine sm_putF (pc' := 115) (gk_X11_20i _ _ _ _) yr_11_5 dX11_init_112 rfl ?_
  refine sm_aload_n (pc' := 116) dX11_init_115 rfl rfl ?_
  refine sm_bipush (pc' := 118) (10 : Int32) dX11_init_116 (by decide) rfl ?_
  refine sm_newarr (pc' := 120) (atype := .int) (Or.inl ⟨rfl, rfl⟩) w_11 dX11_init_118 rfl (fun a105 => ?_)
  refine sm_putF (pc' := 123) (gk_X11_23i _ _ _ _) yr_11_6 dX11_init_120 rfl ?_
  refine sm_aload_n (pc' := 124) dX11_init_123 rfl rfl ?_
  refine sm_bipush (pc' := 126) (10 : Int32) dX11_init_124 (by decide) rfl ?_
  refine sm_newarr (pc' := 128) (atype := .int) (Or.inl ⟨rfl, rfl⟩) w_11 dX11_init_126 rfl (fun a106 => ?_)
  refine sm_putF (pc' := 131) (gk_X11_26i _ _ _ _) yr_11_7 dX11_init_128 rfl ?_
  refine sm_aload_n (pc' := 132) dX11_init_131 rfl rfl ?_
  refine sm_sipush (pc' := 135) (1440 : Int32) dX11_init_132 (by decide) rfl ?_
  refine sm_newarr (pc' := 137) (atype := .int) (Or.inl ⟨rfl, rfl⟩) w_11 dX11_init_135 rfl (fun a107 => ?_)
  refine sm_putF (pc' := 140) (gk_X11_29i _ _ _ _) yr_11_8 dX11_init_137 rfl ?_
  refine sm_aload_n (pc' := 141) dX11_init_140 rfl rfl ?_
  refine sm_bipush (pc' := 143) (10 : Int32) dX11_init_141 (by decide) rfl ?_
  refine sm_newarr (pc' := 145) (atype := .int) (Or.inl ⟨rfl, rfl⟩) w_11 dX11_init_143 rfl (fun a108 => ?_)
  refine sm_putF (pc' := 148) (gk_X11_32i _ _ _ _) yr_11_9 dX11_init_145 rfl ?_
  refine sm_aload_n (pc' := 149) dX11_init_148 rfl rfl ?_
  refine sm_bipush (pc' := 151) (40 : Int32) dX11_init_149 (by decide) rfl ?_
  refine sm_newarr (pc' := 153) (atype := .int) (Or.inl ⟨rfl, rfl⟩) w_11 dX11_init_151 rfl (fun a109 => ?_)
  refine sm_putF (pc' := 156) (gk_X11_35i _ _ _ _) yr_11_10 dX11_init_153 rfl ?_
  refine sm_aload_n (pc' := 157) dX11_init_156 rfl rfl ?_
  refine sm_sipush (pc' := 160) (1440 : Int32) dX11_init_157 (by decide) rfl ?_
  refine sm_newarr (pc' := 162) (atype := .boolean) (Or.inr (Or.inl ⟨rfl, rfl⟩)) w_21 dX11_init_160 rfl (fun a110 => ?_)
  refine sm_putF (pc' := 165) (gk_X11_38i _ _ _ _) yr_11_11 dX11_init_162 rfl ?_
  refine sm_aload_n (pc' := 166) dX11_init_165 rfl rfl ?_
  refine sm_sipush (pc' := 169) (200 : Int32) dX11_init_166 (by decide) rfl ?_
  refine sm_newarr (pc' := 171) (atype := .int) (Or.inl ⟨rfl, rfl⟩) w_11 dX11_init_169 rfl (fun a111 => ?_)
  refine sm_putF (pc' := 174) (gk_X11_42i _ _ _ _) yr_11_12 dX11_init_171 rfl ?_
  refine sm_aload_n (pc' := 175) dX11_init_174 rfl rfl ?_
  refine sm_bipush (pc' := 177) (10 : Int32) dX11_init_175 (by decide) rfl ?_
  refine sm_newarr (pc' := 179) (atype := .int) (Or.inl ⟨rfl, rfl⟩) w_11 dX11_init_177 rfl (fun a112 => ?_)
  refine sm_putF (pc' := 182) (gk_X11_45i _ _ _ _) yr_11_13 dX11_init_179 rfl ?_
  refine sm_aload_n (pc' := 183) dX11_init_182 rfl rfl ?_
  refine sm_bipush (pc' := 185) (10 : Int32) dX11_init_183 (by decide) rfl ?_
  refine sm_newarr (pc' := 187) (atype := .int) (Or.inl ⟨rfl, rfl⟩) w_11 dX11_init_185 rfl (fun a113 => ?_)
  refine sm_putF (pc' := 190) (gk_X11_48i _ _ _ _) yr_11_14 dX11_init_187 rfl ?_
  refine sm_aload_n (pc' := 191) dX11_init_190 rfl rfl ?_
  refine sm_bipush (pc' := 193) (10 : Int32) dX11_init_191 (by decide) rfl ?_
  refine sm_newarr (pc' := 195) (atype := .int) (Or.inl ⟨rfl, rfl⟩) w_11 dX11_init_193 rfl (fun a114 => ?_)
  refine sm_dup (pc' := 196) dX11_init_195 rfl rfl ?_
  refine sm_iconst (pc' := 197) (0 : Int32) dX11_init_196 (by decide) rfl ?_
  refine sm_iconst (pc' := 198) (-1 : Int32) dX11_init_197 (by decide) rfl ?_
  refine sm_iastore (pc' := 199) dX11_init_198 rfl ?_
  refine sm_dup (pc' := 200) dX11_init_199 rfl rfl ?_
  refine sm_iconst (pc' := 201) (1 : Int32) dX11_init_200 (by decide) rfl ?_
  refine sm_iconst (pc' := 202) (-1 : Int32) dX11_init_201 (by decide) rfl ?_
  refine sm_iastore (pc' := 203) dX11_init_202 rfl ?_
  refine sm_dup (pc' := 204) dX11_init_203 rfl rfl ?_
  refine sm_iconst (pc' := 205) (2 : Int32) dX11_init_204 (by decide) rfl ?_
  refine sm_iconst (pc' := 206) (-1 : Int32) dX11_init_205 (by decide) rfl ?_
  refine sm_iastore (pc' := 207) dX11_init_206 rfl ?_
  refine sm_dup (pc' := 208) dX11_init_207 rfl rfl ?_
  refine sm_iconst (pc' := 209) (3 : Int32) dX11_init_208 (by decide) rfl ?_
  refine sm_iconst (pc' := 210) (-1 : Int32) dX11_init_209 (by decide) rfl ?_
  refine sm_iastore (pc' := 211) dX11_init_210 rfl ?_
  refine sm_dup (pc' := 212) dX11_init_211 rfl rfl ?_
  refine sm_iconst (pc' := 213) (4 : Int32) dX11_init_212 (by decide) rfl ?_
  refine sm_iconst (pc' := 214) (-1 : Int32) dX11_init_213 (by decide) rfl ?_
  refine sm_iastore (pc' := 215) dX11_init_214 rfl ?_
  refine sm_dup (pc' := 216) dX11_init_215 rfl rfl ?_
  refine sm_iconst (pc' := 217) (5 : Int32) dX11_init_216 (by decide) rfl ?_
  refine sm_iconst (pc' := 218) (-1 : Int32) dX11_init_217 (by decide) rfl ?_
  refine sm_iastore (pc' := 219) dX11_init_218 rfl ?_
  refine sm_dup (pc' := 220) dX11_init_219 rfl rfl ?_
  refine sm_bipush (pc' := 222) (6 : Int32) dX11_init_220 (by decide) rfl ?_
  refine sm_iconst (pc' := 223) (-1 : Int32) dX11_init_222 (by decide) rfl ?_
  refine sm_iastore (pc' := 224) dX11_init_223 rfl ?_
  refine sm_dup (pc' := 225) dX11_init_224 rfl rfl ?_
  refine sm_bipush (pc' := 227) (7 : Int32) dX11_init_225 (by decide) rfl ?_
  refine sm_iconst (pc' := 228) (-1 : Int32) dX11_init_227 (by decide) rfl ?_
  refine sm_iastore (pc' := 229) dX11_init_228 rfl ?_
  refine sm_dup (pc' := 230) dX11_init_229 rfl rfl ?_
  refine sm_bipush (pc' := 232) (8 : Int32) dX11_init_230 (by decide) rfl ?_
  refine sm_iconst (pc' := 233) (-1 : Int32) dX11_init_232 (by decide) rfl ?_
  refine sm_iastore (pc' := 234) dX11_init_233 rfl ?_
  refine sm_dup (pc' := 235) dX11_init_234 rfl rfl ?_
  refine sm_bipush (pc' := 237) (9 : Int32) dX11_init_235 (by decide) rfl ?_
  refine sm_iconst (pc' := 238) (-1 : Int32) dX11_init_237 (by decide) rfl ?_
  refine sm_iastore (pc' := 239) dX11_init_238 rfl ?_
  refine sm_putF (pc' := 242) (gk_X11_51i _ _ _ _) yr_11_15 dX11_init_239 rfl ?_
  refine sm_aload_n (pc' := 243) dX11_init_242 rfl rfl ?_
  refine sm_bipush (pc' := 245) (16 : Int32) dX11_init_243 (by decide) rfl ?_
  refine sm_newarr (pc' := 247) (atype := .int) (Or.inl ⟨rfl, rfl⟩) w_11 dX11_init_245 rfl (fun a115 => ?_)
  refine sm_putF (pc' := 250) (gk_X11_54i _ _ _ _) yr_11_16 dX11_init_247 rfl ?_
  refine sm_aload_n (pc' := 251) dX11_init_250 rfl rfl ?_
  refine sm_sipush (pc' := 254) (144 : Int32) dX11_init_251 (by decide) rfl ?_
  refine sm_newarr (pc' := 256) (atype := .int) (Or.inl ⟨rfl, rfl⟩) w_11 dX11_init_254 rfl (fun a116 => ?_)
  refine sm_putF (pc' := 259) (gk_X11_57i _ _ _ _) yr_11_18 dX11_init_256 rfl ?_
  refine sm_aload_n (pc' := 260) dX11_init_259 rfl rfl ?_
  refine sm_sipush (pc' := 263) (144 : Int32) dX11_init_260 (by decide) rfl ?_
  refine sm_newarr (pc' := 265) (atype := .int) (Or.inl ⟨rfl, rfl⟩) w_11 dX11_init_263 rfl (fun a117 => ?_)
  refine sm_putF (pc' := 268) (gk_X11_60i _ _ _ _) yr_11_19 dX11_init_265 rfl ?_
  refine sm_aload_n (pc' := 269) dX11_init_268 rfl rfl ?_
  refine sm_sipush (pc' := 272) (144 : Int32) dX11_init_269 (by decide) rfl ?_
  refine sm_newarr (pc' := 274) (atype := .int) (Or.inl ⟨rfl, rfl⟩) w_11 dX11_init_272 rfl (fun a118 => ?_)
  refine sm_putF (pc' := 277) (gk_X11_63i _ _ _ _) yr_11_20 dX11_init_274 rfl ?_
  refine sm_aload_n (pc' := 278) dX11_init_277 rfl rfl ?_
  refine sm_sipush (pc' := 281) (144 : Int32) dX11_init_278 (by decide) rfl ?_
  refine sm_newarr (pc' := 283) (atype := .int) (Or.inl ⟨rfl, rfl⟩) w_11 dX11_init_281 rfl (fun a119 => ?_)
  refine sm_putF (pc' := 286) (gk_X11_66i _ _ _ _) yr_11_21 dX11_init_283 rfl ?_
  refine sm_aload_n (pc' := 287) dX11_init_286 rfl rfl ?_
  refine sm_sipush (pc' := 290) (144 : Int32) dX11_init_287 (by decide) rfl ?_
  refine sm_newarr (pc' := 292) (atype := .boolean) (Or.inr (Or.inl ⟨rfl, rfl⟩)) w_21 dX11_init_290 rfl (fun a120 => ?_)
  refine sm_putF (pc' := 295) (gk_X11_69i _ _ _ _) yr_11_22 dX11_init_292 rfl ?_
  refine sm_aload_n (pc' := 296) dX11_init_295 rfl rfl ?_
  refine sm_bipush (pc' := 298) (8 : Int32) dX11_init_296 (by decide) rfl ?_
  refine sm_newarr (pc' := 300) (atype := .int) (Or.inl ⟨rfl, rfl⟩) w_11 dX11_init_298 rfl (fun a121 => ?_)
  refine sm_putF (pc' := 303) (gk_X11_72i _ _ _ _) yr_11_25 dX11_init_300 rfl ?_
  refine sm_aload_n (pc' := 304) dX11_init_303 rfl rfl ?_
  refine sm_bipush (pc' := 306) (8 : Int32) dX11_init_304 (by decide) rfl ?_
  refine sm_newarr (pc' := 308) (atype := .int) (Or.inl ⟨rfl, rfl⟩) w_11 dX11_init_306 rfl (fun a122 => ?_)
  refine sm_putF (pc' := 311) (gk_X11_75i _ _ _ _) yr_11_26 dX11_init_308 rfl ?_
  refine sm_aload_n (pc' := 312) dX11_init_311 rfl rfl ?_
  refine sm_bipush (pc' := 314) (8 : Int32) dX11_init_312 (by decide) rfl ?_
  refine sm_newarr (pc' := 316) (atype := .int) (Or.inl ⟨rfl, rfl⟩) w_11 dX11_init_314 rfl (fun a123 => ?_)
  refine sm_putF (pc' := 319) (gk_X11_78i _ _ _ _) yr_11_27 dX11_init_316 rfl ?_
  refine sm_aload_n (pc' := 320) dX11_init_319 rfl rfl ?_
  refine sm_bipush (pc' := 322) (8 : Int32) dX11_init_320 (by decide) rfl ?_
  refine sm_newarr (pc' := 324) (atype := .int) (Or.inl ⟨rfl, rfl⟩) w_11 dX11_init_322 rfl (fun a124 => ?_)
  refine sm_putF (pc' := 327) (gk_X11_81i _ _ _ _) yr_11_28 dX11_init_324 rfl ?_
  refine sm_aload_n (pc' := 328) dX11_init_327 rfl rfl ?_
  refine sm_bipush (pc' := 330) (8 : Int32) dX11_init_328 (by decide) rfl ?_
  refine sm_newarr (pc' := 332) (atype := .int) (Or.inl ⟨rfl, rfl⟩) w_11 dX11_init_330 rfl (fun a125 => ?_)
  refine sm_putF (pc' := 335) (gk_X11_84i _ _ _ _) yr_11_29 dX11_init_332 rfl ?_
  refine sm_aload_n (pc' := 336) dX11_init_335 rfl rfl ?_
  refine sm_iconst (pc' := 337) (3 : Int32) dX11_init_336 (by decide) rfl ?_
  refine sm_newarr (pc' := 339) (atype := .int) (Or.inl ⟨rfl, rfl⟩) w_11 dX11_init_337 rfl (fun a126 => ?_)
  refine sm_putF (pc' := 342) (gk_X11_87i _ _ _ _) yr_11_30 dX11_init_339 rfl ?_
  refine sm_aload_n (pc' := 343) dX11_init_342 rfl rfl ?_
  refine sm_bipush (pc' := 345) (8 : Int32) dX11_init_343 (by decide) rfl ?_
  refine sm_newarr (pc' := 347) (atype := .int) (Or.inl ⟨rfl, rfl⟩) w_11 dX11_init_345 rfl (fun a127 => ?_)
  refine sm_putF (pc' := 350) (gk_X11_90i _ _ _ _) yr_11_31 dX11_init_347 rfl ?_
  refine sm_aload_n (pc' := 351) dX11_init_350 rfl rfl ?_
  refine sm_bipush (pc' := 353) (22 : Int32) dX11_init_351 (by decide) rfl ?_
  refine sm_newarr (pc' := 355) (atype := .int) (Or.inl ⟨rfl, rfl⟩) w_11 dX11_init_353 rfl (fun a128 => ?_)
  refine sm_putF (pc' := 358) (gk_X11_93i _ _ _ _) yr_11_32 dX11_init_355 rfl ?_
  refine sm_aload_n (pc' := 359) dX11_init_358 rfl rfl ?_
  refine sm_bipush (pc' := 361) (6 : Int32) dX11_init_359 (by decide) rfl ?_
  refine sm_newarr (pc' := 363) (atype := .int) (Or.inl ⟨rfl, rfl⟩) w_11 dX11_init_361 rfl (fun a129 => ?_)
  refine sm_putF (pc' := 366) (gk_X11_96i _ _ _ _) yr_11_34 dX11_init_363 rfl ?_
  refine sm_aload_n (pc' := 367) dX11_init_366 rfl rfl ?_
  refine sm_bipush (pc' := 369) (12 : Int32) dX11_init_367 (by decide) rfl ?_
  refine sm_newarr (pc' := 371) (atype := .int) (Or.inl ⟨rfl, rfl⟩) w_11 dX11_init_369 rfl (fun a130 => ?_)
  refine sm_putF (pc' := 374) (gk_X11_99i _ _ _ _) yr_11_36 dX11_init_371 rfl ?_
  refine sm_aload_n (pc' := 375) dX11_init_374 rfl rfl ?_
  refine sm_bipush (pc' := 377) (12 : Int32) dX11_init_375 (by decide) rfl ?_
  refine sm_newarr (pc' := 379) (atype := .int) (Or.inl ⟨rfl, rfl⟩) w_11 dX11_init_377 rfl (fun a131 => ?_)
  refine sm_putF (pc' := 382) (gk_X11_102i _ _ _ _) yr_11_37 dX11_init_379 rfl ?_
  refine sm_aload_n (pc' := 383) dX11_init_382 rfl rfl ?_
  refine sm_bipush (pc' := 385) (12 : Int32) dX11_init_383 (by decide) rfl ?_
  refine sm_newarr (pc' := 387) (atype := .int) (Or.inl ⟨rfl, rfl⟩) w_11 dX11_init_385 rfl (fun a132 => ?_)
  refine sm_putF (pc' := 390) (gk_X11_105i _ _ _ _) yr_11_38 dX11_init_387 rfl ?_
  refine sm_aload_n (pc' := 391) dX11_init_390 rfl rfl ?_
  refine sm_bipush (pc' := 393) (72 : Int32) dX11_init_391 (by decide) rfl ?_
  refine sm_newarr (pc' := 395) (atype := .int) (Or.inl ⟨rfl, rfl⟩) w_11 dX11_init_393 rfl (fun a133 => ?_)
  refine sm_putF (pc' := 398) (gk_X11_108i _ _ _ _) yr_11_40 dX11_init_395 rfl ?_
  refine sm_aload_n (pc' := 399) dX11_init_398 rfl rfl ?_
  refine sm_bipush (pc' := 401) (6 : Int32) dX11_init_399 (by decide) rfl ?_
  refine sm_newarr (pc' := 403) (atype := .int) (Or.inl ⟨rfl, rfl⟩) w_11 dX11_init_401 rfl (fun a134 => ?_)
  refine sm_putF (pc' := 406) (gk_X11_111i _ _ _ _) yr_11_41 dX11_init_403 rfl ?_
  refine sm_aload_n (pc' := 407) dX11_init_406 rfl rfl ?_
  refine sm_bipush (pc' := 409) (6 : Int32) dX11_init_407 (by decide) rfl ?_
  refine sm_newarr (pc' := 411) (atype := .int) (Or.inl ⟨rfl, rfl⟩) w_11 dX11_init_409 rfl (fun a135 => ?_)
  refine sm_putF (pc' := 414) (gk_X11_114i _ _ _ _) yr_11_42 dX11_init_411 rfl ?_
  refine sm_aload_n (pc' := 415) dX11_init_414 rfl rfl ?_
  refine sm_ldc (pc' := 417) (49152 : Int32) w_721 dX11_init_415 rfl ?_
  refine sm_newarr (pc' := 419) (atype := .int) (Or.inl ⟨rfl, rfl⟩) w_11 dX11_init_417 rfl (fun a136 => ?_)
  refine sm_putF (pc' := 422) (gk_X11_118i _ _ _ _) yr_11_43 dX11_init_419 rfl ?_
  refine sm_aload_n (pc' := 423) dX11_init_422 rfl rfl ?_
  refine sm_bipush (pc' := 425) (12 : Int32) dX11_init_423 (by decide) rfl ?_
  refine sm_newarr (pc' := 427) (atype := .int) (Or.inl ⟨rfl, rfl⟩) w_11 dX11_init_425 rfl (fun a137 => ?_)
  refine sm_putF (pc' := 430) (gk_X11_121i _ _ _ _) yr_11_44 dX11_init_427 rfl ?_
  exact sm_return rfl dX11_init_430
theorem kX11_init (th : Nat) : Callee 1 yX11_init cX11_init 1 none [qv (some th)] vU (pX11_init th) := callee_ofS [(0, qv (some th))] (by decide +kernel) (Nat.le_of_ble_eq_true rfl) rfl (sX11_init th)
/-! HollowPressModel.is(II)I -/
abbrev eX11_is : Env0 := (RX11, "is", cX11_is, 3, (some .int), 2)
def pX11_is (th : Nat) (a1 : Int32) (a2 : Int32) : Prg Int32 :=
    pI 11 th 0 (0 : Int32) (
    cl (pX11_isPlace a1) fun v101 =>
    (lt (fun (v102 : Int32) => rt v102 : Int32 → Prg Int32) fun k103 =>
    (lt (k103 (-1000001 : Int32) : Prg Int32) fun k104 =>
    (if v101 = 0 then k104
    else cl (pX11_in (Int32.toInt64 a2) (0 : Int64) (4 : Int64)) fun v105 =>
    (if v105 = 0 then k104
    else gF 11 th 5 fun v106 =>
    un v106 fun a107 =>
    ldI a107 a1 fun v108 =>
    cl (pX11_isOf v108 a2) fun v109 =>
    (if v109 = 0 then k103 (0 : Int32)
    else k103 (1 : Int32)))))))
set_option maxRecDepth 20000 in
theorem sX11_is (th : Nat) (a1 : Int32) (a2 : Int32) : Sim eX11_is vI 0 [(0, qv (some th)), (1, iv a1), (2, iv a2)] [] (pX11_is th a1 a2) := by
  unfold pX11_is
  refine sm_aload_n (pc' := 1) dX11_is_0 rfl rfl ?_
  refine sm_iconst (pc' := 2) (0 : Int32) dX11_is_1 (by decide) rfl ?_
  refine sm_putI (pc' := 5) (gk_X11_124 _ _ _ _ _) ti_11_0 dX11_is_2 rfl ?_
  refine sm_iload_n (pc' := 6) dX11_is_5 rfl rfl ?_
  refine sm_calli (pc' := 9) (sa := [iv a1]) (st := []) (iv_X11_153 a1) (Nat.le_of_ble_eq_true rfl) dX11_is_6 rfl (Nat.le_of_ble_eq_true rfl) (fun v101 => ?_)
  refine sm_lt (fun k103 => ∀ (v102 : Int32), Sim eX11_is vI 47 [] [iv v102] (k103 v102)) ?_ (fun k103 hk103 => ?_)
  · intro v102
    exact sm_ireturn rfl dX11_is_47
  · skip
    refine sm_lt (fun k104 => Sim eX11_is vI 24 [] [] (k104)) ?_ (fun k104 hk104 => ?_)
    · skip
      refine sm_ldc (pc' := 26) (-1000001 : Int32) w_609 dX11_is_24 rfl ?_
      refine sm_goto (pc' := 47) dX11_is_26 (by decide) ?_
      exact hk103 (-1000001 : Int32)
    · skip
      refine sm_if_eq (pc' := 12) (pc1 := 24) dX11_is_9 (by decide) rfl (fun _ => ?_) (fun _ => ?_)
      · skip
        refine sm_sub [] rfl ?_
        exact hk104
      · skip
        refine sm_iload_n (pc' := 13) dX11_is_12 rfl rfl ?_
        refine sm_i2l (pc' := 14) dX11_is_13 rfl ?_
        refine sm_lconst (pc' := 15) (0 : Int64) dX11_is_14 (by decide) rfl ?_
        refine sm_ldc2 (pc' := 18) (4 : Int64) w_689 dX11_is_15 rfl ?_
        refine sm_calli (pc' := 21) (sa := [jv (4 : Int64), jv (0 : Int64), jv (Int32.toInt64 a2)]) (st := []) (iv_X11_134 (Int32.toInt64 a2) (0 : Int64) (4 : Int64)) (Nat.le_of_ble_eq_true rfl) dX11_is_18 rfl (Nat.le_of_ble_eq_true rfl) (fun v105 => ?_)
        refine sm_if_ne (pc' := 24) (pc1 := 29) dX11_is_21 (by decide) rfl (fun _ => ?_) (fun _ => ?_)
        · skip
          refine sm_aload_n (pc' := 30) dX11_is_29 rfl rfl ?_
          refine sm_getF (pc' := 33) fk_X11_20 yr_11_5 dX11_is_30 rfl (fun v106 => ?_)
          refine sm_iload_n (pc' := 34) dX11_is_33 rfl rfl ?_
          rcases v106 with _ | a107
          · exact sm_unN
          refine sm_unS ?_
          refine sm_iaload (pc' := 35) dX11_is_34 rfl (fun v108 => ?_)
          refine sm_iload_n (pc' := 36) dX11_is_35 rfl rfl ?_
          refine sm_calli (pc' := 39) (sa := [iv a2, iv v108]) (st := []) (iv_X11_169 v108 a2) (Nat.le_of_ble_eq_true rfl) dX11_is_36 rfl (Nat.le_of_ble_eq_true rfl) (fun v109 => ?_)
          refine sm_if_eq (pc' := 42) (pc1 := 46) dX11_is_39 (by decide) rfl (fun _ => ?_) (fun _ => ?_)
          · skip
            refine sm_iconst (pc' := 47) (0 : Int32) dX11_is_46 (by decide) rfl ?_
            refine sm_sub [] rfl ?_
            exact hk103 (0 : Int32)
          · skip
            refine sm_iconst (pc' := 43) (1 : Int32) dX11_is_42 (by decide) rfl ?_
            refine sm_goto (pc' := 47) dX11_is_43 (by decide) ?_
            refine sm_sub [] rfl ?_
            exact hk103 (1 : Int32)
        · skip
          refine sm_sub [] rfl ?_
          exact hk104
theorem kX11_is (th : Nat) (a1 : Int32) (a2 : Int32) : Callee 2 yX11_is cX11_is 3 (some .int) [qv (some th), iv a1, iv a2] vI (pX11_is th a1 a2) := callee_ofS [(0, qv (some th)), (1, iv a1), (2, iv a2)] (by decide +kernel) (Nat.le_of_ble_eq_true rfl) rfl (sX11_is th a1 a2)
/-! HollowPressModel.job(III)I -/
abbrev eX11_job : Env0 := (RX11, "job", cX11_job, 4, (some .int), 1)
def pX11_job (th : Nat) (a1 : Int32) (a2 : Int32) (a3 : Int32) : Prg Int32 :=
    pI 11 th 0 (0 : Int32) (
    cl (pX11_in (Int32.toInt64 a1) (0 : Int64) (1000000 : Int64)) fun v101 =>
    (lt (rt (-1000001 : Int32) : Prg Int32) fun k102 =>
    (if v101 = 0 then k102
    else cl (pX11_in (Int32.toInt64 a2) (0 : Int64) (9 : Int64)) fun v103 =>
    (if v103 = 0 then k102
    else cl (pX11_in (Int32.toInt64 a3) (1 : Int64) (1000 : Int64)) fun v104 =>
    (if v104 = 0 then k102
    else gI 11 th 35 fun v105 =>
    (if v105 = (12 : Int32) then rt (-1000003 : Int32)
    else gF 11 th 36 fun v106 =>
    gI 11 th 35 fun v107 =>
    un v106 fun a108 =>
    stI a108 v107 a1 (
    gF 11 th 37 fun v109 =>
    gI 11 th 35 fun v110 =>
    un v109 fun a111 =>
    stI a111 v110 a2 (
    gF 11 th 38 fun v112 =>
    gI 11 th 35 fun v113 =>
    un v112 fun a114 =>
    stI a114 v113 a3 (
    gI 11 th 35 fun v115 =>
    pI 11 th 35 (v115 + (1 : Int32)) (
    pZ 11 th 39 (0 : Int32) (
    gI 11 th 35 fun v116 =>
    rt (v116 - (1 : Int32)))))))))))))
set_option maxRecDepth 20000 in
theorem sX11_job (th : Nat) (a1 : Int32) (a2 : Int32) (a3 : Int32) : Sim eX11_job vI 0 [(0, qv (some th)), (1, iv a1), (2, iv a2), (3, iv a3)] [] (pX11_job th a1 a2 a3) := by
  unfold pX11_job
  refine sm_aload_n (pc' := 1) dX11_job_0 rfl rfl ?_
  refine sm_iconst (pc' := 2) (0 : Int32) dX11_job_1 (by decide) rfl ?_
  refine sm_putI (pc' := 5) (gk_X11_124 _ _ _ _ _) ti_11_0 dX11_job_2 rfl ?_
  refine sm_iload_n (pc' := 6) dX11_job_5 rfl rfl ?_
  refine sm_i2l (pc' := 7) dX11_job_6 rfl ?_
  refine sm_lconst (pc' := 8) (0 : Int64) dX11_job_7 (by decide) rfl ?_
  refine sm_ldc2 (pc' := 11) (1000000 : Int64) w_724 dX11_job_8 rfl ?_
  refine sm_calli (pc' := 14) (sa := [jv (1000000 : Int64), jv (0 : Int64), jv (Int32.toInt64 a1)]) (st := []) (iv_X11_134 (Int32.toInt64 a1) (0 : Int64) (1000000 : Int64)) (Nat.le_of_ble_eq_true rfl) dX11_job_11 rfl (Nat.le_of_ble_eq_true rfl) (fun v101 => ?_)
  refine sm_lt (fun k102 => Sim eX11_job vI 41 [] [] (k102)) ?_ (fun k102 hk102 => ?_)
  · skip
    refine sm_ldc (pc' := 43) (-1000001 : Int32) w_609 dX11_job_41 rfl ?_
    exact sm_ireturn rfl dX11_job_43
  · skip
    refine sm_if_eq (pc' := 17) (pc1 := 41) dX11_job_14 (by decide) rfl (fun _ => ?_) (fun _ => ?_)
    · skip
      refine sm_sub [] rfl ?_
      exact hk102
    · skip
      refine sm_iload_n (pc' := 18) dX11_job_17 rfl rfl ?_
      refine sm_i2l (pc' := 19) dX11_job_18 rfl ?_
      refine sm_lconst (pc' := 20) (0 : Int64) dX11_job_19 (by decide) rfl ?_
      refine sm_ldc2 (pc' := 23) (9 : Int64) w_582 dX11_job_20 rfl ?_
      refine sm_calli (pc' := 26) (sa := [jv (9 : Int64), jv (0 : Int64), jv (Int32.toInt64 a2)]) (st := []) (iv_X11_134 (Int32.toInt64 a2) (0 : Int64) (9 : Int64)) (Nat.le_of_ble_eq_true rfl) dX11_job_23 rfl (Nat.le_of_ble_eq_true rfl) (fun v103 => ?_)
      refine sm_if_eq (pc' := 29) (pc1 := 41) dX11_job_26 (by decide) rfl (fun _ => ?_) (fun _ => ?_)
      · skip
        refine sm_sub [] rfl ?_
        exact hk102
      · skip
        refine sm_iload_n (pc' := 30) dX11_job_29 rfl rfl ?_
        refine sm_i2l (pc' := 31) dX11_job_30 rfl ?_
        refine sm_lconst (pc' := 32) (1 : Int64) dX11_job_31 (by decide) rfl ?_
        refine sm_ldc2 (pc' := 35) (1000 : Int64) w_725 dX11_job_32 rfl ?_
        refine sm_calli (pc' := 38) (sa := [jv (1000 : Int64), jv (1 : Int64), jv (Int32.toInt64 a3)]) (st := []) (iv_X11_134 (Int32.toInt64 a3) (1 : Int64) (1000 : Int64)) (Nat.le_of_ble_eq_true rfl) dX11_job_35 rfl (Nat.le_of_ble_eq_true rfl) (fun v104 => ?_)
        refine sm_if_ne (pc' := 41) (pc1 := 44) dX11_job_38 (by decide) rfl (fun _ => ?_) (fun _ => ?_)
        · skip
          refine sm_aload_n (pc' := 45) dX11_job_44 rfl rfl ?_
          refine sm_getI (pc' := 48) fk_X11_259 nr_11_35 dX11_job_45 rfl (fun v105 => ?_)
          refine sm_bipush (pc' := 50) (12 : Int32) dX11_job_48 (by decide) rfl ?_
          refine sm_icmp_ne (pc' := 53) (pc1 := 56) dX11_job_50 (by decide) rfl (fun _ => ?_) (fun _ => ?_)
          · skip
            refine sm_aload_n (pc' := 57) dX11_job_56 rfl rfl ?_
            refine sm_getF (pc' := 60) fk_X11_99 yr_11_36 dX11_job_57 rfl (fun v106 => ?_)
            refine sm_aload_n (pc' := 61) dX11_job_60 rfl rfl ?_
            refine sm_getI (pc' := 64) fk_X11_259 nr_11_35 dX11_job_61 rfl (fun v107 => ?_)
            refine sm_iload_n (pc' := 65) dX11_job_64 rfl rfl ?_
            rcases v106 with _ | a108
            · exact sm_unN
            refine sm_unS ?_
            refine sm_iastore (pc' := 66) dX11_job_65 rfl ?_
            refine sm_aload_n (pc' := 67) dX11_job_66 rfl rfl ?_
            refine sm_getF (pc' := 70) fk_X11_102 yr_11_37 dX11_job_67 rfl (fun v109 => ?_)
            refine sm_aload_n (pc' := 71) dX11_job_70 rfl rfl ?_
            refine sm_getI (pc' := 74) fk_X11_259 nr_11_35 dX11_job_71 rfl (fun v110 => ?_)
            refine sm_iload_n (pc' := 75) dX11_job_74 rfl rfl ?_
            rcases v109 with _ | a111
            · exact sm_unN
            refine sm_unS ?_
            refine sm_iastore (pc' := 76) dX11_job_75 rfl ?_
            refine sm_aload_n (pc' := 77) dX11_job_76 rfl rfl ?_
            refine sm_getF (pc' := 80) fk_X11_105 yr_11_38 dX11_job_77 rfl (fun v112 => ?_)
            refine sm_aload_n (pc' := 81) dX11_job_80 rfl rfl ?_
            refine sm_getI (pc' := 84) fk_X11_259 nr_11_35 dX11_job_81 rfl (fun v113 => ?_)
            refine sm_iload_n (pc' := 85) dX11_job_84 rfl rfl ?_
            rcases v112 with _ | a114
            · exact sm_unN
            refine sm_unS ?_
            refine sm_iastore (pc' := 86) dX11_job_85 rfl ?_
            refine sm_aload_n (pc' := 87) dX11_job_86 rfl rfl ?_
            refine sm_dup (pc' := 88) dX11_job_87 rfl rfl ?_
            refine sm_getI (pc' := 91) fk_X11_259 nr_11_35 dX11_job_88 rfl (fun v115 => ?_)
            refine sm_iconst (pc' := 92) (1 : Int32) dX11_job_91 (by decide) rfl ?_
            refine sm_iadd (pc' := 93) dX11_job_92 rfl ?_
            refine sm_putI (pc' := 96) (gk_X11_259 _ _ _ _ _) ti_11_35 dX11_job_93 rfl ?_
            refine sm_aload_n (pc' := 97) dX11_job_96 rfl rfl ?_
            refine sm_iconst (pc' := 98) (0 : Int32) dX11_job_97 (by decide) rfl ?_
            refine sm_putZ (pc' := 101) (gk_X11_253 _ _ _ _ _) tz_11_39 dX11_job_98 rfl ?_
            refine sm_aload_n (pc' := 102) dX11_job_101 rfl rfl ?_
            refine sm_getI (pc' := 105) fk_X11_259 nr_11_35 dX11_job_102 rfl (fun v116 => ?_)
            refine sm_iconst (pc' := 106) (1 : Int32) dX11_job_105 (by decide) rfl ?_
            refine sm_isub (pc' := 107) dX11_job_106 rfl ?_
            exact sm_ireturn rfl dX11_job_107
          · skip
            refine sm_ldc (pc' := 55) (-1000003 : Int32) w_688 dX11_job_53 rfl ?_
            exact sm_ireturn rfl dX11_job_55
        · skip
          refine sm_sub [] rfl ?_
          exact hk102
theorem kX11_job (th : Nat) (a1 : Int32) (a2 : Int32) (a3 : Int32) : Callee 1 yX11_job cX11_job 4 (some .int) [qv (some th), iv a1, iv a2, iv a3] vI (pX11_job th a1 a2 a3) := callee_ofS [(0, qv (some th)), (1, iv a1), (2, iv a2), (3, iv a3)] (by decide +kernel) (Nat.le_of_ble_eq_true rfl) rfl (sX11_job th a1 a2 a3)
/-! HollowPressModel.kind(I)I -/
abbrev eX11_kind : Env0 := (RX11, "kind", cX11_kind, 2, (some .int), 2)
def pX11_kind (th : Nat) (a1 : Int32) : Prg Int32 :=
    pI 11 th 0 (0 : Int32) (
    cl (pX11_isPlace a1) fun v101 =>
    (if v101 = 0 then rt (-1000001 : Int32)
    else pI 11 th 1 (0 : Int32) (
    gF 11 th 5 fun v102 =>
    un v102 fun a103 =>
    ldI a103 a1 fun v104 =>
    (lt (fun (v105 : Int32) => rt v105 : Int32 → Prg Int32) fun k106 =>
    (if 0 ≤ v104 then gF 11 th 5 fun v107 =>
    un v107 fun a108 =>
    ldI a108 a1 fun v109 =>
    k106 v109
    else cl (onT th 11 (pX11_found th (1 : Int32))) fun v110 =>
    k106 v110)))))
set_option maxRecDepth 20000 in
theorem sX11_kind (th : Nat) (a1 : Int32) : Sim eX11_kind vI 0 [(0, qv (some th)), (1, iv a1)] [] (pX11_kind th a1) := by
  unfold pX11_kind
  refine sm_aload_n (pc' := 1) dX11_kind_0 rfl rfl ?_
  refine sm_iconst (pc' := 2) (0 : Int32) dX11_kind_1 (by decide) rfl ?_
  refine sm_putI (pc' := 5) (gk_X11_124 _ _ _ _ _) ti_11_0 dX11_kind_2 rfl ?_
  refine sm_iload_n (pc' := 6) dX11_kind_5 rfl rfl ?_
  refine sm_calli (pc' := 9) (sa := [iv a1]) (st := []) (iv_X11_153 a1) (Nat.le_of_ble_eq_true rfl) dX11_kind_6 rfl (Nat.le_of_ble_eq_true rfl) (fun v101 => ?_)
  refine sm_if_ne (pc' := 12) (pc1 := 15) dX11_kind_9 (by decide) rfl (fun _ => ?_) (fun _ => ?_)
  · skip
    refine sm_aload_n (pc' := 16) dX11_kind_15 rfl rfl ?_
    refine sm_iconst (pc' := 17) (0 : Int32) dX11_kind_16 (by decide) rfl ?_
    refine sm_putI (pc' := 20) (gk_X11_128 _ _ _ _ _) ti_11_1 dX11_kind_17 rfl ?_
    refine sm_aload_n (pc' := 21) dX11_kind_20 rfl rfl ?_
    refine sm_getF (pc' := 24) fk_X11_20 yr_11_5 dX11_kind_21 rfl (fun v102 => ?_)
    refine sm_iload_n (pc' := 25) dX11_kind_24 rfl rfl ?_
    rcases v102 with _ | a103
    · exact sm_unN
    refine sm_unS ?_
    refine sm_iaload (pc' := 26) dX11_kind_25 rfl (fun v104 => ?_)
    refine sm_lt (fun k106 => ∀ (v105 : Int32), Sim eX11_kind vI 43 [] [iv v105] (k106 v105)) ?_ (fun k106 hk106 => ?_)
    · intro v105
      exact sm_ireturn rfl dX11_kind_43
    · skip
      refine sm_if_ge (pc' := 29) (pc1 := 37) dX11_kind_26 (by decide) rfl (fun _ => ?_) (fun _ => ?_)
      · skip
        refine sm_aload_n (pc' := 38) dX11_kind_37 rfl rfl ?_
        refine sm_getF (pc' := 41) fk_X11_20 yr_11_5 dX11_kind_38 rfl (fun v107 => ?_)
        refine sm_iload_n (pc' := 42) dX11_kind_41 rfl rfl ?_
        rcases v107 with _ | a108
        · exact sm_unN
        refine sm_unS ?_
        refine sm_iaload (pc' := 43) dX11_kind_42 rfl (fun v109 => ?_)
        refine sm_sub [] rfl ?_
        exact hk106 v109
      · skip
        refine sm_aload_n (pc' := 30) dX11_kind_29 rfl rfl ?_
        refine sm_iconst (pc' := 31) (1 : Int32) dX11_kind_30 (by decide) rfl ?_
        refine sm_calli (pc' := 34) (sa := [iv (1 : Int32), qv (some th)]) (st := []) (iv_X11_145 th (1 : Int32)) (Nat.le_of_ble_eq_true rfl) dX11_kind_31 rfl (Nat.le_of_ble_eq_true rfl) (fun v110 => ?_)
        refine sm_goto (pc' := 43) dX11_kind_34 (by decide) ?_
        refine sm_sub [] rfl ?_
        exact hk106 v110
  · skip
    refine sm_ldc (pc' := 14) (-1000001 : Int32) w_609 dX11_kind_12 rfl ?_
    exact sm_ireturn rfl dX11_kind_14
theorem kX11_kind (th : Nat) (a1 : Int32) : Callee 2 yX11_kind cX11_kind 2 (some .int) [qv (some th), iv a1] vI (pX11_kind th a1) := callee_ofS [(0, qv (some th)), (1, iv a1)] (by decide +kernel) (Nat.le_of_ble_eq_true rfl) rfl (sX11_kind th a1)
/-! HollowPressModel.layers(IIIII)I -/
set_option maxRecDepth 20000 in
theorem iv_X11_159 (a : Nat) (x0 : Int32) (x1 : Int32) (x2 : Int32) : Inv RX11 1 (.invokevirtual 159) [iv x2, iv x1, iv x0, qv (some a)] vI (onT a 11 (pX11_hasItems a x0 x1 x2)) := inv_V (As := [iv x0, iv x1, iv x2]) (t := 11) (kX11_hasItems a x0 x1 x2) _ (by decide) rfl rfl w_729 w_730 w_731 w_585 w_732 ⟨by decide +kernel, by decide +kernel, by show _ = some 3; decide +kernel⟩ (by decide)
abbrev eX11_layers : Env0 := (RX11, "layers", cX11_layers, 7, (some .int), 2)
def pX11_layers_L97 (th : Nat) (a1 : Int32) (a2 : Int32) (a3 : Int32) (a4 : Int32) (a5 : Int32) (k114 : Prg Int32) : Nat → Int32 → Prg Int32
  | 0, _ => fl
  | n + 1, v113 =>
    (if a4 ≤ v113 then k114
    else gF 11 th 4 fun v115 =>
    un v115 fun a116 =>
    ldJ a116 ((((144 : Int32) * a2) + a3) + v113) fun v117 =>
    cl (pX11_in v117 (0 : Int64) (10000 : Int64)) fun v118 =>
    (if v118 = 0 then rt (-1000001 : Int32)
    else pX11_layers_L97 th a1 a2 a3 a4 a5 k114 n (v113 + (1 : Int32))))
def pX11_layers_L146 (th : Nat) (a1 : Int32) (a2 : Int32) (a3 : Int32) (a4 : Int32) (a5 : Int32) (k120 : Prg Int32) : Nat → Int32 → Prg Int32
  | 0, _ => fl
  | n + 1, v119 =>
    (if a4 ≤ v119 then k120
    else gF 11 th 12 fun v121 =>
    gF 11 th 4 fun v122 =>
    un v122 fun a123 =>
    ldJ a123 ((((144 : Int32) * a2) + a3) + v119) fun v124 =>
    un v121 fun a125 =>
    stI a125 (((20 : Int32) * a1) + v119) (Int64.toInt32 v124) (
    pX11_layers_L146 th a1 a2 a3 a4 a5 k120 n (v119 + (1 : Int32))))
def pX11_layers (th : Nat) (a1 : Int32) (a2 : Int32) (a3 : Int32) (a4 : Int32) (a5 : Int32) : Prg Int32 :=
    pI 11 th 0 (0 : Int32) (
    cl (pX11_isPlace a1) fun v101 =>
    (lt (rt (-1000001 : Int32) : Prg Int32) fun k102 =>
    (if v101 = 0 then k102
    else cl (pX11_isSheet a2) fun v103 =>
    (if v103 = 0 then k102
    else cl (pX11_in (Int32.toInt64 a4) (2 : Int64) (20 : Int64)) fun v104 =>
    (if v104 = 0 then k102
    else cl (pX11_in (Int32.toInt64 a5) (0 : Int64) (10000 : Int64)) fun v105 =>
    (if v105 = 0 then k102
    else gF 11 th 15 fun v106 =>
    un v106 fun a107 =>
    ldI a107 a1 fun v108 =>
    (if v108 < 0 then gF 11 th 2 fun v109 =>
    un v109 fun a110 =>
    ldI a110 a2 fun v111 =>
    (if 0 ≤ v111 then cl (onT th 11 (pX11_hasItems th a2 a3 a4)) fun v112 =>
    (if v112 = 0 then cl (onT th 11 (pX11_found th (2 : Int32))) fun v134 =>
    rt v134
    else pX11_layers_L97 th a1 a2 a3 a4 a5 (pI 11 th 1 (0 : Int32) (
    pX11_layers_L146 th a1 a2 a3 a4 a5 (gF 11 th 6 fun v126 =>
    un v126 fun a127 =>
    stI a127 a1 a4 (
    gF 11 th 13 fun v128 =>
    un v128 fun a129 =>
    stI a129 a1 a5 (
    gF 11 th 14 fun v130 =>
    un v130 fun a131 =>
    stI a131 a1 (0 : Int32) (
    gF 11 th 5 fun v132 =>
    un v132 fun a133 =>
    stI a133 a1 (4 : Int32) (
    rt (4 : Int32)))))) FL (0 : Int32))) FL (0 : Int32))
    else cl (onT th 11 (pX11_found th (1 : Int32))) fun v135 =>
    rt v135)
    else rt (-1000002 : Int32))))))))
set_option maxRecDepth 20000 in
theorem sX11_layers_L97 (th : Nat) (a1 : Int32) (a2 : Int32) (a3 : Int32) (a4 : Int32) (a5 : Int32) (k114 : Prg Int32) (hk114 : Sim eX11_layers vI 138 [(0, qv (some th)), (1, iv a1), (2, iv a2), (3, iv a3), (4, iv a4), (5, iv a5)] [] (k114)) : ∀ (n : Nat), ∀ (v113 : Int32), Sim eX11_layers vI 97 [(0, qv (some th)), (1, iv a1), (2, iv a2), (3, iv a3), (4, iv a4), (5, iv a5), (6, iv v113)] [] (pX11_layers_L97 th a1 a2 a3 a4 a5 k114 n v113) := by
  intro n
  induction n with
  | zero =>
    intros
    exact sm_fl
  | succ n ih =>
    intro v113
    unfold pX11_layers_L97
    refine sm_iload (pc' := 99) dX11_layers_97 rfl rfl ?_
    refine sm_iload (pc' := 101) dX11_layers_99 rfl rfl ?_
    refine sm_icmp_ge (pc' := 104) (pc1 := 138) dX11_layers_101 (by decide) rfl (fun _ => ?_) (fun _ => ?_)
    · skip
      refine sm_sub [0, 1, 2, 3, 4, 5] rfl ?_
      exact hk114
    · skip
      refine sm_aload_n (pc' := 105) dX11_layers_104 rfl rfl ?_
      refine sm_getF (pc' := 108) fk_X11_16 yr_11_4 dX11_layers_105 rfl (fun v115 => ?_)
      refine sm_sipush (pc' := 111) (144 : Int32) dX11_layers_108 (by decide) rfl ?_
      refine sm_iload_n (pc' := 112) dX11_layers_111 rfl rfl ?_
      refine sm_imul (pc' := 113) dX11_layers_112 rfl ?_
      refine sm_iload_n (pc' := 114) dX11_layers_113 rfl rfl ?_
      refine sm_iadd (pc' := 115) dX11_layers_114 rfl ?_
      refine sm_iload (pc' := 117) dX11_layers_115 rfl rfl ?_
      refine sm_iadd (pc' := 118) dX11_layers_117 rfl ?_
      rcases v115 with _ | a116
      · exact sm_unN
      refine sm_unS ?_
      refine sm_laload (pc' := 119) dX11_layers_118 rfl (fun v117 => ?_)
      refine sm_lconst (pc' := 120) (0 : Int64) dX11_layers_119 (by decide) rfl ?_
      refine sm_ldc2 (pc' := 123) (10000 : Int64) w_675 dX11_layers_120 rfl ?_
      refine sm_calli (pc' := 126) (sa := [jv (10000 : Int64), jv (0 : Int64), jv v117]) (st := []) (iv_X11_134 v117 (0 : Int64) (10000 : Int64)) (Nat.le_of_ble_eq_true rfl) dX11_layers_123 rfl (Nat.le_of_ble_eq_true rfl) (fun v118 => ?_)
      refine sm_if_ne (pc' := 129) (pc1 := 132) dX11_layers_126 (by decide) rfl (fun _ => ?_) (fun _ => ?_)
      · skip
        refine sm_iinc (pc' := 135) (v113 + (1 : Int32)) [(6, iv (v113 + (1 : Int32))), (0, qv (some th)), (1, iv a1), (2, iv a2), (3, iv a3), (4, iv a4), (5, iv a5)] dX11_layers_132 rfl rfl (Nat.le_of_ble_eq_true rfl) rfl rfl ?_
        refine sm_goto (pc' := 97) dX11_layers_135 (by decide) ?_
        refine sm_sub [1, 2, 3, 4, 5, 6, 0] rfl ?_
        exact ih (v113 + (1 : Int32))
      · skip
        refine sm_ldc (pc' := 131) (-1000001 : Int32) w_609 dX11_layers_129 rfl ?_
        exact sm_ireturn rfl dX11_layers_131
set_option maxRecDepth 20000 in
theorem sX11_layers_L146 (th : Nat) (a1 : Int32) (a2 : Int32) (a3 : Int32) (a4 : Int32) (a5 : Int32) (k120 : Prg Int32) (hk120 : Sim eX11_layers vI 187 [(0, qv (some th)), (1, iv a1), (4, iv a4), (5, iv a5)] [] (k120)) : ∀ (n : Nat), ∀ (v119 : Int32), Sim eX11_layers vI 146 [(0, qv (some th)), (1, iv a1), (2, iv a2), (3, iv a3), (4, iv a4), (5, iv a5), (6, iv v119)] [] (pX11_layers_L146 th a1 a2 a3 a4 a5 k120 n v119) := by
  intro n
  induction n with
  | zero =>
    intros
    exact sm_fl
  | succ n ih =>
    intro v119
    unfold pX11_layers_L146
    refine sm_iload (pc' := 148) dX11_layers_146 rfl rfl ?_
    refine sm_iload (pc' := 150) dX11_layers_148 rfl rfl ?_
    refine sm_icmp_ge (pc' := 153) (pc1 := 187) dX11_layers_150 (by decide) rfl (fun _ => ?_) (fun _ => ?_)
    · skip
      refine sm_sub [0, 1, 4, 5] rfl ?_
      exact hk120
    · skip
      refine sm_aload_n (pc' := 154) dX11_layers_153 rfl rfl ?_
      refine sm_getF (pc' := 157) fk_X11_42 yr_11_12 dX11_layers_154 rfl (fun v121 => ?_)
      refine sm_bipush (pc' := 159) (20 : Int32) dX11_layers_157 (by decide) rfl ?_
      refine sm_iload_n (pc' := 160) dX11_layers_159 rfl rfl ?_
      refine sm_imul (pc' := 161) dX11_layers_160 rfl ?_
      refine sm_iload (pc' := 163) dX11_layers_161 rfl rfl ?_
      refine sm_iadd (pc' := 164) dX11_layers_163 rfl ?_
      refine sm_aload_n (pc' := 165) dX11_layers_164 rfl rfl ?_
      refine sm_getF (pc' := 168) fk_X11_16 yr_11_4 dX11_layers_165 rfl (fun v122 => ?_)
      refine sm_sipush (pc' := 171) (144 : Int32) dX11_layers_168 (by decide) rfl ?_
      refine sm_iload_n (pc' := 172) dX11_layers_171 rfl rfl ?_
      refine sm_imul (pc' := 173) dX11_layers_172 rfl ?_
      refine sm_iload_n (pc' := 174) dX11_layers_173 rfl rfl ?_
      refine sm_iadd (pc' := 175) dX11_layers_174 rfl ?_
      refine sm_iload (pc' := 177) dX11_layers_175 rfl rfl ?_
      refine sm_iadd (pc' := 178) dX11_layers_177 rfl ?_
      rcases v122 with _ | a123
      · exact sm_unN
      refine sm_unS ?_
      refine sm_laload (pc' := 179) dX11_layers_178 rfl (fun v124 => ?_)
      refine sm_l2i (pc' := 180) dX11_layers_179 rfl ?_
      rcases v121 with _ | a125
      · exact sm_unN
      refine sm_unS ?_
      refine sm_iastore (pc' := 181) dX11_layers_180 rfl ?_
      refine sm_iinc (pc' := 184) (v119 + (1 : Int32)) [(6, iv (v119 + (1 : Int32))), (0, qv (some th)), (1, iv a1), (2, iv a2), (3, iv a3), (4, iv a4), (5, iv a5)] dX11_layers_181 rfl rfl (Nat.le_of_ble_eq_true rfl) rfl rfl ?_
      refine sm_goto (pc' := 146) dX11_layers_184 (by decide) ?_
      refine sm_sub [1, 2, 3, 4, 5, 6, 0] rfl ?_
      exact ih (v119 + (1 : Int32))
set_option maxRecDepth 20000 in
theorem sX11_layers (th : Nat) (a1 : Int32) (a2 : Int32) (a3 : Int32) (a4 : Int32) (a5 : Int32) : Sim eX11_layers vI 0 [(0, qv (some th)), (1, iv a1), (2, iv a2), (3, iv a3), (4, iv a4), (5, iv a5)] [] (pX11_layers th a1 a2 a3 a4 a5) := by
  unfold pX11_layers
  refine sm_aload_n (pc' := 1) dX11_layers_0 rfl rfl ?_
  refine sm_iconst (pc' := 2) (0 : Int32) dX11_layers_1 (by decide) rfl ?_
  refine sm_putI (pc' := 5) (gk_X11_124 _ _ _ _ _) ti_11_0 dX11_layers_2 rfl ?_
  refine sm_iload_n (pc' := 6) dX11_layers_5 rfl rfl ?_
  refine sm_calli (pc' := 9) (sa := [iv a1]) (st := []) (iv_X11_153 a1) (Nat.le_of_ble_eq_true rfl) dX11_layers_6 rfl (Nat.le_of_ble_eq_true rfl) (fun v101 => ?_)
  refine sm_lt (fun k102 => Sim eX11_layers vI 47 [] [] (k102)) ?_ (fun k102 hk102 => ?_)
  · skip
    refine sm_ldc (pc' := 49) (-1000001 : Int32) w_609 dX11_layers_47 rfl ?_
    exact sm_ireturn rfl dX11_layers_49
  · skip
    refine sm_if_eq (pc' := 12) (pc1 := 47) dX11_layers_9 (by decide) rfl (fun _ => ?_) (fun _ => ?_)
    · skip
      refine sm_sub [] rfl ?_
      exact hk102
    · skip
      refine sm_iload_n (pc' := 13) dX11_layers_12 rfl rfl ?_
      refine sm_calli (pc' := 16) (sa := [iv a2]) (st := []) (iv_X11_138 a2) (Nat.le_of_ble_eq_true rfl) dX11_layers_13 rfl (Nat.le_of_ble_eq_true rfl) (fun v103 => ?_)
      refine sm_if_eq (pc' := 19) (pc1 := 47) dX11_layers_16 (by decide) rfl (fun _ => ?_) (fun _ => ?_)
      · skip
        refine sm_sub [] rfl ?_
        exact hk102
      · skip
        refine sm_iload (pc' := 21) dX11_layers_19 rfl rfl ?_
        refine sm_i2l (pc' := 22) dX11_layers_21 rfl ?_
        refine sm_ldc2 (pc' := 25) (2 : Int64) w_727 dX11_layers_22 rfl ?_
        refine sm_ldc2 (pc' := 28) (20 : Int64) w_728 dX11_layers_25 rfl ?_
        refine sm_calli (pc' := 31) (sa := [jv (20 : Int64), jv (2 : Int64), jv (Int32.toInt64 a4)]) (st := []) (iv_X11_134 (Int32.toInt64 a4) (2 : Int64) (20 : Int64)) (Nat.le_of_ble_eq_true rfl) dX11_layers_28 rfl (Nat.le_of_ble_eq_true rfl) (fun v104 => ?_)
        refine sm_if_eq (pc' := 34) (pc1 := 47) dX11_layers_31 (by decide) rfl (fun _ => ?_) (fun _ => ?_)
        · skip
          refine sm_sub [] rfl ?_
          exact hk102
        · skip
          refine sm_iload (pc' := 36) dX11_layers_34 rfl rfl ?_
          refine sm_i2l (pc' := 37) dX11_layers_36 rfl ?_
          refine sm_lconst (pc' := 38) (0 : Int64) dX11_layers_37 (by decide) rfl ?_
          refine sm_ldc2 (pc' := 41) (10000 : Int64) w_675 dX11_layers_38 rfl ?_
          refine sm_calli (pc' := 44) (sa := [jv (10000 : Int64), jv (0 : Int64), jv (Int32.toInt64 a5)]) (st := []) (iv_X11_134 (Int32.toInt64 a5) (0 : Int64) (10000 : Int64)) (Nat.le_of_ble_eq_true rfl) dX11_layers_41 rfl (Nat.le_of_ble_eq_true rfl) (fun v105 => ?_)
          refine sm_if_ne (pc' := 47) (pc1 := 50) dX11_layers_44 (by decide) rfl (fun _ => ?_) (fun _ => ?_)
          · skip
            refine sm_aload_n (pc' := 51) dX11_layers_50 rfl rfl ?_
            refine sm_getF (pc' := 54) fk_X11_51 yr_11_15 dX11_layers_51 rfl (fun v106 => ?_)
            refine sm_iload_n (pc' := 55) dX11_layers_54 rfl rfl ?_
            rcases v106 with _ | a107
            · exact sm_unN
            refine sm_unS ?_
            refine sm_iaload (pc' := 56) dX11_layers_55 rfl (fun v108 => ?_)
            refine sm_if_lt (pc' := 59) (pc1 := 62) dX11_layers_56 (by decide) rfl (fun _ => ?_) (fun _ => ?_)
            · skip
              refine sm_aload_n (pc' := 63) dX11_layers_62 rfl rfl ?_
              refine sm_getF (pc' := 66) fk_X11_7 yr_11_2 dX11_layers_63 rfl (fun v109 => ?_)
              refine sm_iload_n (pc' := 67) dX11_layers_66 rfl rfl ?_
              rcases v109 with _ | a110
              · exact sm_unN
              refine sm_unS ?_
              refine sm_iaload (pc' := 68) dX11_layers_67 rfl (fun v111 => ?_)
              refine sm_if_ge (pc' := 71) (pc1 := 77) dX11_layers_68 (by decide) rfl (fun _ => ?_) (fun _ => ?_)
              · skip
                refine sm_aload_n (pc' := 78) dX11_layers_77 rfl rfl ?_
                refine sm_iload_n (pc' := 79) dX11_layers_78 rfl rfl ?_
                refine sm_iload_n (pc' := 80) dX11_layers_79 rfl rfl ?_
                refine sm_iload (pc' := 82) dX11_layers_80 rfl rfl ?_
                refine sm_calli (pc' := 85) (sa := [iv a4, iv a3, iv a2, qv (some th)]) (st := []) (iv_X11_159 th a2 a3 a4) (Nat.le_of_ble_eq_true rfl) dX11_layers_82 rfl (Nat.le_of_ble_eq_true rfl) (fun v112 => ?_)
                refine sm_if_ne (pc' := 88) (pc1 := 94) dX11_layers_85 (by decide) rfl (fun _ => ?_) (fun _ => ?_)
                · skip
                  refine sm_iconst (pc' := 95) (0 : Int32) dX11_layers_94 (by decide) rfl ?_
                  refine sm_istore (pc' := 97) [(6, iv (0 : Int32)), (0, qv (some th)), (1, iv a1), (2, iv a2), (3, iv a3), (4, iv a4), (5, iv a5)] dX11_layers_95  (Nat.le_of_ble_eq_true rfl) rfl rfl ?_
                  refine sm_sub [1, 2, 3, 4, 5, 6, 0] rfl ?_
                  refine sX11_layers_L97 th a1 a2 a3 a4 a5 _ ?_ FL (0 : Int32)
                  · skip
                    refine sm_aload_n (pc' := 139) dX11_layers_138 rfl rfl ?_
                    refine sm_iconst (pc' := 140) (0 : Int32) dX11_layers_139 (by decide) rfl ?_
                    refine sm_putI (pc' := 143) (gk_X11_128 _ _ _ _ _) ti_11_1 dX11_layers_140 rfl ?_
                    refine sm_iconst (pc' := 144) (0 : Int32) dX11_layers_143 (by decide) rfl ?_
                    refine sm_istore (pc' := 146) [(6, iv (0 : Int32)), (0, qv (some th)), (1, iv a1), (2, iv a2), (3, iv a3), (4, iv a4), (5, iv a5)] dX11_layers_144  (Nat.le_of_ble_eq_true rfl) rfl rfl ?_
                    refine sm_sub [1, 2, 3, 4, 5, 6, 0] rfl ?_
                    refine sX11_layers_L146 th a1 a2 a3 a4 a5 _ ?_ FL (0 : Int32)
                    · skip
                      refine sm_aload_n (pc' := 188) dX11_layers_187 rfl rfl ?_
                      refine sm_getF (pc' := 191) fk_X11_23 yr_11_6 dX11_layers_188 rfl (fun v126 => ?_)
                      refine sm_iload_n (pc' := 192) dX11_layers_191 rfl rfl ?_
                      refine sm_iload (pc' := 194) dX11_layers_192 rfl rfl ?_
                      rcases v126 with _ | a127
                      · exact sm_unN
                      refine sm_unS ?_
                      refine sm_iastore (pc' := 195) dX11_layers_194 rfl ?_
                      refine sm_aload_n (pc' := 196) dX11_layers_195 rfl rfl ?_
                      refine sm_getF (pc' := 199) fk_X11_45 yr_11_13 dX11_layers_196 rfl (fun v128 => ?_)
                      refine sm_iload_n (pc' := 200) dX11_layers_199 rfl rfl ?_
                      refine sm_iload (pc' := 202) dX11_layers_200 rfl rfl ?_
                      rcases v128 with _ | a129
                      · exact sm_unN
                      refine sm_unS ?_
                      refine sm_iastore (pc' := 203) dX11_layers_202 rfl ?_
                      refine sm_aload_n (pc' := 204) dX11_layers_203 rfl rfl ?_
                      refine sm_getF (pc' := 207) fk_X11_48 yr_11_14 dX11_layers_204 rfl (fun v130 => ?_)
                      refine sm_iload_n (pc' := 208) dX11_layers_207 rfl rfl ?_
                      refine sm_iconst (pc' := 209) (0 : Int32) dX11_layers_208 (by decide) rfl ?_
                      rcases v130 with _ | a131
                      · exact sm_unN
                      refine sm_unS ?_
                      refine sm_iastore (pc' := 210) dX11_layers_209 rfl ?_
                      refine sm_aload_n (pc' := 211) dX11_layers_210 rfl rfl ?_
                      refine sm_getF (pc' := 214) fk_X11_20 yr_11_5 dX11_layers_211 rfl (fun v132 => ?_)
                      refine sm_iload_n (pc' := 215) dX11_layers_214 rfl rfl ?_
                      refine sm_iconst (pc' := 216) (4 : Int32) dX11_layers_215 (by decide) rfl ?_
                      rcases v132 with _ | a133
                      · exact sm_unN
                      refine sm_unS ?_
                      refine sm_iastore (pc' := 217) dX11_layers_216 rfl ?_
                      refine sm_iconst (pc' := 218) (4 : Int32) dX11_layers_217 (by decide) rfl ?_
                      exact sm_ireturn rfl dX11_layers_218
                · skip
                  refine sm_aload_n (pc' := 89) dX11_layers_88 rfl rfl ?_
                  refine sm_iconst (pc' := 90) (2 : Int32) dX11_layers_89 (by decide) rfl ?_
                  refine sm_calli (pc' := 93) (sa := [iv (2 : Int32), qv (some th)]) (st := []) (iv_X11_145 th (2 : Int32)) (Nat.le_of_ble_eq_true rfl) dX11_layers_90 rfl (Nat.le_of_ble_eq_true rfl) (fun v134 => ?_)
                  exact sm_ireturn rfl dX11_layers_93
              · skip
                refine sm_aload_n (pc' := 72) dX11_layers_71 rfl rfl ?_
                refine sm_iconst (pc' := 73) (1 : Int32) dX11_layers_72 (by decide) rfl ?_
                refine sm_calli (pc' := 76) (sa := [iv (1 : Int32), qv (some th)]) (st := []) (iv_X11_145 th (1 : Int32)) (Nat.le_of_ble_eq_true rfl) dX11_layers_73 rfl (Nat.le_of_ble_eq_true rfl) (fun v135 => ?_)
                exact sm_ireturn rfl dX11_layers_76
            · skip
              refine sm_ldc (pc' := 61) (-1000002 : Int32) w_691 dX11_layers_59 rfl ?_
              exact sm_ireturn rfl dX11_layers_61
          · skip
            refine sm_sub [] rfl ?_
            exact hk102
theorem kX11_layers (th : Nat) (a1 : Int32) (a2 : Int32) (a3 : Int32) (a4 : Int32) (a5 : Int32) : Callee 2 yX11_layers cX11_layers 7 (some .int) [qv (some th), iv a1, iv a2, iv a3, iv a4, iv a5] vI (pX11_layers th a1 a2 a3 a4 a5) := callee_ofS [(0, qv (some th)), (1, iv a1), (2, iv a2), (3, iv a3), (4, iv a4), (5, iv a5)] (by decide +kernel) (Nat.le_of_ble_eq_true rfl) rfl (sX11_layers th a1 a2 a3 a4 a5)
