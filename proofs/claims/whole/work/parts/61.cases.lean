/-! the law: its calls, its cases, its loop; over what is still owed of each pair of methods (open) -/
theorem wl_1 : Cond.methodLink "HollowPressLaw" 13 ⟨"HollowPress", "sheet", "(III)I"⟩ ∈ gtbl := tb_g 185 (by decide +kernel) rfl
theorem wl_2 : Cond.instanceMethod ⟨"HollowPress", "sheet", "(III)I"⟩ ∈ gtbl := tb_g 186 (by decide +kernel) rfl
theorem wl_3 : Cond.selects "HollowPress" ⟨"HollowPress", "sheet", "(III)I"⟩ ⟨"HollowPress", "sheet", "(III)I"⟩ ∈ gtbl := tb_g 187 (by decide +kernel) rfl
theorem wl_4 : Cond.initialized "HollowPress" ∈ gtbl := tb_g 1 (by decide +kernel) rfl
theorem wl_5 : Cond.code yX10_sheet cX10_sheet 4 (some .int) ∈ gtbl := tb_g 188 (by decide +kernel) rfl
theorem wl_6 : Cond.methodLink "HollowPressLaw" 17 ⟨"HollowPressModel", "sheet", "(III)I"⟩ ∈ gtbl := tb_g 994 (by decide +kernel) rfl
theorem wl_7 : Cond.instanceMethod ⟨"HollowPressModel", "sheet", "(III)I"⟩ ∈ gtbl := tb_g 995 (by decide +kernel) rfl
theorem wl_8 : Cond.selects "HollowPressModel" ⟨"HollowPressModel", "sheet", "(III)I"⟩ ⟨"HollowPressModel", "sheet", "(III)I"⟩ ∈ gtbl := tb_g 996 (by decide +kernel) rfl
theorem wl_9 : Cond.initialized "HollowPressModel" ∈ gtbl := tb_g 6 (by decide +kernel) rfl
theorem wl_10 : Cond.code yX11_sheet cX11_sheet 5 (some .int) ∈ gtbl := tb_g 997 (by decide +kernel) rfl
theorem wl_11 : Cond.methodLink "HollowPressLaw" 20 ⟨"HollowPress", "set", "(IIJ)J"⟩ ∈ gtbl := tb_g 220 (by decide +kernel) rfl
theorem wl_12 : Cond.instanceMethod ⟨"HollowPress", "set", "(IIJ)J"⟩ ∈ gtbl := tb_g 221 (by decide +kernel) rfl
theorem wl_13 : Cond.selects "HollowPress" ⟨"HollowPress", "set", "(IIJ)J"⟩ ⟨"HollowPress", "set", "(IIJ)J"⟩ ∈ gtbl := tb_g 222 (by decide +kernel) rfl
theorem wl_14 : Cond.code yX10_set cX10_set 6 (some .long) ∈ gtbl := tb_g 223 (by decide +kernel) rfl
theorem wl_15 : Cond.methodLink "HollowPressLaw" 24 ⟨"HollowPressModel", "set", "(IIJ)J"⟩ ∈ gtbl := tb_g 1012 (by decide +kernel) rfl
theorem wl_16 : Cond.instanceMethod ⟨"HollowPressModel", "set", "(IIJ)J"⟩ ∈ gtbl := tb_g 1013 (by decide +kernel) rfl
theorem wl_17 : Cond.selects "HollowPressModel" ⟨"HollowPressModel", "set", "(IIJ)J"⟩ ⟨"HollowPressModel", "set", "(IIJ)J"⟩ ∈ gtbl := tb_g 1014 (by decide +kernel) rfl
theorem wl_18 : Cond.code yX11_set cX11_set 5 (some .long) ∈ gtbl := tb_g 1015 (by decide +kernel) rfl
theorem wl_19 : Cond.constantLong "HollowPressLaw" 18 4294967295 ∈ gtbl := tb_g 1248 (by decide +kernel) rfl
theorem wl_20 : Cond.methodLink "HollowPressLaw" 25 ⟨"HollowPress", "copy", "(IIIII)I"⟩ ∈ gtbl := tb_g 234 (by decide +kernel) rfl
theorem wl_21 : Cond.instanceMethod ⟨"HollowPress", "copy", "(IIIII)I"⟩ ∈ gtbl := tb_g 235 (by decide +kernel) rfl
theorem wl_22 : Cond.selects "HollowPress" ⟨"HollowPress", "copy", "(IIIII)I"⟩ ⟨"HollowPress", "copy", "(IIIII)I"⟩ ∈ gtbl := tb_g 236 (by decide +kernel) rfl
theorem wl_23 : Cond.code yX10_copy cX10_copy 8 (some .int) ∈ gtbl := tb_g 237 (by decide +kernel) rfl
theorem wl_24 : Cond.methodLink "HollowPressLaw" 29 ⟨"HollowPressModel", "copy", "(IIIII)I"⟩ ∈ gtbl := tb_g 1017 (by decide +kernel) rfl
theorem wl_25 : Cond.instanceMethod ⟨"HollowPressModel", "copy", "(IIIII)I"⟩ ∈ gtbl := tb_g 1018 (by decide +kernel) rfl
theorem wl_26 : Cond.selects "HollowPressModel" ⟨"HollowPressModel", "copy", "(IIIII)I"⟩ ⟨"HollowPressModel", "copy", "(IIIII)I"⟩ ∈ gtbl := tb_g 1019 (by decide +kernel) rfl
theorem wl_27 : Cond.code yX11_copy cX11_copy 9 (some .int) ∈ gtbl := tb_g 1020 (by decide +kernel) rfl
theorem wl_28 : Cond.methodLink "HollowPressLaw" 30 ⟨"HollowPress", "drop", "(I)I"⟩ ∈ gtbl := tb_g 241 (by decide +kernel) rfl
theorem wl_29 : Cond.instanceMethod ⟨"HollowPress", "drop", "(I)I"⟩ ∈ gtbl := tb_g 242 (by decide +kernel) rfl
theorem wl_30 : Cond.selects "HollowPress" ⟨"HollowPress", "drop", "(I)I"⟩ ⟨"HollowPress", "drop", "(I)I"⟩ ∈ gtbl := tb_g 243 (by decide +kernel) rfl
theorem wl_31 : Cond.code yX10_drop cX10_drop 3 (some .int) ∈ gtbl := tb_g 244 (by decide +kernel) rfl
theorem wl_32 : Cond.methodLink "HollowPressLaw" 34 ⟨"HollowPressModel", "drop", "(I)I"⟩ ∈ gtbl := tb_g 1021 (by decide +kernel) rfl
theorem wl_33 : Cond.instanceMethod ⟨"HollowPressModel", "drop", "(I)I"⟩ ∈ gtbl := tb_g 1022 (by decide +kernel) rfl
theorem wl_34 : Cond.selects "HollowPressModel" ⟨"HollowPressModel", "drop", "(I)I"⟩ ⟨"HollowPressModel", "drop", "(I)I"⟩ ∈ gtbl := tb_g 1023 (by decide +kernel) rfl
theorem wl_35 : Cond.code yX11_drop cX11_drop 2 (some .int) ∈ gtbl := tb_g 1024 (by decide +kernel) rfl
theorem wl_36 : Cond.methodLink "HollowPressLaw" 35 ⟨"HollowPress", "part", "(IIIII)I"⟩ ∈ gtbl := tb_g 245 (by decide +kernel) rfl
theorem wl_37 : Cond.instanceMethod ⟨"HollowPress", "part", "(IIIII)I"⟩ ∈ gtbl := tb_g 246 (by decide +kernel) rfl
theorem wl_38 : Cond.selects "HollowPress" ⟨"HollowPress", "part", "(IIIII)I"⟩ ⟨"HollowPress", "part", "(IIIII)I"⟩ ∈ gtbl := tb_g 247 (by decide +kernel) rfl
theorem wl_39 : Cond.code yX10_part cX10_part 7 (some .int) ∈ gtbl := tb_g 248 (by decide +kernel) rfl
theorem wl_40 : Cond.methodLink "HollowPressLaw" 38 ⟨"HollowPressModel", "part", "(IIIII)I"⟩ ∈ gtbl := tb_g 1025 (by decide +kernel) rfl
theorem wl_41 : Cond.instanceMethod ⟨"HollowPressModel", "part", "(IIIII)I"⟩ ∈ gtbl := tb_g 1026 (by decide +kernel) rfl
theorem wl_42 : Cond.selects "HollowPressModel" ⟨"HollowPressModel", "part", "(IIIII)I"⟩ ⟨"HollowPressModel", "part", "(IIIII)I"⟩ ∈ gtbl := tb_g 1027 (by decide +kernel) rfl
theorem wl_43 : Cond.code yX11_part cX11_part 13 (some .int) ∈ gtbl := tb_g 1028 (by decide +kernel) rfl
theorem wl_44 : Cond.methodLink "HollowPressLaw" 39 ⟨"HollowPress", "layers", "(IIIII)I"⟩ ∈ gtbl := tb_g 378 (by decide +kernel) rfl
theorem wl_45 : Cond.instanceMethod ⟨"HollowPress", "layers", "(IIIII)I"⟩ ∈ gtbl := tb_g 379 (by decide +kernel) rfl
theorem wl_46 : Cond.selects "HollowPress" ⟨"HollowPress", "layers", "(IIIII)I"⟩ ⟨"HollowPress", "layers", "(IIIII)I"⟩ ∈ gtbl := tb_g 380 (by decide +kernel) rfl
theorem wl_47 : Cond.code yX10_layers cX10_layers 7 (some .int) ∈ gtbl := tb_g 381 (by decide +kernel) rfl
theorem wl_48 : Cond.methodLink "HollowPressLaw" 42 ⟨"HollowPressModel", "layers", "(IIIII)I"⟩ ∈ gtbl := tb_g 1039 (by decide +kernel) rfl
theorem wl_49 : Cond.instanceMethod ⟨"HollowPressModel", "layers", "(IIIII)I"⟩ ∈ gtbl := tb_g 1040 (by decide +kernel) rfl
theorem wl_50 : Cond.selects "HollowPressModel" ⟨"HollowPressModel", "layers", "(IIIII)I"⟩ ⟨"HollowPressModel", "layers", "(IIIII)I"⟩ ∈ gtbl := tb_g 1041 (by decide +kernel) rfl
theorem wl_51 : Cond.code yX11_layers cX11_layers 7 (some .int) ∈ gtbl := tb_g 1042 (by decide +kernel) rfl
theorem wl_52 : Cond.methodLink "HollowPressLaw" 43 ⟨"HollowPress", "clear", "(I)I"⟩ ∈ gtbl := tb_g 400 (by decide +kernel) rfl
theorem wl_53 : Cond.instanceMethod ⟨"HollowPress", "clear", "(I)I"⟩ ∈ gtbl := tb_g 401 (by decide +kernel) rfl
theorem wl_54 : Cond.selects "HollowPress" ⟨"HollowPress", "clear", "(I)I"⟩ ⟨"HollowPress", "clear", "(I)I"⟩ ∈ gtbl := tb_g 402 (by decide +kernel) rfl
theorem wl_55 : Cond.code yX10_clear cX10_clear 2 (some .int) ∈ gtbl := tb_g 403 (by decide +kernel) rfl
theorem wl_56 : Cond.methodLink "HollowPressLaw" 46 ⟨"HollowPressModel", "clear", "(I)I"⟩ ∈ gtbl := tb_g 1045 (by decide +kernel) rfl
theorem wl_57 : Cond.instanceMethod ⟨"HollowPressModel", "clear", "(I)I"⟩ ∈ gtbl := tb_g 1046 (by decide +kernel) rfl
theorem wl_58 : Cond.selects "HollowPressModel" ⟨"HollowPressModel", "clear", "(I)I"⟩ ⟨"HollowPressModel", "clear", "(I)I"⟩ ∈ gtbl := tb_g 1047 (by decide +kernel) rfl
theorem wl_59 : Cond.code yX11_clear cX11_clear 3 (some .int) ∈ gtbl := tb_g 1048 (by decide +kernel) rfl
theorem wl_60 : Cond.methodLink "HollowPressLaw" 47 ⟨"HollowPress", "kind", "(I)I"⟩ ∈ gtbl := tb_g 404 (by decide +kernel) rfl
theorem wl_61 : Cond.instanceMethod ⟨"HollowPress", "kind", "(I)I"⟩ ∈ gtbl := tb_g 405 (by decide +kernel) rfl
theorem wl_62 : Cond.selects "HollowPress" ⟨"HollowPress", "kind", "(I)I"⟩ ⟨"HollowPress", "kind", "(I)I"⟩ ∈ gtbl := tb_g 406 (by decide +kernel) rfl
theorem wl_63 : Cond.code yX10_kind cX10_kind 3 (some .int) ∈ gtbl := tb_g 407 (by decide +kernel) rfl
theorem wl_64 : Cond.methodLink "HollowPressLaw" 50 ⟨"HollowPressModel", "kind", "(I)I"⟩ ∈ gtbl := tb_g 1049 (by decide +kernel) rfl
theorem wl_65 : Cond.instanceMethod ⟨"HollowPressModel", "kind", "(I)I"⟩ ∈ gtbl := tb_g 1050 (by decide +kernel) rfl
theorem wl_66 : Cond.selects "HollowPressModel" ⟨"HollowPressModel", "kind", "(I)I"⟩ ⟨"HollowPressModel", "kind", "(I)I"⟩ ∈ gtbl := tb_g 1051 (by decide +kernel) rfl
theorem wl_67 : Cond.code yX11_kind cX11_kind 2 (some .int) ∈ gtbl := tb_g 1052 (by decide +kernel) rfl
theorem wl_68 : Cond.methodLink "HollowPressLaw" 51 ⟨"HollowPress", "is", "(II)I"⟩ ∈ gtbl := tb_g 408 (by decide +kernel) rfl
theorem wl_69 : Cond.instanceMethod ⟨"HollowPress", "is", "(II)I"⟩ ∈ gtbl := tb_g 409 (by decide +kernel) rfl
theorem wl_70 : Cond.selects "HollowPress" ⟨"HollowPress", "is", "(II)I"⟩ ⟨"HollowPress", "is", "(II)I"⟩ ∈ gtbl := tb_g 410 (by decide +kernel) rfl
theorem wl_71 : Cond.code yX10_is cX10_is 3 (some .int) ∈ gtbl := tb_g 411 (by decide +kernel) rfl
theorem wl_72 : Cond.methodLink "HollowPressLaw" 55 ⟨"HollowPressModel", "is", "(II)I"⟩ ∈ gtbl := tb_g 1053 (by decide +kernel) rfl
theorem wl_73 : Cond.instanceMethod ⟨"HollowPressModel", "is", "(II)I"⟩ ∈ gtbl := tb_g 1054 (by decide +kernel) rfl
theorem wl_74 : Cond.selects "HollowPressModel" ⟨"HollowPressModel", "is", "(II)I"⟩ ⟨"HollowPressModel", "is", "(II)I"⟩ ∈ gtbl := tb_g 1055 (by decide +kernel) rfl
theorem wl_75 : Cond.code yX11_is cX11_is 3 (some .int) ∈ gtbl := tb_g 1056 (by decide +kernel) rfl
theorem wl_76 : Cond.methodLink "HollowPressLaw" 56 ⟨"HollowPress", "ask", "(II)I"⟩ ∈ gtbl := tb_g 435 (by decide +kernel) rfl
theorem wl_77 : Cond.instanceMethod ⟨"HollowPress", "ask", "(II)I"⟩ ∈ gtbl := tb_g 436 (by decide +kernel) rfl
theorem wl_78 : Cond.selects "HollowPress" ⟨"HollowPress", "ask", "(II)I"⟩ ⟨"HollowPress", "ask", "(II)I"⟩ ∈ gtbl := tb_g 437 (by decide +kernel) rfl
theorem wl_79 : Cond.code yX10_ask cX10_ask 4 (some .int) ∈ gtbl := tb_g 438 (by decide +kernel) rfl
theorem wl_80 : Cond.methodLink "HollowPressLaw" 59 ⟨"HollowPressModel", "ask", "(II)I"⟩ ∈ gtbl := tb_g 1061 (by decide +kernel) rfl
theorem wl_81 : Cond.instanceMethod ⟨"HollowPressModel", "ask", "(II)I"⟩ ∈ gtbl := tb_g 1062 (by decide +kernel) rfl
theorem wl_82 : Cond.selects "HollowPressModel" ⟨"HollowPressModel", "ask", "(II)I"⟩ ⟨"HollowPressModel", "ask", "(II)I"⟩ ∈ gtbl := tb_g 1063 (by decide +kernel) rfl
theorem wl_83 : Cond.code yX11_ask cX11_ask 3 (some .int) ∈ gtbl := tb_g 1064 (by decide +kernel) rfl
theorem wl_84 : Cond.methodLink "HollowPressLaw" 60 ⟨"HollowPress", "trace", "(I)I"⟩ ∈ gtbl := tb_g 488 (by decide +kernel) rfl
theorem wl_85 : Cond.instanceMethod ⟨"HollowPress", "trace", "(I)I"⟩ ∈ gtbl := tb_g 489 (by decide +kernel) rfl
theorem wl_86 : Cond.selects "HollowPress" ⟨"HollowPress", "trace", "(I)I"⟩ ⟨"HollowPress", "trace", "(I)I"⟩ ∈ gtbl := tb_g 490 (by decide +kernel) rfl
theorem wl_87 : Cond.code yX10_trace cX10_trace 2 (some .int) ∈ gtbl := tb_g 491 (by decide +kernel) rfl
theorem wl_88 : Cond.methodLink "HollowPressLaw" 63 ⟨"HollowPressModel", "trace", "(I)I"⟩ ∈ gtbl := tb_g 1077 (by decide +kernel) rfl
theorem wl_89 : Cond.instanceMethod ⟨"HollowPressModel", "trace", "(I)I"⟩ ∈ gtbl := tb_g 1078 (by decide +kernel) rfl
theorem wl_90 : Cond.selects "HollowPressModel" ⟨"HollowPressModel", "trace", "(I)I"⟩ ⟨"HollowPressModel", "trace", "(I)I"⟩ ∈ gtbl := tb_g 1079 (by decide +kernel) rfl
theorem wl_91 : Cond.code yX11_trace cX11_trace 2 (some .int) ∈ gtbl := tb_g 1080 (by decide +kernel) rfl
theorem wl_92 : Cond.methodLink "HollowPressLaw" 64 ⟨"HollowPress", "gate", "(II)I"⟩ ∈ gtbl := tb_g 498 (by decide +kernel) rfl
theorem wl_93 : Cond.instanceMethod ⟨"HollowPress", "gate", "(II)I"⟩ ∈ gtbl := tb_g 499 (by decide +kernel) rfl
theorem wl_94 : Cond.selects "HollowPress" ⟨"HollowPress", "gate", "(II)I"⟩ ⟨"HollowPress", "gate", "(II)I"⟩ ∈ gtbl := tb_g 500 (by decide +kernel) rfl
theorem wl_95 : Cond.code yX10_gate cX10_gate 5 (some .int) ∈ gtbl := tb_g 501 (by decide +kernel) rfl
theorem wl_96 : Cond.methodLink "HollowPressLaw" 67 ⟨"HollowPressModel", "gate", "(II)I"⟩ ∈ gtbl := tb_g 1082 (by decide +kernel) rfl
theorem wl_97 : Cond.instanceMethod ⟨"HollowPressModel", "gate", "(II)I"⟩ ∈ gtbl := tb_g 1083 (by decide +kernel) rfl
theorem wl_98 : Cond.selects "HollowPressModel" ⟨"HollowPressModel", "gate", "(II)I"⟩ ⟨"HollowPressModel", "gate", "(II)I"⟩ ∈ gtbl := tb_g 1084 (by decide +kernel) rfl
theorem wl_99 : Cond.code yX11_gate cX11_gate 6 (some .int) ∈ gtbl := tb_g 1085 (by decide +kernel) rfl
theorem wl_100 : Cond.methodLink "HollowPressLaw" 68 ⟨"HollowPress", "vent", "(II)I"⟩ ∈ gtbl := tb_g 588 (by decide +kernel) rfl
theorem wl_101 : Cond.instanceMethod ⟨"HollowPress", "vent", "(II)I"⟩ ∈ gtbl := tb_g 589 (by decide +kernel) rfl
theorem wl_102 : Cond.selects "HollowPress" ⟨"HollowPress", "vent", "(II)I"⟩ ⟨"HollowPress", "vent", "(II)I"⟩ ∈ gtbl := tb_g 590 (by decide +kernel) rfl
theorem wl_103 : Cond.code yX10_vent cX10_vent 5 (some .int) ∈ gtbl := tb_g 591 (by decide +kernel) rfl
theorem wl_104 : Cond.methodLink "HollowPressLaw" 71 ⟨"HollowPressModel", "vent", "(II)I"⟩ ∈ gtbl := tb_g 1095 (by decide +kernel) rfl
theorem wl_105 : Cond.instanceMethod ⟨"HollowPressModel", "vent", "(II)I"⟩ ∈ gtbl := tb_g 1096 (by decide +kernel) rfl
theorem wl_106 : Cond.selects "HollowPressModel" ⟨"HollowPressModel", "vent", "(II)I"⟩ ⟨"HollowPressModel", "vent", "(II)I"⟩ ∈ gtbl := tb_g 1097 (by decide +kernel) rfl
theorem wl_107 : Cond.code yX11_vent cX11_vent 4 (some .int) ∈ gtbl := tb_g 1098 (by decide +kernel) rfl
theorem wl_108 : Cond.methodLink "HollowPressLaw" 72 ⟨"HollowPress", "cell", "(III)I"⟩ ∈ gtbl := tb_g 599 (by decide +kernel) rfl
theorem wl_109 : Cond.instanceMethod ⟨"HollowPress", "cell", "(III)I"⟩ ∈ gtbl := tb_g 600 (by decide +kernel) rfl
theorem wl_110 : Cond.selects "HollowPress" ⟨"HollowPress", "cell", "(III)I"⟩ ⟨"HollowPress", "cell", "(III)I"⟩ ∈ gtbl := tb_g 601 (by decide +kernel) rfl
theorem wl_111 : Cond.code yX10_cell cX10_cell 6 (some .int) ∈ gtbl := tb_g 602 (by decide +kernel) rfl
theorem wl_112 : Cond.methodLink "HollowPressLaw" 75 ⟨"HollowPressModel", "cell", "(III)I"⟩ ∈ gtbl := tb_g 1099 (by decide +kernel) rfl
theorem wl_113 : Cond.instanceMethod ⟨"HollowPressModel", "cell", "(III)I"⟩ ∈ gtbl := tb_g 1100 (by decide +kernel) rfl
theorem wl_114 : Cond.selects "HollowPressModel" ⟨"HollowPressModel", "cell", "(III)I"⟩ ⟨"HollowPressModel", "cell", "(III)I"⟩ ∈ gtbl := tb_g 1101 (by decide +kernel) rfl
theorem wl_115 : Cond.code yX11_cell cX11_cell 7 (some .int) ∈ gtbl := tb_g 1102 (by decide +kernel) rfl
theorem wl_116 : Cond.methodLink "HollowPressLaw" 76 ⟨"HollowPress", "meeting", "(III)I"⟩ ∈ gtbl := tb_g 618 (by decide +kernel) rfl
theorem wl_117 : Cond.instanceMethod ⟨"HollowPress", "meeting", "(III)I"⟩ ∈ gtbl := tb_g 619 (by decide +kernel) rfl
theorem wl_118 : Cond.selects "HollowPress" ⟨"HollowPress", "meeting", "(III)I"⟩ ⟨"HollowPress", "meeting", "(III)I"⟩ ∈ gtbl := tb_g 620 (by decide +kernel) rfl
theorem wl_119 : Cond.code yX10_meeting cX10_meeting 6 (some .int) ∈ gtbl := tb_g 621 (by decide +kernel) rfl
theorem wl_120 : Cond.methodLink "HollowPressLaw" 79 ⟨"HollowPressModel", "meeting", "(III)I"⟩ ∈ gtbl := tb_g 1118 (by decide +kernel) rfl
theorem wl_121 : Cond.instanceMethod ⟨"HollowPressModel", "meeting", "(III)I"⟩ ∈ gtbl := tb_g 1119 (by decide +kernel) rfl
theorem wl_122 : Cond.selects "HollowPressModel" ⟨"HollowPressModel", "meeting", "(III)I"⟩ ⟨"HollowPressModel", "meeting", "(III)I"⟩ ∈ gtbl := tb_g 1120 (by decide +kernel) rfl
theorem wl_123 : Cond.code yX11_meeting cX11_meeting 9 (some .int) ∈ gtbl := tb_g 1121 (by decide +kernel) rfl
theorem wl_124 : Cond.methodLink "HollowPressLaw" 80 ⟨"HollowPress", "trap", "(II)I"⟩ ∈ gtbl := tb_g 627 (by decide +kernel) rfl
theorem wl_125 : Cond.instanceMethod ⟨"HollowPress", "trap", "(II)I"⟩ ∈ gtbl := tb_g 628 (by decide +kernel) rfl
theorem wl_126 : Cond.selects "HollowPress" ⟨"HollowPress", "trap", "(II)I"⟩ ⟨"HollowPress", "trap", "(II)I"⟩ ∈ gtbl := tb_g 629 (by decide +kernel) rfl
theorem wl_127 : Cond.code yX10_trap cX10_trap 5 (some .int) ∈ gtbl := tb_g 630 (by decide +kernel) rfl
theorem wl_128 : Cond.methodLink "HollowPressLaw" 83 ⟨"HollowPressModel", "trap", "(II)I"⟩ ∈ gtbl := tb_g 1122 (by decide +kernel) rfl
theorem wl_129 : Cond.instanceMethod ⟨"HollowPressModel", "trap", "(II)I"⟩ ∈ gtbl := tb_g 1123 (by decide +kernel) rfl
theorem wl_130 : Cond.selects "HollowPressModel" ⟨"HollowPressModel", "trap", "(II)I"⟩ ⟨"HollowPressModel", "trap", "(II)I"⟩ ∈ gtbl := tb_g 1124 (by decide +kernel) rfl
theorem wl_131 : Cond.code yX11_trap cX11_trap 9 (some .int) ∈ gtbl := tb_g 1125 (by decide +kernel) rfl
theorem wl_132 : Cond.methodLink "HollowPressLaw" 84 ⟨"HollowPress", "force", "(II)J"⟩ ∈ gtbl := tb_g 646 (by decide +kernel) rfl
theorem wl_133 : Cond.instanceMethod ⟨"HollowPress", "force", "(II)J"⟩ ∈ gtbl := tb_g 647 (by decide +kernel) rfl
theorem wl_134 : Cond.selects "HollowPress" ⟨"HollowPress", "force", "(II)J"⟩ ⟨"HollowPress", "force", "(II)J"⟩ ∈ gtbl := tb_g 648 (by decide +kernel) rfl
theorem wl_135 : Cond.code yX10_force cX10_force 5 (some .long) ∈ gtbl := tb_g 649 (by decide +kernel) rfl
theorem wl_136 : Cond.methodLink "HollowPressLaw" 88 ⟨"HollowPressModel", "force", "(II)J"⟩ ∈ gtbl := tb_g 1126 (by decide +kernel) rfl
theorem wl_137 : Cond.instanceMethod ⟨"HollowPressModel", "force", "(II)J"⟩ ∈ gtbl := tb_g 1127 (by decide +kernel) rfl
theorem wl_138 : Cond.selects "HollowPressModel" ⟨"HollowPressModel", "force", "(II)J"⟩ ⟨"HollowPressModel", "force", "(II)J"⟩ ∈ gtbl := tb_g 1128 (by decide +kernel) rfl
theorem wl_139 : Cond.code yX11_force cX11_force 7 (some .long) ∈ gtbl := tb_g 1129 (by decide +kernel) rfl
theorem wl_140 : Cond.methodLink "HollowPressLaw" 89 ⟨"HollowPress", "best", "(I)I"⟩ ∈ gtbl := tb_g 655 (by decide +kernel) rfl
theorem wl_141 : Cond.instanceMethod ⟨"HollowPress", "best", "(I)I"⟩ ∈ gtbl := tb_g 656 (by decide +kernel) rfl
theorem wl_142 : Cond.selects "HollowPress" ⟨"HollowPress", "best", "(I)I"⟩ ⟨"HollowPress", "best", "(I)I"⟩ ∈ gtbl := tb_g 657 (by decide +kernel) rfl
theorem wl_143 : Cond.code yX10_best cX10_best 4 (some .int) ∈ gtbl := tb_g 658 (by decide +kernel) rfl
theorem wl_144 : Cond.methodLink "HollowPressLaw" 92 ⟨"HollowPressModel", "best", "(I)I"⟩ ∈ gtbl := tb_g 1131 (by decide +kernel) rfl
theorem wl_145 : Cond.instanceMethod ⟨"HollowPressModel", "best", "(I)I"⟩ ∈ gtbl := tb_g 1132 (by decide +kernel) rfl
theorem wl_146 : Cond.selects "HollowPressModel" ⟨"HollowPressModel", "best", "(I)I"⟩ ⟨"HollowPressModel", "best", "(I)I"⟩ ∈ gtbl := tb_g 1133 (by decide +kernel) rfl
theorem wl_147 : Cond.code yX11_best cX11_best 7 (some .int) ∈ gtbl := tb_g 1134 (by decide +kernel) rfl
theorem wl_148 : Cond.methodLink "HollowPressLaw" 93 ⟨"HollowPress", "branch", "(III)I"⟩ ∈ gtbl := tb_g 668 (by decide +kernel) rfl
theorem wl_149 : Cond.instanceMethod ⟨"HollowPress", "branch", "(III)I"⟩ ∈ gtbl := tb_g 669 (by decide +kernel) rfl
theorem wl_150 : Cond.selects "HollowPress" ⟨"HollowPress", "branch", "(III)I"⟩ ⟨"HollowPress", "branch", "(III)I"⟩ ∈ gtbl := tb_g 670 (by decide +kernel) rfl
theorem wl_151 : Cond.code yX10_branch cX10_branch 4 (some .int) ∈ gtbl := tb_g 671 (by decide +kernel) rfl
theorem wl_152 : Cond.methodLink "HollowPressLaw" 96 ⟨"HollowPressModel", "branch", "(III)I"⟩ ∈ gtbl := tb_g 1139 (by decide +kernel) rfl
theorem wl_153 : Cond.instanceMethod ⟨"HollowPressModel", "branch", "(III)I"⟩ ∈ gtbl := tb_g 1140 (by decide +kernel) rfl
theorem wl_154 : Cond.selects "HollowPressModel" ⟨"HollowPressModel", "branch", "(III)I"⟩ ⟨"HollowPressModel", "branch", "(III)I"⟩ ∈ gtbl := tb_g 1141 (by decide +kernel) rfl
theorem wl_155 : Cond.code yX11_branch cX11_branch 4 (some .int) ∈ gtbl := tb_g 1142 (by decide +kernel) rfl
theorem wl_156 : Cond.methodLink "HollowPressLaw" 97 ⟨"HollowPress", "hang", "(II)I"⟩ ∈ gtbl := tb_g 678 (by decide +kernel) rfl
theorem wl_157 : Cond.instanceMethod ⟨"HollowPress", "hang", "(II)I"⟩ ∈ gtbl := tb_g 679 (by decide +kernel) rfl
theorem wl_158 : Cond.selects "HollowPress" ⟨"HollowPress", "hang", "(II)I"⟩ ⟨"HollowPress", "hang", "(II)I"⟩ ∈ gtbl := tb_g 680 (by decide +kernel) rfl
theorem wl_159 : Cond.code yX10_hang cX10_hang 5 (some .int) ∈ gtbl := tb_g 681 (by decide +kernel) rfl
theorem wl_160 : Cond.methodLink "HollowPressLaw" 100 ⟨"HollowPressModel", "hang", "(II)I"⟩ ∈ gtbl := tb_g 1144 (by decide +kernel) rfl
theorem wl_161 : Cond.instanceMethod ⟨"HollowPressModel", "hang", "(II)I"⟩ ∈ gtbl := tb_g 1145 (by decide +kernel) rfl
theorem wl_162 : Cond.selects "HollowPressModel" ⟨"HollowPressModel", "hang", "(II)I"⟩ ⟨"HollowPressModel", "hang", "(II)I"⟩ ∈ gtbl := tb_g 1146 (by decide +kernel) rfl
theorem wl_163 : Cond.code yX11_hang cX11_hang 4 (some .int) ∈ gtbl := tb_g 1147 (by decide +kernel) rfl
theorem wl_164 : Cond.methodLink "HollowPressLaw" 101 ⟨"HollowPress", "strip", "()I"⟩ ∈ gtbl := tb_g 694 (by decide +kernel) rfl
theorem wl_165 : Cond.instanceMethod ⟨"HollowPress", "strip", "()I"⟩ ∈ gtbl := tb_g 695 (by decide +kernel) rfl
theorem wl_166 : Cond.selects "HollowPress" ⟨"HollowPress", "strip", "()I"⟩ ⟨"HollowPress", "strip", "()I"⟩ ∈ gtbl := tb_g 696 (by decide +kernel) rfl
theorem wl_167 : Cond.code yX10_strip cX10_strip 1 (some .int) ∈ gtbl := tb_g 697 (by decide +kernel) rfl
theorem wl_168 : Cond.methodLink "HollowPressLaw" 105 ⟨"HollowPressModel", "strip", "()I"⟩ ∈ gtbl := tb_g 1152 (by decide +kernel) rfl
theorem wl_169 : Cond.instanceMethod ⟨"HollowPressModel", "strip", "()I"⟩ ∈ gtbl := tb_g 1153 (by decide +kernel) rfl
theorem wl_170 : Cond.selects "HollowPressModel" ⟨"HollowPressModel", "strip", "()I"⟩ ⟨"HollowPressModel", "strip", "()I"⟩ ∈ gtbl := tb_g 1154 (by decide +kernel) rfl
theorem wl_171 : Cond.code yX11_strip cX11_strip 3 (some .int) ∈ gtbl := tb_g 1155 (by decide +kernel) rfl
theorem wl_172 : Cond.methodLink "HollowPressLaw" 106 ⟨"HollowPress", "end", "(I)I"⟩ ∈ gtbl := tb_g 702 (by decide +kernel) rfl
theorem wl_173 : Cond.instanceMethod ⟨"HollowPress", "end", "(I)I"⟩ ∈ gtbl := tb_g 703 (by decide +kernel) rfl
theorem wl_174 : Cond.selects "HollowPress" ⟨"HollowPress", "end", "(I)I"⟩ ⟨"HollowPress", "end", "(I)I"⟩ ∈ gtbl := tb_g 704 (by decide +kernel) rfl
theorem wl_175 : Cond.code yX10_end cX10_end 2 (some .int) ∈ gtbl := tb_g 705 (by decide +kernel) rfl
theorem wl_176 : Cond.methodLink "HollowPressLaw" 109 ⟨"HollowPressModel", "end", "(I)I"⟩ ∈ gtbl := tb_g 1156 (by decide +kernel) rfl
theorem wl_177 : Cond.instanceMethod ⟨"HollowPressModel", "end", "(I)I"⟩ ∈ gtbl := tb_g 1157 (by decide +kernel) rfl
theorem wl_178 : Cond.selects "HollowPressModel" ⟨"HollowPressModel", "end", "(I)I"⟩ ⟨"HollowPressModel", "end", "(I)I"⟩ ∈ gtbl := tb_g 1158 (by decide +kernel) rfl
theorem wl_179 : Cond.code yX11_end cX11_end 2 (some .int) ∈ gtbl := tb_g 1159 (by decide +kernel) rfl
theorem wl_180 : Cond.methodLink "HollowPressLaw" 110 ⟨"HollowPress", "runners", "(I)I"⟩ ∈ gtbl := tb_g 720 (by decide +kernel) rfl
theorem wl_181 : Cond.instanceMethod ⟨"HollowPress", "runners", "(I)I"⟩ ∈ gtbl := tb_g 721 (by decide +kernel) rfl
theorem wl_182 : Cond.selects "HollowPress" ⟨"HollowPress", "runners", "(I)I"⟩ ⟨"HollowPress", "runners", "(I)I"⟩ ∈ gtbl := tb_g 722 (by decide +kernel) rfl
theorem wl_183 : Cond.code yX10_runners cX10_runners 2 (some .int) ∈ gtbl := tb_g 723 (by decide +kernel) rfl
theorem wl_184 : Cond.methodLink "HollowPressLaw" 113 ⟨"HollowPressModel", "runners", "(I)I"⟩ ∈ gtbl := tb_g 1168 (by decide +kernel) rfl
theorem wl_185 : Cond.instanceMethod ⟨"HollowPressModel", "runners", "(I)I"⟩ ∈ gtbl := tb_g 1169 (by decide +kernel) rfl
theorem wl_186 : Cond.selects "HollowPressModel" ⟨"HollowPressModel", "runners", "(I)I"⟩ ⟨"HollowPressModel", "runners", "(I)I"⟩ ∈ gtbl := tb_g 1170 (by decide +kernel) rfl
theorem wl_187 : Cond.code yX11_runners cX11_runners 2 (some .int) ∈ gtbl := tb_g 1171 (by decide +kernel) rfl
theorem wl_188 : Cond.methodLink "HollowPressLaw" 114 ⟨"HollowPress", "balance", "(I)I"⟩ ∈ gtbl := tb_g 739 (by decide +kernel) rfl
theorem wl_189 : Cond.instanceMethod ⟨"HollowPress", "balance", "(I)I"⟩ ∈ gtbl := tb_g 740 (by decide +kernel) rfl
theorem wl_190 : Cond.selects "HollowPress" ⟨"HollowPress", "balance", "(I)I"⟩ ⟨"HollowPress", "balance", "(I)I"⟩ ∈ gtbl := tb_g 741 (by decide +kernel) rfl
theorem wl_191 : Cond.code yX10_balance cX10_balance 2 (some .int) ∈ gtbl := tb_g 742 (by decide +kernel) rfl
theorem wl_192 : Cond.methodLink "HollowPressLaw" 117 ⟨"HollowPressModel", "balance", "(I)I"⟩ ∈ gtbl := tb_g 1180 (by decide +kernel) rfl
theorem wl_193 : Cond.instanceMethod ⟨"HollowPressModel", "balance", "(I)I"⟩ ∈ gtbl := tb_g 1181 (by decide +kernel) rfl
theorem wl_194 : Cond.selects "HollowPressModel" ⟨"HollowPressModel", "balance", "(I)I"⟩ ⟨"HollowPressModel", "balance", "(I)I"⟩ ∈ gtbl := tb_g 1182 (by decide +kernel) rfl
theorem wl_195 : Cond.code yX11_balance cX11_balance 10 (some .int) ∈ gtbl := tb_g 1183 (by decide +kernel) rfl
theorem wl_196 : Cond.methodLink "HollowPressLaw" 118 ⟨"HollowPress", "size", "(I)I"⟩ ∈ gtbl := tb_g 758 (by decide +kernel) rfl
theorem wl_197 : Cond.instanceMethod ⟨"HollowPress", "size", "(I)I"⟩ ∈ gtbl := tb_g 759 (by decide +kernel) rfl
theorem wl_198 : Cond.selects "HollowPress" ⟨"HollowPress", "size", "(I)I"⟩ ⟨"HollowPress", "size", "(I)I"⟩ ∈ gtbl := tb_g 760 (by decide +kernel) rfl
theorem wl_199 : Cond.code yX10_size cX10_size 2 (some .int) ∈ gtbl := tb_g 761 (by decide +kernel) rfl
theorem wl_200 : Cond.methodLink "HollowPressLaw" 121 ⟨"HollowPressModel", "size", "(I)I"⟩ ∈ gtbl := tb_g 1188 (by decide +kernel) rfl
theorem wl_201 : Cond.instanceMethod ⟨"HollowPressModel", "size", "(I)I"⟩ ∈ gtbl := tb_g 1189 (by decide +kernel) rfl
theorem wl_202 : Cond.selects "HollowPressModel" ⟨"HollowPressModel", "size", "(I)I"⟩ ⟨"HollowPressModel", "size", "(I)I"⟩ ∈ gtbl := tb_g 1190 (by decide +kernel) rfl
theorem wl_203 : Cond.code yX11_size cX11_size 2 (some .int) ∈ gtbl := tb_g 1191 (by decide +kernel) rfl
theorem wl_204 : Cond.methodLink "HollowPressLaw" 122 ⟨"HollowPress", "beat", "(IIII)I"⟩ ∈ gtbl := tb_g 762 (by decide +kernel) rfl
theorem wl_205 : Cond.instanceMethod ⟨"HollowPress", "beat", "(IIII)I"⟩ ∈ gtbl := tb_g 763 (by decide +kernel) rfl
theorem wl_206 : Cond.selects "HollowPress" ⟨"HollowPress", "beat", "(IIII)I"⟩ ⟨"HollowPress", "beat", "(IIII)I"⟩ ∈ gtbl := tb_g 764 (by decide +kernel) rfl
theorem wl_207 : Cond.code yX10_beat cX10_beat 7 (some .int) ∈ gtbl := tb_g 765 (by decide +kernel) rfl
theorem wl_208 : Cond.methodLink "HollowPressLaw" 126 ⟨"HollowPressModel", "beat", "(IIII)I"⟩ ∈ gtbl := tb_g 1192 (by decide +kernel) rfl
theorem wl_209 : Cond.instanceMethod ⟨"HollowPressModel", "beat", "(IIII)I"⟩ ∈ gtbl := tb_g 1193 (by decide +kernel) rfl
theorem wl_210 : Cond.selects "HollowPressModel" ⟨"HollowPressModel", "beat", "(IIII)I"⟩ ⟨"HollowPressModel", "beat", "(IIII)I"⟩ ∈ gtbl := tb_g 1194 (by decide +kernel) rfl
theorem wl_211 : Cond.code yX11_beat cX11_beat 10 (some .int) ∈ gtbl := tb_g 1195 (by decide +kernel) rfl
theorem wl_212 : Cond.methodLink "HollowPressLaw" 127 ⟨"HollowPress", "warmth", "(II)I"⟩ ∈ gtbl := tb_g 774 (by decide +kernel) rfl
theorem wl_213 : Cond.instanceMethod ⟨"HollowPress", "warmth", "(II)I"⟩ ∈ gtbl := tb_g 775 (by decide +kernel) rfl
theorem wl_214 : Cond.selects "HollowPress" ⟨"HollowPress", "warmth", "(II)I"⟩ ⟨"HollowPress", "warmth", "(II)I"⟩ ∈ gtbl := tb_g 776 (by decide +kernel) rfl
theorem wl_215 : Cond.code yX10_warmth cX10_warmth 5 (some .int) ∈ gtbl := tb_g 777 (by decide +kernel) rfl
theorem wl_216 : Cond.methodLink "HollowPressLaw" 130 ⟨"HollowPressModel", "warmth", "(II)I"⟩ ∈ gtbl := tb_g 1202 (by decide +kernel) rfl
theorem wl_217 : Cond.instanceMethod ⟨"HollowPressModel", "warmth", "(II)I"⟩ ∈ gtbl := tb_g 1203 (by decide +kernel) rfl
theorem wl_218 : Cond.selects "HollowPressModel" ⟨"HollowPressModel", "warmth", "(II)I"⟩ ⟨"HollowPressModel", "warmth", "(II)I"⟩ ∈ gtbl := tb_g 1204 (by decide +kernel) rfl
theorem wl_219 : Cond.code yX11_warmth cX11_warmth 4 (some .int) ∈ gtbl := tb_g 1205 (by decide +kernel) rfl
theorem wl_220 : Cond.methodLink "HollowPressLaw" 131 ⟨"HollowPress", "press", "(I)I"⟩ ∈ gtbl := tb_g 778 (by decide +kernel) rfl
theorem wl_221 : Cond.instanceMethod ⟨"HollowPress", "press", "(I)I"⟩ ∈ gtbl := tb_g 779 (by decide +kernel) rfl
theorem wl_222 : Cond.selects "HollowPress" ⟨"HollowPress", "press", "(I)I"⟩ ⟨"HollowPress", "press", "(I)I"⟩ ∈ gtbl := tb_g 780 (by decide +kernel) rfl
theorem wl_223 : Cond.code yX10_press cX10_press 2 (some .int) ∈ gtbl := tb_g 781 (by decide +kernel) rfl
theorem wl_224 : Cond.methodLink "HollowPressLaw" 134 ⟨"HollowPressModel", "press", "(I)I"⟩ ∈ gtbl := tb_g 1206 (by decide +kernel) rfl
theorem wl_225 : Cond.instanceMethod ⟨"HollowPressModel", "press", "(I)I"⟩ ∈ gtbl := tb_g 1207 (by decide +kernel) rfl
theorem wl_226 : Cond.selects "HollowPressModel" ⟨"HollowPressModel", "press", "(I)I"⟩ ⟨"HollowPressModel", "press", "(I)I"⟩ ∈ gtbl := tb_g 1208 (by decide +kernel) rfl
theorem wl_227 : Cond.code yX11_press cX11_press 2 (some .int) ∈ gtbl := tb_g 1209 (by decide +kernel) rfl
theorem wl_228 : Cond.methodLink "HollowPressLaw" 135 ⟨"HollowPress", "job", "(III)I"⟩ ∈ gtbl := tb_g 792 (by decide +kernel) rfl
theorem wl_229 : Cond.instanceMethod ⟨"HollowPress", "job", "(III)I"⟩ ∈ gtbl := tb_g 793 (by decide +kernel) rfl
theorem wl_230 : Cond.selects "HollowPress" ⟨"HollowPress", "job", "(III)I"⟩ ⟨"HollowPress", "job", "(III)I"⟩ ∈ gtbl := tb_g 794 (by decide +kernel) rfl
theorem wl_231 : Cond.code yX10_job cX10_job 4 (some .int) ∈ gtbl := tb_g 795 (by decide +kernel) rfl
theorem wl_232 : Cond.methodLink "HollowPressLaw" 138 ⟨"HollowPressModel", "job", "(III)I"⟩ ∈ gtbl := tb_g 1211 (by decide +kernel) rfl
theorem wl_233 : Cond.instanceMethod ⟨"HollowPressModel", "job", "(III)I"⟩ ∈ gtbl := tb_g 1212 (by decide +kernel) rfl
theorem wl_234 : Cond.selects "HollowPressModel" ⟨"HollowPressModel", "job", "(III)I"⟩ ⟨"HollowPressModel", "job", "(III)I"⟩ ∈ gtbl := tb_g 1213 (by decide +kernel) rfl
theorem wl_235 : Cond.code yX11_job cX11_job 4 (some .int) ∈ gtbl := tb_g 1214 (by decide +kernel) rfl
theorem wl_236 : Cond.methodLink "HollowPressLaw" 139 ⟨"HollowPress", "plan", "()I"⟩ ∈ gtbl := tb_g 800 (by decide +kernel) rfl
theorem wl_237 : Cond.instanceMethod ⟨"HollowPress", "plan", "()I"⟩ ∈ gtbl := tb_g 801 (by decide +kernel) rfl
theorem wl_238 : Cond.selects "HollowPress" ⟨"HollowPress", "plan", "()I"⟩ ⟨"HollowPress", "plan", "()I"⟩ ∈ gtbl := tb_g 802 (by decide +kernel) rfl
theorem wl_239 : Cond.code yX10_plan cX10_plan 1 (some .int) ∈ gtbl := tb_g 803 (by decide +kernel) rfl
theorem wl_240 : Cond.methodLink "HollowPressLaw" 142 ⟨"HollowPressModel", "plan", "()I"⟩ ∈ gtbl := tb_g 1216 (by decide +kernel) rfl
theorem wl_241 : Cond.instanceMethod ⟨"HollowPressModel", "plan", "()I"⟩ ∈ gtbl := tb_g 1217 (by decide +kernel) rfl
theorem wl_242 : Cond.selects "HollowPressModel" ⟨"HollowPressModel", "plan", "()I"⟩ ⟨"HollowPressModel", "plan", "()I"⟩ ∈ gtbl := tb_g 1218 (by decide +kernel) rfl
theorem wl_243 : Cond.code yX11_plan cX11_plan 5 (some .int) ∈ gtbl := tb_g 1219 (by decide +kernel) rfl
theorem wl_244 : Cond.methodLink "HollowPressLaw" 143 ⟨"HollowPress", "planned", "(II)I"⟩ ∈ gtbl := tb_g 818 (by decide +kernel) rfl
theorem wl_245 : Cond.instanceMethod ⟨"HollowPress", "planned", "(II)I"⟩ ∈ gtbl := tb_g 819 (by decide +kernel) rfl
theorem wl_246 : Cond.selects "HollowPress" ⟨"HollowPress", "planned", "(II)I"⟩ ⟨"HollowPress", "planned", "(II)I"⟩ ∈ gtbl := tb_g 820 (by decide +kernel) rfl
theorem wl_247 : Cond.code yX10_planned cX10_planned 3 (some .int) ∈ gtbl := tb_g 821 (by decide +kernel) rfl
theorem wl_248 : Cond.methodLink "HollowPressLaw" 146 ⟨"HollowPressModel", "planned", "(II)I"⟩ ∈ gtbl := tb_g 1232 (by decide +kernel) rfl
theorem wl_249 : Cond.instanceMethod ⟨"HollowPressModel", "planned", "(II)I"⟩ ∈ gtbl := tb_g 1233 (by decide +kernel) rfl
theorem wl_250 : Cond.selects "HollowPressModel" ⟨"HollowPressModel", "planned", "(II)I"⟩ ⟨"HollowPressModel", "planned", "(II)I"⟩ ∈ gtbl := tb_g 1234 (by decide +kernel) rfl
theorem wl_251 : Cond.code yX11_planned cX11_planned 3 (some .int) ∈ gtbl := tb_g 1235 (by decide +kernel) rfl
theorem wl_252 : Cond.methodLink "HollowPressLaw" 147 ⟨"HollowPress", "load", "(II)I"⟩ ∈ gtbl := tb_g 827 (by decide +kernel) rfl
theorem wl_253 : Cond.instanceMethod ⟨"HollowPress", "load", "(II)I"⟩ ∈ gtbl := tb_g 828 (by decide +kernel) rfl
theorem wl_254 : Cond.selects "HollowPress" ⟨"HollowPress", "load", "(II)I"⟩ ⟨"HollowPress", "load", "(II)I"⟩ ∈ gtbl := tb_g 829 (by decide +kernel) rfl
theorem wl_255 : Cond.code yX10_load cX10_load 3 (some .int) ∈ gtbl := tb_g 830 (by decide +kernel) rfl
theorem wl_256 : Cond.methodLink "HollowPressLaw" 150 ⟨"HollowPressModel", "load", "(II)I"⟩ ∈ gtbl := tb_g 1236 (by decide +kernel) rfl
theorem wl_257 : Cond.instanceMethod ⟨"HollowPressModel", "load", "(II)I"⟩ ∈ gtbl := tb_g 1237 (by decide +kernel) rfl
theorem wl_258 : Cond.selects "HollowPressModel" ⟨"HollowPressModel", "load", "(II)I"⟩ ⟨"HollowPressModel", "load", "(II)I"⟩ ∈ gtbl := tb_g 1238 (by decide +kernel) rfl
theorem wl_259 : Cond.code yX11_load cX11_load 3 (some .int) ∈ gtbl := tb_g 1239 (by decide +kernel) rfl
theorem wl_260 : Cond.methodLink "HollowPressLaw" 151 ⟨"HollowPress", "count", "(I)I"⟩ ∈ gtbl := tb_g 835 (by decide +kernel) rfl
theorem wl_261 : Cond.instanceMethod ⟨"HollowPress", "count", "(I)I"⟩ ∈ gtbl := tb_g 836 (by decide +kernel) rfl
theorem wl_262 : Cond.selects "HollowPress" ⟨"HollowPress", "count", "(I)I"⟩ ⟨"HollowPress", "count", "(I)I"⟩ ∈ gtbl := tb_g 837 (by decide +kernel) rfl
theorem wl_263 : Cond.code yX10_count cX10_count 2 (some .int) ∈ gtbl := tb_g 838 (by decide +kernel) rfl
theorem wl_264 : Cond.methodLink "HollowPressLaw" 154 ⟨"HollowPressModel", "count", "(I)I"⟩ ∈ gtbl := tb_g 1240 (by decide +kernel) rfl
theorem wl_265 : Cond.instanceMethod ⟨"HollowPressModel", "count", "(I)I"⟩ ∈ gtbl := tb_g 1241 (by decide +kernel) rfl
theorem wl_266 : Cond.selects "HollowPressModel" ⟨"HollowPressModel", "count", "(I)I"⟩ ⟨"HollowPressModel", "count", "(I)I"⟩ ∈ gtbl := tb_g 1242 (by decide +kernel) rfl
theorem wl_267 : Cond.code yX11_count cX11_count 4 (some .int) ∈ gtbl := tb_g 1243 (by decide +kernel) rfl
theorem wl_268 : Cond.methodLink "HollowPressLaw" 155 ⟨"HollowPress", "status", "()I"⟩ ∈ gtbl := tb_g 847 (by decide +kernel) rfl
theorem wl_269 : Cond.instanceMethod ⟨"HollowPress", "status", "()I"⟩ ∈ gtbl := tb_g 848 (by decide +kernel) rfl
theorem wl_270 : Cond.selects "HollowPress" ⟨"HollowPress", "status", "()I"⟩ ⟨"HollowPress", "status", "()I"⟩ ∈ gtbl := tb_g 849 (by decide +kernel) rfl
theorem wl_271 : Cond.code yX10_status cX10_status 1 (some .int) ∈ gtbl := tb_g 850 (by decide +kernel) rfl
theorem wl_272 : Cond.methodLink "HollowPressLaw" 158 ⟨"HollowPressModel", "status", "()I"⟩ ∈ gtbl := tb_g 1244 (by decide +kernel) rfl
theorem wl_273 : Cond.instanceMethod ⟨"HollowPressModel", "status", "()I"⟩ ∈ gtbl := tb_g 1245 (by decide +kernel) rfl
theorem wl_274 : Cond.selects "HollowPressModel" ⟨"HollowPressModel", "status", "()I"⟩ ⟨"HollowPressModel", "status", "()I"⟩ ∈ gtbl := tb_g 1246 (by decide +kernel) rfl
theorem wl_275 : Cond.code yX11_status cX11_status 1 (some .int) ∈ gtbl := tb_g 1247 (by decide +kernel) rfl
theorem cmp_self (x : Int64) : lg_cmp x x = 0 := by
  unfold lg_cmp
  rw [if_neg (fun h => Int64.lt_irrefl h), if_pos rfl]
set_option maxRecDepth 20000 in
theorem iv_L_13 (a : Nat) (x0 : Int32) (x1 : Int32) (x2 : Int32) : Inv "HollowPressLaw" 3 (.invokevirtual 13) [iv x2, iv x1, iv x0, qv (some a)] vI (onT a 10 (pX10_sheet a x0 x1 x2)) := inv_V (own := "HollowPressLaw") (As := [iv x0, iv x1, iv x2]) (t := 10) (kX10_sheet a x0 x1 x2) _ (by decide) rfl rfl wl_1 wl_2 wl_3 wl_4 wl_5 ⟨by decide +kernel, by decide +kernel, by show _ = some 3; decide +kernel⟩ (by decide)
set_option maxRecDepth 20000 in
theorem iv_L_17 (a : Nat) (x0 : Int32) (x1 : Int32) (x2 : Int32) : Inv "HollowPressLaw" 3 (.invokevirtual 17) [iv x2, iv x1, iv x0, qv (some a)] vI (onT a 11 (pX11_sheet a x0 x1 x2)) := inv_V (own := "HollowPressLaw") (As := [iv x0, iv x1, iv x2]) (t := 11) (kX11_sheet a x0 x1 x2) _ (by decide) rfl rfl wl_6 wl_7 wl_8 wl_9 wl_10 ⟨by decide +kernel, by decide +kernel, by show _ = some 3; decide +kernel⟩ (by decide)
set_option maxRecDepth 20000 in
theorem iv_L_20 (a : Nat) (x0 : Int32) (x1 : Int32) (x2 : Int64) : Inv "HollowPressLaw" 3 (.invokevirtual 20) [jv x2, iv x1, iv x0, qv (some a)] vL (onT a 10 (pX10_set a x0 x1 x2)) := inv_V (own := "HollowPressLaw") (As := [iv x0, iv x1, jv x2]) (t := 10) (kX10_set a x0 x1 x2) _ (by decide) rfl rfl wl_11 wl_12 wl_13 wl_4 wl_14 ⟨by decide +kernel, by decide +kernel, by show _ = some 3; decide +kernel⟩ (by decide)
set_option maxRecDepth 20000 in
theorem iv_L_24 (a : Nat) (x0 : Int32) (x1 : Int32) (x2 : Int64) : Inv "HollowPressLaw" 3 (.invokevirtual 24) [jv x2, iv x1, iv x0, qv (some a)] vL (onT a 11 (pX11_set a x0 x1 x2)) := inv_V (own := "HollowPressLaw") (As := [iv x0, iv x1, jv x2]) (t := 11) (kX11_set a x0 x1 x2) _ (by decide) rfl rfl wl_15 wl_16 wl_17 wl_9 wl_18 ⟨by decide +kernel, by decide +kernel, by show _ = some 3; decide +kernel⟩ (by decide)
set_option maxRecDepth 20000 in
theorem iv_L_25 (a : Nat) (x0 : Int32) (x1 : Int32) (x2 : Int32) (x3 : Int32) (x4 : Int32) : Inv "HollowPressLaw" 2 (.invokevirtual 25) [iv x4, iv x3, iv x2, iv x1, iv x0, qv (some a)] vI (onT a 10 (pX10_copy a x0 x1 x2 x3 x4)) := inv_V (own := "HollowPressLaw") (As := [iv x0, iv x1, iv x2, iv x3, iv x4]) (t := 10) (kX10_copy a x0 x1 x2 x3 x4) _ (by decide) rfl rfl wl_20 wl_21 wl_22 wl_4 wl_23 ⟨by decide +kernel, by decide +kernel, by show _ = some 5; decide +kernel⟩ (by decide)
set_option maxRecDepth 20000 in
theorem iv_L_29 (a : Nat) (x0 : Int32) (x1 : Int32) (x2 : Int32) (x3 : Int32) (x4 : Int32) : Inv "HollowPressLaw" 3 (.invokevirtual 29) [iv x4, iv x3, iv x2, iv x1, iv x0, qv (some a)] vI (onT a 11 (pX11_copy a x0 x1 x2 x3 x4)) := inv_V (own := "HollowPressLaw") (As := [iv x0, iv x1, iv x2, iv x3, iv x4]) (t := 11) (kX11_copy a x0 x1 x2 x3 x4) _ (by decide) rfl rfl wl_24 wl_25 wl_26 wl_9 wl_27 ⟨by decide +kernel, by decide +kernel, by show _ = some 5; decide +kernel⟩ (by decide)
set_option maxRecDepth 20000 in
theorem iv_L_30 (a : Nat) (x0 : Int32) : Inv "HollowPressLaw" 2 (.invokevirtual 30) [iv x0, qv (some a)] vI (onT a 10 (pX10_drop a x0)) := inv_V (own := "HollowPressLaw") (As := [iv x0]) (t := 10) (kX10_drop a x0) _ (by decide) rfl rfl wl_28 wl_29 wl_30 wl_4 wl_31 ⟨by decide +kernel, by decide +kernel, by show _ = some 1; decide +kernel⟩ (by decide)
set_option maxRecDepth 20000 in
theorem iv_L_34 (a : Nat) (x0 : Int32) : Inv "HollowPressLaw" 3 (.invokevirtual 34) [iv x0, qv (some a)] vI (onT a 11 (pX11_drop a x0)) := inv_V (own := "HollowPressLaw") (As := [iv x0]) (t := 11) (kX11_drop a x0) _ (by decide) rfl rfl wl_32 wl_33 wl_34 wl_9 wl_35 ⟨by decide +kernel, by decide +kernel, by show _ = some 1; decide +kernel⟩ (by decide)
set_option maxRecDepth 20000 in
theorem iv_L_35 (a : Nat) (x0 : Int32) (x1 : Int32) (x2 : Int32) (x3 : Int32) (x4 : Int32) : Inv "HollowPressLaw" 7 (.invokevirtual 35) [iv x4, iv x3, iv x2, iv x1, iv x0, qv (some a)] vI (onT a 10 (pX10_part a x0 x1 x2 x3 x4)) := inv_V (own := "HollowPressLaw") (As := [iv x0, iv x1, iv x2, iv x3, iv x4]) (t := 10) (kX10_part a x0 x1 x2 x3 x4) _ (by decide) rfl rfl wl_36 wl_37 wl_38 wl_4 wl_39 ⟨by decide +kernel, by decide +kernel, by show _ = some 5; decide +kernel⟩ (by decide)
set_option maxRecDepth 20000 in
theorem iv_L_38 (a : Nat) (x0 : Int32) (x1 : Int32) (x2 : Int32) (x3 : Int32) (x4 : Int32) : Inv "HollowPressLaw" 3 (.invokevirtual 38) [iv x4, iv x3, iv x2, iv x1, iv x0, qv (some a)] vI (onT a 11 (pX11_part a x0 x1 x2 x3 x4)) := inv_V (own := "HollowPressLaw") (As := [iv x0, iv x1, iv x2, iv x3, iv x4]) (t := 11) (kX11_part a x0 x1 x2 x3 x4) _ (by decide) rfl rfl wl_40 wl_41 wl_42 wl_9 wl_43 ⟨by decide +kernel, by decide +kernel, by show _ = some 5; decide +kernel⟩ (by decide)
set_option maxRecDepth 20000 in
theorem iv_L_39 (a : Nat) (x0 : Int32) (x1 : Int32) (x2 : Int32) (x3 : Int32) (x4 : Int32) : Inv "HollowPressLaw" 4 (.invokevirtual 39) [iv x4, iv x3, iv x2, iv x1, iv x0, qv (some a)] vI (onT a 10 (pX10_layers a x0 x1 x2 x3 x4)) := inv_V (own := "HollowPressLaw") (As := [iv x0, iv x1, iv x2, iv x3, iv x4]) (t := 10) (kX10_layers a x0 x1 x2 x3 x4) _ (by decide) rfl rfl wl_44 wl_45 wl_46 wl_4 wl_47 ⟨by decide +kernel, by decide +kernel, by show _ = some 5; decide +kernel⟩ (by decide)
set_option maxRecDepth 20000 in
theorem iv_L_42 (a : Nat) (x0 : Int32) (x1 : Int32) (x2 : Int32) (x3 : Int32) (x4 : Int32) : Inv "HollowPressLaw" 3 (.invokevirtual 42) [iv x4, iv x3, iv x2, iv x1, iv x0, qv (some a)] vI (onT a 11 (pX11_layers a x0 x1 x2 x3 x4)) := inv_V (own := "HollowPressLaw") (As := [iv x0, iv x1, iv x2, iv x3, iv x4]) (t := 11) (kX11_layers a x0 x1 x2 x3 x4) _ (by decide) rfl rfl wl_48 wl_49 wl_50 wl_9 wl_51 ⟨by decide +kernel, by decide +kernel, by show _ = some 5; decide +kernel⟩ (by decide)
set_option maxRecDepth 20000 in
theorem iv_L_43 (a : Nat) (x0 : Int32) : Inv "HollowPressLaw" 2 (.invokevirtual 43) [iv x0, qv (some a)] vI (onT a 10 (pX10_clear a x0)) := inv_V (own := "HollowPressLaw") (As := [iv x0]) (t := 10) (kX10_clear a x0) _ (by decide) rfl rfl wl_52 wl_53 wl_54 wl_4 wl_55 ⟨by decide +kernel, by decide +kernel, by show _ = some 1; decide +kernel⟩ (by decide)
set_option maxRecDepth 20000 in
theorem iv_L_46 (a : Nat) (x0 : Int32) : Inv "HollowPressLaw" 3 (.invokevirtual 46) [iv x0, qv (some a)] vI (onT a 11 (pX11_clear a x0)) := inv_V (own := "HollowPressLaw") (As := [iv x0]) (t := 11) (kX11_clear a x0) _ (by decide) rfl rfl wl_56 wl_57 wl_58 wl_9 wl_59 ⟨by decide +kernel, by decide +kernel, by show _ = some 1; decide +kernel⟩ (by decide)
set_option maxRecDepth 20000 in
theorem iv_L_47 (a : Nat) (x0 : Int32) : Inv "HollowPressLaw" 2 (.invokevirtual 47) [iv x0, qv (some a)] vI (onT a 10 (pX10_kind a x0)) := inv_V (own := "HollowPressLaw") (As := [iv x0]) (t := 10) (kX10_kind a x0) _ (by decide) rfl rfl wl_60 wl_61 wl_62 wl_4 wl_63 ⟨by decide +kernel, by decide +kernel, by show _ = some 1; decide +kernel⟩ (by decide)
set_option maxRecDepth 20000 in
theorem iv_L_50 (a : Nat) (x0 : Int32) : Inv "HollowPressLaw" 3 (.invokevirtual 50) [iv x0, qv (some a)] vI (onT a 11 (pX11_kind a x0)) := inv_V (own := "HollowPressLaw") (As := [iv x0]) (t := 11) (kX11_kind a x0) _ (by decide) rfl rfl wl_64 wl_65 wl_66 wl_9 wl_67 ⟨by decide +kernel, by decide +kernel, by show _ = some 1; decide +kernel⟩ (by decide)
set_option maxRecDepth 20000 in
theorem iv_L_51 (a : Nat) (x0 : Int32) (x1 : Int32) : Inv "HollowPressLaw" 6 (.invokevirtual 51) [iv x1, iv x0, qv (some a)] vI (onT a 10 (pX10_is a x0 x1)) := inv_V (own := "HollowPressLaw") (As := [iv x0, iv x1]) (t := 10) (kX10_is a x0 x1) _ (by decide) rfl rfl wl_68 wl_69 wl_70 wl_4 wl_71 ⟨by decide +kernel, by decide +kernel, by show _ = some 2; decide +kernel⟩ (by decide)
set_option maxRecDepth 20000 in
theorem iv_L_55 (a : Nat) (x0 : Int32) (x1 : Int32) : Inv "HollowPressLaw" 3 (.invokevirtual 55) [iv x1, iv x0, qv (some a)] vI (onT a 11 (pX11_is a x0 x1)) := inv_V (own := "HollowPressLaw") (As := [iv x0, iv x1]) (t := 11) (kX11_is a x0 x1) _ (by decide) rfl rfl wl_72 wl_73 wl_74 wl_9 wl_75 ⟨by decide +kernel, by decide +kernel, by show _ = some 2; decide +kernel⟩ (by decide)
set_option maxRecDepth 20000 in
theorem iv_L_56 (a : Nat) (x0 : Int32) (x1 : Int32) : Inv "HollowPressLaw" 7 (.invokevirtual 56) [iv x1, iv x0, qv (some a)] vI (onT a 10 (pX10_ask a x0 x1)) := inv_V (own := "HollowPressLaw") (As := [iv x0, iv x1]) (t := 10) (kX10_ask a x0 x1) _ (by decide) rfl rfl wl_76 wl_77 wl_78 wl_4 wl_79 ⟨by decide +kernel, by decide +kernel, by show _ = some 2; decide +kernel⟩ (by decide)
set_option maxRecDepth 20000 in
theorem iv_L_59 (a : Nat) (x0 : Int32) (x1 : Int32) : Inv "HollowPressLaw" 4 (.invokevirtual 59) [iv x1, iv x0, qv (some a)] vI (onT a 11 (pX11_ask a x0 x1)) := inv_V (own := "HollowPressLaw") (As := [iv x0, iv x1]) (t := 11) (kX11_ask a x0 x1) _ (by decide) rfl rfl wl_80 wl_81 wl_82 wl_9 wl_83 ⟨by decide +kernel, by decide +kernel, by show _ = some 2; decide +kernel⟩ (by decide)
set_option maxRecDepth 20000 in
theorem iv_L_60 (a : Nat) (x0 : Int32) : Inv "HollowPressLaw" 3 (.invokevirtual 60) [iv x0, qv (some a)] vI (onT a 10 (pX10_trace a x0)) := inv_V (own := "HollowPressLaw") (As := [iv x0]) (t := 10) (kX10_trace a x0) _ (by decide) rfl rfl wl_84 wl_85 wl_86 wl_4 wl_87 ⟨by decide +kernel, by decide +kernel, by show _ = some 1; decide +kernel⟩ (by decide)
set_option maxRecDepth 20000 in
theorem iv_L_63 (a : Nat) (x0 : Int32) : Inv "HollowPressLaw" 2 (.invokevirtual 63) [iv x0, qv (some a)] vI (onT a 11 (pX11_trace a x0)) := inv_V (own := "HollowPressLaw") (As := [iv x0]) (t := 11) (kX11_trace a x0) _ (by decide) rfl rfl wl_88 wl_89 wl_90 wl_9 wl_91 ⟨by decide +kernel, by decide +kernel, by show _ = some 1; decide +kernel⟩ (by decide)
set_option maxRecDepth 20000 in
theorem iv_L_64 (a : Nat) (x0 : Int32) (x1 : Int32) : Inv "HollowPressLaw" 7 (.invokevirtual 64) [iv x1, iv x0, qv (some a)] vI (onT a 10 (pX10_gate a x0 x1)) := inv_V (own := "HollowPressLaw") (As := [iv x0, iv x1]) (t := 10) (kX10_gate a x0 x1) _ (by decide) rfl rfl wl_92 wl_93 wl_94 wl_4 wl_95 ⟨by decide +kernel, by decide +kernel, by show _ = some 2; decide +kernel⟩ (by decide)
set_option maxRecDepth 20000 in
theorem iv_L_67 (a : Nat) (x0 : Int32) (x1 : Int32) : Inv "HollowPressLaw" 3 (.invokevirtual 67) [iv x1, iv x0, qv (some a)] vI (onT a 11 (pX11_gate a x0 x1)) := inv_V (own := "HollowPressLaw") (As := [iv x0, iv x1]) (t := 11) (kX11_gate a x0 x1) _ (by decide) rfl rfl wl_96 wl_97 wl_98 wl_9 wl_99 ⟨by decide +kernel, by decide +kernel, by show _ = some 2; decide +kernel⟩ (by decide)
set_option maxRecDepth 20000 in
theorem iv_L_68 (a : Nat) (x0 : Int32) (x1 : Int32) : Inv "HollowPressLaw" 3 (.invokevirtual 68) [iv x1, iv x0, qv (some a)] vI (onT a 10 (pX10_vent a x0 x1)) := inv_V (own := "HollowPressLaw") (As := [iv x0, iv x1]) (t := 10) (kX10_vent a x0 x1) _ (by decide) rfl rfl wl_100 wl_101 wl_102 wl_4 wl_103 ⟨by decide +kernel, by decide +kernel, by show _ = some 2; decide +kernel⟩ (by decide)
set_option maxRecDepth 20000 in
theorem iv_L_71 (a : Nat) (x0 : Int32) (x1 : Int32) : Inv "HollowPressLaw" 3 (.invokevirtual 71) [iv x1, iv x0, qv (some a)] vI (onT a 11 (pX11_vent a x0 x1)) := inv_V (own := "HollowPressLaw") (As := [iv x0, iv x1]) (t := 11) (kX11_vent a x0 x1) _ (by decide) rfl rfl wl_104 wl_105 wl_106 wl_9 wl_107 ⟨by decide +kernel, by decide +kernel, by show _ = some 2; decide +kernel⟩ (by decide)
set_option maxRecDepth 20000 in
theorem iv_L_72 (a : Nat) (x0 : Int32) (x1 : Int32) (x2 : Int32) : Inv "HollowPressLaw" 6 (.invokevirtual 72) [iv x2, iv x1, iv x0, qv (some a)] vI (onT a 10 (pX10_cell a x0 x1 x2)) := inv_V (own := "HollowPressLaw") (As := [iv x0, iv x1, iv x2]) (t := 10) (kX10_cell a x0 x1 x2) _ (by decide) rfl rfl wl_108 wl_109 wl_110 wl_4 wl_111 ⟨by decide +kernel, by decide +kernel, by show _ = some 3; decide +kernel⟩ (by decide)
set_option maxRecDepth 20000 in
theorem iv_L_75 (a : Nat) (x0 : Int32) (x1 : Int32) (x2 : Int32) : Inv "HollowPressLaw" 4 (.invokevirtual 75) [iv x2, iv x1, iv x0, qv (some a)] vI (onT a 11 (pX11_cell a x0 x1 x2)) := inv_V (own := "HollowPressLaw") (As := [iv x0, iv x1, iv x2]) (t := 11) (kX11_cell a x0 x1 x2) _ (by decide) rfl rfl wl_112 wl_113 wl_114 wl_9 wl_115 ⟨by decide +kernel, by decide +kernel, by show _ = some 3; decide +kernel⟩ (by decide)
set_option maxRecDepth 20000 in
theorem iv_L_76 (a : Nat) (x0 : Int32) (x1 : Int32) (x2 : Int32) : Inv "HollowPressLaw" 6 (.invokevirtual 76) [iv x2, iv x1, iv x0, qv (some a)] vI (onT a 10 (pX10_meeting a x0 x1 x2)) := inv_V (own := "HollowPressLaw") (As := [iv x0, iv x1, iv x2]) (t := 10) (kX10_meeting a x0 x1 x2) _ (by decide) rfl rfl wl_116 wl_117 wl_118 wl_4 wl_119 ⟨by decide +kernel, by decide +kernel, by show _ = some 3; decide +kernel⟩ (by decide)
set_option maxRecDepth 20000 in
theorem iv_L_79 (a : Nat) (x0 : Int32) (x1 : Int32) (x2 : Int32) : Inv "HollowPressLaw" 4 (.invokevirtual 79) [iv x2, iv x1, iv x0, qv (some a)] vI (onT a 11 (pX11_meeting a x0 x1 x2)) := inv_V (own := "HollowPressLaw") (As := [iv x0, iv x1, iv x2]) (t := 11) (kX11_meeting a x0 x1 x2) _ (by decide) rfl rfl wl_120 wl_121 wl_122 wl_9 wl_123 ⟨by decide +kernel, by decide +kernel, by show _ = some 3; decide +kernel⟩ (by decide)
set_option maxRecDepth 20000 in
theorem iv_L_80 (a : Nat) (x0 : Int32) (x1 : Int32) : Inv "HollowPressLaw" 6 (.invokevirtual 80) [iv x1, iv x0, qv (some a)] vI (onT a 10 (pX10_trap a x0 x1)) := inv_V (own := "HollowPressLaw") (As := [iv x0, iv x1]) (t := 10) (kX10_trap a x0 x1) _ (by decide) rfl rfl wl_124 wl_125 wl_126 wl_4 wl_127 ⟨by decide +kernel, by decide +kernel, by show _ = some 2; decide +kernel⟩ (by decide)
set_option maxRecDepth 20000 in
theorem iv_L_83 (a : Nat) (x0 : Int32) (x1 : Int32) : Inv "HollowPressLaw" 4 (.invokevirtual 83) [iv x1, iv x0, qv (some a)] vI (onT a 11 (pX11_trap a x0 x1)) := inv_V (own := "HollowPressLaw") (As := [iv x0, iv x1]) (t := 11) (kX11_trap a x0 x1) _ (by decide) rfl rfl wl_128 wl_129 wl_130 wl_9 wl_131 ⟨by decide +kernel, by decide +kernel, by show _ = some 2; decide +kernel⟩ (by decide)
set_option maxRecDepth 20000 in
theorem iv_L_84 (a : Nat) (x0 : Int32) (x1 : Int32) : Inv "HollowPressLaw" 6 (.invokevirtual 84) [iv x1, iv x0, qv (some a)] vL (onT a 10 (pX10_force a x0 x1)) := inv_V (own := "HollowPressLaw") (As := [iv x0, iv x1]) (t := 10) (kX10_force a x0 x1) _ (by decide) rfl rfl wl_132 wl_133 wl_134 wl_4 wl_135 ⟨by decide +kernel, by decide +kernel, by show _ = some 2; decide +kernel⟩ (by decide)
set_option maxRecDepth 20000 in
theorem iv_L_88 (a : Nat) (x0 : Int32) (x1 : Int32) : Inv "HollowPressLaw" 4 (.invokevirtual 88) [iv x1, iv x0, qv (some a)] vL (onT a 11 (pX11_force a x0 x1)) := inv_V (own := "HollowPressLaw") (As := [iv x0, iv x1]) (t := 11) (kX11_force a x0 x1) _ (by decide) rfl rfl wl_136 wl_137 wl_138 wl_9 wl_139 ⟨by decide +kernel, by decide +kernel, by show _ = some 2; decide +kernel⟩ (by decide)
set_option maxRecDepth 20000 in
theorem iv_L_89 (a : Nat) (x0 : Int32) : Inv "HollowPressLaw" 6 (.invokevirtual 89) [iv x0, qv (some a)] vI (onT a 10 (pX10_best a x0)) := inv_V (own := "HollowPressLaw") (As := [iv x0]) (t := 10) (kX10_best a x0) _ (by decide) rfl rfl wl_140 wl_141 wl_142 wl_4 wl_143 ⟨by decide +kernel, by decide +kernel, by show _ = some 1; decide +kernel⟩ (by decide)
set_option maxRecDepth 20000 in
theorem iv_L_92 (a : Nat) (x0 : Int32) : Inv "HollowPressLaw" 4 (.invokevirtual 92) [iv x0, qv (some a)] vI (onT a 11 (pX11_best a x0)) := inv_V (own := "HollowPressLaw") (As := [iv x0]) (t := 11) (kX11_best a x0) _ (by decide) rfl rfl wl_144 wl_145 wl_146 wl_9 wl_147 ⟨by decide +kernel, by decide +kernel, by show _ = some 1; decide +kernel⟩ (by decide)
set_option maxRecDepth 20000 in
theorem iv_L_93 (a : Nat) (x0 : Int32) (x1 : Int32) (x2 : Int32) : Inv "HollowPressLaw" 2 (.invokevirtual 93) [iv x2, iv x1, iv x0, qv (some a)] vI (onT a 10 (pX10_branch a x0 x1 x2)) := inv_V (own := "HollowPressLaw") (As := [iv x0, iv x1, iv x2]) (t := 10) (kX10_branch a x0 x1 x2) _ (by decide) rfl rfl wl_148 wl_149 wl_150 wl_4 wl_151 ⟨by decide +kernel, by decide +kernel, by show _ = some 3; decide +kernel⟩ (by decide)
set_option maxRecDepth 20000 in
theorem iv_L_96 (a : Nat) (x0 : Int32) (x1 : Int32) (x2 : Int32) : Inv "HollowPressLaw" 2 (.invokevirtual 96) [iv x2, iv x1, iv x0, qv (some a)] vI (onT a 11 (pX11_branch a x0 x1 x2)) := inv_V (own := "HollowPressLaw") (As := [iv x0, iv x1, iv x2]) (t := 11) (kX11_branch a x0 x1 x2) _ (by decide) rfl rfl wl_152 wl_153 wl_154 wl_9 wl_155 ⟨by decide +kernel, by decide +kernel, by show _ = some 3; decide +kernel⟩ (by decide)
set_option maxRecDepth 20000 in
theorem iv_L_97 (a : Nat) (x0 : Int32) (x1 : Int32) : Inv "HollowPressLaw" 3 (.invokevirtual 97) [iv x1, iv x0, qv (some a)] vI (onT a 10 (pX10_hang a x0 x1)) := inv_V (own := "HollowPressLaw") (As := [iv x0, iv x1]) (t := 10) (kX10_hang a x0 x1) _ (by decide) rfl rfl wl_156 wl_157 wl_158 wl_4 wl_159 ⟨by decide +kernel, by decide +kernel, by show _ = some 2; decide +kernel⟩ (by decide)
set_option maxRecDepth 20000 in
theorem iv_L_100 (a : Nat) (x0 : Int32) (x1 : Int32) : Inv "HollowPressLaw" 3 (.invokevirtual 100) [iv x1, iv x0, qv (some a)] vI (onT a 11 (pX11_hang a x0 x1)) := inv_V (own := "HollowPressLaw") (As := [iv x0, iv x1]) (t := 11) (kX11_hang a x0 x1) _ (by decide) rfl rfl wl_160 wl_161 wl_162 wl_9 wl_163 ⟨by decide +kernel, by decide +kernel, by show _ = some 2; decide +kernel⟩ (by decide)
set_option maxRecDepth 20000 in
theorem iv_L_101 (a : Nat)  : Inv "HollowPressLaw" 2 (.invokevirtual 101) [qv (some a)] vI (onT a 10 (pX10_strip a )) := inv_V (own := "HollowPressLaw") (As := []) (t := 10) (kX10_strip a ) _ (by decide) rfl rfl wl_164 wl_165 wl_166 wl_4 wl_167 ⟨by decide +kernel, by decide +kernel, by show _ = some 0; decide +kernel⟩ (by decide)
set_option maxRecDepth 20000 in
theorem iv_L_105 (a : Nat)  : Inv "HollowPressLaw" 1 (.invokevirtual 105) [qv (some a)] vI (onT a 11 (pX11_strip a )) := inv_V (own := "HollowPressLaw") (As := []) (t := 11) (kX11_strip a ) _ (by decide) rfl rfl wl_168 wl_169 wl_170 wl_9 wl_171 ⟨by decide +kernel, by decide +kernel, by show _ = some 0; decide +kernel⟩ (by decide)
set_option maxRecDepth 20000 in
theorem iv_L_106 (a : Nat) (x0 : Int32) : Inv "HollowPressLaw" 5 (.invokevirtual 106) [iv x0, qv (some a)] vI (onT a 10 (pX10_end a x0)) := inv_V (own := "HollowPressLaw") (As := [iv x0]) (t := 10) (kX10_end a x0) _ (by decide) rfl rfl wl_172 wl_173 wl_174 wl_4 wl_175 ⟨by decide +kernel, by decide +kernel, by show _ = some 1; decide +kernel⟩ (by decide)
set_option maxRecDepth 20000 in
theorem iv_L_109 (a : Nat) (x0 : Int32) : Inv "HollowPressLaw" 5 (.invokevirtual 109) [iv x0, qv (some a)] vI (onT a 11 (pX11_end a x0)) := inv_V (own := "HollowPressLaw") (As := [iv x0]) (t := 11) (kX11_end a x0) _ (by decide) rfl rfl wl_176 wl_177 wl_178 wl_9 wl_179 ⟨by decide +kernel, by decide +kernel, by show _ = some 1; decide +kernel⟩ (by decide)
set_option maxRecDepth 20000 in
theorem iv_L_110 (a : Nat) (x0 : Int32) : Inv "HollowPressLaw" 5 (.invokevirtual 110) [iv x0, qv (some a)] vI (onT a 10 (pX10_runners a x0)) := inv_V (own := "HollowPressLaw") (As := [iv x0]) (t := 10) (kX10_runners a x0) _ (by decide) rfl rfl wl_180 wl_181 wl_182 wl_4 wl_183 ⟨by decide +kernel, by decide +kernel, by show _ = some 1; decide +kernel⟩ (by decide)
set_option maxRecDepth 20000 in
theorem iv_L_113 (a : Nat) (x0 : Int32) : Inv "HollowPressLaw" 5 (.invokevirtual 113) [iv x0, qv (some a)] vI (onT a 11 (pX11_runners a x0)) := inv_V (own := "HollowPressLaw") (As := [iv x0]) (t := 11) (kX11_runners a x0) _ (by decide) rfl rfl wl_184 wl_185 wl_186 wl_9 wl_187 ⟨by decide +kernel, by decide +kernel, by show _ = some 1; decide +kernel⟩ (by decide)
set_option maxRecDepth 20000 in
theorem iv_L_114 (a : Nat) (x0 : Int32) : Inv "HollowPressLaw" 20 (.invokevirtual 114) [iv x0, qv (some a)] vI (onT a 10 (pX10_balance a x0)) := inv_V (own := "HollowPressLaw") (As := [iv x0]) (t := 10) (kX10_balance a x0) _ (by decide) rfl rfl wl_188 wl_189 wl_190 wl_4 wl_191 ⟨by decide +kernel, by decide +kernel, by show _ = some 1; decide +kernel⟩ (by decide)
set_option maxRecDepth 20000 in
theorem iv_L_117 (a : Nat) (x0 : Int32) : Inv "HollowPressLaw" 5 (.invokevirtual 117) [iv x0, qv (some a)] vI (onT a 11 (pX11_balance a x0)) := inv_V (own := "HollowPressLaw") (As := [iv x0]) (t := 11) (kX11_balance a x0) _ (by decide) rfl rfl wl_192 wl_193 wl_194 wl_9 wl_195 ⟨by decide +kernel, by decide +kernel, by show _ = some 1; decide +kernel⟩ (by decide)
set_option maxRecDepth 20000 in
theorem iv_L_118 (a : Nat) (x0 : Int32) : Inv "HollowPressLaw" 2 (.invokevirtual 118) [iv x0, qv (some a)] vI (onT a 10 (pX10_size a x0)) := inv_V (own := "HollowPressLaw") (As := [iv x0]) (t := 10) (kX10_size a x0) _ (by decide) rfl rfl wl_196 wl_197 wl_198 wl_4 wl_199 ⟨by decide +kernel, by decide +kernel, by show _ = some 1; decide +kernel⟩ (by decide)
set_option maxRecDepth 20000 in
theorem iv_L_121 (a : Nat) (x0 : Int32) : Inv "HollowPressLaw" 2 (.invokevirtual 121) [iv x0, qv (some a)] vI (onT a 11 (pX11_size a x0)) := inv_V (own := "HollowPressLaw") (As := [iv x0]) (t := 11) (kX11_size a x0) _ (by decide) rfl rfl wl_200 wl_201 wl_202 wl_9 wl_203 ⟨by decide +kernel, by decide +kernel, by show _ = some 1; decide +kernel⟩ (by decide)
set_option maxRecDepth 20000 in
theorem iv_L_122 (a : Nat) (x0 : Int32) (x1 : Int32) (x2 : Int32) (x3 : Int32) : Inv "HollowPressLaw" 4 (.invokevirtual 122) [iv x3, iv x2, iv x1, iv x0, qv (some a)] vI (onT a 10 (pX10_beat a x0 x1 x2 x3)) := inv_V (own := "HollowPressLaw") (As := [iv x0, iv x1, iv x2, iv x3]) (t := 10) (kX10_beat a x0 x1 x2 x3) _ (by decide) rfl rfl wl_204 wl_205 wl_206 wl_4 wl_207 ⟨by decide +kernel, by decide +kernel, by show _ = some 4; decide +kernel⟩ (by decide)
set_option maxRecDepth 20000 in
theorem iv_L_126 (a : Nat) (x0 : Int32) (x1 : Int32) (x2 : Int32) (x3 : Int32) : Inv "HollowPressLaw" 3 (.invokevirtual 126) [iv x3, iv x2, iv x1, iv x0, qv (some a)] vI (onT a 11 (pX11_beat a x0 x1 x2 x3)) := inv_V (own := "HollowPressLaw") (As := [iv x0, iv x1, iv x2, iv x3]) (t := 11) (kX11_beat a x0 x1 x2 x3) _ (by decide) rfl rfl wl_208 wl_209 wl_210 wl_9 wl_211 ⟨by decide +kernel, by decide +kernel, by show _ = some 4; decide +kernel⟩ (by decide)
set_option maxRecDepth 20000 in
theorem iv_L_127 (a : Nat) (x0 : Int32) (x1 : Int32) : Inv "HollowPressLaw" 3 (.invokevirtual 127) [iv x1, iv x0, qv (some a)] vI (onT a 10 (pX10_warmth a x0 x1)) := inv_V (own := "HollowPressLaw") (As := [iv x0, iv x1]) (t := 10) (kX10_warmth a x0 x1) _ (by decide) rfl rfl wl_212 wl_213 wl_214 wl_4 wl_215 ⟨by decide +kernel, by decide +kernel, by show _ = some 2; decide +kernel⟩ (by decide)
set_option maxRecDepth 20000 in
theorem iv_L_130 (a : Nat) (x0 : Int32) (x1 : Int32) : Inv "HollowPressLaw" 3 (.invokevirtual 130) [iv x1, iv x0, qv (some a)] vI (onT a 11 (pX11_warmth a x0 x1)) := inv_V (own := "HollowPressLaw") (As := [iv x0, iv x1]) (t := 11) (kX11_warmth a x0 x1) _ (by decide) rfl rfl wl_216 wl_217 wl_218 wl_9 wl_219 ⟨by decide +kernel, by decide +kernel, by show _ = some 2; decide +kernel⟩ (by decide)
set_option maxRecDepth 20000 in
theorem iv_L_131 (a : Nat) (x0 : Int32) : Inv "HollowPressLaw" 3 (.invokevirtual 131) [iv x0, qv (some a)] vI (onT a 10 (pX10_press a x0)) := inv_V (own := "HollowPressLaw") (As := [iv x0]) (t := 10) (kX10_press a x0) _ (by decide) rfl rfl wl_220 wl_221 wl_222 wl_4 wl_223 ⟨by decide +kernel, by decide +kernel, by show _ = some 1; decide +kernel⟩ (by decide)
set_option maxRecDepth 20000 in
theorem iv_L_134 (a : Nat) (x0 : Int32) : Inv "HollowPressLaw" 2 (.invokevirtual 134) [iv x0, qv (some a)] vI (onT a 11 (pX11_press a x0)) := inv_V (own := "HollowPressLaw") (As := [iv x0]) (t := 11) (kX11_press a x0) _ (by decide) rfl rfl wl_224 wl_225 wl_226 wl_9 wl_227 ⟨by decide +kernel, by decide +kernel, by show _ = some 1; decide +kernel⟩ (by decide)
set_option maxRecDepth 20000 in
theorem iv_L_135 (a : Nat) (x0 : Int32) (x1 : Int32) (x2 : Int32) : Inv "HollowPressLaw" 3 (.invokevirtual 135) [iv x2, iv x1, iv x0, qv (some a)] vI (onT a 10 (pX10_job a x0 x1 x2)) := inv_V (own := "HollowPressLaw") (As := [iv x0, iv x1, iv x2]) (t := 10) (kX10_job a x0 x1 x2) _ (by decide) rfl rfl wl_228 wl_229 wl_230 wl_4 wl_231 ⟨by decide +kernel, by decide +kernel, by show _ = some 3; decide +kernel⟩ (by decide)
set_option maxRecDepth 20000 in
theorem iv_L_138 (a : Nat) (x0 : Int32) (x1 : Int32) (x2 : Int32) : Inv "HollowPressLaw" 2 (.invokevirtual 138) [iv x2, iv x1, iv x0, qv (some a)] vI (onT a 11 (pX11_job a x0 x1 x2)) := inv_V (own := "HollowPressLaw") (As := [iv x0, iv x1, iv x2]) (t := 11) (kX11_job a x0 x1 x2) _ (by decide) rfl rfl wl_232 wl_233 wl_234 wl_9 wl_235 ⟨by decide +kernel, by decide +kernel, by show _ = some 3; decide +kernel⟩ (by decide)
set_option maxRecDepth 20000 in
theorem iv_L_139 (a : Nat)  : Inv "HollowPressLaw" 4 (.invokevirtual 139) [qv (some a)] vI (onT a 10 (pX10_plan a )) := inv_V (own := "HollowPressLaw") (As := []) (t := 10) (kX10_plan a ) _ (by decide) rfl rfl wl_236 wl_237 wl_238 wl_4 wl_239 ⟨by decide +kernel, by decide +kernel, by show _ = some 0; decide +kernel⟩ (by decide)
set_option maxRecDepth 20000 in
theorem iv_L_142 (a : Nat)  : Inv "HollowPressLaw" 3 (.invokevirtual 142) [qv (some a)] vI (onT a 11 (pX11_plan a )) := inv_V (own := "HollowPressLaw") (As := []) (t := 11) (kX11_plan a ) _ (by decide) rfl rfl wl_240 wl_241 wl_242 wl_9 wl_243 ⟨by decide +kernel, by decide +kernel, by show _ = some 0; decide +kernel⟩ (by decide)
set_option maxRecDepth 20000 in
theorem iv_L_143 (a : Nat) (x0 : Int32) (x1 : Int32) : Inv "HollowPressLaw" 3 (.invokevirtual 143) [iv x1, iv x0, qv (some a)] vI (onT a 10 (pX10_planned a x0 x1)) := inv_V (own := "HollowPressLaw") (As := [iv x0, iv x1]) (t := 10) (kX10_planned a x0 x1) _ (by decide) rfl rfl wl_244 wl_245 wl_246 wl_4 wl_247 ⟨by decide +kernel, by decide +kernel, by show _ = some 2; decide +kernel⟩ (by decide)
set_option maxRecDepth 20000 in
theorem iv_L_146 (a : Nat) (x0 : Int32) (x1 : Int32) : Inv "HollowPressLaw" 2 (.invokevirtual 146) [iv x1, iv x0, qv (some a)] vI (onT a 11 (pX11_planned a x0 x1)) := inv_V (own := "HollowPressLaw") (As := [iv x0, iv x1]) (t := 11) (kX11_planned a x0 x1) _ (by decide) rfl rfl wl_248 wl_249 wl_250 wl_9 wl_251 ⟨by decide +kernel, by decide +kernel, by show _ = some 2; decide +kernel⟩ (by decide)
set_option maxRecDepth 20000 in
theorem iv_L_147 (a : Nat) (x0 : Int32) (x1 : Int32) : Inv "HollowPressLaw" 2 (.invokevirtual 147) [iv x1, iv x0, qv (some a)] vI (onT a 10 (pX10_load a x0 x1)) := inv_V (own := "HollowPressLaw") (As := [iv x0, iv x1]) (t := 10) (kX10_load a x0 x1) _ (by decide) rfl rfl wl_252 wl_253 wl_254 wl_4 wl_255 ⟨by decide +kernel, by decide +kernel, by show _ = some 2; decide +kernel⟩ (by decide)
set_option maxRecDepth 20000 in
theorem iv_L_150 (a : Nat) (x0 : Int32) (x1 : Int32) : Inv "HollowPressLaw" 2 (.invokevirtual 150) [iv x1, iv x0, qv (some a)] vI (onT a 11 (pX11_load a x0 x1)) := inv_V (own := "HollowPressLaw") (As := [iv x0, iv x1]) (t := 11) (kX11_load a x0 x1) _ (by decide) rfl rfl wl_256 wl_257 wl_258 wl_9 wl_259 ⟨by decide +kernel, by decide +kernel, by show _ = some 2; decide +kernel⟩ (by decide)
set_option maxRecDepth 20000 in
theorem iv_L_151 (a : Nat) (x0 : Int32) : Inv "HollowPressLaw" 7 (.invokevirtual 151) [iv x0, qv (some a)] vI (onT a 10 (pX10_count a x0)) := inv_V (own := "HollowPressLaw") (As := [iv x0]) (t := 10) (kX10_count a x0) _ (by decide) rfl rfl wl_260 wl_261 wl_262 wl_4 wl_263 ⟨by decide +kernel, by decide +kernel, by show _ = some 1; decide +kernel⟩ (by decide)
set_option maxRecDepth 20000 in
theorem iv_L_154 (a : Nat) (x0 : Int32) : Inv "HollowPressLaw" 2 (.invokevirtual 154) [iv x0, qv (some a)] vI (onT a 11 (pX11_count a x0)) := inv_V (own := "HollowPressLaw") (As := [iv x0]) (t := 11) (kX11_count a x0) _ (by decide) rfl rfl wl_264 wl_265 wl_266 wl_9 wl_267 ⟨by decide +kernel, by decide +kernel, by show _ = some 1; decide +kernel⟩ (by decide)
set_option maxRecDepth 20000 in
theorem iv_L_155 (a : Nat)  : Inv "HollowPressLaw" 1 (.invokevirtual 155) [qv (some a)] vI (onT a 10 (pX10_status a )) := inv_V (own := "HollowPressLaw") (As := []) (t := 10) (kX10_status a ) _ (by decide) rfl rfl wl_268 wl_269 wl_270 wl_4 wl_271 ⟨by decide +kernel, by decide +kernel, by show _ = some 0; decide +kernel⟩ (by decide)
set_option maxRecDepth 20000 in
theorem iv_L_158 (a : Nat)  : Inv "HollowPressLaw" 1 (.invokevirtual 158) [qv (some a)] vI (onT a 11 (pX11_status a )) := inv_V (own := "HollowPressLaw") (As := []) (t := 11) (kX11_status a ) _ (by decide) rfl rfl wl_272 wl_273 wl_274 wl_9 wl_275 ⟨by decide +kernel, by decide +kernel, by show _ = some 0; decide +kernel⟩ (by decide)
set_option maxRecDepth 20000 in
theorem lc_0 {Rl : St → St → Prop} {X M b L n0 i : Nat} {xs : Nat → Int32} {C R : St} {z y : Nat} (hs : ∀ C R z y z' y', Rl C R → Rl (sy C z y) (sy R z' y')) (hap2 : ∀ C R, Rl C R → ∀ a, sT C a = 0 ∨ sT R a = 0) (hL : L ≤ 3072) (hi : i + 6 ≤ L) (hR : Rl C R) (tX : sT C X = 10) (tM : sT R M = 11) (hz : z ≤ n0 + 80 + 4 * 512 + 4) (hy : y ≤ 70000 + 400 * 512) (A_sheet : ∀ (x0 : Int32) (x1 : Int32) (x2 : Int32), Alike Rl (pX10_sheet X x0 x1 x2) (pX11_sheet M x0 x1 x2)) (hk : ∀ C1 R1, Rl C1 R1 → ∀ z1 y1, z1 ≤ z + 4 → y1 ≤ y + 400 → EvL b L xs n0 1338 [(3, iv (nI i)), (0, qv (some b)), (1, qv (some X)), (2, qv (some M))] [] C1 R1 z1 y1) : EvL b L xs n0 184 [(3, iv (nI i)), (0, qv (some b)), (1, qv (some X)), (2, qv (some M))] [] C R z y := by
  refine el_dom (fun hz dC dR hap => ?_)
  obtain ⟨x, C1, R1, hP, hQ, hR1, q1, q2, q3, q4, q5⟩ := (A_sheet (xs (i + 1)) (xs (i + 2)) (xs (i + 3))).two hs (C := C) (R := R) (z := z) (y := y) hR dC dR
  refine el_aload_n (pc' := 185) dL_law_184 rfl rfl ?_
  refine el_aload_n (pc' := 186) dL_law_185 rfl rfl ?_
  refine el_iload_n (pc' := 187) dL_law_186 rfl rfl ?_
  refine el_iconst (pc' := 188) (1 : Int32) dL_law_187 (by decide) rfl ?_
  refine el_iadd (pc' := 189) dL_law_188 rfl ?_
  refine el_sld (n := i + 1) (pc' := 190) (nI_add i 1) (by omega) (by omega) dL_law_189 rfl ?_
  refine el_aload_n (pc' := 191) dL_law_190 rfl rfl ?_
  refine el_iload_n (pc' := 192) dL_law_191 rfl rfl ?_
  refine el_iconst (pc' := 193) (2 : Int32) dL_law_192 (by decide) rfl ?_
  refine el_iadd (pc' := 194) dL_law_193 rfl ?_
  refine el_sld (n := i + 2) (pc' := 195) (nI_add i 2) (by omega) (by omega) dL_law_194 rfl ?_
  refine el_aload_n (pc' := 196) dL_law_195 rfl rfl ?_
  refine el_iload_n (pc' := 197) dL_law_196 rfl rfl ?_
  refine el_iconst (pc' := 198) (3 : Int32) dL_law_197 (by decide) rfl ?_
  refine el_iadd (pc' := 199) dL_law_198 rfl ?_
  refine el_sld (n := i + 3) (pc' := 200) (nI_add i 3) (by omega) (by omega) dL_law_199 rfl ?_
  refine el_callC (pc' := 203) (sa := [iv (xs (i + 3)), iv (xs (i + 2)), iv (xs (i + 1)), qv (some X)]) (st := []) (pu := [iv x]) (x := x) (C1 := C1) rfl (iv_L_13 X (xs (i + 1)) (xs (i + 2)) (xs (i + 3))) ((onT_e (S := sy C z y) tX).trans hP) (by decide) dL_law_200 rfl (by decide) ⟨by omega, by omega⟩ (fun a => by rw [← q3]; exact hap2 C1 R1 hR1 a) ?_
  refine el_aload_n (pc' := 204) dL_law_203 rfl rfl ?_
  refine el_aload_n (pc' := 205) dL_law_204 rfl rfl ?_
  refine el_iload_n (pc' := 206) dL_law_205 rfl rfl ?_
  refine el_iconst (pc' := 207) (1 : Int32) dL_law_206 (by decide) rfl ?_
  refine el_iadd (pc' := 208) dL_law_207 rfl ?_
  refine el_sld (n := i + 1) (pc' := 209) (nI_add i 1) (by omega) (by omega) dL_law_208 rfl ?_
  refine el_aload_n (pc' := 210) dL_law_209 rfl rfl ?_
  refine el_iload_n (pc' := 211) dL_law_210 rfl rfl ?_
  refine el_iconst (pc' := 212) (2 : Int32) dL_law_211 (by decide) rfl ?_
  refine el_iadd (pc' := 213) dL_law_212 rfl ?_
  refine el_sld (n := i + 2) (pc' := 214) (nI_add i 2) (by omega) (by omega) dL_law_213 rfl ?_
  refine el_aload_n (pc' := 215) dL_law_214 rfl rfl ?_
  refine el_iload_n (pc' := 216) dL_law_215 rfl rfl ?_
  refine el_iconst (pc' := 217) (3 : Int32) dL_law_216 (by decide) rfl ?_
  refine el_iadd (pc' := 218) dL_law_217 rfl ?_
  refine el_sld (n := i + 3) (pc' := 219) (nI_add i 3) (by omega) (by omega) dL_law_218 rfl ?_
  refine el_callR (pc' := 222) (sa := [iv (xs (i + 3)), iv (xs (i + 2)), iv (xs (i + 1)), qv (some M)]) (st := [iv x]) (pu := [iv x]) (x := x) (R1 := R1) rfl (iv_L_17 M (xs (i + 1)) (xs (i + 2)) (xs (i + 3))) ((onT_e (S := sy R (sX C1) (sS C1)) tM).trans hQ) (by decide) dL_law_219 rfl (Nat.le_of_ble_eq_true rfl) ⟨by omega, by omega⟩ (hap2 C1 R1 hR1) ?_
  refine el_icmp_eq (pc' := 1338) dL_law_222 (by decide) ?_
  rw [q1, q2]
  exact hk C1 R1 hR1 _ _ (by omega) (by omega)
set_option maxRecDepth 20000 in
theorem lc_1 {Rl : St → St → Prop} {X M b L n0 i : Nat} {xs : Nat → Int32} {C R : St} {z y : Nat} (hs : ∀ C R z y z' y', Rl C R → Rl (sy C z y) (sy R z' y')) (hap2 : ∀ C R, Rl C R → ∀ a, sT C a = 0 ∨ sT R a = 0) (hL : L ≤ 3072) (hi : i + 6 ≤ L) (hR : Rl C R) (tX : sT C X = 10) (tM : sT R M = 11) (hz : z ≤ n0 + 80 + 4 * 512 + 4) (hy : y ≤ 70000 + 400 * 512) (A_set : ∀ (x0 : Int32) (x1 : Int32) (x2 : Int64), Alike Rl (pX10_set X x0 x1 x2) (pX11_set M x0 x1 x2)) (hk : ∀ C1 R1, Rl C1 R1 → ∀ z1 y1, z1 ≤ z + 4 → y1 ≤ y + 400 → EvL b L xs n0 1338 [(3, iv (nI i)), (0, qv (some b)), (1, qv (some X)), (2, qv (some M))] [] C1 R1 z1 y1) : EvL b L xs n0 227 [(3, iv (nI i)), (0, qv (some b)), (1, qv (some X)), (2, qv (some M))] [] C R z y := by
  refine el_dom (fun hz dC dR hap => ?_)
  obtain ⟨x, C1, R1, hP, hQ, hR1, q1, q2, q3, q4, q5⟩ := (A_set (xs (i + 1)) (xs (i + 2)) (((Int32.toInt64 (xs (i + 3))) <<< (Int32.toInt64 (32 : Int32) &&& 63)) ||| ((Int32.toInt64 (xs (i + 4))) &&& (4294967295 : Int64)))).two hs (C := C) (R := R) (z := z) (y := y) hR dC dR
  refine el_aload_n (pc' := 228) dL_law_227 rfl rfl ?_
  refine el_aload_n (pc' := 229) dL_law_228 rfl rfl ?_
  refine el_iload_n (pc' := 230) dL_law_229 rfl rfl ?_
  refine el_iconst (pc' := 231) (1 : Int32) dL_law_230 (by decide) rfl ?_
  refine el_iadd (pc' := 232) dL_law_231 rfl ?_
  refine el_sld (n := i + 1) (pc' := 233) (nI_add i 1) (by omega) (by omega) dL_law_232 rfl ?_
  refine el_aload_n (pc' := 234) dL_law_233 rfl rfl ?_
  refine el_iload_n (pc' := 235) dL_law_234 rfl rfl ?_
  refine el_iconst (pc' := 236) (2 : Int32) dL_law_235 (by decide) rfl ?_
  refine el_iadd (pc' := 237) dL_law_236 rfl ?_
  refine el_sld (n := i + 2) (pc' := 238) (nI_add i 2) (by omega) (by omega) dL_law_237 rfl ?_
  refine el_aload_n (pc' := 239) dL_law_238 rfl rfl ?_
  refine el_iload_n (pc' := 240) dL_law_239 rfl rfl ?_
  refine el_iconst (pc' := 241) (3 : Int32) dL_law_240 (by decide) rfl ?_
  refine el_iadd (pc' := 242) dL_law_241 rfl ?_
  refine el_sld (n := i + 3) (pc' := 243) (nI_add i 3) (by omega) (by omega) dL_law_242 rfl ?_
  refine el_i2l (pc' := 244) dL_law_243 rfl ?_
  refine el_bipush (pc' := 246) (32 : Int32) dL_law_244 (by decide) rfl ?_
  refine el_lshl (pc' := 247) dL_law_246 rfl ?_
  refine el_aload_n (pc' := 248) dL_law_247 rfl rfl ?_
  refine el_iload_n (pc' := 249) dL_law_248 rfl rfl ?_
  refine el_iconst (pc' := 250) (4 : Int32) dL_law_249 (by decide) rfl ?_
  refine el_iadd (pc' := 251) dL_law_250 rfl ?_
  refine el_sld (n := i + 4) (pc' := 252) (nI_add i 4) (by omega) (by omega) dL_law_251 rfl ?_
  refine el_i2l (pc' := 253) dL_law_252 rfl ?_
  refine el_ldc2 (pc' := 256) (4294967295 : Int64) wl_19 dL_law_253 rfl ?_
  refine el_land (pc' := 257) dL_law_256 rfl ?_
  refine el_lor (pc' := 258) dL_law_257 rfl ?_
  refine el_callC (pc' := 261) (sa := [jv (((Int32.toInt64 (xs (i + 3))) <<< (Int32.toInt64 (32 : Int32) &&& 63)) ||| ((Int32.toInt64 (xs (i + 4))) &&& (4294967295 : Int64))), iv (xs (i + 2)), iv (xs (i + 1)), qv (some X)]) (st := []) (pu := [jv x]) (x := x) (C1 := C1) rfl (iv_L_20 X (xs (i + 1)) (xs (i + 2)) (((Int32.toInt64 (xs (i + 3))) <<< (Int32.toInt64 (32 : Int32) &&& 63)) ||| ((Int32.toInt64 (xs (i + 4))) &&& (4294967295 : Int64)))) ((onT_e (S := sy C z y) tX).trans hP) (by decide) dL_law_258 rfl (by decide) ⟨by omega, by omega⟩ (fun a => by rw [← q3]; exact hap2 C1 R1 hR1 a) ?_
  refine el_aload_n (pc' := 262) dL_law_261 rfl rfl ?_
  refine el_aload_n (pc' := 263) dL_law_262 rfl rfl ?_
  refine el_iload_n (pc' := 264) dL_law_263 rfl rfl ?_
  refine el_iconst (pc' := 265) (1 : Int32) dL_law_264 (by decide) rfl ?_
  refine el_iadd (pc' := 266) dL_law_265 rfl ?_
  refine el_sld (n := i + 1) (pc' := 267) (nI_add i 1) (by omega) (by omega) dL_law_266 rfl ?_
  refine el_aload_n (pc' := 268) dL_law_267 rfl rfl ?_
  refine el_iload_n (pc' := 269) dL_law_268 rfl rfl ?_
  refine el_iconst (pc' := 270) (2 : Int32) dL_law_269 (by decide) rfl ?_
  refine el_iadd (pc' := 271) dL_law_270 rfl ?_
  refine el_sld (n := i + 2) (pc' := 272) (nI_add i 2) (by omega) (by omega) dL_law_271 rfl ?_
  refine el_aload_n (pc' := 273) dL_law_272 rfl rfl ?_
  refine el_iload_n (pc' := 274) dL_law_273 rfl rfl ?_
  refine el_iconst (pc' := 275) (3 : Int32) dL_law_274 (by decide) rfl ?_
  refine el_iadd (pc' := 276) dL_law_275 rfl ?_
  refine el_sld (n := i + 3) (pc' := 277) (nI_add i 3) (by omega) (by omega) dL_law_276 rfl ?_
  refine el_i2l (pc' := 278) dL_law_277 rfl ?_
  refine el_bipush (pc' := 280) (32 : Int32) dL_law_278 (by decide) rfl ?_
  refine el_lshl (pc' := 281) dL_law_280 rfl ?_
  refine el_aload_n (pc' := 282) dL_law_281 rfl rfl ?_
  refine el_iload_n (pc' := 283) dL_law_282 rfl rfl ?_
  refine el_iconst (pc' := 284) (4 : Int32) dL_law_283 (by decide) rfl ?_
  refine el_iadd (pc' := 285) dL_law_284 rfl ?_
  refine el_sld (n := i + 4) (pc' := 286) (nI_add i 4) (by omega) (by omega) dL_law_285 rfl ?_
  refine el_i2l (pc' := 287) dL_law_286 rfl ?_
  refine el_ldc2 (pc' := 290) (4294967295 : Int64) wl_19 dL_law_287 rfl ?_
  refine el_land (pc' := 291) dL_law_290 rfl ?_
  refine el_lor (pc' := 292) dL_law_291 rfl ?_
  refine el_callR (pc' := 295) (sa := [jv (((Int32.toInt64 (xs (i + 3))) <<< (Int32.toInt64 (32 : Int32) &&& 63)) ||| ((Int32.toInt64 (xs (i + 4))) &&& (4294967295 : Int64))), iv (xs (i + 2)), iv (xs (i + 1)), qv (some M)]) (st := [jv x]) (pu := [jv x]) (x := x) (R1 := R1) rfl (iv_L_24 M (xs (i + 1)) (xs (i + 2)) (((Int32.toInt64 (xs (i + 3))) <<< (Int32.toInt64 (32 : Int32) &&& 63)) ||| ((Int32.toInt64 (xs (i + 4))) &&& (4294967295 : Int64)))) ((onT_e (S := sy R (sX C1) (sS C1)) tM).trans hQ) (by decide) dL_law_292 rfl (Nat.le_of_ble_eq_true rfl) ⟨by omega, by omega⟩ (hap2 C1 R1 hR1) ?_
  refine el_lcmp (pc' := 296) dL_law_295 rfl ?_
  rw [cmp_self]
  refine el_if_eq0 (pc' := 1338) dL_law_296 (by decide) ?_
  rw [q1, q2]
  exact hk C1 R1 hR1 _ _ (by omega) (by omega)
set_option maxRecDepth 20000 in
theorem lc_2 {Rl : St → St → Prop} {X M b L n0 i : Nat} {xs : Nat → Int32} {C R : St} {z y : Nat} (hs : ∀ C R z y z' y', Rl C R → Rl (sy C z y) (sy R z' y')) (hap2 : ∀ C R, Rl C R → ∀ a, sT C a = 0 ∨ sT R a = 0) (hL : L ≤ 3072) (hi : i + 6 ≤ L) (hR : Rl C R) (tX : sT C X = 10) (tM : sT R M = 11) (hz : z ≤ n0 + 80 + 4 * 512 + 4) (hy : y ≤ 70000 + 400 * 512) (A_copy : ∀ (x0 : Int32) (x1 : Int32) (x2 : Int32) (x3 : Int32) (x4 : Int32), Alike Rl (pX10_copy X x0 x1 x2 x3 x4) (pX11_copy M x0 x1 x2 x3 x4)) (hk : ∀ C1 R1, Rl C1 R1 → ∀ z1 y1, z1 ≤ z + 4 → y1 ≤ y + 400 → EvL b L xs n0 1338 [(3, iv (nI i)), (0, qv (some b)), (1, qv (some X)), (2, qv (some M))] [] C1 R1 z1 y1) : EvL b L xs n0 301 [(3, iv (nI i)), (0, qv (some b)), (1, qv (some X)), (2, qv (some M))] [] C R z y := by
  refine el_dom (fun hz dC dR hap => ?_)
  obtain ⟨x, C1, R1, hP, hQ, hR1, q1, q2, q3, q4, q5⟩ := (A_copy (xs (i + 1)) (xs (i + 2)) (xs (i + 3)) (xs (i + 4)) (xs (i + 5))).two hs (C := C) (R := R) (z := z) (y := y) hR dC dR
  refine el_aload_n (pc' := 302) dL_law_301 rfl rfl ?_
  refine el_aload_n (pc' := 303) dL_law_302 rfl rfl ?_
  refine el_iload_n (pc' := 304) dL_law_303 rfl rfl ?_
  refine el_iconst (pc' := 305) (1 : Int32) dL_law_304 (by decide) rfl ?_
  refine el_iadd (pc' := 306) dL_law_305 rfl ?_
  refine el_sld (n := i + 1) (pc' := 307) (nI_add i 1) (by omega) (by omega) dL_law_306 rfl ?_
  refine el_aload_n (pc' := 308) dL_law_307 rfl rfl ?_
  refine el_iload_n (pc' := 309) dL_law_308 rfl rfl ?_
  refine el_iconst (pc' := 310) (2 : Int32) dL_law_309 (by decide) rfl ?_
  refine el_iadd (pc' := 311) dL_law_310 rfl ?_
  refine el_sld (n := i + 2) (pc' := 312) (nI_add i 2) (by omega) (by omega) dL_law_311 rfl ?_
  refine el_aload_n (pc' := 313) dL_law_312 rfl rfl ?_
  refine el_iload_n (pc' := 314) dL_law_313 rfl rfl ?_
  refine el_iconst (pc' := 315) (3 : Int32) dL_law_314 (by decide) rfl ?_
  refine el_iadd (pc' := 316) dL_law_315 rfl ?_
  refine el_sld (n := i + 3) (pc' := 317) (nI_add i 3) (by omega) (by omega) dL_law_316 rfl ?_
  refine el_aload_n (pc' := 318) dL_law_317 rfl rfl ?_
  refine el_iload_n (pc' := 319) dL_law_318 rfl rfl ?_
  refine el_iconst (pc' := 320) (4 : Int32) dL_law_319 (by decide) rfl ?_
  refine el_iadd (pc' := 321) dL_law_320 rfl ?_
  refine el_sld (n := i + 4) (pc' := 322) (nI_add i 4) (by omega) (by omega) dL_law_321 rfl ?_
  refine el_aload_n (pc' := 323) dL_law_322 rfl rfl ?_
  refine el_iload_n (pc' := 324) dL_law_323 rfl rfl ?_
  refine el_iconst (pc' := 325) (5 : Int32) dL_law_324 (by decide) rfl ?_
  refine el_iadd (pc' := 326) dL_law_325 rfl ?_
  refine el_sld (n := i + 5) (pc' := 327) (nI_add i 5) (by omega) (by omega) dL_law_326 rfl ?_
  refine el_callC (pc' := 330) (sa := [iv (xs (i + 5)), iv (xs (i + 4)), iv (xs (i + 3)), iv (xs (i + 2)), iv (xs (i + 1)), qv (some X)]) (st := []) (pu := [iv x]) (x := x) (C1 := C1) rfl (iv_L_25 X (xs (i + 1)) (xs (i + 2)) (xs (i + 3)) (xs (i + 4)) (xs (i + 5))) ((onT_e (S := sy C z y) tX).trans hP) (by decide) dL_law_327 rfl (by decide) ⟨by omega, by omega⟩ (fun a => by rw [← q3]; exact hap2 C1 R1 hR1 a) ?_
  refine el_aload_n (pc' := 331) dL_law_330 rfl rfl ?_
  refine el_aload_n (pc' := 332) dL_law_331 rfl rfl ?_
  refine el_iload_n (pc' := 333) dL_law_332 rfl rfl ?_
  refine el_iconst (pc' := 334) (1 : Int32) dL_law_333 (by decide) rfl ?_
  refine el_iadd (pc' := 335) dL_law_334 rfl ?_
  refine el_sld (n := i + 1) (pc' := 336) (nI_add i 1) (by omega) (by omega) dL_law_335 rfl ?_
  refine el_aload_n (pc' := 337) dL_law_336 rfl rfl ?_
  refine el_iload_n (pc' := 338) dL_law_337 rfl rfl ?_
  refine el_iconst (pc' := 339) (2 : Int32) dL_law_338 (by decide) rfl ?_
  refine el_iadd (pc' := 340) dL_law_339 rfl ?_
  refine el_sld (n := i + 2) (pc' := 341) (nI_add i 2) (by omega) (by omega) dL_law_340 rfl ?_
  refine el_aload_n (pc' := 342) dL_law_341 rfl rfl ?_
  refine el_iload_n (pc' := 343) dL_law_342 rfl rfl ?_
  refine el_iconst (pc' := 344) (3 : Int32) dL_law_343 (by decide) rfl ?_
  refine el_iadd (pc' := 345) dL_law_344 rfl ?_
  refine el_sld (n := i + 3) (pc' := 346) (nI_add i 3) (by omega) (by omega) dL_law_345 rfl ?_
  refine el_aload_n (pc' := 347) dL_law_346 rfl rfl ?_
  refine el_iload_n (pc' := 348) dL_law_347 rfl rfl ?_
  refine el_iconst (pc' := 349) (4 : Int32) dL_law_348 (by decide) rfl ?_
  refine el_iadd (pc' := 350) dL_law_349 rfl ?_
  refine el_sld (n := i + 4) (pc' := 351) (nI_add i 4) (by omega) (by omega) dL_law_350 rfl ?_
  refine el_aload_n (pc' := 352) dL_law_351 rfl rfl ?_
  refine el_iload_n (pc' := 353) dL_law_352 rfl rfl ?_
  refine el_iconst (pc' := 354) (5 : Int32) dL_law_353 (by decide) rfl ?_
  refine el_iadd (pc' := 355) dL_law_354 rfl ?_
  refine el_sld (n := i + 5) (pc' := 356) (nI_add i 5) (by omega) (by omega) dL_law_355 rfl ?_
  refine el_callR (pc' := 359) (sa := [iv (xs (i + 5)), iv (xs (i + 4)), iv (xs (i + 3)), iv (xs (i + 2)), iv (xs (i + 1)), qv (some M)]) (st := [iv x]) (pu := [iv x]) (x := x) (R1 := R1) rfl (iv_L_29 M (xs (i + 1)) (xs (i + 2)) (xs (i + 3)) (xs (i + 4)) (xs (i + 5))) ((onT_e (S := sy R (sX C1) (sS C1)) tM).trans hQ) (by decide) dL_law_356 rfl (Nat.le_of_ble_eq_true rfl) ⟨by omega, by omega⟩ (hap2 C1 R1 hR1) ?_
  refine el_icmp_eq (pc' := 1338) dL_law_359 (by decide) ?_
  rw [q1, q2]
  exact hk C1 R1 hR1 _ _ (by omega) (by omega)
set_option maxRecDepth 20000 in
theorem lc_3 {Rl : St → St → Prop} {X M b L n0 i : Nat} {xs : Nat → Int32} {C R : St} {z y : Nat} (hs : ∀ C R z y z' y', Rl C R → Rl (sy C z y) (sy R z' y')) (hap2 : ∀ C R, Rl C R → ∀ a, sT C a = 0 ∨ sT R a = 0) (hL : L ≤ 3072) (hi : i + 6 ≤ L) (hR : Rl C R) (tX : sT C X = 10) (tM : sT R M = 11) (hz : z ≤ n0 + 80 + 4 * 512 + 4) (hy : y ≤ 70000 + 400 * 512) (A_drop : ∀ (x0 : Int32), Alike Rl (pX10_drop X x0) (pX11_drop M x0)) (hk : ∀ C1 R1, Rl C1 R1 → ∀ z1 y1, z1 ≤ z + 4 → y1 ≤ y + 400 → EvL b L xs n0 1338 [(3, iv (nI i)), (0, qv (some b)), (1, qv (some X)), (2, qv (some M))] [] C1 R1 z1 y1) : EvL b L xs n0 364 [(3, iv (nI i)), (0, qv (some b)), (1, qv (some X)), (2, qv (some M))] [] C R z y := by
  refine el_dom (fun hz dC dR hap => ?_)
  obtain ⟨x, C1, R1, hP, hQ, hR1, q1, q2, q3, q4, q5⟩ := (A_drop (xs (i + 1))).two hs (C := C) (R := R) (z := z) (y := y) hR dC dR
  refine el_aload_n (pc' := 365) dL_law_364 rfl rfl ?_
  refine el_aload_n (pc' := 366) dL_law_365 rfl rfl ?_
  refine el_iload_n (pc' := 367) dL_law_366 rfl rfl ?_
  refine el_iconst (pc' := 368) (1 : Int32) dL_law_367 (by decide) rfl ?_
  refine el_iadd (pc' := 369) dL_law_368 rfl ?_
  refine el_sld (n := i + 1) (pc' := 370) (nI_add i 1) (by omega) (by omega) dL_law_369 rfl ?_
  refine el_callC (pc' := 373) (sa := [iv (xs (i + 1)), qv (some X)]) (st := []) (pu := [iv x]) (x := x) (C1 := C1) rfl (iv_L_30 X (xs (i + 1))) ((onT_e (S := sy C z y) tX).trans hP) (by decide) dL_law_370 rfl (by decide) ⟨by omega, by omega⟩ (fun a => by rw [← q3]; exact hap2 C1 R1 hR1 a) ?_
  refine el_aload_n (pc' := 374) dL_law_373 rfl rfl ?_
  refine el_aload_n (pc' := 375) dL_law_374 rfl rfl ?_
  refine el_iload_n (pc' := 376) dL_law_375 rfl rfl ?_
  refine el_iconst (pc' := 377) (1 : Int32) dL_law_376 (by decide) rfl ?_
  refine el_iadd (pc' := 378) dL_law_377 rfl ?_
  refine el_sld (n := i + 1) (pc' := 379) (nI_add i 1) (by omega) (by omega) dL_law_378 rfl ?_
  refine el_callR (pc' := 382) (sa := [iv (xs (i + 1)), qv (some M)]) (st := [iv x]) (pu := [iv x]) (x := x) (R1 := R1) rfl (iv_L_34 M (xs (i + 1))) ((onT_e (S := sy R (sX C1) (sS C1)) tM).trans hQ) (by decide) dL_law_379 rfl (Nat.le_of_ble_eq_true rfl) ⟨by omega, by omega⟩ (hap2 C1 R1 hR1) ?_
  refine el_icmp_eq (pc' := 1338) dL_law_382 (by decide) ?_
  rw [q1, q2]
  exact hk C1 R1 hR1 _ _ (by omega) (by omega)
set_option maxRecDepth 20000 in
theorem lc_4 {Rl : St → St → Prop} {X M b L n0 i : Nat} {xs : Nat → Int32} {C R : St} {z y : Nat} (hs : ∀ C R z y z' y', Rl C R → Rl (sy C z y) (sy R z' y')) (hap2 : ∀ C R, Rl C R → ∀ a, sT C a = 0 ∨ sT R a = 0) (hL : L ≤ 3072) (hi : i + 6 ≤ L) (hR : Rl C R) (tX : sT C X = 10) (tM : sT R M = 11) (hz : z ≤ n0 + 80 + 4 * 512 + 4) (hy : y ≤ 70000 + 400 * 512) (A_part : ∀ (x0 : Int32) (x1 : Int32) (x2 : Int32) (x3 : Int32) (x4 : Int32), Alike Rl (pX10_part X x0 x1 x2 x3 x4) (pX11_part M x0 x1 x2 x3 x4)) (hk : ∀ C1 R1, Rl C1 R1 → ∀ z1 y1, z1 ≤ z + 4 → y1 ≤ y + 400 → EvL b L xs n0 1338 [(3, iv (nI i)), (0, qv (some b)), (1, qv (some X)), (2, qv (some M))] [] C1 R1 z1 y1) : EvL b L xs n0 387 [(3, iv (nI i)), (0, qv (some b)), (1, qv (some X)), (2, qv (some M))] [] C R z y := by
  refine el_dom (fun hz dC dR hap => ?_)
  obtain ⟨x, C1, R1, hP, hQ, hR1, q1, q2, q3, q4, q5⟩ := (A_part (xs (i + 1)) (xs (i + 2)) (xs (i + 3)) (xs (i + 4)) (xs (i + 5))).two hs (C := C) (R := R) (z := z) (y := y) hR dC dR
  refine el_aload_n (pc' := 388) dL_law_387 rfl rfl ?_
  refine el_aload_n (pc' := 389) dL_law_388 rfl rfl ?_
  refine el_iload_n (pc' := 390) dL_law_389 rfl rfl ?_
  refine el_iconst (pc' := 391) (1 : Int32) dL_law_390 (by decide) rfl ?_
  refine el_iadd (pc' := 392) dL_law_391 rfl ?_
  refine el_sld (n := i + 1) (pc' := 393) (nI_add i 1) (by omega) (by omega) dL_law_392 rfl ?_
  refine el_aload_n (pc' := 394) dL_law_393 rfl rfl ?_
  refine el_iload_n (pc' := 395) dL_law_394 rfl rfl ?_
  refine el_iconst (pc' := 396) (2 : Int32) dL_law_395 (by decide) rfl ?_
  refine el_iadd (pc' := 397) dL_law_396 rfl ?_
  refine el_sld (n := i + 2) (pc' := 398) (nI_add i 2) (by omega) (by omega) dL_law_397 rfl ?_
  refine el_aload_n (pc' := 399) dL_law_398 rfl rfl ?_
  refine el_iload_n (pc' := 400) dL_law_399 rfl rfl ?_
  refine el_iconst (pc' := 401) (3 : Int32) dL_law_400 (by decide) rfl ?_
  refine el_iadd (pc' := 402) dL_law_401 rfl ?_
  refine el_sld (n := i + 3) (pc' := 403) (nI_add i 3) (by omega) (by omega) dL_law_402 rfl ?_
  refine el_aload_n (pc' := 404) dL_law_403 rfl rfl ?_
  refine el_iload_n (pc' := 405) dL_law_404 rfl rfl ?_
  refine el_iconst (pc' := 406) (4 : Int32) dL_law_405 (by decide) rfl ?_
  refine el_iadd (pc' := 407) dL_law_406 rfl ?_
  refine el_sld (n := i + 4) (pc' := 408) (nI_add i 4) (by omega) (by omega) dL_law_407 rfl ?_
  refine el_aload_n (pc' := 409) dL_law_408 rfl rfl ?_
  refine el_iload_n (pc' := 410) dL_law_409 rfl rfl ?_
  refine el_iconst (pc' := 411) (5 : Int32) dL_law_410 (by decide) rfl ?_
  refine el_iadd (pc' := 412) dL_law_411 rfl ?_
  refine el_sld (n := i + 5) (pc' := 413) (nI_add i 5) (by omega) (by omega) dL_law_412 rfl ?_
  refine el_callC (pc' := 416) (sa := [iv (xs (i + 5)), iv (xs (i + 4)), iv (xs (i + 3)), iv (xs (i + 2)), iv (xs (i + 1)), qv (some X)]) (st := []) (pu := [iv x]) (x := x) (C1 := C1) rfl (iv_L_35 X (xs (i + 1)) (xs (i + 2)) (xs (i + 3)) (xs (i + 4)) (xs (i + 5))) ((onT_e (S := sy C z y) tX).trans hP) (by decide) dL_law_413 rfl (by decide) ⟨by omega, by omega⟩ (fun a => by rw [← q3]; exact hap2 C1 R1 hR1 a) ?_
  refine el_aload_n (pc' := 417) dL_law_416 rfl rfl ?_
  refine el_aload_n (pc' := 418) dL_law_417 rfl rfl ?_
  refine el_iload_n (pc' := 419) dL_law_418 rfl rfl ?_
  refine el_iconst (pc' := 420) (1 : Int32) dL_law_419 (by decide) rfl ?_
  refine el_iadd (pc' := 421) dL_law_420 rfl ?_
  refine el_sld (n := i + 1) (pc' := 422) (nI_add i 1) (by omega) (by omega) dL_law_421 rfl ?_
  refine el_aload_n (pc' := 423) dL_law_422 rfl rfl ?_
  refine el_iload_n (pc' := 424) dL_law_423 rfl rfl ?_
  refine el_iconst (pc' := 425) (2 : Int32) dL_law_424 (by decide) rfl ?_
  refine el_iadd (pc' := 426) dL_law_425 rfl ?_
  refine el_sld (n := i + 2) (pc' := 427) (nI_add i 2) (by omega) (by omega) dL_law_426 rfl ?_
  refine el_aload_n (pc' := 428) dL_law_427 rfl rfl ?_
  refine el_iload_n (pc' := 429) dL_law_428 rfl rfl ?_
  refine el_iconst (pc' := 430) (3 : Int32) dL_law_429 (by decide) rfl ?_
  refine el_iadd (pc' := 431) dL_law_430 rfl ?_
  refine el_sld (n := i + 3) (pc' := 432) (nI_add i 3) (by omega) (by omega) dL_law_431 rfl ?_
  refine el_aload_n (pc' := 433) dL_law_432 rfl rfl ?_
  refine el_iload_n (pc' := 434) dL_law_433 rfl rfl ?_
  refine el_iconst (pc' := 435) (4 : Int32) dL_law_434 (by decide) rfl ?_
  refine el_iadd (pc' := 436) dL_law_435 rfl ?_
  refine el_sld (n := i + 4) (pc' := 437) (nI_add i 4) (by omega) (by omega) dL_law_436 rfl ?_
  refine el_aload_n (pc' := 438) dL_law_437 rfl rfl ?_
  refine el_iload_n (pc' := 439) dL_law_438 rfl rfl ?_
  refine el_iconst (pc' := 440) (5 : Int32) dL_law_439 (by decide) rfl ?_
  refine el_iadd (pc' := 441) dL_law_440 rfl ?_
  refine el_sld (n := i + 5) (pc' := 442) (nI_add i 5) (by omega) (by omega) dL_law_441 rfl ?_
  refine el_callR (pc' := 445) (sa := [iv (xs (i + 5)), iv (xs (i + 4)), iv (xs (i + 3)), iv (xs (i + 2)), iv (xs (i + 1)), qv (some M)]) (st := [iv x]) (pu := [iv x]) (x := x) (R1 := R1) rfl (iv_L_38 M (xs (i + 1)) (xs (i + 2)) (xs (i + 3)) (xs (i + 4)) (xs (i + 5))) ((onT_e (S := sy R (sX C1) (sS C1)) tM).trans hQ) (by decide) dL_law_442 rfl (Nat.le_of_ble_eq_true rfl) ⟨by omega, by omega⟩ (hap2 C1 R1 hR1) ?_
  refine el_icmp_eq (pc' := 1338) dL_law_445 (by decide) ?_
  rw [q1, q2]
  exact hk C1 R1 hR1 _ _ (by omega) (by omega)
set_option maxRecDepth 20000 in
theorem lc_5 {Rl : St → St → Prop} {X M b L n0 i : Nat} {xs : Nat → Int32} {C R : St} {z y : Nat} (hs : ∀ C R z y z' y', Rl C R → Rl (sy C z y) (sy R z' y')) (hap2 : ∀ C R, Rl C R → ∀ a, sT C a = 0 ∨ sT R a = 0) (hL : L ≤ 3072) (hi : i + 6 ≤ L) (hR : Rl C R) (tX : sT C X = 10) (tM : sT R M = 11) (hz : z ≤ n0 + 80 + 4 * 512 + 4) (hy : y ≤ 70000 + 400 * 512) (A_layers : ∀ (x0 : Int32) (x1 : Int32) (x2 : Int32) (x3 : Int32) (x4 : Int32), Alike Rl (pX10_layers X x0 x1 x2 x3 x4) (pX11_layers M x0 x1 x2 x3 x4)) (hk : ∀ C1 R1, Rl C1 R1 → ∀ z1 y1, z1 ≤ z + 4 → y1 ≤ y + 400 → EvL b L xs n0 1338 [(3, iv (nI i)), (0, qv (some b)), (1, qv (some X)), (2, qv (some M))] [] C1 R1 z1 y1) : EvL b L xs n0 450 [(3, iv (nI i)), (0, qv (some b)), (1, qv (some X)), (2, qv (some M))] [] C R z y := by
  refine el_dom (fun hz dC dR hap => ?_)
  obtain ⟨x, C1, R1, hP, hQ, hR1, q1, q2, q3, q4, q5⟩ := (A_layers (xs (i + 1)) (xs (i + 2)) (xs (i + 3)) (xs (i + 4)) (xs (i + 5))).two hs (C := C) (R := R) (z := z) (y := y) hR dC dR
  refine el_aload_n (pc' := 451) dL_law_450 rfl rfl ?_
  refine el_aload_n (pc' := 452) dL_law_451 rfl rfl ?_
  refine el_iload_n (pc' := 453) dL_law_452 rfl rfl ?_
  refine el_iconst (pc' := 454) (1 : Int32) dL_law_453 (by decide) rfl ?_
  refine el_iadd (pc' := 455) dL_law_454 rfl ?_
  refine el_sld (n := i + 1) (pc' := 456) (nI_add i 1) (by omega) (by omega) dL_law_455 rfl ?_
  refine el_aload_n (pc' := 457) dL_law_456 rfl rfl ?_
  refine el_iload_n (pc' := 458) dL_law_457 rfl rfl ?_
  refine el_iconst (pc' := 459) (2 : Int32) dL_law_458 (by decide) rfl ?_
  refine el_iadd (pc' := 460) dL_law_459 rfl ?_
  refine el_sld (n := i + 2) (pc' := 461) (nI_add i 2) (by omega) (by omega) dL_law_460 rfl ?_
  refine el_aload_n (pc' := 462) dL_law_461 rfl rfl ?_
  refine el_iload_n (pc' := 463) dL_law_462 rfl rfl ?_
  refine el_iconst (pc' := 464) (3 : Int32) dL_law_463 (by decide) rfl ?_
  refine el_iadd (pc' := 465) dL_law_464 rfl ?_
  refine el_sld (n := i + 3) (pc' := 466) (nI_add i 3) (by omega) (by omega) dL_law_465 rfl ?_
  refine el_aload_n (pc' := 467) dL_law_466 rfl rfl ?_
  refine el_iload_n (pc' := 468) dL_law_467 rfl rfl ?_
  refine el_iconst (pc' := 469) (4 : Int32) dL_law_468 (by decide) rfl ?_
  refine el_iadd (pc' := 470) dL_law_469 rfl ?_
  refine el_sld (n := i + 4) (pc' := 471) (nI_add i 4) (by omega) (by omega) dL_law_470 rfl ?_
  refine el_aload_n (pc' := 472) dL_law_471 rfl rfl ?_
  refine el_iload_n (pc' := 473) dL_law_472 rfl rfl ?_
  refine el_iconst (pc' := 474) (5 : Int32) dL_law_473 (by decide) rfl ?_
  refine el_iadd (pc' := 475) dL_law_474 rfl ?_
  refine el_sld (n := i + 5) (pc' := 476) (nI_add i 5) (by omega) (by omega) dL_law_475 rfl ?_
  refine el_callC (pc' := 479) (sa := [iv (xs (i + 5)), iv (xs (i + 4)), iv (xs (i + 3)), iv (xs (i + 2)), iv (xs (i + 1)), qv (some X)]) (st := []) (pu := [iv x]) (x := x) (C1 := C1) rfl (iv_L_39 X (xs (i + 1)) (xs (i + 2)) (xs (i + 3)) (xs (i + 4)) (xs (i + 5))) ((onT_e (S := sy C z y) tX).trans hP) (by decide) dL_law_476 rfl (by decide) ⟨by omega, by omega⟩ (fun a => by rw [← q3]; exact hap2 C1 R1 hR1 a) ?_
  refine el_aload_n (pc' := 480) dL_law_479 rfl rfl ?_
  refine el_aload_n (pc' := 481) dL_law_480 rfl rfl ?_
  refine el_iload_n (pc' := 482) dL_law_481 rfl rfl ?_
  refine el_iconst (pc' := 483) (1 : Int32) dL_law_482 (by decide) rfl ?_
  refine el_iadd (pc' := 484) dL_law_483 rfl ?_
  refine el_sld (n := i + 1) (pc' := 485) (nI_add i 1) (by omega) (by omega) dL_law_484 rfl ?_
  refine el_aload_n (pc' := 486) dL_law_485 rfl rfl ?_
  refine el_iload_n (pc' := 487) dL_law_486 rfl rfl ?_
  refine el_iconst (pc' := 488) (2 : Int32) dL_law_487 (by decide) rfl ?_
  refine el_iadd (pc' := 489) dL_law_488 rfl ?_
  refine el_sld (n := i + 2) (pc' := 490) (nI_add i 2) (by omega) (by omega) dL_law_489 rfl ?_
  refine el_aload_n (pc' := 491) dL_law_490 rfl rfl ?_
  refine el_iload_n (pc' := 492) dL_law_491 rfl rfl ?_
  refine el_iconst (pc' := 493) (3 : Int32) dL_law_492 (by decide) rfl ?_
  refine el_iadd (pc' := 494) dL_law_493 rfl ?_
  refine el_sld (n := i + 3) (pc' := 495) (nI_add i 3) (by omega) (by omega) dL_law_494 rfl ?_
  refine el_aload_n (pc' := 496) dL_law_495 rfl rfl ?_
  refine el_iload_n (pc' := 497) dL_law_496 rfl rfl ?_
  refine el_iconst (pc' := 498) (4 : Int32) dL_law_497 (by decide) rfl ?_
  refine el_iadd (pc' := 499) dL_law_498 rfl ?_
  refine el_sld (n := i + 4) (pc' := 500) (nI_add i 4) (by omega) (by omega) dL_law_499 rfl ?_
  refine el_aload_n (pc' := 501) dL_law_500 rfl rfl ?_
  refine el_iload_n (pc' := 502) dL_law_501 rfl rfl ?_
  refine el_iconst (pc' := 503) (5 : Int32) dL_law_502 (by decide) rfl ?_
  refine el_iadd (pc' := 504) dL_law_503 rfl ?_
  refine el_sld (n := i + 5) (pc' := 505) (nI_add i 5) (by omega) (by omega) dL_law_504 rfl ?_
  refine el_callR (pc' := 508) (sa := [iv (xs (i + 5)), iv (xs (i + 4)), iv (xs (i + 3)), iv (xs (i + 2)), iv (xs (i + 1)), qv (some M)]) (st := [iv x]) (pu := [iv x]) (x := x) (R1 := R1) rfl (iv_L_42 M (xs (i + 1)) (xs (i + 2)) (xs (i + 3)) (xs (i + 4)) (xs (i + 5))) ((onT_e (S := sy R (sX C1) (sS C1)) tM).trans hQ) (by decide) dL_law_505 rfl (Nat.le_of_ble_eq_true rfl) ⟨by omega, by omega⟩ (hap2 C1 R1 hR1) ?_
  refine el_icmp_eq (pc' := 1338) dL_law_508 (by decide) ?_
  rw [q1, q2]
  exact hk C1 R1 hR1 _ _ (by omega) (by omega)
set_option maxRecDepth 20000 in
theorem lc_6 {Rl : St → St → Prop} {X M b L n0 i : Nat} {xs : Nat → Int32} {C R : St} {z y : Nat} (hs : ∀ C R z y z' y', Rl C R → Rl (sy C z y) (sy R z' y')) (hap2 : ∀ C R, Rl C R → ∀ a, sT C a = 0 ∨ sT R a = 0) (hL : L ≤ 3072) (hi : i + 6 ≤ L) (hR : Rl C R) (tX : sT C X = 10) (tM : sT R M = 11) (hz : z ≤ n0 + 80 + 4 * 512 + 4) (hy : y ≤ 70000 + 400 * 512) (A_clear : ∀ (x0 : Int32), Alike Rl (pX10_clear X x0) (pX11_clear M x0)) (hk : ∀ C1 R1, Rl C1 R1 → ∀ z1 y1, z1 ≤ z + 4 → y1 ≤ y + 400 → EvL b L xs n0 1338 [(3, iv (nI i)), (0, qv (some b)), (1, qv (some X)), (2, qv (some M))] [] C1 R1 z1 y1) : EvL b L xs n0 513 [(3, iv (nI i)), (0, qv (some b)), (1, qv (some X)), (2, qv (some M))] [] C R z y := by
  refine el_dom (fun hz dC dR hap => ?_)
  obtain ⟨x, C1, R1, hP, hQ, hR1, q1, q2, q3, q4, q5⟩ := (A_clear (xs (i + 1))).two hs (C := C) (R := R) (z := z) (y := y) hR dC dR
  refine el_aload_n (pc' := 514) dL_law_513 rfl rfl ?_
  refine el_aload_n (pc' := 515) dL_law_514 rfl rfl ?_
  refine el_iload_n (pc' := 516) dL_law_515 rfl rfl ?_
  refine el_iconst (pc' := 517) (1 : Int32) dL_law_516 (by decide) rfl ?_
  refine el_iadd (pc' := 518) dL_law_517 rfl ?_
  refine el_sld (n := i + 1) (pc' := 519) (nI_add i 1) (by omega) (by omega) dL_law_518 rfl ?_
  refine el_callC (pc' := 522) (sa := [iv (xs (i + 1)), qv (some X)]) (st := []) (pu := [iv x]) (x := x) (C1 := C1) rfl (iv_L_43 X (xs (i + 1))) ((onT_e (S := sy C z y) tX).trans hP) (by decide) dL_law_519 rfl (by decide) ⟨by omega, by omega⟩ (fun a => by rw [← q3]; exact hap2 C1 R1 hR1 a) ?_
  refine el_aload_n (pc' := 523) dL_law_522 rfl rfl ?_
  refine el_aload_n (pc' := 524) dL_law_523 rfl rfl ?_
  refine el_iload_n (pc' := 525) dL_law_524 rfl rfl ?_
  refine el_iconst (pc' := 526) (1 : Int32) dL_law_525 (by decide) rfl ?_
  refine el_iadd (pc' := 527) dL_law_526 rfl ?_
  refine el_sld (n := i + 1) (pc' := 528) (nI_add i 1) (by omega) (by omega) dL_law_527 rfl ?_
  refine el_callR (pc' := 531) (sa := [iv (xs (i + 1)), qv (some M)]) (st := [iv x]) (pu := [iv x]) (x := x) (R1 := R1) rfl (iv_L_46 M (xs (i + 1))) ((onT_e (S := sy R (sX C1) (sS C1)) tM).trans hQ) (by decide) dL_law_528 rfl (Nat.le_of_ble_eq_true rfl) ⟨by omega, by omega⟩ (hap2 C1 R1 hR1) ?_
  refine el_icmp_eq (pc' := 1338) dL_law_531 (by decide) ?_
  rw [q1, q2]
  exact hk C1 R1 hR1 _ _ (by omega) (by omega)
set_option maxRecDepth 20000 in
theorem lc_7 {Rl : St → St → Prop} {X M b L n0 i : Nat} {xs : Nat → Int32} {C R : St} {z y : Nat} (hs : ∀ C R z y z' y', Rl C R → Rl (sy C z y) (sy R z' y')) (hap2 : ∀ C R, Rl C R → ∀ a, sT C a = 0 ∨ sT R a = 0) (hL : L ≤ 3072) (hi : i + 6 ≤ L) (hR : Rl C R) (tX : sT C X = 10) (tM : sT R M = 11) (hz : z ≤ n0 + 80 + 4 * 512 + 4) (hy : y ≤ 70000 + 400 * 512) (A_kind : ∀ (x0 : Int32), Alike Rl (pX10_kind X x0) (pX11_kind M x0)) (hk : ∀ C1 R1, Rl C1 R1 → ∀ z1 y1, z1 ≤ z + 4 → y1 ≤ y + 400 → EvL b L xs n0 1338 [(3, iv (nI i)), (0, qv (some b)), (1, qv (some X)), (2, qv (some M))] [] C1 R1 z1 y1) : EvL b L xs n0 536 [(3, iv (nI i)), (0, qv (some b)), (1, qv (some X)), (2, qv (some M))] [] C R z y := by
  refine el_dom (fun hz dC dR hap => ?_)
  obtain ⟨x, C1, R1, hP, hQ, hR1, q1, q2, q3, q4, q5⟩ := (A_kind (xs (i + 1))).two hs (C := C) (R := R) (z := z) (y := y) hR dC dR
  refine el_aload_n (pc' := 537) dL_law_536 rfl rfl ?_
  refine el_aload_n (pc' := 538) dL_law_537 rfl rfl ?_
  refine el_iload_n (pc' := 539) dL_law_538 rfl rfl ?_
  refine el_iconst (pc' := 540) (1 : Int32) dL_law_539 (by decide) rfl ?_
  refine el_iadd (pc' := 541) dL_law_540 rfl ?_
  refine el_sld (n := i + 1) (pc' := 542) (nI_add i 1) (by omega) (by omega) dL_law_541 rfl ?_
  refine el_callC (pc' := 545) (sa := [iv (xs (i + 1)), qv (some X)]) (st := []) (pu := [iv x]) (x := x) (C1 := C1) rfl (iv_L_47 X (xs (i + 1))) ((onT_e (S := sy C z y) tX).trans hP) (by decide) dL_law_542 rfl (by decide) ⟨by omega, by omega⟩ (fun a => by rw [← q3]; exact hap2 C1 R1 hR1 a) ?_
  refine el_aload_n (pc' := 546) dL_law_545 rfl rfl ?_
  refine el_aload_n (pc' := 547) dL_law_546 rfl rfl ?_
  refine el_iload_n (pc' := 548) dL_law_547 rfl rfl ?_
  refine el_iconst (pc' := 549) (1 : Int32) dL_law_548 (by decide) rfl ?_
  refine el_iadd (pc' := 550) dL_law_549 rfl ?_
  refine el_sld (n := i + 1) (pc' := 551) (nI_add i 1) (by omega) (by omega) dL_law_550 rfl ?_
  refine el_callR (pc' := 554) (sa := [iv (xs (i + 1)), qv (some M)]) (st := [iv x]) (pu := [iv x]) (x := x) (R1 := R1) rfl (iv_L_50 M (xs (i + 1))) ((onT_e (S := sy R (sX C1) (sS C1)) tM).trans hQ) (by decide) dL_law_551 rfl (Nat.le_of_ble_eq_true rfl) ⟨by omega, by omega⟩ (hap2 C1 R1 hR1) ?_
  refine el_icmp_eq (pc' := 1338) dL_law_554 (by decide) ?_
  rw [q1, q2]
  exact hk C1 R1 hR1 _ _ (by omega) (by omega)
set_option maxRecDepth 20000 in
theorem lc_8 {Rl : St → St → Prop} {X M b L n0 i : Nat} {xs : Nat → Int32} {C R : St} {z y : Nat} (hs : ∀ C R z y z' y', Rl C R → Rl (sy C z y) (sy R z' y')) (hap2 : ∀ C R, Rl C R → ∀ a, sT C a = 0 ∨ sT R a = 0) (hL : L ≤ 3072) (hi : i + 6 ≤ L) (hR : Rl C R) (tX : sT C X = 10) (tM : sT R M = 11) (hz : z ≤ n0 + 80 + 4 * 512 + 4) (hy : y ≤ 70000 + 400 * 512) (A_is : ∀ (x0 : Int32) (x1 : Int32), Alike Rl (pX10_is X x0 x1) (pX11_is M x0 x1)) (hk : ∀ C1 R1, Rl C1 R1 → ∀ z1 y1, z1 ≤ z + 4 → y1 ≤ y + 400 → EvL b L xs n0 1338 [(3, iv (nI i)), (0, qv (some b)), (1, qv (some X)), (2, qv (some M))] [] C1 R1 z1 y1) : EvL b L xs n0 559 [(3, iv (nI i)), (0, qv (some b)), (1, qv (some X)), (2, qv (some M))] [] C R z y := by
  refine el_dom (fun hz dC dR hap => ?_)
  obtain ⟨x, C1, R1, hP, hQ, hR1, q1, q2, q3, q4, q5⟩ := (A_is (xs (i + 1)) (xs (i + 2))).two hs (C := C) (R := R) (z := z) (y := y) hR dC dR
  refine el_aload_n (pc' := 560) dL_law_559 rfl rfl ?_
  refine el_aload_n (pc' := 561) dL_law_560 rfl rfl ?_
  refine el_iload_n (pc' := 562) dL_law_561 rfl rfl ?_
  refine el_iconst (pc' := 563) (1 : Int32) dL_law_562 (by decide) rfl ?_
  refine el_iadd (pc' := 564) dL_law_563 rfl ?_
  refine el_sld (n := i + 1) (pc' := 565) (nI_add i 1) (by omega) (by omega) dL_law_564 rfl ?_
  refine el_aload_n (pc' := 566) dL_law_565 rfl rfl ?_
  refine el_iload_n (pc' := 567) dL_law_566 rfl rfl ?_
  refine el_iconst (pc' := 568) (2 : Int32) dL_law_567 (by decide) rfl ?_
  refine el_iadd (pc' := 569) dL_law_568 rfl ?_
  refine el_sld (n := i + 2) (pc' := 570) (nI_add i 2) (by omega) (by omega) dL_law_569 rfl ?_
  refine el_callC (pc' := 573) (sa := [iv (xs (i + 2)), iv (xs (i + 1)), qv (some X)]) (st := []) (pu := [iv x]) (x := x) (C1 := C1) rfl (iv_L_51 X (xs (i + 1)) (xs (i + 2))) ((onT_e (S := sy C z y) tX).trans hP) (by decide) dL_law_570 rfl (by decide) ⟨by omega, by omega⟩ (fun a => by rw [← q3]; exact hap2 C1 R1 hR1 a) ?_
  refine el_aload_n (pc' := 574) dL_law_573 rfl rfl ?_
  refine el_aload_n (pc' := 575) dL_law_574 rfl rfl ?_
  refine el_iload_n (pc' := 576) dL_law_575 rfl rfl ?_
  refine el_iconst (pc' := 577) (1 : Int32) dL_law_576 (by decide) rfl ?_
  refine el_iadd (pc' := 578) dL_law_577 rfl ?_
  refine el_sld (n := i + 1) (pc' := 579) (nI_add i 1) (by omega) (by omega) dL_law_578 rfl ?_
  refine el_aload_n (pc' := 580) dL_law_579 rfl rfl ?_
  refine el_iload_n (pc' := 581) dL_law_580 rfl rfl ?_
  refine el_iconst (pc' := 582) (2 : Int32) dL_law_581 (by decide) rfl ?_
  refine el_iadd (pc' := 583) dL_law_582 rfl ?_
  refine el_sld (n := i + 2) (pc' := 584) (nI_add i 2) (by omega) (by omega) dL_law_583 rfl ?_
  refine el_callR (pc' := 587) (sa := [iv (xs (i + 2)), iv (xs (i + 1)), qv (some M)]) (st := [iv x]) (pu := [iv x]) (x := x) (R1 := R1) rfl (iv_L_55 M (xs (i + 1)) (xs (i + 2))) ((onT_e (S := sy R (sX C1) (sS C1)) tM).trans hQ) (by decide) dL_law_584 rfl (Nat.le_of_ble_eq_true rfl) ⟨by omega, by omega⟩ (hap2 C1 R1 hR1) ?_
  refine el_icmp_eq (pc' := 1338) dL_law_587 (by decide) ?_
  rw [q1, q2]
  exact hk C1 R1 hR1 _ _ (by omega) (by omega)
set_option maxRecDepth 20000 in
theorem lc_9 {Rl : St → St → Prop} {X M b L n0 i : Nat} {xs : Nat → Int32} {C R : St} {z y : Nat} (hs : ∀ C R z y z' y', Rl C R → Rl (sy C z y) (sy R z' y')) (hap2 : ∀ C R, Rl C R → ∀ a, sT C a = 0 ∨ sT R a = 0) (hL : L ≤ 3072) (hi : i + 6 ≤ L) (hR : Rl C R) (tX : sT C X = 10) (tM : sT R M = 11) (hz : z ≤ n0 + 80 + 4 * 512 + 4) (hy : y ≤ 70000 + 400 * 512) (A_ask : ∀ (x0 : Int32) (x1 : Int32), Alike Rl (pX10_ask X x0 x1) (pX11_ask M x0 x1)) (hk : ∀ C1 R1, Rl C1 R1 → ∀ z1 y1, z1 ≤ z + 4 → y1 ≤ y + 400 → EvL b L xs n0 1338 [(3, iv (nI i)), (0, qv (some b)), (1, qv (some X)), (2, qv (some M))] [] C1 R1 z1 y1) : EvL b L xs n0 592 [(3, iv (nI i)), (0, qv (some b)), (1, qv (some X)), (2, qv (some M))] [] C R z y := by
  refine el_dom (fun hz dC dR hap => ?_)
  obtain ⟨x, C1, R1, hP, hQ, hR1, q1, q2, q3, q4, q5⟩ := (A_ask (xs (i + 1)) (xs (i + 2))).two hs (C := C) (R := R) (z := z) (y := y) hR dC dR
  refine el_aload_n (pc' := 593) dL_law_592 rfl rfl ?_
  refine el_aload_n (pc' := 594) dL_law_593 rfl rfl ?_
  refine el_iload_n (pc' := 595) dL_law_594 rfl rfl ?_
  refine el_iconst (pc' := 596) (1 : Int32) dL_law_595 (by decide) rfl ?_
  refine el_iadd (pc' := 597) dL_law_596 rfl ?_
  refine el_sld (n := i + 1) (pc' := 598) (nI_add i 1) (by omega) (by omega) dL_law_597 rfl ?_
  refine el_aload_n (pc' := 599) dL_law_598 rfl rfl ?_
  refine el_iload_n (pc' := 600) dL_law_599 rfl rfl ?_
  refine el_iconst (pc' := 601) (2 : Int32) dL_law_600 (by decide) rfl ?_
  refine el_iadd (pc' := 602) dL_law_601 rfl ?_
  refine el_sld (n := i + 2) (pc' := 603) (nI_add i 2) (by omega) (by omega) dL_law_602 rfl ?_
  refine el_callC (pc' := 606) (sa := [iv (xs (i + 2)), iv (xs (i + 1)), qv (some X)]) (st := []) (pu := [iv x]) (x := x) (C1 := C1) rfl (iv_L_56 X (xs (i + 1)) (xs (i + 2))) ((onT_e (S := sy C z y) tX).trans hP) (by decide) dL_law_603 rfl (by decide) ⟨by omega, by omega⟩ (fun a => by rw [← q3]; exact hap2 C1 R1 hR1 a) ?_
  refine el_aload_n (pc' := 607) dL_law_606 rfl rfl ?_
  refine el_aload_n (pc' := 608) dL_law_607 rfl rfl ?_
  refine el_iload_n (pc' := 609) dL_law_608 rfl rfl ?_
  refine el_iconst (pc' := 610) (1 : Int32) dL_law_609 (by decide) rfl ?_
  refine el_iadd (pc' := 611) dL_law_610 rfl ?_
  refine el_sld (n := i + 1) (pc' := 612) (nI_add i 1) (by omega) (by omega) dL_law_611 rfl ?_
  refine el_aload_n (pc' := 613) dL_law_612 rfl rfl ?_
  refine el_iload_n (pc' := 614) dL_law_613 rfl rfl ?_
  refine el_iconst (pc' := 615) (2 : Int32) dL_law_614 (by decide) rfl ?_
  refine el_iadd (pc' := 616) dL_law_615 rfl ?_
  refine el_sld (n := i + 2) (pc' := 617) (nI_add i 2) (by omega) (by omega) dL_law_616 rfl ?_
  refine el_callR (pc' := 620) (sa := [iv (xs (i + 2)), iv (xs (i + 1)), qv (some M)]) (st := [iv x]) (pu := [iv x]) (x := x) (R1 := R1) rfl (iv_L_59 M (xs (i + 1)) (xs (i + 2))) ((onT_e (S := sy R (sX C1) (sS C1)) tM).trans hQ) (by decide) dL_law_617 rfl (Nat.le_of_ble_eq_true rfl) ⟨by omega, by omega⟩ (hap2 C1 R1 hR1) ?_
  refine el_icmp_eq (pc' := 1338) dL_law_620 (by decide) ?_
  rw [q1, q2]
  exact hk C1 R1 hR1 _ _ (by omega) (by omega)
set_option maxRecDepth 20000 in
theorem lc_10 {Rl : St → St → Prop} {X M b L n0 i : Nat} {xs : Nat → Int32} {C R : St} {z y : Nat} (hs : ∀ C R z y z' y', Rl C R → Rl (sy C z y) (sy R z' y')) (hap2 : ∀ C R, Rl C R → ∀ a, sT C a = 0 ∨ sT R a = 0) (hL : L ≤ 3072) (hi : i + 6 ≤ L) (hR : Rl C R) (tX : sT C X = 10) (tM : sT R M = 11) (hz : z ≤ n0 + 80 + 4 * 512 + 4) (hy : y ≤ 70000 + 400 * 512) (A_trace : ∀ (x0 : Int32), Alike Rl (pX10_trace X x0) (pX11_trace M x0)) (hk : ∀ C1 R1, Rl C1 R1 → ∀ z1 y1, z1 ≤ z + 4 → y1 ≤ y + 400 → EvL b L xs n0 1338 [(3, iv (nI i)), (0, qv (some b)), (1, qv (some X)), (2, qv (some M))] [] C1 R1 z1 y1) : EvL b L xs n0 625 [(3, iv (nI i)), (0, qv (some b)), (1, qv (some X)), (2, qv (some M))] [] C R z y := by
  refine el_dom (fun hz dC dR hap => ?_)
  obtain ⟨x, C1, R1, hP, hQ, hR1, q1, q2, q3, q4, q5⟩ := (A_trace (xs (i + 1))).two hs (C := C) (R := R) (z := z) (y := y) hR dC dR
  refine el_aload_n (pc' := 626) dL_law_625 rfl rfl ?_
  refine el_aload_n (pc' := 627) dL_law_626 rfl rfl ?_
  refine el_iload_n (pc' := 628) dL_law_627 rfl rfl ?_
  refine el_iconst (pc' := 629) (1 : Int32) dL_law_628 (by decide) rfl ?_
  refine el_iadd (pc' := 630) dL_law_629 rfl ?_
  refine el_sld (n := i + 1) (pc' := 631) (nI_add i 1) (by omega) (by omega) dL_law_630 rfl ?_
  refine el_callC (pc' := 634) (sa := [iv (xs (i + 1)), qv (some X)]) (st := []) (pu := [iv x]) (x := x) (C1 := C1) rfl (iv_L_60 X (xs (i + 1))) ((onT_e (S := sy C z y) tX).trans hP) (by decide) dL_law_631 rfl (by decide) ⟨by omega, by omega⟩ (fun a => by rw [← q3]; exact hap2 C1 R1 hR1 a) ?_
  refine el_aload_n (pc' := 635) dL_law_634 rfl rfl ?_
  refine el_aload_n (pc' := 636) dL_law_635 rfl rfl ?_
  refine el_iload_n (pc' := 637) dL_law_636 rfl rfl ?_
  refine el_iconst (pc' := 638) (1 : Int32) dL_law_637 (by decide) rfl ?_
  refine el_iadd (pc' := 639) dL_law_638 rfl ?_
  refine el_sld (n := i + 1) (pc' := 640) (nI_add i 1) (by omega) (by omega) dL_law_639 rfl ?_
  refine el_callR (pc' := 643) (sa := [iv (xs (i + 1)), qv (some M)]) (st := [iv x]) (pu := [iv x]) (x := x) (R1 := R1) rfl (iv_L_63 M (xs (i + 1))) ((onT_e (S := sy R (sX C1) (sS C1)) tM).trans hQ) (by decide) dL_law_640 rfl (Nat.le_of_ble_eq_true rfl) ⟨by omega, by omega⟩ (hap2 C1 R1 hR1) ?_
  refine el_icmp_eq (pc' := 1338) dL_law_643 (by decide) ?_
  rw [q1, q2]
  exact hk C1 R1 hR1 _ _ (by omega) (by omega)
set_option maxRecDepth 20000 in
theorem lc_11 {Rl : St → St → Prop} {X M b L n0 i : Nat} {xs : Nat → Int32} {C R : St} {z y : Nat} (hs : ∀ C R z y z' y', Rl C R → Rl (sy C z y) (sy R z' y')) (hap2 : ∀ C R, Rl C R → ∀ a, sT C a = 0 ∨ sT R a = 0) (hL : L ≤ 3072) (hi : i + 6 ≤ L) (hR : Rl C R) (tX : sT C X = 10) (tM : sT R M = 11) (hz : z ≤ n0 + 80 + 4 * 512 + 4) (hy : y ≤ 70000 + 400 * 512) (A_gate : ∀ (x0 : Int32) (x1 : Int32), Alike Rl (pX10_gate X x0 x1) (pX11_gate M x0 x1)) (hk : ∀ C1 R1, Rl C1 R1 → ∀ z1 y1, z1 ≤ z + 4 → y1 ≤ y + 400 → EvL b L xs n0 1338 [(3, iv (nI i)), (0, qv (some b)), (1, qv (some X)), (2, qv (some M))] [] C1 R1 z1 y1) : EvL b L xs n0 648 [(3, iv (nI i)), (0, qv (some b)), (1, qv (some X)), (2, qv (some M))] [] C R z y := by
  refine el_dom (fun hz dC dR hap => ?_)
  obtain ⟨x, C1, R1, hP, hQ, hR1, q1, q2, q3, q4, q5⟩ := (A_gate (xs (i + 1)) (xs (i + 2))).two hs (C := C) (R := R) (z := z) (y := y) hR dC dR
  refine el_aload_n (pc' := 649) dL_law_648 rfl rfl ?_
  refine el_aload_n (pc' := 650) dL_law_649 rfl rfl ?_
  refine el_iload_n (pc' := 651) dL_law_650 rfl rfl ?_
  refine el_iconst (pc' := 652) (1 : Int32) dL_law_651 (by decide) rfl ?_
  refine el_iadd (pc' := 653) dL_law_652 rfl ?_
  refine el_sld (n := i + 1) (pc' := 654) (nI_add i 1) (by omega) (by omega) dL_law_653 rfl ?_
  refine el_aload_n (pc' := 655) dL_law_654 rfl rfl ?_
  refine el_iload_n (pc' := 656) dL_law_655 rfl rfl ?_
  refine el_iconst (pc' := 657) (2 : Int32) dL_law_656 (by decide) rfl ?_
  refine el_iadd (pc' := 658) dL_law_657 rfl ?_
  refine el_sld (n := i + 2) (pc' := 659) (nI_add i 2) (by omega) (by omega) dL_law_658 rfl ?_
  refine el_callC (pc' := 662) (sa := [iv (xs (i + 2)), iv (xs (i + 1)), qv (some X)]) (st := []) (pu := [iv x]) (x := x) (C1 := C1) rfl (iv_L_64 X (xs (i + 1)) (xs (i + 2))) ((onT_e (S := sy C z y) tX).trans hP) (by decide) dL_law_659 rfl (by decide) ⟨by omega, by omega⟩ (fun a => by rw [← q3]; exact hap2 C1 R1 hR1 a) ?_
  refine el_aload_n (pc' := 663) dL_law_662 rfl rfl ?_
  refine el_aload_n (pc' := 664) dL_law_663 rfl rfl ?_
  refine el_iload_n (pc' := 665) dL_law_664 rfl rfl ?_
  refine el_iconst (pc' := 666) (1 : Int32) dL_law_665 (by decide) rfl ?_
  refine el_iadd (pc' := 667) dL_law_666 rfl ?_
  refine el_sld (n := i + 1) (pc' := 668) (nI_add i 1) (by omega) (by omega) dL_law_667 rfl ?_
  refine el_aload_n (pc' := 669) dL_law_668 rfl rfl ?_
  refine el_iload_n (pc' := 670) dL_law_669 rfl rfl ?_
  refine el_iconst (pc' := 671) (2 : Int32) dL_law_670 (by decide) rfl ?_
  refine el_iadd (pc' := 672) dL_law_671 rfl ?_
  refine el_sld (n := i + 2) (pc' := 673) (nI_add i 2) (by omega) (by omega) dL_law_672 rfl ?_
  refine el_callR (pc' := 676) (sa := [iv (xs (i + 2)), iv (xs (i + 1)), qv (some M)]) (st := [iv x]) (pu := [iv x]) (x := x) (R1 := R1) rfl (iv_L_67 M (xs (i + 1)) (xs (i + 2))) ((onT_e (S := sy R (sX C1) (sS C1)) tM).trans hQ) (by decide) dL_law_673 rfl (Nat.le_of_ble_eq_true rfl) ⟨by omega, by omega⟩ (hap2 C1 R1 hR1) ?_
  refine el_icmp_eq (pc' := 1338) dL_law_676 (by decide) ?_
  rw [q1, q2]
  exact hk C1 R1 hR1 _ _ (by omega) (by omega)
set_option maxRecDepth 20000 in
theorem lc_12 {Rl : St → St → Prop} {X M b L n0 i : Nat} {xs : Nat → Int32} {C R : St} {z y : Nat} (hs : ∀ C R z y z' y', Rl C R → Rl (sy C z y) (sy R z' y')) (hap2 : ∀ C R, Rl C R → ∀ a, sT C a = 0 ∨ sT R a = 0) (hL : L ≤ 3072) (hi : i + 6 ≤ L) (hR : Rl C R) (tX : sT C X = 10) (tM : sT R M = 11) (hz : z ≤ n0 + 80 + 4 * 512 + 4) (hy : y ≤ 70000 + 400 * 512) (A_vent : ∀ (x0 : Int32) (x1 : Int32), Alike Rl (pX10_vent X x0 x1) (pX11_vent M x0 x1)) (hk : ∀ C1 R1, Rl C1 R1 → ∀ z1 y1, z1 ≤ z + 4 → y1 ≤ y + 400 → EvL b L xs n0 1338 [(3, iv (nI i)), (0, qv (some b)), (1, qv (some X)), (2, qv (some M))] [] C1 R1 z1 y1) : EvL b L xs n0 681 [(3, iv (nI i)), (0, qv (some b)), (1, qv (some X)), (2, qv (some M))] [] C R z y := by
  refine el_dom (fun hz dC dR hap => ?_)
  obtain ⟨x, C1, R1, hP, hQ, hR1, q1, q2, q3, q4, q5⟩ := (A_vent (xs (i + 1)) (xs (i + 2))).two hs (C := C) (R := R) (z := z) (y := y) hR dC dR
  refine el_aload_n (pc' := 682) dL_law_681 rfl rfl ?_
  refine el_aload_n (pc' := 683) dL_law_682 rfl rfl ?_
  refine el_iload_n (pc' := 684) dL_law_683 rfl rfl ?_
  refine el_iconst (pc' := 685) (1 : Int32) dL_law_684 (by decide) rfl ?_
  refine el_iadd (pc' := 686) dL_law_685 rfl ?_
  refine el_sld (n := i + 1) (pc' := 687) (nI_add i 1) (by omega) (by omega) dL_law_686 rfl ?_
  refine el_aload_n (pc' := 688) dL_law_687 rfl rfl ?_
  refine el_iload_n (pc' := 689) dL_law_688 rfl rfl ?_
  refine el_iconst (pc' := 690) (2 : Int32) dL_law_689 (by decide) rfl ?_
  refine el_iadd (pc' := 691) dL_law_690 rfl ?_
  refine el_sld (n := i + 2) (pc' := 692) (nI_add i 2) (by omega) (by omega) dL_law_691 rfl ?_
  refine el_callC (pc' := 695) (sa := [iv (xs (i + 2)), iv (xs (i + 1)), qv (some X)]) (st := []) (pu := [iv x]) (x := x) (C1 := C1) rfl (iv_L_68 X (xs (i + 1)) (xs (i + 2))) ((onT_e (S := sy C z y) tX).trans hP) (by decide) dL_law_692 rfl (by decide) ⟨by omega, by omega⟩ (fun a => by rw [← q3]; exact hap2 C1 R1 hR1 a) ?_
  refine el_aload_n (pc' := 696) dL_law_695 rfl rfl ?_
  refine el_aload_n (pc' := 697) dL_law_696 rfl rfl ?_
  refine el_iload_n (pc' := 698) dL_law_697 rfl rfl ?_
  refine el_iconst (pc' := 699) (1 : Int32) dL_law_698 (by decide) rfl ?_
  refine el_iadd (pc' := 700) dL_law_699 rfl ?_
  refine el_sld (n := i + 1) (pc' := 701) (nI_add i 1) (by omega) (by omega) dL_law_700 rfl ?_
  refine el_aload_n (pc' := 702) dL_law_701 rfl rfl ?_
  refine el_iload_n (pc' := 703) dL_law_702 rfl rfl ?_
  refine el_iconst (pc' := 704) (2 : Int32) dL_law_703 (by decide) rfl ?_
  refine el_iadd (pc' := 705) dL_law_704 rfl ?_
  refine el_sld (n := i + 2) (pc' := 706) (nI_add i 2) (by omega) (by omega) dL_law_705 rfl ?_
  refine el_callR (pc' := 709) (sa := [iv (xs (i + 2)), iv (xs (i + 1)), qv (some M)]) (st := [iv x]) (pu := [iv x]) (x := x) (R1 := R1) rfl (iv_L_71 M (xs (i + 1)) (xs (i + 2))) ((onT_e (S := sy R (sX C1) (sS C1)) tM).trans hQ) (by decide) dL_law_706 rfl (Nat.le_of_ble_eq_true rfl) ⟨by omega, by omega⟩ (hap2 C1 R1 hR1) ?_
  refine el_icmp_eq (pc' := 1338) dL_law_709 (by decide) ?_
  rw [q1, q2]
  exact hk C1 R1 hR1 _ _ (by omega) (by omega)
set_option maxRecDepth 20000 in
theorem lc_13 {Rl : St → St → Prop} {X M b L n0 i : Nat} {xs : Nat → Int32} {C R : St} {z y : Nat} (hs : ∀ C R z y z' y', Rl C R → Rl (sy C z y) (sy R z' y')) (hap2 : ∀ C R, Rl C R → ∀ a, sT C a = 0 ∨ sT R a = 0) (hL : L ≤ 3072) (hi : i + 6 ≤ L) (hR : Rl C R) (tX : sT C X = 10) (tM : sT R M = 11) (hz : z ≤ n0 + 80 + 4 * 512 + 4) (hy : y ≤ 70000 + 400 * 512) (A_cell : ∀ (x0 : Int32) (x1 : Int32) (x2 : Int32), Alike Rl (pX10_cell X x0 x1 x2) (pX11_cell M x0 x1 x2)) (hk : ∀ C1 R1, Rl C1 R1 → ∀ z1 y1, z1 ≤ z + 4 → y1 ≤ y + 400 → EvL b L xs n0 1338 [(3, iv (nI i)), (0, qv (some b)), (1, qv (some X)), (2, qv (some M))] [] C1 R1 z1 y1) : EvL b L xs n0 714 [(3, iv (nI i)), (0, qv (some b)), (1, qv (some X)), (2, qv (some M))] [] C R z y := by
  refine el_dom (fun hz dC dR hap => ?_)
  obtain ⟨x, C1, R1, hP, hQ, hR1, q1, q2, q3, q4, q5⟩ := (A_cell (xs (i + 1)) (xs (i + 2)) (xs (i + 3))).two hs (C := C) (R := R) (z := z) (y := y) hR dC dR
  refine el_aload_n (pc' := 715) dL_law_714 rfl rfl ?_
  refine el_aload_n (pc' := 716) dL_law_715 rfl rfl ?_
  refine el_iload_n (pc' := 717) dL_law_716 rfl rfl ?_
  refine el_iconst (pc' := 718) (1 : Int32) dL_law_717 (by decide) rfl ?_
  refine el_iadd (pc' := 719) dL_law_718 rfl ?_
  refine el_sld (n := i + 1) (pc' := 720) (nI_add i 1) (by omega) (by omega) dL_law_719 rfl ?_
  refine el_aload_n (pc' := 721) dL_law_720 rfl rfl ?_
  refine el_iload_n (pc' := 722) dL_law_721 rfl rfl ?_
  refine el_iconst (pc' := 723) (2 : Int32) dL_law_722 (by decide) rfl ?_
  refine el_iadd (pc' := 724) dL_law_723 rfl ?_
  refine el_sld (n := i + 2) (pc' := 725) (nI_add i 2) (by omega) (by omega) dL_law_724 rfl ?_
  refine el_aload_n (pc' := 726) dL_law_725 rfl rfl ?_
  refine el_iload_n (pc' := 727) dL_law_726 rfl rfl ?_
  refine el_iconst (pc' := 728) (3 : Int32) dL_law_727 (by decide) rfl ?_
  refine el_iadd (pc' := 729) dL_law_728 rfl ?_
  refine el_sld (n := i + 3) (pc' := 730) (nI_add i 3) (by omega) (by omega) dL_law_729 rfl ?_
  refine el_callC (pc' := 733) (sa := [iv (xs (i + 3)), iv (xs (i + 2)), iv (xs (i + 1)), qv (some X)]) (st := []) (pu := [iv x]) (x := x) (C1 := C1) rfl (iv_L_72 X (xs (i + 1)) (xs (i + 2)) (xs (i + 3))) ((onT_e (S := sy C z y) tX).trans hP) (by decide) dL_law_730 rfl (by decide) ⟨by omega, by omega⟩ (fun a => by rw [← q3]; exact hap2 C1 R1 hR1 a) ?_
  refine el_aload_n (pc' := 734) dL_law_733 rfl rfl ?_
  refine el_aload_n (pc' := 735) dL_law_734 rfl rfl ?_
  refine el_iload_n (pc' := 736) dL_law_735 rfl rfl ?_
  refine el_iconst (pc' := 737) (1 : Int32) dL_law_736 (by decide) rfl ?_
  refine el_iadd (pc' := 738) dL_law_737 rfl ?_
  refine el_sld (n := i + 1) (pc' := 739) (nI_add i 1) (by omega) (by omega) dL_law_738 rfl ?_
  refine el_aload_n (pc' := 740) dL_law_739 rfl rfl ?_
  refine el_iload_n (pc' := 741) dL_law_740 rfl rfl ?_
  refine el_iconst (pc' := 742) (2 : Int32) dL_law_741 (by decide) rfl ?_
  refine el_iadd (pc' := 743) dL_law_742 rfl ?_
  refine el_sld (n := i + 2) (pc' := 744) (nI_add i 2) (by omega) (by omega) dL_law_743 rfl ?_
  refine el_aload_n (pc' := 745) dL_law_744 rfl rfl ?_
  refine el_iload_n (pc' := 746) dL_law_745 rfl rfl ?_
  refine el_iconst (pc' := 747) (3 : Int32) dL_law_746 (by decide) rfl ?_
  refine el_iadd (pc' := 748) dL_law_747 rfl ?_
  refine el_sld (n := i + 3) (pc' := 749) (nI_add i 3) (by omega) (by omega) dL_law_748 rfl ?_
  refine el_callR (pc' := 752) (sa := [iv (xs (i + 3)), iv (xs (i + 2)), iv (xs (i + 1)), qv (some M)]) (st := [iv x]) (pu := [iv x]) (x := x) (R1 := R1) rfl (iv_L_75 M (xs (i + 1)) (xs (i + 2)) (xs (i + 3))) ((onT_e (S := sy R (sX C1) (sS C1)) tM).trans hQ) (by decide) dL_law_749 rfl (Nat.le_of_ble_eq_true rfl) ⟨by omega, by omega⟩ (hap2 C1 R1 hR1) ?_
  refine el_icmp_eq (pc' := 1338) dL_law_752 (by decide) ?_
  rw [q1, q2]
  exact hk C1 R1 hR1 _ _ (by omega) (by omega)
set_option maxRecDepth 20000 in
theorem lc_14 {Rl : St → St → Prop} {X M b L n0 i : Nat} {xs : Nat → Int32} {C R : St} {z y : Nat} (hs : ∀ C R z y z' y', Rl C R → Rl (sy C z y) (sy R z' y')) (hap2 : ∀ C R, Rl C R → ∀ a, sT C a = 0 ∨ sT R a = 0) (hL : L ≤ 3072) (hi : i + 6 ≤ L) (hR : Rl C R) (tX : sT C X = 10) (tM : sT R M = 11) (hz : z ≤ n0 + 80 + 4 * 512 + 4) (hy : y ≤ 70000 + 400 * 512) (A_meeting : ∀ (x0 : Int32) (x1 : Int32) (x2 : Int32), Alike Rl (pX10_meeting X x0 x1 x2) (pX11_meeting M x0 x1 x2)) (hk : ∀ C1 R1, Rl C1 R1 → ∀ z1 y1, z1 ≤ z + 4 → y1 ≤ y + 400 → EvL b L xs n0 1338 [(3, iv (nI i)), (0, qv (some b)), (1, qv (some X)), (2, qv (some M))] [] C1 R1 z1 y1) : EvL b L xs n0 757 [(3, iv (nI i)), (0, qv (some b)), (1, qv (some X)), (2, qv (some M))] [] C R z y := by
  refine el_dom (fun hz dC dR hap => ?_)
  obtain ⟨x, C1, R1, hP, hQ, hR1, q1, q2, q3, q4, q5⟩ := (A_meeting (xs (i + 1)) (xs (i + 2)) (xs (i + 3))).two hs (C := C) (R := R) (z := z) (y := y) hR dC dR
  refine el_aload_n (pc' := 758) dL_law_757 rfl rfl ?_
  refine el_aload_n (pc' := 759) dL_law_758 rfl rfl ?_
  refine el_iload_n (pc' := 760) dL_law_759 rfl rfl ?_
  refine el_iconst (pc' := 761) (1 : Int32) dL_law_760 (by decide) rfl ?_
  refine el_iadd (pc' := 762) dL_law_761 rfl ?_
  refine el_sld (n := i + 1) (pc' := 763) (nI_add i 1) (by omega) (by omega) dL_law_762 rfl ?_
  refine el_aload_n (pc' := 764) dL_law_763 rfl rfl ?_
  refine el_iload_n (pc' := 765) dL_law_764 rfl rfl ?_
  refine el_iconst (pc' := 766) (2 : Int32) dL_law_765 (by decide) rfl ?_
  refine el_iadd (pc' := 767) dL_law_766 rfl ?_
  refine el_sld (n := i + 2) (pc' := 768) (nI_add i 2) (by omega) (by omega) dL_law_767 rfl ?_
  refine el_aload_n (pc' := 769) dL_law_768 rfl rfl ?_
  refine el_iload_n (pc' := 770) dL_law_769 rfl rfl ?_
  refine el_iconst (pc' := 771) (3 : Int32) dL_law_770 (by decide) rfl ?_
  refine el_iadd (pc' := 772) dL_law_771 rfl ?_
  refine el_sld (n := i + 3) (pc' := 773) (nI_add i 3) (by omega) (by omega) dL_law_772 rfl ?_
  refine el_callC (pc' := 776) (sa := [iv (xs (i + 3)), iv (xs (i + 2)), iv (xs (i + 1)), qv (some X)]) (st := []) (pu := [iv x]) (x := x) (C1 := C1) rfl (iv_L_76 X (xs (i + 1)) (xs (i + 2)) (xs (i + 3))) ((onT_e (S := sy C z y) tX).trans hP) (by decide) dL_law_773 rfl (by decide) ⟨by omega, by omega⟩ (fun a => by rw [← q3]; exact hap2 C1 R1 hR1 a) ?_
  refine el_aload_n (pc' := 777) dL_law_776 rfl rfl ?_
  refine el_aload_n (pc' := 778) dL_law_777 rfl rfl ?_
  refine el_iload_n (pc' := 779) dL_law_778 rfl rfl ?_
  refine el_iconst (pc' := 780) (1 : Int32) dL_law_779 (by decide) rfl ?_
  refine el_iadd (pc' := 781) dL_law_780 rfl ?_
  refine el_sld (n := i + 1) (pc' := 782) (nI_add i 1) (by omega) (by omega) dL_law_781 rfl ?_
  refine el_aload_n (pc' := 783) dL_law_782 rfl rfl ?_
  refine el_iload_n (pc' := 784) dL_law_783 rfl rfl ?_
  refine el_iconst (pc' := 785) (2 : Int32) dL_law_784 (by decide) rfl ?_
  refine el_iadd (pc' := 786) dL_law_785 rfl ?_
  refine el_sld (n := i + 2) (pc' := 787) (nI_add i 2) (by omega) (by omega) dL_law_786 rfl ?_
  refine el_aload_n (pc' := 788) dL_law_787 rfl rfl ?_
  refine el_iload_n (pc' := 789) dL_law_788 rfl rfl ?_
  refine el_iconst (pc' := 790) (3 : Int32) dL_law_789 (by decide) rfl ?_
  refine el_iadd (pc' := 791) dL_law_790 rfl ?_
  refine el_sld (n := i + 3) (pc' := 792) (nI_add i 3) (by omega) (by omega) dL_law_791 rfl ?_
  refine el_callR (pc' := 795) (sa := [iv (xs (i + 3)), iv (xs (i + 2)), iv (xs (i + 1)), qv (some M)]) (st := [iv x]) (pu := [iv x]) (x := x) (R1 := R1) rfl (iv_L_79 M (xs (i + 1)) (xs (i + 2)) (xs (i + 3))) ((onT_e (S := sy R (sX C1) (sS C1)) tM).trans hQ) (by decide) dL_law_792 rfl (Nat.le_of_ble_eq_true rfl) ⟨by omega, by omega⟩ (hap2 C1 R1 hR1) ?_
  refine el_icmp_eq (pc' := 1338) dL_law_795 (by decide) ?_
  rw [q1, q2]
  exact hk C1 R1 hR1 _ _ (by omega) (by omega)
set_option maxRecDepth 20000 in
theorem lc_15 {Rl : St → St → Prop} {X M b L n0 i : Nat} {xs : Nat → Int32} {C R : St} {z y : Nat} (hs : ∀ C R z y z' y', Rl C R → Rl (sy C z y) (sy R z' y')) (hap2 : ∀ C R, Rl C R → ∀ a, sT C a = 0 ∨ sT R a = 0) (hL : L ≤ 3072) (hi : i + 6 ≤ L) (hR : Rl C R) (tX : sT C X = 10) (tM : sT R M = 11) (hz : z ≤ n0 + 80 + 4 * 512 + 4) (hy : y ≤ 70000 + 400 * 512) (A_trap : ∀ (x0 : Int32) (x1 : Int32), Alike Rl (pX10_trap X x0 x1) (pX11_trap M x0 x1)) (hk : ∀ C1 R1, Rl C1 R1 → ∀ z1 y1, z1 ≤ z + 4 → y1 ≤ y + 400 → EvL b L xs n0 1338 [(3, iv (nI i)), (0, qv (some b)), (1, qv (some X)), (2, qv (some M))] [] C1 R1 z1 y1) : EvL b L xs n0 800 [(3, iv (nI i)), (0, qv (some b)), (1, qv (some X)), (2, qv (some M))] [] C R z y := by
  refine el_dom (fun hz dC dR hap => ?_)
  obtain ⟨x, C1, R1, hP, hQ, hR1, q1, q2, q3, q4, q5⟩ := (A_trap (xs (i + 1)) (xs (i + 2))).two hs (C := C) (R := R) (z := z) (y := y) hR dC dR
  refine el_aload_n (pc' := 801) dL_law_800 rfl rfl ?_
  refine el_aload_n (pc' := 802) dL_law_801 rfl rfl ?_
  refine el_iload_n (pc' := 803) dL_law_802 rfl rfl ?_
  refine el_iconst (pc' := 804) (1 : Int32) dL_law_803 (by decide) rfl ?_
  refine el_iadd (pc' := 805) dL_law_804 rfl ?_
  refine el_sld (n := i + 1) (pc' := 806) (nI_add i 1) (by omega) (by omega) dL_law_805 rfl ?_
  refine el_aload_n (pc' := 807) dL_law_806 rfl rfl ?_
  refine el_iload_n (pc' := 808) dL_law_807 rfl rfl ?_
  refine el_iconst (pc' := 809) (2 : Int32) dL_law_808 (by decide) rfl ?_
  refine el_iadd (pc' := 810) dL_law_809 rfl ?_
  refine el_sld (n := i + 2) (pc' := 811) (nI_add i 2) (by omega) (by omega) dL_law_810 rfl ?_
  refine el_callC (pc' := 814) (sa := [iv (xs (i + 2)), iv (xs (i + 1)), qv (some X)]) (st := []) (pu := [iv x]) (x := x) (C1 := C1) rfl (iv_L_80 X (xs (i + 1)) (xs (i + 2))) ((onT_e (S := sy C z y) tX).trans hP) (by decide) dL_law_811 rfl (by decide) ⟨by omega, by omega⟩ (fun a => by rw [← q3]; exact hap2 C1 R1 hR1 a) ?_
  refine el_aload_n (pc' := 815) dL_law_814 rfl rfl ?_
  refine el_aload_n (pc' := 816) dL_law_815 rfl rfl ?_
  refine el_iload_n (pc' := 817) dL_law_816 rfl rfl ?_
  refine el_iconst (pc' := 818) (1 : Int32) dL_law_817 (by decide) rfl ?_
  refine el_iadd (pc' := 819) dL_law_818 rfl ?_
  refine el_sld (n := i + 1) (pc' := 820) (nI_add i 1) (by omega) (by omega) dL_law_819 rfl ?_
  refine el_aload_n (pc' := 821) dL_law_820 rfl rfl ?_
  refine el_iload_n (pc' := 822) dL_law_821 rfl rfl ?_
  refine el_iconst (pc' := 823) (2 : Int32) dL_law_822 (by decide) rfl ?_
  refine el_iadd (pc' := 824) dL_law_823 rfl ?_
  refine el_sld (n := i + 2) (pc' := 825) (nI_add i 2) (by omega) (by omega) dL_law_824 rfl ?_
  refine el_callR (pc' := 828) (sa := [iv (xs (i + 2)), iv (xs (i + 1)), qv (some M)]) (st := [iv x]) (pu := [iv x]) (x := x) (R1 := R1) rfl (iv_L_83 M (xs (i + 1)) (xs (i + 2))) ((onT_e (S := sy R (sX C1) (sS C1)) tM).trans hQ) (by decide) dL_law_825 rfl (Nat.le_of_ble_eq_true rfl) ⟨by omega, by omega⟩ (hap2 C1 R1 hR1) ?_
  refine el_icmp_eq (pc' := 1338) dL_law_828 (by decide) ?_
  rw [q1, q2]
  exact hk C1 R1 hR1 _ _ (by omega) (by omega)
set_option maxRecDepth 20000 in
theorem lc_16 {Rl : St → St → Prop} {X M b L n0 i : Nat} {xs : Nat → Int32} {C R : St} {z y : Nat} (hs : ∀ C R z y z' y', Rl C R → Rl (sy C z y) (sy R z' y')) (hap2 : ∀ C R, Rl C R → ∀ a, sT C a = 0 ∨ sT R a = 0) (hL : L ≤ 3072) (hi : i + 6 ≤ L) (hR : Rl C R) (tX : sT C X = 10) (tM : sT R M = 11) (hz : z ≤ n0 + 80 + 4 * 512 + 4) (hy : y ≤ 70000 + 400 * 512) (A_force : ∀ (x0 : Int32) (x1 : Int32), Alike Rl (pX10_force X x0 x1) (pX11_force M x0 x1)) (hk : ∀ C1 R1, Rl C1 R1 → ∀ z1 y1, z1 ≤ z + 4 → y1 ≤ y + 400 → EvL b L xs n0 1338 [(3, iv (nI i)), (0, qv (some b)), (1, qv (some X)), (2, qv (some M))] [] C1 R1 z1 y1) : EvL b L xs n0 833 [(3, iv (nI i)), (0, qv (some b)), (1, qv (some X)), (2, qv (some M))] [] C R z y := by
  refine el_dom (fun hz dC dR hap => ?_)
  obtain ⟨x, C1, R1, hP, hQ, hR1, q1, q2, q3, q4, q5⟩ := (A_force (xs (i + 1)) (xs (i + 2))).two hs (C := C) (R := R) (z := z) (y := y) hR dC dR
  refine el_aload_n (pc' := 834) dL_law_833 rfl rfl ?_
  refine el_aload_n (pc' := 835) dL_law_834 rfl rfl ?_
  refine el_iload_n (pc' := 836) dL_law_835 rfl rfl ?_
  refine el_iconst (pc' := 837) (1 : Int32) dL_law_836 (by decide) rfl ?_
  refine el_iadd (pc' := 838) dL_law_837 rfl ?_
  refine el_sld (n := i + 1) (pc' := 839) (nI_add i 1) (by omega) (by omega) dL_law_838 rfl ?_
  refine el_aload_n (pc' := 840) dL_law_839 rfl rfl ?_
  refine el_iload_n (pc' := 841) dL_law_840 rfl rfl ?_
  refine el_iconst (pc' := 842) (2 : Int32) dL_law_841 (by decide) rfl ?_
  refine el_iadd (pc' := 843) dL_law_842 rfl ?_
  refine el_sld (n := i + 2) (pc' := 844) (nI_add i 2) (by omega) (by omega) dL_law_843 rfl ?_
  refine el_callC (pc' := 847) (sa := [iv (xs (i + 2)), iv (xs (i + 1)), qv (some X)]) (st := []) (pu := [jv x]) (x := x) (C1 := C1) rfl (iv_L_84 X (xs (i + 1)) (xs (i + 2))) ((onT_e (S := sy C z y) tX).trans hP) (by decide) dL_law_844 rfl (by decide) ⟨by omega, by omega⟩ (fun a => by rw [← q3]; exact hap2 C1 R1 hR1 a) ?_
  refine el_aload_n (pc' := 848) dL_law_847 rfl rfl ?_
  refine el_aload_n (pc' := 849) dL_law_848 rfl rfl ?_
  refine el_iload_n (pc' := 850) dL_law_849 rfl rfl ?_
  refine el_iconst (pc' := 851) (1 : Int32) dL_law_850 (by decide) rfl ?_
  refine el_iadd (pc' := 852) dL_law_851 rfl ?_
  refine el_sld (n := i + 1) (pc' := 853) (nI_add i 1) (by omega) (by omega) dL_law_852 rfl ?_
  refine el_aload_n (pc' := 854) dL_law_853 rfl rfl ?_
  refine el_iload_n (pc' := 855) dL_law_854 rfl rfl ?_
  refine el_iconst (pc' := 856) (2 : Int32) dL_law_855 (by decide) rfl ?_
  refine el_iadd (pc' := 857) dL_law_856 rfl ?_
  refine el_sld (n := i + 2) (pc' := 858) (nI_add i 2) (by omega) (by omega) dL_law_857 rfl ?_
  refine el_callR (pc' := 861) (sa := [iv (xs (i + 2)), iv (xs (i + 1)), qv (some M)]) (st := [jv x]) (pu := [jv x]) (x := x) (R1 := R1) rfl (iv_L_88 M (xs (i + 1)) (xs (i + 2))) ((onT_e (S := sy R (sX C1) (sS C1)) tM).trans hQ) (by decide) dL_law_858 rfl (Nat.le_of_ble_eq_true rfl) ⟨by omega, by omega⟩ (hap2 C1 R1 hR1) ?_
  refine el_lcmp (pc' := 862) dL_law_861 rfl ?_
  rw [cmp_self]
  refine el_if_eq0 (pc' := 1338) dL_law_862 (by decide) ?_
  rw [q1, q2]
  exact hk C1 R1 hR1 _ _ (by omega) (by omega)
set_option maxRecDepth 20000 in
theorem lc_17 {Rl : St → St → Prop} {X M b L n0 i : Nat} {xs : Nat → Int32} {C R : St} {z y : Nat} (hs : ∀ C R z y z' y', Rl C R → Rl (sy C z y) (sy R z' y')) (hap2 : ∀ C R, Rl C R → ∀ a, sT C a = 0 ∨ sT R a = 0) (hL : L ≤ 3072) (hi : i + 6 ≤ L) (hR : Rl C R) (tX : sT C X = 10) (tM : sT R M = 11) (hz : z ≤ n0 + 80 + 4 * 512 + 4) (hy : y ≤ 70000 + 400 * 512) (A_best : ∀ (x0 : Int32), Alike Rl (pX10_best X x0) (pX11_best M x0)) (hk : ∀ C1 R1, Rl C1 R1 → ∀ z1 y1, z1 ≤ z + 4 → y1 ≤ y + 400 → EvL b L xs n0 1338 [(3, iv (nI i)), (0, qv (some b)), (1, qv (some X)), (2, qv (some M))] [] C1 R1 z1 y1) : EvL b L xs n0 867 [(3, iv (nI i)), (0, qv (some b)), (1, qv (some X)), (2, qv (some M))] [] C R z y := by
  refine el_dom (fun hz dC dR hap => ?_)
  obtain ⟨x, C1, R1, hP, hQ, hR1, q1, q2, q3, q4, q5⟩ := (A_best (xs (i + 1))).two hs (C := C) (R := R) (z := z) (y := y) hR dC dR
  refine el_aload_n (pc' := 868) dL_law_867 rfl rfl ?_
  refine el_aload_n (pc' := 869) dL_law_868 rfl rfl ?_
  refine el_iload_n (pc' := 870) dL_law_869 rfl rfl ?_
  refine el_iconst (pc' := 871) (1 : Int32) dL_law_870 (by decide) rfl ?_
  refine el_iadd (pc' := 872) dL_law_871 rfl ?_
  refine el_sld (n := i + 1) (pc' := 873) (nI_add i 1) (by omega) (by omega) dL_law_872 rfl ?_
  refine el_callC (pc' := 876) (sa := [iv (xs (i + 1)), qv (some X)]) (st := []) (pu := [iv x]) (x := x) (C1 := C1) rfl (iv_L_89 X (xs (i + 1))) ((onT_e (S := sy C z y) tX).trans hP) (by decide) dL_law_873 rfl (by decide) ⟨by omega, by omega⟩ (fun a => by rw [← q3]; exact hap2 C1 R1 hR1 a) ?_
  refine el_aload_n (pc' := 877) dL_law_876 rfl rfl ?_
  refine el_aload_n (pc' := 878) dL_law_877 rfl rfl ?_
  refine el_iload_n (pc' := 879) dL_law_878 rfl rfl ?_
  refine el_iconst (pc' := 880) (1 : Int32) dL_law_879 (by decide) rfl ?_
  refine el_iadd (pc' := 881) dL_law_880 rfl ?_
  refine el_sld (n := i + 1) (pc' := 882) (nI_add i 1) (by omega) (by omega) dL_law_881 rfl ?_
  refine el_callR (pc' := 885) (sa := [iv (xs (i + 1)), qv (some M)]) (st := [iv x]) (pu := [iv x]) (x := x) (R1 := R1) rfl (iv_L_92 M (xs (i + 1))) ((onT_e (S := sy R (sX C1) (sS C1)) tM).trans hQ) (by decide) dL_law_882 rfl (Nat.le_of_ble_eq_true rfl) ⟨by omega, by omega⟩ (hap2 C1 R1 hR1) ?_
  refine el_icmp_eq (pc' := 1338) dL_law_885 (by decide) ?_
  rw [q1, q2]
  exact hk C1 R1 hR1 _ _ (by omega) (by omega)
set_option maxRecDepth 20000 in
theorem lc_18 {Rl : St → St → Prop} {X M b L n0 i : Nat} {xs : Nat → Int32} {C R : St} {z y : Nat} (hs : ∀ C R z y z' y', Rl C R → Rl (sy C z y) (sy R z' y')) (hap2 : ∀ C R, Rl C R → ∀ a, sT C a = 0 ∨ sT R a = 0) (hL : L ≤ 3072) (hi : i + 6 ≤ L) (hR : Rl C R) (tX : sT C X = 10) (tM : sT R M = 11) (hz : z ≤ n0 + 80 + 4 * 512 + 4) (hy : y ≤ 70000 + 400 * 512) (A_branch : ∀ (x0 : Int32) (x1 : Int32) (x2 : Int32), Alike Rl (pX10_branch X x0 x1 x2) (pX11_branch M x0 x1 x2)) (hk : ∀ C1 R1, Rl C1 R1 → ∀ z1 y1, z1 ≤ z + 4 → y1 ≤ y + 400 → EvL b L xs n0 1338 [(3, iv (nI i)), (0, qv (some b)), (1, qv (some X)), (2, qv (some M))] [] C1 R1 z1 y1) : EvL b L xs n0 890 [(3, iv (nI i)), (0, qv (some b)), (1, qv (some X)), (2, qv (some M))] [] C R z y := by
  refine el_dom (fun hz dC dR hap => ?_)
  obtain ⟨x, C1, R1, hP, hQ, hR1, q1, q2, q3, q4, q5⟩ := (A_branch (xs (i + 1)) (xs (i + 2)) (xs (i + 3))).two hs (C := C) (R := R) (z := z) (y := y) hR dC dR
  refine el_aload_n (pc' := 891) dL_law_890 rfl rfl ?_
  refine el_aload_n (pc' := 892) dL_law_891 rfl rfl ?_
  refine el_iload_n (pc' := 893) dL_law_892 rfl rfl ?_
  refine el_iconst (pc' := 894) (1 : Int32) dL_law_893 (by decide) rfl ?_
  refine el_iadd (pc' := 895) dL_law_894 rfl ?_
  refine el_sld (n := i + 1) (pc' := 896) (nI_add i 1) (by omega) (by omega) dL_law_895 rfl ?_
  refine el_aload_n (pc' := 897) dL_law_896 rfl rfl ?_
  refine el_iload_n (pc' := 898) dL_law_897 rfl rfl ?_
  refine el_iconst (pc' := 899) (2 : Int32) dL_law_898 (by decide) rfl ?_
  refine el_iadd (pc' := 900) dL_law_899 rfl ?_
  refine el_sld (n := i + 2) (pc' := 901) (nI_add i 2) (by omega) (by omega) dL_law_900 rfl ?_
  refine el_aload_n (pc' := 902) dL_law_901 rfl rfl ?_
  refine el_iload_n (pc' := 903) dL_law_902 rfl rfl ?_
  refine el_iconst (pc' := 904) (3 : Int32) dL_law_903 (by decide) rfl ?_
  refine el_iadd (pc' := 905) dL_law_904 rfl ?_
  refine el_sld (n := i + 3) (pc' := 906) (nI_add i 3) (by omega) (by omega) dL_law_905 rfl ?_
  refine el_callC (pc' := 909) (sa := [iv (xs (i + 3)), iv (xs (i + 2)), iv (xs (i + 1)), qv (some X)]) (st := []) (pu := [iv x]) (x := x) (C1 := C1) rfl (iv_L_93 X (xs (i + 1)) (xs (i + 2)) (xs (i + 3))) ((onT_e (S := sy C z y) tX).trans hP) (by decide) dL_law_906 rfl (by decide) ⟨by omega, by omega⟩ (fun a => by rw [← q3]; exact hap2 C1 R1 hR1 a) ?_
  refine el_aload_n (pc' := 910) dL_law_909 rfl rfl ?_
  refine el_aload_n (pc' := 911) dL_law_910 rfl rfl ?_
  refine el_iload_n (pc' := 912) dL_law_911 rfl rfl ?_
  refine el_iconst (pc' := 913) (1 : Int32) dL_law_912 (by decide) rfl ?_
  refine el_iadd (pc' := 914) dL_law_913 rfl ?_
  refine el_sld (n := i + 1) (pc' := 915) (nI_add i 1) (by omega) (by omega) dL_law_914 rfl ?_
  refine el_aload_n (pc' := 916) dL_law_915 rfl rfl ?_
  refine el_iload_n (pc' := 917) dL_law_916 rfl rfl ?_
  refine el_iconst (pc' := 918) (2 : Int32) dL_law_917 (by decide) rfl ?_
  refine el_iadd (pc' := 919) dL_law_918 rfl ?_
  refine el_sld (n := i + 2) (pc' := 920) (nI_add i 2) (by omega) (by omega) dL_law_919 rfl ?_
  refine el_aload_n (pc' := 921) dL_law_920 rfl rfl ?_
  refine el_iload_n (pc' := 922) dL_law_921 rfl rfl ?_
  refine el_iconst (pc' := 923) (3 : Int32) dL_law_922 (by decide) rfl ?_
  refine el_iadd (pc' := 924) dL_law_923 rfl ?_
  refine el_sld (n := i + 3) (pc' := 925) (nI_add i 3) (by omega) (by omega) dL_law_924 rfl ?_
  refine el_callR (pc' := 928) (sa := [iv (xs (i + 3)), iv (xs (i + 2)), iv (xs (i + 1)), qv (some M)]) (st := [iv x]) (pu := [iv x]) (x := x) (R1 := R1) rfl (iv_L_96 M (xs (i + 1)) (xs (i + 2)) (xs (i + 3))) ((onT_e (S := sy R (sX C1) (sS C1)) tM).trans hQ) (by decide) dL_law_925 rfl (Nat.le_of_ble_eq_true rfl) ⟨by omega, by omega⟩ (hap2 C1 R1 hR1) ?_
  refine el_icmp_eq (pc' := 1338) dL_law_928 (by decide) ?_
  rw [q1, q2]
  exact hk C1 R1 hR1 _ _ (by omega) (by omega)
set_option maxRecDepth 20000 in
theorem lc_19 {Rl : St → St → Prop} {X M b L n0 i : Nat} {xs : Nat → Int32} {C R : St} {z y : Nat} (hs : ∀ C R z y z' y', Rl C R → Rl (sy C z y) (sy R z' y')) (hap2 : ∀ C R, Rl C R → ∀ a, sT C a = 0 ∨ sT R a = 0) (hL : L ≤ 3072) (hi : i + 6 ≤ L) (hR : Rl C R) (tX : sT C X = 10) (tM : sT R M = 11) (hz : z ≤ n0 + 80 + 4 * 512 + 4) (hy : y ≤ 70000 + 400 * 512) (A_hang : ∀ (x0 : Int32) (x1 : Int32), Alike Rl (pX10_hang X x0 x1) (pX11_hang M x0 x1)) (hk : ∀ C1 R1, Rl C1 R1 → ∀ z1 y1, z1 ≤ z + 4 → y1 ≤ y + 400 → EvL b L xs n0 1338 [(3, iv (nI i)), (0, qv (some b)), (1, qv (some X)), (2, qv (some M))] [] C1 R1 z1 y1) : EvL b L xs n0 933 [(3, iv (nI i)), (0, qv (some b)), (1, qv (some X)), (2, qv (some M))] [] C R z y := by
  refine el_dom (fun hz dC dR hap => ?_)
  obtain ⟨x, C1, R1, hP, hQ, hR1, q1, q2, q3, q4, q5⟩ := (A_hang (xs (i + 1)) (xs (i + 2))).two hs (C := C) (R := R) (z := z) (y := y) hR dC dR
  refine el_aload_n (pc' := 934) dL_law_933 rfl rfl ?_
  refine el_aload_n (pc' := 935) dL_law_934 rfl rfl ?_
  refine el_iload_n (pc' := 936) dL_law_935 rfl rfl ?_
  refine el_iconst (pc' := 937) (1 : Int32) dL_law_936 (by decide) rfl ?_
  refine el_iadd (pc' := 938) dL_law_937 rfl ?_
  refine el_sld (n := i + 1) (pc' := 939) (nI_add i 1) (by omega) (by omega) dL_law_938 rfl ?_
  refine el_aload_n (pc' := 940) dL_law_939 rfl rfl ?_
  refine el_iload_n (pc' := 941) dL_law_940 rfl rfl ?_
  refine el_iconst (pc' := 942) (2 : Int32) dL_law_941 (by decide) rfl ?_
  refine el_iadd (pc' := 943) dL_law_942 rfl ?_
  refine el_sld (n := i + 2) (pc' := 944) (nI_add i 2) (by omega) (by omega) dL_law_943 rfl ?_
  refine el_callC (pc' := 947) (sa := [iv (xs (i + 2)), iv (xs (i + 1)), qv (some X)]) (st := []) (pu := [iv x]) (x := x) (C1 := C1) rfl (iv_L_97 X (xs (i + 1)) (xs (i + 2))) ((onT_e (S := sy C z y) tX).trans hP) (by decide) dL_law_944 rfl (by decide) ⟨by omega, by omega⟩ (fun a => by rw [← q3]; exact hap2 C1 R1 hR1 a) ?_
  refine el_aload_n (pc' := 948) dL_law_947 rfl rfl ?_
  refine el_aload_n (pc' := 949) dL_law_948 rfl rfl ?_
  refine el_iload_n (pc' := 950) dL_law_949 rfl rfl ?_
  refine el_iconst (pc' := 951) (1 : Int32) dL_law_950 (by decide) rfl ?_
  refine el_iadd (pc' := 952) dL_law_951 rfl ?_
  refine el_sld (n := i + 1) (pc' := 953) (nI_add i 1) (by omega) (by omega) dL_law_952 rfl ?_
  refine el_aload_n (pc' := 954) dL_law_953 rfl rfl ?_
  refine el_iload_n (pc' := 955) dL_law_954 rfl rfl ?_
  refine el_iconst (pc' := 956) (2 : Int32) dL_law_955 (by decide) rfl ?_
  refine el_iadd (pc' := 957) dL_law_956 rfl ?_
  refine el_sld (n := i + 2) (pc' := 958) (nI_add i 2) (by omega) (by omega) dL_law_957 rfl ?_
  refine el_callR (pc' := 961) (sa := [iv (xs (i + 2)), iv (xs (i + 1)), qv (some M)]) (st := [iv x]) (pu := [iv x]) (x := x) (R1 := R1) rfl (iv_L_100 M (xs (i + 1)) (xs (i + 2))) ((onT_e (S := sy R (sX C1) (sS C1)) tM).trans hQ) (by decide) dL_law_958 rfl (Nat.le_of_ble_eq_true rfl) ⟨by omega, by omega⟩ (hap2 C1 R1 hR1) ?_
  refine el_icmp_eq (pc' := 1338) dL_law_961 (by decide) ?_
  rw [q1, q2]
  exact hk C1 R1 hR1 _ _ (by omega) (by omega)
set_option maxRecDepth 20000 in
theorem lc_20 {Rl : St → St → Prop} {X M b L n0 i : Nat} {xs : Nat → Int32} {C R : St} {z y : Nat} (hs : ∀ C R z y z' y', Rl C R → Rl (sy C z y) (sy R z' y')) (hap2 : ∀ C R, Rl C R → ∀ a, sT C a = 0 ∨ sT R a = 0) (hL : L ≤ 3072) (hi : i + 6 ≤ L) (hR : Rl C R) (tX : sT C X = 10) (tM : sT R M = 11) (hz : z ≤ n0 + 80 + 4 * 512 + 4) (hy : y ≤ 70000 + 400 * 512) (A_strip : Alike Rl (pX10_strip X) (pX11_strip M)) (hk : ∀ C1 R1, Rl C1 R1 → ∀ z1 y1, z1 ≤ z + 4 → y1 ≤ y + 400 → EvL b L xs n0 1338 [(3, iv (nI i)), (0, qv (some b)), (1, qv (some X)), (2, qv (some M))] [] C1 R1 z1 y1) : EvL b L xs n0 966 [(3, iv (nI i)), (0, qv (some b)), (1, qv (some X)), (2, qv (some M))] [] C R z y := by
  refine el_dom (fun hz dC dR hap => ?_)
  obtain ⟨x, C1, R1, hP, hQ, hR1, q1, q2, q3, q4, q5⟩ := (A_strip).two hs (C := C) (R := R) (z := z) (y := y) hR dC dR
  refine el_aload_n (pc' := 967) dL_law_966 rfl rfl ?_
  refine el_callC (pc' := 970) (sa := [qv (some X)]) (st := []) (pu := [iv x]) (x := x) (C1 := C1) rfl (iv_L_101 X) ((onT_e (S := sy C z y) tX).trans hP) (by decide) dL_law_967 rfl (by decide) ⟨by omega, by omega⟩ (fun a => by rw [← q3]; exact hap2 C1 R1 hR1 a) ?_
  refine el_aload_n (pc' := 971) dL_law_970 rfl rfl ?_
  refine el_callR (pc' := 974) (sa := [qv (some M)]) (st := [iv x]) (pu := [iv x]) (x := x) (R1 := R1) rfl (iv_L_105 M) ((onT_e (S := sy R (sX C1) (sS C1)) tM).trans hQ) (by decide) dL_law_971 rfl (Nat.le_of_ble_eq_true rfl) ⟨by omega, by omega⟩ (hap2 C1 R1 hR1) ?_
  refine el_icmp_eq (pc' := 1338) dL_law_974 (by decide) ?_
  rw [q1, q2]
  exact hk C1 R1 hR1 _ _ (by omega) (by omega)
set_option maxRecDepth 20000 in
theorem lc_21 {Rl : St → St → Prop} {X M b L n0 i : Nat} {xs : Nat → Int32} {C R : St} {z y : Nat} (hs : ∀ C R z y z' y', Rl C R → Rl (sy C z y) (sy R z' y')) (hap2 : ∀ C R, Rl C R → ∀ a, sT C a = 0 ∨ sT R a = 0) (hL : L ≤ 3072) (hi : i + 6 ≤ L) (hR : Rl C R) (tX : sT C X = 10) (tM : sT R M = 11) (hz : z ≤ n0 + 80 + 4 * 512 + 4) (hy : y ≤ 70000 + 400 * 512) (A_end : ∀ (x0 : Int32), Alike Rl (pX10_end X x0) (pX11_end M x0)) (hk : ∀ C1 R1, Rl C1 R1 → ∀ z1 y1, z1 ≤ z + 4 → y1 ≤ y + 400 → EvL b L xs n0 1338 [(3, iv (nI i)), (0, qv (some b)), (1, qv (some X)), (2, qv (some M))] [] C1 R1 z1 y1) : EvL b L xs n0 979 [(3, iv (nI i)), (0, qv (some b)), (1, qv (some X)), (2, qv (some M))] [] C R z y := by
  refine el_dom (fun hz dC dR hap => ?_)
  obtain ⟨x, C1, R1, hP, hQ, hR1, q1, q2, q3, q4, q5⟩ := (A_end (xs (i + 1))).two hs (C := C) (R := R) (z := z) (y := y) hR dC dR
  refine el_aload_n (pc' := 980) dL_law_979 rfl rfl ?_
  refine el_aload_n (pc' := 981) dL_law_980 rfl rfl ?_
  refine el_iload_n (pc' := 982) dL_law_981 rfl rfl ?_
  refine el_iconst (pc' := 983) (1 : Int32) dL_law_982 (by decide) rfl ?_
  refine el_iadd (pc' := 984) dL_law_983 rfl ?_
  refine el_sld (n := i + 1) (pc' := 985) (nI_add i 1) (by omega) (by omega) dL_law_984 rfl ?_
  refine el_callC (pc' := 988) (sa := [iv (xs (i + 1)), qv (some X)]) (st := []) (pu := [iv x]) (x := x) (C1 := C1) rfl (iv_L_106 X (xs (i + 1))) ((onT_e (S := sy C z y) tX).trans hP) (by decide) dL_law_985 rfl (by decide) ⟨by omega, by omega⟩ (fun a => by rw [← q3]; exact hap2 C1 R1 hR1 a) ?_
  refine el_aload_n (pc' := 989) dL_law_988 rfl rfl ?_
  refine el_aload_n (pc' := 990) dL_law_989 rfl rfl ?_
  refine el_iload_n (pc' := 991) dL_law_990 rfl rfl ?_
  refine el_iconst (pc' := 992) (1 : Int32) dL_law_991 (by decide) rfl ?_
  refine el_iadd (pc' := 993) dL_law_992 rfl ?_
  refine el_sld (n := i + 1) (pc' := 994) (nI_add i 1) (by omega) (by omega) dL_law_993 rfl ?_
  refine el_callR (pc' := 997) (sa := [iv (xs (i + 1)), qv (some M)]) (st := [iv x]) (pu := [iv x]) (x := x) (R1 := R1) rfl (iv_L_109 M (xs (i + 1))) ((onT_e (S := sy R (sX C1) (sS C1)) tM).trans hQ) (by decide) dL_law_994 rfl (Nat.le_of_ble_eq_true rfl) ⟨by omega, by omega⟩ (hap2 C1 R1 hR1) ?_
  refine el_icmp_eq (pc' := 1338) dL_law_997 (by decide) ?_
  rw [q1, q2]
  exact hk C1 R1 hR1 _ _ (by omega) (by omega)
set_option maxRecDepth 20000 in
theorem lc_22 {Rl : St → St → Prop} {X M b L n0 i : Nat} {xs : Nat → Int32} {C R : St} {z y : Nat} (hs : ∀ C R z y z' y', Rl C R → Rl (sy C z y) (sy R z' y')) (hap2 : ∀ C R, Rl C R → ∀ a, sT C a = 0 ∨ sT R a = 0) (hL : L ≤ 3072) (hi : i + 6 ≤ L) (hR : Rl C R) (tX : sT C X = 10) (tM : sT R M = 11) (hz : z ≤ n0 + 80 + 4 * 512 + 4) (hy : y ≤ 70000 + 400 * 512) (A_runners : ∀ (x0 : Int32), Alike Rl (pX10_runners X x0) (pX11_runners M x0)) (hk : ∀ C1 R1, Rl C1 R1 → ∀ z1 y1, z1 ≤ z + 4 → y1 ≤ y + 400 → EvL b L xs n0 1338 [(3, iv (nI i)), (0, qv (some b)), (1, qv (some X)), (2, qv (some M))] [] C1 R1 z1 y1) : EvL b L xs n0 1002 [(3, iv (nI i)), (0, qv (some b)), (1, qv (some X)), (2, qv (some M))] [] C R z y := by
  refine el_dom (fun hz dC dR hap => ?_)
  obtain ⟨x, C1, R1, hP, hQ, hR1, q1, q2, q3, q4, q5⟩ := (A_runners (xs (i + 1))).two hs (C := C) (R := R) (z := z) (y := y) hR dC dR
  refine el_aload_n (pc' := 1003) dL_law_1002 rfl rfl ?_
  refine el_aload_n (pc' := 1004) dL_law_1003 rfl rfl ?_
  refine el_iload_n (pc' := 1005) dL_law_1004 rfl rfl ?_
  refine el_iconst (pc' := 1006) (1 : Int32) dL_law_1005 (by decide) rfl ?_
  refine el_iadd (pc' := 1007) dL_law_1006 rfl ?_
  refine el_sld (n := i + 1) (pc' := 1008) (nI_add i 1) (by omega) (by omega) dL_law_1007 rfl ?_
  refine el_callC (pc' := 1011) (sa := [iv (xs (i + 1)), qv (some X)]) (st := []) (pu := [iv x]) (x := x) (C1 := C1) rfl (iv_L_110 X (xs (i + 1))) ((onT_e (S := sy C z y) tX).trans hP) (by decide) dL_law_1008 rfl (by decide) ⟨by omega, by omega⟩ (fun a => by rw [← q3]; exact hap2 C1 R1 hR1 a) ?_
  refine el_aload_n (pc' := 1012) dL_law_1011 rfl rfl ?_
  refine el_aload_n (pc' := 1013) dL_law_1012 rfl rfl ?_
  refine el_iload_n (pc' := 1014) dL_law_1013 rfl rfl ?_
  refine el_iconst (pc' := 1015) (1 : Int32) dL_law_1014 (by decide) rfl ?_
  refine el_iadd (pc' := 1016) dL_law_1015 rfl ?_
  refine el_sld (n := i + 1) (pc' := 1017) (nI_add i 1) (by omega) (by omega) dL_law_1016 rfl ?_
  refine el_callR (pc' := 1020) (sa := [iv (xs (i + 1)), qv (some M)]) (st := [iv x]) (pu := [iv x]) (x := x) (R1 := R1) rfl (iv_L_113 M (xs (i + 1))) ((onT_e (S := sy R (sX C1) (sS C1)) tM).trans hQ) (by decide) dL_law_1017 rfl (Nat.le_of_ble_eq_true rfl) ⟨by omega, by omega⟩ (hap2 C1 R1 hR1) ?_
  refine el_icmp_eq (pc' := 1338) dL_law_1020 (by decide) ?_
  rw [q1, q2]
  exact hk C1 R1 hR1 _ _ (by omega) (by omega)
set_option maxRecDepth 20000 in
theorem lc_23 {Rl : St → St → Prop} {X M b L n0 i : Nat} {xs : Nat → Int32} {C R : St} {z y : Nat} (hs : ∀ C R z y z' y', Rl C R → Rl (sy C z y) (sy R z' y')) (hap2 : ∀ C R, Rl C R → ∀ a, sT C a = 0 ∨ sT R a = 0) (hL : L ≤ 3072) (hi : i + 6 ≤ L) (hR : Rl C R) (tX : sT C X = 10) (tM : sT R M = 11) (hz : z ≤ n0 + 80 + 4 * 512 + 4) (hy : y ≤ 70000 + 400 * 512) (A_balance : ∀ (x0 : Int32), Alike Rl (pX10_balance X x0) (pX11_balance M x0)) (hk : ∀ C1 R1, Rl C1 R1 → ∀ z1 y1, z1 ≤ z + 4 → y1 ≤ y + 400 → EvL b L xs n0 1338 [(3, iv (nI i)), (0, qv (some b)), (1, qv (some X)), (2, qv (some M))] [] C1 R1 z1 y1) : EvL b L xs n0 1025 [(3, iv (nI i)), (0, qv (some b)), (1, qv (some X)), (2, qv (some M))] [] C R z y := by
  refine el_dom (fun hz dC dR hap => ?_)
  obtain ⟨x, C1, R1, hP, hQ, hR1, q1, q2, q3, q4, q5⟩ := (A_balance (xs (i + 1))).two hs (C := C) (R := R) (z := z) (y := y) hR dC dR
  refine el_aload_n (pc' := 1026) dL_law_1025 rfl rfl ?_
  refine el_aload_n (pc' := 1027) dL_law_1026 rfl rfl ?_
  refine el_iload_n (pc' := 1028) dL_law_1027 rfl rfl ?_
  refine el_iconst (pc' := 1029) (1 : Int32) dL_law_1028 (by decide) rfl ?_
  refine el_iadd (pc' := 1030) dL_law_1029 rfl ?_
  refine el_sld (n := i + 1) (pc' := 1031) (nI_add i 1) (by omega) (by omega) dL_law_1030 rfl ?_
  refine el_callC (pc' := 1034) (sa := [iv (xs (i + 1)), qv (some X)]) (st := []) (pu := [iv x]) (x := x) (C1 := C1) rfl (iv_L_114 X (xs (i + 1))) ((onT_e (S := sy C z y) tX).trans hP) (by decide) dL_law_1031 rfl (by decide) ⟨by omega, by omega⟩ (fun a => by rw [← q3]; exact hap2 C1 R1 hR1 a) ?_
  refine el_aload_n (pc' := 1035) dL_law_1034 rfl rfl ?_
  refine el_aload_n (pc' := 1036) dL_law_1035 rfl rfl ?_
  refine el_iload_n (pc' := 1037) dL_law_1036 rfl rfl ?_
  refine el_iconst (pc' := 1038) (1 : Int32) dL_law_1037 (by decide) rfl ?_
  refine el_iadd (pc' := 1039) dL_law_1038 rfl ?_
  refine el_sld (n := i + 1) (pc' := 1040) (nI_add i 1) (by omega) (by omega) dL_law_1039 rfl ?_
  refine el_callR (pc' := 1043) (sa := [iv (xs (i + 1)), qv (some M)]) (st := [iv x]) (pu := [iv x]) (x := x) (R1 := R1) rfl (iv_L_117 M (xs (i + 1))) ((onT_e (S := sy R (sX C1) (sS C1)) tM).trans hQ) (by decide) dL_law_1040 rfl (Nat.le_of_ble_eq_true rfl) ⟨by omega, by omega⟩ (hap2 C1 R1 hR1) ?_
  refine el_icmp_eq (pc' := 1338) dL_law_1043 (by decide) ?_
  rw [q1, q2]
  exact hk C1 R1 hR1 _ _ (by omega) (by omega)
set_option maxRecDepth 20000 in
theorem lc_24 {Rl : St → St → Prop} {X M b L n0 i : Nat} {xs : Nat → Int32} {C R : St} {z y : Nat} (hs : ∀ C R z y z' y', Rl C R → Rl (sy C z y) (sy R z' y')) (hap2 : ∀ C R, Rl C R → ∀ a, sT C a = 0 ∨ sT R a = 0) (hL : L ≤ 3072) (hi : i + 6 ≤ L) (hR : Rl C R) (tX : sT C X = 10) (tM : sT R M = 11) (hz : z ≤ n0 + 80 + 4 * 512 + 4) (hy : y ≤ 70000 + 400 * 512) (A_size : ∀ (x0 : Int32), Alike Rl (pX10_size X x0) (pX11_size M x0)) (hk : ∀ C1 R1, Rl C1 R1 → ∀ z1 y1, z1 ≤ z + 4 → y1 ≤ y + 400 → EvL b L xs n0 1338 [(3, iv (nI i)), (0, qv (some b)), (1, qv (some X)), (2, qv (some M))] [] C1 R1 z1 y1) : EvL b L xs n0 1048 [(3, iv (nI i)), (0, qv (some b)), (1, qv (some X)), (2, qv (some M))] [] C R z y := by
  refine el_dom (fun hz dC dR hap => ?_)
  obtain ⟨x, C1, R1, hP, hQ, hR1, q1, q2, q3, q4, q5⟩ := (A_size (xs (i + 1))).two hs (C := C) (R := R) (z := z) (y := y) hR dC dR
  refine el_aload_n (pc' := 1049) dL_law_1048 rfl rfl ?_
  refine el_aload_n (pc' := 1050) dL_law_1049 rfl rfl ?_
  refine el_iload_n (pc' := 1051) dL_law_1050 rfl rfl ?_
  refine el_iconst (pc' := 1052) (1 : Int32) dL_law_1051 (by decide) rfl ?_
  refine el_iadd (pc' := 1053) dL_law_1052 rfl ?_
  refine el_sld (n := i + 1) (pc' := 1054) (nI_add i 1) (by omega) (by omega) dL_law_1053 rfl ?_
  refine el_callC (pc' := 1057) (sa := [iv (xs (i + 1)), qv (some X)]) (st := []) (pu := [iv x]) (x := x) (C1 := C1) rfl (iv_L_118 X (xs (i + 1))) ((onT_e (S := sy C z y) tX).trans hP) (by decide) dL_law_1054 rfl (by decide) ⟨by omega, by omega⟩ (fun a => by rw [← q3]; exact hap2 C1 R1 hR1 a) ?_
  refine el_aload_n (pc' := 1058) dL_law_1057 rfl rfl ?_
  refine el_aload_n (pc' := 1059) dL_law_1058 rfl rfl ?_
  refine el_iload_n (pc' := 1060) dL_law_1059 rfl rfl ?_
  refine el_iconst (pc' := 1061) (1 : Int32) dL_law_1060 (by decide) rfl ?_
  refine el_iadd (pc' := 1062) dL_law_1061 rfl ?_
  refine el_sld (n := i + 1) (pc' := 1063) (nI_add i 1) (by omega) (by omega) dL_law_1062 rfl ?_
  refine el_callR (pc' := 1066) (sa := [iv (xs (i + 1)), qv (some M)]) (st := [iv x]) (pu := [iv x]) (x := x) (R1 := R1) rfl (iv_L_121 M (xs (i + 1))) ((onT_e (S := sy R (sX C1) (sS C1)) tM).trans hQ) (by decide) dL_law_1063 rfl (Nat.le_of_ble_eq_true rfl) ⟨by omega, by omega⟩ (hap2 C1 R1 hR1) ?_
  refine el_icmp_eq (pc' := 1338) dL_law_1066 (by decide) ?_
  rw [q1, q2]
  exact hk C1 R1 hR1 _ _ (by omega) (by omega)
set_option maxRecDepth 20000 in
theorem lc_25 {Rl : St → St → Prop} {X M b L n0 i : Nat} {xs : Nat → Int32} {C R : St} {z y : Nat} (hs : ∀ C R z y z' y', Rl C R → Rl (sy C z y) (sy R z' y')) (hap2 : ∀ C R, Rl C R → ∀ a, sT C a = 0 ∨ sT R a = 0) (hL : L ≤ 3072) (hi : i + 6 ≤ L) (hR : Rl C R) (tX : sT C X = 10) (tM : sT R M = 11) (hz : z ≤ n0 + 80 + 4 * 512 + 4) (hy : y ≤ 70000 + 400 * 512) (A_beat : ∀ (x0 : Int32) (x1 : Int32) (x2 : Int32) (x3 : Int32), Alike Rl (pX10_beat X x0 x1 x2 x3) (pX11_beat M x0 x1 x2 x3)) (hk : ∀ C1 R1, Rl C1 R1 → ∀ z1 y1, z1 ≤ z + 4 → y1 ≤ y + 400 → EvL b L xs n0 1338 [(3, iv (nI i)), (0, qv (some b)), (1, qv (some X)), (2, qv (some M))] [] C1 R1 z1 y1) : EvL b L xs n0 1071 [(3, iv (nI i)), (0, qv (some b)), (1, qv (some X)), (2, qv (some M))] [] C R z y := by
  refine el_dom (fun hz dC dR hap => ?_)
  obtain ⟨x, C1, R1, hP, hQ, hR1, q1, q2, q3, q4, q5⟩ := (A_beat (xs (i + 1)) (xs (i + 2)) (xs (i + 3)) (xs (i + 4))).two hs (C := C) (R := R) (z := z) (y := y) hR dC dR
  refine el_aload_n (pc' := 1072) dL_law_1071 rfl rfl ?_
  refine el_aload_n (pc' := 1073) dL_law_1072 rfl rfl ?_
  refine el_iload_n (pc' := 1074) dL_law_1073 rfl rfl ?_
  refine el_iconst (pc' := 1075) (1 : Int32) dL_law_1074 (by decide) rfl ?_
  refine el_iadd (pc' := 1076) dL_law_1075 rfl ?_
  refine el_sld (n := i + 1) (pc' := 1077) (nI_add i 1) (by omega) (by omega) dL_law_1076 rfl ?_
  refine el_aload_n (pc' := 1078) dL_law_1077 rfl rfl ?_
  refine el_iload_n (pc' := 1079) dL_law_1078 rfl rfl ?_
  refine el_iconst (pc' := 1080) (2 : Int32) dL_law_1079 (by decide) rfl ?_
  refine el_iadd (pc' := 1081) dL_law_1080 rfl ?_
  refine el_sld (n := i + 2) (pc' := 1082) (nI_add i 2) (by omega) (by omega) dL_law_1081 rfl ?_
  refine el_aload_n (pc' := 1083) dL_law_1082 rfl rfl ?_
  refine el_iload_n (pc' := 1084) dL_law_1083 rfl rfl ?_
  refine el_iconst (pc' := 1085) (3 : Int32) dL_law_1084 (by decide) rfl ?_
  refine el_iadd (pc' := 1086) dL_law_1085 rfl ?_
  refine el_sld (n := i + 3) (pc' := 1087) (nI_add i 3) (by omega) (by omega) dL_law_1086 rfl ?_
  refine el_aload_n (pc' := 1088) dL_law_1087 rfl rfl ?_
  refine el_iload_n (pc' := 1089) dL_law_1088 rfl rfl ?_
  refine el_iconst (pc' := 1090) (4 : Int32) dL_law_1089 (by decide) rfl ?_
  refine el_iadd (pc' := 1091) dL_law_1090 rfl ?_
  refine el_sld (n := i + 4) (pc' := 1092) (nI_add i 4) (by omega) (by omega) dL_law_1091 rfl ?_
  refine el_callC (pc' := 1095) (sa := [iv (xs (i + 4)), iv (xs (i + 3)), iv (xs (i + 2)), iv (xs (i + 1)), qv (some X)]) (st := []) (pu := [iv x]) (x := x) (C1 := C1) rfl (iv_L_122 X (xs (i + 1)) (xs (i + 2)) (xs (i + 3)) (xs (i + 4))) ((onT_e (S := sy C z y) tX).trans hP) (by decide) dL_law_1092 rfl (by decide) ⟨by omega, by omega⟩ (fun a => by rw [← q3]; exact hap2 C1 R1 hR1 a) ?_
  refine el_aload_n (pc' := 1096) dL_law_1095 rfl rfl ?_
  refine el_aload_n (pc' := 1097) dL_law_1096 rfl rfl ?_
  refine el_iload_n (pc' := 1098) dL_law_1097 rfl rfl ?_
  refine el_iconst (pc' := 1099) (1 : Int32) dL_law_1098 (by decide) rfl ?_
  refine el_iadd (pc' := 1100) dL_law_1099 rfl ?_
  refine el_sld (n := i + 1) (pc' := 1101) (nI_add i 1) (by omega) (by omega) dL_law_1100 rfl ?_
  refine el_aload_n (pc' := 1102) dL_law_1101 rfl rfl ?_
  refine el_iload_n (pc' := 1103) dL_law_1102 rfl rfl ?_
  refine el_iconst (pc' := 1104) (2 : Int32) dL_law_1103 (by decide) rfl ?_
  refine el_iadd (pc' := 1105) dL_law_1104 rfl ?_
  refine el_sld (n := i + 2) (pc' := 1106) (nI_add i 2) (by omega) (by omega) dL_law_1105 rfl ?_
  refine el_aload_n (pc' := 1107) dL_law_1106 rfl rfl ?_
  refine el_iload_n (pc' := 1108) dL_law_1107 rfl rfl ?_
  refine el_iconst (pc' := 1109) (3 : Int32) dL_law_1108 (by decide) rfl ?_
  refine el_iadd (pc' := 1110) dL_law_1109 rfl ?_
  refine el_sld (n := i + 3) (pc' := 1111) (nI_add i 3) (by omega) (by omega) dL_law_1110 rfl ?_
  refine el_aload_n (pc' := 1112) dL_law_1111 rfl rfl ?_
  refine el_iload_n (pc' := 1113) dL_law_1112 rfl rfl ?_
  refine el_iconst (pc' := 1114) (4 : Int32) dL_law_1113 (by decide) rfl ?_
  refine el_iadd (pc' := 1115) dL_law_1114 rfl ?_
  refine el_sld (n := i + 4) (pc' := 1116) (nI_add i 4) (by omega) (by omega) dL_law_1115 rfl ?_
  refine el_callR (pc' := 1119) (sa := [iv (xs (i + 4)), iv (xs (i + 3)), iv (xs (i + 2)), iv (xs (i + 1)), qv (some M)]) (st := [iv x]) (pu := [iv x]) (x := x) (R1 := R1) rfl (iv_L_126 M (xs (i + 1)) (xs (i + 2)) (xs (i + 3)) (xs (i + 4))) ((onT_e (S := sy R (sX C1) (sS C1)) tM).trans hQ) (by decide) dL_law_1116 rfl (Nat.le_of_ble_eq_true rfl) ⟨by omega, by omega⟩ (hap2 C1 R1 hR1) ?_
  refine el_icmp_eq (pc' := 1338) dL_law_1119 (by decide) ?_
  rw [q1, q2]
  exact hk C1 R1 hR1 _ _ (by omega) (by omega)
set_option maxRecDepth 20000 in
theorem lc_26 {Rl : St → St → Prop} {X M b L n0 i : Nat} {xs : Nat → Int32} {C R : St} {z y : Nat} (hs : ∀ C R z y z' y', Rl C R → Rl (sy C z y) (sy R z' y')) (hap2 : ∀ C R, Rl C R → ∀ a, sT C a = 0 ∨ sT R a = 0) (hL : L ≤ 3072) (hi : i + 6 ≤ L) (hR : Rl C R) (tX : sT C X = 10) (tM : sT R M = 11) (hz : z ≤ n0 + 80 + 4 * 512 + 4) (hy : y ≤ 70000 + 400 * 512) (A_warmth : ∀ (x0 : Int32) (x1 : Int32), Alike Rl (pX10_warmth X x0 x1) (pX11_warmth M x0 x1)) (hk : ∀ C1 R1, Rl C1 R1 → ∀ z1 y1, z1 ≤ z + 4 → y1 ≤ y + 400 → EvL b L xs n0 1338 [(3, iv (nI i)), (0, qv (some b)), (1, qv (some X)), (2, qv (some M))] [] C1 R1 z1 y1) : EvL b L xs n0 1124 [(3, iv (nI i)), (0, qv (some b)), (1, qv (some X)), (2, qv (some M))] [] C R z y := by
  refine el_dom (fun hz dC dR hap => ?_)
  obtain ⟨x, C1, R1, hP, hQ, hR1, q1, q2, q3, q4, q5⟩ := (A_warmth (xs (i + 1)) (xs (i + 2))).two hs (C := C) (R := R) (z := z) (y := y) hR dC dR
  refine el_aload_n (pc' := 1125) dL_law_1124 rfl rfl ?_
  refine el_aload_n (pc' := 1126) dL_law_1125 rfl rfl ?_
  refine el_iload_n (pc' := 1127) dL_law_1126 rfl rfl ?_
  refine el_iconst (pc' := 1128) (1 : Int32) dL_law_1127 (by decide) rfl ?_
  refine el_iadd (pc' := 1129) dL_law_1128 rfl ?_
  refine el_sld (n := i + 1) (pc' := 1130) (nI_add i 1) (by omega) (by omega) dL_law_1129 rfl ?_
  refine el_aload_n (pc' := 1131) dL_law_1130 rfl rfl ?_
  refine el_iload_n (pc' := 1132) dL_law_1131 rfl rfl ?_
  refine el_iconst (pc' := 1133) (2 : Int32) dL_law_1132 (by decide) rfl ?_
  refine el_iadd (pc' := 1134) dL_law_1133 rfl ?_
  refine el_sld (n := i + 2) (pc' := 1135) (nI_add i 2) (by omega) (by omega) dL_law_1134 rfl ?_
  refine el_callC (pc' := 1138) (sa := [iv (xs (i + 2)), iv (xs (i + 1)), qv (some X)]) (st := []) (pu := [iv x]) (x := x) (C1 := C1) rfl (iv_L_127 X (xs (i + 1)) (xs (i + 2))) ((onT_e (S := sy C z y) tX).trans hP) (by decide) dL_law_1135 rfl (by decide) ⟨by omega, by omega⟩ (fun a => by rw [← q3]; exact hap2 C1 R1 hR1 a) ?_
  refine el_aload_n (pc' := 1139) dL_law_1138 rfl rfl ?_
  refine el_aload_n (pc' := 1140) dL_law_1139 rfl rfl ?_
  refine el_iload_n (pc' := 1141) dL_law_1140 rfl rfl ?_
  refine el_iconst (pc' := 1142) (1 : Int32) dL_law_1141 (by decide) rfl ?_
  refine el_iadd (pc' := 1143) dL_law_1142 rfl ?_
  refine el_sld (n := i + 1) (pc' := 1144) (nI_add i 1) (by omega) (by omega) dL_law_1143 rfl ?_
  refine el_aload_n (pc' := 1145) dL_law_1144 rfl rfl ?_
  refine el_iload_n (pc' := 1146) dL_law_1145 rfl rfl ?_
  refine el_iconst (pc' := 1147) (2 : Int32) dL_law_1146 (by decide) rfl ?_
  refine el_iadd (pc' := 1148) dL_law_1147 rfl ?_
  refine el_sld (n := i + 2) (pc' := 1149) (nI_add i 2) (by omega) (by omega) dL_law_1148 rfl ?_
  refine el_callR (pc' := 1152) (sa := [iv (xs (i + 2)), iv (xs (i + 1)), qv (some M)]) (st := [iv x]) (pu := [iv x]) (x := x) (R1 := R1) rfl (iv_L_130 M (xs (i + 1)) (xs (i + 2))) ((onT_e (S := sy R (sX C1) (sS C1)) tM).trans hQ) (by decide) dL_law_1149 rfl (Nat.le_of_ble_eq_true rfl) ⟨by omega, by omega⟩ (hap2 C1 R1 hR1) ?_
  refine el_icmp_eq (pc' := 1338) dL_law_1152 (by decide) ?_
  rw [q1, q2]
  exact hk C1 R1 hR1 _ _ (by omega) (by omega)
set_option maxRecDepth 20000 in
theorem lc_27 {Rl : St → St → Prop} {X M b L n0 i : Nat} {xs : Nat → Int32} {C R : St} {z y : Nat} (hs : ∀ C R z y z' y', Rl C R → Rl (sy C z y) (sy R z' y')) (hap2 : ∀ C R, Rl C R → ∀ a, sT C a = 0 ∨ sT R a = 0) (hL : L ≤ 3072) (hi : i + 6 ≤ L) (hR : Rl C R) (tX : sT C X = 10) (tM : sT R M = 11) (hz : z ≤ n0 + 80 + 4 * 512 + 4) (hy : y ≤ 70000 + 400 * 512) (A_press : ∀ (x0 : Int32), Alike Rl (pX10_press X x0) (pX11_press M x0)) (hk : ∀ C1 R1, Rl C1 R1 → ∀ z1 y1, z1 ≤ z + 4 → y1 ≤ y + 400 → EvL b L xs n0 1338 [(3, iv (nI i)), (0, qv (some b)), (1, qv (some X)), (2, qv (some M))] [] C1 R1 z1 y1) : EvL b L xs n0 1157 [(3, iv (nI i)), (0, qv (some b)), (1, qv (some X)), (2, qv (some M))] [] C R z y := by
  refine el_dom (fun hz dC dR hap => ?_)
  obtain ⟨x, C1, R1, hP, hQ, hR1, q1, q2, q3, q4, q5⟩ := (A_press (xs (i + 1))).two hs (C := C) (R := R) (z := z) (y := y) hR dC dR
  refine el_aload_n (pc' := 1158) dL_law_1157 rfl rfl ?_
  refine el_aload_n (pc' := 1159) dL_law_1158 rfl rfl ?_
  refine el_iload_n (pc' := 1160) dL_law_1159 rfl rfl ?_
  refine el_iconst (pc' := 1161) (1 : Int32) dL_law_1160 (by decide) rfl ?_
  refine el_iadd (pc' := 1162) dL_law_1161 rfl ?_
  refine el_sld (n := i + 1) (pc' := 1163) (nI_add i 1) (by omega) (by omega) dL_law_1162 rfl ?_
  refine el_callC (pc' := 1166) (sa := [iv (xs (i + 1)), qv (some X)]) (st := []) (pu := [iv x]) (x := x) (C1 := C1) rfl (iv_L_131 X (xs (i + 1))) ((onT_e (S := sy C z y) tX).trans hP) (by decide) dL_law_1163 rfl (by decide) ⟨by omega, by omega⟩ (fun a => by rw [← q3]; exact hap2 C1 R1 hR1 a) ?_
  refine el_aload_n (pc' := 1167) dL_law_1166 rfl rfl ?_
  refine el_aload_n (pc' := 1168) dL_law_1167 rfl rfl ?_
  refine el_iload_n (pc' := 1169) dL_law_1168 rfl rfl ?_
  refine el_iconst (pc' := 1170) (1 : Int32) dL_law_1169 (by decide) rfl ?_
  refine el_iadd (pc' := 1171) dL_law_1170 rfl ?_
  refine el_sld (n := i + 1) (pc' := 1172) (nI_add i 1) (by omega) (by omega) dL_law_1171 rfl ?_
  refine el_callR (pc' := 1175) (sa := [iv (xs (i + 1)), qv (some M)]) (st := [iv x]) (pu := [iv x]) (x := x) (R1 := R1) rfl (iv_L_134 M (xs (i + 1))) ((onT_e (S := sy R (sX C1) (sS C1)) tM).trans hQ) (by decide) dL_law_1172 rfl (Nat.le_of_ble_eq_true rfl) ⟨by omega, by omega⟩ (hap2 C1 R1 hR1) ?_
  refine el_icmp_eq (pc' := 1338) dL_law_1175 (by decide) ?_
  rw [q1, q2]
  exact hk C1 R1 hR1 _ _ (by omega) (by omega)
set_option maxRecDepth 20000 in
theorem lc_28 {Rl : St → St → Prop} {X M b L n0 i : Nat} {xs : Nat → Int32} {C R : St} {z y : Nat} (hs : ∀ C R z y z' y', Rl C R → Rl (sy C z y) (sy R z' y')) (hap2 : ∀ C R, Rl C R → ∀ a, sT C a = 0 ∨ sT R a = 0) (hL : L ≤ 3072) (hi : i + 6 ≤ L) (hR : Rl C R) (tX : sT C X = 10) (tM : sT R M = 11) (hz : z ≤ n0 + 80 + 4 * 512 + 4) (hy : y ≤ 70000 + 400 * 512) (A_job : ∀ (x0 : Int32) (x1 : Int32) (x2 : Int32), Alike Rl (pX10_job X x0 x1 x2) (pX11_job M x0 x1 x2)) (hk : ∀ C1 R1, Rl C1 R1 → ∀ z1 y1, z1 ≤ z + 4 → y1 ≤ y + 400 → EvL b L xs n0 1338 [(3, iv (nI i)), (0, qv (some b)), (1, qv (some X)), (2, qv (some M))] [] C1 R1 z1 y1) : EvL b L xs n0 1180 [(3, iv (nI i)), (0, qv (some b)), (1, qv (some X)), (2, qv (some M))] [] C R z y := by
  refine el_dom (fun hz dC dR hap => ?_)
  obtain ⟨x, C1, R1, hP, hQ, hR1, q1, q2, q3, q4, q5⟩ := (A_job (xs (i + 1)) (xs (i + 2)) (xs (i + 3))).two hs (C := C) (R := R) (z := z) (y := y) hR dC dR
  refine el_aload_n (pc' := 1181) dL_law_1180 rfl rfl ?_
  refine el_aload_n (pc' := 1182) dL_law_1181 rfl rfl ?_
  refine el_iload_n (pc' := 1183) dL_law_1182 rfl rfl ?_
  refine el_iconst (pc' := 1184) (1 : Int32) dL_law_1183 (by decide) rfl ?_
  refine el_iadd (pc' := 1185) dL_law_1184 rfl ?_
  refine el_sld (n := i + 1) (pc' := 1186) (nI_add i 1) (by omega) (by omega) dL_law_1185 rfl ?_
  refine el_aload_n (pc' := 1187) dL_law_1186 rfl rfl ?_
  refine el_iload_n (pc' := 1188) dL_law_1187 rfl rfl ?_
  refine el_iconst (pc' := 1189) (2 : Int32) dL_law_1188 (by decide) rfl ?_
  refine el_iadd (pc' := 1190) dL_law_1189 rfl ?_
  refine el_sld (n := i + 2) (pc' := 1191) (nI_add i 2) (by omega) (by omega) dL_law_1190 rfl ?_
  refine el_aload_n (pc' := 1192) dL_law_1191 rfl rfl ?_
  refine el_iload_n (pc' := 1193) dL_law_1192 rfl rfl ?_
  refine el_iconst (pc' := 1194) (3 : Int32) dL_law_1193 (by decide) rfl ?_
  refine el_iadd (pc' := 1195) dL_law_1194 rfl ?_
  refine el_sld (n := i + 3) (pc' := 1196) (nI_add i 3) (by omega) (by omega) dL_law_1195 rfl ?_
  refine el_callC (pc' := 1199) (sa := [iv (xs (i + 3)), iv (xs (i + 2)), iv (xs (i + 1)), qv (some X)]) (st := []) (pu := [iv x]) (x := x) (C1 := C1) rfl (iv_L_135 X (xs (i + 1)) (xs (i + 2)) (xs (i + 3))) ((onT_e (S := sy C z y) tX).trans hP) (by decide) dL_law_1196 rfl (by decide) ⟨by omega, by omega⟩ (fun a => by rw [← q3]; exact hap2 C1 R1 hR1 a) ?_
  refine el_aload_n (pc' := 1200) dL_law_1199 rfl rfl ?_
  refine el_aload_n (pc' := 1201) dL_law_1200 rfl rfl ?_
  refine el_iload_n (pc' := 1202) dL_law_1201 rfl rfl ?_
  refine el_iconst (pc' := 1203) (1 : Int32) dL_law_1202 (by decide) rfl ?_
  refine el_iadd (pc' := 1204) dL_law_1203 rfl ?_
  refine el_sld (n := i + 1) (pc' := 1205) (nI_add i 1) (by omega) (by omega) dL_law_1204 rfl ?_
  refine el_aload_n (pc' := 1206) dL_law_1205 rfl rfl ?_
  refine el_iload_n (pc' := 1207) dL_law_1206 rfl rfl ?_
  refine el_iconst (pc' := 1208) (2 : Int32) dL_law_1207 (by decide) rfl ?_
  refine el_iadd (pc' := 1209) dL_law_1208 rfl ?_
  refine el_sld (n := i + 2) (pc' := 1210) (nI_add i 2) (by omega) (by omega) dL_law_1209 rfl ?_
  refine el_aload_n (pc' := 1211) dL_law_1210 rfl rfl ?_
  refine el_iload_n (pc' := 1212) dL_law_1211 rfl rfl ?_
  refine el_iconst (pc' := 1213) (3 : Int32) dL_law_1212 (by decide) rfl ?_
  refine el_iadd (pc' := 1214) dL_law_1213 rfl ?_
  refine el_sld (n := i + 3) (pc' := 1215) (nI_add i 3) (by omega) (by omega) dL_law_1214 rfl ?_
  refine el_callR (pc' := 1218) (sa := [iv (xs (i + 3)), iv (xs (i + 2)), iv (xs (i + 1)), qv (some M)]) (st := [iv x]) (pu := [iv x]) (x := x) (R1 := R1) rfl (iv_L_138 M (xs (i + 1)) (xs (i + 2)) (xs (i + 3))) ((onT_e (S := sy R (sX C1) (sS C1)) tM).trans hQ) (by decide) dL_law_1215 rfl (Nat.le_of_ble_eq_true rfl) ⟨by omega, by omega⟩ (hap2 C1 R1 hR1) ?_
  refine el_icmp_eq (pc' := 1338) dL_law_1218 (by decide) ?_
  rw [q1, q2]
  exact hk C1 R1 hR1 _ _ (by omega) (by omega)
set_option maxRecDepth 20000 in
theorem lc_29 {Rl : St → St → Prop} {X M b L n0 i : Nat} {xs : Nat → Int32} {C R : St} {z y : Nat} (hs : ∀ C R z y z' y', Rl C R → Rl (sy C z y) (sy R z' y')) (hap2 : ∀ C R, Rl C R → ∀ a, sT C a = 0 ∨ sT R a = 0) (hL : L ≤ 3072) (hi : i + 6 ≤ L) (hR : Rl C R) (tX : sT C X = 10) (tM : sT R M = 11) (hz : z ≤ n0 + 80 + 4 * 512 + 4) (hy : y ≤ 70000 + 400 * 512) (A_plan : Alike Rl (pX10_plan X) (pX11_plan M)) (hk : ∀ C1 R1, Rl C1 R1 → ∀ z1 y1, z1 ≤ z + 4 → y1 ≤ y + 400 → EvL b L xs n0 1338 [(3, iv (nI i)), (0, qv (some b)), (1, qv (some X)), (2, qv (some M))] [] C1 R1 z1 y1) : EvL b L xs n0 1223 [(3, iv (nI i)), (0, qv (some b)), (1, qv (some X)), (2, qv (some M))] [] C R z y := by
  refine el_dom (fun hz dC dR hap => ?_)
  obtain ⟨x, C1, R1, hP, hQ, hR1, q1, q2, q3, q4, q5⟩ := (A_plan).two hs (C := C) (R := R) (z := z) (y := y) hR dC dR
  refine el_aload_n (pc' := 1224) dL_law_1223 rfl rfl ?_
  refine el_callC (pc' := 1227) (sa := [qv (some X)]) (st := []) (pu := [iv x]) (x := x) (C1 := C1) rfl (iv_L_139 X) ((onT_e (S := sy C z y) tX).trans hP) (by decide) dL_law_1224 rfl (by decide) ⟨by omega, by omega⟩ (fun a => by rw [← q3]; exact hap2 C1 R1 hR1 a) ?_
  refine el_aload_n (pc' := 1228) dL_law_1227 rfl rfl ?_
  refine el_callR (pc' := 1231) (sa := [qv (some M)]) (st := [iv x]) (pu := [iv x]) (x := x) (R1 := R1) rfl (iv_L_142 M) ((onT_e (S := sy R (sX C1) (sS C1)) tM).trans hQ) (by decide) dL_law_1228 rfl (Nat.le_of_ble_eq_true rfl) ⟨by omega, by omega⟩ (hap2 C1 R1 hR1) ?_
  refine el_icmp_eq (pc' := 1338) dL_law_1231 (by decide) ?_
  rw [q1, q2]
  exact hk C1 R1 hR1 _ _ (by omega) (by omega)
set_option maxRecDepth 20000 in
theorem lc_30 {Rl : St → St → Prop} {X M b L n0 i : Nat} {xs : Nat → Int32} {C R : St} {z y : Nat} (hs : ∀ C R z y z' y', Rl C R → Rl (sy C z y) (sy R z' y')) (hap2 : ∀ C R, Rl C R → ∀ a, sT C a = 0 ∨ sT R a = 0) (hL : L ≤ 3072) (hi : i + 6 ≤ L) (hR : Rl C R) (tX : sT C X = 10) (tM : sT R M = 11) (hz : z ≤ n0 + 80 + 4 * 512 + 4) (hy : y ≤ 70000 + 400 * 512) (A_planned : ∀ (x0 : Int32) (x1 : Int32), Alike Rl (pX10_planned X x0 x1) (pX11_planned M x0 x1)) (hk : ∀ C1 R1, Rl C1 R1 → ∀ z1 y1, z1 ≤ z + 4 → y1 ≤ y + 400 → EvL b L xs n0 1338 [(3, iv (nI i)), (0, qv (some b)), (1, qv (some X)), (2, qv (some M))] [] C1 R1 z1 y1) : EvL b L xs n0 1236 [(3, iv (nI i)), (0, qv (some b)), (1, qv (some X)), (2, qv (some M))] [] C R z y := by
  refine el_dom (fun hz dC dR hap => ?_)
  obtain ⟨x, C1, R1, hP, hQ, hR1, q1, q2, q3, q4, q5⟩ := (A_planned (xs (i + 1)) (xs (i + 2))).two hs (C := C) (R := R) (z := z) (y := y) hR dC dR
  refine el_aload_n (pc' := 1237) dL_law_1236 rfl rfl ?_
  refine el_aload_n (pc' := 1238) dL_law_1237 rfl rfl ?_
  refine el_iload_n (pc' := 1239) dL_law_1238 rfl rfl ?_
  refine el_iconst (pc' := 1240) (1 : Int32) dL_law_1239 (by decide) rfl ?_
  refine el_iadd (pc' := 1241) dL_law_1240 rfl ?_
  refine el_sld (n := i + 1) (pc' := 1242) (nI_add i 1) (by omega) (by omega) dL_law_1241 rfl ?_
  refine el_aload_n (pc' := 1243) dL_law_1242 rfl rfl ?_
  refine el_iload_n (pc' := 1244) dL_law_1243 rfl rfl ?_
  refine el_iconst (pc' := 1245) (2 : Int32) dL_law_1244 (by decide) rfl ?_
  refine el_iadd (pc' := 1246) dL_law_1245 rfl ?_
  refine el_sld (n := i + 2) (pc' := 1247) (nI_add i 2) (by omega) (by omega) dL_law_1246 rfl ?_
  refine el_callC (pc' := 1250) (sa := [iv (xs (i + 2)), iv (xs (i + 1)), qv (some X)]) (st := []) (pu := [iv x]) (x := x) (C1 := C1) rfl (iv_L_143 X (xs (i + 1)) (xs (i + 2))) ((onT_e (S := sy C z y) tX).trans hP) (by decide) dL_law_1247 rfl (by decide) ⟨by omega, by omega⟩ (fun a => by rw [← q3]; exact hap2 C1 R1 hR1 a) ?_
  refine el_aload_n (pc' := 1251) dL_law_1250 rfl rfl ?_
  refine el_aload_n (pc' := 1252) dL_law_1251 rfl rfl ?_
  refine el_iload_n (pc' := 1253) dL_law_1252 rfl rfl ?_
  refine el_iconst (pc' := 1254) (1 : Int32) dL_law_1253 (by decide) rfl ?_
  refine el_iadd (pc' := 1255) dL_law_1254 rfl ?_
  refine el_sld (n := i + 1) (pc' := 1256) (nI_add i 1) (by omega) (by omega) dL_law_1255 rfl ?_
  refine el_aload_n (pc' := 1257) dL_law_1256 rfl rfl ?_
  refine el_iload_n (pc' := 1258) dL_law_1257 rfl rfl ?_
  refine el_iconst (pc' := 1259) (2 : Int32) dL_law_1258 (by decide) rfl ?_
  refine el_iadd (pc' := 1260) dL_law_1259 rfl ?_
  refine el_sld (n := i + 2) (pc' := 1261) (nI_add i 2) (by omega) (by omega) dL_law_1260 rfl ?_
  refine el_callR (pc' := 1264) (sa := [iv (xs (i + 2)), iv (xs (i + 1)), qv (some M)]) (st := [iv x]) (pu := [iv x]) (x := x) (R1 := R1) rfl (iv_L_146 M (xs (i + 1)) (xs (i + 2))) ((onT_e (S := sy R (sX C1) (sS C1)) tM).trans hQ) (by decide) dL_law_1261 rfl (Nat.le_of_ble_eq_true rfl) ⟨by omega, by omega⟩ (hap2 C1 R1 hR1) ?_
  refine el_icmp_eq (pc' := 1338) dL_law_1264 (by decide) ?_
  rw [q1, q2]
  exact hk C1 R1 hR1 _ _ (by omega) (by omega)
set_option maxRecDepth 20000 in
theorem lc_31 {Rl : St → St → Prop} {X M b L n0 i : Nat} {xs : Nat → Int32} {C R : St} {z y : Nat} (hs : ∀ C R z y z' y', Rl C R → Rl (sy C z y) (sy R z' y')) (hap2 : ∀ C R, Rl C R → ∀ a, sT C a = 0 ∨ sT R a = 0) (hL : L ≤ 3072) (hi : i + 6 ≤ L) (hR : Rl C R) (tX : sT C X = 10) (tM : sT R M = 11) (hz : z ≤ n0 + 80 + 4 * 512 + 4) (hy : y ≤ 70000 + 400 * 512) (A_load : ∀ (x0 : Int32) (x1 : Int32), Alike Rl (pX10_load X x0 x1) (pX11_load M x0 x1)) (hk : ∀ C1 R1, Rl C1 R1 → ∀ z1 y1, z1 ≤ z + 4 → y1 ≤ y + 400 → EvL b L xs n0 1338 [(3, iv (nI i)), (0, qv (some b)), (1, qv (some X)), (2, qv (some M))] [] C1 R1 z1 y1) : EvL b L xs n0 1269 [(3, iv (nI i)), (0, qv (some b)), (1, qv (some X)), (2, qv (some M))] [] C R z y := by
  refine el_dom (fun hz dC dR hap => ?_)
  obtain ⟨x, C1, R1, hP, hQ, hR1, q1, q2, q3, q4, q5⟩ := (A_load (xs (i + 1)) (xs (i + 2))).two hs (C := C) (R := R) (z := z) (y := y) hR dC dR
  refine el_aload_n (pc' := 1270) dL_law_1269 rfl rfl ?_
  refine el_aload_n (pc' := 1271) dL_law_1270 rfl rfl ?_
  refine el_iload_n (pc' := 1272) dL_law_1271 rfl rfl ?_
  refine el_iconst (pc' := 1273) (1 : Int32) dL_law_1272 (by decide) rfl ?_
  refine el_iadd (pc' := 1274) dL_law_1273 rfl ?_
  refine el_sld (n := i + 1) (pc' := 1275) (nI_add i 1) (by omega) (by omega) dL_law_1274 rfl ?_
  refine el_aload_n (pc' := 1276) dL_law_1275 rfl rfl ?_
  refine el_iload_n (pc' := 1277) dL_law_1276 rfl rfl ?_
  refine el_iconst (pc' := 1278) (2 : Int32) dL_law_1277 (by decide) rfl ?_
  refine el_iadd (pc' := 1279) dL_law_1278 rfl ?_
  refine el_sld (n := i + 2) (pc' := 1280) (nI_add i 2) (by omega) (by omega) dL_law_1279 rfl ?_
  refine el_callC (pc' := 1283) (sa := [iv (xs (i + 2)), iv (xs (i + 1)), qv (some X)]) (st := []) (pu := [iv x]) (x := x) (C1 := C1) rfl (iv_L_147 X (xs (i + 1)) (xs (i + 2))) ((onT_e (S := sy C z y) tX).trans hP) (by decide) dL_law_1280 rfl (by decide) ⟨by omega, by omega⟩ (fun a => by rw [← q3]; exact hap2 C1 R1 hR1 a) ?_
  refine el_aload_n (pc' := 1284) dL_law_1283 rfl rfl ?_
  refine el_aload_n (pc' := 1285) dL_law_1284 rfl rfl ?_
  refine el_iload_n (pc' := 1286) dL_law_1285 rfl rfl ?_
  refine el_iconst (pc' := 1287) (1 : Int32) dL_law_1286 (by decide) rfl ?_
  refine el_iadd (pc' := 1288) dL_law_1287 rfl ?_
  refine el_sld (n := i + 1) (pc' := 1289) (nI_add i 1) (by omega) (by omega) dL_law_1288 rfl ?_
  refine el_aload_n (pc' := 1290) dL_law_1289 rfl rfl ?_
  refine el_iload_n (pc' := 1291) dL_law_1290 rfl rfl ?_
  refine el_iconst (pc' := 1292) (2 : Int32) dL_law_1291 (by decide) rfl ?_
  refine el_iadd (pc' := 1293) dL_law_1292 rfl ?_
  refine el_sld (n := i + 2) (pc' := 1294) (nI_add i 2) (by omega) (by omega) dL_law_1293 rfl ?_
  refine el_callR (pc' := 1297) (sa := [iv (xs (i + 2)), iv (xs (i + 1)), qv (some M)]) (st := [iv x]) (pu := [iv x]) (x := x) (R1 := R1) rfl (iv_L_150 M (xs (i + 1)) (xs (i + 2))) ((onT_e (S := sy R (sX C1) (sS C1)) tM).trans hQ) (by decide) dL_law_1294 rfl (Nat.le_of_ble_eq_true rfl) ⟨by omega, by omega⟩ (hap2 C1 R1 hR1) ?_
  refine el_icmp_eq (pc' := 1338) dL_law_1297 (by decide) ?_
  rw [q1, q2]
  exact hk C1 R1 hR1 _ _ (by omega) (by omega)
set_option maxRecDepth 20000 in
theorem lc_32 {Rl : St → St → Prop} {X M b L n0 i : Nat} {xs : Nat → Int32} {C R : St} {z y : Nat} (hs : ∀ C R z y z' y', Rl C R → Rl (sy C z y) (sy R z' y')) (hap2 : ∀ C R, Rl C R → ∀ a, sT C a = 0 ∨ sT R a = 0) (hL : L ≤ 3072) (hi : i + 6 ≤ L) (hR : Rl C R) (tX : sT C X = 10) (tM : sT R M = 11) (hz : z ≤ n0 + 80 + 4 * 512 + 4) (hy : y ≤ 70000 + 400 * 512) (A_count : ∀ (x0 : Int32), Alike Rl (pX10_count X x0) (pX11_count M x0)) (hk : ∀ C1 R1, Rl C1 R1 → ∀ z1 y1, z1 ≤ z + 4 → y1 ≤ y + 400 → EvL b L xs n0 1338 [(3, iv (nI i)), (0, qv (some b)), (1, qv (some X)), (2, qv (some M))] [] C1 R1 z1 y1) : EvL b L xs n0 1302 [(3, iv (nI i)), (0, qv (some b)), (1, qv (some X)), (2, qv (some M))] [] C R z y := by
  refine el_dom (fun hz dC dR hap => ?_)
  obtain ⟨x, C1, R1, hP, hQ, hR1, q1, q2, q3, q4, q5⟩ := (A_count (xs (i + 1))).two hs (C := C) (R := R) (z := z) (y := y) hR dC dR
  refine el_aload_n (pc' := 1303) dL_law_1302 rfl rfl ?_
  refine el_aload_n (pc' := 1304) dL_law_1303 rfl rfl ?_
  refine el_iload_n (pc' := 1305) dL_law_1304 rfl rfl ?_
  refine el_iconst (pc' := 1306) (1 : Int32) dL_law_1305 (by decide) rfl ?_
  refine el_iadd (pc' := 1307) dL_law_1306 rfl ?_
  refine el_sld (n := i + 1) (pc' := 1308) (nI_add i 1) (by omega) (by omega) dL_law_1307 rfl ?_
  refine el_callC (pc' := 1311) (sa := [iv (xs (i + 1)), qv (some X)]) (st := []) (pu := [iv x]) (x := x) (C1 := C1) rfl (iv_L_151 X (xs (i + 1))) ((onT_e (S := sy C z y) tX).trans hP) (by decide) dL_law_1308 rfl (by decide) ⟨by omega, by omega⟩ (fun a => by rw [← q3]; exact hap2 C1 R1 hR1 a) ?_
  refine el_aload_n (pc' := 1312) dL_law_1311 rfl rfl ?_
  refine el_aload_n (pc' := 1313) dL_law_1312 rfl rfl ?_
  refine el_iload_n (pc' := 1314) dL_law_1313 rfl rfl ?_
  refine el_iconst (pc' := 1315) (1 : Int32) dL_law_1314 (by decide) rfl ?_
  refine el_iadd (pc' := 1316) dL_law_1315 rfl ?_
  refine el_sld (n := i + 1) (pc' := 1317) (nI_add i 1) (by omega) (by omega) dL_law_1316 rfl ?_
  refine el_callR (pc' := 1320) (sa := [iv (xs (i + 1)), qv (some M)]) (st := [iv x]) (pu := [iv x]) (x := x) (R1 := R1) rfl (iv_L_154 M (xs (i + 1))) ((onT_e (S := sy R (sX C1) (sS C1)) tM).trans hQ) (by decide) dL_law_1317 rfl (Nat.le_of_ble_eq_true rfl) ⟨by omega, by omega⟩ (hap2 C1 R1 hR1) ?_
  refine el_icmp_eq (pc' := 1338) dL_law_1320 (by decide) ?_
  rw [q1, q2]
  exact hk C1 R1 hR1 _ _ (by omega) (by omega)
set_option maxRecDepth 20000 in
theorem lc_33 {Rl : St → St → Prop} {X M b L n0 i : Nat} {xs : Nat → Int32} {C R : St} {z y : Nat} (hs : ∀ C R z y z' y', Rl C R → Rl (sy C z y) (sy R z' y')) (hap2 : ∀ C R, Rl C R → ∀ a, sT C a = 0 ∨ sT R a = 0) (hL : L ≤ 3072) (hi : i + 6 ≤ L) (hR : Rl C R) (tX : sT C X = 10) (tM : sT R M = 11) (hz : z ≤ n0 + 80 + 4 * 512 + 4) (hy : y ≤ 70000 + 400 * 512) (A_status : Alike Rl (pX10_status X) (pX11_status M)) (hk : ∀ C1 R1, Rl C1 R1 → ∀ z1 y1, z1 ≤ z + 4 → y1 ≤ y + 400 → EvL b L xs n0 1338 [(3, iv (nI i)), (0, qv (some b)), (1, qv (some X)), (2, qv (some M))] [] C1 R1 z1 y1) : EvL b L xs n0 1325 [(3, iv (nI i)), (0, qv (some b)), (1, qv (some X)), (2, qv (some M))] [] C R z y := by
  refine el_dom (fun hz dC dR hap => ?_)
  obtain ⟨x, C1, R1, hP, hQ, hR1, q1, q2, q3, q4, q5⟩ := (A_status).two hs (C := C) (R := R) (z := z) (y := y) hR dC dR
  refine el_aload_n (pc' := 1326) dL_law_1325 rfl rfl ?_
  refine el_callC (pc' := 1329) (sa := [qv (some X)]) (st := []) (pu := [iv x]) (x := x) (C1 := C1) rfl (iv_L_155 X) ((onT_e (S := sy C z y) tX).trans hP) (by decide) dL_law_1326 rfl (by decide) ⟨by omega, by omega⟩ (fun a => by rw [← q3]; exact hap2 C1 R1 hR1 a) ?_
  refine el_aload_n (pc' := 1330) dL_law_1329 rfl rfl ?_
  refine el_callR (pc' := 1333) (sa := [qv (some M)]) (st := [iv x]) (pu := [iv x]) (x := x) (R1 := R1) rfl (iv_L_158 M) ((onT_e (S := sy R (sX C1) (sS C1)) tM).trans hQ) (by decide) dL_law_1330 rfl (Nat.le_of_ble_eq_true rfl) ⟨by omega, by omega⟩ (hap2 C1 R1 hR1) ?_
  refine el_icmp_eq (pc' := 1338) dL_law_1333 (by decide) ?_
  rw [q1, q2]
  exact hk C1 R1 hR1 _ _ (by omega) (by omega)
