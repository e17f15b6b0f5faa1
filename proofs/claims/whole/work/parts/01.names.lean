-- ===== PART A: goes FIRST, ahead of the names: the tables' words, and 'selects' of the private methods out of them =====
/-- a private method of a class that the tables say can be made, by its rows of tables_1 -/
def lw_okq (q : MethodName × Nat) : Prop := (q.1.cls ≠ "java/lang/invoke/MethodHandle" ∧ q.1.cls ≠ "java/lang/invoke/VarHandle") ∧ Cond.instantiable q.1.cls q.2 ∈ tables_1 ∧ Cond.privateMethod q.1 ∈ tables_1 ∧ Cond.instanceMethod q.1 ∈ tables_1
theorem lw_p0 : lw_okq (⟨"HollowPress", "found", "(I)I"⟩, 7) := ⟨⟨by decide +kernel, by decide +kernel⟩, List.mem_of_getElem? (i := 17) (by decide +kernel), List.mem_of_getElem? (i := 194) (by decide +kernel), List.mem_of_getElem? (i := 195) (by decide +kernel)⟩
theorem lw_p1 : lw_okq (⟨"HollowPress", "fine", "(I)I"⟩, 7) := ⟨⟨by decide +kernel, by decide +kernel⟩, List.mem_of_getElem? (i := 17) (by decide +kernel), List.mem_of_getElem? (i := 217) (by decide +kernel), List.mem_of_getElem? (i := 218) (by decide +kernel)⟩
theorem lw_p2 : lw_okq (⟨"HollowPress", "shelve", "(ILHollowPress$Thing;)I"⟩, 7) := ⟨⟨by decide +kernel, by decide +kernel⟩, List.mem_of_getElem? (i := 17) (by decide +kernel), List.mem_of_getElem? (i := 360) (by decide +kernel), List.mem_of_getElem? (i := 361) (by decide +kernel)⟩
theorem lw_p3 : lw_okq (⟨"HollowPress$Layers", "greatest", "()I"⟩, 3) := ⟨⟨by decide +kernel, by decide +kernel⟩, List.mem_of_getElem? (i := 383) (by decide +kernel), List.mem_of_getElem? (i := 474) (by decide +kernel), List.mem_of_getElem? (i := 475) (by decide +kernel)⟩
theorem lw_p4 : lw_okq (⟨"HollowPress", "otherThing", "(I)I"⟩, 7) := ⟨⟨by decide +kernel, by decide +kernel⟩, List.mem_of_getElem? (i := 17) (by decide +kernel), List.mem_of_getElem? (i := 503) (by decide +kernel), List.mem_of_getElem? (i := 504) (by decide +kernel)⟩
theorem lw_p5 : lw_okq (⟨"HollowPress$Flow", "layOut", "(LHollowPress$Part;)V"⟩, 10) := ⟨⟨by decide +kernel, by decide +kernel⟩, List.mem_of_getElem? (i := 43) (by decide +kernel), List.mem_of_getElem? (i := 539) (by decide +kernel), List.mem_of_getElem? (i := 540) (by decide +kernel)⟩
theorem lw_p6 : lw_okq (⟨"HollowPress$Flow", "join", "(IIIZ)V"⟩, 10) := ⟨⟨by decide +kernel, by decide +kernel⟩, List.mem_of_getElem? (i := 43) (by decide +kernel), List.mem_of_getElem? (i := 554) (by decide +kernel), List.mem_of_getElem? (i := 555) (by decide +kernel)⟩
theorem lw_p7 : lw_okq (⟨"HollowPress$Flow", "empty", "()V"⟩, 10) := ⟨⟨by decide +kernel, by decide +kernel⟩, List.mem_of_getElem? (i := 43) (by decide +kernel), List.mem_of_getElem? (i := 560) (by decide +kernel), List.mem_of_getElem? (i := 561) (by decide +kernel)⟩
theorem lw_p8 : lw_okq (⟨"HollowPress$Flow", "startAt", "(II)V"⟩, 10) := ⟨⟨by decide +kernel, by decide +kernel⟩, List.mem_of_getElem? (i := 43) (by decide +kernel), List.mem_of_getElem? (i := 565) (by decide +kernel), List.mem_of_getElem? (i := 566) (by decide +kernel)⟩
theorem lw_p9 : lw_okq (⟨"HollowPress$Flow", "flowOn", "()V"⟩, 10) := ⟨⟨by decide +kernel, by decide +kernel⟩, List.mem_of_getElem? (i := 43) (by decide +kernel), List.mem_of_getElem? (i := 569) (by decide +kernel), List.mem_of_getElem? (i := 570) (by decide +kernel)⟩
theorem lw_p10 : lw_okq (⟨"HollowPress$Flow", "ease", "(I)Z"⟩, 10) := ⟨⟨by decide +kernel, by decide +kernel⟩, List.mem_of_getElem? (i := 43) (by decide +kernel), List.mem_of_getElem? (i := 573) (by decide +kernel), List.mem_of_getElem? (i := 574) (by decide +kernel)⟩
theorem lw_p11 : lw_okq (⟨"HollowPress$Flow", "putInOrder", "()V"⟩, 10) := ⟨⟨by decide +kernel, by decide +kernel⟩, List.mem_of_getElem? (i := 43) (by decide +kernel), List.mem_of_getElem? (i := 577) (by decide +kernel), List.mem_of_getElem? (i := 578) (by decide +kernel)⟩
theorem lw_p12 : lw_okq (⟨"HollowPress$Flow", "reached", "(I)Z"⟩, 10) := ⟨⟨by decide +kernel, by decide +kernel⟩, List.mem_of_getElem? (i := 43) (by decide +kernel), List.mem_of_getElem? (i := 581) (by decide +kernel), List.mem_of_getElem? (i := 582) (by decide +kernel)⟩
theorem lw_p13 : lw_okq (⟨"HollowPress$Flow", "isLastAround", "(I)Z"⟩, 10) := ⟨⟨by decide +kernel, by decide +kernel⟩, List.mem_of_getElem? (i := 43) (by decide +kernel), List.mem_of_getElem? (i := 643) (by decide +kernel), List.mem_of_getElem? (i := 644) (by decide +kernel)⟩
theorem lw_p14 : lw_okq (⟨"HollowPress$Flow", "endsOfTrial", "()I"⟩, 10) := ⟨⟨by decide +kernel, by decide +kernel⟩, List.mem_of_getElem? (i := 43) (by decide +kernel), List.mem_of_getElem? (i := 664) (by decide +kernel), List.mem_of_getElem? (i := 665) (by decide +kernel)⟩
theorem lw_p15 : lw_okq (⟨"HollowPress$Runners", "measure", "()V"⟩, 11) := ⟨⟨by decide +kernel, by decide +kernel⟩, List.mem_of_getElem? (i := 80) (by decide +kernel), List.mem_of_getElem? (i := 711) (by decide +kernel), List.mem_of_getElem? (i := 712) (by decide +kernel)⟩
def lw_privs_1 : List (MethodName × Nat) := [(⟨"HollowPress", "found", "(I)I"⟩, 7), (⟨"HollowPress", "fine", "(I)I"⟩, 7), (⟨"HollowPress", "shelve", "(ILHollowPress$Thing;)I"⟩, 7), (⟨"HollowPress$Layers", "greatest", "()I"⟩, 3), (⟨"HollowPress", "otherThing", "(I)I"⟩, 7), (⟨"HollowPress$Flow", "layOut", "(LHollowPress$Part;)V"⟩, 10), (⟨"HollowPress$Flow", "join", "(IIIZ)V"⟩, 10), (⟨"HollowPress$Flow", "empty", "()V"⟩, 10), (⟨"HollowPress$Flow", "startAt", "(II)V"⟩, 10), (⟨"HollowPress$Flow", "flowOn", "()V"⟩, 10), (⟨"HollowPress$Flow", "ease", "(I)Z"⟩, 10), (⟨"HollowPress$Flow", "putInOrder", "()V"⟩, 10), (⟨"HollowPress$Flow", "reached", "(I)Z"⟩, 10), (⟨"HollowPress$Flow", "isLastAround", "(I)Z"⟩, 10), (⟨"HollowPress$Flow", "endsOfTrial", "()I"⟩, 10), (⟨"HollowPress$Runners", "measure", "()V"⟩, 11)]
theorem lw_r1 : ∀ q ∈ lw_privs_1, lw_okq q := List.forall_mem_cons.mpr ⟨lw_p0, List.forall_mem_cons.mpr ⟨lw_p1, List.forall_mem_cons.mpr ⟨lw_p2, List.forall_mem_cons.mpr ⟨lw_p3, List.forall_mem_cons.mpr ⟨lw_p4, List.forall_mem_cons.mpr ⟨lw_p5, List.forall_mem_cons.mpr ⟨lw_p6, List.forall_mem_cons.mpr ⟨lw_p7, List.forall_mem_cons.mpr ⟨lw_p8, List.forall_mem_cons.mpr ⟨lw_p9, List.forall_mem_cons.mpr ⟨lw_p10, List.forall_mem_cons.mpr ⟨lw_p11, List.forall_mem_cons.mpr ⟨lw_p12, List.forall_mem_cons.mpr ⟨lw_p13, List.forall_mem_cons.mpr ⟨lw_p14, List.forall_mem_cons.mpr ⟨lw_p15, fun _ h => absurd h List.not_mem_nil⟩⟩⟩⟩⟩⟩⟩⟩⟩⟩⟩⟩⟩⟩⟩⟩
theorem lw_p16 : lw_okq (⟨"HollowPress$Runners", "dragUpTo", "(II)I"⟩, 11) := ⟨⟨by decide +kernel, by decide +kernel⟩, List.mem_of_getElem? (i := 80) (by decide +kernel), List.mem_of_getElem? (i := 715) (by decide +kernel), List.mem_of_getElem? (i := 716) (by decide +kernel)⟩
theorem lw_p17 : lw_okq (⟨"HollowPress$Runners", "tryFrom", "(IIII)V"⟩, 11) := ⟨⟨by decide +kernel, by decide +kernel⟩, List.mem_of_getElem? (i := 80) (by decide +kernel), List.mem_of_getElem? (i := 754) (by decide +kernel), List.mem_of_getElem? (i := 755) (by decide +kernel)⟩
theorem lw_p18 : lw_okq (⟨"HollowPress$Layers", "beatOnce", "(I)V"⟩, 3) := ⟨⟨by decide +kernel, by decide +kernel⟩, List.mem_of_getElem? (i := 383) (by decide +kernel), List.mem_of_getElem? (i := 771) (by decide +kernel), List.mem_of_getElem? (i := 772) (by decide +kernel)⟩
theorem lw_p19 : lw_okq (⟨"HollowPress$Presses", "forgetPlan", "()V"⟩, 9) := ⟨⟨by decide +kernel, by decide +kernel⟩, List.mem_of_getElem? (i := 124) (by decide +kernel), List.mem_of_getElem? (i := 789) (by decide +kernel), List.mem_of_getElem? (i := 790) (by decide +kernel)⟩
theorem lw_p20 : lw_okq (⟨"HollowPress$Presses", "pressFor", "(I)I"⟩, 9) := ⟨⟨by decide +kernel, by decide +kernel⟩, List.mem_of_getElem? (i := 124) (by decide +kernel), List.mem_of_getElem? (i := 809) (by decide +kernel), List.mem_of_getElem? (i := 810) (by decide +kernel)⟩
theorem lw_p21 : lw_okq (⟨"HollowPress$Presses", "putOn", "(II)V"⟩, 9) := ⟨⟨by decide +kernel, by decide +kernel⟩, List.mem_of_getElem? (i := 124) (by decide +kernel), List.mem_of_getElem? (i := 814) (by decide +kernel), List.mem_of_getElem? (i := 815) (by decide +kernel)⟩
theorem lw_p22 : lw_okq (⟨"HollowPress", "sheetsThere", "()I"⟩, 7) := ⟨⟨by decide +kernel, by decide +kernel⟩, List.mem_of_getElem? (i := 17) (by decide +kernel), List.mem_of_getElem? (i := 840) (by decide +kernel), List.mem_of_getElem? (i := 841) (by decide +kernel)⟩
theorem lw_p23 : lw_okq (⟨"HollowPress", "thingsOfKind", "(I)I"⟩, 7) := ⟨⟨by decide +kernel, by decide +kernel⟩, List.mem_of_getElem? (i := 17) (by decide +kernel), List.mem_of_getElem? (i := 844) (by decide +kernel), List.mem_of_getElem? (i := 845) (by decide +kernel)⟩
theorem lw_p24 : lw_okq (⟨"HollowPressModel", "found", "(I)I"⟩, 45) := ⟨⟨by decide +kernel, by decide +kernel⟩, List.mem_of_getElem? (i := 852) (by decide +kernel), List.mem_of_getElem? (i := 1008) (by decide +kernel), List.mem_of_getElem? (i := 1009) (by decide +kernel)⟩
theorem lw_p25 : lw_okq (⟨"HollowPressModel", "hasItems", "(III)Z"⟩, 45) := ⟨⟨by decide +kernel, by decide +kernel⟩, List.mem_of_getElem? (i := 852) (by decide +kernel), List.mem_of_getElem? (i := 1036) (by decide +kernel), List.mem_of_getElem? (i := 1037) (by decide +kernel)⟩
theorem lw_p26 : lw_okq (⟨"HollowPressModel", "weight", "(I)I"⟩, 45) := ⟨⟨by decide +kernel, by decide +kernel⟩, List.mem_of_getElem? (i := 852) (by decide +kernel), List.mem_of_getElem? (i := 1066) (by decide +kernel), List.mem_of_getElem? (i := 1067) (by decide +kernel)⟩
theorem lw_p27 : lw_okq (⟨"HollowPressModel", "began", "(I)V"⟩, 45) := ⟨⟨by decide +kernel, by decide +kernel⟩, List.mem_of_getElem? (i := 852) (by decide +kernel), List.mem_of_getElem? (i := 1070) (by decide +kernel), List.mem_of_getElem? (i := 1071) (by decide +kernel)⟩
theorem lw_p28 : lw_okq (⟨"HollowPressModel", "marked", "(I)I"⟩, 45) := ⟨⟨by decide +kernel, by decide +kernel⟩, List.mem_of_getElem? (i := 852) (by decide +kernel), List.mem_of_getElem? (i := 1074) (by decide +kernel), List.mem_of_getElem? (i := 1075) (by decide +kernel)⟩
theorem lw_p29 : lw_okq (⟨"HollowPressModel", "asked", "(II)I"⟩, 45) := ⟨⟨by decide +kernel, by decide +kernel⟩, List.mem_of_getElem? (i := 852) (by decide +kernel), List.mem_of_getElem? (i := 1087) (by decide +kernel), List.mem_of_getElem? (i := 1088) (by decide +kernel)⟩
theorem lw_p30 : lw_okq (⟨"HollowPressModel", "isCell", "(II)Z"⟩, 45) := ⟨⟨by decide +kernel, by decide +kernel⟩, List.mem_of_getElem? (i := 852) (by decide +kernel), List.mem_of_getElem? (i := 1091) (by decide +kernel), List.mem_of_getElem? (i := 1092) (by decide +kernel)⟩
theorem lw_p31 : lw_okq (⟨"HollowPressModel", "fill", "(II)V"⟩, 45) := ⟨⟨by decide +kernel, by decide +kernel⟩, List.mem_of_getElem? (i := 852) (by decide +kernel), List.mem_of_getElem? (i := 1104) (by decide +kernel), List.mem_of_getElem? (i := 1105) (by decide +kernel)⟩
def lw_privs_2 : List (MethodName × Nat) := [(⟨"HollowPress$Runners", "dragUpTo", "(II)I"⟩, 11), (⟨"HollowPress$Runners", "tryFrom", "(IIII)V"⟩, 11), (⟨"HollowPress$Layers", "beatOnce", "(I)V"⟩, 3), (⟨"HollowPress$Presses", "forgetPlan", "()V"⟩, 9), (⟨"HollowPress$Presses", "pressFor", "(I)I"⟩, 9), (⟨"HollowPress$Presses", "putOn", "(II)V"⟩, 9), (⟨"HollowPress", "sheetsThere", "()I"⟩, 7), (⟨"HollowPress", "thingsOfKind", "(I)I"⟩, 7), (⟨"HollowPressModel", "found", "(I)I"⟩, 45), (⟨"HollowPressModel", "hasItems", "(III)Z"⟩, 45), (⟨"HollowPressModel", "weight", "(I)I"⟩, 45), (⟨"HollowPressModel", "began", "(I)V"⟩, 45), (⟨"HollowPressModel", "marked", "(I)I"⟩, 45), (⟨"HollowPressModel", "asked", "(II)I"⟩, 45), (⟨"HollowPressModel", "isCell", "(II)Z"⟩, 45), (⟨"HollowPressModel", "fill", "(II)V"⟩, 45)]
theorem lw_r2 : ∀ q ∈ lw_privs_2, lw_okq q := List.forall_mem_cons.mpr ⟨lw_p16, List.forall_mem_cons.mpr ⟨lw_p17, List.forall_mem_cons.mpr ⟨lw_p18, List.forall_mem_cons.mpr ⟨lw_p19, List.forall_mem_cons.mpr ⟨lw_p20, List.forall_mem_cons.mpr ⟨lw_p21, List.forall_mem_cons.mpr ⟨lw_p22, List.forall_mem_cons.mpr ⟨lw_p23, List.forall_mem_cons.mpr ⟨lw_p24, List.forall_mem_cons.mpr ⟨lw_p25, List.forall_mem_cons.mpr ⟨lw_p26, List.forall_mem_cons.mpr ⟨lw_p27, List.forall_mem_cons.mpr ⟨lw_p28, List.forall_mem_cons.mpr ⟨lw_p29, List.forall_mem_cons.mpr ⟨lw_p30, List.forall_mem_cons.mpr ⟨lw_p31, fun _ h => absurd h List.not_mem_nil⟩⟩⟩⟩⟩⟩⟩⟩⟩⟩⟩⟩⟩⟩⟩⟩
theorem lw_p32 : lw_okq (⟨"HollowPressModel", "next", "()I"⟩, 45) := ⟨⟨by decide +kernel, by decide +kernel⟩, List.mem_of_getElem? (i := 852) (by decide +kernel), List.mem_of_getElem? (i := 1111) (by decide +kernel), List.mem_of_getElem? (i := 1112) (by decide +kernel)⟩
theorem lw_p33 : lw_okq (⟨"HollowPressModel", "neighbour", "(III)I"⟩, 45) := ⟨⟨by decide +kernel, by decide +kernel⟩, List.mem_of_getElem? (i := 852) (by decide +kernel), List.mem_of_getElem? (i := 1115) (by decide +kernel), List.mem_of_getElem? (i := 1116) (by decide +kernel)⟩
theorem lw_p34 : lw_okq (⟨"HollowPressModel", "ends", "()I"⟩, 45) := ⟨⟨by decide +kernel, by decide +kernel⟩, List.mem_of_getElem? (i := 852) (by decide +kernel), List.mem_of_getElem? (i := 1136) (by decide +kernel), List.mem_of_getElem? (i := 1137) (by decide +kernel)⟩
theorem lw_p35 : lw_okq (⟨"HollowPressModel", "hanging", "()I"⟩, 45) := ⟨⟨by decide +kernel, by decide +kernel⟩, List.mem_of_getElem? (i := 852) (by decide +kernel), List.mem_of_getElem? (i := 1149) (by decide +kernel), List.mem_of_getElem? (i := 1150) (by decide +kernel)⟩
theorem lw_p36 : lw_okq (⟨"HollowPressModel", "findEnds", "()V"⟩, 45) := ⟨⟨by decide +kernel, by decide +kernel⟩, List.mem_of_getElem? (i := 852) (by decide +kernel), List.mem_of_getElem? (i := 1161) (by decide +kernel), List.mem_of_getElem? (i := 1162) (by decide +kernel)⟩
theorem lw_p37 : lw_okq (⟨"HollowPressModel", "endOf", "(I)I"⟩, 45) := ⟨⟨by decide +kernel, by decide +kernel⟩, List.mem_of_getElem? (i := 852) (by decide +kernel), List.mem_of_getElem? (i := 1165) (by decide +kernel), List.mem_of_getElem? (i := 1166) (by decide +kernel)⟩
theorem lw_p38 : lw_okq (⟨"HollowPressModel", "spread", "()I"⟩, 45) := ⟨⟨by decide +kernel, by decide +kernel⟩, List.mem_of_getElem? (i := 852) (by decide +kernel), List.mem_of_getElem? (i := 1173) (by decide +kernel), List.mem_of_getElem? (i := 1174) (by decide +kernel)⟩
theorem lw_p39 : lw_okq (⟨"HollowPressModel", "mass", "()I"⟩, 45) := ⟨⟨by decide +kernel, by decide +kernel⟩, List.mem_of_getElem? (i := 852) (by decide +kernel), List.mem_of_getElem? (i := 1177) (by decide +kernel), List.mem_of_getElem? (i := 1178) (by decide +kernel)⟩
theorem lw_p40 : lw_okq (⟨"HollowPressModel", "lay", "(II)V"⟩, 45) := ⟨⟨by decide +kernel, by decide +kernel⟩, List.mem_of_getElem? (i := 852) (by decide +kernel), List.mem_of_getElem? (i := 1185) (by decide +kernel), List.mem_of_getElem? (i := 1186) (by decide +kernel)⟩
theorem lw_p41 : lw_okq (⟨"HollowPressModel", "isAbove", "(II)Z"⟩, 45) := ⟨⟨by decide +kernel, by decide +kernel⟩, List.mem_of_getElem? (i := 852) (by decide +kernel), List.mem_of_getElem? (i := 1199) (by decide +kernel), List.mem_of_getElem? (i := 1200) (by decide +kernel)⟩
theorem lw_p42 : lw_okq (⟨"HollowPressModel", "times", "(I)I"⟩, 45) := ⟨⟨by decide +kernel, by decide +kernel⟩, List.mem_of_getElem? (i := 852) (by decide +kernel), List.mem_of_getElem? (i := 1221) (by decide +kernel), List.mem_of_getElem? (i := 1222) (by decide +kernel)⟩
theorem lw_p43 : lw_okq (⟨"HollowPressModel", "putInOrder", "(I)V"⟩, 45) := ⟨⟨by decide +kernel, by decide +kernel⟩, List.mem_of_getElem? (i := 852) (by decide +kernel), List.mem_of_getElem? (i := 1225) (by decide +kernel), List.mem_of_getElem? (i := 1226) (by decide +kernel)⟩
theorem lw_p44 : lw_okq (⟨"HollowPressModel", "pain", "(II)I"⟩, 45) := ⟨⟨by decide +kernel, by decide +kernel⟩, List.mem_of_getElem? (i := 852) (by decide +kernel), List.mem_of_getElem? (i := 1229) (by decide +kernel), List.mem_of_getElem? (i := 1230) (by decide +kernel)⟩
def lw_privs_3 : List (MethodName × Nat) := [(⟨"HollowPressModel", "next", "()I"⟩, 45), (⟨"HollowPressModel", "neighbour", "(III)I"⟩, 45), (⟨"HollowPressModel", "ends", "()I"⟩, 45), (⟨"HollowPressModel", "hanging", "()I"⟩, 45), (⟨"HollowPressModel", "findEnds", "()V"⟩, 45), (⟨"HollowPressModel", "endOf", "(I)I"⟩, 45), (⟨"HollowPressModel", "spread", "()I"⟩, 45), (⟨"HollowPressModel", "mass", "()I"⟩, 45), (⟨"HollowPressModel", "lay", "(II)V"⟩, 45), (⟨"HollowPressModel", "isAbove", "(II)Z"⟩, 45), (⟨"HollowPressModel", "times", "(I)I"⟩, 45), (⟨"HollowPressModel", "putInOrder", "(I)V"⟩, 45), (⟨"HollowPressModel", "pain", "(II)I"⟩, 45)]
theorem lw_r3 : ∀ q ∈ lw_privs_3, lw_okq q := List.forall_mem_cons.mpr ⟨lw_p32, List.forall_mem_cons.mpr ⟨lw_p33, List.forall_mem_cons.mpr ⟨lw_p34, List.forall_mem_cons.mpr ⟨lw_p35, List.forall_mem_cons.mpr ⟨lw_p36, List.forall_mem_cons.mpr ⟨lw_p37, List.forall_mem_cons.mpr ⟨lw_p38, List.forall_mem_cons.mpr ⟨lw_p39, List.forall_mem_cons.mpr ⟨lw_p40, List.forall_mem_cons.mpr ⟨lw_p41, List.forall_mem_cons.mpr ⟨lw_p42, List.forall_mem_cons.mpr ⟨lw_p43, List.forall_mem_cons.mpr ⟨lw_p44, fun _ h => absurd h List.not_mem_nil⟩⟩⟩⟩⟩⟩⟩⟩⟩⟩⟩⟩⟩
def lw_privs : List (MethodName × Nat) := lw_privs_1 ++ (lw_privs_2 ++ (lw_privs_3))
def lw_tbl : List Cond := k2_sels lw_privs ++ tables_1
theorem lw_privs_ok : ∀ q ∈ lw_privs, lw_okq q := by
  show ∀ q ∈ lw_privs_1 ++ (lw_privs_2 ++ (lw_privs_3)), lw_okq q
  exact List.forall_mem_append.mpr ⟨lw_r1, List.forall_mem_append.mpr ⟨lw_r2, lw_r3⟩⟩
def RX0 : String := "HollowPress$EvenPart"
def TX0 : u_T := fun k => match k with
  | 0 => ("HollowPress$Part", "w", "I", true)
  | 1 => ("HollowPress$Part", "h", "I", true)
  | 2 => ("HollowPress$Part", "thick", "[I", true)
  | 3 => ("HollowPress$Part", "vented", "[Z", true)
  | 4 => ("HollowPress$Part", "gates", "[I", true)
  | 5 => ("HollowPress$Part", "gateCount", "I", false)
  | 6 => ("HollowPress$Part", "ends", "I", false)
  | 7 => ("HollowPress$Part", "bestKnown", "Z", false)
  | _ => ("HollowPress$Part", "bestGate", "I", false)
def tyX0 : Nat → FieldType := fun k => match k with
  | 0 => .int
  | 1 => .int
  | 2 => .array .int
  | 3 => .array .boolean
  | 4 => .array .int
  | 5 => .int
  | 6 => .int
  | 7 => .boolean
  | _ => .int
abbrev wsX00 : List Cond := u_ws RX0 TX0 9
theorem nmX0 : ∀ a, a < 9 → ∀ b, b < 9 → a ≠ b → (TX0 a).2.1 ≠ (TX0 b).2.1 := by decide +kernel
theorem tyX0_ok : ∀ k, k < 9 → parseFieldDescriptor (TX0 k).2.2.1 = some (tyX0 k) := by decide +kernel
abbrev cX0_init : ByteArray := prog_2_method_1_code
def yX0_init : MethodName := ⟨RX0, "<init>", "(II[I)V"⟩
abbrev cX0_told : ByteArray := prog_2_method_2_code
def yX0_told : MethodName := ⟨RX0, "told", "()I"⟩
abbrev cX0_isOf : ByteArray := prog_2_method_3_code
def yX0_isOf : MethodName := ⟨RX0, "isOf", "(I)Z"⟩
abbrev cX0_weigh : ByteArray := prog_2_method_4_code
def yX0_weigh : MethodName := ⟨RX0, "weigh", "(LHollowPress$Trace;)I"⟩
def RX1 : String := "HollowPress$Flow"
def TX1 : u_T := fun k => match k with
  | 0 => ("HollowPress$Flow", "drags", "[I", true)
  | 1 => ("HollowPress$Flow", "beside", "[I", true)
  | 2 => ("HollowPress$Flow", "least", "[I", true)
  | 3 => ("HollowPress$Flow", "order", "[I", true)
  | 4 => ("HollowPress$Flow", "ranks", "[I", true)
  | 5 => ("HollowPress$Flow", "endsAtLeast", "[I", true)
  | 6 => ("HollowPress$Flow", "cells", "I", false)
  | 7 => ("HollowPress$Flow", "filled", "I", false)
  | 8 => ("HollowPress$Flow", "of", "LHollowPress$Part;", false)
  | _ => ("HollowPress$Flow", "gatesThen", "I", false)
def tyX1 : Nat → FieldType := fun k => match k with
  | 0 => .array .int
  | 1 => .array .int
  | 2 => .array .int
  | 3 => .array .int
  | 4 => .array .int
  | 5 => .array .int
  | 6 => .int
  | 7 => .int
  | 8 => .object "HollowPress$Part"
  | _ => .int
abbrev wsX10 : List Cond := u_ws RX1 TX1 10
theorem nmX1 : ∀ a, a < 10 → ∀ b, b < 10 → a ≠ b → (TX1 a).2.1 ≠ (TX1 b).2.1 := by decide +kernel
theorem tyX1_ok : ∀ k, k < 10 → parseFieldDescriptor (TX1 k).2.2.1 = some (tyX1 k) := by decide +kernel
abbrev cX1_init : ByteArray := prog_3_method_1_code
def yX1_init : MethodName := ⟨RX1, "<init>", "()V"⟩
abbrev cX1_fill : ByteArray := prog_3_method_2_code
def yX1_fill : MethodName := ⟨RX1, "fill", "(LHollowPress$Part;)V"⟩
abbrev cX1_endsOf : ByteArray := prog_3_method_3_code
def yX1_endsOf : MethodName := ⟨RX1, "endsOf", "(LHollowPress$Part;)I"⟩
abbrev cX1_strain : ByteArray := prog_3_method_4_code
def yX1_strain : MethodName := ⟨RX1, "strain", "(I)I"⟩
abbrev cX1_front : ByteArray := prog_3_method_5_code
def yX1_front : MethodName := ⟨RX1, "front", "(I)I"⟩
abbrev cX1_rank : ByteArray := prog_3_method_6_code
def yX1_rank : MethodName := ⟨RX1, "rank", "(I)I"⟩
abbrev cX1_filledUpTo : ByteArray := prog_3_method_7_code
def yX1_filledUpTo : MethodName := ⟨RX1, "filledUpTo", "(ILHollowPress$Part;)I"⟩
abbrev cX1_cellOfMeeting : ByteArray := prog_3_method_8_code
def yX1_cellOfMeeting : MethodName := ⟨RX1, "cellOfMeeting", "(II)I"⟩
abbrev cX1_cellOfTrap : ByteArray := prog_3_method_9_code
def yX1_cellOfTrap : MethodName := ⟨RX1, "cellOfTrap", "(ILHollowPress$Part;)I"⟩
abbrev cX1_forceAt : ByteArray := prog_3_method_10_code
def yX1_forceAt : MethodName := ⟨RX1, "forceAt", "(I)J"⟩
abbrev cX1_bestGate : ByteArray := prog_3_method_11_code
def yX1_bestGate : MethodName := ⟨RX1, "bestGate", "(LHollowPress$Part;)I"⟩
abbrev cX1_endsOfTrial : ByteArray := prog_3_method_12_code
def yX1_endsOfTrial : MethodName := ⟨RX1, "endsOfTrial", "()I"⟩
abbrev cX1_reached : ByteArray := prog_3_method_13_code
def yX1_reached : MethodName := ⟨RX1, "reached", "(I)Z"⟩
abbrev cX1_isLastAround : ByteArray := prog_3_method_14_code
def yX1_isLastAround : MethodName := ⟨RX1, "isLastAround", "(I)Z"⟩
abbrev cX1_layOut : ByteArray := prog_3_method_15_code
def yX1_layOut : MethodName := ⟨RX1, "layOut", "(LHollowPress$Part;)V"⟩
abbrev cX1_join : ByteArray := prog_3_method_16_code
def yX1_join : MethodName := ⟨RX1, "join", "(IIIZ)V"⟩
abbrev cX1_empty : ByteArray := prog_3_method_17_code
def yX1_empty : MethodName := ⟨RX1, "empty", "()V"⟩
abbrev cX1_startAt : ByteArray := prog_3_method_18_code
def yX1_startAt : MethodName := ⟨RX1, "startAt", "(II)V"⟩
abbrev cX1_flowOn : ByteArray := prog_3_method_19_code
def yX1_flowOn : MethodName := ⟨RX1, "flowOn", "()V"⟩
abbrev cX1_ease : ByteArray := prog_3_method_20_code
def yX1_ease : MethodName := ⟨RX1, "ease", "(I)Z"⟩
abbrev cX1_putInOrder : ByteArray := prog_3_method_21_code
def yX1_putInOrder : MethodName := ⟨RX1, "putInOrder", "()V"⟩
def RX2 : String := "HollowPress$Layers"
def TX2 : u_T := fun k => match k with
  | 0 => ("HollowPress$Layers", "warm", "[I", true)
  | 1 => ("HollowPress$Layers", "wall", "I", true)
  | _ => ("HollowPress$Layers", "given", "I", false)
def tyX2 : Nat → FieldType := fun k => match k with
  | 0 => .array .int
  | 1 => .int
  | _ => .int
abbrev wsX20 : List Cond := u_ws RX2 TX2 3
theorem nmX2 : ∀ a, a < 3 → ∀ b, b < 3 → a ≠ b → (TX2 a).2.1 ≠ (TX2 b).2.1 := by decide +kernel
theorem tyX2_ok : ∀ k, k < 3 → parseFieldDescriptor (TX2 k).2.2.1 = some (tyX2 k) := by decide +kernel
abbrev cX2_init : ByteArray := prog_4_method_1_code
def yX2_init : MethodName := ⟨RX2, "<init>", "([II)V"⟩
abbrev cX2_told : ByteArray := prog_4_method_2_code
def yX2_told : MethodName := ⟨RX2, "told", "()I"⟩
abbrev cX2_isOf : ByteArray := prog_4_method_3_code
def yX2_isOf : MethodName := ⟨RX2, "isOf", "(I)Z"⟩
abbrev cX2_weigh : ByteArray := prog_4_method_4_code
def yX2_weigh : MethodName := ⟨RX2, "weigh", "(LHollowPress$Trace;)I"⟩
abbrev cX2_mark : ByteArray := prog_4_method_5_code
def yX2_mark : MethodName := ⟨RX2, "mark", "(LHollowPress$Trace;)I"⟩
abbrev cX2_greatest : ByteArray := prog_4_method_6_code
def yX2_greatest : MethodName := ⟨RX2, "greatest", "()I"⟩
abbrev cX2_beatTill : ByteArray := prog_4_method_7_code
def yX2_beatTill : MethodName := ⟨RX2, "beatTill", "(III)I"⟩
abbrev cX2_beatOnce : ByteArray := prog_4_method_8_code
def yX2_beatOnce : MethodName := ⟨RX2, "beatOnce", "(I)V"⟩
def RX3 : String := "HollowPress$Part"
def TX3 : u_T := fun k => match k with
  | 0 => ("HollowPress$Part", "w", "I", true)
  | 1 => ("HollowPress$Part", "h", "I", true)
  | 2 => ("HollowPress$Part", "thick", "[I", true)
  | 3 => ("HollowPress$Part", "vented", "[Z", true)
  | 4 => ("HollowPress$Part", "gates", "[I", true)
  | 5 => ("HollowPress$Part", "gateCount", "I", false)
  | 6 => ("HollowPress$Part", "ends", "I", false)
  | 7 => ("HollowPress$Part", "bestKnown", "Z", false)
  | _ => ("HollowPress$Part", "bestGate", "I", false)
def tyX3 : Nat → FieldType := fun k => match k with
  | 0 => .int
  | 1 => .int
  | 2 => .array .int
  | 3 => .array .boolean
  | 4 => .array .int
  | 5 => .int
  | 6 => .int
  | 7 => .boolean
  | _ => .int
abbrev wsX30 : List Cond := u_ws RX3 TX3 9
theorem nmX3 : ∀ a, a < 9 → ∀ b, b < 9 → a ≠ b → (TX3 a).2.1 ≠ (TX3 b).2.1 := by decide +kernel
theorem tyX3_ok : ∀ k, k < 9 → parseFieldDescriptor (TX3 k).2.2.1 = some (tyX3 k) := by decide +kernel
abbrev cX3_init : ByteArray := prog_5_method_1_code
def yX3_init : MethodName := ⟨RX3, "<init>", "(II[I)V"⟩
abbrev cX3_told : ByteArray := prog_5_method_2_code
def yX3_told : MethodName := ⟨RX3, "told", "()I"⟩
abbrev cX3_isOf : ByteArray := prog_5_method_3_code
def yX3_isOf : MethodName := ⟨RX3, "isOf", "(I)Z"⟩
abbrev cX3_weigh : ByteArray := prog_5_method_4_code
def yX3_weigh : MethodName := ⟨RX3, "weigh", "(LHollowPress$Trace;)I"⟩
abbrev cX3_thickness : ByteArray := prog_5_method_5_code
def yX3_thickness : MethodName := ⟨RX3, "thickness", "(I)I"⟩
abbrev cX3_drag : ByteArray := prog_5_method_6_code
def yX3_drag : MethodName := ⟨RX3, "drag", "(I)I"⟩
abbrev cX3_hasGate : ByteArray := prog_5_method_7_code
def yX3_hasGate : MethodName := ⟨RX3, "hasGate", "(I)Z"⟩
abbrev cX3_addGate : ByteArray := prog_5_method_8_code
def yX3_addGate : MethodName := ⟨RX3, "addGate", "(I)I"⟩
abbrev cX3_hasVent : ByteArray := prog_5_method_9_code
def yX3_hasVent : MethodName := ⟨RX3, "hasVent", "(I)Z"⟩
abbrev cX3_turnVent : ByteArray := prog_5_method_10_code
def yX3_turnVent : MethodName := ⟨RX3, "turnVent", "(I)Z"⟩
def RX4 : String := "HollowPress$Plate"
def TX4 : u_T := fun k => match k with
  | 0 => ("HollowPress$Part", "w", "I", true)
  | 1 => ("HollowPress$Part", "h", "I", true)
  | 2 => ("HollowPress$Part", "thick", "[I", true)
  | 3 => ("HollowPress$Part", "vented", "[Z", true)
  | 4 => ("HollowPress$Part", "gates", "[I", true)
  | 5 => ("HollowPress$Part", "gateCount", "I", false)
  | 6 => ("HollowPress$Part", "ends", "I", false)
  | 7 => ("HollowPress$Part", "bestKnown", "Z", false)
  | _ => ("HollowPress$Part", "bestGate", "I", false)
def tyX4 : Nat → FieldType := fun k => match k with
  | 0 => .int
  | 1 => .int
  | 2 => .array .int
  | 3 => .array .boolean
  | 4 => .array .int
  | 5 => .int
  | 6 => .int
  | 7 => .boolean
  | _ => .int
abbrev wsX40 : List Cond := u_ws RX4 TX4 9
theorem nmX4 : ∀ a, a < 9 → ∀ b, b < 9 → a ≠ b → (TX4 a).2.1 ≠ (TX4 b).2.1 := by decide +kernel
theorem tyX4_ok : ∀ k, k < 9 → parseFieldDescriptor (TX4 k).2.2.1 = some (tyX4 k) := by decide +kernel
abbrev cX4_init : ByteArray := prog_6_method_1_code
def yX4_init : MethodName := ⟨RX4, "<init>", "(II[I)V"⟩
abbrev cX4_told : ByteArray := prog_6_method_2_code
def yX4_told : MethodName := ⟨RX4, "told", "()I"⟩
abbrev cX4_isOf : ByteArray := prog_6_method_3_code
def yX4_isOf : MethodName := ⟨RX4, "isOf", "(I)Z"⟩
abbrev cX4_mark : ByteArray := prog_6_method_4_code
def yX4_mark : MethodName := ⟨RX4, "mark", "(LHollowPress$Trace;)I"⟩
def RX5 : String := "HollowPress$Presses"
def TX5 : u_T := fun k => match k with
  | 0 => ("HollowPress$Presses", "pressForces", "[I", true)
  | 1 => ("HollowPress$Presses", "jobForces", "[I", true)
  | 2 => ("HollowPress$Presses", "colours", "[I", true)
  | 3 => ("HollowPress$Presses", "jobTimes", "[I", true)
  | 4 => ("HollowPress$Presses", "rows", "[[I", true)
  | 5 => ("HollowPress$Presses", "lengths", "[I", true)
  | 6 => ("HollowPress$Presses", "times", "[I", true)
  | 7 => ("HollowPress$Presses", "presses", "I", false)
  | _ => ("HollowPress$Presses", "jobs", "I", false)
def tyX5 : Nat → FieldType := fun k => match k with
  | 0 => .array .int
  | 1 => .array .int
  | 2 => .array .int
  | 3 => .array .int
  | 4 => .array (.array .int)
  | 5 => .array .int
  | 6 => .array .int
  | 7 => .int
  | _ => .int
abbrev wsX50 : List Cond := u_ws RX5 TX5 9
theorem nmX5 : ∀ a, a < 9 → ∀ b, b < 9 → a ≠ b → (TX5 a).2.1 ≠ (TX5 b).2.1 := by decide +kernel
theorem tyX5_ok : ∀ k, k < 9 → parseFieldDescriptor (TX5 k).2.2.1 = some (tyX5 k) := by decide +kernel
abbrev cX5_init : ByteArray := prog_7_method_1_code
def yX5_init : MethodName := ⟨RX5, "<init>", "()V"⟩
abbrev cX5_addPress : ByteArray := prog_7_method_2_code
def yX5_addPress : MethodName := ⟨RX5, "addPress", "(I)I"⟩
abbrev cX5_addJob : ByteArray := prog_7_method_3_code
def yX5_addJob : MethodName := ⟨RX5, "addJob", "(III)I"⟩
abbrev cX5_makePlan : ByteArray := prog_7_method_4_code
def yX5_makePlan : MethodName := ⟨RX5, "makePlan", "()I"⟩
abbrev cX5_jobOn : ByteArray := prog_7_method_5_code
def yX5_jobOn : MethodName := ⟨RX5, "jobOn", "(II)I"⟩
abbrev cX5_pains : ByteArray := prog_7_method_6_code
def yX5_pains : MethodName := ⟨RX5, "pains", "(I)I"⟩
abbrev cX5_forgetPlan : ByteArray := prog_7_method_7_code
def yX5_forgetPlan : MethodName := ⟨RX5, "forgetPlan", "()V"⟩
abbrev cX5_pressFor : ByteArray := prog_7_method_8_code
def yX5_pressFor : MethodName := ⟨RX5, "pressFor", "(I)I"⟩
abbrev cX5_putOn : ByteArray := prog_7_method_9_code
def yX5_putOn : MethodName := ⟨RX5, "putOn", "(II)V"⟩
def RX6 : String := "HollowPress$Runners"
def TX6 : u_T := fun k => match k with
  | 0 => ("HollowPress$Runners", "parents", "[I", true)
  | 1 => ("HollowPress$Runners", "lengths", "[I", true)
  | 2 => ("HollowPress$Runners", "sizes", "[I", true)
  | 3 => ("HollowPress$Runners", "hung", "[LHollowPress$Part;", true)
  | 4 => ("HollowPress$Runners", "branches", "I", false)
  | 5 => ("HollowPress$Runners", "drags", "[I", true)
  | 6 => ("HollowPress$Runners", "trial", "[I", true)
  | 7 => ("HollowPress$Runners", "choice", "[I", true)
  | 8 => ("HollowPress$Runners", "choices", "I", false)
  | 9 => ("HollowPress$Runners", "leastSpread", "I", false)
  | _ => ("HollowPress$Runners", "leastMass", "I", false)
def tyX6 : Nat → FieldType := fun k => match k with
  | 0 => .array .int
  | 1 => .array .int
  | 2 => .array .int
  | 3 => .array (.object "HollowPress$Part")
  | 4 => .int
  | 5 => .array .int
  | 6 => .array .int
  | 7 => .array .int
  | 8 => .int
  | 9 => .int
  | _ => .int
abbrev wsX60 : List Cond := u_ws RX6 TX6 11
theorem nmX6 : ∀ a, a < 11 → ∀ b, b < 11 → a ≠ b → (TX6 a).2.1 ≠ (TX6 b).2.1 := by decide +kernel
theorem tyX6_ok : ∀ k, k < 11 → parseFieldDescriptor (TX6 k).2.2.1 = some (tyX6 k) := by decide +kernel
abbrev cX6_init : ByteArray := prog_8_method_1_code
def yX6_init : MethodName := ⟨RX6, "<init>", "()V"⟩
abbrev cX6_grow : ByteArray := prog_8_method_2_code
def yX6_grow : MethodName := ⟨RX6, "grow", "(III)I"⟩
abbrev cX6_fell : ByteArray := prog_8_method_3_code
def yX6_fell : MethodName := ⟨RX6, "fell", "()I"⟩
abbrev cX6_holds : ByteArray := prog_8_method_4_code
def yX6_holds : MethodName := ⟨RX6, "holds", "(LHollowPress$Thing;)Z"⟩
abbrev cX6_taken : ByteArray := prog_8_method_5_code
def yX6_taken : MethodName := ⟨RX6, "taken", "(I)Z"⟩
abbrev cX6_hangAt : ByteArray := prog_8_method_6_code
def yX6_hangAt : MethodName := ⟨RX6, "hangAt", "(ILHollowPress$Part;)I"⟩
abbrev cX6_howManyHang : ByteArray := prog_8_method_7_code
def yX6_howManyHang : MethodName := ⟨RX6, "howManyHang", "()I"⟩
abbrev cX6_mass : ByteArray := prog_8_method_8_code
def yX6_mass : MethodName := ⟨RX6, "mass", "()I"⟩
abbrev cX6_endAt : ByteArray := prog_8_method_9_code
def yX6_endAt : MethodName := ⟨RX6, "endAt", "(I)I"⟩
abbrev cX6_spread : ByteArray := prog_8_method_10_code
def yX6_spread : MethodName := ⟨RX6, "spread", "()I"⟩
abbrev cX6_takeBestSizes : ByteArray := prog_8_method_11_code
def yX6_takeBestSizes : MethodName := ⟨RX6, "takeBestSizes", "(I)V"⟩
abbrev cX6_tryFrom : ByteArray := prog_8_method_12_code
def yX6_tryFrom : MethodName := ⟨RX6, "tryFrom", "(IIII)V"⟩
abbrev cX6_measure : ByteArray := prog_8_method_13_code
def yX6_measure : MethodName := ⟨RX6, "measure", "()V"⟩
abbrev cX6_dragUpTo : ByteArray := prog_8_method_14_code
def yX6_dragUpTo : MethodName := ⟨RX6, "dragUpTo", "(II)I"⟩
abbrev cX6_between : ByteArray := prog_8_method_15_code
def yX6_between : MethodName := ⟨RX6, "between", "(II)I"⟩
def RX7 : String := "HollowPress$Sheet"
def TX7 : u_T := fun k => match k with
  | 0 => ("HollowPress$Sheet", "lane", "I", true)
  | _ => ("HollowPress$Sheet", "items", "[J", true)
def tyX7 : Nat → FieldType := fun k => match k with
  | 0 => .int
  | _ => .array .long
abbrev wsX70 : List Cond := u_ws RX7 TX7 2
theorem nmX7 : ∀ a, a < 2 → ∀ b, b < 2 → a ≠ b → (TX7 a).2.1 ≠ (TX7 b).2.1 := by decide +kernel
theorem tyX7_ok : ∀ k, k < 2 → parseFieldDescriptor (TX7 k).2.2.1 = some (tyX7 k) := by decide +kernel
abbrev cX7_init : ByteArray := prog_9_method_1_code
def yX7_init : MethodName := ⟨RX7, "<init>", "(II)V"⟩
abbrev cX7_covers : ByteArray := prog_9_method_2_code
def yX7_covers : MethodName := ⟨RX7, "covers", "(II)Z"⟩
abbrev cX7_put : ByteArray := prog_9_method_3_code
def yX7_put : MethodName := ⟨RX7, "put", "(IJ)J"⟩
abbrev cX7_allAmong : ByteArray := prog_9_method_4_code
def yX7_allAmong : MethodName := ⟨RX7, "allAmong", "(III)Z"⟩
abbrev cX7_hasMoreThanZero : ByteArray := prog_9_method_5_code
def yX7_hasMoreThanZero : MethodName := ⟨RX7, "hasMoreThanZero", "(II)Z"⟩
abbrev cX7_slice : ByteArray := prog_9_method_6_code
def yX7_slice : MethodName := ⟨RX7, "slice", "(II)[I"⟩
def RX8 : String := "HollowPress$Thing"
def TX8 : u_T := fun k => match k with
  | _ => ("", "", "", false)
def tyX8 : Nat → FieldType := fun k => match k with
  | _ => .int
abbrev wsX80 : List Cond := u_ws RX8 TX8 0
theorem nmX8 : ∀ a, a < 0 → ∀ b, b < 0 → a ≠ b → (TX8 a).2.1 ≠ (TX8 b).2.1 := by decide +kernel
theorem tyX8_ok : ∀ k, k < 0 → parseFieldDescriptor (TX8 k).2.2.1 = some (tyX8 k) := by decide +kernel
abbrev cX8_init : ByteArray := prog_10_method_1_code
def yX8_init : MethodName := ⟨RX8, "<init>", "()V"⟩
abbrev cX8_isOf : ByteArray := prog_10_method_3_code
def yX8_isOf : MethodName := ⟨RX8, "isOf", "(I)Z"⟩
abbrev cX8_weigh : ByteArray := prog_10_method_4_code
def yX8_weigh : MethodName := ⟨RX8, "weigh", "(LHollowPress$Trace;)I"⟩
abbrev cX8_mark : ByteArray := prog_10_method_5_code
def yX8_mark : MethodName := ⟨RX8, "mark", "(LHollowPress$Trace;)I"⟩
def RX9 : String := "HollowPress$Trace"
def TX9 : u_T := fun k => match k with
  | 0 => ("HollowPress$Trace", "numbers", "[I", true)
  | _ => ("HollowPress$Trace", "length", "I", false)
def tyX9 : Nat → FieldType := fun k => match k with
  | 0 => .array .int
  | _ => .int
abbrev wsX90 : List Cond := u_ws RX9 TX9 2
theorem nmX9 : ∀ a, a < 2 → ∀ b, b < 2 → a ≠ b → (TX9 a).2.1 ≠ (TX9 b).2.1 := by decide +kernel
theorem tyX9_ok : ∀ k, k < 2 → parseFieldDescriptor (TX9 k).2.2.1 = some (tyX9 k) := by decide +kernel
abbrev cX9_init : ByteArray := prog_11_method_1_code
def yX9_init : MethodName := ⟨RX9, "<init>", "()V"⟩
abbrev cX9_wipe : ByteArray := prog_11_method_2_code
def yX9_wipe : MethodName := ⟨RX9, "wipe", "()V"⟩
abbrev cX9_leave : ByteArray := prog_11_method_3_code
def yX9_leave : MethodName := ⟨RX9, "leave", "(I)V"⟩
abbrev cX9_number : ByteArray := prog_11_method_4_code
def yX9_number : MethodName := ⟨RX9, "number", "(I)I"⟩
def RX10 : String := "HollowPress"
def TX10 : u_T := fun k => match k with
  | 0 => ("HollowPress", "sheets", "[LHollowPress$Sheet;", true)
  | 1 => ("HollowPress", "things", "[LHollowPress$Thing;", true)
  | 2 => ("HollowPress", "asked", "LHollowPress$Trace;", true)
  | 3 => ("HollowPress", "flow", "LHollowPress$Flow;", true)
  | 4 => ("HollowPress", "tree", "LHollowPress$Runners;", true)
  | 5 => ("HollowPress", "hall", "LHollowPress$Presses;", true)
  | _ => ("HollowPress", "latest", "I", false)
def tyX10 : Nat → FieldType := fun k => match k with
  | 0 => .array (.object "HollowPress$Sheet")
  | 1 => .array (.object "HollowPress$Thing")
  | 2 => .object "HollowPress$Trace"
  | 3 => .object "HollowPress$Flow"
  | 4 => .object "HollowPress$Runners"
  | 5 => .object "HollowPress$Presses"
  | _ => .int
abbrev wsX100 : List Cond := u_ws RX10 TX10 7
theorem nmX10 : ∀ a, a < 7 → ∀ b, b < 7 → a ≠ b → (TX10 a).2.1 ≠ (TX10 b).2.1 := by decide +kernel
theorem tyX10_ok : ∀ k, k < 7 → parseFieldDescriptor (TX10 k).2.2.1 = some (tyX10 k) := by decide +kernel
abbrev cX10_init : ByteArray := prog_1_method_1_code
def yX10_init : MethodName := ⟨RX10, "<init>", "()V"⟩
abbrev cX10_sheet : ByteArray := prog_1_method_2_code
def yX10_sheet : MethodName := ⟨RX10, "sheet", "(III)I"⟩
abbrev cX10_set : ByteArray := prog_1_method_3_code
def yX10_set : MethodName := ⟨RX10, "set", "(IIJ)J"⟩
abbrev cX10_copy : ByteArray := prog_1_method_4_code
def yX10_copy : MethodName := ⟨RX10, "copy", "(IIIII)I"⟩
abbrev cX10_drop : ByteArray := prog_1_method_5_code
def yX10_drop : MethodName := ⟨RX10, "drop", "(I)I"⟩
abbrev cX10_part : ByteArray := prog_1_method_6_code
def yX10_part : MethodName := ⟨RX10, "part", "(IIIII)I"⟩
abbrev cX10_layers : ByteArray := prog_1_method_7_code
def yX10_layers : MethodName := ⟨RX10, "layers", "(IIIII)I"⟩
abbrev cX10_clear : ByteArray := prog_1_method_8_code
def yX10_clear : MethodName := ⟨RX10, "clear", "(I)I"⟩
abbrev cX10_kind : ByteArray := prog_1_method_9_code
def yX10_kind : MethodName := ⟨RX10, "kind", "(I)I"⟩
abbrev cX10_is : ByteArray := prog_1_method_10_code
def yX10_is : MethodName := ⟨RX10, "is", "(II)I"⟩
abbrev cX10_ask : ByteArray := prog_1_method_11_code
def yX10_ask : MethodName := ⟨RX10, "ask", "(II)I"⟩
abbrev cX10_trace : ByteArray := prog_1_method_12_code
def yX10_trace : MethodName := ⟨RX10, "trace", "(I)I"⟩
abbrev cX10_gate : ByteArray := prog_1_method_13_code
def yX10_gate : MethodName := ⟨RX10, "gate", "(II)I"⟩
abbrev cX10_vent : ByteArray := prog_1_method_14_code
def yX10_vent : MethodName := ⟨RX10, "vent", "(II)I"⟩
abbrev cX10_cell : ByteArray := prog_1_method_15_code
def yX10_cell : MethodName := ⟨RX10, "cell", "(III)I"⟩
abbrev cX10_meeting : ByteArray := prog_1_method_16_code
def yX10_meeting : MethodName := ⟨RX10, "meeting", "(III)I"⟩
abbrev cX10_trap : ByteArray := prog_1_method_17_code
def yX10_trap : MethodName := ⟨RX10, "trap", "(II)I"⟩
abbrev cX10_force : ByteArray := prog_1_method_18_code
def yX10_force : MethodName := ⟨RX10, "force", "(II)J"⟩
abbrev cX10_best : ByteArray := prog_1_method_19_code
def yX10_best : MethodName := ⟨RX10, "best", "(I)I"⟩
abbrev cX10_branch : ByteArray := prog_1_method_20_code
def yX10_branch : MethodName := ⟨RX10, "branch", "(III)I"⟩
abbrev cX10_hang : ByteArray := prog_1_method_21_code
def yX10_hang : MethodName := ⟨RX10, "hang", "(II)I"⟩
abbrev cX10_strip : ByteArray := prog_1_method_22_code
def yX10_strip : MethodName := ⟨RX10, "strip", "()I"⟩
abbrev cX10_end : ByteArray := prog_1_method_23_code
def yX10_end : MethodName := ⟨RX10, "end", "(I)I"⟩
abbrev cX10_runners : ByteArray := prog_1_method_24_code
def yX10_runners : MethodName := ⟨RX10, "runners", "(I)I"⟩
abbrev cX10_balance : ByteArray := prog_1_method_25_code
def yX10_balance : MethodName := ⟨RX10, "balance", "(I)I"⟩
abbrev cX10_size : ByteArray := prog_1_method_26_code
def yX10_size : MethodName := ⟨RX10, "size", "(I)I"⟩
abbrev cX10_beat : ByteArray := prog_1_method_27_code
def yX10_beat : MethodName := ⟨RX10, "beat", "(IIII)I"⟩
abbrev cX10_warmth : ByteArray := prog_1_method_28_code
def yX10_warmth : MethodName := ⟨RX10, "warmth", "(II)I"⟩
abbrev cX10_press : ByteArray := prog_1_method_29_code
def yX10_press : MethodName := ⟨RX10, "press", "(I)I"⟩
abbrev cX10_job : ByteArray := prog_1_method_30_code
def yX10_job : MethodName := ⟨RX10, "job", "(III)I"⟩
abbrev cX10_plan : ByteArray := prog_1_method_31_code
def yX10_plan : MethodName := ⟨RX10, "plan", "()I"⟩
abbrev cX10_planned : ByteArray := prog_1_method_32_code
def yX10_planned : MethodName := ⟨RX10, "planned", "(II)I"⟩
abbrev cX10_load : ByteArray := prog_1_method_33_code
def yX10_load : MethodName := ⟨RX10, "load", "(II)I"⟩
abbrev cX10_count : ByteArray := prog_1_method_34_code
def yX10_count : MethodName := ⟨RX10, "count", "(I)I"⟩
abbrev cX10_status : ByteArray := prog_1_method_35_code
def yX10_status : MethodName := ⟨RX10, "status", "()I"⟩
abbrev cX10_below : ByteArray := prog_1_method_36_code
def yX10_below : MethodName := ⟨RX10, "below", "(II)Z"⟩
abbrev cX10_among : ByteArray := prog_1_method_37_code
def yX10_among : MethodName := ⟨RX10, "among", "(III)Z"⟩
abbrev cX10_found : ByteArray := prog_1_method_38_code
def yX10_found : MethodName := ⟨RX10, "found", "(I)I"⟩
abbrev cX10_fine : ByteArray := prog_1_method_39_code
def yX10_fine : MethodName := ⟨RX10, "fine", "(I)I"⟩
abbrev cX10_otherThing : ByteArray := prog_1_method_40_code
def yX10_otherThing : MethodName := ⟨RX10, "otherThing", "(I)I"⟩
abbrev cX10_shelve : ByteArray := prog_1_method_41_code
def yX10_shelve : MethodName := ⟨RX10, "shelve", "(ILHollowPress$Thing;)I"⟩
abbrev cX10_newPart : ByteArray := prog_1_method_42_code
def yX10_newPart : MethodName := ⟨RX10, "newPart", "(II[I)LHollowPress$Part;"⟩
abbrev cX10_allCellsAlike : ByteArray := prog_1_method_43_code
def yX10_allCellsAlike : MethodName := ⟨RX10, "allCellsAlike", "([I)Z"⟩
abbrev cX10_isOfKind : ByteArray := prog_1_method_44_code
def yX10_isOfKind : MethodName := ⟨RX10, "isOfKind", "(LHollowPress$Thing;I)Z"⟩
abbrev cX10_sheetsThere : ByteArray := prog_1_method_45_code
def yX10_sheetsThere : MethodName := ⟨RX10, "sheetsThere", "()I"⟩
abbrev cX10_thingsOfKind : ByteArray := prog_1_method_46_code
def yX10_thingsOfKind : MethodName := ⟨RX10, "thingsOfKind", "(I)I"⟩
def RX11 : String := "HollowPressModel"
def TX11 : u_T := fun k => match k with
  | 0 => ("HollowPressModel", "thrown", "I", false)
  | 1 => ("HollowPressModel", "status", "I", false)
  | 2 => ("HollowPressModel", "lane", "[I", true)
  | 3 => ("HollowPressModel", "many", "[I", true)
  | 4 => ("HollowPressModel", "item", "[J", true)
  | 5 => ("HollowPressModel", "kind", "[I", true)
  | 6 => ("HollowPressModel", "wide", "[I", true)
  | 7 => ("HollowPressModel", "high", "[I", true)
  | 8 => ("HollowPressModel", "thick", "[I", true)
  | 9 => ("HollowPressModel", "gates", "[I", true)
  | 10 => ("HollowPressModel", "gate", "[I", true)
  | 11 => ("HollowPressModel", "isVent", "[Z", true)
  | 12 => ("HollowPressModel", "warm", "[I", true)
  | 13 => ("HollowPressModel", "wall", "[I", true)
  | 14 => ("HollowPressModel", "given", "[I", true)
  | 15 => ("HollowPressModel", "hangsAt", "[I", true)
  | 16 => ("HollowPressModel", "trace", "[I", true)
  | 17 => ("HollowPressModel", "traced", "I", false)
  | 18 => ("HollowPressModel", "strain", "[I", true)
  | 19 => ("HollowPressModel", "front", "[I", true)
  | 20 => ("HollowPressModel", "order", "[I", true)
  | 21 => ("HollowPressModel", "orderOf", "[I", true)
  | 22 => ("HollowPressModel", "isSettled", "[Z", true)
  | 23 => ("HollowPressModel", "ordered", "I", false)
  | 24 => ("HollowPressModel", "branches", "I", false)
  | 25 => ("HollowPressModel", "parent", "[I", true)
  | 26 => ("HollowPressModel", "length", "[I", true)
  | 27 => ("HollowPressModel", "size", "[I", true)
  | 28 => ("HollowPressModel", "hung", "[I", true)
  | 29 => ("HollowPressModel", "hungEnds", "[I", true)
  | 30 => ("HollowPressModel", "sizes", "[I", true)
  | 31 => ("HollowPressModel", "digit", "[I", true)
  | 32 => ("HollowPressModel", "before", "[I", true)
  | 33 => ("HollowPressModel", "presses", "I", false)
  | 34 => ("HollowPressModel", "pressForce", "[I", true)
  | 35 => ("HollowPressModel", "jobs", "I", false)
  | 36 => ("HollowPressModel", "jobForce", "[I", true)
  | 37 => ("HollowPressModel", "colour", "[I", true)
  | 38 => ("HollowPressModel", "time", "[I", true)
  | 39 => ("HollowPressModel", "isPlanned", "Z", false)
  | 40 => ("HollowPressModel", "line", "[I", true)
  | 41 => ("HollowPressModel", "lined", "[I", true)
  | 42 => ("HollowPressModel", "pains", "[I", true)
  | 43 => ("HollowPressModel", "least", "[I", true)
  | _ => ("HollowPressModel", "own", "[I", true)
def tyX11 : Nat → FieldType := fun k => match k with
  | 0 => .int
  | 1 => .int
  | 2 => .array .int
  | 3 => .array .int
  | 4 => .array .long
  | 5 => .array .int
  | 6 => .array .int
  | 7 => .array .int
  | 8 => .array .int
  | 9 => .array .int
  | 10 => .array .int
  | 11 => .array .boolean
  | 12 => .array .int
  | 13 => .array .int
  | 14 => .array .int
  | 15 => .array .int
  | 16 => .array .int
  | 17 => .int
  | 18 => .array .int
  | 19 => .array .int
  | 20 => .array .int
  | 21 => .array .int
  | 22 => .array .boolean
  | 23 => .int
  | 24 => .int
  | 25 => .array .int
  | 26 => .array .int
  | 27 => .array .int
  | 28 => .array .int
  | 29 => .array .int
  | 30 => .array .int
  | 31 => .array .int
  | 32 => .array .int
  | 33 => .int
  | 34 => .array .int
  | 35 => .int
  | 36 => .array .int
  | 37 => .array .int
  | 38 => .array .int
  | 39 => .boolean
  | 40 => .array .int
  | 41 => .array .int
  | 42 => .array .int
  | 43 => .array .int
  | _ => .array .int
abbrev wsX110 : List Cond := u_ws RX11 TX11 45
theorem nmX11 : ∀ a, a < 45 → ∀ b, b < 45 → a ≠ b → (TX11 a).2.1 ≠ (TX11 b).2.1 := by decide +kernel
theorem tyX11_ok : ∀ k, k < 45 → parseFieldDescriptor (TX11 k).2.2.1 = some (tyX11 k) := by decide +kernel
abbrev cX11_init : ByteArray := prog_13_method_1_code
def yX11_init : MethodName := ⟨RX11, "<init>", "()V"⟩
abbrev cX11_in : ByteArray := prog_13_method_3_code
def yX11_in : MethodName := ⟨RX11, "in", "(JJJ)Z"⟩
abbrev cX11_found : ByteArray := prog_13_method_4_code
def yX11_found : MethodName := ⟨RX11, "found", "(I)I"⟩
abbrev cX11_isSheet : ByteArray := prog_13_method_5_code
def yX11_isSheet : MethodName := ⟨RX11, "isSheet", "(I)Z"⟩
abbrev cX11_sheet : ByteArray := prog_13_method_6_code
def yX11_sheet : MethodName := ⟨RX11, "sheet", "(III)I"⟩
abbrev cX11_set : ByteArray := prog_13_method_7_code
def yX11_set : MethodName := ⟨RX11, "set", "(IIJ)J"⟩
abbrev cX11_copy : ByteArray := prog_13_method_8_code
def yX11_copy : MethodName := ⟨RX11, "copy", "(IIIII)I"⟩
abbrev cX11_drop : ByteArray := prog_13_method_9_code
def yX11_drop : MethodName := ⟨RX11, "drop", "(I)I"⟩
abbrev cX11_isPlace : ByteArray := prog_13_method_10_code
def yX11_isPlace : MethodName := ⟨RX11, "isPlace", "(I)Z"⟩
abbrev cX11_hasItems : ByteArray := prog_13_method_11_code
def yX11_hasItems : MethodName := ⟨RX11, "hasItems", "(III)Z"⟩
abbrev cX11_part : ByteArray := prog_13_method_12_code
def yX11_part : MethodName := ⟨RX11, "part", "(IIIII)I"⟩
abbrev cX11_layers : ByteArray := prog_13_method_13_code
def yX11_layers : MethodName := ⟨RX11, "layers", "(IIIII)I"⟩
abbrev cX11_clear : ByteArray := prog_13_method_14_code
def yX11_clear : MethodName := ⟨RX11, "clear", "(I)I"⟩
abbrev cX11_kind : ByteArray := prog_13_method_15_code
def yX11_kind : MethodName := ⟨RX11, "kind", "(I)I"⟩
abbrev cX11_isOf : ByteArray := prog_13_method_16_code
def yX11_isOf : MethodName := ⟨RX11, "isOf", "(II)Z"⟩
abbrev cX11_is : ByteArray := prog_13_method_17_code
def yX11_is : MethodName := ⟨RX11, "is", "(II)I"⟩
abbrev cX11_began : ByteArray := prog_13_method_18_code
def yX11_began : MethodName := ⟨RX11, "began", "(I)V"⟩
abbrev cX11_weight : ByteArray := prog_13_method_19_code
def yX11_weight : MethodName := ⟨RX11, "weight", "(I)I"⟩
abbrev cX11_marked : ByteArray := prog_13_method_20_code
def yX11_marked : MethodName := ⟨RX11, "marked", "(I)I"⟩
abbrev cX11_ask : ByteArray := prog_13_method_21_code
def yX11_ask : MethodName := ⟨RX11, "ask", "(II)I"⟩
abbrev cX11_trace : ByteArray := prog_13_method_22_code
def yX11_trace : MethodName := ⟨RX11, "trace", "(I)I"⟩
abbrev cX11_asked : ByteArray := prog_13_method_23_code
def yX11_asked : MethodName := ⟨RX11, "asked", "(II)I"⟩
abbrev cX11_isCell : ByteArray := prog_13_method_24_code
def yX11_isCell : MethodName := ⟨RX11, "isCell", "(II)Z"⟩
abbrev cX11_gate : ByteArray := prog_13_method_25_code
def yX11_gate : MethodName := ⟨RX11, "gate", "(II)I"⟩
abbrev cX11_vent : ByteArray := prog_13_method_26_code
def yX11_vent : MethodName := ⟨RX11, "vent", "(II)I"⟩
abbrev cX11_drag : ByteArray := prog_13_method_27_code
def yX11_drag : MethodName := ⟨RX11, "drag", "(I)I"⟩
abbrev cX11_neighbour : ByteArray := prog_13_method_28_code
def yX11_neighbour : MethodName := ⟨RX11, "neighbour", "(III)I"⟩
abbrev cX11_fill : ByteArray := prog_13_method_29_code
def yX11_fill : MethodName := ⟨RX11, "fill", "(II)V"⟩
abbrev cX11_next : ByteArray := prog_13_method_30_code
def yX11_next : MethodName := ⟨RX11, "next", "()I"⟩
abbrev cX11_ends : ByteArray := prog_13_method_31_code
def yX11_ends : MethodName := ⟨RX11, "ends", "()I"⟩
abbrev cX11_cell : ByteArray := prog_13_method_32_code
def yX11_cell : MethodName := ⟨RX11, "cell", "(III)I"⟩
abbrev cX11_meeting : ByteArray := prog_13_method_33_code
def yX11_meeting : MethodName := ⟨RX11, "meeting", "(III)I"⟩
abbrev cX11_trap : ByteArray := prog_13_method_34_code
def yX11_trap : MethodName := ⟨RX11, "trap", "(II)I"⟩
abbrev cX11_force : ByteArray := prog_13_method_35_code
def yX11_force : MethodName := ⟨RX11, "force", "(II)J"⟩
abbrev cX11_best : ByteArray := prog_13_method_36_code
def yX11_best : MethodName := ⟨RX11, "best", "(I)I"⟩
abbrev cX11_branch : ByteArray := prog_13_method_37_code
def yX11_branch : MethodName := ⟨RX11, "branch", "(III)I"⟩
abbrev cX11_hanging : ByteArray := prog_13_method_38_code
def yX11_hanging : MethodName := ⟨RX11, "hanging", "()I"⟩
abbrev cX11_hang : ByteArray := prog_13_method_39_code
def yX11_hang : MethodName := ⟨RX11, "hang", "(II)I"⟩
abbrev cX11_strip : ByteArray := prog_13_method_40_code
def yX11_strip : MethodName := ⟨RX11, "strip", "()I"⟩
abbrev cX11_findEnds : ByteArray := prog_13_method_41_code
def yX11_findEnds : MethodName := ⟨RX11, "findEnds", "()V"⟩
abbrev cX11_endOf : ByteArray := prog_13_method_42_code
def yX11_endOf : MethodName := ⟨RX11, "endOf", "(I)I"⟩
abbrev cX11_spread : ByteArray := prog_13_method_43_code
def yX11_spread : MethodName := ⟨RX11, "spread", "()I"⟩
abbrev cX11_mass : ByteArray := prog_13_method_44_code
def yX11_mass : MethodName := ⟨RX11, "mass", "()I"⟩
abbrev cX11_end : ByteArray := prog_13_method_45_code
def yX11_end : MethodName := ⟨RX11, "end", "(I)I"⟩
abbrev cX11_runners : ByteArray := prog_13_method_46_code
def yX11_runners : MethodName := ⟨RX11, "runners", "(I)I"⟩
abbrev cX11_balance : ByteArray := prog_13_method_47_code
def yX11_balance : MethodName := ⟨RX11, "balance", "(I)I"⟩
abbrev cX11_lay : ByteArray := prog_13_method_48_code
def yX11_lay : MethodName := ⟨RX11, "lay", "(II)V"⟩
abbrev cX11_size : ByteArray := prog_13_method_49_code
def yX11_size : MethodName := ⟨RX11, "size", "(I)I"⟩
abbrev cX11_beat : ByteArray := prog_13_method_50_code
def yX11_beat : MethodName := ⟨RX11, "beat", "(IIII)I"⟩
abbrev cX11_isAbove : ByteArray := prog_13_method_51_code
def yX11_isAbove : MethodName := ⟨RX11, "isAbove", "(II)Z"⟩
abbrev cX11_warmth : ByteArray := prog_13_method_52_code
def yX11_warmth : MethodName := ⟨RX11, "warmth", "(II)I"⟩
abbrev cX11_press : ByteArray := prog_13_method_53_code
def yX11_press : MethodName := ⟨RX11, "press", "(I)I"⟩
abbrev cX11_job : ByteArray := prog_13_method_54_code
def yX11_job : MethodName := ⟨RX11, "job", "(III)I"⟩
abbrev cX11_pain : ByteArray := prog_13_method_55_code
def yX11_pain : MethodName := ⟨RX11, "pain", "(II)I"⟩
abbrev cX11_times : ByteArray := prog_13_method_56_code
def yX11_times : MethodName := ⟨RX11, "times", "(I)I"⟩
abbrev cX11_putInOrder : ByteArray := prog_13_method_57_code
def yX11_putInOrder : MethodName := ⟨RX11, "putInOrder", "(I)V"⟩
abbrev cX11_plan : ByteArray := prog_13_method_58_code
def yX11_plan : MethodName := ⟨RX11, "plan", "()I"⟩
abbrev cX11_planned : ByteArray := prog_13_method_59_code
def yX11_planned : MethodName := ⟨RX11, "planned", "(II)I"⟩
abbrev cX11_load : ByteArray := prog_13_method_60_code
def yX11_load : MethodName := ⟨RX11, "load", "(II)I"⟩
abbrev cX11_count : ByteArray := prog_13_method_61_code
def yX11_count : MethodName := ⟨RX11, "count", "(I)I"⟩
abbrev cX11_status : ByteArray := prog_13_method_62_code
def yX11_status : MethodName := ⟨RX11, "status", "()I"⟩
def RJ6 : String := "java/lang/Integer"
def TJ6 : u_T := fun k => match k with
  | _ => ("", "", "", false)
def tyJ6 : Nat → FieldType := fun k => match k with
  | _ => .int
abbrev cJ6_bitCount_0f7a4 : ByteArray := prog_14_method_49_code
def yJ6_bitCount_0f7a4 : MethodName := ⟨RJ6, "bitCount", "(I)I"⟩
def RJ9 : String := "java/lang/Math"
def TJ9 : u_T := fun k => match k with
  | _ => ("", "", "", false)
def tyJ9 : Nat → FieldType := fun k => match k with
  | _ => .int
abbrev cJ9_max_7cf53 : ByteArray := prog_15_method_65_code
def yJ9_max_7cf53 : MethodName := ⟨RJ9, "max", "(II)I"⟩
abbrev cJ9_min_7cf53 : ByteArray := prog_15_method_69_code
def yJ9_min_7cf53 : MethodName := ⟨RJ9, "min", "(II)I"⟩
def RJ10 : String := "java/lang/System"
def TJ10 : u_T := fun k => match k with
  | _ => ("", "", "", false)
def tyJ10 : Nat → FieldType := fun k => match k with
  | _ => .int
def RL : String := "HollowPressLaw"
abbrev cL_law : ByteArray := code
def yL_law : MethodName := ⟨RL, "law", "([I)Z"⟩
abbrev vwCl : List vw_C := [(RX0, TX0, 9), (RX1, TX1, 10), (RX2, TX2, 3), (RX3, TX3, 9), (RX4, TX4, 9), (RX5, TX5, 9), (RX6, TX6, 11), (RX7, TX7, 2), (RX9, TX9, 2), (RX10, TX10, 7), (RX11, TX11, 45)]
