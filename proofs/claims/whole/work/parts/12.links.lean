/-! words of the tables, each once -/
theorem w_1 : Cond.constant RJ6 265 (1431655765) ∈ gtbl := tb_g 746 (by decide +kernel) rfl
theorem w_2 : Cond.constant RJ6 266 (858993459) ∈ gtbl := tb_g 747 (by decide +kernel) rfl
theorem w_3 : Cond.constant RJ6 267 (252645135) ∈ gtbl := tb_g 748 (by decide +kernel) rfl
theorem w_4 : Cond.methodLink RX8 1 Lib.objectInit ∈ gtbl := tb_g 284 (by decide +kernel) rfl
theorem w_5 : Cond.instanceMethod Lib.objectInit ∈ gtbl := tb_g 22 (by decide +kernel) rfl
theorem w_6 : Cond.code Lib.objectInit ⟨#[0xb1]⟩ 1 none ∈ gtbl := tb_g 23 (by decide +kernel) rfl
theorem w_7 : Cond.methodLinkNest RX3 3 ⟨"HollowPress$Thing", "<init>", "()V"⟩ "HollowPress" ∈ nws := tb_n 281 (by decide +kernel) rfl
theorem w_8 : Cond.instanceMethod ⟨"HollowPress$Thing", "<init>", "()V"⟩ ∈ gtbl := tb_g 282 (by decide +kernel) rfl
theorem w_9 : Cond.initialized "HollowPress$Thing" ∈ gtbl := tb_g 10 (by decide +kernel) rfl
theorem w_10 : Cond.code yX8_init cX8_init 1 none ∈ gtbl := tb_g 283 (by decide +kernel) rfl
theorem w_11 : Cond.arrayClass .int ∈ gtbl := tb_g 41 (by decide +kernel) rfl
theorem w_12 : Cond.fieldLink RX3 9 "HollowPress$Part" "gates" "[I" ∈ gtbl := tb_g 294 (by decide +kernel) rfl
theorem gk_X3_9i (cc : ByteArray) (n : Nat) (r : Option FieldType) (d : Nat) : Gok (RX3, "<init>", cc, n, r, d) 9 4 4 := ⟨by decide, fun t ht => by
  rcases fit_4 ht with rfl | rfl | rfl
  · exact ⟨_, rfl, by decide, "HollowPress$Part", w_12, Or.inl rfl, Or.inr ⟨rfl, rfl, rfl⟩⟩
  · exact ⟨_, rfl, by decide, "HollowPress$Part", w_12, Or.inl rfl, Or.inr ⟨rfl, rfl, rfl⟩⟩
  · exact ⟨_, rfl, by decide, "HollowPress$Part", w_12, Or.inl rfl, Or.inr ⟨rfl, rfl, rfl⟩⟩⟩
theorem yr_4_4 : ∀ t, fit 4 t = true → isR (t - 1) 4 = true := fun t ht => by
  rcases fit_4 ht with rfl | rfl | rfl <;> rfl
theorem w_13 : Cond.fieldLink RX3 15 "HollowPress$Part" "gateCount" "I" ∈ gtbl := tb_g 296 (by decide +kernel) rfl
theorem gk_X3_15 (nm : String) (cc : ByteArray) (n : Nat) (r : Option FieldType) (d : Nat) : Gok (RX3, nm, cc, n, r, d) 15 4 5 := ⟨by decide, fun t ht => by
  rcases fit_4 ht with rfl | rfl | rfl
  · exact ⟨_, rfl, by decide, "HollowPress$Part", w_13, Or.inl rfl, Or.inl rfl⟩
  · exact ⟨_, rfl, by decide, "HollowPress$Part", w_13, Or.inl rfl, Or.inl rfl⟩
  · exact ⟨_, rfl, by decide, "HollowPress$Part", w_13, Or.inl rfl, Or.inl rfl⟩⟩
theorem ti_4_5 : ∀ t, fit 4 t = true → tyT (t - 1) 5 = .int := fun t ht => by
  rcases fit_4 ht with rfl | rfl | rfl <;> rfl
theorem w_14 : Cond.fieldLink RX3 19 "HollowPress$Part" "ends" "I" ∈ gtbl := tb_g 300 (by decide +kernel) rfl
theorem gk_X3_19 (nm : String) (cc : ByteArray) (n : Nat) (r : Option FieldType) (d : Nat) : Gok (RX3, nm, cc, n, r, d) 19 4 6 := ⟨by decide, fun t ht => by
  rcases fit_4 ht with rfl | rfl | rfl
  · exact ⟨_, rfl, by decide, "HollowPress$Part", w_14, Or.inl rfl, Or.inl rfl⟩
  · exact ⟨_, rfl, by decide, "HollowPress$Part", w_14, Or.inl rfl, Or.inl rfl⟩
  · exact ⟨_, rfl, by decide, "HollowPress$Part", w_14, Or.inl rfl, Or.inl rfl⟩⟩
theorem ti_4_6 : ∀ t, fit 4 t = true → tyT (t - 1) 6 = .int := fun t ht => by
  rcases fit_4 ht with rfl | rfl | rfl <;> rfl
theorem w_15 : Cond.fieldLink RX3 22 "HollowPress$Part" "bestKnown" "Z" ∈ gtbl := tb_g 303 (by decide +kernel) rfl
theorem gk_X3_22 (nm : String) (cc : ByteArray) (n : Nat) (r : Option FieldType) (d : Nat) : Gok (RX3, nm, cc, n, r, d) 22 4 7 := ⟨by decide, fun t ht => by
  rcases fit_4 ht with rfl | rfl | rfl
  · exact ⟨_, rfl, by decide, "HollowPress$Part", w_15, Or.inl rfl, Or.inl rfl⟩
  · exact ⟨_, rfl, by decide, "HollowPress$Part", w_15, Or.inl rfl, Or.inl rfl⟩
  · exact ⟨_, rfl, by decide, "HollowPress$Part", w_15, Or.inl rfl, Or.inl rfl⟩⟩
theorem tz_4_7 : ∀ t, fit 4 t = true → tyT (t - 1) 7 = .boolean := fun t ht => by
  rcases fit_4 ht with rfl | rfl | rfl <;> rfl
theorem w_16 : Cond.constant RX3 26 (-1000000) ∈ gtbl := tb_g 285 (by decide +kernel) rfl
theorem w_17 : Cond.fieldLink RX3 27 "HollowPress$Part" "bestGate" "I" ∈ gtbl := tb_g 305 (by decide +kernel) rfl
theorem gk_X3_27 (nm : String) (cc : ByteArray) (n : Nat) (r : Option FieldType) (d : Nat) : Gok (RX3, nm, cc, n, r, d) 27 4 8 := ⟨by decide, fun t ht => by
  rcases fit_4 ht with rfl | rfl | rfl
  · exact ⟨_, rfl, by decide, "HollowPress$Part", w_17, Or.inl rfl, Or.inl rfl⟩
  · exact ⟨_, rfl, by decide, "HollowPress$Part", w_17, Or.inl rfl, Or.inl rfl⟩
  · exact ⟨_, rfl, by decide, "HollowPress$Part", w_17, Or.inl rfl, Or.inl rfl⟩⟩
theorem ti_4_8 : ∀ t, fit 4 t = true → tyT (t - 1) 8 = .int := fun t ht => by
  rcases fit_4 ht with rfl | rfl | rfl <;> rfl
theorem w_18 : Cond.fieldLink RX3 30 "HollowPress$Part" "w" "I" ∈ gtbl := tb_g 286 (by decide +kernel) rfl
theorem gk_X3_30i (cc : ByteArray) (n : Nat) (r : Option FieldType) (d : Nat) : Gok (RX3, "<init>", cc, n, r, d) 30 4 0 := ⟨by decide, fun t ht => by
  rcases fit_4 ht with rfl | rfl | rfl
  · exact ⟨_, rfl, by decide, "HollowPress$Part", w_18, Or.inl rfl, Or.inr ⟨rfl, rfl, rfl⟩⟩
  · exact ⟨_, rfl, by decide, "HollowPress$Part", w_18, Or.inl rfl, Or.inr ⟨rfl, rfl, rfl⟩⟩
  · exact ⟨_, rfl, by decide, "HollowPress$Part", w_18, Or.inl rfl, Or.inr ⟨rfl, rfl, rfl⟩⟩⟩
theorem ti_4_0 : ∀ t, fit 4 t = true → tyT (t - 1) 0 = .int := fun t ht => by
  rcases fit_4 ht with rfl | rfl | rfl <;> rfl
theorem w_19 : Cond.fieldLink RX3 33 "HollowPress$Part" "h" "I" ∈ gtbl := tb_g 288 (by decide +kernel) rfl
theorem gk_X3_33i (cc : ByteArray) (n : Nat) (r : Option FieldType) (d : Nat) : Gok (RX3, "<init>", cc, n, r, d) 33 4 1 := ⟨by decide, fun t ht => by
  rcases fit_4 ht with rfl | rfl | rfl
  · exact ⟨_, rfl, by decide, "HollowPress$Part", w_19, Or.inl rfl, Or.inr ⟨rfl, rfl, rfl⟩⟩
  · exact ⟨_, rfl, by decide, "HollowPress$Part", w_19, Or.inl rfl, Or.inr ⟨rfl, rfl, rfl⟩⟩
  · exact ⟨_, rfl, by decide, "HollowPress$Part", w_19, Or.inl rfl, Or.inr ⟨rfl, rfl, rfl⟩⟩⟩
theorem ti_4_1 : ∀ t, fit 4 t = true → tyT (t - 1) 1 = .int := fun t ht => by
  rcases fit_4 ht with rfl | rfl | rfl <;> rfl
theorem w_20 : Cond.fieldLink RX3 36 "HollowPress$Part" "thick" "[I" ∈ gtbl := tb_g 290 (by decide +kernel) rfl
theorem gk_X3_36i (cc : ByteArray) (n : Nat) (r : Option FieldType) (d : Nat) : Gok (RX3, "<init>", cc, n, r, d) 36 4 2 := ⟨by decide, fun t ht => by
  rcases fit_4 ht with rfl | rfl | rfl
  · exact ⟨_, rfl, by decide, "HollowPress$Part", w_20, Or.inl rfl, Or.inr ⟨rfl, rfl, rfl⟩⟩
  · exact ⟨_, rfl, by decide, "HollowPress$Part", w_20, Or.inl rfl, Or.inr ⟨rfl, rfl, rfl⟩⟩
  · exact ⟨_, rfl, by decide, "HollowPress$Part", w_20, Or.inl rfl, Or.inr ⟨rfl, rfl, rfl⟩⟩⟩
theorem yr_4_2 : ∀ t, fit 4 t = true → isR (t - 1) 2 = true := fun t ht => by
  rcases fit_4 ht with rfl | rfl | rfl <;> rfl
theorem w_21 : Cond.arrayClass .boolean ∈ gtbl := tb_g 326 (by decide +kernel) rfl
theorem w_22 : Cond.fieldLink RX3 39 "HollowPress$Part" "vented" "[Z" ∈ gtbl := tb_g 293 (by decide +kernel) rfl
theorem gk_X3_39i (cc : ByteArray) (n : Nat) (r : Option FieldType) (d : Nat) : Gok (RX3, "<init>", cc, n, r, d) 39 4 3 := ⟨by decide, fun t ht => by
  rcases fit_4 ht with rfl | rfl | rfl
  · exact ⟨_, rfl, by decide, "HollowPress$Part", w_22, Or.inl rfl, Or.inr ⟨rfl, rfl, rfl⟩⟩
  · exact ⟨_, rfl, by decide, "HollowPress$Part", w_22, Or.inl rfl, Or.inr ⟨rfl, rfl, rfl⟩⟩
  · exact ⟨_, rfl, by decide, "HollowPress$Part", w_22, Or.inl rfl, Or.inr ⟨rfl, rfl, rfl⟩⟩⟩
theorem yr_4_3 : ∀ t, fit 4 t = true → isR (t - 1) 3 = true := fun t ht => by
  rcases fit_4 ht with rfl | rfl | rfl <;> rfl
theorem w_23 : Cond.methodLink RX0 1 ⟨"HollowPress$Part", "<init>", "(II[I)V"⟩ ∈ gtbl := tb_g 332 (by decide +kernel) rfl
theorem w_24 : Cond.instanceMethod ⟨"HollowPress$Part", "<init>", "(II[I)V"⟩ ∈ gtbl := tb_g 279 (by decide +kernel) rfl
theorem w_25 : Cond.initialized "HollowPress$Part" ∈ gtbl := tb_g 11 (by decide +kernel) rfl
theorem w_26 : Cond.code yX3_init cX3_init 4 none ∈ gtbl := tb_g 280 (by decide +kernel) rfl
theorem w_27 : Cond.methodLink RX3 43 ⟨"HollowPress$Thing", "isOf", "(I)Z"⟩ ∈ gtbl := tb_g 424 (by decide +kernel) rfl
theorem w_28 : Cond.sameMethod "HollowPress$Thing" "HollowPress$Thing" "isOf" "(I)Z" ∈ gtbl := tb_g 417 (by decide +kernel) rfl
theorem w_29 : Cond.superclass "HollowPress$Part" "HollowPress$Thing" ∈ gtbl := tb_g 325 (by decide +kernel) rfl
theorem w_30 : Cond.instanceMethod ⟨"HollowPress$Thing", "isOf", "(I)Z"⟩ ∈ gtbl := tb_g 416 (by decide +kernel) rfl
theorem w_31 : Cond.code yX8_isOf cX8_isOf 2 (some .boolean) ∈ gtbl := tb_g 434 (by decide +kernel) rfl
theorem w_32 : Cond.methodLink RX0 7 ⟨"HollowPress$Part", "isOf", "(I)Z"⟩ ∈ gtbl := tb_g 421 (by decide +kernel) rfl
theorem w_33 : Cond.sameMethod "HollowPress$Part" "HollowPress$Part" "isOf" "(I)Z" ∈ gtbl := tb_g 1249 (by decide +kernel) rfl
theorem w_34 : Cond.superclass "HollowPress$EvenPart" "HollowPress$Part" ∈ gtbl := tb_g 342 (by decide +kernel) rfl
theorem w_35 : Cond.instanceMethod ⟨"HollowPress$Part", "isOf", "(I)Z"⟩ ∈ gtbl := tb_g 422 (by decide +kernel) rfl
theorem w_36 : Cond.code yX3_isOf cX3_isOf 2 (some .boolean) ∈ gtbl := tb_g 423 (by decide +kernel) rfl
theorem w_37 : Cond.fieldLink RX9 15 "HollowPress$Trace" "length" "I" ∈ gtbl := tb_g 35 (by decide +kernel) rfl
theorem fk_X9_15 : Fok RX9 15 9 1 := ⟨by decide, fun t ht => by
  cases fit_1 (by decide) ht
  exact ⟨_, rfl, by decide, "HollowPress$Trace", w_37, Or.inl rfl⟩⟩
theorem nr_9_1 : ∀ t, fit 9 t = true → isR (t - 1) 1 = false := fun t ht => by
  cases fit_1 (by decide) ht
  rfl
theorem w_38 : Cond.fieldLink RX9 9 "HollowPress$Trace" "numbers" "[I" ∈ gtbl := tb_g 34 (by decide +kernel) rfl
theorem fk_X9_9 : Fok RX9 9 9 0 := ⟨by decide, fun t ht => by
  cases fit_1 (by decide) ht
  exact ⟨_, rfl, by decide, "HollowPress$Trace", w_38, Or.inl rfl⟩⟩
theorem yr_9_0 : ∀ t, fit 9 t = true → isR (t - 1) 0 = true := fun t ht => by
  cases fit_1 (by decide) ht
  rfl
theorem gk_X9_15 (nm : String) (cc : ByteArray) (n : Nat) (r : Option FieldType) (d : Nat) : Gok (RX9, nm, cc, n, r, d) 15 9 1 := ⟨by decide, fun t ht => by
  cases fit_1 (by decide) ht
  exact ⟨_, rfl, by decide, "HollowPress$Trace", w_37, Or.inl rfl, Or.inl rfl⟩⟩
theorem ti_9_1 : ∀ t, fit 9 t = true → tyT (t - 1) 1 = .int := fun t ht => by
  cases fit_1 (by decide) ht
  rfl
theorem w_39 : Cond.methodLink RX8 7 ⟨"HollowPress$Trace", "leave", "(I)V"⟩ ∈ gtbl := tb_g 465 (by decide +kernel) rfl
theorem w_40 : Cond.instanceMethod ⟨"HollowPress$Trace", "leave", "(I)V"⟩ ∈ gtbl := tb_g 450 (by decide +kernel) rfl
theorem w_41 : Cond.selects "HollowPress$Trace" ⟨"HollowPress$Trace", "leave", "(I)V"⟩ ⟨"HollowPress$Trace", "leave", "(I)V"⟩ ∈ gtbl := tb_g 451 (by decide +kernel) rfl
theorem w_42 : Cond.initialized "HollowPress$Trace" ∈ gtbl := tb_g 2 (by decide +kernel) rfl
theorem w_43 : Cond.code yX9_leave cX9_leave 2 none ∈ gtbl := tb_g 452 (by decide +kernel) rfl
theorem w_44 : Cond.methodLink RX3 47 ⟨"HollowPress$Trace", "leave", "(I)V"⟩ ∈ gtbl := tb_g 456 (by decide +kernel) rfl
theorem fk_X3_36 : Fok RX3 36 4 2 := ⟨by decide, fun t ht => by
  rcases fit_4 ht with rfl | rfl | rfl
  · exact ⟨_, rfl, by decide, "HollowPress$Part", w_20, Or.inl rfl⟩
  · exact ⟨_, rfl, by decide, "HollowPress$Part", w_20, Or.inl rfl⟩
  · exact ⟨_, rfl, by decide, "HollowPress$Part", w_20, Or.inl rfl⟩⟩
theorem w_45 : Cond.methodLink RX3 53 ⟨"HollowPress$Thing", "weigh", "(LHollowPress$Trace;)I"⟩ ∈ gtbl := tb_g 457 (by decide +kernel) rfl
theorem w_46 : Cond.sameMethod "HollowPress$Thing" "HollowPress$Thing" "weigh" "(LHollowPress$Trace;)I" ∈ gtbl := tb_g 445 (by decide +kernel) rfl
theorem w_47 : Cond.instanceMethod ⟨"HollowPress$Thing", "weigh", "(LHollowPress$Trace;)I"⟩ ∈ gtbl := tb_g 444 (by decide +kernel) rfl
theorem w_48 : Cond.code yX8_weigh cX8_weigh 2 (some .int) ∈ gtbl := tb_g 464 (by decide +kernel) rfl
theorem w_49 : Cond.methodLink RX0 11 ⟨"HollowPress$Trace", "leave", "(I)V"⟩ ∈ gtbl := tb_g 449 (by decide +kernel) rfl
theorem w_50 : Cond.methodLink RX0 17 ⟨"HollowPress$Part", "weigh", "(LHollowPress$Trace;)I"⟩ ∈ gtbl := tb_g 453 (by decide +kernel) rfl
theorem w_51 : Cond.sameMethod "HollowPress$Part" "HollowPress$Part" "weigh" "(LHollowPress$Trace;)I" ∈ gtbl := tb_g 1251 (by decide +kernel) rfl
theorem w_52 : Cond.instanceMethod ⟨"HollowPress$Part", "weigh", "(LHollowPress$Trace;)I"⟩ ∈ gtbl := tb_g 454 (by decide +kernel) rfl
theorem w_53 : Cond.code yX3_weigh cX3_weigh 7 (some .int) ∈ gtbl := tb_g 455 (by decide +kernel) rfl
theorem w_54 : Cond.sameField "HollowPress$EvenPart" "HollowPress$Part" "gateCount" "I" ∈ gtbl := tb_g 299 (by decide +kernel) rfl
theorem w_55 : Cond.fieldLink RX0 21 "HollowPress$EvenPart" "gateCount" "I" ∈ gtbl := tb_g 298 (by decide +kernel) rfl
theorem fk_X0_21 : Fok RX0 21 1 5 := ⟨by decide, fun t ht => by
  rcases fit_e ht with rfl | rfl
  · exact ⟨_, rfl, by decide, "HollowPress$EvenPart", w_55, Or.inr w_54⟩
  · exact ⟨_, rfl, by decide, "HollowPress$EvenPart", w_55, Or.inr w_54⟩⟩
theorem nr_1_5 : ∀ t, fit 1 t = true → isR (t - 1) 5 = false := fun t ht => by
  rcases fit_e ht with rfl | rfl <;> rfl
theorem w_56 : Cond.fieldLink RX1 34 "HollowPress$Flow" "filled" "I" ∈ gtbl := tb_g 55 (by decide +kernel) rfl
theorem gk_X1_34 (nm : String) (cc : ByteArray) (n : Nat) (r : Option FieldType) (d : Nat) : Gok (RX1, nm, cc, n, r, d) 34 2 7 := ⟨by decide, fun t ht => by
  cases fit_1 (by decide) ht
  exact ⟨_, rfl, by decide, "HollowPress$Flow", w_56, Or.inl rfl, Or.inl rfl⟩⟩
theorem ti_2_7 : ∀ t, fit 2 t = true → tyT (t - 1) 7 = .int := fun t ht => by
  cases fit_1 (by decide) ht
  rfl
theorem w_57 : Cond.fieldLink RX1 30 "HollowPress$Flow" "cells" "I" ∈ gtbl := tb_g 54 (by decide +kernel) rfl
theorem fk_X1_30 : Fok RX1 30 2 6 := ⟨by decide, fun t ht => by
  cases fit_1 (by decide) ht
  exact ⟨_, rfl, by decide, "HollowPress$Flow", w_57, Or.inl rfl⟩⟩
theorem nr_2_6 : ∀ t, fit 2 t = true → isR (t - 1) 6 = false := fun t ht => by
  cases fit_1 (by decide) ht
  rfl
theorem w_58 : Cond.fieldLink RX1 18 "HollowPress$Flow" "least" "[I" ∈ gtbl := tb_g 50 (by decide +kernel) rfl
theorem fk_X1_18 : Fok RX1 18 2 2 := ⟨by decide, fun t ht => by
  cases fit_1 (by decide) ht
  exact ⟨_, rfl, by decide, "HollowPress$Flow", w_58, Or.inl rfl⟩⟩
theorem yr_2_2 : ∀ t, fit 2 t = true → isR (t - 1) 2 = true := fun t ht => by
  cases fit_1 (by decide) ht
  rfl
theorem w_59 : Cond.constant RX1 96 (2147483647) ∈ gtbl := tb_g 563 (by decide +kernel) rfl
theorem w_60 : Cond.methodLinkNest RX1 90 ⟨"HollowPress", "below", "(II)Z"⟩ "HollowPress" ∈ nws := tb_n 557 (by decide +kernel) rfl
theorem w_61 : Cond.static ⟨"HollowPress", "below", "(II)Z"⟩ ∈ gtbl := tb_g 190 (by decide +kernel) rfl
theorem w_62 : Cond.initialized "HollowPress" ∈ gtbl := tb_g 1 (by decide +kernel) rfl
theorem w_63 : Cond.code yX10_below cX10_below 2 (some .boolean) ∈ gtbl := tb_g 191 (by decide +kernel) rfl
theorem w_64 : Cond.methodLink RX1 73 ⟨"HollowPress$Flow", "reached", "(I)Z"⟩ ∈ gtbl := tb_g 580 (by decide +kernel) rfl
theorem w_65 : Cond.instanceMethod ⟨"HollowPress$Flow", "reached", "(I)Z"⟩ ∈ gtbl := tb_g 582 (by decide +kernel) rfl
theorem w_66 : Cond.selects "HollowPress$Flow" ⟨"HollowPress$Flow", "reached", "(I)Z"⟩ ⟨"HollowPress$Flow", "reached", "(I)Z"⟩ ∈ gtbl := tb_s 12 (by decide +kernel) rfl
theorem w_67 : Cond.initialized "HollowPress$Flow" ∈ gtbl := tb_g 3 (by decide +kernel) rfl
theorem w_68 : Cond.code yX1_reached cX1_reached 2 (some .boolean) ∈ gtbl := tb_g 583 (by decide +kernel) rfl
theorem w_69 : Cond.constant RX1 77 (-1000000) ∈ gtbl := tb_g 558 (by decide +kernel) rfl
theorem w_70 : Cond.fieldLink RX1 9 "HollowPress$Flow" "drags" "[I" ∈ gtbl := tb_g 48 (by decide +kernel) rfl
theorem fk_X1_9 : Fok RX1 9 2 0 := ⟨by decide, fun t ht => by
  cases fit_1 (by decide) ht
  exact ⟨_, rfl, by decide, "HollowPress$Flow", w_70, Or.inl rfl⟩⟩
theorem yr_2_0 : ∀ t, fit 2 t = true → isR (t - 1) 0 = true := fun t ht => by
  cases fit_1 (by decide) ht
  rfl
theorem w_71 : Cond.methodLink RX1 69 ⟨"HollowPress$Flow", "strain", "(I)I"⟩ ∈ gtbl := tb_g 584 (by decide +kernel) rfl
theorem w_72 : Cond.instanceMethod ⟨"HollowPress$Flow", "strain", "(I)I"⟩ ∈ gtbl := tb_g 585 (by decide +kernel) rfl
theorem w_73 : Cond.selects "HollowPress$Flow" ⟨"HollowPress$Flow", "strain", "(I)I"⟩ ⟨"HollowPress$Flow", "strain", "(I)I"⟩ ∈ gtbl := tb_g 586 (by decide +kernel) rfl
theorem w_74 : Cond.code yX1_strain cX1_strain 2 (some .int) ∈ gtbl := tb_g 587 (by decide +kernel) rfl
theorem w_75 : Cond.methodLink RX1 104 Lib.Math.max.name ∈ gtbl := tb_g 667 (by decide +kernel) rfl
theorem w_76 : Cond.static Lib.Math.max.name ∈ gtbl := tb_g 204 (by decide +kernel) rfl
theorem w_77 : Cond.initialized "java/lang/Math" ∈ gtbl := tb_g 8 (by decide +kernel) rfl
theorem w_78 : Cond.code Lib.Math.max.name Lib.Math.max.code 2 (some .int) ∈ gtbl := tb_g 205 (by decide +kernel) rfl
theorem w_79 : Cond.fieldLink RX1 27 "HollowPress$Flow" "endsAtLeast" "[I" ∈ gtbl := tb_g 53 (by decide +kernel) rfl
theorem fk_X1_27 : Fok RX1 27 2 5 := ⟨by decide, fun t ht => by
  cases fit_1 (by decide) ht
  exact ⟨_, rfl, by decide, "HollowPress$Flow", w_79, Or.inl rfl⟩⟩
theorem yr_2_5 : ∀ t, fit 2 t = true → isR (t - 1) 5 = true := fun t ht => by
  cases fit_1 (by decide) ht
  rfl
theorem w_80 : Cond.fieldLink RX1 15 "HollowPress$Flow" "beside" "[I" ∈ gtbl := tb_g 49 (by decide +kernel) rfl
theorem fk_X1_15 : Fok RX1 15 2 1 := ⟨by decide, fun t ht => by
  cases fit_1 (by decide) ht
  exact ⟨_, rfl, by decide, "HollowPress$Flow", w_80, Or.inl rfl⟩⟩
theorem yr_2_1 : ∀ t, fit 2 t = true → isR (t - 1) 1 = true := fun t ht => by
  cases fit_1 (by decide) ht
  rfl
theorem w_81 : Cond.methodLink RX1 129 ⟨"HollowPress$Flow", "ease", "(I)Z"⟩ ∈ gtbl := tb_g 572 (by decide +kernel) rfl
theorem w_82 : Cond.instanceMethod ⟨"HollowPress$Flow", "ease", "(I)Z"⟩ ∈ gtbl := tb_g 574 (by decide +kernel) rfl
theorem w_83 : Cond.selects "HollowPress$Flow" ⟨"HollowPress$Flow", "ease", "(I)Z"⟩ ⟨"HollowPress$Flow", "ease", "(I)Z"⟩ ∈ gtbl := tb_s 10 (by decide +kernel) rfl
theorem w_84 : Cond.code yX1_ease cX1_ease 5 (some .boolean) ∈ gtbl := tb_g 575 (by decide +kernel) rfl
theorem w_85 : Cond.methodLinkNest RX3 57 ⟨"HollowPress", "below", "(II)Z"⟩ "HollowPress" ∈ nws := tb_n 513 (by decide +kernel) rfl
theorem w_86 : Cond.methodLink RX3 61 ⟨"HollowPress$Part", "thickness", "(I)I"⟩ ∈ gtbl := tb_g 552 (by decide +kernel) rfl
theorem w_87 : Cond.instanceMethod ⟨"HollowPress$Part", "thickness", "(I)I"⟩ ∈ gtbl := tb_g 507 (by decide +kernel) rfl
theorem w_88 : Cond.selects "HollowPress$Part" ⟨"HollowPress$Part", "thickness", "(I)I"⟩ ⟨"HollowPress$Part", "thickness", "(I)I"⟩ ∈ gtbl := tb_g 508 (by decide +kernel) rfl
theorem w_89 : Cond.code yX3_thickness cX3_thickness 2 (some .int) ∈ gtbl := tb_g 512 (by decide +kernel) rfl
theorem w_90 : Cond.sameMethod "HollowPress$Part" "HollowPress$Part" "thickness" "(I)I" ∈ gtbl := tb_g 509 (by decide +kernel) rfl
theorem w_91 : Cond.selects "HollowPress$EvenPart" ⟨"HollowPress$Part", "thickness", "(I)I"⟩ ⟨"HollowPress$Part", "thickness", "(I)I"⟩ ∈ gtbl := tb_g 510 (by decide +kernel) rfl
theorem w_92 : Cond.selects "HollowPress$Plate" ⟨"HollowPress$Part", "thickness", "(I)I"⟩ ⟨"HollowPress$Part", "thickness", "(I)I"⟩ ∈ gtbl := tb_g 511 (by decide +kernel) rfl
theorem w_93 : Cond.fieldLink RX1 110 "HollowPress$Part" "thick" "[I" ∈ gtbl := tb_g 291 (by decide +kernel) rfl
theorem fk_X1_110 : Fok RX1 110 4 2 := ⟨by decide, fun t ht => by
  rcases fit_4 ht with rfl | rfl | rfl
  · exact ⟨_, rfl, by decide, "HollowPress$Part", w_93, Or.inl rfl⟩
  · exact ⟨_, rfl, by decide, "HollowPress$Part", w_93, Or.inl rfl⟩
  · exact ⟨_, rfl, by decide, "HollowPress$Part", w_93, Or.inl rfl⟩⟩
theorem w_94 : Cond.methodLink RX1 113 Lib.Math.min.name ∈ gtbl := tb_g 542 (by decide +kernel) rfl
theorem w_95 : Cond.static Lib.Math.min.name ∈ gtbl := tb_g 543 (by decide +kernel) rfl
theorem w_96 : Cond.code Lib.Math.min.name Lib.Math.min.code 2 (some .int) ∈ gtbl := tb_g 544 (by decide +kernel) rfl
theorem gk_X1_30 (nm : String) (cc : ByteArray) (n : Nat) (r : Option FieldType) (d : Nat) : Gok (RX1, nm, cc, n, r, d) 30 2 6 := ⟨by decide, fun t ht => by
  cases fit_1 (by decide) ht
  exact ⟨_, rfl, by decide, "HollowPress$Flow", w_57, Or.inl rfl, Or.inl rfl⟩⟩
theorem ti_2_6 : ∀ t, fit 2 t = true → tyT (t - 1) 6 = .int := fun t ht => by
  cases fit_1 (by decide) ht
  rfl
theorem w_97 : Cond.methodLink RX1 116 ⟨"HollowPress$Part", "drag", "(I)I"⟩ ∈ gtbl := tb_g 545 (by decide +kernel) rfl
theorem w_98 : Cond.instanceMethod ⟨"HollowPress$Part", "drag", "(I)I"⟩ ∈ gtbl := tb_g 546 (by decide +kernel) rfl
theorem w_99 : Cond.selects "HollowPress$Part" ⟨"HollowPress$Part", "drag", "(I)I"⟩ ⟨"HollowPress$Part", "drag", "(I)I"⟩ ∈ gtbl := tb_g 547 (by decide +kernel) rfl
theorem w_100 : Cond.code yX3_drag cX3_drag 3 (some .int) ∈ gtbl := tb_g 551 (by decide +kernel) rfl
theorem w_101 : Cond.sameMethod "HollowPress$Part" "HollowPress$Part" "drag" "(I)I" ∈ gtbl := tb_g 548 (by decide +kernel) rfl
theorem w_102 : Cond.selects "HollowPress$EvenPart" ⟨"HollowPress$Part", "drag", "(I)I"⟩ ⟨"HollowPress$Part", "drag", "(I)I"⟩ ∈ gtbl := tb_g 549 (by decide +kernel) rfl
theorem w_103 : Cond.selects "HollowPress$Plate" ⟨"HollowPress$Part", "drag", "(I)I"⟩ ⟨"HollowPress$Part", "drag", "(I)I"⟩ ∈ gtbl := tb_g 550 (by decide +kernel) rfl
theorem w_104 : Cond.fieldLink RX1 119 "HollowPress$Part" "h" "I" ∈ gtbl := tb_g 289 (by decide +kernel) rfl
theorem fk_X1_119 : Fok RX1 119 4 1 := ⟨by decide, fun t ht => by
  rcases fit_4 ht with rfl | rfl | rfl
  · exact ⟨_, rfl, by decide, "HollowPress$Part", w_104, Or.inl rfl⟩
  · exact ⟨_, rfl, by decide, "HollowPress$Part", w_104, Or.inl rfl⟩
  · exact ⟨_, rfl, by decide, "HollowPress$Part", w_104, Or.inl rfl⟩⟩
theorem nr_4_1 : ∀ t, fit 4 t = true → isR (t - 1) 1 = false := fun t ht => by
  rcases fit_4 ht with rfl | rfl | rfl <;> rfl
theorem w_105 : Cond.fieldLink RX1 122 "HollowPress$Part" "w" "I" ∈ gtbl := tb_g 287 (by decide +kernel) rfl
theorem fk_X1_122 : Fok RX1 122 4 0 := ⟨by decide, fun t ht => by
  rcases fit_4 ht with rfl | rfl | rfl
  · exact ⟨_, rfl, by decide, "HollowPress$Part", w_105, Or.inl rfl⟩
  · exact ⟨_, rfl, by decide, "HollowPress$Part", w_105, Or.inl rfl⟩
  · exact ⟨_, rfl, by decide, "HollowPress$Part", w_105, Or.inl rfl⟩⟩
theorem nr_4_0 : ∀ t, fit 4 t = true → isR (t - 1) 0 = false := fun t ht => by
  rcases fit_4 ht with rfl | rfl | rfl <;> rfl
theorem w_106 : Cond.methodLink RX1 125 ⟨"HollowPress$Flow", "join", "(IIIZ)V"⟩ ∈ gtbl := tb_g 553 (by decide +kernel) rfl
theorem w_107 : Cond.instanceMethod ⟨"HollowPress$Flow", "join", "(IIIZ)V"⟩ ∈ gtbl := tb_g 555 (by decide +kernel) rfl
theorem w_108 : Cond.selects "HollowPress$Flow" ⟨"HollowPress$Flow", "join", "(IIIZ)V"⟩ ⟨"HollowPress$Flow", "join", "(IIIZ)V"⟩ ∈ gtbl := tb_s 6 (by decide +kernel) rfl
theorem w_109 : Cond.code yX1_join cX1_join 6 none ∈ gtbl := tb_g 556 (by decide +kernel) rfl
theorem w_110 : Cond.methodLink RX1 97 ⟨"HollowPress$Flow", "empty", "()V"⟩ ∈ gtbl := tb_g 559 (by decide +kernel) rfl
theorem w_111 : Cond.instanceMethod ⟨"HollowPress$Flow", "empty", "()V"⟩ ∈ gtbl := tb_g 561 (by decide +kernel) rfl
theorem w_112 : Cond.selects "HollowPress$Flow" ⟨"HollowPress$Flow", "empty", "()V"⟩ ⟨"HollowPress$Flow", "empty", "()V"⟩ ∈ gtbl := tb_s 7 (by decide +kernel) rfl
theorem w_113 : Cond.code yX1_empty cX1_empty 2 none ∈ gtbl := tb_g 562 (by decide +kernel) rfl
theorem w_114 : Cond.fieldLink RX1 37 "HollowPress$Flow" "of" "LHollowPress$Part;" ∈ gtbl := tb_g 56 (by decide +kernel) rfl
theorem gk_X1_37 (nm : String) (cc : ByteArray) (n : Nat) (r : Option FieldType) (d : Nat) : Gok (RX1, nm, cc, n, r, d) 37 2 8 := ⟨by decide, fun t ht => by
  cases fit_1 (by decide) ht
  exact ⟨_, rfl, by decide, "HollowPress$Flow", w_114, Or.inl rfl, Or.inl rfl⟩⟩
theorem yr_2_8 : ∀ t, fit 2 t = true → isR (t - 1) 8 = true := fun t ht => by
  cases fit_1 (by decide) ht
  rfl
theorem w_115 : Cond.methodLink RX1 49 ⟨"HollowPress$Flow", "layOut", "(LHollowPress$Part;)V"⟩ ∈ gtbl := tb_g 538 (by decide +kernel) rfl
theorem w_116 : Cond.instanceMethod ⟨"HollowPress$Flow", "layOut", "(LHollowPress$Part;)V"⟩ ∈ gtbl := tb_g 540 (by decide +kernel) rfl
theorem w_117 : Cond.selects "HollowPress$Flow" ⟨"HollowPress$Flow", "layOut", "(LHollowPress$Part;)V"⟩ ⟨"HollowPress$Flow", "layOut", "(LHollowPress$Part;)V"⟩ ∈ gtbl := tb_s 5 (by decide +kernel) rfl
theorem w_118 : Cond.code yX1_layOut cX1_layOut 5 none ∈ gtbl := tb_g 541 (by decide +kernel) rfl
theorem w_119 : Cond.methodLink RX1 56 ⟨"HollowPress$Flow", "startAt", "(II)V"⟩ ∈ gtbl := tb_g 564 (by decide +kernel) rfl
theorem w_120 : Cond.instanceMethod ⟨"HollowPress$Flow", "startAt", "(II)V"⟩ ∈ gtbl := tb_g 566 (by decide +kernel) rfl
theorem w_121 : Cond.selects "HollowPress$Flow" ⟨"HollowPress$Flow", "startAt", "(II)V"⟩ ⟨"HollowPress$Flow", "startAt", "(II)V"⟩ ∈ gtbl := tb_s 8 (by decide +kernel) rfl
theorem w_122 : Cond.code yX1_startAt cX1_startAt 3 none ∈ gtbl := tb_g 567 (by decide +kernel) rfl
theorem w_123 : Cond.methodLink RX1 60 ⟨"HollowPress$Flow", "flowOn", "()V"⟩ ∈ gtbl := tb_g 568 (by decide +kernel) rfl
theorem w_124 : Cond.instanceMethod ⟨"HollowPress$Flow", "flowOn", "()V"⟩ ∈ gtbl := tb_g 570 (by decide +kernel) rfl
theorem w_125 : Cond.selects "HollowPress$Flow" ⟨"HollowPress$Flow", "flowOn", "()V"⟩ ⟨"HollowPress$Flow", "flowOn", "()V"⟩ ∈ gtbl := tb_s 9 (by decide +kernel) rfl
theorem w_126 : Cond.code yX1_flowOn cX1_flowOn 4 none ∈ gtbl := tb_g 571 (by decide +kernel) rfl
theorem w_127 : Cond.methodLink RX1 100 ⟨"HollowPress$Flow", "endsOfTrial", "()I"⟩ ∈ gtbl := tb_g 663 (by decide +kernel) rfl
theorem w_128 : Cond.instanceMethod ⟨"HollowPress$Flow", "endsOfTrial", "()I"⟩ ∈ gtbl := tb_g 665 (by decide +kernel) rfl
theorem w_129 : Cond.selects "HollowPress$Flow" ⟨"HollowPress$Flow", "endsOfTrial", "()I"⟩ ⟨"HollowPress$Flow", "endsOfTrial", "()I"⟩ ∈ gtbl := tb_s 14 (by decide +kernel) rfl
theorem w_130 : Cond.code yX1_endsOfTrial cX1_endsOfTrial 4 (some .int) ∈ gtbl := tb_g 666 (by decide +kernel) rfl
theorem w_131 : Cond.methodLink RX1 81 ⟨"HollowPress$Flow", "front", "(I)I"⟩ ∈ gtbl := tb_g 626 (by decide +kernel) rfl
theorem w_132 : Cond.instanceMethod ⟨"HollowPress$Flow", "front", "(I)I"⟩ ∈ gtbl := tb_g 606 (by decide +kernel) rfl
theorem w_133 : Cond.selects "HollowPress$Flow" ⟨"HollowPress$Flow", "front", "(I)I"⟩ ⟨"HollowPress$Flow", "front", "(I)I"⟩ ∈ gtbl := tb_g 607 (by decide +kernel) rfl
theorem w_134 : Cond.code yX1_front cX1_front 2 (some .int) ∈ gtbl := tb_g 608 (by decide +kernel) rfl
theorem w_135 : Cond.fieldLink RX1 24 "HollowPress$Flow" "ranks" "[I" ∈ gtbl := tb_g 52 (by decide +kernel) rfl
theorem fk_X1_24 : Fok RX1 24 2 4 := ⟨by decide, fun t ht => by
  cases fit_1 (by decide) ht
  exact ⟨_, rfl, by decide, "HollowPress$Flow", w_135, Or.inl rfl⟩⟩
theorem yr_2_4 : ∀ t, fit 2 t = true → isR (t - 1) 4 = true := fun t ht => by
  cases fit_1 (by decide) ht
  rfl
theorem fk_X3_39 : Fok RX3 39 4 3 := ⟨by decide, fun t ht => by
  rcases fit_4 ht with rfl | rfl | rfl
  · exact ⟨_, rfl, by decide, "HollowPress$Part", w_22, Or.inl rfl⟩
  · exact ⟨_, rfl, by decide, "HollowPress$Part", w_22, Or.inl rfl⟩
  · exact ⟨_, rfl, by decide, "HollowPress$Part", w_22, Or.inl rfl⟩⟩
theorem w_136 : Cond.methodLink RX1 84 ⟨"HollowPress$Part", "hasVent", "(I)Z"⟩ ∈ gtbl := tb_g 635 (by decide +kernel) rfl
theorem w_137 : Cond.instanceMethod ⟨"HollowPress$Part", "hasVent", "(I)Z"⟩ ∈ gtbl := tb_g 636 (by decide +kernel) rfl
theorem w_138 : Cond.selects "HollowPress$Part" ⟨"HollowPress$Part", "hasVent", "(I)Z"⟩ ⟨"HollowPress$Part", "hasVent", "(I)Z"⟩ ∈ gtbl := tb_g 637 (by decide +kernel) rfl
theorem w_139 : Cond.code yX3_hasVent cX3_hasVent 2 (some .boolean) ∈ gtbl := tb_g 641 (by decide +kernel) rfl
theorem w_140 : Cond.sameMethod "HollowPress$Part" "HollowPress$Part" "hasVent" "(I)Z" ∈ gtbl := tb_g 638 (by decide +kernel) rfl
theorem w_141 : Cond.selects "HollowPress$EvenPart" ⟨"HollowPress$Part", "hasVent", "(I)Z"⟩ ⟨"HollowPress$Part", "hasVent", "(I)Z"⟩ ∈ gtbl := tb_g 639 (by decide +kernel) rfl
theorem w_142 : Cond.selects "HollowPress$Plate" ⟨"HollowPress$Part", "hasVent", "(I)Z"⟩ ⟨"HollowPress$Part", "hasVent", "(I)Z"⟩ ∈ gtbl := tb_g 640 (by decide +kernel) rfl
theorem w_143 : Cond.methodLink RX1 87 ⟨"HollowPress$Flow", "isLastAround", "(I)Z"⟩ ∈ gtbl := tb_g 642 (by decide +kernel) rfl
theorem w_144 : Cond.instanceMethod ⟨"HollowPress$Flow", "isLastAround", "(I)Z"⟩ ∈ gtbl := tb_g 644 (by decide +kernel) rfl
theorem w_145 : Cond.selects "HollowPress$Flow" ⟨"HollowPress$Flow", "isLastAround", "(I)Z"⟩ ⟨"HollowPress$Flow", "isLastAround", "(I)Z"⟩ ∈ gtbl := tb_s 13 (by decide +kernel) rfl
theorem w_146 : Cond.code yX1_isLastAround cX1_isLastAround 4 (some .boolean) ∈ gtbl := tb_g 645 (by decide +kernel) rfl
theorem fk_X1_34 : Fok RX1 34 2 7 := ⟨by decide, fun t ht => by
  cases fit_1 (by decide) ht
  exact ⟨_, rfl, by decide, "HollowPress$Flow", w_56, Or.inl rfl⟩⟩
theorem nr_2_7 : ∀ t, fit 2 t = true → isR (t - 1) 7 = false := fun t ht => by
  cases fit_1 (by decide) ht
  rfl
theorem w_147 : Cond.fieldLink RX1 21 "HollowPress$Flow" "order" "[I" ∈ gtbl := tb_g 51 (by decide +kernel) rfl
theorem fk_X1_21 : Fok RX1 21 2 3 := ⟨by decide, fun t ht => by
  cases fit_1 (by decide) ht
  exact ⟨_, rfl, by decide, "HollowPress$Flow", w_147, Or.inl rfl⟩⟩
theorem yr_2_3 : ∀ t, fit 2 t = true → isR (t - 1) 3 = true := fun t ht => by
  cases fit_1 (by decide) ht
  rfl
theorem fk_X1_37 : Fok RX1 37 2 8 := ⟨by decide, fun t ht => by
  cases fit_1 (by decide) ht
  exact ⟨_, rfl, by decide, "HollowPress$Flow", w_114, Or.inl rfl⟩⟩
theorem w_148 : Cond.fieldLink RX1 44 "HollowPress$Part" "gateCount" "I" ∈ gtbl := tb_g 297 (by decide +kernel) rfl
theorem fk_X1_44 : Fok RX1 44 4 5 := ⟨by decide, fun t ht => by
  rcases fit_4 ht with rfl | rfl | rfl
  · exact ⟨_, rfl, by decide, "HollowPress$Part", w_148, Or.inl rfl⟩
  · exact ⟨_, rfl, by decide, "HollowPress$Part", w_148, Or.inl rfl⟩
  · exact ⟨_, rfl, by decide, "HollowPress$Part", w_148, Or.inl rfl⟩⟩
theorem nr_4_5 : ∀ t, fit 4 t = true → isR (t - 1) 5 = false := fun t ht => by
  rcases fit_4 ht with rfl | rfl | rfl <;> rfl
theorem w_149 : Cond.fieldLink RX1 53 "HollowPress$Part" "gates" "[I" ∈ gtbl := tb_g 295 (by decide +kernel) rfl
theorem fk_X1_53 : Fok RX1 53 4 4 := ⟨by decide, fun t ht => by
  rcases fit_4 ht with rfl | rfl | rfl
  · exact ⟨_, rfl, by decide, "HollowPress$Part", w_149, Or.inl rfl⟩
  · exact ⟨_, rfl, by decide, "HollowPress$Part", w_149, Or.inl rfl⟩
  · exact ⟨_, rfl, by decide, "HollowPress$Part", w_149, Or.inl rfl⟩⟩
theorem w_150 : Cond.methodLink RX1 63 ⟨"HollowPress$Flow", "putInOrder", "()V"⟩ ∈ gtbl := tb_g 576 (by decide +kernel) rfl
theorem w_151 : Cond.instanceMethod ⟨"HollowPress$Flow", "putInOrder", "()V"⟩ ∈ gtbl := tb_g 578 (by decide +kernel) rfl
theorem w_152 : Cond.selects "HollowPress$Flow" ⟨"HollowPress$Flow", "putInOrder", "()V"⟩ ⟨"HollowPress$Flow", "putInOrder", "()V"⟩ ∈ gtbl := tb_s 11 (by decide +kernel) rfl
theorem w_153 : Cond.code yX1_putInOrder cX1_putInOrder 3 none ∈ gtbl := tb_g 579 (by decide +kernel) rfl
theorem w_154 : Cond.fieldLink RX1 41 "HollowPress$Flow" "gatesThen" "I" ∈ gtbl := tb_g 57 (by decide +kernel) rfl
theorem gk_X1_41 (nm : String) (cc : ByteArray) (n : Nat) (r : Option FieldType) (d : Nat) : Gok (RX1, nm, cc, n, r, d) 41 2 9 := ⟨by decide, fun t ht => by
  cases fit_1 (by decide) ht
  exact ⟨_, rfl, by decide, "HollowPress$Flow", w_154, Or.inl rfl, Or.inl rfl⟩⟩
theorem ti_2_9 : ∀ t, fit 2 t = true → tyT (t - 1) 9 = .int := fun t ht => by
  cases fit_1 (by decide) ht
  rfl
theorem fk_X1_41 : Fok RX1 41 2 9 := ⟨by decide, fun t ht => by
  cases fit_1 (by decide) ht
  exact ⟨_, rfl, by decide, "HollowPress$Flow", w_154, Or.inl rfl⟩⟩
theorem nr_2_9 : ∀ t, fit 2 t = true → isR (t - 1) 9 = false := fun t ht => by
  cases fit_1 (by decide) ht
  rfl
theorem w_155 : Cond.methodLink RX1 66 ⟨"HollowPress$Flow", "fill", "(LHollowPress$Part;)V"⟩ ∈ gtbl := tb_g 534 (by decide +kernel) rfl
theorem w_156 : Cond.instanceMethod ⟨"HollowPress$Flow", "fill", "(LHollowPress$Part;)V"⟩ ∈ gtbl := tb_g 535 (by decide +kernel) rfl
theorem w_157 : Cond.selects "HollowPress$Flow" ⟨"HollowPress$Flow", "fill", "(LHollowPress$Part;)V"⟩ ⟨"HollowPress$Flow", "fill", "(LHollowPress$Part;)V"⟩ ∈ gtbl := tb_g 536 (by decide +kernel) rfl
theorem w_158 : Cond.code yX1_fill cX1_fill 3 none ∈ gtbl := tb_g 537 (by decide +kernel) rfl
theorem w_159 : Cond.methodLink RX1 78 ⟨"HollowPress$Part", "thickness", "(I)I"⟩ ∈ gtbl := tb_g 617 (by decide +kernel) rfl
theorem w_160 : Cond.constantLong RX1 94 (-1000000) ∈ gtbl := tb_g 654 (by decide +kernel) rfl
theorem w_161 : Cond.methodLink RX1 3 Lib.objectInit ∈ gtbl := tb_g 47 (by decide +kernel) rfl
theorem gk_X1_9i (cc : ByteArray) (n : Nat) (r : Option FieldType) (d : Nat) : Gok (RX1, "<init>", cc, n, r, d) 9 2 0 := ⟨by decide, fun t ht => by
  cases fit_1 (by decide) ht
  exact ⟨_, rfl, by decide, "HollowPress$Flow", w_70, Or.inl rfl, Or.inr ⟨rfl, rfl, rfl⟩⟩⟩
theorem gk_X1_15i (cc : ByteArray) (n : Nat) (r : Option FieldType) (d : Nat) : Gok (RX1, "<init>", cc, n, r, d) 15 2 1 := ⟨by decide, fun t ht => by
  cases fit_1 (by decide) ht
  exact ⟨_, rfl, by decide, "HollowPress$Flow", w_80, Or.inl rfl, Or.inr ⟨rfl, rfl, rfl⟩⟩⟩
theorem gk_X1_18i (cc : ByteArray) (n : Nat) (r : Option FieldType) (d : Nat) : Gok (RX1, "<init>", cc, n, r, d) 18 2 2 := ⟨by decide, fun t ht => by
  cases fit_1 (by decide) ht
  exact ⟨_, rfl, by decide, "HollowPress$Flow", w_58, Or.inl rfl, Or.inr ⟨rfl, rfl, rfl⟩⟩⟩
theorem gk_X1_21i (cc : ByteArray) (n : Nat) (r : Option FieldType) (d : Nat) : Gok (RX1, "<init>", cc, n, r, d) 21 2 3 := ⟨by decide, fun t ht => by
  cases fit_1 (by decide) ht
  exact ⟨_, rfl, by decide, "HollowPress$Flow", w_147, Or.inl rfl, Or.inr ⟨rfl, rfl, rfl⟩⟩⟩
theorem gk_X1_24i (cc : ByteArray) (n : Nat) (r : Option FieldType) (d : Nat) : Gok (RX1, "<init>", cc, n, r, d) 24 2 4 := ⟨by decide, fun t ht => by
  cases fit_1 (by decide) ht
  exact ⟨_, rfl, by decide, "HollowPress$Flow", w_135, Or.inl rfl, Or.inr ⟨rfl, rfl, rfl⟩⟩⟩
theorem gk_X1_27i (cc : ByteArray) (n : Nat) (r : Option FieldType) (d : Nat) : Gok (RX1, "<init>", cc, n, r, d) 27 2 5 := ⟨by decide, fun t ht => by
  cases fit_1 (by decide) ht
  exact ⟨_, rfl, by decide, "HollowPress$Flow", w_79, Or.inl rfl, Or.inr ⟨rfl, rfl, rfl⟩⟩⟩
theorem w_162 : Cond.fieldLink RX10 49 "HollowPress" "latest" "I" ∈ gtbl := tb_g 169 (by decide +kernel) rfl
theorem gk_X10_49 (nm : String) (cc : ByteArray) (n : Nat) (r : Option FieldType) (d : Nat) : Gok (RX10, nm, cc, n, r, d) 49 10 6 := ⟨by decide, fun t ht => by
  cases fit_1 (by decide) ht
  exact ⟨_, rfl, by decide, "HollowPress", w_162, Or.inl rfl, Or.inl rfl⟩⟩
theorem ti_10_6 : ∀ t, fit 10 t = true → tyT (t - 1) 6 = .int := fun t ht => by
  cases fit_1 (by decide) ht
  rfl
theorem w_163 : Cond.constant RX10 294 (-1000010) ∈ gtbl := tb_g 197 (by decide +kernel) rfl
theorem w_164 : Cond.fieldLink RX2 13 "HollowPress$Layers" "warm" "[I" ∈ gtbl := tb_g 388 (by decide +kernel) rfl
theorem fk_X2_13 : Fok RX2 13 3 0 := ⟨by decide, fun t ht => by
  cases fit_1 (by decide) ht
  exact ⟨_, rfl, by decide, "HollowPress$Layers", w_164, Or.inl rfl⟩⟩
theorem yr_3_0 : ∀ t, fit 3 t = true → isR (t - 1) 0 = true := fun t ht => by
  cases fit_1 (by decide) ht
  rfl
theorem w_165 : Cond.methodLink RX2 34 Lib.Math.max.name ∈ gtbl := tb_g 477 (by decide +kernel) rfl
theorem w_166 : Cond.methodLink RX2 24 ⟨"HollowPress$Trace", "leave", "(I)V"⟩ ∈ gtbl := tb_g 461 (by decide +kernel) rfl
theorem w_167 : Cond.methodLink RX2 30 ⟨"HollowPress$Layers", "greatest", "()I"⟩ ∈ gtbl := tb_g 473 (by decide +kernel) rfl
theorem w_168 : Cond.instanceMethod ⟨"HollowPress$Layers", "greatest", "()I"⟩ ∈ gtbl := tb_g 475 (by decide +kernel) rfl
theorem w_169 : Cond.selects "HollowPress$Layers" ⟨"HollowPress$Layers", "greatest", "()I"⟩ ⟨"HollowPress$Layers", "greatest", "()I"⟩ ∈ gtbl := tb_s 3 (by decide +kernel) rfl
theorem w_170 : Cond.initialized "HollowPress$Layers" ∈ gtbl := tb_g 14 (by decide +kernel) rfl
theorem w_171 : Cond.code yX2_greatest cX2_greatest 6 (some .int) ∈ gtbl := tb_g 476 (by decide +kernel) rfl
theorem w_172 : Cond.methodLink RX8 13 ⟨"HollowPress$Thing", "weigh", "(LHollowPress$Trace;)I"⟩ ∈ gtbl := tb_g 487 (by decide +kernel) rfl
theorem w_173 : Cond.selects "HollowPress$EvenPart" ⟨"HollowPress$Thing", "weigh", "(LHollowPress$Trace;)I"⟩ ⟨"HollowPress$EvenPart", "weigh", "(LHollowPress$Trace;)I"⟩ ∈ gtbl := tb_g 446 (by decide +kernel) rfl
theorem w_174 : Cond.instanceMethod ⟨"HollowPress$EvenPart", "weigh", "(LHollowPress$Trace;)I"⟩ ∈ gtbl := tb_g 447 (by decide +kernel) rfl
theorem w_175 : Cond.initialized "HollowPress$EvenPart" ∈ gtbl := tb_g 12 (by decide +kernel) rfl
theorem w_176 : Cond.code yX0_weigh cX0_weigh 2 (some .int) ∈ gtbl := tb_g 448 (by decide +kernel) rfl
theorem w_177 : Cond.selects "HollowPress$Layers" ⟨"HollowPress$Thing", "weigh", "(LHollowPress$Trace;)I"⟩ ⟨"HollowPress$Layers", "weigh", "(LHollowPress$Trace;)I"⟩ ∈ gtbl := tb_g 458 (by decide +kernel) rfl
theorem w_178 : Cond.instanceMethod ⟨"HollowPress$Layers", "weigh", "(LHollowPress$Trace;)I"⟩ ∈ gtbl := tb_g 459 (by decide +kernel) rfl
theorem w_179 : Cond.code yX2_weigh cX2_weigh 2 (some .int) ∈ gtbl := tb_g 460 (by decide +kernel) rfl
theorem w_180 : Cond.selects "HollowPress$Part" ⟨"HollowPress$Thing", "weigh", "(LHollowPress$Trace;)I"⟩ ⟨"HollowPress$Part", "weigh", "(LHollowPress$Trace;)I"⟩ ∈ gtbl := tb_g 462 (by decide +kernel) rfl
theorem w_181 : Cond.selects "HollowPress$Plate" ⟨"HollowPress$Thing", "weigh", "(LHollowPress$Trace;)I"⟩ ⟨"HollowPress$EvenPart", "weigh", "(LHollowPress$Trace;)I"⟩ ∈ gtbl := tb_g 463 (by decide +kernel) rfl
theorem w_182 : Cond.methodLink RX4 11 ⟨"HollowPress$Trace", "leave", "(I)V"⟩ ∈ gtbl := tb_g 482 (by decide +kernel) rfl
theorem w_183 : Cond.methodLink RX4 17 ⟨"HollowPress$EvenPart", "mark", "(LHollowPress$Trace;)I"⟩ ∈ gtbl := tb_g 483 (by decide +kernel) rfl
theorem w_184 : Cond.sameMethod "HollowPress$EvenPart" "HollowPress$Thing" "mark" "(LHollowPress$Trace;)I" ∈ gtbl := tb_g 484 (by decide +kernel) rfl
theorem w_185 : Cond.superclass "HollowPress$Plate" "HollowPress$EvenPart" ∈ gtbl := tb_g 358 (by decide +kernel) rfl
theorem w_186 : Cond.instanceMethod ⟨"HollowPress$Thing", "mark", "(LHollowPress$Trace;)I"⟩ ∈ gtbl := tb_g 467 (by decide +kernel) rfl
theorem w_187 : Cond.code yX8_mark cX8_mark 2 (some .int) ∈ gtbl := tb_g 486 (by decide +kernel) rfl
theorem w_188 : Cond.methodLink RX10 53 ⟨"HollowPress", "below", "(II)Z"⟩ ∈ gtbl := tb_g 189 (by decide +kernel) rfl
theorem w_189 : Cond.constant RX10 57 (-1000001) ∈ gtbl := tb_g 192 (by decide +kernel) rfl
theorem w_190 : Cond.fieldLink RX10 24 "HollowPress" "asked" "LHollowPress$Trace;" ∈ gtbl := tb_g 165 (by decide +kernel) rfl
theorem fk_X10_24 : Fok RX10 24 10 2 := ⟨by decide, fun t ht => by
  cases fit_1 (by decide) ht
  exact ⟨_, rfl, by decide, "HollowPress", w_190, Or.inl rfl⟩⟩
theorem yr_10_2 : ∀ t, fit 10 t = true → isR (t - 1) 2 = true := fun t ht => by
  cases fit_1 (by decide) ht
  rfl
theorem w_191 : Cond.methodLink RX10 130 ⟨"HollowPress$Trace", "wipe", "()V"⟩ ∈ gtbl := tb_g 439 (by decide +kernel) rfl
theorem w_192 : Cond.instanceMethod ⟨"HollowPress$Trace", "wipe", "()V"⟩ ∈ gtbl := tb_g 440 (by decide +kernel) rfl
theorem w_193 : Cond.selects "HollowPress$Trace" ⟨"HollowPress$Trace", "wipe", "()V"⟩ ⟨"HollowPress$Trace", "wipe", "()V"⟩ ∈ gtbl := tb_g 441 (by decide +kernel) rfl
theorem w_194 : Cond.code yX9_wipe cX9_wipe 1 none ∈ gtbl := tb_g 442 (by decide +kernel) rfl
theorem w_195 : Cond.fieldLink RX10 17 "HollowPress" "things" "[LHollowPress$Thing;" ∈ gtbl := tb_g 164 (by decide +kernel) rfl
theorem fk_X10_17 : Fok RX10 17 10 1 := ⟨by decide, fun t ht => by
  cases fit_1 (by decide) ht
  exact ⟨_, rfl, by decide, "HollowPress", w_195, Or.inl rfl⟩⟩
theorem yr_10_1 : ∀ t, fit 10 t = true → isR (t - 1) 1 = true := fun t ht => by
  cases fit_1 (by decide) ht
  rfl
theorem w_196 : Cond.methodLink RX10 58 ⟨"HollowPress", "found", "(I)I"⟩ ∈ gtbl := tb_g 193 (by decide +kernel) rfl
theorem w_197 : Cond.instanceMethod ⟨"HollowPress", "found", "(I)I"⟩ ∈ gtbl := tb_g 195 (by decide +kernel) rfl
theorem w_198 : Cond.selects "HollowPress" ⟨"HollowPress", "found", "(I)I"⟩ ⟨"HollowPress", "found", "(I)I"⟩ ∈ gtbl := tb_s 0 (by decide +kernel) rfl
theorem w_199 : Cond.code yX10_found cX10_found 2 (some .int) ∈ gtbl := tb_g 196 (by decide +kernel) rfl
theorem w_200 : Cond.methodLink RX10 65 ⟨"HollowPress", "fine", "(I)I"⟩ ∈ gtbl := tb_g 216 (by decide +kernel) rfl
theorem w_201 : Cond.instanceMethod ⟨"HollowPress", "fine", "(I)I"⟩ ∈ gtbl := tb_g 218 (by decide +kernel) rfl
theorem w_202 : Cond.selects "HollowPress" ⟨"HollowPress", "fine", "(I)I"⟩ ⟨"HollowPress", "fine", "(I)I"⟩ ∈ gtbl := tb_s 1 (by decide +kernel) rfl
theorem w_203 : Cond.code yX10_fine cX10_fine 2 (some .int) ∈ gtbl := tb_g 219 (by decide +kernel) rfl
theorem w_204 : Cond.methodLink RX10 137 ⟨"HollowPress$Thing", "mark", "(LHollowPress$Trace;)I"⟩ ∈ gtbl := tb_g 466 (by decide +kernel) rfl
theorem w_205 : Cond.sameMethod "HollowPress$Thing" "HollowPress$Thing" "mark" "(LHollowPress$Trace;)I" ∈ gtbl := tb_g 468 (by decide +kernel) rfl
theorem w_206 : Cond.selects "HollowPress$EvenPart" ⟨"HollowPress$Thing", "mark", "(LHollowPress$Trace;)I"⟩ ⟨"HollowPress$Thing", "mark", "(LHollowPress$Trace;)I"⟩ ∈ gtbl := tb_g 469 (by decide +kernel) rfl
theorem w_207 : Cond.selects "HollowPress$Layers" ⟨"HollowPress$Thing", "mark", "(LHollowPress$Trace;)I"⟩ ⟨"HollowPress$Layers", "mark", "(LHollowPress$Trace;)I"⟩ ∈ gtbl := tb_g 470 (by decide +kernel) rfl
theorem w_208 : Cond.instanceMethod ⟨"HollowPress$Layers", "mark", "(LHollowPress$Trace;)I"⟩ ∈ gtbl := tb_g 471 (by decide +kernel) rfl
theorem w_209 : Cond.code yX2_mark cX2_mark 2 (some .int) ∈ gtbl := tb_g 472 (by decide +kernel) rfl
theorem w_210 : Cond.selects "HollowPress$Part" ⟨"HollowPress$Thing", "mark", "(LHollowPress$Trace;)I"⟩ ⟨"HollowPress$Thing", "mark", "(LHollowPress$Trace;)I"⟩ ∈ gtbl := tb_g 478 (by decide +kernel) rfl
theorem w_211 : Cond.selects "HollowPress$Plate" ⟨"HollowPress$Thing", "mark", "(LHollowPress$Trace;)I"⟩ ⟨"HollowPress$Plate", "mark", "(LHollowPress$Trace;)I"⟩ ∈ gtbl := tb_g 479 (by decide +kernel) rfl
theorem w_212 : Cond.instanceMethod ⟨"HollowPress$Plate", "mark", "(LHollowPress$Trace;)I"⟩ ∈ gtbl := tb_g 480 (by decide +kernel) rfl
theorem w_213 : Cond.initialized "HollowPress$Plate" ∈ gtbl := tb_g 13 (by decide +kernel) rfl
theorem w_214 : Cond.code yX4_mark cX4_mark 2 (some .int) ∈ gtbl := tb_g 481 (by decide +kernel) rfl
theorem w_215 : Cond.methodLink RX10 133 ⟨"HollowPress$Thing", "weigh", "(LHollowPress$Trace;)I"⟩ ∈ gtbl := tb_g 443 (by decide +kernel) rfl
theorem w_216 : Cond.fieldLink RX6 9 "HollowPress$Runners" "parents" "[I" ∈ gtbl := tb_g 87 (by decide +kernel) rfl
theorem fk_X6_9 : Fok RX6 9 7 0 := ⟨by decide, fun t ht => by
  cases fit_1 (by decide) ht
  exact ⟨_, rfl, by decide, "HollowPress$Runners", w_216, Or.inl rfl⟩⟩
theorem yr_7_0 : ∀ t, fit 7 t = true → isR (t - 1) 0 = true := fun t ht => by
  cases fit_1 (by decide) ht
  rfl
theorem w_217 : Cond.methodLinkNest RX6 87 ⟨"HollowPress", "below", "(II)Z"⟩ "HollowPress" ∈ nws := tb_n 718 (by decide +kernel) rfl
theorem w_218 : Cond.fieldLink RX6 31 "HollowPress$Runners" "drags" "[I" ∈ gtbl := tb_g 94 (by decide +kernel) rfl
theorem fk_X6_31 : Fok RX6 31 7 5 := ⟨by decide, fun t ht => by
  cases fit_1 (by decide) ht
  exact ⟨_, rfl, by decide, "HollowPress$Runners", w_218, Or.inl rfl⟩⟩
theorem yr_7_5 : ∀ t, fit 7 t = true → isR (t - 1) 5 = true := fun t ht => by
  cases fit_1 (by decide) ht
  rfl
theorem w_219 : Cond.fieldLink RX6 15 "HollowPress$Runners" "lengths" "[I" ∈ gtbl := tb_g 88 (by decide +kernel) rfl
theorem fk_X6_15 : Fok RX6 15 7 1 := ⟨by decide, fun t ht => by
  cases fit_1 (by decide) ht
  exact ⟨_, rfl, by decide, "HollowPress$Runners", w_219, Or.inl rfl⟩⟩
theorem yr_7_1 : ∀ t, fit 7 t = true → isR (t - 1) 1 = true := fun t ht => by
  cases fit_1 (by decide) ht
  rfl
theorem w_220 : Cond.fieldLink RX6 27 "HollowPress$Runners" "branches" "I" ∈ gtbl := tb_g 92 (by decide +kernel) rfl
theorem fk_X6_27 : Fok RX6 27 7 4 := ⟨by decide, fun t ht => by
  cases fit_1 (by decide) ht
  exact ⟨_, rfl, by decide, "HollowPress$Runners", w_220, Or.inl rfl⟩⟩
theorem nr_7_4 : ∀ t, fit 7 t = true → isR (t - 1) 4 = false := fun t ht => by
  cases fit_1 (by decide) ht
  rfl
theorem w_221 : Cond.fieldLink RX6 18 "HollowPress$Runners" "sizes" "[I" ∈ gtbl := tb_g 89 (by decide +kernel) rfl
theorem fk_X6_18 : Fok RX6 18 7 2 := ⟨by decide, fun t ht => by
  cases fit_1 (by decide) ht
  exact ⟨_, rfl, by decide, "HollowPress$Runners", w_221, Or.inl rfl⟩⟩
theorem yr_7_2 : ∀ t, fit 7 t = true → isR (t - 1) 2 = true := fun t ht => by
  cases fit_1 (by decide) ht
  rfl
theorem w_222 : Cond.methodLink RX6 84 ⟨"HollowPress$Runners", "dragUpTo", "(II)I"⟩ ∈ gtbl := tb_g 714 (by decide +kernel) rfl
theorem w_223 : Cond.instanceMethod ⟨"HollowPress$Runners", "dragUpTo", "(II)I"⟩ ∈ gtbl := tb_g 716 (by decide +kernel) rfl
theorem w_224 : Cond.selects "HollowPress$Runners" ⟨"HollowPress$Runners", "dragUpTo", "(II)I"⟩ ⟨"HollowPress$Runners", "dragUpTo", "(II)I"⟩ ∈ gtbl := tb_s 16 (by decide +kernel) rfl
theorem w_225 : Cond.initialized "HollowPress$Runners" ∈ gtbl := tb_g 4 (by decide +kernel) rfl
theorem w_226 : Cond.code yX6_dragUpTo cX6_dragUpTo 4 (some .int) ∈ gtbl := tb_g 717 (by decide +kernel) rfl
theorem w_227 : Cond.methodLink RX6 54 ⟨"HollowPress$Runners", "measure", "()V"⟩ ∈ gtbl := tb_g 710 (by decide +kernel) rfl
theorem w_228 : Cond.instanceMethod ⟨"HollowPress$Runners", "measure", "()V"⟩ ∈ gtbl := tb_g 712 (by decide +kernel) rfl
theorem w_229 : Cond.selects "HollowPress$Runners" ⟨"HollowPress$Runners", "measure", "()V"⟩ ⟨"HollowPress$Runners", "measure", "()V"⟩ ∈ gtbl := tb_s 15 (by decide +kernel) rfl
theorem w_230 : Cond.code yX6_measure cX6_measure 2 none ∈ gtbl := tb_g 713 (by decide +kernel) rfl
theorem w_231 : Cond.constant RX6 61 (2147483647) ∈ gtbl := tb_g 728 (by decide +kernel) rfl
theorem w_232 : Cond.fieldLink RX6 23 "HollowPress$Runners" "hung" "[LHollowPress$Part;" ∈ gtbl := tb_g 91 (by decide +kernel) rfl
theorem fk_X6_23 : Fok RX6 23 7 3 := ⟨by decide, fun t ht => by
  cases fit_1 (by decide) ht
  exact ⟨_, rfl, by decide, "HollowPress$Runners", w_232, Or.inl rfl⟩⟩
theorem yr_7_3 : ∀ t, fit 7 t = true → isR (t - 1) 3 = true := fun t ht => by
  cases fit_1 (by decide) ht
  rfl
theorem w_233 : Cond.fieldLink RX6 58 "HollowPress$Part" "ends" "I" ∈ gtbl := tb_g 301 (by decide +kernel) rfl
theorem fk_X6_58 : Fok RX6 58 4 6 := ⟨by decide, fun t ht => by
  rcases fit_4 ht with rfl | rfl | rfl
  · exact ⟨_, rfl, by decide, "HollowPress$Part", w_233, Or.inl rfl⟩
  · exact ⟨_, rfl, by decide, "HollowPress$Part", w_233, Or.inl rfl⟩
  · exact ⟨_, rfl, by decide, "HollowPress$Part", w_233, Or.inl rfl⟩⟩
theorem nr_4_6 : ∀ t, fit 4 t = true → isR (t - 1) 6 = false := fun t ht => by
  rcases fit_4 ht with rfl | rfl | rfl <;> rfl
theorem w_234 : Cond.methodLink RX6 62 Lib.Math.min.name ∈ gtbl := tb_g 729 (by decide +kernel) rfl
theorem w_235 : Cond.methodLink RX6 68 Lib.Math.max.name ∈ gtbl := tb_g 730 (by decide +kernel) rfl
theorem w_236 : Cond.methodLink RX6 71 ⟨"HollowPress$Runners", "between", "(II)I"⟩ ∈ gtbl := tb_g 731 (by decide +kernel) rfl
theorem w_237 : Cond.static ⟨"HollowPress$Runners", "between", "(II)I"⟩ ∈ gtbl := tb_g 732 (by decide +kernel) rfl
theorem w_238 : Cond.code yX6_between cX6_between 2 (some .int) ∈ gtbl := tb_g 733 (by decide +kernel) rfl
theorem w_239 : Cond.fieldLink RX6 43 "HollowPress$Runners" "leastSpread" "I" ∈ gtbl := tb_g 98 (by decide +kernel) rfl
theorem gk_X6_43 (nm : String) (cc : ByteArray) (n : Nat) (r : Option FieldType) (d : Nat) : Gok (RX6, nm, cc, n, r, d) 43 7 9 := ⟨by decide, fun t ht => by
  cases fit_1 (by decide) ht
  exact ⟨_, rfl, by decide, "HollowPress$Runners", w_239, Or.inl rfl, Or.inl rfl⟩⟩
theorem ti_7_9 : ∀ t, fit 7 t = true → tyT (t - 1) 9 = .int := fun t ht => by
  cases fit_1 (by decide) ht
  rfl
theorem w_240 : Cond.fieldLink RX6 46 "HollowPress$Runners" "leastMass" "I" ∈ gtbl := tb_g 99 (by decide +kernel) rfl
theorem gk_X6_46 (nm : String) (cc : ByteArray) (n : Nat) (r : Option FieldType) (d : Nat) : Gok (RX6, nm, cc, n, r, d) 46 7 10 := ⟨by decide, fun t ht => by
  cases fit_1 (by decide) ht
  exact ⟨_, rfl, by decide, "HollowPress$Runners", w_240, Or.inl rfl, Or.inl rfl⟩⟩
theorem ti_7_10 : ∀ t, fit 7 t = true → tyT (t - 1) 10 = .int := fun t ht => by
  cases fit_1 (by decide) ht
  rfl
theorem w_241 : Cond.fieldLink RX6 34 "HollowPress$Runners" "trial" "[I" ∈ gtbl := tb_g 95 (by decide +kernel) rfl
theorem fk_X6_34 : Fok RX6 34 7 6 := ⟨by decide, fun t ht => by
  cases fit_1 (by decide) ht
  exact ⟨_, rfl, by decide, "HollowPress$Runners", w_241, Or.inl rfl⟩⟩
theorem yr_7_6 : ∀ t, fit 7 t = true → isR (t - 1) 6 = true := fun t ht => by
  cases fit_1 (by decide) ht
  rfl
theorem w_242 : Cond.methodLink RX6 78 arraycopyName ∈ gtbl := tb_g 757 (by decide +kernel) rfl
theorem w_243 : Cond.native arraycopyName ∈ gtbl := tb_g 240 (by decide +kernel) rfl
theorem w_244 : Cond.static arraycopyName ∈ gtbl := tb_g 239 (by decide +kernel) rfl
theorem w_245 : Cond.initialized "java/lang/System" ∈ gtbl := tb_g 9 (by decide +kernel) rfl
theorem w_246 : Cond.fieldLink RX6 40 "HollowPress$Runners" "choices" "I" ∈ gtbl := tb_g 97 (by decide +kernel) rfl
theorem fk_X6_40 : Fok RX6 40 7 8 := ⟨by decide, fun t ht => by
  cases fit_1 (by decide) ht
  exact ⟨_, rfl, by decide, "HollowPress$Runners", w_246, Or.inl rfl⟩⟩
theorem nr_7_8 : ∀ t, fit 7 t = true → isR (t - 1) 8 = false := fun t ht => by
  cases fit_1 (by decide) ht
  rfl
theorem w_247 : Cond.fieldLink RX6 37 "HollowPress$Runners" "choice" "[I" ∈ gtbl := tb_g 96 (by decide +kernel) rfl
theorem fk_X6_37 : Fok RX6 37 7 7 := ⟨by decide, fun t ht => by
  cases fit_1 (by decide) ht
  exact ⟨_, rfl, by decide, "HollowPress$Runners", w_247, Or.inl rfl⟩⟩
theorem yr_7_7 : ∀ t, fit 7 t = true → isR (t - 1) 7 = true := fun t ht => by
  cases fit_1 (by decide) ht
  rfl
theorem fk_X6_43 : Fok RX6 43 7 9 := ⟨by decide, fun t ht => by
  cases fit_1 (by decide) ht
  exact ⟨_, rfl, by decide, "HollowPress$Runners", w_239, Or.inl rfl⟩⟩
theorem nr_7_9 : ∀ t, fit 7 t = true → isR (t - 1) 9 = false := fun t ht => by
  cases fit_1 (by decide) ht
  rfl
theorem fk_X6_46 : Fok RX6 46 7 10 := ⟨by decide, fun t ht => by
  cases fit_1 (by decide) ht
  exact ⟨_, rfl, by decide, "HollowPress$Runners", w_240, Or.inl rfl⟩⟩
theorem nr_7_10 : ∀ t, fit 7 t = true → isR (t - 1) 10 = false := fun t ht => by
  cases fit_1 (by decide) ht
  rfl
theorem w_248 : Cond.methodLink RX6 74 ⟨"HollowPress$Runners", "tryFrom", "(IIII)V"⟩ ∈ gtbl := tb_g 753 (by decide +kernel) rfl
theorem w_249 : Cond.instanceMethod ⟨"HollowPress$Runners", "tryFrom", "(IIII)V"⟩ ∈ gtbl := tb_g 755 (by decide +kernel) rfl
theorem w_250 : Cond.selects "HollowPress$Runners" ⟨"HollowPress$Runners", "tryFrom", "(IIII)V"⟩ ⟨"HollowPress$Runners", "tryFrom", "(IIII)V"⟩ ∈ gtbl := tb_s 17 (by decide +kernel) rfl
theorem w_251 : Cond.code yX6_tryFrom cX6_tryFrom 12 none ∈ gtbl := tb_g 756 (by decide +kernel) rfl
theorem gk_X6_40 (nm : String) (cc : ByteArray) (n : Nat) (r : Option FieldType) (d : Nat) : Gok (RX6, nm, cc, n, r, d) 40 7 8 := ⟨by decide, fun t ht => by
  cases fit_1 (by decide) ht
  exact ⟨_, rfl, by decide, "HollowPress$Runners", w_246, Or.inl rfl, Or.inl rfl⟩⟩
theorem ti_7_8 : ∀ t, fit 7 t = true → tyT (t - 1) 8 = .int := fun t ht => by
  cases fit_1 (by decide) ht
  rfl
theorem w_252 : Cond.methodLink RX10 239 ⟨"java/lang/Integer", "bitCount", "(I)I"⟩ ∈ gtbl := tb_g 743 (by decide +kernel) rfl
theorem w_253 : Cond.static ⟨"java/lang/Integer", "bitCount", "(I)I"⟩ ∈ gtbl := tb_g 744 (by decide +kernel) rfl
theorem w_254 : Cond.initialized "java/lang/Integer" ∈ gtbl := tb_g 15 (by decide +kernel) rfl
theorem w_255 : Cond.code yJ6_bitCount_0f7a4 cJ6_bitCount_0f7a4 1 (some .int) ∈ gtbl := tb_g 745 (by decide +kernel) rfl
theorem w_256 : Cond.fieldLink RX10 38 "HollowPress" "tree" "LHollowPress$Runners;" ∈ gtbl := tb_g 167 (by decide +kernel) rfl
theorem fk_X10_38 : Fok RX10 38 10 4 := ⟨by decide, fun t ht => by
  cases fit_1 (by decide) ht
  exact ⟨_, rfl, by decide, "HollowPress", w_256, Or.inl rfl⟩⟩
theorem yr_10_4 : ∀ t, fit 10 t = true → isR (t - 1) 4 = true := fun t ht => by
  cases fit_1 (by decide) ht
  rfl
theorem w_257 : Cond.methodLink RX10 244 ⟨"HollowPress$Runners", "takeBestSizes", "(I)V"⟩ ∈ gtbl := tb_g 749 (by decide +kernel) rfl
theorem w_258 : Cond.instanceMethod ⟨"HollowPress$Runners", "takeBestSizes", "(I)V"⟩ ∈ gtbl := tb_g 750 (by decide +kernel) rfl
theorem w_259 : Cond.selects "HollowPress$Runners" ⟨"HollowPress$Runners", "takeBestSizes", "(I)V"⟩ ⟨"HollowPress$Runners", "takeBestSizes", "(I)V"⟩ ∈ gtbl := tb_g 751 (by decide +kernel) rfl
theorem w_260 : Cond.code yX6_takeBestSizes cX6_takeBestSizes 3 none ∈ gtbl := tb_g 752 (by decide +kernel) rfl
theorem w_261 : Cond.methodLink RX10 230 ⟨"HollowPress$Runners", "spread", "()I"⟩ ∈ gtbl := tb_g 724 (by decide +kernel) rfl
theorem w_262 : Cond.instanceMethod ⟨"HollowPress$Runners", "spread", "()I"⟩ ∈ gtbl := tb_g 725 (by decide +kernel) rfl
theorem w_263 : Cond.selects "HollowPress$Runners" ⟨"HollowPress$Runners", "spread", "()I"⟩ ⟨"HollowPress$Runners", "spread", "()I"⟩ ∈ gtbl := tb_g 726 (by decide +kernel) rfl
theorem w_264 : Cond.code yX6_spread cX6_spread 5 (some .int) ∈ gtbl := tb_g 727 (by decide +kernel) rfl
theorem w_265 : Cond.fieldLink RX2 17 "HollowPress$Layers" "wall" "I" ∈ gtbl := tb_g 390 (by decide +kernel) rfl
theorem fk_X2_17 : Fok RX2 17 3 1 := ⟨by decide, fun t ht => by
  cases fit_1 (by decide) ht
  exact ⟨_, rfl, by decide, "HollowPress$Layers", w_265, Or.inl rfl⟩⟩
theorem nr_3_1 : ∀ t, fit 3 t = true → isR (t - 1) 1 = false := fun t ht => by
  cases fit_1 (by decide) ht
  rfl
theorem w_266 : Cond.fieldLink RX2 7 "HollowPress$Layers" "given" "I" ∈ gtbl := tb_g 391 (by decide +kernel) rfl
theorem fk_X2_7 : Fok RX2 7 3 2 := ⟨by decide, fun t ht => by
  cases fit_1 (by decide) ht
  exact ⟨_, rfl, by decide, "HollowPress$Layers", w_266, Or.inl rfl⟩⟩
theorem nr_3_2 : ∀ t, fit 3 t = true → isR (t - 1) 2 = false := fun t ht => by
  cases fit_1 (by decide) ht
  rfl
theorem gk_X2_7 (nm : String) (cc : ByteArray) (n : Nat) (r : Option FieldType) (d : Nat) : Gok (RX2, nm, cc, n, r, d) 7 3 2 := ⟨by decide, fun t ht => by
  cases fit_1 (by decide) ht
  exact ⟨_, rfl, by decide, "HollowPress$Layers", w_266, Or.inl rfl, Or.inl rfl⟩⟩
theorem ti_3_2 : ∀ t, fit 3 t = true → tyT (t - 1) 2 = .int := fun t ht => by
  cases fit_1 (by decide) ht
  rfl
theorem w_267 : Cond.methodLink RX2 40 ⟨"HollowPress$Layers", "beatOnce", "(I)V"⟩ ∈ gtbl := tb_g 770 (by decide +kernel) rfl
theorem w_268 : Cond.instanceMethod ⟨"HollowPress$Layers", "beatOnce", "(I)V"⟩ ∈ gtbl := tb_g 772 (by decide +kernel) rfl
theorem w_269 : Cond.selects "HollowPress$Layers" ⟨"HollowPress$Layers", "beatOnce", "(I)V"⟩ ⟨"HollowPress$Layers", "beatOnce", "(I)V"⟩ ∈ gtbl := tb_s 18 (by decide +kernel) rfl
theorem w_270 : Cond.code yX2_beatOnce cX2_beatOnce 6 none ∈ gtbl := tb_g 773 (by decide +kernel) rfl
theorem w_271 : Cond.methodLink RX10 90 ⟨"HollowPress", "among", "(III)Z"⟩ ∈ gtbl := tb_g 249 (by decide +kernel) rfl
theorem w_272 : Cond.static ⟨"HollowPress", "among", "(III)Z"⟩ ∈ gtbl := tb_g 250 (by decide +kernel) rfl
theorem w_273 : Cond.code yX10_among cX10_among 3 (some .boolean) ∈ gtbl := tb_g 251 (by decide +kernel) rfl
theorem w_274 : Cond.classLink RX10 117 "HollowPress$Layers" ∈ gtbl := tb_g 382 (by decide +kernel) rfl
theorem w_275 : Cond.methodLink RX10 145 ⟨"HollowPress", "otherThing", "(I)I"⟩ ∈ gtbl := tb_g 502 (by decide +kernel) rfl
theorem w_276 : Cond.instanceMethod ⟨"HollowPress", "otherThing", "(I)I"⟩ ∈ gtbl := tb_g 504 (by decide +kernel) rfl
theorem w_277 : Cond.selects "HollowPress" ⟨"HollowPress", "otherThing", "(I)I"⟩ ⟨"HollowPress", "otherThing", "(I)I"⟩ ∈ gtbl := tb_s 4 (by decide +kernel) rfl
theorem w_278 : Cond.code yX10_otherThing cX10_otherThing 2 (some .int) ∈ gtbl := tb_g 505 (by decide +kernel) rfl
theorem w_279 : Cond.methodLink RX10 251 ⟨"HollowPress$Layers", "beatTill", "(III)I"⟩ ∈ gtbl := tb_g 766 (by decide +kernel) rfl
theorem w_280 : Cond.instanceMethod ⟨"HollowPress$Layers", "beatTill", "(III)I"⟩ ∈ gtbl := tb_g 767 (by decide +kernel) rfl
theorem w_281 : Cond.selects "HollowPress$Layers" ⟨"HollowPress$Layers", "beatTill", "(III)I"⟩ ⟨"HollowPress$Layers", "beatTill", "(III)I"⟩ ∈ gtbl := tb_g 768 (by decide +kernel) rfl
theorem w_282 : Cond.code yX2_beatTill cX2_beatTill 5 (some .int) ∈ gtbl := tb_g 769 (by decide +kernel) rfl
theorem w_283 : Cond.classLink RX10 143 "HollowPress$Part" ∈ gtbl := tb_g 276 (by decide +kernel) rfl
theorem w_284 : Cond.fieldLink RX10 201 "HollowPress$Part" "bestKnown" "Z" ∈ gtbl := tb_g 304 (by decide +kernel) rfl
theorem fk_X10_201 : Fok RX10 201 4 7 := ⟨by decide, fun t ht => by
  rcases fit_4 ht with rfl | rfl | rfl
  · exact ⟨_, rfl, by decide, "HollowPress$Part", w_284, Or.inl rfl⟩
  · exact ⟨_, rfl, by decide, "HollowPress$Part", w_284, Or.inl rfl⟩
  · exact ⟨_, rfl, by decide, "HollowPress$Part", w_284, Or.inl rfl⟩⟩
theorem nr_4_7 : ∀ t, fit 4 t = true → isR (t - 1) 7 = false := fun t ht => by
  rcases fit_4 ht with rfl | rfl | rfl <;> rfl
theorem w_285 : Cond.fieldLink RX10 208 "HollowPress$Part" "bestGate" "I" ∈ gtbl := tb_g 306 (by decide +kernel) rfl
theorem fk_X10_208 : Fok RX10 208 4 8 := ⟨by decide, fun t ht => by
  rcases fit_4 ht with rfl | rfl | rfl
  · exact ⟨_, rfl, by decide, "HollowPress$Part", w_285, Or.inl rfl⟩
  · exact ⟨_, rfl, by decide, "HollowPress$Part", w_285, Or.inl rfl⟩
  · exact ⟨_, rfl, by decide, "HollowPress$Part", w_285, Or.inl rfl⟩⟩
theorem nr_4_8 : ∀ t, fit 4 t = true → isR (t - 1) 8 = false := fun t ht => by
  rcases fit_4 ht with rfl | rfl | rfl <;> rfl
theorem w_286 : Cond.fieldLink RX10 31 "HollowPress" "flow" "LHollowPress$Flow;" ∈ gtbl := tb_g 166 (by decide +kernel) rfl
theorem fk_X10_31 : Fok RX10 31 10 3 := ⟨by decide, fun t ht => by
  cases fit_1 (by decide) ht
  exact ⟨_, rfl, by decide, "HollowPress", w_286, Or.inl rfl⟩⟩
theorem yr_10_3 : ∀ t, fit 10 t = true → isR (t - 1) 3 = true := fun t ht => by
  cases fit_1 (by decide) ht
  rfl
theorem w_287 : Cond.methodLink RX10 205 ⟨"HollowPress$Flow", "bestGate", "(LHollowPress$Part;)I"⟩ ∈ gtbl := tb_g 659 (by decide +kernel) rfl
theorem w_288 : Cond.instanceMethod ⟨"HollowPress$Flow", "bestGate", "(LHollowPress$Part;)I"⟩ ∈ gtbl := tb_g 660 (by decide +kernel) rfl
theorem w_289 : Cond.selects "HollowPress$Flow" ⟨"HollowPress$Flow", "bestGate", "(LHollowPress$Part;)I"⟩ ⟨"HollowPress$Flow", "bestGate", "(LHollowPress$Part;)I"⟩ ∈ gtbl := tb_g 661 (by decide +kernel) rfl
theorem w_290 : Cond.code yX1_bestGate cX1_bestGate 6 (some .int) ∈ gtbl := tb_g 662 (by decide +kernel) rfl
theorem gk_X10_208 (nm : String) (cc : ByteArray) (n : Nat) (r : Option FieldType) (d : Nat) : Gok (RX10, nm, cc, n, r, d) 208 4 8 := ⟨by decide, fun t ht => by
  rcases fit_4 ht with rfl | rfl | rfl
  · exact ⟨_, rfl, by decide, "HollowPress$Part", w_285, Or.inl rfl, Or.inl rfl⟩
  · exact ⟨_, rfl, by decide, "HollowPress$Part", w_285, Or.inl rfl, Or.inl rfl⟩
  · exact ⟨_, rfl, by decide, "HollowPress$Part", w_285, Or.inl rfl, Or.inl rfl⟩⟩
theorem gk_X10_201 (nm : String) (cc : ByteArray) (n : Nat) (r : Option FieldType) (d : Nat) : Gok (RX10, nm, cc, n, r, d) 201 4 7 := ⟨by decide, fun t ht => by
  rcases fit_4 ht with rfl | rfl | rfl
  · exact ⟨_, rfl, by decide, "HollowPress$Part", w_284, Or.inl rfl, Or.inl rfl⟩
  · exact ⟨_, rfl, by decide, "HollowPress$Part", w_284, Or.inl rfl, Or.inl rfl⟩
  · exact ⟨_, rfl, by decide, "HollowPress$Part", w_284, Or.inl rfl, Or.inl rfl⟩⟩
theorem gk_X6_27 (nm : String) (cc : ByteArray) (n : Nat) (r : Option FieldType) (d : Nat) : Gok (RX6, nm, cc, n, r, d) 27 7 4 := ⟨by decide, fun t ht => by
  cases fit_1 (by decide) ht
  exact ⟨_, rfl, by decide, "HollowPress$Runners", w_220, Or.inl rfl, Or.inl rfl⟩⟩
theorem ti_7_4 : ∀ t, fit 7 t = true → tyT (t - 1) 4 = .int := fun t ht => by
  cases fit_1 (by decide) ht
  rfl
theorem w_291 : Cond.constant RX6 49 (-1000003) ∈ gtbl := tb_g 677 (by decide +kernel) rfl
theorem w_292 : Cond.constant RX10 210 (-1000000) ∈ gtbl := tb_g 672 (by decide +kernel) rfl
theorem w_293 : Cond.methodLink RX10 214 ⟨"HollowPress$Runners", "grow", "(III)I"⟩ ∈ gtbl := tb_g 673 (by decide +kernel) rfl
theorem w_294 : Cond.instanceMethod ⟨"HollowPress$Runners", "grow", "(III)I"⟩ ∈ gtbl := tb_g 674 (by decide +kernel) rfl
theorem w_295 : Cond.selects "HollowPress$Runners" ⟨"HollowPress$Runners", "grow", "(III)I"⟩ ⟨"HollowPress$Runners", "grow", "(III)I"⟩ ∈ gtbl := tb_g 675 (by decide +kernel) rfl
theorem w_296 : Cond.code yX6_grow cX6_grow 4 (some .int) ∈ gtbl := tb_g 676 (by decide +kernel) rfl
theorem w_297 : Cond.fieldLink RX10 211 "HollowPress$Runners" "branches" "I" ∈ gtbl := tb_g 93 (by decide +kernel) rfl
theorem fk_X10_211 : Fok RX10 211 7 4 := ⟨by decide, fun t ht => by
  cases fit_1 (by decide) ht
  exact ⟨_, rfl, by decide, "HollowPress$Runners", w_297, Or.inl rfl⟩⟩
theorem w_298 : Cond.fieldLink RX10 169 "HollowPress$Part" "thick" "[I" ∈ gtbl := tb_g 292 (by decide +kernel) rfl
theorem fk_X10_169 : Fok RX10 169 4 2 := ⟨by decide, fun t ht => by
  rcases fit_4 ht with rfl | rfl | rfl
  · exact ⟨_, rfl, by decide, "HollowPress$Part", w_298, Or.inl rfl⟩
  · exact ⟨_, rfl, by decide, "HollowPress$Part", w_298, Or.inl rfl⟩
  · exact ⟨_, rfl, by decide, "HollowPress$Part", w_298, Or.inl rfl⟩⟩
theorem w_299 : Cond.methodLink RX10 173 ⟨"HollowPress$Flow", "fill", "(LHollowPress$Part;)V"⟩ ∈ gtbl := tb_g 603 (by decide +kernel) rfl
theorem w_300 : Cond.methodLink RX10 186 ⟨"HollowPress$Flow", "filledUpTo", "(ILHollowPress$Part;)I"⟩ ∈ gtbl := tb_g 613 (by decide +kernel) rfl
theorem w_301 : Cond.instanceMethod ⟨"HollowPress$Flow", "filledUpTo", "(ILHollowPress$Part;)I"⟩ ∈ gtbl := tb_g 614 (by decide +kernel) rfl
theorem w_302 : Cond.selects "HollowPress$Flow" ⟨"HollowPress$Flow", "filledUpTo", "(ILHollowPress$Part;)I"⟩ ⟨"HollowPress$Flow", "filledUpTo", "(ILHollowPress$Part;)I"⟩ ∈ gtbl := tb_g 615 (by decide +kernel) rfl
theorem w_303 : Cond.code yX1_filledUpTo cX1_filledUpTo 5 (some .int) ∈ gtbl := tb_g 616 (by decide +kernel) rfl
theorem w_304 : Cond.methodLink RX10 183 ⟨"HollowPress$Flow", "rank", "(I)I"⟩ ∈ gtbl := tb_g 609 (by decide +kernel) rfl
theorem w_305 : Cond.instanceMethod ⟨"HollowPress$Flow", "rank", "(I)I"⟩ ∈ gtbl := tb_g 610 (by decide +kernel) rfl
theorem w_306 : Cond.selects "HollowPress$Flow" ⟨"HollowPress$Flow", "rank", "(I)I"⟩ ⟨"HollowPress$Flow", "rank", "(I)I"⟩ ∈ gtbl := tb_g 611 (by decide +kernel) rfl
theorem w_307 : Cond.code yX1_rank cX1_rank 2 (some .int) ∈ gtbl := tb_g 612 (by decide +kernel) rfl
theorem w_308 : Cond.methodLink RX10 180 ⟨"HollowPress$Flow", "front", "(I)I"⟩ ∈ gtbl := tb_g 605 (by decide +kernel) rfl
theorem w_309 : Cond.methodLink RX10 177 ⟨"HollowPress$Flow", "strain", "(I)I"⟩ ∈ gtbl := tb_g 604 (by decide +kernel) rfl
theorem w_310 : Cond.methodLink RX10 148 ⟨"HollowPress$Part", "thickness", "(I)I"⟩ ∈ gtbl := tb_g 506 (by decide +kernel) rfl
theorem w_311 : Cond.methodLink RX10 94 ⟨"HollowPress$Runners", "holds", "(LHollowPress$Thing;)Z"⟩ ∈ gtbl := tb_g 252 (by decide +kernel) rfl
theorem w_312 : Cond.instanceMethod ⟨"HollowPress$Runners", "holds", "(LHollowPress$Thing;)Z"⟩ ∈ gtbl := tb_g 253 (by decide +kernel) rfl
theorem w_313 : Cond.selects "HollowPress$Runners" ⟨"HollowPress$Runners", "holds", "(LHollowPress$Thing;)Z"⟩ ⟨"HollowPress$Runners", "holds", "(LHollowPress$Thing;)Z"⟩ ∈ gtbl := tb_g 254 (by decide +kernel) rfl
theorem w_314 : Cond.code yX6_holds cX6_holds 3 (some .boolean) ∈ gtbl := tb_g 255 (by decide +kernel) rfl
theorem w_315 : Cond.constant RX10 98 (-1000002) ∈ gtbl := tb_g 256 (by decide +kernel) rfl
theorem w_316 : Cond.fieldLink RX7 19 "HollowPress$Sheet" "items" "[J" ∈ gtbl := tb_g 208 (by decide +kernel) rfl
theorem fk_X7_19 : Fok RX7 19 8 1 := ⟨by decide, fun t ht => by
  cases fit_1 (by decide) ht
  exact ⟨_, rfl, by decide, "HollowPress$Sheet", w_316, Or.inl rfl⟩⟩
theorem yr_8_1 : ∀ t, fit 8 t = true → isR (t - 1) 1 = true := fun t ht => by
  cases fit_1 (by decide) ht
  rfl
theorem w_317 : Cond.fieldLink RX10 11 "HollowPress" "sheets" "[LHollowPress$Sheet;" ∈ gtbl := tb_g 163 (by decide +kernel) rfl
theorem fk_X10_11 : Fok RX10 11 10 0 := ⟨by decide, fun t ht => by
  cases fit_1 (by decide) ht
  exact ⟨_, rfl, by decide, "HollowPress", w_317, Or.inl rfl⟩⟩
theorem yr_10_0 : ∀ t, fit 10 t = true → isR (t - 1) 0 = true := fun t ht => by
  cases fit_1 (by decide) ht
  rfl
theorem w_318 : Cond.fieldLink RX10 77 "HollowPress$Sheet" "lane" "I" ∈ gtbl := tb_g 207 (by decide +kernel) rfl
theorem fk_X10_77 : Fok RX10 77 8 0 := ⟨by decide, fun t ht => by
  cases fit_1 (by decide) ht
  exact ⟨_, rfl, by decide, "HollowPress$Sheet", w_318, Or.inl rfl⟩⟩
theorem nr_8_0 : ∀ t, fit 8 t = true → isR (t - 1) 0 = false := fun t ht => by
  cases fit_1 (by decide) ht
  rfl
theorem w_319 : Cond.methodLink RX10 70 ⟨"HollowPress$Sheet", "covers", "(II)Z"⟩ ∈ gtbl := tb_g 225 (by decide +kernel) rfl
theorem w_320 : Cond.instanceMethod ⟨"HollowPress$Sheet", "covers", "(II)Z"⟩ ∈ gtbl := tb_g 226 (by decide +kernel) rfl
theorem w_321 : Cond.selects "HollowPress$Sheet" ⟨"HollowPress$Sheet", "covers", "(II)Z"⟩ ⟨"HollowPress$Sheet", "covers", "(II)Z"⟩ ∈ gtbl := tb_g 227 (by decide +kernel) rfl
theorem w_322 : Cond.initialized "HollowPress$Sheet" ∈ gtbl := tb_g 7 (by decide +kernel) rfl
theorem w_323 : Cond.code yX7_covers cX7_covers 3 (some .boolean) ∈ gtbl := tb_g 228 (by decide +kernel) rfl
theorem w_324 : Cond.fieldLink RX10 80 "HollowPress$Sheet" "items" "[J" ∈ gtbl := tb_g 209 (by decide +kernel) rfl
theorem fk_X10_80 : Fok RX10 80 8 1 := ⟨by decide, fun t ht => by
  cases fit_1 (by decide) ht
  exact ⟨_, rfl, by decide, "HollowPress$Sheet", w_324, Or.inl rfl⟩⟩
theorem w_325 : Cond.methodLink RX10 84 arraycopyName ∈ gtbl := tb_g 238 (by decide +kernel) rfl
theorem w_326 : Cond.methodLink RX2 20 ⟨"HollowPress$Thing", "isOf", "(I)Z"⟩ ∈ gtbl := tb_g 428 (by decide +kernel) rfl
theorem w_327 : Cond.superclass "HollowPress$Layers" "HollowPress$Thing" ∈ gtbl := tb_g 399 (by decide +kernel) rfl
theorem w_328 : Cond.methodLink RX4 7 ⟨"HollowPress$EvenPart", "isOf", "(I)Z"⟩ ∈ gtbl := tb_g 433 (by decide +kernel) rfl
theorem w_329 : Cond.sameMethod "HollowPress$EvenPart" "HollowPress$EvenPart" "isOf" "(I)Z" ∈ gtbl := tb_g 1250 (by decide +kernel) rfl
theorem w_330 : Cond.instanceMethod ⟨"HollowPress$EvenPart", "isOf", "(I)Z"⟩ ∈ gtbl := tb_g 419 (by decide +kernel) rfl
theorem w_331 : Cond.code yX0_isOf cX0_isOf 2 (some .boolean) ∈ gtbl := tb_g 420 (by decide +kernel) rfl
theorem w_332 : Cond.methodLink RX10 308 ⟨"HollowPress$Thing", "isOf", "(I)Z"⟩ ∈ gtbl := tb_g 415 (by decide +kernel) rfl
theorem w_333 : Cond.selects "HollowPress$EvenPart" ⟨"HollowPress$Thing", "isOf", "(I)Z"⟩ ⟨"HollowPress$EvenPart", "isOf", "(I)Z"⟩ ∈ gtbl := tb_g 418 (by decide +kernel) rfl
theorem w_334 : Cond.selects "HollowPress$Layers" ⟨"HollowPress$Thing", "isOf", "(I)Z"⟩ ⟨"HollowPress$Layers", "isOf", "(I)Z"⟩ ∈ gtbl := tb_g 425 (by decide +kernel) rfl
theorem w_335 : Cond.instanceMethod ⟨"HollowPress$Layers", "isOf", "(I)Z"⟩ ∈ gtbl := tb_g 426 (by decide +kernel) rfl
theorem w_336 : Cond.code yX2_isOf cX2_isOf 2 (some .boolean) ∈ gtbl := tb_g 427 (by decide +kernel) rfl
theorem w_337 : Cond.selects "HollowPress$Part" ⟨"HollowPress$Thing", "isOf", "(I)Z"⟩ ⟨"HollowPress$Part", "isOf", "(I)Z"⟩ ∈ gtbl := tb_g 429 (by decide +kernel) rfl
theorem w_338 : Cond.selects "HollowPress$Plate" ⟨"HollowPress$Thing", "isOf", "(I)Z"⟩ ⟨"HollowPress$Plate", "isOf", "(I)Z"⟩ ∈ gtbl := tb_g 430 (by decide +kernel) rfl
theorem w_339 : Cond.instanceMethod ⟨"HollowPress$Plate", "isOf", "(I)Z"⟩ ∈ gtbl := tb_g 431 (by decide +kernel) rfl
theorem w_340 : Cond.code yX4_isOf cX4_isOf 2 (some .boolean) ∈ gtbl := tb_g 432 (by decide +kernel) rfl
theorem w_341 : Cond.methodLink RX10 126 ⟨"HollowPress", "isOfKind", "(LHollowPress$Thing;I)Z"⟩ ∈ gtbl := tb_g 412 (by decide +kernel) rfl
theorem w_342 : Cond.static ⟨"HollowPress", "isOfKind", "(LHollowPress$Thing;I)Z"⟩ ∈ gtbl := tb_g 413 (by decide +kernel) rfl
theorem w_343 : Cond.code yX10_isOfKind cX10_isOfKind 2 (some .boolean) ∈ gtbl := tb_g 414 (by decide +kernel) rfl
theorem w_344 : Cond.fieldLink RX10 45 "HollowPress" "hall" "LHollowPress$Presses;" ∈ gtbl := tb_g 168 (by decide +kernel) rfl
theorem fk_X10_45 : Fok RX10 45 10 5 := ⟨by decide, fun t ht => by
  cases fit_1 (by decide) ht
  exact ⟨_, rfl, by decide, "HollowPress", w_344, Or.inl rfl⟩⟩
theorem yr_10_5 : ∀ t, fit 10 t = true → isR (t - 1) 5 = true := fun t ht => by
  cases fit_1 (by decide) ht
  rfl
theorem w_345 : Cond.fieldLink RX10 291 "HollowPress$Presses" "jobs" "I" ∈ gtbl := tb_g 143 (by decide +kernel) rfl
theorem fk_X10_291 : Fok RX10 291 6 8 := ⟨by decide, fun t ht => by
  cases fit_1 (by decide) ht
  exact ⟨_, rfl, by decide, "HollowPress$Presses", w_345, Or.inl rfl⟩⟩
theorem nr_6_8 : ∀ t, fit 6 t = true → isR (t - 1) 8 = false := fun t ht => by
  cases fit_1 (by decide) ht
  rfl
theorem w_346 : Cond.fieldLink RX10 270 "HollowPress$Presses" "presses" "I" ∈ gtbl := tb_g 141 (by decide +kernel) rfl
theorem fk_X10_270 : Fok RX10 270 6 7 := ⟨by decide, fun t ht => by
  cases fit_1 (by decide) ht
  exact ⟨_, rfl, by decide, "HollowPress$Presses", w_346, Or.inl rfl⟩⟩
theorem nr_6_7 : ∀ t, fit 6 t = true → isR (t - 1) 7 = false := fun t ht => by
  cases fit_1 (by decide) ht
  rfl
theorem w_347 : Cond.methodLink RX10 288 ⟨"HollowPress", "thingsOfKind", "(I)I"⟩ ∈ gtbl := tb_g 843 (by decide +kernel) rfl
theorem w_348 : Cond.instanceMethod ⟨"HollowPress", "thingsOfKind", "(I)I"⟩ ∈ gtbl := tb_g 845 (by decide +kernel) rfl
theorem w_349 : Cond.selects "HollowPress" ⟨"HollowPress", "thingsOfKind", "(I)I"⟩ ⟨"HollowPress", "thingsOfKind", "(I)I"⟩ ∈ gtbl := tb_s 23 (by decide +kernel) rfl
theorem w_350 : Cond.code yX10_thingsOfKind cX10_thingsOfKind 7 (some .int) ∈ gtbl := tb_g 846 (by decide +kernel) rfl
theorem w_351 : Cond.methodLink RX10 285 ⟨"HollowPress", "sheetsThere", "()I"⟩ ∈ gtbl := tb_g 839 (by decide +kernel) rfl
theorem w_352 : Cond.instanceMethod ⟨"HollowPress", "sheetsThere", "()I"⟩ ∈ gtbl := tb_g 841 (by decide +kernel) rfl
theorem w_353 : Cond.selects "HollowPress" ⟨"HollowPress", "sheetsThere", "()I"⟩ ⟨"HollowPress", "sheetsThere", "()I"⟩ ∈ gtbl := tb_s 22 (by decide +kernel) rfl
theorem w_354 : Cond.code yX10_sheetsThere cX10_sheetsThere 6 (some .int) ∈ gtbl := tb_g 842 (by decide +kernel) rfl
theorem w_355 : Cond.constant RX6 57 (-1000000) ∈ gtbl := tb_g 719 (by decide +kernel) rfl
theorem w_356 : Cond.methodLink RX10 227 ⟨"HollowPress$Runners", "endAt", "(I)I"⟩ ∈ gtbl := tb_g 706 (by decide +kernel) rfl
theorem w_357 : Cond.instanceMethod ⟨"HollowPress$Runners", "endAt", "(I)I"⟩ ∈ gtbl := tb_g 707 (by decide +kernel) rfl
theorem w_358 : Cond.selects "HollowPress$Runners" ⟨"HollowPress$Runners", "endAt", "(I)I"⟩ ⟨"HollowPress$Runners", "endAt", "(I)I"⟩ ∈ gtbl := tb_g 708 (by decide +kernel) rfl
theorem w_359 : Cond.code yX6_endAt cX6_endAt 3 (some .int) ∈ gtbl := tb_g 709 (by decide +kernel) rfl
theorem w_360 : Cond.methodLink RX10 197 ⟨"HollowPress$Flow", "forceAt", "(I)J"⟩ ∈ gtbl := tb_g 650 (by decide +kernel) rfl
theorem w_361 : Cond.instanceMethod ⟨"HollowPress$Flow", "forceAt", "(I)J"⟩ ∈ gtbl := tb_g 651 (by decide +kernel) rfl
theorem w_362 : Cond.selects "HollowPress$Flow" ⟨"HollowPress$Flow", "forceAt", "(I)J"⟩ ⟨"HollowPress$Flow", "forceAt", "(I)J"⟩ ∈ gtbl := tb_g 652 (by decide +kernel) rfl
theorem w_363 : Cond.code yX1_forceAt cX1_forceAt 7 (some .long) ∈ gtbl := tb_g 653 (by decide +kernel) rfl
theorem w_364 : Cond.constantLong RX10 68 (-1000001) ∈ gtbl := tb_g 224 (by decide +kernel) rfl
theorem fk_X3_15 : Fok RX3 15 4 5 := ⟨by decide, fun t ht => by
  rcases fit_4 ht with rfl | rfl | rfl
  · exact ⟨_, rfl, by decide, "HollowPress$Part", w_13, Or.inl rfl⟩
  · exact ⟨_, rfl, by decide, "HollowPress$Part", w_13, Or.inl rfl⟩
  · exact ⟨_, rfl, by decide, "HollowPress$Part", w_13, Or.inl rfl⟩⟩
theorem fk_X3_9 : Fok RX3 9 4 4 := ⟨by decide, fun t ht => by
  rcases fit_4 ht with rfl | rfl | rfl
  · exact ⟨_, rfl, by decide, "HollowPress$Part", w_12, Or.inl rfl⟩
  · exact ⟨_, rfl, by decide, "HollowPress$Part", w_12, Or.inl rfl⟩
  · exact ⟨_, rfl, by decide, "HollowPress$Part", w_12, Or.inl rfl⟩⟩
theorem w_365 : Cond.constant RX3 65 (-1000003) ∈ gtbl := tb_g 528 (by decide +kernel) rfl
theorem w_366 : Cond.methodLink RX10 151 ⟨"HollowPress$Part", "hasGate", "(I)Z"⟩ ∈ gtbl := tb_g 514 (by decide +kernel) rfl
theorem w_367 : Cond.instanceMethod ⟨"HollowPress$Part", "hasGate", "(I)Z"⟩ ∈ gtbl := tb_g 515 (by decide +kernel) rfl
theorem w_368 : Cond.selects "HollowPress$Part" ⟨"HollowPress$Part", "hasGate", "(I)Z"⟩ ⟨"HollowPress$Part", "hasGate", "(I)Z"⟩ ∈ gtbl := tb_g 516 (by decide +kernel) rfl
theorem w_369 : Cond.code yX3_hasGate cX3_hasGate 3 (some .boolean) ∈ gtbl := tb_g 520 (by decide +kernel) rfl
theorem w_370 : Cond.sameMethod "HollowPress$Part" "HollowPress$Part" "hasGate" "(I)Z" ∈ gtbl := tb_g 517 (by decide +kernel) rfl
theorem w_371 : Cond.selects "HollowPress$EvenPart" ⟨"HollowPress$Part", "hasGate", "(I)Z"⟩ ⟨"HollowPress$Part", "hasGate", "(I)Z"⟩ ∈ gtbl := tb_g 518 (by decide +kernel) rfl
theorem w_372 : Cond.selects "HollowPress$Plate" ⟨"HollowPress$Part", "hasGate", "(I)Z"⟩ ⟨"HollowPress$Part", "hasGate", "(I)Z"⟩ ∈ gtbl := tb_g 519 (by decide +kernel) rfl
theorem w_373 : Cond.methodLink RX10 155 ⟨"HollowPress$Part", "addGate", "(I)I"⟩ ∈ gtbl := tb_g 521 (by decide +kernel) rfl
theorem w_374 : Cond.instanceMethod ⟨"HollowPress$Part", "addGate", "(I)I"⟩ ∈ gtbl := tb_g 522 (by decide +kernel) rfl
theorem w_375 : Cond.selects "HollowPress$Part" ⟨"HollowPress$Part", "addGate", "(I)I"⟩ ⟨"HollowPress$Part", "addGate", "(I)I"⟩ ∈ gtbl := tb_g 523 (by decide +kernel) rfl
theorem w_376 : Cond.code yX3_addGate cX3_addGate 2 (some .int) ∈ gtbl := tb_g 527 (by decide +kernel) rfl
theorem w_377 : Cond.sameMethod "HollowPress$Part" "HollowPress$Part" "addGate" "(I)I" ∈ gtbl := tb_g 524 (by decide +kernel) rfl
theorem w_378 : Cond.selects "HollowPress$EvenPart" ⟨"HollowPress$Part", "addGate", "(I)I"⟩ ⟨"HollowPress$Part", "addGate", "(I)I"⟩ ∈ gtbl := tb_g 525 (by decide +kernel) rfl
theorem w_379 : Cond.selects "HollowPress$Plate" ⟨"HollowPress$Part", "addGate", "(I)I"⟩ ⟨"HollowPress$Part", "addGate", "(I)I"⟩ ∈ gtbl := tb_g 526 (by decide +kernel) rfl
theorem w_380 : Cond.constant RX10 158 (-1000003) ∈ gtbl := tb_g 529 (by decide +kernel) rfl
theorem w_381 : Cond.methodLink RX10 159 ⟨"HollowPress$Flow", "endsOf", "(LHollowPress$Part;)I"⟩ ∈ gtbl := tb_g 530 (by decide +kernel) rfl
theorem w_382 : Cond.instanceMethod ⟨"HollowPress$Flow", "endsOf", "(LHollowPress$Part;)I"⟩ ∈ gtbl := tb_g 531 (by decide +kernel) rfl
theorem w_383 : Cond.selects "HollowPress$Flow" ⟨"HollowPress$Flow", "endsOf", "(LHollowPress$Part;)I"⟩ ⟨"HollowPress$Flow", "endsOf", "(LHollowPress$Part;)I"⟩ ∈ gtbl := tb_g 532 (by decide +kernel) rfl
theorem w_384 : Cond.code yX1_endsOf cX1_endsOf 2 (some .int) ∈ gtbl := tb_g 533 (by decide +kernel) rfl
theorem w_385 : Cond.fieldLink RX10 163 "HollowPress$Part" "ends" "I" ∈ gtbl := tb_g 302 (by decide +kernel) rfl
theorem gk_X10_163 (nm : String) (cc : ByteArray) (n : Nat) (r : Option FieldType) (d : Nat) : Gok (RX10, nm, cc, n, r, d) 163 4 6 := ⟨by decide, fun t ht => by
  rcases fit_4 ht with rfl | rfl | rfl
  · exact ⟨_, rfl, by decide, "HollowPress$Part", w_385, Or.inl rfl, Or.inl rfl⟩
  · exact ⟨_, rfl, by decide, "HollowPress$Part", w_385, Or.inl rfl, Or.inl rfl⟩
  · exact ⟨_, rfl, by decide, "HollowPress$Part", w_385, Or.inl rfl, Or.inl rfl⟩⟩
theorem w_386 : Cond.methodLink RX6 50 ⟨"HollowPress$Runners", "howManyHang", "()I"⟩ ∈ gtbl := tb_g 690 (by decide +kernel) rfl
theorem w_387 : Cond.instanceMethod ⟨"HollowPress$Runners", "howManyHang", "()I"⟩ ∈ gtbl := tb_g 691 (by decide +kernel) rfl
theorem w_388 : Cond.selects "HollowPress$Runners" ⟨"HollowPress$Runners", "howManyHang", "()I"⟩ ⟨"HollowPress$Runners", "howManyHang", "()I"⟩ ∈ gtbl := tb_g 692 (by decide +kernel) rfl
theorem w_389 : Cond.code yX6_howManyHang cX6_howManyHang 3 (some .int) ∈ gtbl := tb_g 693 (by decide +kernel) rfl
theorem w_390 : Cond.methodLink RX10 218 ⟨"HollowPress$Runners", "taken", "(I)Z"⟩ ∈ gtbl := tb_g 682 (by decide +kernel) rfl
theorem w_391 : Cond.instanceMethod ⟨"HollowPress$Runners", "taken", "(I)Z"⟩ ∈ gtbl := tb_g 683 (by decide +kernel) rfl
theorem w_392 : Cond.selects "HollowPress$Runners" ⟨"HollowPress$Runners", "taken", "(I)Z"⟩ ⟨"HollowPress$Runners", "taken", "(I)Z"⟩ ∈ gtbl := tb_g 684 (by decide +kernel) rfl
theorem w_393 : Cond.code yX6_taken cX6_taken 2 (some .boolean) ∈ gtbl := tb_g 685 (by decide +kernel) rfl
theorem w_394 : Cond.methodLink RX10 221 ⟨"HollowPress$Runners", "hangAt", "(ILHollowPress$Part;)I"⟩ ∈ gtbl := tb_g 686 (by decide +kernel) rfl
theorem w_395 : Cond.instanceMethod ⟨"HollowPress$Runners", "hangAt", "(ILHollowPress$Part;)I"⟩ ∈ gtbl := tb_g 687 (by decide +kernel) rfl
theorem w_396 : Cond.selects "HollowPress$Runners" ⟨"HollowPress$Runners", "hangAt", "(ILHollowPress$Part;)I"⟩ ⟨"HollowPress$Runners", "hangAt", "(ILHollowPress$Part;)I"⟩ ∈ gtbl := tb_g 688 (by decide +kernel) rfl
theorem w_397 : Cond.code yX6_hangAt cX6_hangAt 3 (some .int) ∈ gtbl := tb_g 689 (by decide +kernel) rfl
theorem w_398 : Cond.methodLink RX5 3 Lib.objectInit ∈ gtbl := tb_g 128 (by decide +kernel) rfl
theorem w_399 : Cond.fieldLink RX5 9 "HollowPress$Presses" "pressForces" "[I" ∈ gtbl := tb_g 131 (by decide +kernel) rfl
theorem gk_X5_9i (cc : ByteArray) (n : Nat) (r : Option FieldType) (d : Nat) : Gok (RX5, "<init>", cc, n, r, d) 9 6 0 := ⟨by decide, fun t ht => by
  cases fit_1 (by decide) ht
  exact ⟨_, rfl, by decide, "HollowPress$Presses", w_399, Or.inl rfl, Or.inr ⟨rfl, rfl, rfl⟩⟩⟩
theorem yr_6_0 : ∀ t, fit 6 t = true → isR (t - 1) 0 = true := fun t ht => by
  cases fit_1 (by decide) ht
  rfl
theorem w_400 : Cond.fieldLink RX5 15 "HollowPress$Presses" "jobForces" "[I" ∈ gtbl := tb_g 132 (by decide +kernel) rfl
theorem gk_X5_15i (cc : ByteArray) (n : Nat) (r : Option FieldType) (d : Nat) : Gok (RX5, "<init>", cc, n, r, d) 15 6 1 := ⟨by decide, fun t ht => by
  cases fit_1 (by decide) ht
  exact ⟨_, rfl, by decide, "HollowPress$Presses", w_400, Or.inl rfl, Or.inr ⟨rfl, rfl, rfl⟩⟩⟩
theorem yr_6_1 : ∀ t, fit 6 t = true → isR (t - 1) 1 = true := fun t ht => by
  cases fit_1 (by decide) ht
  rfl
theorem w_401 : Cond.fieldLink RX5 18 "HollowPress$Presses" "colours" "[I" ∈ gtbl := tb_g 133 (by decide +kernel) rfl
theorem gk_X5_18i (cc : ByteArray) (n : Nat) (r : Option FieldType) (d : Nat) : Gok (RX5, "<init>", cc, n, r, d) 18 6 2 := ⟨by decide, fun t ht => by
  cases fit_1 (by decide) ht
  exact ⟨_, rfl, by decide, "HollowPress$Presses", w_401, Or.inl rfl, Or.inr ⟨rfl, rfl, rfl⟩⟩⟩
theorem yr_6_2 : ∀ t, fit 6 t = true → isR (t - 1) 2 = true := fun t ht => by
  cases fit_1 (by decide) ht
  rfl
theorem w_402 : Cond.fieldLink RX5 21 "HollowPress$Presses" "jobTimes" "[I" ∈ gtbl := tb_g 134 (by decide +kernel) rfl
theorem gk_X5_21i (cc : ByteArray) (n : Nat) (r : Option FieldType) (d : Nat) : Gok (RX5, "<init>", cc, n, r, d) 21 6 3 := ⟨by decide, fun t ht => by
  cases fit_1 (by decide) ht
  exact ⟨_, rfl, by decide, "HollowPress$Presses", w_402, Or.inl rfl, Or.inr ⟨rfl, rfl, rfl⟩⟩⟩
theorem yr_6_3 : ∀ t, fit 6 t = true → isR (t - 1) 3 = true := fun t ht => by
  cases fit_1 (by decide) ht
  rfl
theorem w_403 : Cond.classLink RX5 24 "[[I" ∈ gtbl := tb_g 129 (by decide +kernel) rfl
theorem w_404 : Cond.fieldLink RX5 26 "HollowPress$Presses" "rows" "[[I" ∈ gtbl := tb_g 135 (by decide +kernel) rfl
theorem gk_X5_26i (cc : ByteArray) (n : Nat) (r : Option FieldType) (d : Nat) : Gok (RX5, "<init>", cc, n, r, d) 26 6 4 := ⟨by decide, fun t ht => by
  cases fit_1 (by decide) ht
  exact ⟨_, rfl, by decide, "HollowPress$Presses", w_404, Or.inl rfl, Or.inr ⟨rfl, rfl, rfl⟩⟩⟩
theorem yr_6_4 : ∀ t, fit 6 t = true → isR (t - 1) 4 = true := fun t ht => by
  cases fit_1 (by decide) ht
  rfl
theorem w_405 : Cond.fieldLink RX5 29 "HollowPress$Presses" "lengths" "[I" ∈ gtbl := tb_g 136 (by decide +kernel) rfl
theorem gk_X5_29i (cc : ByteArray) (n : Nat) (r : Option FieldType) (d : Nat) : Gok (RX5, "<init>", cc, n, r, d) 29 6 5 := ⟨by decide, fun t ht => by
  cases fit_1 (by decide) ht
  exact ⟨_, rfl, by decide, "HollowPress$Presses", w_405, Or.inl rfl, Or.inr ⟨rfl, rfl, rfl⟩⟩⟩
theorem yr_6_5 : ∀ t, fit 6 t = true → isR (t - 1) 5 = true := fun t ht => by
  cases fit_1 (by decide) ht
  rfl
theorem w_406 : Cond.fieldLink RX5 32 "HollowPress$Presses" "times" "[I" ∈ gtbl := tb_g 138 (by decide +kernel) rfl
theorem gk_X5_32i (cc : ByteArray) (n : Nat) (r : Option FieldType) (d : Nat) : Gok (RX5, "<init>", cc, n, r, d) 32 6 6 := ⟨by decide, fun t ht => by
  cases fit_1 (by decide) ht
  exact ⟨_, rfl, by decide, "HollowPress$Presses", w_406, Or.inl rfl, Or.inr ⟨rfl, rfl, rfl⟩⟩⟩
theorem yr_6_6 : ∀ t, fit 6 t = true → isR (t - 1) 6 = true := fun t ht => by
  cases fit_1 (by decide) ht
  rfl
theorem w_407 : Cond.fieldLink RX5 35 "HollowPress$Presses" "presses" "I" ∈ gtbl := tb_g 140 (by decide +kernel) rfl
theorem gk_X5_35 (nm : String) (cc : ByteArray) (n : Nat) (r : Option FieldType) (d : Nat) : Gok (RX5, nm, cc, n, r, d) 35 6 7 := ⟨by decide, fun t ht => by
  cases fit_1 (by decide) ht
  exact ⟨_, rfl, by decide, "HollowPress$Presses", w_407, Or.inl rfl, Or.inl rfl⟩⟩
theorem ti_6_7 : ∀ t, fit 6 t = true → tyT (t - 1) 7 = .int := fun t ht => by
  cases fit_1 (by decide) ht
  rfl
theorem w_408 : Cond.fieldLink RX5 39 "HollowPress$Presses" "jobs" "I" ∈ gtbl := tb_g 142 (by decide +kernel) rfl
theorem gk_X5_39 (nm : String) (cc : ByteArray) (n : Nat) (r : Option FieldType) (d : Nat) : Gok (RX5, nm, cc, n, r, d) 39 6 8 := ⟨by decide, fun t ht => by
  cases fit_1 (by decide) ht
  exact ⟨_, rfl, by decide, "HollowPress$Presses", w_408, Or.inl rfl, Or.inl rfl⟩⟩
theorem ti_6_8 : ∀ t, fit 6 t = true → tyT (t - 1) 8 = .int := fun t ht => by
  cases fit_1 (by decide) ht
  rfl
theorem w_409 : Cond.methodLink RX6 3 Lib.objectInit ∈ gtbl := tb_g 84 (by decide +kernel) rfl
theorem gk_X6_9i (cc : ByteArray) (n : Nat) (r : Option FieldType) (d : Nat) : Gok (RX6, "<init>", cc, n, r, d) 9 7 0 := ⟨by decide, fun t ht => by
  cases fit_1 (by decide) ht
  exact ⟨_, rfl, by decide, "HollowPress$Runners", w_216, Or.inl rfl, Or.inr ⟨rfl, rfl, rfl⟩⟩⟩
theorem gk_X6_15i (cc : ByteArray) (n : Nat) (r : Option FieldType) (d : Nat) : Gok (RX6, "<init>", cc, n, r, d) 15 7 1 := ⟨by decide, fun t ht => by
  cases fit_1 (by decide) ht
  exact ⟨_, rfl, by decide, "HollowPress$Runners", w_219, Or.inl rfl, Or.inr ⟨rfl, rfl, rfl⟩⟩⟩
theorem gk_X6_18i (cc : ByteArray) (n : Nat) (r : Option FieldType) (d : Nat) : Gok (RX6, "<init>", cc, n, r, d) 18 7 2 := ⟨by decide, fun t ht => by
  cases fit_1 (by decide) ht
  exact ⟨_, rfl, by decide, "HollowPress$Runners", w_221, Or.inl rfl, Or.inr ⟨rfl, rfl, rfl⟩⟩⟩
theorem w_410 : Cond.classLink RX6 21 "HollowPress$Part" ∈ gtbl := tb_g 85 (by decide +kernel) rfl
theorem w_411 : Cond.arrayOver (.object "HollowPress$Part") ∈ nws := tb_n 86 (by decide +kernel) rfl
theorem gk_X6_23i (cc : ByteArray) (n : Nat) (r : Option FieldType) (d : Nat) : Gok (RX6, "<init>", cc, n, r, d) 23 7 3 := ⟨by decide, fun t ht => by
  cases fit_1 (by decide) ht
  exact ⟨_, rfl, by decide, "HollowPress$Runners", w_232, Or.inl rfl, Or.inr ⟨rfl, rfl, rfl⟩⟩⟩
theorem gk_X6_31i (cc : ByteArray) (n : Nat) (r : Option FieldType) (d : Nat) : Gok (RX6, "<init>", cc, n, r, d) 31 7 5 := ⟨by decide, fun t ht => by
  cases fit_1 (by decide) ht
  exact ⟨_, rfl, by decide, "HollowPress$Runners", w_218, Or.inl rfl, Or.inr ⟨rfl, rfl, rfl⟩⟩⟩
theorem gk_X6_34i (cc : ByteArray) (n : Nat) (r : Option FieldType) (d : Nat) : Gok (RX6, "<init>", cc, n, r, d) 34 7 6 := ⟨by decide, fun t ht => by
  cases fit_1 (by decide) ht
  exact ⟨_, rfl, by decide, "HollowPress$Runners", w_241, Or.inl rfl, Or.inr ⟨rfl, rfl, rfl⟩⟩⟩
theorem gk_X6_37i (cc : ByteArray) (n : Nat) (r : Option FieldType) (d : Nat) : Gok (RX6, "<init>", cc, n, r, d) 37 7 7 := ⟨by decide, fun t ht => by
  cases fit_1 (by decide) ht
  exact ⟨_, rfl, by decide, "HollowPress$Runners", w_247, Or.inl rfl, Or.inr ⟨rfl, rfl, rfl⟩⟩⟩
theorem w_412 : Cond.methodLink RX9 3 Lib.objectInit ∈ gtbl := tb_g 33 (by decide +kernel) rfl
theorem gk_X9_9i (cc : ByteArray) (n : Nat) (r : Option FieldType) (d : Nat) : Gok (RX9, "<init>", cc, n, r, d) 9 9 0 := ⟨by decide, fun t ht => by
  cases fit_1 (by decide) ht
  exact ⟨_, rfl, by decide, "HollowPress$Trace", w_38, Or.inl rfl, Or.inr ⟨rfl, rfl, rfl⟩⟩⟩
theorem w_413 : Cond.methodLink RX10 1 Lib.objectInit ∈ gtbl := tb_g 21 (by decide +kernel) rfl
theorem w_414 : Cond.classLink RX10 9 "HollowPress$Sheet" ∈ gtbl := tb_g 24 (by decide +kernel) rfl
theorem w_415 : Cond.arrayOver (.object "HollowPress$Sheet") ∈ nws := tb_n 25 (by decide +kernel) rfl
theorem gk_X10_11i (cc : ByteArray) (n : Nat) (r : Option FieldType) (d : Nat) : Gok (RX10, "<init>", cc, n, r, d) 11 10 0 := ⟨by decide, fun t ht => by
  cases fit_1 (by decide) ht
  exact ⟨_, rfl, by decide, "HollowPress", w_317, Or.inl rfl, Or.inr ⟨rfl, rfl, rfl⟩⟩⟩
theorem w_416 : Cond.classLink RX10 15 "HollowPress$Thing" ∈ gtbl := tb_g 26 (by decide +kernel) rfl
theorem w_417 : Cond.arrayOver (.object "HollowPress$Thing") ∈ nws := tb_n 27 (by decide +kernel) rfl
theorem gk_X10_17i (cc : ByteArray) (n : Nat) (r : Option FieldType) (d : Nat) : Gok (RX10, "<init>", cc, n, r, d) 17 10 1 := ⟨by decide, fun t ht => by
  cases fit_1 (by decide) ht
  exact ⟨_, rfl, by decide, "HollowPress", w_195, Or.inl rfl, Or.inr ⟨rfl, rfl, rfl⟩⟩⟩
theorem w_418 : Cond.classLink RX10 21 "HollowPress$Trace" ∈ gtbl := tb_g 28 (by decide +kernel) rfl
theorem w_419 : Cond.instantiable RX9 2 ∈ gtbl := tb_g 29 (by decide +kernel) rfl
theorem w_420 : Cond.methodLinkNest RX10 23 ⟨"HollowPress$Trace", "<init>", "()V"⟩ "HollowPress" ∈ nws := tb_n 30 (by decide +kernel) rfl
theorem w_421 : Cond.instanceMethod ⟨"HollowPress$Trace", "<init>", "()V"⟩ ∈ gtbl := tb_g 31 (by decide +kernel) rfl
theorem w_422 : Cond.code yX9_init cX9_init 1 none ∈ gtbl := tb_g 32 (by decide +kernel) rfl
theorem gk_X10_24i (cc : ByteArray) (n : Nat) (r : Option FieldType) (d : Nat) : Gok (RX10, "<init>", cc, n, r, d) 24 10 2 := ⟨by decide, fun t ht => by
  cases fit_1 (by decide) ht
  exact ⟨_, rfl, by decide, "HollowPress", w_190, Or.inl rfl, Or.inr ⟨rfl, rfl, rfl⟩⟩⟩
theorem w_423 : Cond.classLink RX10 28 "HollowPress$Flow" ∈ gtbl := tb_g 42 (by decide +kernel) rfl
theorem w_424 : Cond.instantiable RX1 10 ∈ gtbl := tb_g 43 (by decide +kernel) rfl
theorem w_425 : Cond.methodLinkNest RX10 30 ⟨"HollowPress$Flow", "<init>", "()V"⟩ "HollowPress" ∈ nws := tb_n 44 (by decide +kernel) rfl
theorem w_426 : Cond.instanceMethod ⟨"HollowPress$Flow", "<init>", "()V"⟩ ∈ gtbl := tb_g 45 (by decide +kernel) rfl
theorem w_427 : Cond.code yX1_init cX1_init 1 none ∈ gtbl := tb_g 46 (by decide +kernel) rfl
theorem gk_X10_31i (cc : ByteArray) (n : Nat) (r : Option FieldType) (d : Nat) : Gok (RX10, "<init>", cc, n, r, d) 31 10 3 := ⟨by decide, fun t ht => by
  cases fit_1 (by decide) ht
  exact ⟨_, rfl, by decide, "HollowPress", w_286, Or.inl rfl, Or.inr ⟨rfl, rfl, rfl⟩⟩⟩
theorem w_428 : Cond.classLink RX10 35 "HollowPress$Runners" ∈ gtbl := tb_g 79 (by decide +kernel) rfl
theorem w_429 : Cond.instantiable RX6 11 ∈ gtbl := tb_g 80 (by decide +kernel) rfl
theorem w_430 : Cond.methodLinkNest RX10 37 ⟨"HollowPress$Runners", "<init>", "()V"⟩ "HollowPress" ∈ nws := tb_n 81 (by decide +kernel) rfl
theorem w_431 : Cond.instanceMethod ⟨"HollowPress$Runners", "<init>", "()V"⟩ ∈ gtbl := tb_g 82 (by decide +kernel) rfl
theorem w_432 : Cond.code yX6_init cX6_init 1 none ∈ gtbl := tb_g 83 (by decide +kernel) rfl
theorem gk_X10_38i (cc : ByteArray) (n : Nat) (r : Option FieldType) (d : Nat) : Gok (RX10, "<init>", cc, n, r, d) 38 10 4 := ⟨by decide, fun t ht => by
  cases fit_1 (by decide) ht
  exact ⟨_, rfl, by decide, "HollowPress", w_256, Or.inl rfl, Or.inr ⟨rfl, rfl, rfl⟩⟩⟩
theorem w_433 : Cond.classLink RX10 42 "HollowPress$Presses" ∈ gtbl := tb_g 123 (by decide +kernel) rfl
theorem w_434 : Cond.instantiable RX5 9 ∈ gtbl := tb_g 124 (by decide +kernel) rfl
theorem w_435 : Cond.initialized "HollowPress$Presses" ∈ gtbl := tb_g 5 (by decide +kernel) rfl
theorem w_436 : Cond.methodLinkNest RX10 44 ⟨"HollowPress$Presses", "<init>", "()V"⟩ "HollowPress" ∈ nws := tb_n 125 (by decide +kernel) rfl
theorem w_437 : Cond.instanceMethod ⟨"HollowPress$Presses", "<init>", "()V"⟩ ∈ gtbl := tb_g 126 (by decide +kernel) rfl
theorem w_438 : Cond.code yX5_init cX5_init 1 none ∈ gtbl := tb_g 127 (by decide +kernel) rfl
theorem gk_X10_45i (cc : ByteArray) (n : Nat) (r : Option FieldType) (d : Nat) : Gok (RX10, "<init>", cc, n, r, d) 45 10 5 := ⟨by decide, fun t ht => by
  cases fit_1 (by decide) ht
  exact ⟨_, rfl, by decide, "HollowPress", w_344, Or.inl rfl, Or.inr ⟨rfl, rfl, rfl⟩⟩⟩
theorem fk_X5_29 : Fok RX5 29 6 5 := ⟨by decide, fun t ht => by
  cases fit_1 (by decide) ht
  exact ⟨_, rfl, by decide, "HollowPress$Presses", w_405, Or.inl rfl⟩⟩
theorem fk_X5_32 : Fok RX5 32 6 6 := ⟨by decide, fun t ht => by
  cases fit_1 (by decide) ht
  exact ⟨_, rfl, by decide, "HollowPress$Presses", w_406, Or.inl rfl⟩⟩
theorem fk_X5_39 : Fok RX5 39 6 8 := ⟨by decide, fun t ht => by
  cases fit_1 (by decide) ht
  exact ⟨_, rfl, by decide, "HollowPress$Presses", w_408, Or.inl rfl⟩⟩
theorem w_439 : Cond.methodLink RX5 43 ⟨"HollowPress$Presses", "forgetPlan", "()V"⟩ ∈ gtbl := tb_g 788 (by decide +kernel) rfl
theorem w_440 : Cond.instanceMethod ⟨"HollowPress$Presses", "forgetPlan", "()V"⟩ ∈ gtbl := tb_g 790 (by decide +kernel) rfl
theorem w_441 : Cond.selects "HollowPress$Presses" ⟨"HollowPress$Presses", "forgetPlan", "()V"⟩ ⟨"HollowPress$Presses", "forgetPlan", "()V"⟩ ∈ gtbl := tb_s 19 (by decide +kernel) rfl
theorem w_442 : Cond.code yX5_forgetPlan cX5_forgetPlan 2 none ∈ gtbl := tb_g 791 (by decide +kernel) rfl
theorem fk_X5_15 : Fok RX5 15 6 1 := ⟨by decide, fun t ht => by
  cases fit_1 (by decide) ht
  exact ⟨_, rfl, by decide, "HollowPress$Presses", w_400, Or.inl rfl⟩⟩
theorem fk_X5_18 : Fok RX5 18 6 2 := ⟨by decide, fun t ht => by
  cases fit_1 (by decide) ht
  exact ⟨_, rfl, by decide, "HollowPress$Presses", w_401, Or.inl rfl⟩⟩
theorem fk_X5_21 : Fok RX5 21 6 3 := ⟨by decide, fun t ht => by
  cases fit_1 (by decide) ht
  exact ⟨_, rfl, by decide, "HollowPress$Presses", w_402, Or.inl rfl⟩⟩
theorem w_443 : Cond.constant RX5 42 (-1000003) ∈ gtbl := tb_g 787 (by decide +kernel) rfl
theorem w_444 : Cond.constant RX10 260 (1000000) ∈ gtbl := tb_g 782 (by decide +kernel) rfl
theorem w_445 : Cond.methodLink RX10 264 ⟨"HollowPress$Presses", "addJob", "(III)I"⟩ ∈ gtbl := tb_g 796 (by decide +kernel) rfl
theorem w_446 : Cond.instanceMethod ⟨"HollowPress$Presses", "addJob", "(III)I"⟩ ∈ gtbl := tb_g 797 (by decide +kernel) rfl
theorem w_447 : Cond.selects "HollowPress$Presses" ⟨"HollowPress$Presses", "addJob", "(III)I"⟩ ⟨"HollowPress$Presses", "addJob", "(III)I"⟩ ∈ gtbl := tb_g 798 (by decide +kernel) rfl
theorem w_448 : Cond.code yX5_addJob cX5_addJob 4 (some .int) ∈ gtbl := tb_g 799 (by decide +kernel) rfl
theorem w_449 : Cond.declares ⟨"HollowPress$Thing", "told", "()I"⟩ ∈ nws := tb_n 364 (by decide +kernel) rfl
theorem w_450 : Cond.methodLink RX10 122 ⟨"HollowPress$Thing", "told", "()I"⟩ ∈ gtbl := tb_g 363 (by decide +kernel) rfl
theorem w_451 : Cond.sameMethod "HollowPress$Thing" "HollowPress$Thing" "told" "()I" ∈ gtbl := tb_g 365 (by decide +kernel) rfl
theorem w_452 : Cond.selects "HollowPress$EvenPart" ⟨"HollowPress$Thing", "told", "()I"⟩ ⟨"HollowPress$EvenPart", "told", "()I"⟩ ∈ gtbl := tb_g 366 (by decide +kernel) rfl
theorem w_453 : Cond.instanceMethod ⟨"HollowPress$EvenPart", "told", "()I"⟩ ∈ gtbl := tb_g 367 (by decide +kernel) rfl
theorem w_454 : Cond.code yX0_told cX0_told 1 (some .int) ∈ gtbl := tb_g 368 (by decide +kernel) rfl
theorem w_455 : Cond.selects "HollowPress$Layers" ⟨"HollowPress$Thing", "told", "()I"⟩ ⟨"HollowPress$Layers", "told", "()I"⟩ ∈ gtbl := tb_g 369 (by decide +kernel) rfl
theorem w_456 : Cond.instanceMethod ⟨"HollowPress$Layers", "told", "()I"⟩ ∈ gtbl := tb_g 370 (by decide +kernel) rfl
theorem w_457 : Cond.code yX2_told cX2_told 1 (some .int) ∈ gtbl := tb_g 371 (by decide +kernel) rfl
theorem w_458 : Cond.selects "HollowPress$Part" ⟨"HollowPress$Thing", "told", "()I"⟩ ⟨"HollowPress$Part", "told", "()I"⟩ ∈ gtbl := tb_g 372 (by decide +kernel) rfl
theorem w_459 : Cond.instanceMethod ⟨"HollowPress$Part", "told", "()I"⟩ ∈ gtbl := tb_g 373 (by decide +kernel) rfl
theorem w_460 : Cond.code yX3_told cX3_told 1 (some .int) ∈ gtbl := tb_g 374 (by decide +kernel) rfl
theorem w_461 : Cond.selects "HollowPress$Plate" ⟨"HollowPress$Thing", "told", "()I"⟩ ⟨"HollowPress$Plate", "told", "()I"⟩ ∈ gtbl := tb_g 375 (by decide +kernel) rfl
theorem w_462 : Cond.instanceMethod ⟨"HollowPress$Plate", "told", "()I"⟩ ∈ gtbl := tb_g 376 (by decide +kernel) rfl
theorem w_463 : Cond.code yX4_told cX4_told 1 (some .int) ∈ gtbl := tb_g 377 (by decide +kernel) rfl
theorem w_464 : Cond.methodLinkNest RX2 1 ⟨"HollowPress$Thing", "<init>", "()V"⟩ "HollowPress" ∈ nws := tb_n 387 (by decide +kernel) rfl
theorem gk_X2_13i (cc : ByteArray) (n : Nat) (r : Option FieldType) (d : Nat) : Gok (RX2, "<init>", cc, n, r, d) 13 3 0 := ⟨by decide, fun t ht => by
  cases fit_1 (by decide) ht
  exact ⟨_, rfl, by decide, "HollowPress$Layers", w_164, Or.inl rfl, Or.inr ⟨rfl, rfl, rfl⟩⟩⟩
theorem gk_X2_17i (cc : ByteArray) (n : Nat) (r : Option FieldType) (d : Nat) : Gok (RX2, "<init>", cc, n, r, d) 17 3 1 := ⟨by decide, fun t ht => by
  cases fit_1 (by decide) ht
  exact ⟨_, rfl, by decide, "HollowPress$Layers", w_265, Or.inl rfl, Or.inr ⟨rfl, rfl, rfl⟩⟩⟩
theorem ti_3_1 : ∀ t, fit 3 t = true → tyT (t - 1) 1 = .int := fun t ht => by
  cases fit_1 (by decide) ht
  rfl
theorem w_465 : Cond.methodLink RX7 29 ⟨"HollowPress$Sheet", "covers", "(II)Z"⟩ ∈ gtbl := tb_g 261 (by decide +kernel) rfl
theorem w_466 : Cond.methodLink RX10 99 ⟨"HollowPress$Sheet", "allAmong", "(III)Z"⟩ ∈ gtbl := tb_g 257 (by decide +kernel) rfl
theorem w_467 : Cond.instanceMethod ⟨"HollowPress$Sheet", "allAmong", "(III)Z"⟩ ∈ gtbl := tb_g 258 (by decide +kernel) rfl
theorem w_468 : Cond.selects "HollowPress$Sheet" ⟨"HollowPress$Sheet", "allAmong", "(III)Z"⟩ ⟨"HollowPress$Sheet", "allAmong", "(III)Z"⟩ ∈ gtbl := tb_g 259 (by decide +kernel) rfl
theorem w_469 : Cond.code yX7_allAmong cX7_allAmong 5 (some .boolean) ∈ gtbl := tb_g 260 (by decide +kernel) rfl
theorem w_470 : Cond.instantiable RX2 3 ∈ gtbl := tb_g 383 (by decide +kernel) rfl
theorem w_471 : Cond.methodLink RX10 105 ⟨"HollowPress$Sheet", "slice", "(II)[I"⟩ ∈ gtbl := tb_g 266 (by decide +kernel) rfl
theorem w_472 : Cond.instanceMethod ⟨"HollowPress$Sheet", "slice", "(II)[I"⟩ ∈ gtbl := tb_g 267 (by decide +kernel) rfl
theorem w_473 : Cond.selects "HollowPress$Sheet" ⟨"HollowPress$Sheet", "slice", "(II)[I"⟩ ⟨"HollowPress$Sheet", "slice", "(II)[I"⟩ ∈ gtbl := tb_g 268 (by decide +kernel) rfl
theorem w_474 : Cond.code yX7_slice cX7_slice 5 (some (.array .int)) ∈ gtbl := tb_g 269 (by decide +kernel) rfl
theorem w_475 : Cond.methodLink RX10 119 ⟨"HollowPress$Layers", "<init>", "([II)V"⟩ ∈ gtbl := tb_g 384 (by decide +kernel) rfl
theorem w_476 : Cond.instanceMethod ⟨"HollowPress$Layers", "<init>", "([II)V"⟩ ∈ gtbl := tb_g 385 (by decide +kernel) rfl
theorem w_477 : Cond.code yX2_init cX2_init 3 none ∈ gtbl := tb_g 386 (by decide +kernel) rfl
theorem w_478 : Cond.methodLink RX10 113 ⟨"HollowPress", "shelve", "(ILHollowPress$Thing;)I"⟩ ∈ gtbl := tb_g 359 (by decide +kernel) rfl
theorem w_479 : Cond.instanceMethod ⟨"HollowPress", "shelve", "(ILHollowPress$Thing;)I"⟩ ∈ gtbl := tb_g 361 (by decide +kernel) rfl
theorem w_480 : Cond.selects "HollowPress" ⟨"HollowPress", "shelve", "(ILHollowPress$Thing;)I"⟩ ⟨"HollowPress", "shelve", "(ILHollowPress$Thing;)I"⟩ ∈ gtbl := tb_s 2 (by decide +kernel) rfl
theorem w_481 : Cond.code yX10_shelve cX10_shelve 3 (some .int) ∈ gtbl := tb_g 362 (by decide +kernel) rfl
theorem fk_X5_26 : Fok RX5 26 6 4 := ⟨by decide, fun t ht => by
  cases fit_1 (by decide) ht
  exact ⟨_, rfl, by decide, "HollowPress$Presses", w_404, Or.inl rfl⟩⟩
theorem w_482 : Cond.methodLink RX10 282 ⟨"HollowPress$Presses", "pains", "(I)I"⟩ ∈ gtbl := tb_g 831 (by decide +kernel) rfl
theorem w_483 : Cond.instanceMethod ⟨"HollowPress$Presses", "pains", "(I)I"⟩ ∈ gtbl := tb_g 832 (by decide +kernel) rfl
theorem w_484 : Cond.selects "HollowPress$Presses" ⟨"HollowPress$Presses", "pains", "(I)I"⟩ ⟨"HollowPress$Presses", "pains", "(I)I"⟩ ∈ gtbl := tb_g 833 (by decide +kernel) rfl
theorem w_485 : Cond.code yX5_pains cX5_pains 3 (some .int) ∈ gtbl := tb_g 834 (by decide +kernel) rfl
theorem w_486 : Cond.fieldLink RX10 279 "HollowPress$Presses" "times" "[I" ∈ gtbl := tb_g 139 (by decide +kernel) rfl
theorem fk_X10_279 : Fok RX10 279 6 6 := ⟨by decide, fun t ht => by
  cases fit_1 (by decide) ht
  exact ⟨_, rfl, by decide, "HollowPress$Presses", w_486, Or.inl rfl⟩⟩
theorem w_487 : Cond.fieldLink RX10 276 "HollowPress$Presses" "lengths" "[I" ∈ gtbl := tb_g 137 (by decide +kernel) rfl
theorem fk_X10_276 : Fok RX10 276 6 5 := ⟨by decide, fun t ht => by
  cases fit_1 (by decide) ht
  exact ⟨_, rfl, by decide, "HollowPress$Presses", w_487, Or.inl rfl⟩⟩
theorem w_488 : Cond.methodLink RX10 190 ⟨"HollowPress$Flow", "cellOfMeeting", "(II)I"⟩ ∈ gtbl := tb_g 622 (by decide +kernel) rfl
theorem w_489 : Cond.instanceMethod ⟨"HollowPress$Flow", "cellOfMeeting", "(II)I"⟩ ∈ gtbl := tb_g 623 (by decide +kernel) rfl
theorem w_490 : Cond.selects "HollowPress$Flow" ⟨"HollowPress$Flow", "cellOfMeeting", "(II)I"⟩ ⟨"HollowPress$Flow", "cellOfMeeting", "(II)I"⟩ ∈ gtbl := tb_g 624 (by decide +kernel) rfl
theorem w_491 : Cond.code yX1_cellOfMeeting cX1_cellOfMeeting 7 (some .int) ∈ gtbl := tb_g 625 (by decide +kernel) rfl
theorem w_492 : Cond.methodLink RX4 1 ⟨"HollowPress$EvenPart", "<init>", "(II[I)V"⟩ ∈ gtbl := tb_g 348 (by decide +kernel) rfl
theorem w_493 : Cond.instanceMethod ⟨"HollowPress$EvenPart", "<init>", "(II[I)V"⟩ ∈ gtbl := tb_g 330 (by decide +kernel) rfl
theorem w_494 : Cond.code yX0_init cX0_init 4 none ∈ gtbl := tb_g 331 (by decide +kernel) rfl
theorem w_495 : Cond.methodLink RX10 295 ⟨"HollowPress", "allCellsAlike", "([I)Z"⟩ ∈ gtbl := tb_g 273 (by decide +kernel) rfl
theorem w_496 : Cond.static ⟨"HollowPress", "allCellsAlike", "([I)Z"⟩ ∈ gtbl := tb_g 274 (by decide +kernel) rfl
theorem w_497 : Cond.code yX10_allCellsAlike cX10_allCellsAlike 6 (some .boolean) ∈ gtbl := tb_g 275 (by decide +kernel) rfl
theorem w_498 : Cond.classLink RX10 302 "HollowPress$EvenPart" ∈ gtbl := tb_g 327 (by decide +kernel) rfl
theorem w_499 : Cond.instantiable RX0 9 ∈ gtbl := tb_g 328 (by decide +kernel) rfl
theorem w_500 : Cond.methodLink RX10 304 ⟨"HollowPress$EvenPart", "<init>", "(II[I)V"⟩ ∈ gtbl := tb_g 329 (by decide +kernel) rfl
theorem w_501 : Cond.classLink RX10 305 "HollowPress$Plate" ∈ gtbl := tb_g 343 (by decide +kernel) rfl
theorem w_502 : Cond.instantiable RX4 9 ∈ gtbl := tb_g 344 (by decide +kernel) rfl
theorem w_503 : Cond.methodLink RX10 307 ⟨"HollowPress$Plate", "<init>", "(II[I)V"⟩ ∈ gtbl := tb_g 345 (by decide +kernel) rfl
theorem w_504 : Cond.instanceMethod ⟨"HollowPress$Plate", "<init>", "(II[I)V"⟩ ∈ gtbl := tb_g 346 (by decide +kernel) rfl
theorem w_505 : Cond.code yX4_init cX4_init 4 none ∈ gtbl := tb_g 347 (by decide +kernel) rfl
theorem w_506 : Cond.instantiable RX3 9 ∈ gtbl := tb_g 277 (by decide +kernel) rfl
theorem w_507 : Cond.methodLink RX10 299 ⟨"HollowPress$Part", "<init>", "(II[I)V"⟩ ∈ gtbl := tb_g 278 (by decide +kernel) rfl
theorem w_508 : Cond.methodLink RX10 102 ⟨"HollowPress$Sheet", "hasMoreThanZero", "(II)Z"⟩ ∈ gtbl := tb_g 262 (by decide +kernel) rfl
theorem w_509 : Cond.instanceMethod ⟨"HollowPress$Sheet", "hasMoreThanZero", "(II)Z"⟩ ∈ gtbl := tb_g 263 (by decide +kernel) rfl
theorem w_510 : Cond.selects "HollowPress$Sheet" ⟨"HollowPress$Sheet", "hasMoreThanZero", "(II)Z"⟩ ⟨"HollowPress$Sheet", "hasMoreThanZero", "(II)Z"⟩ ∈ gtbl := tb_g 264 (by decide +kernel) rfl
theorem w_511 : Cond.code yX7_hasMoreThanZero cX7_hasMoreThanZero 4 (some .boolean) ∈ gtbl := tb_g 265 (by decide +kernel) rfl
theorem w_512 : Cond.methodLink RX10 109 ⟨"HollowPress", "newPart", "(II[I)LHollowPress$Part;"⟩ ∈ gtbl := tb_g 270 (by decide +kernel) rfl
theorem w_513 : Cond.static ⟨"HollowPress", "newPart", "(II[I)LHollowPress$Part;"⟩ ∈ gtbl := tb_g 271 (by decide +kernel) rfl
theorem w_514 : Cond.code yX10_newPart cX10_newPart 7 (some (.object "HollowPress$Part")) ∈ gtbl := tb_g 272 (by decide +kernel) rfl
theorem w_515 : Cond.constant RX5 50 (-1000000) ∈ gtbl := tb_g 812 (by decide +kernel) rfl
theorem fk_X5_35 : Fok RX5 35 6 7 := ⟨by decide, fun t ht => by
  cases fit_1 (by decide) ht
  exact ⟨_, rfl, by decide, "HollowPress$Presses", w_407, Or.inl rfl⟩⟩
theorem fk_X5_9 : Fok RX5 9 6 0 := ⟨by decide, fun t ht => by
  cases fit_1 (by decide) ht
  exact ⟨_, rfl, by decide, "HollowPress$Presses", w_399, Or.inl rfl⟩⟩
theorem w_516 : Cond.methodLink RX5 59 Lib.Math.min.name ∈ gtbl := tb_g 817 (by decide +kernel) rfl
theorem w_517 : Cond.methodLink RX5 46 ⟨"HollowPress$Presses", "pressFor", "(I)I"⟩ ∈ gtbl := tb_g 808 (by decide +kernel) rfl
theorem w_518 : Cond.instanceMethod ⟨"HollowPress$Presses", "pressFor", "(I)I"⟩ ∈ gtbl := tb_g 810 (by decide +kernel) rfl
theorem w_519 : Cond.selects "HollowPress$Presses" ⟨"HollowPress$Presses", "pressFor", "(I)I"⟩ ⟨"HollowPress$Presses", "pressFor", "(I)I"⟩ ∈ gtbl := tb_s 20 (by decide +kernel) rfl
theorem w_520 : Cond.code yX5_pressFor cX5_pressFor 4 (some .int) ∈ gtbl := tb_g 811 (by decide +kernel) rfl
theorem w_521 : Cond.methodLink RX5 51 ⟨"HollowPress$Presses", "putOn", "(II)V"⟩ ∈ gtbl := tb_g 813 (by decide +kernel) rfl
theorem w_522 : Cond.instanceMethod ⟨"HollowPress$Presses", "putOn", "(II)V"⟩ ∈ gtbl := tb_g 815 (by decide +kernel) rfl
theorem w_523 : Cond.selects "HollowPress$Presses" ⟨"HollowPress$Presses", "putOn", "(II)V"⟩ ⟨"HollowPress$Presses", "putOn", "(II)V"⟩ ∈ gtbl := tb_s 21 (by decide +kernel) rfl
theorem w_524 : Cond.code yX5_putOn cX5_putOn 5 none ∈ gtbl := tb_g 816 (by decide +kernel) rfl
theorem w_525 : Cond.methodLink RX10 267 ⟨"HollowPress$Presses", "makePlan", "()I"⟩ ∈ gtbl := tb_g 804 (by decide +kernel) rfl
theorem w_526 : Cond.instanceMethod ⟨"HollowPress$Presses", "makePlan", "()I"⟩ ∈ gtbl := tb_g 805 (by decide +kernel) rfl
theorem w_527 : Cond.selects "HollowPress$Presses" ⟨"HollowPress$Presses", "makePlan", "()I"⟩ ⟨"HollowPress$Presses", "makePlan", "()I"⟩ ∈ gtbl := tb_g 806 (by decide +kernel) rfl
theorem w_528 : Cond.code yX5_makePlan cX5_makePlan 4 (some .int) ∈ gtbl := tb_g 807 (by decide +kernel) rfl
theorem w_529 : Cond.methodLinkNest RX5 55 ⟨"HollowPress", "below", "(II)Z"⟩ "HollowPress" ∈ nws := tb_n 826 (by decide +kernel) rfl
theorem w_530 : Cond.methodLink RX10 273 ⟨"HollowPress$Presses", "jobOn", "(II)I"⟩ ∈ gtbl := tb_g 822 (by decide +kernel) rfl
theorem w_531 : Cond.instanceMethod ⟨"HollowPress$Presses", "jobOn", "(II)I"⟩ ∈ gtbl := tb_g 823 (by decide +kernel) rfl
theorem w_532 : Cond.selects "HollowPress$Presses" ⟨"HollowPress$Presses", "jobOn", "(II)I"⟩ ⟨"HollowPress$Presses", "jobOn", "(II)I"⟩ ∈ gtbl := tb_g 824 (by decide +kernel) rfl
theorem w_533 : Cond.code yX5_jobOn cX5_jobOn 3 (some .int) ∈ gtbl := tb_g 825 (by decide +kernel) rfl
theorem w_534 : Cond.methodLink RX10 261 ⟨"HollowPress$Presses", "addPress", "(I)I"⟩ ∈ gtbl := tb_g 783 (by decide +kernel) rfl
theorem w_535 : Cond.instanceMethod ⟨"HollowPress$Presses", "addPress", "(I)I"⟩ ∈ gtbl := tb_g 784 (by decide +kernel) rfl
theorem w_536 : Cond.selects "HollowPress$Presses" ⟨"HollowPress$Presses", "addPress", "(I)I"⟩ ⟨"HollowPress$Presses", "addPress", "(I)I"⟩ ∈ gtbl := tb_g 785 (by decide +kernel) rfl
theorem w_537 : Cond.code yX5_addPress cX5_addPress 2 (some .int) ∈ gtbl := tb_g 786 (by decide +kernel) rfl
theorem w_538 : Cond.methodLink RX10 236 ⟨"HollowPress$Runners", "howManyHang", "()I"⟩ ∈ gtbl := tb_g 738 (by decide +kernel) rfl
theorem w_539 : Cond.methodLink RX10 233 ⟨"HollowPress$Runners", "mass", "()I"⟩ ∈ gtbl := tb_g 734 (by decide +kernel) rfl
theorem w_540 : Cond.instanceMethod ⟨"HollowPress$Runners", "mass", "()I"⟩ ∈ gtbl := tb_g 735 (by decide +kernel) rfl
theorem w_541 : Cond.selects "HollowPress$Runners" ⟨"HollowPress$Runners", "mass", "()I"⟩ ⟨"HollowPress$Runners", "mass", "()I"⟩ ∈ gtbl := tb_g 736 (by decide +kernel) rfl
theorem w_542 : Cond.code yX6_mass cX6_mass 3 (some .int) ∈ gtbl := tb_g 737 (by decide +kernel) rfl
theorem w_543 : Cond.fieldLink RX7 7 "HollowPress$Sheet" "lane" "I" ∈ gtbl := tb_g 206 (by decide +kernel) rfl
theorem fk_X7_7 : Fok RX7 7 8 0 := ⟨by decide, fun t ht => by
  cases fit_1 (by decide) ht
  exact ⟨_, rfl, by decide, "HollowPress$Sheet", w_543, Or.inl rfl⟩⟩
theorem w_544 : Cond.methodLinkNest RX7 23 ⟨"HollowPress", "below", "(II)Z"⟩ "HollowPress" ∈ nws := tb_n 233 (by decide +kernel) rfl
theorem w_545 : Cond.methodLink RX10 73 ⟨"HollowPress$Sheet", "put", "(IJ)J"⟩ ∈ gtbl := tb_g 229 (by decide +kernel) rfl
theorem w_546 : Cond.instanceMethod ⟨"HollowPress$Sheet", "put", "(IJ)J"⟩ ∈ gtbl := tb_g 230 (by decide +kernel) rfl
theorem w_547 : Cond.selects "HollowPress$Sheet" ⟨"HollowPress$Sheet", "put", "(IJ)J"⟩ ⟨"HollowPress$Sheet", "put", "(IJ)J"⟩ ∈ gtbl := tb_g 231 (by decide +kernel) rfl
theorem w_548 : Cond.code yX7_put cX7_put 6 (some .long) ∈ gtbl := tb_g 232 (by decide +kernel) rfl
theorem w_549 : Cond.methodLink RX7 1 Lib.objectInit ∈ gtbl := tb_g 202 (by decide +kernel) rfl
theorem gk_X7_7i (cc : ByteArray) (n : Nat) (r : Option FieldType) (d : Nat) : Gok (RX7, "<init>", cc, n, r, d) 7 8 0 := ⟨by decide, fun t ht => by
  cases fit_1 (by decide) ht
  exact ⟨_, rfl, by decide, "HollowPress$Sheet", w_543, Or.inl rfl, Or.inr ⟨rfl, rfl, rfl⟩⟩⟩
theorem ti_8_0 : ∀ t, fit 8 t = true → tyT (t - 1) 0 = .int := fun t ht => by
  cases fit_1 (by decide) ht
  rfl
theorem w_550 : Cond.methodLink RX7 13 Lib.Math.max.name ∈ gtbl := tb_g 203 (by decide +kernel) rfl
theorem w_551 : Cond.arrayClass .long ∈ gtbl := tb_g 215 (by decide +kernel) rfl
theorem gk_X7_19i (cc : ByteArray) (n : Nat) (r : Option FieldType) (d : Nat) : Gok (RX7, "<init>", cc, n, r, d) 19 8 1 := ⟨by decide, fun t ht => by
  cases fit_1 (by decide) ht
  exact ⟨_, rfl, by decide, "HollowPress$Sheet", w_316, Or.inl rfl, Or.inr ⟨rfl, rfl, rfl⟩⟩⟩
theorem w_552 : Cond.instantiable RX7 2 ∈ gtbl := tb_g 198 (by decide +kernel) rfl
theorem w_553 : Cond.methodLink RX10 62 ⟨"HollowPress$Sheet", "<init>", "(II)V"⟩ ∈ gtbl := tb_g 199 (by decide +kernel) rfl
theorem w_554 : Cond.instanceMethod ⟨"HollowPress$Sheet", "<init>", "(II)V"⟩ ∈ gtbl := tb_g 200 (by decide +kernel) rfl
theorem w_555 : Cond.code yX7_init cX7_init 3 none ∈ gtbl := tb_g 201 (by decide +kernel) rfl
theorem w_556 : Cond.fieldLink RX10 248 "HollowPress$Runners" "sizes" "[I" ∈ gtbl := tb_g 90 (by decide +kernel) rfl
theorem fk_X10_248 : Fok RX10 248 7 2 := ⟨by decide, fun t ht => by
  cases fit_1 (by decide) ht
  exact ⟨_, rfl, by decide, "HollowPress$Runners", w_556, Or.inl rfl⟩⟩
theorem fk_X10_49 : Fok RX10 49 10 6 := ⟨by decide, fun t ht => by
  cases fit_1 (by decide) ht
  exact ⟨_, rfl, by decide, "HollowPress", w_162, Or.inl rfl⟩⟩
theorem nr_10_6 : ∀ t, fit 10 t = true → isR (t - 1) 6 = false := fun t ht => by
  cases fit_1 (by decide) ht
  rfl
theorem w_557 : Cond.methodLink RX10 224 ⟨"HollowPress$Runners", "fell", "()I"⟩ ∈ gtbl := tb_g 698 (by decide +kernel) rfl
theorem w_558 : Cond.instanceMethod ⟨"HollowPress$Runners", "fell", "()I"⟩ ∈ gtbl := tb_g 699 (by decide +kernel) rfl
theorem w_559 : Cond.selects "HollowPress$Runners" ⟨"HollowPress$Runners", "fell", "()I"⟩ ⟨"HollowPress$Runners", "fell", "()I"⟩ ∈ gtbl := tb_g 700 (by decide +kernel) rfl
theorem w_560 : Cond.code yX6_fell cX6_fell 3 (some .int) ∈ gtbl := tb_g 701 (by decide +kernel) rfl
theorem w_561 : Cond.methodLinkNest RX9 19 ⟨"HollowPress", "below", "(II)Z"⟩ "HollowPress" ∈ nws := tb_n 496 (by decide +kernel) rfl
theorem w_562 : Cond.constant RX9 23 (-1000000) ∈ gtbl := tb_g 497 (by decide +kernel) rfl
theorem w_563 : Cond.methodLink RX10 140 ⟨"HollowPress$Trace", "number", "(I)I"⟩ ∈ gtbl := tb_g 492 (by decide +kernel) rfl
theorem w_564 : Cond.instanceMethod ⟨"HollowPress$Trace", "number", "(I)I"⟩ ∈ gtbl := tb_g 493 (by decide +kernel) rfl
theorem w_565 : Cond.selects "HollowPress$Trace" ⟨"HollowPress$Trace", "number", "(I)I"⟩ ⟨"HollowPress$Trace", "number", "(I)I"⟩ ∈ gtbl := tb_g 494 (by decide +kernel) rfl
theorem w_566 : Cond.code yX9_number cX9_number 2 (some .int) ∈ gtbl := tb_g 495 (by decide +kernel) rfl
theorem w_567 : Cond.methodLink RX10 194 ⟨"HollowPress$Flow", "cellOfTrap", "(ILHollowPress$Part;)I"⟩ ∈ gtbl := tb_g 631 (by decide +kernel) rfl
theorem w_568 : Cond.instanceMethod ⟨"HollowPress$Flow", "cellOfTrap", "(ILHollowPress$Part;)I"⟩ ∈ gtbl := tb_g 632 (by decide +kernel) rfl
theorem w_569 : Cond.selects "HollowPress$Flow" ⟨"HollowPress$Flow", "cellOfTrap", "(ILHollowPress$Part;)I"⟩ ⟨"HollowPress$Flow", "cellOfTrap", "(ILHollowPress$Part;)I"⟩ ∈ gtbl := tb_g 633 (by decide +kernel) rfl
theorem w_570 : Cond.code yX1_cellOfTrap cX1_cellOfTrap 5 (some .int) ∈ gtbl := tb_g 634 (by decide +kernel) rfl
theorem w_571 : Cond.methodLink RX10 166 ⟨"HollowPress$Part", "turnVent", "(I)Z"⟩ ∈ gtbl := tb_g 592 (by decide +kernel) rfl
theorem w_572 : Cond.instanceMethod ⟨"HollowPress$Part", "turnVent", "(I)Z"⟩ ∈ gtbl := tb_g 593 (by decide +kernel) rfl
theorem w_573 : Cond.selects "HollowPress$Part" ⟨"HollowPress$Part", "turnVent", "(I)Z"⟩ ⟨"HollowPress$Part", "turnVent", "(I)Z"⟩ ∈ gtbl := tb_g 594 (by decide +kernel) rfl
theorem w_574 : Cond.code yX3_turnVent cX3_turnVent 2 (some .boolean) ∈ gtbl := tb_g 598 (by decide +kernel) rfl
theorem w_575 : Cond.sameMethod "HollowPress$Part" "HollowPress$Part" "turnVent" "(I)Z" ∈ gtbl := tb_g 595 (by decide +kernel) rfl
theorem w_576 : Cond.selects "HollowPress$EvenPart" ⟨"HollowPress$Part", "turnVent", "(I)Z"⟩ ⟨"HollowPress$Part", "turnVent", "(I)Z"⟩ ∈ gtbl := tb_g 596 (by decide +kernel) rfl
theorem w_577 : Cond.selects "HollowPress$Plate" ⟨"HollowPress$Part", "turnVent", "(I)Z"⟩ ⟨"HollowPress$Part", "turnVent", "(I)Z"⟩ ∈ gtbl := tb_g 597 (by decide +kernel) rfl
theorem w_578 : Cond.fieldLink RX10 257 "HollowPress$Layers" "warm" "[I" ∈ gtbl := tb_g 389 (by decide +kernel) rfl
theorem fk_X10_257 : Fok RX10 257 3 0 := ⟨by decide, fun t ht => by
  cases fit_1 (by decide) ht
  exact ⟨_, rfl, by decide, "HollowPress$Layers", w_578, Or.inl rfl⟩⟩
theorem w_579 : Cond.fieldLink RX10 254 "HollowPress$Layers" "given" "I" ∈ gtbl := tb_g 392 (by decide +kernel) rfl
theorem fk_X10_254 : Fok RX10 254 3 2 := ⟨by decide, fun t ht => by
  cases fit_1 (by decide) ht
  exact ⟨_, rfl, by decide, "HollowPress$Layers", w_579, Or.inl rfl⟩⟩
theorem w_580 : Cond.fieldLink RX11 128 "HollowPressModel" "status" "I" ∈ gtbl := tb_g 859 (by decide +kernel) rfl
theorem gk_X11_128 (nm : String) (cc : ByteArray) (n : Nat) (r : Option FieldType) (d : Nat) : Gok (RX11, nm, cc, n, r, d) 128 11 1 := ⟨by decide, fun t ht => by
  cases fit_1 (by decide) ht
  exact ⟨_, rfl, by decide, "HollowPressModel", w_580, Or.inl rfl, Or.inl rfl⟩⟩
theorem ti_11_1 : ∀ t, fit 11 t = true → tyT (t - 1) 1 = .int := fun t ht => by
  cases fit_1 (by decide) ht
  rfl
theorem w_581 : Cond.constant RX11 131 (-1000010) ∈ gtbl := tb_g 1011 (by decide +kernel) rfl
theorem w_582 : Cond.constantLong RX11 151 (9) ∈ gtbl := tb_g 1032 (by decide +kernel) rfl
theorem w_583 : Cond.methodLink RX11 134 ⟨"HollowPressModel", "in", "(JJJ)Z"⟩ ∈ gtbl := tb_g 1002 (by decide +kernel) rfl
theorem w_584 : Cond.static ⟨"HollowPressModel", "in", "(JJJ)Z"⟩ ∈ gtbl := tb_g 1003 (by decide +kernel) rfl
theorem w_585 : Cond.initialized "HollowPressModel" ∈ gtbl := tb_g 6 (by decide +kernel) rfl
theorem w_586 : Cond.code yX11_in cX11_in 6 (some .boolean) ∈ gtbl := tb_g 1004 (by decide +kernel) rfl
theorem w_587 : Cond.fieldLink RX11 173 "HollowPressModel" "traced" "I" ∈ gtbl := tb_g 875 (by decide +kernel) rfl
theorem fk_X11_173 : Fok RX11 173 11 17 := ⟨by decide, fun t ht => by
  cases fit_1 (by decide) ht
  exact ⟨_, rfl, by decide, "HollowPressModel", w_587, Or.inl rfl⟩⟩
theorem nr_11_17 : ∀ t, fit 11 t = true → isR (t - 1) 17 = false := fun t ht => by
  cases fit_1 (by decide) ht
  rfl
theorem w_588 : Cond.fieldLink RX11 54 "HollowPressModel" "trace" "[I" ∈ gtbl := tb_g 874 (by decide +kernel) rfl
theorem fk_X11_54 : Fok RX11 54 11 16 := ⟨by decide, fun t ht => by
  cases fit_1 (by decide) ht
  exact ⟨_, rfl, by decide, "HollowPressModel", w_588, Or.inl rfl⟩⟩
theorem yr_11_16 : ∀ t, fit 11 t = true → isR (t - 1) 16 = true := fun t ht => by
  cases fit_1 (by decide) ht
  rfl
theorem gk_X11_173 (nm : String) (cc : ByteArray) (n : Nat) (r : Option FieldType) (d : Nat) : Gok (RX11, nm, cc, n, r, d) 173 11 17 := ⟨by decide, fun t ht => by
  cases fit_1 (by decide) ht
  exact ⟨_, rfl, by decide, "HollowPressModel", w_587, Or.inl rfl, Or.inl rfl⟩⟩
theorem ti_11_17 : ∀ t, fit 11 t = true → tyT (t - 1) 17 = .int := fun t ht => by
  cases fit_1 (by decide) ht
  rfl
theorem w_589 : Cond.fieldLink RX11 20 "HollowPressModel" "kind" "[I" ∈ gtbl := tb_g 863 (by decide +kernel) rfl
theorem fk_X11_20 : Fok RX11 20 11 5 := ⟨by decide, fun t ht => by
  cases fit_1 (by decide) ht
  exact ⟨_, rfl, by decide, "HollowPressModel", w_589, Or.inl rfl⟩⟩
theorem yr_11_5 : ∀ t, fit 11 t = true → isR (t - 1) 5 = true := fun t ht => by
  cases fit_1 (by decide) ht
  rfl
theorem w_590 : Cond.methodLink RX11 169 ⟨"HollowPressModel", "isOf", "(II)Z"⟩ ∈ gtbl := tb_g 1058 (by decide +kernel) rfl
theorem w_591 : Cond.static ⟨"HollowPressModel", "isOf", "(II)Z"⟩ ∈ gtbl := tb_g 1059 (by decide +kernel) rfl
theorem w_592 : Cond.code yX11_isOf cX11_isOf 2 (some .boolean) ∈ gtbl := tb_g 1060 (by decide +kernel) rfl
theorem w_593 : Cond.methodLink RX11 176 ⟨"HollowPressModel", "began", "(I)V"⟩ ∈ gtbl := tb_g 1069 (by decide +kernel) rfl
theorem w_594 : Cond.instanceMethod ⟨"HollowPressModel", "began", "(I)V"⟩ ∈ gtbl := tb_g 1071 (by decide +kernel) rfl
theorem w_595 : Cond.selects "HollowPressModel" ⟨"HollowPressModel", "began", "(I)V"⟩ ⟨"HollowPressModel", "began", "(I)V"⟩ ∈ gtbl := tb_s 27 (by decide +kernel) rfl
theorem w_596 : Cond.code yX11_began cX11_began 2 none ∈ gtbl := tb_g 1072 (by decide +kernel) rfl
theorem w_597 : Cond.fieldLink RX11 29 "HollowPressModel" "thick" "[I" ∈ gtbl := tb_g 866 (by decide +kernel) rfl
theorem fk_X11_29 : Fok RX11 29 11 8 := ⟨by decide, fun t ht => by
  cases fit_1 (by decide) ht
  exact ⟨_, rfl, by decide, "HollowPressModel", w_597, Or.inl rfl⟩⟩
theorem yr_11_8 : ∀ t, fit 11 t = true → isR (t - 1) 8 = true := fun t ht => by
  cases fit_1 (by decide) ht
  rfl
theorem w_598 : Cond.fieldLink RX11 32 "HollowPressModel" "gates" "[I" ∈ gtbl := tb_g 867 (by decide +kernel) rfl
theorem fk_X11_32 : Fok RX11 32 11 9 := ⟨by decide, fun t ht => by
  cases fit_1 (by decide) ht
  exact ⟨_, rfl, by decide, "HollowPressModel", w_598, Or.inl rfl⟩⟩
theorem yr_11_9 : ∀ t, fit 11 t = true → isR (t - 1) 9 = true := fun t ht => by
  cases fit_1 (by decide) ht
  rfl
theorem w_599 : Cond.fieldLink RX11 23 "HollowPressModel" "wide" "[I" ∈ gtbl := tb_g 864 (by decide +kernel) rfl
theorem fk_X11_23 : Fok RX11 23 11 6 := ⟨by decide, fun t ht => by
  cases fit_1 (by decide) ht
  exact ⟨_, rfl, by decide, "HollowPressModel", w_599, Or.inl rfl⟩⟩
theorem yr_11_6 : ∀ t, fit 11 t = true → isR (t - 1) 6 = true := fun t ht => by
  cases fit_1 (by decide) ht
  rfl
theorem w_600 : Cond.methodLink RX11 180 ⟨"HollowPressModel", "weight", "(I)I"⟩ ∈ gtbl := tb_g 1065 (by decide +kernel) rfl
theorem w_601 : Cond.instanceMethod ⟨"HollowPressModel", "weight", "(I)I"⟩ ∈ gtbl := tb_g 1067 (by decide +kernel) rfl
theorem w_602 : Cond.selects "HollowPressModel" ⟨"HollowPressModel", "weight", "(I)I"⟩ ⟨"HollowPressModel", "weight", "(I)I"⟩ ∈ gtbl := tb_s 26 (by decide +kernel) rfl
theorem w_603 : Cond.code yX11_weight cX11_weight 5 (some .int) ∈ gtbl := tb_g 1068 (by decide +kernel) rfl
theorem w_604 : Cond.fieldLink RX11 42 "HollowPressModel" "warm" "[I" ∈ gtbl := tb_g 870 (by decide +kernel) rfl
theorem fk_X11_42 : Fok RX11 42 11 12 := ⟨by decide, fun t ht => by
  cases fit_1 (by decide) ht
  exact ⟨_, rfl, by decide, "HollowPressModel", w_604, Or.inl rfl⟩⟩
theorem yr_11_12 : ∀ t, fit 11 t = true → isR (t - 1) 12 = true := fun t ht => by
  cases fit_1 (by decide) ht
  rfl
theorem w_605 : Cond.fieldLink RX11 124 "HollowPressModel" "thrown" "I" ∈ gtbl := tb_g 858 (by decide +kernel) rfl
theorem gk_X11_124 (nm : String) (cc : ByteArray) (n : Nat) (r : Option FieldType) (d : Nat) : Gok (RX11, nm, cc, n, r, d) 124 11 0 := ⟨by decide, fun t ht => by
  cases fit_1 (by decide) ht
  exact ⟨_, rfl, by decide, "HollowPressModel", w_605, Or.inl rfl, Or.inl rfl⟩⟩
theorem ti_11_0 : ∀ t, fit 11 t = true → tyT (t - 1) 0 = .int := fun t ht => by
  cases fit_1 (by decide) ht
  rfl
theorem w_606 : Cond.methodLink RX11 153 ⟨"HollowPressModel", "isPlace", "(I)Z"⟩ ∈ gtbl := tb_g 1029 (by decide +kernel) rfl
theorem w_607 : Cond.static ⟨"HollowPressModel", "isPlace", "(I)Z"⟩ ∈ gtbl := tb_g 1030 (by decide +kernel) rfl
theorem w_608 : Cond.code yX11_isPlace cX11_isPlace 1 (some .boolean) ∈ gtbl := tb_g 1031 (by decide +kernel) rfl
theorem w_609 : Cond.constant RX11 144 (-1000001) ∈ gtbl := tb_g 1006 (by decide +kernel) rfl
theorem w_610 : Cond.methodLink RX11 183 ⟨"HollowPressModel", "marked", "(I)I"⟩ ∈ gtbl := tb_g 1073 (by decide +kernel) rfl
theorem w_611 : Cond.instanceMethod ⟨"HollowPressModel", "marked", "(I)I"⟩ ∈ gtbl := tb_g 1075 (by decide +kernel) rfl
theorem w_612 : Cond.selects "HollowPressModel" ⟨"HollowPressModel", "marked", "(I)I"⟩ ⟨"HollowPressModel", "marked", "(I)I"⟩ ∈ gtbl := tb_s 28 (by decide +kernel) rfl
theorem w_613 : Cond.code yX11_marked cX11_marked 4 (some .int) ∈ gtbl := tb_g 1076 (by decide +kernel) rfl
theorem w_614 : Cond.methodLink RX11 145 ⟨"HollowPressModel", "found", "(I)I"⟩ ∈ gtbl := tb_g 1007 (by decide +kernel) rfl
theorem w_615 : Cond.instanceMethod ⟨"HollowPressModel", "found", "(I)I"⟩ ∈ gtbl := tb_g 1009 (by decide +kernel) rfl
theorem w_616 : Cond.selects "HollowPressModel" ⟨"HollowPressModel", "found", "(I)I"⟩ ⟨"HollowPressModel", "found", "(I)I"⟩ ∈ gtbl := tb_s 24 (by decide +kernel) rfl
theorem w_617 : Cond.code yX11_found cX11_found 2 (some .int) ∈ gtbl := tb_g 1010 (by decide +kernel) rfl
theorem w_618 : Cond.fieldLink RX11 195 "HollowPressModel" "ordered" "I" ∈ gtbl := tb_g 881 (by decide +kernel) rfl
theorem fk_X11_195 : Fok RX11 195 11 23 := ⟨by decide, fun t ht => by
  cases fit_1 (by decide) ht
  exact ⟨_, rfl, by decide, "HollowPressModel", w_618, Or.inl rfl⟩⟩
theorem nr_11_23 : ∀ t, fit 11 t = true → isR (t - 1) 23 = false := fun t ht => by
  cases fit_1 (by decide) ht
  rfl
theorem w_619 : Cond.fieldLink RX11 57 "HollowPressModel" "strain" "[I" ∈ gtbl := tb_g 876 (by decide +kernel) rfl
theorem fk_X11_57 : Fok RX11 57 11 18 := ⟨by decide, fun t ht => by
  cases fit_1 (by decide) ht
  exact ⟨_, rfl, by decide, "HollowPressModel", w_619, Or.inl rfl⟩⟩
theorem yr_11_18 : ∀ t, fit 11 t = true → isR (t - 1) 18 = true := fun t ht => by
  cases fit_1 (by decide) ht
  rfl
theorem w_620 : Cond.fieldLink RX11 63 "HollowPressModel" "order" "[I" ∈ gtbl := tb_g 878 (by decide +kernel) rfl
theorem fk_X11_63 : Fok RX11 63 11 20 := ⟨by decide, fun t ht => by
  cases fit_1 (by decide) ht
  exact ⟨_, rfl, by decide, "HollowPressModel", w_620, Or.inl rfl⟩⟩
theorem yr_11_20 : ∀ t, fit 11 t = true → isR (t - 1) 20 = true := fun t ht => by
  cases fit_1 (by decide) ht
  rfl
theorem w_621 : Cond.constant RX11 186 (-1000000) ∈ gtbl := tb_g 1081 (by decide +kernel) rfl
theorem w_622 : Cond.fieldLink RX11 26 "HollowPressModel" "high" "[I" ∈ gtbl := tb_g 865 (by decide +kernel) rfl
theorem fk_X11_26 : Fok RX11 26 11 7 := ⟨by decide, fun t ht => by
  cases fit_1 (by decide) ht
  exact ⟨_, rfl, by decide, "HollowPressModel", w_622, Or.inl rfl⟩⟩
theorem yr_11_7 : ∀ t, fit 11 t = true → isR (t - 1) 7 = true := fun t ht => by
  cases fit_1 (by decide) ht
  rfl
theorem w_623 : Cond.fieldLink RX11 69 "HollowPressModel" "isSettled" "[Z" ∈ gtbl := tb_g 880 (by decide +kernel) rfl
theorem fk_X11_69 : Fok RX11 69 11 22 := ⟨by decide, fun t ht => by
  cases fit_1 (by decide) ht
  exact ⟨_, rfl, by decide, "HollowPressModel", w_623, Or.inl rfl⟩⟩
theorem yr_11_22 : ∀ t, fit 11 t = true → isR (t - 1) 22 = true := fun t ht => by
  cases fit_1 (by decide) ht
  rfl
theorem gk_X11_195 (nm : String) (cc : ByteArray) (n : Nat) (r : Option FieldType) (d : Nat) : Gok (RX11, nm, cc, n, r, d) 195 11 23 := ⟨by decide, fun t ht => by
  cases fit_1 (by decide) ht
  exact ⟨_, rfl, by decide, "HollowPressModel", w_618, Or.inl rfl, Or.inl rfl⟩⟩
theorem ti_11_23 : ∀ t, fit 11 t = true → tyT (t - 1) 23 = .int := fun t ht => by
  cases fit_1 (by decide) ht
  rfl
theorem w_624 : Cond.fieldLink RX11 60 "HollowPressModel" "front" "[I" ∈ gtbl := tb_g 877 (by decide +kernel) rfl
theorem fk_X11_60 : Fok RX11 60 11 19 := ⟨by decide, fun t ht => by
  cases fit_1 (by decide) ht
  exact ⟨_, rfl, by decide, "HollowPressModel", w_624, Or.inl rfl⟩⟩
theorem yr_11_19 : ∀ t, fit 11 t = true → isR (t - 1) 19 = true := fun t ht => by
  cases fit_1 (by decide) ht
  rfl
theorem w_625 : Cond.fieldLink RX11 66 "HollowPressModel" "orderOf" "[I" ∈ gtbl := tb_g 879 (by decide +kernel) rfl
theorem fk_X11_66 : Fok RX11 66 11 21 := ⟨by decide, fun t ht => by
  cases fit_1 (by decide) ht
  exact ⟨_, rfl, by decide, "HollowPressModel", w_625, Or.inl rfl⟩⟩
theorem yr_11_21 : ∀ t, fit 11 t = true → isR (t - 1) 21 = true := fun t ht => by
  cases fit_1 (by decide) ht
  rfl
theorem w_626 : Cond.methodLink RX11 198 ⟨"HollowPressModel", "drag", "(I)I"⟩ ∈ gtbl := tb_g 1107 (by decide +kernel) rfl
theorem w_627 : Cond.static ⟨"HollowPressModel", "drag", "(I)I"⟩ ∈ gtbl := tb_g 1108 (by decide +kernel) rfl
theorem w_628 : Cond.code yX11_drag cX11_drag 1 (some .int) ∈ gtbl := tb_g 1109 (by decide +kernel) rfl
theorem w_629 : Cond.fieldLink RX11 35 "HollowPressModel" "gate" "[I" ∈ gtbl := tb_g 868 (by decide +kernel) rfl
theorem fk_X11_35 : Fok RX11 35 11 10 := ⟨by decide, fun t ht => by
  cases fit_1 (by decide) ht
  exact ⟨_, rfl, by decide, "HollowPressModel", w_629, Or.inl rfl⟩⟩
theorem yr_11_10 : ∀ t, fit 11 t = true → isR (t - 1) 10 = true := fun t ht => by
  cases fit_1 (by decide) ht
  rfl
theorem w_630 : Cond.methodLink RX11 201 ⟨"HollowPressModel", "next", "()I"⟩ ∈ gtbl := tb_g 1110 (by decide +kernel) rfl
theorem w_631 : Cond.instanceMethod ⟨"HollowPressModel", "next", "()I"⟩ ∈ gtbl := tb_g 1112 (by decide +kernel) rfl
theorem w_632 : Cond.selects "HollowPressModel" ⟨"HollowPressModel", "next", "()I"⟩ ⟨"HollowPressModel", "next", "()I"⟩ ∈ gtbl := tb_s 32 (by decide +kernel) rfl
theorem w_633 : Cond.code yX11_next cX11_next 3 (some .int) ∈ gtbl := tb_g 1113 (by decide +kernel) rfl
theorem w_634 : Cond.methodLink RX11 205 ⟨"HollowPressModel", "neighbour", "(III)I"⟩ ∈ gtbl := tb_g 1114 (by decide +kernel) rfl
theorem w_635 : Cond.instanceMethod ⟨"HollowPressModel", "neighbour", "(III)I"⟩ ∈ gtbl := tb_g 1116 (by decide +kernel) rfl
theorem w_636 : Cond.selects "HollowPressModel" ⟨"HollowPressModel", "neighbour", "(III)I"⟩ ⟨"HollowPressModel", "neighbour", "(III)I"⟩ ∈ gtbl := tb_s 33 (by decide +kernel) rfl
theorem w_637 : Cond.code yX11_neighbour cX11_neighbour 7 (some .int) ∈ gtbl := tb_g 1117 (by decide +kernel) rfl
theorem w_638 : Cond.fieldLink RX11 218 "HollowPressModel" "branches" "I" ∈ gtbl := tb_g 882 (by decide +kernel) rfl
theorem fk_X11_218 : Fok RX11 218 11 24 := ⟨by decide, fun t ht => by
  cases fit_1 (by decide) ht
  exact ⟨_, rfl, by decide, "HollowPressModel", w_638, Or.inl rfl⟩⟩
theorem nr_11_24 : ∀ t, fit 11 t = true → isR (t - 1) 24 = false := fun t ht => by
  cases fit_1 (by decide) ht
  rfl
theorem w_639 : Cond.fieldLink RX11 81 "HollowPressModel" "hung" "[I" ∈ gtbl := tb_g 886 (by decide +kernel) rfl
theorem fk_X11_81 : Fok RX11 81 11 28 := ⟨by decide, fun t ht => by
  cases fit_1 (by decide) ht
  exact ⟨_, rfl, by decide, "HollowPressModel", w_639, Or.inl rfl⟩⟩
theorem yr_11_28 : ∀ t, fit 11 t = true → isR (t - 1) 28 = true := fun t ht => by
  cases fit_1 (by decide) ht
  rfl
theorem w_640 : Cond.methodLink RX11 209 ⟨"HollowPressModel", "fill", "(II)V"⟩ ∈ gtbl := tb_g 1103 (by decide +kernel) rfl
theorem w_641 : Cond.instanceMethod ⟨"HollowPressModel", "fill", "(II)V"⟩ ∈ gtbl := tb_g 1105 (by decide +kernel) rfl
theorem w_642 : Cond.selects "HollowPressModel" ⟨"HollowPressModel", "fill", "(II)V"⟩ ⟨"HollowPressModel", "fill", "(II)V"⟩ ∈ gtbl := tb_s 31 (by decide +kernel) rfl
theorem w_643 : Cond.code yX11_fill cX11_fill 7 none ∈ gtbl := tb_g 1106 (by decide +kernel) rfl
theorem w_644 : Cond.fieldLink RX11 84 "HollowPressModel" "hungEnds" "[I" ∈ gtbl := tb_g 887 (by decide +kernel) rfl
theorem fk_X11_84 : Fok RX11 84 11 29 := ⟨by decide, fun t ht => by
  cases fit_1 (by decide) ht
  exact ⟨_, rfl, by decide, "HollowPressModel", w_644, Or.inl rfl⟩⟩
theorem yr_11_29 : ∀ t, fit 11 t = true → isR (t - 1) 29 = true := fun t ht => by
  cases fit_1 (by decide) ht
  rfl
theorem w_645 : Cond.methodLink RX11 215 ⟨"HollowPressModel", "ends", "()I"⟩ ∈ gtbl := tb_g 1135 (by decide +kernel) rfl
theorem w_646 : Cond.instanceMethod ⟨"HollowPressModel", "ends", "()I"⟩ ∈ gtbl := tb_g 1137 (by decide +kernel) rfl
theorem w_647 : Cond.selects "HollowPressModel" ⟨"HollowPressModel", "ends", "()I"⟩ ⟨"HollowPressModel", "ends", "()I"⟩ ∈ gtbl := tb_s 34 (by decide +kernel) rfl
theorem w_648 : Cond.code yX11_ends cX11_ends 1 (some .int) ∈ gtbl := tb_g 1138 (by decide +kernel) rfl
theorem w_649 : Cond.fieldLink RX11 78 "HollowPressModel" "size" "[I" ∈ gtbl := tb_g 885 (by decide +kernel) rfl
theorem fk_X11_78 : Fok RX11 78 11 27 := ⟨by decide, fun t ht => by
  cases fit_1 (by decide) ht
  exact ⟨_, rfl, by decide, "HollowPressModel", w_649, Or.inl rfl⟩⟩
theorem yr_11_27 : ∀ t, fit 11 t = true → isR (t - 1) 27 = true := fun t ht => by
  cases fit_1 (by decide) ht
  rfl
theorem w_650 : Cond.fieldLink RX11 87 "HollowPressModel" "sizes" "[I" ∈ gtbl := tb_g 888 (by decide +kernel) rfl
theorem fk_X11_87 : Fok RX11 87 11 30 := ⟨by decide, fun t ht => by
  cases fit_1 (by decide) ht
  exact ⟨_, rfl, by decide, "HollowPressModel", w_650, Or.inl rfl⟩⟩
theorem yr_11_30 : ∀ t, fit 11 t = true → isR (t - 1) 30 = true := fun t ht => by
  cases fit_1 (by decide) ht
  rfl
theorem w_651 : Cond.fieldLink RX11 75 "HollowPressModel" "length" "[I" ∈ gtbl := tb_g 884 (by decide +kernel) rfl
theorem fk_X11_75 : Fok RX11 75 11 26 := ⟨by decide, fun t ht => by
  cases fit_1 (by decide) ht
  exact ⟨_, rfl, by decide, "HollowPressModel", w_651, Or.inl rfl⟩⟩
theorem yr_11_26 : ∀ t, fit 11 t = true → isR (t - 1) 26 = true := fun t ht => by
  cases fit_1 (by decide) ht
  rfl
theorem w_652 : Cond.fieldLink RX11 72 "HollowPressModel" "parent" "[I" ∈ gtbl := tb_g 883 (by decide +kernel) rfl
theorem fk_X11_72 : Fok RX11 72 11 25 := ⟨by decide, fun t ht => by
  cases fit_1 (by decide) ht
  exact ⟨_, rfl, by decide, "HollowPressModel", w_652, Or.inl rfl⟩⟩
theorem yr_11_25 : ∀ t, fit 11 t = true → isR (t - 1) 25 = true := fun t ht => by
  cases fit_1 (by decide) ht
  rfl
theorem w_653 : Cond.methodLink RX11 226 ⟨"HollowPressModel", "endOf", "(I)I"⟩ ∈ gtbl := tb_g 1164 (by decide +kernel) rfl
theorem w_654 : Cond.instanceMethod ⟨"HollowPressModel", "endOf", "(I)I"⟩ ∈ gtbl := tb_g 1166 (by decide +kernel) rfl
theorem w_655 : Cond.selects "HollowPressModel" ⟨"HollowPressModel", "endOf", "(I)I"⟩ ⟨"HollowPressModel", "endOf", "(I)I"⟩ ∈ gtbl := tb_s 37 (by decide +kernel) rfl
theorem w_656 : Cond.code yX11_endOf cX11_endOf 4 (some .int) ∈ gtbl := tb_g 1167 (by decide +kernel) rfl
theorem w_657 : Cond.methodLink RX11 229 ⟨"HollowPressModel", "findEnds", "()V"⟩ ∈ gtbl := tb_g 1160 (by decide +kernel) rfl
theorem w_658 : Cond.instanceMethod ⟨"HollowPressModel", "findEnds", "()V"⟩ ∈ gtbl := tb_g 1162 (by decide +kernel) rfl
theorem w_659 : Cond.selects "HollowPressModel" ⟨"HollowPressModel", "findEnds", "()V"⟩ ⟨"HollowPressModel", "findEnds", "()V"⟩ ∈ gtbl := tb_s 36 (by decide +kernel) rfl
theorem w_660 : Cond.code yX11_findEnds cX11_findEnds 2 none ∈ gtbl := tb_g 1163 (by decide +kernel) rfl
theorem w_661 : Cond.methodLink RX11 238 ⟨"HollowPressModel", "lay", "(II)V"⟩ ∈ gtbl := tb_g 1184 (by decide +kernel) rfl
theorem w_662 : Cond.instanceMethod ⟨"HollowPressModel", "lay", "(II)V"⟩ ∈ gtbl := tb_g 1186 (by decide +kernel) rfl
theorem w_663 : Cond.selects "HollowPressModel" ⟨"HollowPressModel", "lay", "(II)V"⟩ ⟨"HollowPressModel", "lay", "(II)V"⟩ ∈ gtbl := tb_s 40 (by decide +kernel) rfl
theorem w_664 : Cond.code yX11_lay cX11_lay 5 none ∈ gtbl := tb_g 1187 (by decide +kernel) rfl
theorem w_665 : Cond.methodLink RX11 232 ⟨"HollowPressModel", "spread", "()I"⟩ ∈ gtbl := tb_g 1172 (by decide +kernel) rfl
theorem w_666 : Cond.instanceMethod ⟨"HollowPressModel", "spread", "()I"⟩ ∈ gtbl := tb_g 1174 (by decide +kernel) rfl
theorem w_667 : Cond.selects "HollowPressModel" ⟨"HollowPressModel", "spread", "()I"⟩ ⟨"HollowPressModel", "spread", "()I"⟩ ∈ gtbl := tb_s 38 (by decide +kernel) rfl
theorem w_668 : Cond.code yX11_spread cX11_spread 6 (some .int) ∈ gtbl := tb_g 1175 (by decide +kernel) rfl
theorem w_669 : Cond.methodLink RX11 235 ⟨"HollowPressModel", "mass", "()I"⟩ ∈ gtbl := tb_g 1176 (by decide +kernel) rfl
theorem w_670 : Cond.instanceMethod ⟨"HollowPressModel", "mass", "()I"⟩ ∈ gtbl := tb_g 1178 (by decide +kernel) rfl
theorem w_671 : Cond.selects "HollowPressModel" ⟨"HollowPressModel", "mass", "()I"⟩ ⟨"HollowPressModel", "mass", "()I"⟩ ∈ gtbl := tb_s 39 (by decide +kernel) rfl
theorem w_672 : Cond.code yX11_mass cX11_mass 3 (some .int) ∈ gtbl := tb_g 1179 (by decide +kernel) rfl
theorem w_673 : Cond.constantLong RX11 241 (100) ∈ gtbl := tb_g 1196 (by decide +kernel) rfl
theorem w_674 : Cond.constantLong RX11 243 (5) ∈ gtbl := tb_g 1197 (by decide +kernel) rfl
theorem w_675 : Cond.constantLong RX11 165 (10000) ∈ gtbl := tb_g 1044 (by decide +kernel) rfl
theorem w_676 : Cond.methodLink RX11 187 ⟨"HollowPressModel", "asked", "(II)I"⟩ ∈ gtbl := tb_g 1086 (by decide +kernel) rfl
theorem w_677 : Cond.instanceMethod ⟨"HollowPressModel", "asked", "(II)I"⟩ ∈ gtbl := tb_g 1088 (by decide +kernel) rfl
theorem w_678 : Cond.selects "HollowPressModel" ⟨"HollowPressModel", "asked", "(II)I"⟩ ⟨"HollowPressModel", "asked", "(II)I"⟩ ∈ gtbl := tb_s 29 (by decide +kernel) rfl
theorem w_679 : Cond.code yX11_asked cX11_asked 3 (some .int) ∈ gtbl := tb_g 1089 (by decide +kernel) rfl
theorem w_680 : Cond.methodLink RX11 245 ⟨"HollowPressModel", "isAbove", "(II)Z"⟩ ∈ gtbl := tb_g 1198 (by decide +kernel) rfl
theorem w_681 : Cond.instanceMethod ⟨"HollowPressModel", "isAbove", "(II)Z"⟩ ∈ gtbl := tb_g 1200 (by decide +kernel) rfl
theorem w_682 : Cond.selects "HollowPressModel" ⟨"HollowPressModel", "isAbove", "(II)Z"⟩ ⟨"HollowPressModel", "isAbove", "(II)Z"⟩ ∈ gtbl := tb_s 41 (by decide +kernel) rfl
theorem w_683 : Cond.code yX11_isAbove cX11_isAbove 5 (some .boolean) ∈ gtbl := tb_g 1201 (by decide +kernel) rfl
theorem w_684 : Cond.fieldLink RX11 93 "HollowPressModel" "before" "[I" ∈ gtbl := tb_g 890 (by decide +kernel) rfl
theorem fk_X11_93 : Fok RX11 93 11 32 := ⟨by decide, fun t ht => by
  cases fit_1 (by decide) ht
  exact ⟨_, rfl, by decide, "HollowPressModel", w_684, Or.inl rfl⟩⟩
theorem yr_11_32 : ∀ t, fit 11 t = true → isR (t - 1) 32 = true := fun t ht => by
  cases fit_1 (by decide) ht
  rfl
theorem w_685 : Cond.fieldLink RX11 45 "HollowPressModel" "wall" "[I" ∈ gtbl := tb_g 871 (by decide +kernel) rfl
theorem fk_X11_45 : Fok RX11 45 11 13 := ⟨by decide, fun t ht => by
  cases fit_1 (by decide) ht
  exact ⟨_, rfl, by decide, "HollowPressModel", w_685, Or.inl rfl⟩⟩
theorem yr_11_13 : ∀ t, fit 11 t = true → isR (t - 1) 13 = true := fun t ht => by
  cases fit_1 (by decide) ht
  rfl
theorem w_686 : Cond.fieldLink RX11 48 "HollowPressModel" "given" "[I" ∈ gtbl := tb_g 872 (by decide +kernel) rfl
theorem fk_X11_48 : Fok RX11 48 11 14 := ⟨by decide, fun t ht => by
  cases fit_1 (by decide) ht
  exact ⟨_, rfl, by decide, "HollowPressModel", w_686, Or.inl rfl⟩⟩
theorem yr_11_14 : ∀ t, fit 11 t = true → isR (t - 1) 14 = true := fun t ht => by
  cases fit_1 (by decide) ht
  rfl
theorem w_687 : Cond.constantLong RX11 221 (50) ∈ gtbl := tb_g 1143 (by decide +kernel) rfl
theorem gk_X11_218 (nm : String) (cc : ByteArray) (n : Nat) (r : Option FieldType) (d : Nat) : Gok (RX11, nm, cc, n, r, d) 218 11 24 := ⟨by decide, fun t ht => by
  cases fit_1 (by decide) ht
  exact ⟨_, rfl, by decide, "HollowPressModel", w_638, Or.inl rfl, Or.inl rfl⟩⟩
theorem ti_11_24 : ∀ t, fit 11 t = true → tyT (t - 1) 24 = .int := fun t ht => by
  cases fit_1 (by decide) ht
  rfl
theorem w_688 : Cond.constant RX11 194 (-1000003) ∈ gtbl := tb_g 1094 (by decide +kernel) rfl
theorem w_689 : Cond.constantLong RX11 167 (4) ∈ gtbl := tb_g 1057 (by decide +kernel) rfl
theorem w_690 : Cond.fieldLink RX11 51 "HollowPressModel" "hangsAt" "[I" ∈ gtbl := tb_g 873 (by decide +kernel) rfl
theorem fk_X11_51 : Fok RX11 51 11 15 := ⟨by decide, fun t ht => by
  cases fit_1 (by decide) ht
  exact ⟨_, rfl, by decide, "HollowPressModel", w_690, Or.inl rfl⟩⟩
theorem yr_11_15 : ∀ t, fit 11 t = true → isR (t - 1) 15 = true := fun t ht => by
  cases fit_1 (by decide) ht
  rfl
theorem w_691 : Cond.constant RX11 158 (-1000002) ∈ gtbl := tb_g 1034 (by decide +kernel) rfl
theorem w_692 : Cond.constantLong RX11 132 (7) ∈ gtbl := tb_g 1001 (by decide +kernel) rfl
theorem w_693 : Cond.methodLink RX11 138 ⟨"HollowPressModel", "isSheet", "(I)Z"⟩ ∈ gtbl := tb_g 998 (by decide +kernel) rfl
theorem w_694 : Cond.static ⟨"HollowPressModel", "isSheet", "(I)Z"⟩ ∈ gtbl := tb_g 999 (by decide +kernel) rfl
theorem w_695 : Cond.code yX11_isSheet cX11_isSheet 1 (some .boolean) ∈ gtbl := tb_g 1000 (by decide +kernel) rfl
theorem w_696 : Cond.fieldLink RX11 7 "HollowPressModel" "lane" "[I" ∈ gtbl := tb_g 860 (by decide +kernel) rfl
theorem fk_X11_7 : Fok RX11 7 11 2 := ⟨by decide, fun t ht => by
  cases fit_1 (by decide) ht
  exact ⟨_, rfl, by decide, "HollowPressModel", w_696, Or.inl rfl⟩⟩
theorem yr_11_2 : ∀ t, fit 11 t = true → isR (t - 1) 2 = true := fun t ht => by
  cases fit_1 (by decide) ht
  rfl
theorem w_697 : Cond.fieldLink RX11 13 "HollowPressModel" "many" "[I" ∈ gtbl := tb_g 861 (by decide +kernel) rfl
theorem fk_X11_13 : Fok RX11 13 11 3 := ⟨by decide, fun t ht => by
  cases fit_1 (by decide) ht
  exact ⟨_, rfl, by decide, "HollowPressModel", w_697, Or.inl rfl⟩⟩
theorem yr_11_3 : ∀ t, fit 11 t = true → isR (t - 1) 3 = true := fun t ht => by
  cases fit_1 (by decide) ht
  rfl
theorem w_698 : Cond.fieldLink RX11 16 "HollowPressModel" "item" "[J" ∈ gtbl := tb_g 862 (by decide +kernel) rfl
theorem fk_X11_16 : Fok RX11 16 11 4 := ⟨by decide, fun t ht => by
  cases fit_1 (by decide) ht
  exact ⟨_, rfl, by decide, "HollowPressModel", w_698, Or.inl rfl⟩⟩
theorem yr_11_4 : ∀ t, fit 11 t = true → isR (t - 1) 4 = true := fun t ht => by
  cases fit_1 (by decide) ht
  rfl
theorem w_699 : Cond.fieldLink RX11 250 "HollowPressModel" "presses" "I" ∈ gtbl := tb_g 891 (by decide +kernel) rfl
theorem fk_X11_250 : Fok RX11 250 11 33 := ⟨by decide, fun t ht => by
  cases fit_1 (by decide) ht
  exact ⟨_, rfl, by decide, "HollowPressModel", w_699, Or.inl rfl⟩⟩
theorem nr_11_33 : ∀ t, fit 11 t = true → isR (t - 1) 33 = false := fun t ht => by
  cases fit_1 (by decide) ht
  rfl
theorem w_700 : Cond.fieldLink RX11 259 "HollowPressModel" "jobs" "I" ∈ gtbl := tb_g 893 (by decide +kernel) rfl
theorem fk_X11_259 : Fok RX11 259 11 35 := ⟨by decide, fun t ht => by
  cases fit_1 (by decide) ht
  exact ⟨_, rfl, by decide, "HollowPressModel", w_700, Or.inl rfl⟩⟩
theorem nr_11_35 : ∀ t, fit 11 t = true → isR (t - 1) 35 = false := fun t ht => by
  cases fit_1 (by decide) ht
  rfl
theorem w_701 : Cond.constantLong RX11 213 (-1000000) ∈ gtbl := tb_g 1130 (by decide +kernel) rfl
theorem w_702 : Cond.constantLong RX11 149 (-1000001) ∈ gtbl := tb_g 1016 (by decide +kernel) rfl
theorem w_703 : Cond.methodLink RX11 191 ⟨"HollowPressModel", "isCell", "(II)Z"⟩ ∈ gtbl := tb_g 1090 (by decide +kernel) rfl
theorem w_704 : Cond.instanceMethod ⟨"HollowPressModel", "isCell", "(II)Z"⟩ ∈ gtbl := tb_g 1092 (by decide +kernel) rfl
theorem w_705 : Cond.selects "HollowPressModel" ⟨"HollowPressModel", "isCell", "(II)Z"⟩ ⟨"HollowPressModel", "isCell", "(II)Z"⟩ ∈ gtbl := tb_s 30 (by decide +kernel) rfl
theorem w_706 : Cond.code yX11_isCell cX11_isCell 3 (some .boolean) ∈ gtbl := tb_g 1093 (by decide +kernel) rfl
theorem w_707 : Cond.methodLink RX11 223 ⟨"HollowPressModel", "hanging", "()I"⟩ ∈ gtbl := tb_g 1148 (by decide +kernel) rfl
theorem w_708 : Cond.instanceMethod ⟨"HollowPressModel", "hanging", "()I"⟩ ∈ gtbl := tb_g 1150 (by decide +kernel) rfl
theorem w_709 : Cond.selects "HollowPressModel" ⟨"HollowPressModel", "hanging", "()I"⟩ ⟨"HollowPressModel", "hanging", "()I"⟩ ∈ gtbl := tb_s 35 (by decide +kernel) rfl
theorem w_710 : Cond.code yX11_hanging cX11_hanging 3 (some .int) ∈ gtbl := tb_g 1151 (by decide +kernel) rfl
theorem w_711 : Cond.methodLink RX11 1 Lib.objectInit ∈ gtbl := tb_g 856 (by decide +kernel) rfl
theorem gk_X11_7i (cc : ByteArray) (n : Nat) (r : Option FieldType) (d : Nat) : Gok (RX11, "<init>", cc, n, r, d) 7 11 2 := ⟨by decide, fun t ht => by
  cases fit_1 (by decide) ht
  exact ⟨_, rfl, by decide, "HollowPressModel", w_696, Or.inl rfl, Or.inr ⟨rfl, rfl, rfl⟩⟩⟩
theorem gk_X11_13i (cc : ByteArray) (n : Nat) (r : Option FieldType) (d : Nat) : Gok (RX11, "<init>", cc, n, r, d) 13 11 3 := ⟨by decide, fun t ht => by
  cases fit_1 (by decide) ht
  exact ⟨_, rfl, by decide, "HollowPressModel", w_697, Or.inl rfl, Or.inr ⟨rfl, rfl, rfl⟩⟩⟩
theorem gk_X11_16i (cc : ByteArray) (n : Nat) (r : Option FieldType) (d : Nat) : Gok (RX11, "<init>", cc, n, r, d) 16 11 4 := ⟨by decide, fun t ht => by
  cases fit_1 (by decide) ht
  exact ⟨_, rfl, by decide, "HollowPressModel", w_698, Or.inl rfl, Or.inr ⟨rfl, rfl, rfl⟩⟩⟩
theorem gk_X11_20i (cc : ByteArray) (n : Nat) (r : Option FieldType) (d : Nat) : Gok (RX11, "<init>", cc, n, r, d) 20 11 5 := ⟨by decide, fun t ht => by
  cases fit_1 (by decide) ht
  exact ⟨_, rfl, by decide, "HollowPressModel", w_589, Or.inl rfl, Or.inr ⟨rfl, rfl, rfl⟩⟩⟩
theorem gk_X11_23i (cc : ByteArray) (n : Nat) (r : Option FieldType) (d : Nat) : Gok (RX11, "<init>", cc, n, r, d) 23 11 6 := ⟨by decide, fun t ht => by
  cases fit_1 (by decide) ht
  exact ⟨_, rfl, by decide, "HollowPressModel", w_599, Or.inl rfl, Or.inr ⟨rfl, rfl, rfl⟩⟩⟩
theorem gk_X11_26i (cc : ByteArray) (n : Nat) (r : Option FieldType) (d : Nat) : Gok (RX11, "<init>", cc, n, r, d) 26 11 7 := ⟨by decide, fun t ht => by
  cases fit_1 (by decide) ht
  exact ⟨_, rfl, by decide, "HollowPressModel", w_622, Or.inl rfl, Or.inr ⟨rfl, rfl, rfl⟩⟩⟩
theorem gk_X11_29i (cc : ByteArray) (n : Nat) (r : Option FieldType) (d : Nat) : Gok (RX11, "<init>", cc, n, r, d) 29 11 8 := ⟨by decide, fun t ht => by
  cases fit_1 (by decide) ht
  exact ⟨_, rfl, by decide, "HollowPressModel", w_597, Or.inl rfl, Or.inr ⟨rfl, rfl, rfl⟩⟩⟩
theorem gk_X11_32i (cc : ByteArray) (n : Nat) (r : Option FieldType) (d : Nat) : Gok (RX11, "<init>", cc, n, r, d) 32 11 9 := ⟨by decide, fun t ht => by
  cases fit_1 (by decide) ht
  exact ⟨_, rfl, by decide, "HollowPressModel", w_598, Or.inl rfl, Or.inr ⟨rfl, rfl, rfl⟩⟩⟩
theorem gk_X11_35i (cc : ByteArray) (n : Nat) (r : Option FieldType) (d : Nat) : Gok (RX11, "<init>", cc, n, r, d) 35 11 10 := ⟨by decide, fun t ht => by
  cases fit_1 (by decide) ht
  exact ⟨_, rfl, by decide, "HollowPressModel", w_629, Or.inl rfl, Or.inr ⟨rfl, rfl, rfl⟩⟩⟩
theorem w_712 : Cond.fieldLink RX11 38 "HollowPressModel" "isVent" "[Z" ∈ gtbl := tb_g 869 (by decide +kernel) rfl
theorem gk_X11_38i (cc : ByteArray) (n : Nat) (r : Option FieldType) (d : Nat) : Gok (RX11, "<init>", cc, n, r, d) 38 11 11 := ⟨by decide, fun t ht => by
  cases fit_1 (by decide) ht
  exact ⟨_, rfl, by decide, "HollowPressModel", w_712, Or.inl rfl, Or.inr ⟨rfl, rfl, rfl⟩⟩⟩
theorem yr_11_11 : ∀ t, fit 11 t = true → isR (t - 1) 11 = true := fun t ht => by
  cases fit_1 (by decide) ht
  rfl
theorem gk_X11_42i (cc : ByteArray) (n : Nat) (r : Option FieldType) (d : Nat) : Gok (RX11, "<init>", cc, n, r, d) 42 11 12 := ⟨by decide, fun t ht => by
  cases fit_1 (by decide) ht
  exact ⟨_, rfl, by decide, "HollowPressModel", w_604, Or.inl rfl, Or.inr ⟨rfl, rfl, rfl⟩⟩⟩
theorem gk_X11_45i (cc : ByteArray) (n : Nat) (r : Option FieldType) (d : Nat) : Gok (RX11, "<init>", cc, n, r, d) 45 11 13 := ⟨by decide, fun t ht => by
  cases fit_1 (by decide) ht
  exact ⟨_, rfl, by decide, "HollowPressModel", w_685, Or.inl rfl, Or.inr ⟨rfl, rfl, rfl⟩⟩⟩
theorem gk_X11_48i (cc : ByteArray) (n : Nat) (r : Option FieldType) (d : Nat) : Gok (RX11, "<init>", cc, n, r, d) 48 11 14 := ⟨by decide, fun t ht => by
  cases fit_1 (by decide) ht
  exact ⟨_, rfl, by decide, "HollowPressModel", w_686, Or.inl rfl, Or.inr ⟨rfl, rfl, rfl⟩⟩⟩
theorem gk_X11_51i (cc : ByteArray) (n : Nat) (r : Option FieldType) (d : Nat) : Gok (RX11, "<init>", cc, n, r, d) 51 11 15 := ⟨by decide, fun t ht => by
  cases fit_1 (by decide) ht
  exact ⟨_, rfl, by decide, "HollowPressModel", w_690, Or.inl rfl, Or.inr ⟨rfl, rfl, rfl⟩⟩⟩
theorem gk_X11_54i (cc : ByteArray) (n : Nat) (r : Option FieldType) (d : Nat) : Gok (RX11, "<init>", cc, n, r, d) 54 11 16 := ⟨by decide, fun t ht => by
  cases fit_1 (by decide) ht
  exact ⟨_, rfl, by decide, "HollowPressModel", w_588, Or.inl rfl, Or.inr ⟨rfl, rfl, rfl⟩⟩⟩
theorem gk_X11_57i (cc : ByteArray) (n : Nat) (r : Option FieldType) (d : Nat) : Gok (RX11, "<init>", cc, n, r, d) 57 11 18 := ⟨by decide, fun t ht => by
  cases fit_1 (by decide) ht
  exact ⟨_, rfl, by decide, "HollowPressModel", w_619, Or.inl rfl, Or.inr ⟨rfl, rfl, rfl⟩⟩⟩
theorem gk_X11_60i (cc : ByteArray) (n : Nat) (r : Option FieldType) (d : Nat) : Gok (RX11, "<init>", cc, n, r, d) 60 11 19 := ⟨by decide, fun t ht => by
  cases fit_1 (by decide) ht
  exact ⟨_, rfl, by decide, "HollowPressModel", w_624, Or.inl rfl, Or.inr ⟨rfl, rfl, rfl⟩⟩⟩
theorem gk_X11_63i (cc : ByteArray) (n : Nat) (r : Option FieldType) (d : Nat) : Gok (RX11, "<init>", cc, n, r, d) 63 11 20 := ⟨by decide, fun t ht => by
  cases fit_1 (by decide) ht
  exact ⟨_, rfl, by decide, "HollowPressModel", w_620, Or.inl rfl, Or.inr ⟨rfl, rfl, rfl⟩⟩⟩
theorem gk_X11_66i (cc : ByteArray) (n : Nat) (r : Option FieldType) (d : Nat) : Gok (RX11, "<init>", cc, n, r, d) 66 11 21 := ⟨by decide, fun t ht => by
  cases fit_1 (by decide) ht
  exact ⟨_, rfl, by decide, "HollowPressModel", w_625, Or.inl rfl, Or.inr ⟨rfl, rfl, rfl⟩⟩⟩
theorem gk_X11_69i (cc : ByteArray) (n : Nat) (r : Option FieldType) (d : Nat) : Gok (RX11, "<init>", cc, n, r, d) 69 11 22 := ⟨by decide, fun t ht => by
  cases fit_1 (by decide) ht
  exact ⟨_, rfl, by decide, "HollowPressModel", w_623, Or.inl rfl, Or.inr ⟨rfl, rfl, rfl⟩⟩⟩
theorem gk_X11_72i (cc : ByteArray) (n : Nat) (r : Option FieldType) (d : Nat) : Gok (RX11, "<init>", cc, n, r, d) 72 11 25 := ⟨by decide, fun t ht => by
  cases fit_1 (by decide) ht
  exact ⟨_, rfl, by decide, "HollowPressModel", w_652, Or.inl rfl, Or.inr ⟨rfl, rfl, rfl⟩⟩⟩
theorem gk_X11_75i (cc : ByteArray) (n : Nat) (r : Option FieldType) (d : Nat) : Gok (RX11, "<init>", cc, n, r, d) 75 11 26 := ⟨by decide, fun t ht => by
  cases fit_1 (by decide) ht
  exact ⟨_, rfl, by decide, "HollowPressModel", w_651, Or.inl rfl, Or.inr ⟨rfl, rfl, rfl⟩⟩⟩
theorem gk_X11_78i (cc : ByteArray) (n : Nat) (r : Option FieldType) (d : Nat) : Gok (RX11, "<init>", cc, n, r, d) 78 11 27 := ⟨by decide, fun t ht => by
  cases fit_1 (by decide) ht
  exact ⟨_, rfl, by decide, "HollowPressModel", w_649, Or.inl rfl, Or.inr ⟨rfl, rfl, rfl⟩⟩⟩
theorem gk_X11_81i (cc : ByteArray) (n : Nat) (r : Option FieldType) (d : Nat) : Gok (RX11, "<init>", cc, n, r, d) 81 11 28 := ⟨by decide, fun t ht => by
  cases fit_1 (by decide) ht
  exact ⟨_, rfl, by decide, "HollowPressModel", w_639, Or.inl rfl, Or.inr ⟨rfl, rfl, rfl⟩⟩⟩
theorem gk_X11_84i (cc : ByteArray) (n : Nat) (r : Option FieldType) (d : Nat) : Gok (RX11, "<init>", cc, n, r, d) 84 11 29 := ⟨by decide, fun t ht => by
  cases fit_1 (by decide) ht
  exact ⟨_, rfl, by decide, "HollowPressModel", w_644, Or.inl rfl, Or.inr ⟨rfl, rfl, rfl⟩⟩⟩
theorem gk_X11_87i (cc : ByteArray) (n : Nat) (r : Option FieldType) (d : Nat) : Gok (RX11, "<init>", cc, n, r, d) 87 11 30 := ⟨by decide, fun t ht => by
  cases fit_1 (by decide) ht
  exact ⟨_, rfl, by decide, "HollowPressModel", w_650, Or.inl rfl, Or.inr ⟨rfl, rfl, rfl⟩⟩⟩
theorem w_713 : Cond.fieldLink RX11 90 "HollowPressModel" "digit" "[I" ∈ gtbl := tb_g 889 (by decide +kernel) rfl
theorem gk_X11_90i (cc : ByteArray) (n : Nat) (r : Option FieldType) (d : Nat) : Gok (RX11, "<init>", cc, n, r, d) 90 11 31 := ⟨by decide, fun t ht => by
  cases fit_1 (by decide) ht
  exact ⟨_, rfl, by decide, "HollowPressModel", w_713, Or.inl rfl, Or.inr ⟨rfl, rfl, rfl⟩⟩⟩
theorem yr_11_31 : ∀ t, fit 11 t = true → isR (t - 1) 31 = true := fun t ht => by
  cases fit_1 (by decide) ht
  rfl
theorem gk_X11_93i (cc : ByteArray) (n : Nat) (r : Option FieldType) (d : Nat) : Gok (RX11, "<init>", cc, n, r, d) 93 11 32 := ⟨by decide, fun t ht => by
  cases fit_1 (by decide) ht
  exact ⟨_, rfl, by decide, "HollowPressModel", w_684, Or.inl rfl, Or.inr ⟨rfl, rfl, rfl⟩⟩⟩
theorem w_714 : Cond.fieldLink RX11 96 "HollowPressModel" "pressForce" "[I" ∈ gtbl := tb_g 892 (by decide +kernel) rfl
theorem gk_X11_96i (cc : ByteArray) (n : Nat) (r : Option FieldType) (d : Nat) : Gok (RX11, "<init>", cc, n, r, d) 96 11 34 := ⟨by decide, fun t ht => by
  cases fit_1 (by decide) ht
  exact ⟨_, rfl, by decide, "HollowPressModel", w_714, Or.inl rfl, Or.inr ⟨rfl, rfl, rfl⟩⟩⟩
theorem yr_11_34 : ∀ t, fit 11 t = true → isR (t - 1) 34 = true := fun t ht => by
  cases fit_1 (by decide) ht
  rfl
theorem w_715 : Cond.fieldLink RX11 99 "HollowPressModel" "jobForce" "[I" ∈ gtbl := tb_g 894 (by decide +kernel) rfl
theorem gk_X11_99i (cc : ByteArray) (n : Nat) (r : Option FieldType) (d : Nat) : Gok (RX11, "<init>", cc, n, r, d) 99 11 36 := ⟨by decide, fun t ht => by
  cases fit_1 (by decide) ht
  exact ⟨_, rfl, by decide, "HollowPressModel", w_715, Or.inl rfl, Or.inr ⟨rfl, rfl, rfl⟩⟩⟩
theorem yr_11_36 : ∀ t, fit 11 t = true → isR (t - 1) 36 = true := fun t ht => by
  cases fit_1 (by decide) ht
  rfl
theorem w_716 : Cond.fieldLink RX11 102 "HollowPressModel" "colour" "[I" ∈ gtbl := tb_g 895 (by decide +kernel) rfl
theorem gk_X11_102i (cc : ByteArray) (n : Nat) (r : Option FieldType) (d : Nat) : Gok (RX11, "<init>", cc, n, r, d) 102 11 37 := ⟨by decide, fun t ht => by
  cases fit_1 (by decide) ht
  exact ⟨_, rfl, by decide, "HollowPressModel", w_716, Or.inl rfl, Or.inr ⟨rfl, rfl, rfl⟩⟩⟩
theorem yr_11_37 : ∀ t, fit 11 t = true → isR (t - 1) 37 = true := fun t ht => by
  cases fit_1 (by decide) ht
  rfl
theorem w_717 : Cond.fieldLink RX11 105 "HollowPressModel" "time" "[I" ∈ gtbl := tb_g 896 (by decide +kernel) rfl
theorem gk_X11_105i (cc : ByteArray) (n : Nat) (r : Option FieldType) (d : Nat) : Gok (RX11, "<init>", cc, n, r, d) 105 11 38 := ⟨by decide, fun t ht => by
  cases fit_1 (by decide) ht
  exact ⟨_, rfl, by decide, "HollowPressModel", w_717, Or.inl rfl, Or.inr ⟨rfl, rfl, rfl⟩⟩⟩
theorem yr_11_38 : ∀ t, fit 11 t = true → isR (t - 1) 38 = true := fun t ht => by
  cases fit_1 (by decide) ht
  rfl
theorem w_718 : Cond.fieldLink RX11 108 "HollowPressModel" "line" "[I" ∈ gtbl := tb_g 898 (by decide +kernel) rfl
theorem gk_X11_108i (cc : ByteArray) (n : Nat) (r : Option FieldType) (d : Nat) : Gok (RX11, "<init>", cc, n, r, d) 108 11 40 := ⟨by decide, fun t ht => by
  cases fit_1 (by decide) ht
  exact ⟨_, rfl, by decide, "HollowPressModel", w_718, Or.inl rfl, Or.inr ⟨rfl, rfl, rfl⟩⟩⟩
theorem yr_11_40 : ∀ t, fit 11 t = true → isR (t - 1) 40 = true := fun t ht => by
  cases fit_1 (by decide) ht
  rfl
theorem w_719 : Cond.fieldLink RX11 111 "HollowPressModel" "lined" "[I" ∈ gtbl := tb_g 899 (by decide +kernel) rfl
theorem gk_X11_111i (cc : ByteArray) (n : Nat) (r : Option FieldType) (d : Nat) : Gok (RX11, "<init>", cc, n, r, d) 111 11 41 := ⟨by decide, fun t ht => by
  cases fit_1 (by decide) ht
  exact ⟨_, rfl, by decide, "HollowPressModel", w_719, Or.inl rfl, Or.inr ⟨rfl, rfl, rfl⟩⟩⟩
theorem yr_11_41 : ∀ t, fit 11 t = true → isR (t - 1) 41 = true := fun t ht => by
  cases fit_1 (by decide) ht
  rfl
theorem w_720 : Cond.fieldLink RX11 114 "HollowPressModel" "pains" "[I" ∈ gtbl := tb_g 900 (by decide +kernel) rfl
theorem gk_X11_114i (cc : ByteArray) (n : Nat) (r : Option FieldType) (d : Nat) : Gok (RX11, "<init>", cc, n, r, d) 114 11 42 := ⟨by decide, fun t ht => by
  cases fit_1 (by decide) ht
  exact ⟨_, rfl, by decide, "HollowPressModel", w_720, Or.inl rfl, Or.inr ⟨rfl, rfl, rfl⟩⟩⟩
theorem yr_11_42 : ∀ t, fit 11 t = true → isR (t - 1) 42 = true := fun t ht => by
  cases fit_1 (by decide) ht
  rfl
theorem w_721 : Cond.constant RX11 117 (49152) ∈ gtbl := tb_g 857 (by decide +kernel) rfl
theorem w_722 : Cond.fieldLink RX11 118 "HollowPressModel" "least" "[I" ∈ gtbl := tb_g 901 (by decide +kernel) rfl
theorem gk_X11_118i (cc : ByteArray) (n : Nat) (r : Option FieldType) (d : Nat) : Gok (RX11, "<init>", cc, n, r, d) 118 11 43 := ⟨by decide, fun t ht => by
  cases fit_1 (by decide) ht
  exact ⟨_, rfl, by decide, "HollowPressModel", w_722, Or.inl rfl, Or.inr ⟨rfl, rfl, rfl⟩⟩⟩
theorem yr_11_43 : ∀ t, fit 11 t = true → isR (t - 1) 43 = true := fun t ht => by
  cases fit_1 (by decide) ht
  rfl
theorem w_723 : Cond.fieldLink RX11 121 "HollowPressModel" "own" "[I" ∈ gtbl := tb_g 902 (by decide +kernel) rfl
theorem gk_X11_121i (cc : ByteArray) (n : Nat) (r : Option FieldType) (d : Nat) : Gok (RX11, "<init>", cc, n, r, d) 121 11 44 := ⟨by decide, fun t ht => by
  cases fit_1 (by decide) ht
  exact ⟨_, rfl, by decide, "HollowPressModel", w_723, Or.inl rfl, Or.inr ⟨rfl, rfl, rfl⟩⟩⟩
theorem yr_11_44 : ∀ t, fit 11 t = true → isR (t - 1) 44 = true := fun t ht => by
  cases fit_1 (by decide) ht
  rfl
theorem w_724 : Cond.constantLong RX11 248 (1000000) ∈ gtbl := tb_g 1210 (by decide +kernel) rfl
theorem w_725 : Cond.constantLong RX11 257 (1000) ∈ gtbl := tb_g 1215 (by decide +kernel) rfl
theorem fk_X11_99 : Fok RX11 99 11 36 := ⟨by decide, fun t ht => by
  cases fit_1 (by decide) ht
  exact ⟨_, rfl, by decide, "HollowPressModel", w_715, Or.inl rfl⟩⟩
theorem fk_X11_102 : Fok RX11 102 11 37 := ⟨by decide, fun t ht => by
  cases fit_1 (by decide) ht
  exact ⟨_, rfl, by decide, "HollowPressModel", w_716, Or.inl rfl⟩⟩
theorem fk_X11_105 : Fok RX11 105 11 38 := ⟨by decide, fun t ht => by
  cases fit_1 (by decide) ht
  exact ⟨_, rfl, by decide, "HollowPressModel", w_717, Or.inl rfl⟩⟩
theorem gk_X11_259 (nm : String) (cc : ByteArray) (n : Nat) (r : Option FieldType) (d : Nat) : Gok (RX11, nm, cc, n, r, d) 259 11 35 := ⟨by decide, fun t ht => by
  cases fit_1 (by decide) ht
  exact ⟨_, rfl, by decide, "HollowPressModel", w_700, Or.inl rfl, Or.inl rfl⟩⟩
theorem ti_11_35 : ∀ t, fit 11 t = true → tyT (t - 1) 35 = .int := fun t ht => by
  cases fit_1 (by decide) ht
  rfl
theorem w_726 : Cond.fieldLink RX11 253 "HollowPressModel" "isPlanned" "Z" ∈ gtbl := tb_g 897 (by decide +kernel) rfl
theorem gk_X11_253 (nm : String) (cc : ByteArray) (n : Nat) (r : Option FieldType) (d : Nat) : Gok (RX11, nm, cc, n, r, d) 253 11 39 := ⟨by decide, fun t ht => by
  cases fit_1 (by decide) ht
  exact ⟨_, rfl, by decide, "HollowPressModel", w_726, Or.inl rfl, Or.inl rfl⟩⟩
theorem tz_11_39 : ∀ t, fit 11 t = true → tyT (t - 1) 39 = .boolean := fun t ht => by
  cases fit_1 (by decide) ht
  rfl
theorem w_727 : Cond.constantLong RX11 142 (2) ∈ gtbl := tb_g 1005 (by decide +kernel) rfl
theorem w_728 : Cond.constantLong RX11 163 (20) ∈ gtbl := tb_g 1043 (by decide +kernel) rfl
theorem w_729 : Cond.methodLink RX11 159 ⟨"HollowPressModel", "hasItems", "(III)Z"⟩ ∈ gtbl := tb_g 1035 (by decide +kernel) rfl
theorem w_730 : Cond.instanceMethod ⟨"HollowPressModel", "hasItems", "(III)Z"⟩ ∈ gtbl := tb_g 1037 (by decide +kernel) rfl
theorem w_731 : Cond.selects "HollowPressModel" ⟨"HollowPressModel", "hasItems", "(III)Z"⟩ ⟨"HollowPressModel", "hasItems", "(III)Z"⟩ ∈ gtbl := tb_s 25 (by decide +kernel) rfl
theorem w_732 : Cond.code yX11_hasItems cX11_hasItems 4 (some .boolean) ∈ gtbl := tb_g 1038 (by decide +kernel) rfl
theorem fk_X11_111 : Fok RX11 111 11 41 := ⟨by decide, fun t ht => by
  cases fit_1 (by decide) ht
  exact ⟨_, rfl, by decide, "HollowPressModel", w_719, Or.inl rfl⟩⟩
theorem fk_X11_108 : Fok RX11 108 11 40 := ⟨by decide, fun t ht => by
  cases fit_1 (by decide) ht
  exact ⟨_, rfl, by decide, "HollowPressModel", w_718, Or.inl rfl⟩⟩
theorem fk_X11_253 : Fok RX11 253 11 39 := ⟨by decide, fun t ht => by
  cases fit_1 (by decide) ht
  exact ⟨_, rfl, by decide, "HollowPressModel", w_726, Or.inl rfl⟩⟩
theorem nr_11_39 : ∀ t, fit 11 t = true → isR (t - 1) 39 = false := fun t ht => by
  cases fit_1 (by decide) ht
  rfl
theorem fk_X11_114 : Fok RX11 114 11 42 := ⟨by decide, fun t ht => by
  cases fit_1 (by decide) ht
  exact ⟨_, rfl, by decide, "HollowPressModel", w_720, Or.inl rfl⟩⟩
theorem w_733 : Cond.methodLink RX11 265 ⟨"HollowPressModel", "times", "(I)I"⟩ ∈ gtbl := tb_g 1220 (by decide +kernel) rfl
theorem w_734 : Cond.instanceMethod ⟨"HollowPressModel", "times", "(I)I"⟩ ∈ gtbl := tb_g 1222 (by decide +kernel) rfl
theorem w_735 : Cond.selects "HollowPressModel" ⟨"HollowPressModel", "times", "(I)I"⟩ ⟨"HollowPressModel", "times", "(I)I"⟩ ∈ gtbl := tb_s 42 (by decide +kernel) rfl
theorem w_736 : Cond.code yX11_times cX11_times 4 (some .int) ∈ gtbl := tb_g 1223 (by decide +kernel) rfl
theorem w_737 : Cond.constantLong RX11 156 (12) ∈ gtbl := tb_g 1033 (by decide +kernel) rfl
theorem fk_X11_38 : Fok RX11 38 11 11 := ⟨by decide, fun t ht => by
  cases fit_1 (by decide) ht
  exact ⟨_, rfl, by decide, "HollowPressModel", w_712, Or.inl rfl⟩⟩
theorem fk_X11_121 : Fok RX11 121 11 44 := ⟨by decide, fun t ht => by
  cases fit_1 (by decide) ht
  exact ⟨_, rfl, by decide, "HollowPressModel", w_723, Or.inl rfl⟩⟩
theorem w_738 : Cond.methodLink RX11 262 ⟨"HollowPressModel", "pain", "(II)I"⟩ ∈ gtbl := tb_g 1228 (by decide +kernel) rfl
theorem w_739 : Cond.instanceMethod ⟨"HollowPressModel", "pain", "(II)I"⟩ ∈ gtbl := tb_g 1230 (by decide +kernel) rfl
theorem w_740 : Cond.selects "HollowPressModel" ⟨"HollowPressModel", "pain", "(II)I"⟩ ⟨"HollowPressModel", "pain", "(II)I"⟩ ∈ gtbl := tb_s 44 (by decide +kernel) rfl
theorem w_741 : Cond.code yX11_pain cX11_pain 4 (some .int) ∈ gtbl := tb_g 1231 (by decide +kernel) rfl
theorem fk_X11_118 : Fok RX11 118 11 43 := ⟨by decide, fun t ht => by
  cases fit_1 (by decide) ht
  exact ⟨_, rfl, by decide, "HollowPressModel", w_722, Or.inl rfl⟩⟩
theorem fk_X11_96 : Fok RX11 96 11 34 := ⟨by decide, fun t ht => by
  cases fit_1 (by decide) ht
  exact ⟨_, rfl, by decide, "HollowPressModel", w_714, Or.inl rfl⟩⟩
theorem w_742 : Cond.methodLink RX11 268 ⟨"HollowPressModel", "putInOrder", "(I)V"⟩ ∈ gtbl := tb_g 1224 (by decide +kernel) rfl
theorem w_743 : Cond.instanceMethod ⟨"HollowPressModel", "putInOrder", "(I)V"⟩ ∈ gtbl := tb_g 1226 (by decide +kernel) rfl
theorem w_744 : Cond.selects "HollowPressModel" ⟨"HollowPressModel", "putInOrder", "(I)V"⟩ ⟨"HollowPressModel", "putInOrder", "(I)V"⟩ ∈ gtbl := tb_s 43 (by decide +kernel) rfl
theorem w_745 : Cond.code yX11_putInOrder cX11_putInOrder 10 none ∈ gtbl := tb_g 1227 (by decide +kernel) rfl
theorem gk_X11_250 (nm : String) (cc : ByteArray) (n : Nat) (r : Option FieldType) (d : Nat) : Gok (RX11, nm, cc, n, r, d) 250 11 33 := ⟨by decide, fun t ht => by
  cases fit_1 (by decide) ht
  exact ⟨_, rfl, by decide, "HollowPressModel", w_699, Or.inl rfl, Or.inl rfl⟩⟩
theorem ti_11_33 : ∀ t, fit 11 t = true → tyT (t - 1) 33 = .int := fun t ht => by
  cases fit_1 (by decide) ht
  rfl
theorem fk_X11_128 : Fok RX11 128 11 1 := ⟨by decide, fun t ht => by
  cases fit_1 (by decide) ht
  exact ⟨_, rfl, by decide, "HollowPressModel", w_580, Or.inl rfl⟩⟩
theorem nr_11_1 : ∀ t, fit 11 t = true → isR (t - 1) 1 = false := fun t ht => by
  cases fit_1 (by decide) ht
  rfl
