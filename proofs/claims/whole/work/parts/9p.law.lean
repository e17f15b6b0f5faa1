/-! (C) the law's entry: the two objects are made; the claim -/
section Le
variable {b L n0 : Nat} {xs : Nat → Int32} {pc pc' : Nat} {lv : List (Nat × TV)} {st : List TV} {C R : St} {z y : Nat}
theorem EvL.swap (h : EvL b L xs n0 pc lv st C R z y) : EvL b L xs n0 pc lv st R C z y := by
  intro D cy p l e s m below meth c H locs ls Cx hn0 hX hb hz h6 h7 hC hR hap hS hl
  exact h D cy p l e s m below meth c H locs ls Cx hn0 hX hb hz h6 h7 hR hC (fun a => (hap a).symm) hS hl
/-- a new object in the class's memory -/
theorem el_newC {t idx : Nat} {q : vw_C} (hq : vwCl[t - 1]? = some q) (ht : 1 ≤ t ∧ t ≤ 11) (hcl : Cond.classLink "HollowPressLaw" idx q.1 ∈ gtbl) (hin : Cond.instantiable q.1 q.2.2 ∈ gtbl) (hini : Cond.initialized q.1 ∈ gtbl) (hd : decode code pc = .ok (.new idx, 3)) (hp : pc + 3 = pc') (hbd : z + 1 - n0 ≤ 600000 ∧ y + nF (t - 1) ≤ 7000000) (k : EvL b L xs n0 pc' lv (qv (some z) :: st) (nw (sy C z y) t 0 (nF (t - 1))) R (z + 1) (y + nF (t - 1))) : EvL b L xs n0 pc lv st C R z y := by
  subst hp
  intro D cy p l e s m below meth c H locs ls Cx hn0 hX hb hz h6 h7 hC hR hap hS hl
  subst hn0
  have hts := Cx.2.2.2.2.2.2.2.1
  have hKn := Cx.2.2.2.2.2.2.2.2.1.1.1 (t - 1) q hq
  have hN := nF_ok _ q hq
  have hsl : y + nF (t - 1) ≤ room_1.slots := Nat.le_trans hbd.2 slots_ok
  have hHz : H.size = z := hC.1
  refine W.newcK Cx.1 Cx.2.1 Cx.2.2.2.2.2.2.1 (hts _ hcl) (hts _ hin) (hts _ hini) rfl hd (by show z - s.heap.size + 1 ≤ 600000; omega) (by rw [hN]; exact hsl) hKn.2.1 hC.1 fun H1 kC hkC e1 z1 o1 => ?_
  have e2 : z - s.heap.size + 1 = z + 1 - s.heap.size := by omega
  rw [e2, hN]
  have hTz : sT R z = 0 := by
    by_cases g : sT R z = 0
    · exact g
    · have := (hR.2 z g).2.lt
      have h9 : z < H.size := this
      omega
  have z1' : H1.size = z + 1 := z1
  have o1' : ∀ q9, q9 < H.size → H1[q9]? = H[q9]? := fun q9 hq9 => o1 q9 (by rw [← hHz]; exact hq9)
  refine k D cy p l e s m below meth c H1 locs ls Cx rfl hX hb (by omega) hbd.1 hsl ?_ ?_ ?_ (hS.grow (by rw [z1', hHz]; omega) o1') hl
  · refine Wd.new1 hC ?_ (by rw [z1', hHz]) o1' ?_
    · exact hz
    · have hT := nw_T (sy C z y) t 0 (nF (t - 1))
      rw [cell_O (by rw [hT]; exact ht.2), hT, nw_I, nw_F]
      refine ⟨q, hq, (u_born (tyT (t - 1)) hts (cls_in _ q hq) hKn hkC e1 (ty_ok _ q hq)).to (fun j hj => ?_)⟩
      rw [hN] at hj
      rw [dflt_V (by omega) hj, vpV_flds hj]
  · refine keep_Wd (S := sy R z y) hR z1' (fun a ha => ?_) rfl rfl rfl rfl rfl
    exact o1' a (hR.2 a ha).2.lt
  · intro a
    by_cases ha : a = z
    · subst ha; exact Or.inr hTz
    · have : sT (nw (sy C z y) t 0 (nF (t - 1))) a = sT C a := va_up_ne _ _ ha
      rw [this]
      exact hap a
end Le
theorem wl_n1 : Cond.classLink "HollowPressLaw" 7 "HollowPress" ∈ gtbl := tb_g 16 (by decide +kernel) rfl
theorem wl_n2 : Cond.instantiable "HollowPress" 7 ∈ gtbl := tb_g 17 (by decide +kernel) rfl
theorem wl_n3 : Cond.methodLink "HollowPressLaw" 9 ⟨"HollowPress", "<init>", "()V"⟩ ∈ gtbl := tb_g 18 (by decide +kernel) rfl
theorem wl_n4 : Cond.instanceMethod ⟨"HollowPress", "<init>", "()V"⟩ ∈ gtbl := tb_g 19 (by decide +kernel) rfl
theorem wl_n5 : Cond.code yX10_init cX10_init 1 none ∈ gtbl := tb_g 20 (by decide +kernel) rfl
theorem wl_n6 : Cond.classLink "HollowPressLaw" 10 "HollowPressModel" ∈ gtbl := tb_g 851 (by decide +kernel) rfl
theorem wl_n7 : Cond.instantiable "HollowPressModel" 45 ∈ gtbl := tb_g 852 (by decide +kernel) rfl
theorem wl_n8 : Cond.methodLink "HollowPressLaw" 12 ⟨"HollowPressModel", "<init>", "()V"⟩ ∈ gtbl := tb_g 853 (by decide +kernel) rfl
theorem wl_n9 : Cond.instanceMethod ⟨"HollowPressModel", "<init>", "()V"⟩ ∈ gtbl := tb_g 854 (by decide +kernel) rfl
theorem wl_n10 : Cond.code yX11_init cX11_init 1 none ∈ gtbl := tb_g 855 (by decide +kernel) rfl
theorem iv_L_i9 (a : Nat) : Inv "HollowPressLaw" 3 (.invokespecial 9) [qv (some a)] vU (pX10_init a) := inv_I (As := []) (kX10_init a) wl_n3 wl_n4 wl_4 wl_n5 rfl ⟨by decide +kernel, by decide +kernel, by show _ = some 0; decide +kernel⟩ (by decide)
theorem iv_L_i12 (a : Nat) : Inv "HollowPressLaw" 2 (.invokespecial 12) [qv (some a)] vU (pX11_init a) := inv_I (As := []) (kX11_init a) wl_n8 wl_n9 wl_9 wl_n10 rfl ⟨by decide +kernel, by decide +kernel, by show _ = some 0; decide +kernel⟩ (by decide)
/-- an empty memory -/
abbrev M0 (X y : Nat) : St := Mk X [] (fun _ _ => 0) (fun _ _ => none) y
theorem M0_T (X y a : Nat) : sT (M0 X y) a = 0 := by
  show (if a < X then 0 else (((([] : List (Nat × Nat))[a - X]?).map Prod.fst).getD 0)) = 0
  split
  · rfl
  · simp
theorem CQ.ck {X : Nat} {C : St} (h : CQ X C) : CK X C := by
  obtain ⟨F, y, rfl, -, -, -, hF, -⟩ := h
  refine ⟨fun k q hq => ?_, fun k q hq => ?_, fun a h1 h2 => ?_⟩
  · rw [Mk_T, Mk_N, hq]; exact ⟨rfl, rfl⟩
  · rw [Mk_F]
    show (F q.1 q.2.1).map (X + ·) = _
    rw [hF q (List.mem_of_getElem? hq)]; rfl
  · by_cases e : sT (Mk X ckT (fun _ _ => 0) F y) a = 0
    · exact e
    · have := (Mk_out e).2
      have hl : ckT.length = 34 := by decide
      omega
theorem RQ.rk {X : Nat} {R : St} (h : RQ (X + 34) R) : RK X R := by
  obtain ⟨I, F, y, rfl, -, -, -, -, hF, -⟩ := h
  refine ⟨fun k q hq => ?_, fun k q hq => ?_, fun a ha => ?_⟩
  · rw [Mk_T, Mk_N, hq]; exact ⟨rfl, rfl⟩
  · rw [show X + 34 = X + 34 + 0 from rfl, Mk_F]
    show (F 0 q.1).map (X + 34 + ·) = _
    rw [hF q (List.mem_of_getElem? hq)]; rfl
  · have := Mk_out ha
    have hl : rkT.length = 38 := by decide
    omega
theorem CQ.tags {X : Nat} {C : St} (h : CQ X C) (a : Nat) : ¬ isP (sT C a) ∧ sT C a ≠ 3 := by
  have hc := h.ck
  obtain ⟨F, y, rfl, -, -, -, hF, -⟩ := h
  by_cases e : sT (Mk X ckT (fun _ _ => 0) F y) a = 0
  · rw [e]; unfold isP; omega
  · have g := Mk_out e
    have hl : ckT.length = 34 := by decide
    have t := hc.tag (k := a - X) (by omega)
    rw [show X + (a - X) = a by omega] at t
    exact ⟨t.2.2.2.2.1, t.2.2.2.1⟩
theorem rel0 {X : Nat} {C R : St} (hC : CQ X C) (hR : RQ (X + 34) R) : Rel X C R := by
  have ck := hC.ck
  have rk := hR.rk
  have tg := hC.tags
  obtain ⟨F, y, rfl, hF1, hF2, hF5, -, -⟩ := hC
  obtain ⟨I, G, y2, rfl, i1, i4, i14, i0, -, -⟩ := hR
  have cI : ∀ k j, sI (Mk X ckT (fun _ _ => 0) F y) (X + k) j = 0 := fun k j => by rw [Mk_I]
  have rI : ∀ k j, sI (Mk (X + 34) rkT I G y2) (X + 34 + k) j = I k j := fun k j => by rw [Mk_I]
  have c0 : ∀ j, sI (Mk X ckT (fun _ _ => 0) F y) X j = 0 := cI 0
  have r0 : ∀ j, j < 45 → sI (Mk (X + 34) rkT I G y2) (X + 34) j = 0 := fun j hj => (rI 0 j).trans (i0 j hj)
  have f1 : ∀ s, sF (Mk X ckT (fun _ _ => 0) F y) (X + 1) s = none := fun s => by rw [Mk_F, hF1]; rfl
  have f2 : ∀ s, sF (Mk X ckT (fun _ _ => 0) F y) (X + 2) s = none := fun s => by rw [Mk_F, hF2]; rfl
  have f5 : sF (Mk X ckT (fun _ _ => 0) F y) (X + 5) 8 = none := by rw [Mk_F]; show (F 5 8).map _ = none; rw [hF5]; rfl
  have z0 : nI 0 = 0 := rfl
  refine ⟨(c0 6).trans (r0 1 (by decide)).symm, ck, rk, ?_, ?_, ?_, ?_, ?_, ?_, ?_⟩
  · refine ⟨fun s hs => Or.inl ⟨f1 s, (rI 1 s).trans (i1 s hs)⟩, fun s t a _ _ h _ => ?_⟩
    rw [f1] at h; cases h
  · exact ⟨fun a ha => absurd ha (tg a).1, fun a ha => absurd ha (tg a).2⟩
  · refine ⟨fun p hp => Or.inl ⟨f2 p, (rI 4 p).trans (i4 p hp)⟩, fun p q a _ _ h _ => ?_⟩
    rw [f2] at h; cases h
  · exact ⟨0, by decide, cI 3 1, r0 17 (by decide), fun i hi => absurd hi (Nat.not_lt_zero _)⟩
  · intro a ha
    rw [f5] at ha; cases ha
  · exact ⟨0, by decide, cI 12 4, r0 24 (by decide), fun b hb => absurd hb (Nat.not_lt_zero _), fun b hb => absurd hb (Nat.not_lt_zero _), fun b hb => absurd hb (Nat.not_lt_zero _), fun b hb => absurd hb (Nat.not_lt_zero _), fun p hp => Or.inl ((rI 14 p).trans (i14 p hp))⟩
  · exact ⟨0, 0, by decide, by decide, cI 20 7, r0 33 (by decide), cI 20 8, r0 35 (by decide), fun p hp => absurd hp (Nat.not_lt_zero _), fun p hp => absurd hp (Nat.not_lt_zero _), fun p hp => absurd hp (Nat.not_lt_zero _), fun p hp => absurd hp (Nat.not_lt_zero _), Or.inl ⟨r0 39 (by decide), fun p hp => ⟨cI 32 p, cI 33 p⟩⟩⟩
set_option maxRecDepth 20000 in
theorem lw_entry {b L X : Nat} {xs : Nat → Int32} (hL : L ≤ 3072) : EvL b L xs X 0 [(0, qv (some b))] [] (M0 X 0) (M0 (X + 34) 0) X 0 := by
  refine el_newC (t := 10) (pc' := 3) rfl (by decide) wl_n1 wl_n2 wl_4 dL_law_0 rfl ⟨by omega, by decide⟩ ?_
  have e1 : nw (sy (M0 X 0) X 0) 10 0 (nF (10 - 1)) = Mk X [(10, 0)] (fun _ _ => 0) (fun _ _ => none) 7 := nw_Mk (X := X) (l := []) (I := fun _ _ => 0) (F := fun _ _ => none) (y := 0) (k := 0) (t := 10) (n := 0) (m := 7) rfl rfl rfl
  rw [e1]
  refine el_dup (pc' := 4) dL_law_3 rfl rfl ?_
  obtain ⟨C1, hC1, qC⟩ := init_C X
  have xC : sX C1 = X + 34 ∧ sS C1 ≤ 5000 := by
    obtain ⟨F, y, rfl, -, -, -, -, hy⟩ := qC
    exact ⟨rfl, hy⟩
  refine el_callC (pc' := 7) (sa := [qv (some X)]) (st := [qv (some X)]) (pu := []) (x := ()) (C1 := C1) rfl (iv_L_i9 X) hC1 (by decide) dL_law_4 rfl (Nat.le_of_ble_eq_true rfl) ⟨by omega, by omega⟩ (fun a => Or.inr (M0_T _ _ _)) ?_
  rw [xC.1]
  refine el_astore_n (pc' := 8) [(1, qv (some X)), (0, qv (some b))] dL_law_7 rfl (by decide) rfl rfl ?_
  refine EvL.swap (el_newC (t := 11) (pc' := 11) rfl (by decide) wl_n6 wl_n7 wl_9 dL_law_8 rfl ⟨by omega, by show _ + 45 ≤ _; omega⟩ (EvL.swap ?_))
  have e2 : nw (sy (M0 (X + 34) 0) (X + 34) (sS C1)) 11 0 (nF (11 - 1)) = Mk (X + 34) [(11, 0)] (fun _ _ => 0) (fun _ _ => none) (sS C1 + 45) := nw_Mk (X := X + 34) (l := []) (I := fun _ _ => 0) (F := fun _ _ => none) (y := sS C1) (k := 0) (t := 11) (n := 0) (m := 45) rfl rfl rfl
  rw [e2]
  refine el_dup (pc' := 12) dL_law_11 rfl rfl ?_
  obtain ⟨R1, hR1, qR⟩ := init_R (X + 34) (sS C1 + 45) (by omega)
  have xR : sX R1 = X + 34 + 38 ∧ sS R1 ≤ 65000 := by
    obtain ⟨I, F, y, rfl, -, -, -, -, -, hy⟩ := qR
    exact ⟨rfl, hy⟩
  have hrel := rel0 qC qR
  refine el_callR (pc' := 15) (sa := [qv (some (X + 34))]) (st := [qv (some (X + 34))]) (pu := []) (x := ()) (R1 := R1) rfl (iv_L_i12 (X + 34)) hR1 (by decide) dL_law_12 rfl (Nat.le_of_ble_eq_true rfl) ⟨by omega, by omega⟩ hrel.ap ?_
  refine el_astore_n (pc' := 16) [(2, qv (some (X + 34))), (1, qv (some X)), (0, qv (some b))] dL_law_15 rfl (by decide) rfl rfl ?_
  refine el_iconst (pc' := 17) (0 : Int32) dL_law_16 (by decide) rfl ?_
  refine el_istore_n (pc' := 18) [(3, iv (nI 0)), (2, qv (some (X + 34))), (1, qv (some X)), (0, qv (some b))] dL_law_17 rfl (by decide) rfl rfl ?_
  refine el_sub [0, 3, 2, 1] rfl ?_
  exact lw_loop hL 512 0 C1 R1 _ _ (by omega) (by omega) hrel (by omega) (by omega)
