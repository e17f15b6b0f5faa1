/-! rows of Sim: new rows, classes asked for, returns, calls -/
section R8
variable {β : Type} {E : Env0} {rv : β → Option Value} {pc pc' : Nat} {lv : List (Nat × TV)} {st st' : List TV} {P P' : Prg β}
theorem cy_eq {D : va_G} {cy : Nat → ClassId} {s : State} (hK : KN D cy s) {cA : ClassId} {k r : Nat} {ty : FieldType} (ht : (tysF cy)[k]? = some (cy r, ty)) (hp : refKind ty = false) (h : s.vm.findClass ("[" ++ ty.toString) = some cA) : cA = cy r := by
  have h2 := (hK.1.2 k _ ht).2
  cases ty <;> first | exact Option.some.inj (h.symm.trans h2) | cases hp
theorem sm_newarr {t : Nat} {n : Int32} {K : Nat → Prg β} {atype : ArrayType} (hty : (t = 20 ∧ newarray.typeOf atype = .int) ∨ (t = 21 ∧ newarray.typeOf atype = .boolean) ∨ (t = 22 ∧ newarray.typeOf atype = .long)) (harr : Cond.arrayClass (newarray.typeOf atype) ∈ gtbl) (hd : decode E.2.2.1 pc = .ok (.newarray atype, 2)) (hp : pc + 2 = pc') (kk : ∀ a, Sim E rv pc' lv (qv (some a) :: st) (K a)) : Sim E rv pc lv (iv n :: st) (nA t n K) := by
  subst hp
  intro S x S' h0
  unfold nA at h0
  by_cases ht : inB n 67108864 = true ∧ 20 ≤ t ∧ t ≤ 25
  · rw [if_pos ht] at h0
    have h2 := kk _ _ x S' h0
    generalize hN : n.toNatClampNeg = N at h0 h2
    have g1 : sX (nw S t N N) = sX S + 1 := rfl
    have g2 : sS (nw S t N N) = sS S + N := rfl
    have h3 := h2.1
    rw [g1, g2] at h3
    refine ⟨⟨by omega, by omega⟩, ?_⟩
    intro D cy p l e s m args below meth c0 R A n0 k0 H locs ls C a1 a2 a3 a4 a5 hW hS hl
    have hts := C.2.2.2.2.2.2.2.1
    have hKN := C.2.2.2.2.2.2.2.2.1
    have hin := inB_in ht.1
    have hlt : N < 67108864 := by rw [← hN]; exact Nat.not_le.mp fun q => hin (Or.inr q)
    have hb8 : N * componentBytes (newarray.typeOf atype) ≤ 536870912 := by
      rcases hty with ⟨-, e⟩ | ⟨-, e⟩ | ⟨-, e⟩ <;> rw [e] <;> simp only [componentBytes] <;> omega
    refine va_newaK C.1 C.2.1 (hts _ harr) rfl hd rfl (fun q => hin (Or.inl q)) hN hb8 (by omega) (by omega) hW.1 fun H1 cA e1 z1 o1 hAr hNm => ?_
    have e2 : sX S - n0 + 1 = sX (nw S t N N) - n0 := by rw [g1]; omega
    have e3 : sS S - k0 + N = sS (nw S t N N) - k0 := by rw [g2]; omega
    rw [e2, e3]
    refine h2.2 D cy p l e s m args below meth c0 R A n0 k0 H1 locs ls C (by rw [g1]; omega) (by rw [g2]; omega) a3 a4 a5 (hW.new1 (a5 _ (by rw [← hW.1]; exact hS.1)) (by rw [z1, hW.1]) (fun z hz => o1 z (by rw [← hW.1]; exact hz)) ?_) (hS.grow (by rw [z1, hW.1]; omega) (fun z hz => o1 z (by rw [← hW.1]; exact hz))) hl
    have hT := nw_T S t N N
    rcases hty with ⟨et, e⟩ | ⟨et, e⟩ | ⟨et, e⟩
    · rw [e] at e1 hNm
      subst et
      rw [cell_I hT, nw_N, nw_I]
      show H1[sX S]? = some (vp_cell _ _)
      rw [e1, vp_cell_i, cy_eq hKN (k := 0) rfl rfl hNm]
      rfl
    · rw [e] at e1 hNm
      subst et
      rw [cell_Z hT, nw_N, nw_I]
      show H1[sX S]? = some (vp_cell _ _)
      rw [e1, vp_cell_i, cy_eq hKN (k := 1) rfl rfl hNm]
      rfl
    · rw [e] at e1 hNm
      subst et
      rw [cell_J hT, nw_N, nw_J]
      show H1[sX S]? = some (vp_cell _ _)
      rw [e1, vp_cell_l, cy_eq hKN (k := 2) rfl rfl hNm]
      rfl
  · rw [if_neg ht] at h0
    cases h0
theorem sm_anew {t idx : Nat} {n : Int32} {K : Nat → Prg β} {Cn : String} (hty : (t = 23 ∧ Cn = "HollowPress$Sheet") ∨ (t = 24 ∧ Cn = "HollowPress$Thing") ∨ (t = 25 ∧ Cn = "HollowPress$Part")) (hcl : Cond.classLink E.1 idx Cn ∈ gtbl) (hov : Cond.arrayOver (.object Cn) ∈ nws) (hd : decode E.2.2.1 pc = .ok (.anewarray idx, 3)) (hp : pc + 3 = pc') (kk : ∀ a, Sim E rv pc' lv (qv (some a) :: st) (K a)) : Sim E rv pc lv (iv n :: st) (nA t n K) := by
  subst hp
  intro S x S' h0
  unfold nA at h0
  by_cases ht : inB n 67108864 = true ∧ 20 ≤ t ∧ t ≤ 25
  · rw [if_pos ht] at h0
    have h2 := kk _ _ x S' h0
    have g1 : sX (nw S t n.toNatClampNeg n.toNatClampNeg) = sX S + 1 := rfl
    have g2 : sS (nw S t n.toNatClampNeg n.toNatClampNeg) = sS S + n.toNatClampNeg := rfl
    have h3 := h2.1
    rw [g1, g2] at h3
    refine ⟨⟨by omega, by omega⟩, ?_⟩
    intro D cy p l e s m args below meth c0 R A n0 k0 H locs ls C a1 a2 a3 a4 a5 hW hS hl
    have hts := C.2.2.2.2.2.2.2.1
    have hKN := C.2.2.2.2.2.2.2.2.1
    have hin := inB_in ht.1
    have hlt : n.toNatClampNeg < 67108864 := Nat.not_le.mp fun q => hin (Or.inr q)
    refine W.anew C.1 C.2.1 C.2.2.2.2.2.2.1 (hts _ hcl) (va_AO.use (hKN.2.1 _ hov)) rfl hd rfl (fun q => hin (Or.inl q)) (by omega) (by omega) (by omega) fun cA kA comp f1 f2 f3 f4 => ?_
    have e2 : sX S - n0 + 1 = sX (nw S t n.toNatClampNeg n.toNatClampNeg) - n0 := by rw [g1]; omega
    have e3 : sS S - k0 + n.toNatClampNeg = sS (nw S t n.toNatClampNeg n.toNatClampNeg) - k0 := by rw [g2]; omega
    rw [e2, e3, hW.1]
    generalize hH1 : H.push ({ cls := cA, slots := Array.replicate n.toNatClampNeg .null, vm := .none } : Cell) = H1
    have z1 : H1.size = H.size + 1 := by rw [← hH1, Array.size_push]
    have q1 : H1[H.size]? = some (arrV cA n.toNatClampNeg (fun _ => .null)) := by rw [← hH1, Array.getElem?_push_size, ← arrV_new]
    have o1 : ∀ q : Nat, q < H.size → H1[q]? = H[q]? := fun q hq => by rw [← hH1, Array.getElem?_push, if_neg (Nat.ne_of_lt hq)]
    refine h2.2 D cy p l e s m args below meth c0 R A n0 k0 H1 locs ls C (by rw [g1]; omega) (by rw [g2]; omega) a3 a4 a5 (hW.new1 (a5 _ (by rw [← hW.1]; exact hS.1)) z1 o1 ?_) (hS.grow (by rw [z1]; omega) o1) hl
    have hT := nw_T S t n.toNatClampNeg n.toNatClampNeg
    have hc : cA = cy t := by
      rcases hty with ⟨et, e⟩ | ⟨et, e⟩ | ⟨et, e⟩ <;> subst et <;> subst e
      · obtain ⟨_, _, -, -, -, k4⟩ := (hKN.1.2 3 _ rfl).2
        exact Option.some.inj (f1.symm.trans k4)
      · obtain ⟨_, _, -, -, -, k4⟩ := (hKN.1.2 4 _ rfl).2
        exact Option.some.inj (f1.symm.trans k4)
      · obtain ⟨_, _, -, -, -, k4⟩ := (hKN.1.2 5 _ rfl).2
        exact Option.some.inj (f1.symm.trans k4)
    rw [cell_Q (by rw [hT]; rcases hty with ⟨et, -⟩ | ⟨et, -⟩ | ⟨et, -⟩ <;> omega), hT, nw_N, nw_F, ← hc]
    show H1[sX S]? = some (vp_cell _ _)
    rw [← hW.1, q1, vp_cell_q]
    rfl
  · rw [if_neg ht] at h0
    cases h0
-- classes asked for
theorem sm_inst {c idx : Nat} {r : Option Nat} {K : Int32 → Prg β} {Cn : String} (hc : (c = 4 ∧ Cn = "HollowPress$Part") ∨ (c = 3 ∧ Cn = "HollowPress$Layers")) (hcl : Cond.classLink E.1 idx Cn ∈ gtbl) (hd : decode E.2.2.1 pc = .ok (.instanceof idx, 3)) (hp : pc + 3 = pc') (kk : ∀ v, Sim E rv pc' lv (iv v :: st) (K v)) : Sim E rv pc lv (qv r :: st) (iO c r K) := by
  subst hp
  intro S x S' h0
  unfold iO at h0
  cases r with
  | none =>
    have h2 := kk 0 S x S' h0
    refine ⟨h2.1, ?_⟩
    intro D cy p l e s m args below meth c0 R A n0 k0 H locs ls C a1 a2 a3 a4 a5 hW hS hl
    exact lv_instN C.1 C.2.1 hd (h2.2 D cy p l e s m args below meth c0 R A n0 k0 H locs ls C a1 a2 a3 a4 a5 hW hS hl)
  | some a =>
    have h0 : (if fit 12 (sT S a) = true ∧ (c = 3 ∨ c = 4) then (if fit c (sT S a) = true then K 1 S else K 0 S) else none) = some (x, S') := h0
    by_cases hf : fit 12 (sT S a) = true ∧ (c = 3 ∨ c = 4)
    · rw [if_pos hf] at h0
      have h12 := hf.1
      have ht : sT S a = 1 ∨ sT S a = 3 ∨ sT S a = 4 ∨ sT S a = 5 := by
        unfold fit at h12
        simp at h12
        omega
      have yes : ∀ (q : vw_C), vwCl[sT S a - 1]? = some q → (q.1 = Cn ∨ Cond.castable q.1 Cn ∈ nws) → K 1 S = some (x, S') → (sX S ≤ sX S' ∧ sS S ≤ sS S') ∧ Ev E pc lv (qv (some a) :: st) S (rv x) S' := by
        intro q hq hn hk
        have h2 := kk 1 S x S' hk
        refine ⟨h2.1, ?_⟩
        intro D cy p l e s m args below meth c0 R A n0 k0 H locs ls C a1 a2 a3 a4 a5 hW hS hl
        have hKN := C.2.2.2.2.2.2.2.2.1
        have hr := hW.recv hKN (by omega) (by omega) hq
        have k9 := h2.2 D cy p l e s m args below meth c0 R A n0 k0 H locs ls C a1 a2 a3 a4 a5 hW hS hl
        rcases hn with e9 | e9
        · rw [e9] at hr
          have hat := (hKN.1.1 _ q hq).2
          rw [e9] at hat
          exact va_instS C.1 C.2.1 C.2.2.2.2.2.2.1 (C.2.2.2.2.2.2.2.1 _ hcl) hat hr hd k9
        · exact va_instY C.1 C.2.1 C.2.2.2.2.2.2.1 (C.2.2.2.2.2.2.2.1 _ hcl) (hKN.2.1 _ e9) hr hd k9
      have no : ∀ (q : vw_C), vwCl[sT S a - 1]? = some q → (∀ (D : va_G) (cy : Nat → ClassId) (U : State), KN D cy U → va_Nc q.1 Cn U) → K 0 S = some (x, S') → (sX S ≤ sX S' ∧ sS S ≤ sS S') ∧ Ev E pc lv (qv (some a) :: st) S (rv x) S' := by
        intro q hq hn hk
        have h2 := kk 0 S x S' hk
        refine ⟨h2.1, ?_⟩
        intro D cy p l e s m args below meth c0 R A n0 k0 H locs ls C a1 a2 a3 a4 a5 hW hS hl
        have hKN := C.2.2.2.2.2.2.2.2.1
        exact va_instNo C.1 C.2.1 C.2.2.2.2.2.2.1 (C.2.2.2.2.2.2.2.1 _ hcl) (hn D cy s hKN) (hW.recv hKN (by omega) (by omega) hq) hd (h2.2 D cy p l e s m args below meth c0 R A n0 k0 H locs ls C a1 a2 a3 a4 a5 hW hS hl)
      rcases hc with ⟨rfl, rfl⟩ | ⟨rfl, rfl⟩
      · rcases ht with h | h | h | h
        · rw [h] at yes h0
          exact yes _ rfl (Or.inr (by decide +kernel)) h0
        · rw [h] at no h0
          exact no _ rfl (fun D cy U hK => hK.2.2.1) h0
        · rw [h] at yes h0
          exact yes _ rfl (Or.inl rfl) h0
        · rw [h] at yes h0
          exact yes _ rfl (Or.inr (by decide +kernel)) h0
      · rcases ht with h | h | h | h
        · rw [h] at no h0
          exact no _ rfl (fun D cy U hK => hK.2.2.2.2.1) h0
        · rw [h] at yes h0
          exact yes _ rfl (Or.inl rfl) h0
        · rw [h] at no h0
          exact no _ rfl (fun D cy U hK => hK.2.2.2.1) h0
        · rw [h] at no h0
          exact no _ rfl (fun D cy U hK => hK.2.2.2.2.2.1) h0
    · rw [if_neg hf] at h0
      cases h0
theorem sm_cast {c idx a : Nat} {Cn : String} (hc : (c = 4 ∧ Cn = "HollowPress$Part") ∨ (c = 3 ∧ Cn = "HollowPress$Layers")) (hcl : Cond.classLink E.1 idx Cn ∈ gtbl) (hd : decode E.2.2.1 pc = .ok (.checkcast idx, 3)) (hp : pc + 3 = pc') (kk : Sim E rv pc' lv (qv (some a) :: st) P) : Sim E rv pc lv (qv (some a) :: st) (cO c a P) := by
  subst hp
  intro S x S' h0
  unfold cO at h0
  by_cases hf : fit c (sT S a) = true
  · rw [if_pos hf] at h0
    have h2 := kk S x S' h0
    refine ⟨h2.1, ?_⟩
    intro D cy p l e s m args below meth c0 R A n0 k0 H locs ls C a1 a2 a3 a4 a5 hW hS hl
    have hKN := C.2.2.2.2.2.2.2.2.1
    have k9 := h2.2 D cy p l e s m args below meth c0 R A n0 k0 H locs ls C a1 a2 a3 a4 a5 hW hS hl
    have yes : ∀ (q : vw_C), 1 ≤ sT S a ∧ sT S a ≤ 11 → vwCl[sT S a - 1]? = some q → (q.1 = Cn ∨ Cond.castable q.1 Cn ∈ nws) → W p l e R s m args below meth c0 H locs (sX S - n0) (sS S - k0) (MQ below (Qo D cy A (rv x) S') args s (sX S' - n0) (sS S' - k0) A) (F0 m pc ls ((qv (some a) :: st).map tv)) := by
      intro q h11 hq hn
      have hr := hW.recv hKN h11.1 h11.2 hq
      rcases hn with e9 | e9
      · rw [e9] at hr
        have hat := (hKN.1.1 _ q hq).2
        rw [e9] at hat
        exact va_castS C.1 C.2.1 C.2.2.2.2.2.2.1 (C.2.2.2.2.2.2.2.1 _ hcl) hat hr hd k9
      · exact va_castY C.1 C.2.1 C.2.2.2.2.2.2.1 (C.2.2.2.2.2.2.2.1 _ hcl) (hKN.2.1 _ e9) hr hd k9
    rcases hc with ⟨rfl, rfl⟩ | ⟨rfl, rfl⟩
    · have ht : sT S a = 4 ∨ sT S a = 1 ∨ sT S a = 5 := by
        unfold fit at hf
        simp at hf
        omega
      rcases ht with h | h | h
      · rw [h] at yes
        exact yes _ (by decide) rfl (Or.inl rfl)
      · rw [h] at yes
        exact yes _ (by decide) rfl (Or.inr (by decide +kernel))
      · rw [h] at yes
        exact yes _ (by decide) rfl (Or.inr (by decide +kernel))
    · have ht : sT S a = 3 := by
        unfold fit at hf
        simp at hf
        omega
      rw [ht] at yes
      exact yes _ (by decide) rfl (Or.inl rfl)
  · rw [if_neg hf] at h0
    cases h0
-- returns
theorem sm_ireturn {E : Env0} {pc : Nat} {lv : List (Nat × TV)} {x : Int32} (hr : E.2.2.2.2.1 = some .int) (hd : decode E.2.2.1 pc = .ok (.ireturn, 1)) : Sim E vI pc lv [iv x] (rt x) := by
  intro S y S' h
  cases h
  refine ⟨⟨Nat.le_refl _, Nat.le_refl _⟩, ?_⟩
  intro D cy p l e s m args below meth c0 R A n0 k0 H locs ls C a1 a2 a3 a4 a5 hW hS hl
  exact W.iret C.1 C.2.1 (C.2.2.2.1.trans hr) (fun t ht hw => ⟨rfl, by rw [ht]; exact hW, hS.F ht⟩) hS.2.2 hd C.2.2.2.2.1
theorem sm_zreturn {E : Env0} {pc : Nat} {lv : List (Nat × TV)} {x : Int32} (hr : E.2.2.2.2.1 = some .boolean) (hd : decode E.2.2.1 pc = .ok (.ireturn, 1)) : Sim E vI pc lv [iv x] (rtZ x) := by
  intro S y S' h
  unfold rtZ at h
  by_cases hn : vp_nar .boolean x = x
  · rw [if_pos hn] at h
    cases h
    refine ⟨⟨Nat.le_refl _, Nat.le_refl _⟩, ?_⟩
    intro D cy p l e s m args below meth c0 R A n0 k0 H locs ls C a1 a2 a3 a4 a5 hW hS hl
    exact W.zret C.1 C.2.1 (C.2.2.2.1.trans hr) (bool_01 hn).1 (fun t ht hw => ⟨rfl, by rw [ht]; exact hW, hS.F ht⟩) hS.2.2 hd C.2.2.2.2.1
  · rw [if_neg hn] at h
    cases h
theorem sm_lreturn {E : Env0} {pc : Nat} {lv : List (Nat × TV)} {x : Int64} (hr : E.2.2.2.2.1 = some .long) (hd : decode E.2.2.1 pc = .ok (.lreturn, 1)) : Sim E vL pc lv [jv x] (rt x) := by
  intro S y S' h
  cases h
  refine ⟨⟨Nat.le_refl _, Nat.le_refl _⟩, ?_⟩
  intro D cy p l e s m args below meth c0 R A n0 k0 H locs ls C a1 a2 a3 a4 a5 hW hS hl
  exact W.lret C.1 C.2.1 (C.2.2.2.1.trans hr) (fun t ht hw => ⟨rfl, by rw [ht]; exact hW, hS.F ht⟩) hS.2.2 hd C.2.2.2.2.1
theorem sm_return {E : Env0} {pc : Nat} {lv : List (Nat × TV)} (hr : E.2.2.2.2.1 = none) (hd : decode E.2.2.1 pc = .ok (.return_, 1)) : Sim E vU pc lv [] (rt ()) := by
  intro S y S' h
  cases h
  refine ⟨⟨Nat.le_refl _, Nat.le_refl _⟩, ?_⟩
  intro D cy p l e s m args below meth c0 R A n0 k0 H locs ls C a1 a2 a3 a4 a5 hW hS hl
  exact W.vret C.1 C.2.1 (C.2.2.2.1.trans hr) (fun t ht hw => ⟨rfl, by rw [ht]; exact hW, hS.F ht⟩) hS.2.2 hd C.2.2.2.2.1
theorem sm_areturn {E : Env0} {pc : Nat} {lv : List (Nat × TV)} {x : Option Nat} {ty : FieldType} (hr : E.2.2.2.2.1 = some ty) (hty : (∃ n, ty = .object n) ∨ ∃ t, ty = .array t) (hd : decode E.2.2.1 pc = .ok (.areturn, 1)) : Sim E vR pc lv [qv x] (rt x) := by
  intro S y S' h
  cases h
  refine ⟨⟨Nat.le_refl _, Nat.le_refl _⟩, ?_⟩
  intro D cy p l e s m args below meth c0 R A n0 k0 H locs ls C a1 a2 a3 a4 a5 hW hS hl
  refine W.aret C.1 C.2.1 (C.2.2.2.1.trans hr) hty ?_ (fun t ht hw => ⟨rfl, by rw [ht]; exact hW, hS.F ht⟩) hS.2.2 hd C.2.2.2.2.1
  cases x with
  | none => exact Or.inl rfl
  | some b => exact Or.inr ⟨b, rfl⟩
end R8
