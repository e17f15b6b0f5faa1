/-! how long a loop may run in a program; new int[6][12]; switches -/
def FL : Nat := 100000
def mna (S : St) : St := (fun a => if a = sX S then 26 else if sX S < a ∧ a ≤ sX S + 6 then 20 else sT S a, fun a => if a = sX S then 6 else if sX S < a ∧ a ≤ sX S + 6 then 12 else sN S a, fun a => if sX S ≤ a ∧ a ≤ sX S + 6 then (fun _ => 0) else sI S a, fun a => if sX S ≤ a ∧ a ≤ sX S + 6 then (fun _ => 0) else sJ S a, fun a => if a = sX S then (fun i => if i < 6 then some (sX S + 1 + i) else none) else if sX S < a ∧ a ≤ sX S + 6 then (fun _ => none) else sF S a, sX S + 7, sS S + 78)
def nM {β : Type} (n k : Int32) (K : Nat → Prg β) : Prg β := fun S => if n = 6 ∧ k = 12 then K (sX S) (mna S) else none
section R13
variable {β : Type} {E : Env0} {rv : β → Option Value} {pc pc' : Nat} {lv : List (Nat × TV)} {st st' : List TV} {P P' : Prg β}
theorem sm_case (x c : Int32) (k1 : x = c → Sim E rv pc lv st P) (k2 : ¬ x = c → Sim E rv pc lv st P') : Sim E rv pc lv st (if x = c then P else P') := by
  by_cases h : x = c
  · rw [if_pos h]
    exact k1 h
  · rw [if_neg h]
    exact k2 h
end R13
theorem tab_out (x : Int32) (n : Nat) (hx : ∀ j, j ≤ n → ¬ x = nI j) (hn : n < 1000) : x.toInt < (0 : Int) ∨ (n : Int) < x.toInt := by
  rcases Int.lt_or_le x.toInt 0 with h | h
  · exact Or.inl h
  · right
    rcases Int.lt_or_le (n : Int) x.toInt with h2 | h2
    · exact h2
    · exfalso
      obtain ⟨j, hj⟩ : ∃ j : Nat, x.toInt = (j : Int) := ⟨x.toInt.toNat, by omega⟩
      refine hx j (by omega) (Int32.toInt_inj.mp ?_)
      rw [hj, nI_toInt (by omega)]
theorem tb_g {w : Cond} (i : Nat) (h : tables_1[i]? = some w) (hg : goodWord w = true) : w ∈ gtbl := gtbl_in (List.mem_append_right _ (List.mem_of_getElem? h)) hg
theorem tb_s {w : Cond} (i : Nat) (h : (k2_sels lw_privs)[i]? = some w) (hg : goodWord w = true) : w ∈ gtbl := gtbl_in (List.mem_append_left _ (List.mem_of_getElem? h)) hg
theorem tb_n {w : Cond} (i : Nat) (h : tables_1[i]? = some w) (hn : nwK w = true) : w ∈ nws := List.mem_filter.mpr ⟨List.mem_append_right _ (List.mem_of_getElem? h), hn⟩
theorem sub_2 {vm : Vm} {a b c : Nat} {ka kb : Class} (h1 : vm.classes[a]? = some ka) (h2 : ka.super = some b) (h3 : vm.classes[b]? = some kb) (h4 : kb.super = some c) : vm.isSubclass a c = true := by
  have la : a < vm.classes.size := (Array.getElem?_eq_some_iff.mp h1).1
  have lb : b < vm.classes.size := (Array.getElem?_eq_some_iff.mp h3).1
  unfold Vm.isSubclass
  by_cases e : b = c
  · subst e
    obtain ⟨n, hn⟩ : ∃ n, vm.classes.size = n + 1 := ⟨vm.classes.size - 1, by omega⟩
    rw [hn]
    simp [Vm.isSubclassAux, h1, h2]
  · by_cases e2 : a = b
    · subst e2
      rw [h3] at h1
      cases h1
      rw [h4] at h2
      cases h2
      exact absurd rfl e
    · obtain ⟨n, hn⟩ : ∃ n, vm.classes.size = n + 2 := ⟨vm.classes.size - 2, by omega⟩
      rw [hn]
      simp [Vm.isSubclassAux, h1, h2, h3, h4]
/-- super.mark(..) in Plate: EvenPart's, which is Thing's -/
theorem inv_SU2 {α : Type} {d idx : Nat} {y : MethodName} {cc : ByteArray} {nL : Nat} {ret : Option FieldType} {As : List TV} {rv : α → Option Value} {P : Prg α} {a t : Nat} {own mid P1 : String} (hC : Callee d y cc nL ret (qv (some a) :: As) rv P) (q : vw_C) (ht : 1 ≤ t ∧ t ≤ 11) (hq : vwCl[t - 1]? = some q) (hl : Cond.methodLink own idx ⟨mid, y.name, y.desc⟩ ∈ gtbl) (hsm : Cond.sameMethod mid y.cls y.name y.desc ∈ gtbl) (hsu : Cond.superclass own mid ∈ gtbl) (hsu2 : Cond.superclass mid P1 ∈ gtbl) (hsu3 : Cond.superclass P1 y.cls ∈ gtbl) (hs : Cond.instanceMethod y ∈ gtbl) (hi : Cond.initialized y.cls ∈ gtbl) (hc : Cond.code y cc nL ret ∈ gtbl) (hn : y.name ≠ "<init>" ∧ (parseMethodDescriptor y.desc).map (fun d => d.parameters.length) = some As.length) (hL : nL ≤ 21) : Inv own (d + 1) (.invokespecial idx) (As.reverse ++ [qv (some a)]) rv (onT a t P) := by
  intro S x S1 hp
  unfold onT at hp
  by_cases hta : sT S a = t
  · rw [if_pos hta] at hp
    obtain ⟨hm, hM⟩ := hC S x S1 hp
    refine ⟨hm, ?_⟩
    intro E D cy p l e s m args below meth c R n0 k0 H locs ls pc st C hE hdep hls a1 a2 a3 a4 hW hr hd
    subst hE
    have hts := C.2.2.2.2.2.2.2.1
    have hKN := C.2.2.2.2.2.2.2.2.1
    have hG : GoodIn gtbl (wsY y cc nL ret) := good_sub (fun w hw => (List.mem_cons.mp hw).elim (fun z => z ▸ hc) id)
    have hfr := fr_ok (mc := sX S1 - sX S) (ms := sS S1 - sS S) C.2.2.2.2.2.2.2.2.2.1 C.2.2.2.2.2.2.2.2.2.2 hdep hL
    have hK : Back l R p e below s args y 3 8 (PreOf R (sX S1 - sX S) (sS S1 - sS S) (PcW D cy S (qv (some a) :: As))) (PostOf (Qo D cy (Adom S) (rv x) S1) (sX S1 - sX S) (sS S1 - sS S) (Adom S)) := back_of (bytes := cc) (maxL := nL) (ret := ret) (hM D cy l) (PcW.blind D cy S _) rfl rfl hfr.1 hfr.2 (pay_in hts hG) List.mem_cons_self (fun a' U hW => word_at hW (Or.inl (by first | rfl | simp [Cond.onTables, Cond.keeps, Cond.steady])) (hts _ hi))
    obtain ⟨cell, hcB, hoB, hclB⟩ := hW.recv hKN (a := a) (by rw [hta]; exact ht.1) (by rw [hta]; exact ht.2) (by rw [hta]; exact hq)
    obtain ⟨kB, hkB, -⟩ := Vm.findClass_spec hclB
    obtain ⟨mk, methM, hnamed, hmethM, hstM, habM⟩ := Cond.instanceMethod_spec (hts _ hs)
    obtain ⟨methM', cM, hmethM', -, -, -, -, -, -, hsigM⟩ := Cond.code_spec hnamed (hts _ hc)
    cases hmethM.symm.trans hmethM'
    obtain ⟨ps, dk, kp, hps, hdk, hkp, hsuper, -, -, hnid⟩ := Cond.superclass_spec C.2.2.2.2.2.2.1 (hts _ hsu)
    obtain ⟨ps2, dk2, kp2, hps2, hdk2, hkp2, hsuper2, -, -, -⟩ := Cond.superclass_spec hps (hts _ hsu2)
    obtain ⟨ps3, dk3, kp3, hps3, hdk3, hkp3, hsuper3, -, -, -⟩ := Cond.superclass_spec hps2 (hts _ hsu3)
    have hsub : s.vm.isSubclass ps mk.cls = true := by
      have e3 : ps3 = mk.cls := Option.some.inj (hps3.symm.trans (findClass_of_methodNamed hnamed))
      rw [← e3]
      exact sub_2 hdk2 hsuper2 hdk3 hsuper3
    have hlen : (As.map tv).length = methM.sig.parameters.length := by
      have h9 := hn.2
      rw [hsigM] at h9
      simpa using (Option.some.inj h9).symm
    have hstk : (F0 m pc ls ((As.reverse ++ [qv (some a)]).map tv ++ st.map tv)).stack = (As.map tv).reverse ++ .ref a :: st.map tv := by
      rw [rev_map]
      simp [tv, va_rf]
    intro T hT X
    obtain ⟨vm₁, X₁, hstep₁⟩ := X.invokespecialUp C.1 C.2.2.2.2.2.2.1 (hts _ hl) (hts _ hsm) hnamed hmethM hstM habM hn.1 hdk hnid hps hsuper hsub (a := a) (cell := cell) (by rw [hT]; exact hcB) (fun z h => by rw [h] at hoB; cases hoB) hkB (g := F0 m pc ls ((As.reverse ++ [qv (some a)]).map tv ++ st.map tv)) rfl (argsL := As.map tv) (rest := st.map tv) hlen hstk (by rw [C.2.1]; exact hd)
    obtain ⟨v, B, X', hpost, hsteps⟩ := hK m meth c ⟨T.setVm vm₁, locs, sX S - n0, sS S - k0⟩ { F0 m pc ls ((As.reverse ++ [qv (some a)]).map tv ++ st.map tv) with stack := st.map tv } (.invokespecial idx) mk (Value.ref a :: As.map tv).toArray X₁ rfl (hls.trans C.2.2.1.symm) (by rw [C.2.1]; exact hd) (rest_ok hr) (X₁.named hnamed) ⟨by show sX S - n0 + (sX S1 - sX S) ≤ R.cells; omega, by show sS S - k0 + (sS S1 - sS S) ≤ R.slots; omega, rfl, hKN.warm X₁.warmed, by show Wd D cy (Adom S) S T.heap; rw [hT]; exact hW⟩
    obtain ⟨U', l2, c2, s2⟩ := B
    obtain ⟨g', mk', t', L, e1, e2, hq', h1, hL', h2, h3⟩ := hpost
    dsimp only [Pt.U, Pt.locs, Pt.cells, Pt.slots] at X' e1 e2 h1 h2 h3 hsteps
    subst h1; subst h2; subst h3
    refine ⟨v, (T.setVm vm₁).calling g' mk' (Value.ref a :: As.map tv).toArray, t', U', L, hT, X', hL', e1, e2, hq', fun target h => hstep₁ _ ?_⟩
    rw [doInvoke_state]
    exact hsteps.trans h
  · rw [if_neg hta] at hp
    cases hp
-- Math.max, Math.min
def mx (x y : Int32) : Int32 := if x < y then y else x
def mn (x y : Int32) : Int32 := if y < x then y else x
section R14
variable {β : Type} {E : Env0} {rv : β → Option Value} {pc pc' : Nat} {lv : List (Nat × TV)} {st st' : List TV} {P P' : Prg β}
theorem sm_mmax {idx : Nat} {x y : Int32} (hl : Cond.methodLink E.1 idx Lib.Math.max.name ∈ gtbl) (hs : Cond.static Lib.Math.max.name ∈ gtbl) (hi : Cond.initialized "java/lang/Math" ∈ gtbl) (hc : Cond.code Lib.Math.max.name Lib.Math.max.code 2 (some .int) ∈ gtbl) (hd : decode E.2.2.1 pc = .ok (.invokestatic idx, 3)) (hdep : 1 ≤ E.2.2.2.2.2) (hr : (st.map tc).sum ≤ 8) (hp : pc + 3 = pc') (k : Sim E rv pc' lv (iv (mx x y) :: st) P) : Sim E rv pc lv (iv y :: iv x :: st) P := by
  subst hp
  intro S z S' hq
  have k9 := k S z S' hq
  refine ⟨k9.1, ?_⟩
  intro D cy p l e s m args below meth c0 R A n0 k0 H locs ls C a1 a2 a3 a4 a5 hW hS hl2
  have hts := C.2.2.2.2.2.2.2.1
  have h1 := C.2.2.2.2.2.2.2.2.2.1
  have h2 := C.2.2.2.2.2.2.2.2.2.2
  have m1 := k9.1
  exact va_mmax C.1 C.2.1 (C.2.2.1.trans hl2.1.symm) C.2.2.2.2.2.2.1 (hts _ hl) (hts _ hs) (hts _ hi) (hts _ hc) (by omega) (by rw [tc_sum]; omega) (by omega) (by omega) hd (k9.2 D cy p l e s m args below meth c0 R A n0 k0 H locs ls C a1 a2 a3 a4 a5 hW hS hl2)
theorem sm_mmin {idx : Nat} {x y : Int32} (hl : Cond.methodLink E.1 idx Lib.Math.min.name ∈ gtbl) (hs : Cond.static Lib.Math.min.name ∈ gtbl) (hi : Cond.initialized "java/lang/Math" ∈ gtbl) (hc : Cond.code Lib.Math.min.name Lib.Math.min.code 2 (some .int) ∈ gtbl) (hd : decode E.2.2.1 pc = .ok (.invokestatic idx, 3)) (hdep : 1 ≤ E.2.2.2.2.2) (hr : (st.map tc).sum ≤ 8) (hp : pc + 3 = pc') (k : Sim E rv pc' lv (iv (mn x y) :: st) P) : Sim E rv pc lv (iv y :: iv x :: st) P := by
  subst hp
  intro S z S' hq
  have k9 := k S z S' hq
  refine ⟨k9.1, ?_⟩
  intro D cy p l e s m args below meth c0 R A n0 k0 H locs ls C a1 a2 a3 a4 a5 hW hS hl2
  have hts := C.2.2.2.2.2.2.2.1
  have h1 := C.2.2.2.2.2.2.2.2.2.1
  have h2 := C.2.2.2.2.2.2.2.2.2.2
  have m1 := k9.1
  exact va_mmin C.1 C.2.1 (C.2.2.1.trans hl2.1.symm) C.2.2.2.2.2.2.1 (hts _ hl) (hts _ hs) (hts _ hi) (hts _ hc) (by omega) (by rw [tc_sum]; omega) (by omega) (by omega) hd (k9.2 D cy p l e s m args below meth c0 R A n0 k0 H locs ls C a1 a2 a3 a4 a5 hW hS hl2)
end R14
