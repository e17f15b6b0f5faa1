/-! more rows: fewer locals, Object's constructor, System.arraycopy, dispatch; how contracts begin -/
section R11
variable {β : Type} {E : Env0} {rv : β → Option Value} {pc pc' : Nat} {lv : List (Nat × TV)} {st st' : List TV} {P P' : Prg β}
theorem sm_sub {lv' : List (Nat × TV)} (ks : List Nat) (hl : ks.filterMap (fun k => lv[k]?) = lv') (k : Sim E rv pc lv' st P) : Sim E rv pc lv st P := by
  intro S x S' hp
  refine ⟨(k S x S' hp).1, ?_⟩
  intro D cy p l e s m args below meth c0 R A n0 k0 H locs ls C a1 a2 a3 a4 a5 hW hS hl2
  refine (k S x S' hp).2 D cy p l e s m args below meth c0 R A n0 k0 H locs ls C a1 a2 a3 a4 a5 hW hS ⟨hl2.1, hl2.2.1, fun q hq => ?_⟩
  obtain ⟨q0, hq0, rfl⟩ := List.mem_map.mp hq
  rw [← hl] at hq0
  obtain ⟨k9, -, hk9⟩ := List.mem_filterMap.mp hq0
  exact hl2.2.2 _ (List.mem_map.mpr ⟨q0, List.mem_of_getElem? hk9, rfl⟩)
theorem sm_ltI {α : Type} {K : α} {f : α → Prg β} (h : Sim E rv pc lv st (f K)) : Sim E rv pc lv st (lt K f) := h
theorem sm_objInit {a idx : Nat} (hl : Cond.methodLink E.1 idx Lib.objectInit ∈ gtbl) (hs : Cond.instanceMethod Lib.objectInit ∈ gtbl) (hc : Cond.code Lib.objectInit ⟨#[0xb1]⟩ 1 none ∈ gtbl) (hd : decode E.2.2.1 pc = .ok (.invokespecial idx, 3)) (hdep : 1 ≤ E.2.2.2.2.2) (hr : (st.map tc).sum ≤ 8) (hp : pc + 3 = pc') (k : Sim E rv pc' lv st P) : Sim E rv pc lv (qv (some a) :: st) P := by
  subst hp
  intro S x S' hq
  refine ⟨(k S x S' hq).1, ?_⟩
  intro D cy p l e s m args below meth c0 R A n0 k0 H locs ls C a1 a2 a3 a4 a5 hW hS hl2
  have hts := C.2.2.2.2.2.2.2.1
  have h1 := C.2.2.2.2.2.2.2.2.2.1
  have h2 := C.2.2.2.2.2.2.2.2.2.2
  refine W.objInit C.1 C.2.1 C.2.2.2.2.2.2.1 (hts _ hl) (hts _ hs) (hts _ hc) rfl (hl2.1.trans C.2.2.1.symm) rfl hd (by omega) ?_ ((k S x S' hq).2 D cy p l e s m args below meth c0 R A n0 k0 H locs ls C a1 a2 a3 a4 a5 hW hS hl2)
  show 2 * 0 + ((st.map tv).map fun v => v.category).sum + 12 ≤ R.locals
  rw [tc_sum]
  omega
end R11
/-- P, where a has the tag t; else Q -/
def or2 {α : Type} (a t : Nat) (P Q : Prg α) : Prg α := fun S => if sT S a = t then P S else Q S
theorem inv_or {α : Type} {own : String} {d : Nat} {ins : Instr} {sa : List TV} {rv' : α → Option Value} {a t : Nat} {P Q : Prg α} (h1 : Inv own d ins sa rv' (onT a t P)) (h2 : Inv own d ins sa rv' Q) : Inv own d ins sa rv' (or2 a t P Q) := by
  intro S x S1 h
  unfold or2 at h
  by_cases ht : sT S a = t
  · rw [if_pos ht] at h
    refine h1 S x S1 ?_
    unfold onT
    rw [if_pos ht]
    exact h
  · rw [if_neg ht] at h
    exact h2 S x S1 h
theorem inv_up {α : Type} {own : String} {d d' : Nat} {ins : Instr} {sa : List TV} {rv' : α → Option Value} {P : Prg α} (h : Inv own d ins sa rv' P) (hd : d ≤ d') : Inv own d' ins sa rv' P := by
  intro S x S1 hp
  refine ⟨(h S x S1 hp).1, ?_⟩
  intro E D cy p l e s m args below meth c R n0 k0 H locs ls pc st C hE hdep
  exact (h S x S1 hp).2 E D cy p l e s m args below meth c R n0 k0 H locs ls pc st C hE (Nat.le_trans hd hdep)
/-- the locals with which a method begins -/
def la : Nat → List TV → List (Nat × TV)
  | _, [] => []
  | i, v :: vs => (i, v) :: la (i + tc v) vs
theorem la_ok : ∀ (As : List TV) (i : Nat), lv_args i (As.map tv) = (la i As).map tq
  | [], _ => rfl
  | v :: vs, i => by
    have e : (if (tv v).category = 2 then i + 2 else i + 1) = i + tc v := by
      rw [tc_ok]
      unfold tc
      cases isJ v <;> rfl
    show (i, tv v) :: lv_args (if (tv v).category = 2 then i + 2 else i + 1) (vs.map tv) = _
    rw [e, la_ok vs]
    rfl
theorem sl_len (As : List TV) : (lg_sl (As.map tv)).length = (As.map tc).sum := by
  induction As with
  | nil => rfl
  | cons v vs ih =>
    have e : lg_sl ((v :: vs).map tv) = lg_sl [tv v] ++ lg_sl (vs.map tv) := by simp [lg_sl]
    rw [e, List.length_append, ih, List.map_cons, List.sum_cons]
    congr 1
    rcases v with x | x | r
    · rfl
    · rfl
    · cases r <;> rfl
theorem callee_ofS {α : Type} {d : Nat} {y : MethodName} {cc : ByteArray} {nL : Nat} {ret : Option FieldType} {As : List TV} {rv : α → Option Value} {P : Prg α} (lv : List (Nat × TV)) (hy : plainName y.cls = true) (hlen : (As.map tc).sum ≤ nL) (hlv : la 0 As = lv) (h : Sim (y.cls, y.name, cc, nL, ret, d) rv 0 lv [] P) : Callee d y cc nL ret As rv P :=
  callee_of lv hy (by rw [sl_len]; exact hlen) (by rw [la_ok, hlv]) h
theorem fit_1 {c t : Nat} (hc : c ≠ 4 ∧ c ≠ 1 ∧ c ≠ 12) (h : fit c t = true) : t = c := by
  unfold fit at h
  rw [if_neg hc.1, if_neg hc.2.1, if_neg hc.2.2] at h
  exact beq_iff_eq.mp h
theorem fit_4 {t : Nat} (h : fit 4 t = true) : t = 4 ∨ t = 1 ∨ t = 5 := by
  unfold fit at h
  simp at h
  omega
theorem fit_e {t : Nat} (h : fit 1 t = true) : t = 1 ∨ t = 5 := by
  unfold fit at h
  simp at h
  omega
-- System.arraycopy
def cpOk (sp dp n : Int32) (n0 n1 : Nat) : Bool := !(decide (sp < 0)) && !(decide (dp < 0)) && !(decide (n < 0)) && decide (sp.toNatClampNeg + n.toNatClampNeg ≤ n0) && decide (dp.toNatClampNeg + n.toNatClampNeg ≤ n1)
def cpI {β : Type} (a : Nat) (sp : Int32) (b : Nat) (dp n : Int32) (P : Prg β) : Prg β := fun S => if sT S a = 20 ∧ sT S b = 20 ∧ cpOk sp dp n (sN S a) (sN S b) = true then P (wIr S b (va_cpy (sI S a) (sI S b) sp.toNatClampNeg dp.toNatClampNeg n.toNatClampNeg)) else none
def cpJ {β : Type} (a : Nat) (sp : Int32) (b : Nat) (dp n : Int32) (P : Prg β) : Prg β := fun S => if sT S a = 22 ∧ sT S b = 22 ∧ cpOk sp dp n (sN S a) (sN S b) = true then P (wJr S b (va_cpy (sJ S a) (sJ S b) sp.toNatClampNeg dp.toNatClampNeg n.toNatClampNeg)) else none
theorem cp_nn (z : Int32) (hz : ¬ z < 0) : z.toInt = (z.toNatClampNeg : Int) := by
  have hz0 : (0 : Int) ≤ z.toInt := by
    have := Int32.not_lt.mp hz
    simpa using Int32.le_iff_toInt_le.mp this
  show z.toInt = ((z.toInt.toNat : Nat) : Int)
  omega
theorem cpOk_s {sp dp n : Int32} {n0 n1 : Nat} (h : cpOk sp dp n n0 n1 = true) : ¬ sp < 0 ∧ ¬ dp < 0 ∧ ¬ n < 0 ∧ sp.toNatClampNeg + n.toNatClampNeg ≤ n0 ∧ dp.toNatClampNeg + n.toNatClampNeg ≤ n1 := by
  unfold cpOk at h
  simp only [Bool.and_eq_true, Bool.not_eq_true', decide_eq_false_iff_not, decide_eq_true_eq] at h
  exact ⟨h.1.1.1.1, h.1.1.1.2, h.1.1.2, h.1.2, h.2⟩
section R12
variable {β : Type} {E : Env0} {rv : β → Option Value} {pc pc' : Nat} {lv : List (Nat × TV)} {st st' : List TV} {P P' : Prg β}
theorem sm_cpI {a b idx : Nat} {sp dp n : Int32} (hl : Cond.methodLink E.1 idx arraycopyName ∈ gtbl) (hna : Cond.native arraycopyName ∈ gtbl) (hs : Cond.static arraycopyName ∈ gtbl) (hi : Cond.initialized "java/lang/System" ∈ gtbl) (hd : decode E.2.2.1 pc = .ok (.invokestatic idx, 3)) (hdep : 1 ≤ E.2.2.2.2.2) (hr : (st.map tc).sum ≤ 8) (hp : pc + 3 = pc') (k : Sim E rv pc' lv st P) : Sim E rv pc lv (iv n :: iv dp :: qv (some b) :: iv sp :: qv (some a) :: st) (cpI a sp b dp n P) := by
  subst hp
  intro S x S' hq
  unfold cpI at hq
  by_cases hf : sT S a = 20 ∧ sT S b = 20 ∧ cpOk sp dp n (sN S a) (sN S b) = true
  · rw [if_pos hf] at hq
    have h2 := k _ x S' hq
    refine ⟨h2.1, ?_⟩
    intro D cy p l e s m args below meth c0 R A n0 k0 H locs ls C a1 a2 a3 a4 a5 hW hS hl2
    have hts := C.2.2.2.2.2.2.2.1
    have hKN := C.2.2.2.2.2.2.2.2.1
    have g1 := C.2.2.2.2.2.2.2.2.2.1
    have g2 := C.2.2.2.2.2.2.2.2.2.2
    obtain ⟨h1, h3, h4, h5, h6⟩ := cpOk_s hf.2.2
    have hc0 := (hW.2 a (by omega)).2
    have hat := hW.2 b (by omega)
    have hc1 := hat.2
    rw [cell_I hf.1] at hc0
    rw [cell_I hf.2.1] at hc1
    have hc0 : H[a]? = some (vp_cell (cy 20) (sN S a, .inl (sI S a))) := hc0
    have hc1 : H[b]? = some (vp_cell (cy 20) (sN S b, .inl (sI S b))) := hc1
    intro T hT X
    obtain ⟨-, kk0, hk0, cm0, hkk0⟩ := (hKN.1.2 0 _ rfl).1 (sN S a) (fun j => .int (sI S a j))
    obtain ⟨vm', X', step⟩ := X.arraycopy C.1 C.2.2.2.2.2.2.1 (hts _ hl) (hts _ hna) (hts _ hs) (hts _ hi) (src := a) (dst := b) (cs := vp_cell (cy 20) (sN S a, .inl (sI S a))) (cd := vp_cell (cy 20) (sN S b, .inl (sI S b))) (srcPos := sp) (destPos := dp) (n := n) (by rw [hT]; exact hc0) (by rw [hT]; exact hc1)
      (fun _ h => by cases h) (fun _ h => by cases h) (fun h => by cases h) (fun h => by cases h) hk0 hk0 hkk0 hkk0 (by simp [refKind]) h1 h3 h4
      (by rw [cp_nn sp h1, cp_nn n h4]; show ¬ _ > ((arrV _ _ _).slots.size : Int); rw [arrV_size]; omega)
      (by rw [cp_nn dp h3, cp_nn n h4]; show ¬ _ > ((arrV _ _ _).slots.size : Int); rw [arrV_size]; omega)
      (fun vm₁ _ i hi9 => by
        have e9 : (vp_cell (cy 20) (sN S a, .inl (sI S a))).slots.getD (sp.toNatClampNeg + i) .null = .int (sI S a (sp.toNatClampNeg + i)) := by
          show (arrV _ _ _).slots.getD _ _ = _
          rw [Array.getD_eq_getD_getElem?, arrV_read _ _ (by omega)]
          rfl
        rw [e9]
        exact ⟨rfl, trivial⟩)
      (g := F0 m pc ls (.int n :: .int dp :: .ref b :: .int sp :: .ref a :: st.map tv)) rfl (hl2.1.trans C.2.2.1.symm) (rest := st.map tv) rfl (by rw [C.2.1]; exact hd) (by omega) (by
        have e8 : nativeFrameWords "java/lang/System" "arraycopy" 5 ≤ 20 := by decide +kernel
        show 2 * 0 + _ + _ ≤ _
        rw [tc_sum]
        omega)
    have e1 : copied (vp_cell (cy 20) (sN S a, .inl (sI S a))) (vp_cell (cy 20) (sN S b, .inl (sI S b))) sp dp n = vp_cell (cy 20) (sN S b, .inl (va_cpy (sI S a) (sI S b) sp.toNatClampNeg dp.toNatClampNeg n.toNatClampNeg)) := va_copied (fun z => .int z) (cy 20) (cy 20) (sI S a) (sI S b) h5
    rw [e1] at X' step
    generalize hcn : vp_cell (cy 20) (sN S b, .inl (va_cpy (sI S a) (sI S b) sp.toNatClampNeg dp.toNatClampNeg n.toNatClampNeg)) = cn at X' step
    have hlt : b < H.size := (Array.getElem?_eq_some_iff.mp hc1).1
    have hheap : ((T.setVm vm').setCell b cn).heap = H.setIfInBounds b cn := by rw [← hT]; rfl
    have oq : ∀ q : Nat, q ≠ b → (H.setIfInBounds b cn)[q]? = H[q]? := fun q hq => by simp [Array.getElem?_setIfInBounds, Ne.symm hq]
    have hz : (H.setIfInBounds b cn).size = H.size := by simp
    have hW2 : Wd D cy A (wIr S b (va_cpy (sI S a) (sI S b) sp.toNatClampNeg dp.toNatClampNeg n.toNatClampNeg)) (H.setIfInBounds b cn) := by
      refine hW.put1 rfl rfl (fun c9 h9 => wIr_o h9) hz oq ?_
      rw [cell_I (show sT (wIr S b _) b = 20 from hf.2.1), wIr_a]
      show (H.setIfInBounds b cn)[b]? = some _
      rw [← hcn]
      simp [Array.getElem?_setIfInBounds, hlt]
      rfl
    obtain ⟨t, b1, b2⟩ := h2.2 D cy p l e s m args below meth c0 R A n0 k0 (H.setIfInBounds b cn) _ ls C a1 a2 a3 a4 a5 hW2 ⟨by rw [hz]; exact hS.1, fun q y1 y2 => by
        rw [oq q (fun e => y2 (by rw [e]; exact hat.1))]
        exact hS.2.1 q y1 y2, fun q hq => by
        rcases List.mem_append.mp hq with h | h
        · exact hS.2.2 q h
        · obtain ⟨z, -, hz9⟩ := List.mem_map.mp h
          rw [← hz9]
          exact hat.1⟩ hl2 _ hheap X'
    exact ⟨t, step t b1, b2⟩
  · rw [if_neg hf] at hq
    cases hq
theorem sm_cpJ {a b idx : Nat} {sp dp n : Int32} (hl : Cond.methodLink E.1 idx arraycopyName ∈ gtbl) (hna : Cond.native arraycopyName ∈ gtbl) (hs : Cond.static arraycopyName ∈ gtbl) (hi : Cond.initialized "java/lang/System" ∈ gtbl) (hd : decode E.2.2.1 pc = .ok (.invokestatic idx, 3)) (hdep : 1 ≤ E.2.2.2.2.2) (hr : (st.map tc).sum ≤ 8) (hp : pc + 3 = pc') (k : Sim E rv pc' lv st P) : Sim E rv pc lv (iv n :: iv dp :: qv (some b) :: iv sp :: qv (some a) :: st) (cpJ a sp b dp n P) := by
  subst hp
  intro S x S' hq
  unfold cpJ at hq
  by_cases hf : sT S a = 22 ∧ sT S b = 22 ∧ cpOk sp dp n (sN S a) (sN S b) = true
  · rw [if_pos hf] at hq
    have h2 := k _ x S' hq
    refine ⟨h2.1, ?_⟩
    intro D cy p l e s m args below meth c0 R A n0 k0 H locs ls C a1 a2 a3 a4 a5 hW hS hl2
    have hts := C.2.2.2.2.2.2.2.1
    have hKN := C.2.2.2.2.2.2.2.2.1
    have g1 := C.2.2.2.2.2.2.2.2.2.1
    have g2 := C.2.2.2.2.2.2.2.2.2.2
    obtain ⟨h1, h3, h4, h5, h6⟩ := cpOk_s hf.2.2
    have hc0 := (hW.2 a (by omega)).2
    have hat := hW.2 b (by omega)
    have hc1 := hat.2
    rw [cell_J hf.1] at hc0
    rw [cell_J hf.2.1] at hc1
    have hc0 : H[a]? = some (vp_cell (cy 22) (sN S a, .inr (.inl (sJ S a)))) := hc0
    have hc1 : H[b]? = some (vp_cell (cy 22) (sN S b, .inr (.inl (sJ S b)))) := hc1
    intro T hT X
    obtain ⟨-, kk0, hk0, cm0, hkk0⟩ := (hKN.1.2 2 _ rfl).1 (sN S a) (fun j => .long (sJ S a j))
    obtain ⟨vm', X', step⟩ := X.arraycopy C.1 C.2.2.2.2.2.2.1 (hts _ hl) (hts _ hna) (hts _ hs) (hts _ hi) (src := a) (dst := b) (cs := vp_cell (cy 22) (sN S a, .inr (.inl (sJ S a)))) (cd := vp_cell (cy 22) (sN S b, .inr (.inl (sJ S b)))) (srcPos := sp) (destPos := dp) (n := n) (by rw [hT]; exact hc0) (by rw [hT]; exact hc1)
      (fun _ h => by cases h) (fun _ h => by cases h) (fun h => by cases h) (fun h => by cases h) hk0 hk0 hkk0 hkk0 (by simp [refKind]) h1 h3 h4
      (by rw [cp_nn sp h1, cp_nn n h4]; show ¬ _ > ((arrV _ _ _).slots.size : Int); rw [arrV_size]; omega)
      (by rw [cp_nn dp h3, cp_nn n h4]; show ¬ _ > ((arrV _ _ _).slots.size : Int); rw [arrV_size]; omega)
      (fun vm₁ _ i hi9 => by
        have e9 : (vp_cell (cy 22) (sN S a, .inr (.inl (sJ S a)))).slots.getD (sp.toNatClampNeg + i) .null = .long (sJ S a (sp.toNatClampNeg + i)) := by
          show (arrV _ _ _).slots.getD _ _ = _
          rw [Array.getD_eq_getD_getElem?, arrV_read _ _ (by omega)]
          rfl
        rw [e9]
        exact ⟨rfl, trivial⟩)
      (g := F0 m pc ls (.int n :: .int dp :: .ref b :: .int sp :: .ref a :: st.map tv)) rfl (hl2.1.trans C.2.2.1.symm) (rest := st.map tv) rfl (by rw [C.2.1]; exact hd) (by omega) (by
        have e8 : nativeFrameWords "java/lang/System" "arraycopy" 5 ≤ 20 := by decide +kernel
        show 2 * 0 + _ + _ ≤ _
        rw [tc_sum]
        omega)
    have e1 : copied (vp_cell (cy 22) (sN S a, .inr (.inl (sJ S a)))) (vp_cell (cy 22) (sN S b, .inr (.inl (sJ S b)))) sp dp n = vp_cell (cy 22) (sN S b, .inr (.inl (va_cpy (sJ S a) (sJ S b) sp.toNatClampNeg dp.toNatClampNeg n.toNatClampNeg))) := va_copied (fun z => .long z) (cy 22) (cy 22) (sJ S a) (sJ S b) h5
    rw [e1] at X' step
    generalize hcn : vp_cell (cy 22) (sN S b, .inr (.inl (va_cpy (sJ S a) (sJ S b) sp.toNatClampNeg dp.toNatClampNeg n.toNatClampNeg))) = cn at X' step
    have hlt : b < H.size := (Array.getElem?_eq_some_iff.mp hc1).1
    have hheap : ((T.setVm vm').setCell b cn).heap = H.setIfInBounds b cn := by rw [← hT]; rfl
    have oq : ∀ q : Nat, q ≠ b → (H.setIfInBounds b cn)[q]? = H[q]? := fun q hq => by simp [Array.getElem?_setIfInBounds, Ne.symm hq]
    have hz : (H.setIfInBounds b cn).size = H.size := by simp
    have hW2 : Wd D cy A (wJr S b (va_cpy (sJ S a) (sJ S b) sp.toNatClampNeg dp.toNatClampNeg n.toNatClampNeg)) (H.setIfInBounds b cn) := by
      refine hW.put1 rfl rfl (fun c9 h9 => wJr_o h9) hz oq ?_
      rw [cell_J (show sT (wJr S b _) b = 22 from hf.2.1), wJr_a]
      show (H.setIfInBounds b cn)[b]? = some _
      rw [← hcn]
      simp [Array.getElem?_setIfInBounds, hlt]
      rfl
    obtain ⟨t, b1, b2⟩ := h2.2 D cy p l e s m args below meth c0 R A n0 k0 (H.setIfInBounds b cn) _ ls C a1 a2 a3 a4 a5 hW2 ⟨by rw [hz]; exact hS.1, fun q y1 y2 => by
        rw [oq q (fun e => y2 (by rw [e]; exact hat.1))]
        exact hS.2.1 q y1 y2, fun q hq => by
        rcases List.mem_append.mp hq with h | h
        · exact hS.2.2 q h
        · obtain ⟨z, -, hz9⟩ := List.mem_map.mp h
          rw [← hz9]
          exact hat.1⟩ hl2 _ hheap X'
    exact ⟨t, step t b1, b2⟩
  · rw [if_neg hf] at hq
    cases hq
end R12
