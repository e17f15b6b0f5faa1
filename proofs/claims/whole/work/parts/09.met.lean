/-! methods: a contract out of a walk, calls by contracts -/
theorem gtbl_good : ∀ w ∈ gtbl, goodWord w = true := fun _ h => (List.mem_filter.mp h).2
theorem gtbl_in {w : Cond} (h : w ∈ lw_tbl) (hg : goodWord w = true) : w ∈ gtbl := List.mem_filter.mpr ⟨h, hg⟩
theorem good_sub {l : List Cond} (h : ∀ w ∈ l, w ∈ gtbl) : GoodIn gtbl l := fun w hw => ⟨h w hw, good_of_word (gtbl_good w (h w hw))⟩
theorem nw_warm {w : Cond} (hw : nwK w = true) {s U : State} (hW : s.WarmedH U.vm) (h : va_Nw w s) : va_Nw w U := by
  cases w with
  | methodLinkNest a i x hh => exact va_Nw.warmM hW h
  | castable C T => exact va_Nw.warmC hW h
  | declares x => exact va_Nw.warmD hW h
  | arrayOver ty =>
    cases ty with
    | object C => exact va_AO.moved hW.alike h
    | _ => cases hw
  | _ => cases hw
theorem nw_same {w : Cond} (hw : nwK w = true) {s U : State} (hv : s.vm = U.vm) (h : va_Nw w s) : va_Nw w U := by
  cases w with
  | methodLinkNest a i x hh => exact va_Nw.same rfl hv h
  | castable C T => exact va_Nw.same rfl hv h
  | declares x => exact va_Nw.same rfl hv h
  | arrayOver ty =>
    cases ty with
    | object C => exact va_AO.moved (hv ▸ Vm.Alike.refl s.vm) h
    | _ => cases hw
  | _ => cases hw
theorem AOI.moved {u U : State} (hvm : u.vm.Alike U.vm) (h : AOI u) : AOI U := by
  obtain ⟨comp, c, k, h1, h2, h3, h4, h5⟩ := h
  obtain ⟨k', hk', he⟩ := hvm.2.2 _ _ h3
  have hi : (U.vm.classes.findIdx? fun (x : Class) => match x.kind with | .array component _ => component == comp | _ => false) = some c := by
    have e1 := va_idx_bare U.vm comp
    have e2 := va_idx_bare u.vm comp
    first | rw [hvm.bare_eq] at e1 | rw [← hvm.bare_eq] at e1
    exact (e1.symm.trans e2).trans h2
  exact ⟨comp, c, k', by rw [hvm.findClass]; exact h1, hi, hk', by rw [he]; exact h4, by rw [hvm.findClass]; exact h5⟩
theorem KN.warm {D : va_G} {cy : Nat → ClassId} {s U : State} (hW : s.WarmedH U.vm) (h : KN D cy s) : KN D cy U :=
  ⟨h.1.moved hW.alike, fun w hw => nw_warm (List.mem_filter.mp hw).2 hW (h.2.1 w hw), h.2.2.1.moved hW.alike, h.2.2.2.1.moved hW.alike, h.2.2.2.2.1.moved hW.alike, h.2.2.2.2.2.1.moved hW.alike, h.2.2.2.2.2.2.moved hW.alike⟩
theorem KN.same {D : va_G} {cy : Nat → ClassId} {s U : State} (hv : s.vm = U.vm) (h : KN D cy s) : KN D cy U := by
  have hA : s.vm.Alike U.vm := hv ▸ Vm.Alike.refl s.vm
  exact ⟨h.1.moved hA, fun w hw => nw_same (List.mem_filter.mp hw).2 hv (h.2.1 w hw), h.2.2.1.moved hA, h.2.2.2.1.moved hA, h.2.2.2.2.1.moved hA, h.2.2.2.2.2.1.moved hA, h.2.2.2.2.2.2.moved hA⟩
def Rm (d mc ms : Nat) : Room := { frames := d, cells := mc, slots := ms, locals := 40 * d }
def wsY (y : MethodName) (cc : ByteArray) (nL : Nat) (ret : Option FieldType) : List Cond := .code y cc nL ret :: gtbl
def Adom (S : St) : Nat → Prop := fun q => sT S q ≠ 0 ∨ sX S ≤ q
def PcW (D : va_G) (cy : Nat → ClassId) (S : St) (As : List TV) : Array Value → State → Prop := va_Pc (As.map tv) (fun U => KN D cy U ∧ Wd D cy (Adom S) S U.heap)
/-- method y: with the arguments As it does what P says, no more than d frames above it -/
def Callee {α : Type} (d : Nat) (y : MethodName) (cc : ByteArray) (nL : Nat) (ret : Option FieldType) (As : List TV) (rv : α → Option Value) (P : Prg α) : Prop :=
  ∀ (S : St) (x : α) (S' : St), P S = some (x, S') → (sX S ≤ sX S' ∧ sS S ≤ sS S') ∧ ∀ (D : va_G) (cy : Nat → ClassId) (l : Launch), Met l y (wsY y cc nL ret) (Rm d (sX S' - sX S) (sS S' - sS S)) (PcW D cy S As) (Qo D cy (Adom S) (rv x) S') (sX S' - sX S) (sS S' - sS S) (Adom S)
theorem Wd.self {D : va_G} {cy : Nat → ClassId} {A : Nat → Prop} {S : St} {H : Heap} (h : Wd D cy A S H) : Wd D cy (Adom S) S H := ⟨h.1, fun a ha => ⟨Or.inl ha, (h.2 a ha).2⟩⟩
theorem Wd.mono {D : va_G} {cy : Nat → ClassId} {A B : Nat → Prop} {S : St} {H : Heap} (h : Wd D cy A S H) (hAB : ∀ q, A q → B q) : Wd D cy B S H := ⟨h.1, fun a ha => ⟨hAB _ (h.2 a ha).1, (h.2 a ha).2⟩⟩
theorem callee_of {α : Type} {d : Nat} {y : MethodName} {cc : ByteArray} {nL : Nat} {ret : Option FieldType} {As : List TV} {rv : α → Option Value} {P : Prg α} (lv : List (Nat × TV)) (hy : plainName y.cls = true) (hlen : (lg_sl (As.map tv)).length ≤ nL) (hlv : lv.map tq = lv_args 0 (As.map tv)) (h : Sim (y.cls, y.name, cc, nL, ret, d) rv 0 lv [] P) : Callee d y cc nL ret As rv P := by
  intro S x S' hp
  obtain ⟨hm, hev⟩ := h S x S' hp
  refine ⟨hm, fun D cy l => ?_⟩
  refine Met.ofW (cc := cc) (maxL := nL) (ret := ret) hy rfl ?_
  intro p e s m args below meth c s₁ B hml hv
  obtain ⟨rfl, hKN, hW⟩ := hv
  have hts := atoms_spec (ws := wsY y cc nL ret) B.pre
  have hin : meth.name = y.name := (name_of_methodNamed B.named B.method).1
  have hown : s.vm.findClass y.cls = some m.cls := findClass_of_methodNamed B.named
  have hl := lv_entry (As.map tv) (n := nL) hlen
  rw [lg_entry_eq]
  rw [← hlv] at hl
  have k := hev D cy p l e s m (As.map tv).toArray below meth c (Rm d (sX S' - sX S) (sS S' - sS S)) (Adom S) (sX S) (sS S) s.heap [] _ ⟨B.exec, B.bytes, hml, B.returns, B.notSynchronized, hin, hown, fun w hw => hts w (List.mem_cons_of_mem _ hw), hKN, Nat.le_refl _, Nat.le_refl _⟩ (Nat.le_refl _) (Nat.le_refl _) (Nat.le_refl _) (Nat.le_refl _) (fun q hq => Or.inr (by rw [← hW.1]; exact hq)) hW va_S.rf hl
  rw [Nat.sub_self, Nat.sub_self] at k
  exact k
def tc (v : TV) : Nat := if isJ v then 2 else 1
theorem tc_ok (v : TV) : (tv v).category = tc v := by
  unfold tc
  rcases v with x | x | r
  · rfl
  · rfl
  · cases r <;> rfl
theorem tc_sum (st : List TV) : ((st.map tv).map fun v => v.category).sum = (st.map tc).sum := by
  rw [List.map_map]
  congr 1
  apply List.map_congr_left
  intro v _
  exact tc_ok v
/-- a call of own's, at most d frames above own's frame: the instruction ins on the values sa (the top first) does what P says -/
def Inv {α : Type} (own : String) (d : Nat) (ins : Instr) (sa : List TV) (rv' : α → Option Value) (P : Prg α) : Prop :=
  ∀ (S : St) (x : α) (S1 : St), P S = some (x, S1) → (sX S ≤ sX S1 ∧ sS S ≤ sS S1) ∧
    ∀ (E : Env0) (D : va_G) (cy : Nat → ClassId) (p : Program) (l : Launch) (e : Env) (s : State) (m : MethodId) (args : Array Value) (below : List Frame) (meth : Method) (c : Code) (R : Room) (n0 k0 : Nat) (H : Heap) (locs : List Loc) (ls : Array Slot) (pc : Nat) (st : List TV),
      Ctx E D cy p s m args meth c R → E.1 = own → d ≤ E.2.2.2.2.2 → ls.size = E.2.2.2.1 → n0 ≤ sX S → k0 ≤ sS S → sX S1 - n0 ≤ R.cells → sS S1 - k0 ≤ R.slots → Wd D cy (Adom S) S H → (st.map tc).sum ≤ 8 → decode E.2.2.1 pc = .ok (ins, 3) →
      va_Run p l e R s m args below meth c H locs (sX S - n0) (sS S - k0) (sX S1 - sX S) (sS S1 - sS S) (F0 m pc ls (sa.map tv ++ st.map tv)) (st.map tv) (Qo D cy (Adom S) (rv' x) S1 #[]) (Adom S)
section R9
variable {β : Type} {E : Env0} {rv : β → Option Value} {pc pc' : Nat} {lv : List (Nat × TV)} {st st' : List TV} {P P' : Prg β}
theorem sm_inv {α : Type} {sa : List TV} {rv' : α → Option Value} {P0 : Prg α} {K : α → Prg β} {ins : Instr} {d : Nat} {pu : α → List TV} (hpu : ∀ x, (rv' x).toList = (pu x).map tv) (hI : Inv E.1 d ins sa rv' P0) (hdep : d ≤ E.2.2.2.2.2) (hd : decode E.2.2.1 pc = .ok (ins, 3)) (hp : pc + 3 = pc') (hr : (st.map tc).sum ≤ 8) (kk : ∀ x, Sim E rv pc' lv (pu x ++ st) (K x)) : Sim E rv pc lv (sa ++ st) (cl P0 K) := by
  subst hp
  intro S x S' h
  unfold cl at h
  cases h0 : P0 S with
  | none => rw [h0] at h; cases h
  | some yS =>
    obtain ⟨y, S1⟩ := yS
    rw [h0] at h
    have h : K y S1 = some (x, S') := h
    have h1 := hI S y S1 h0
    have h2 := kk y S1 x S' h
    have m1 := h1.1
    have m2 := h2.1
    refine ⟨⟨by omega, by omega⟩, ?_⟩
    intro D cy p l e s m args below meth c0 R A n0 k0 H locs ls C a1 a2 a3 a4 a5 hW hS hl
    have run := h1.2 E D cy p l e s m args below meth c0 R n0 k0 H locs ls pc st C rfl hdep hl.1 a1 a2 (by omega) (by omega) hW.self hr hd
    rw [List.map_append]
    intro T hT X
    obtain ⟨v, st₀, t, T', L, e0, X', hL, e1, e2, ⟨hv, hW1, hF⟩, step⟩ := run T hT X
    cases hv
    have hAA : ∀ q, Adom S q → A q := fun q hq => hq.elim (fun z => (hW.2 q z).1) (fun z => a5 q (by have := hS.1; have := hW.1; omega))
    have hS' : va_S A s.heap T'.heap (locs ++ L) := by
      rw [e1]
      refine ⟨Nat.le_trans hS.1 (by rw [← e0]; exact hF.1), fun q g1 g2 => ?_, fun q hq => ?_⟩
      · have g3 : q < st₀.heap.size := by rw [e0]; exact Nat.lt_of_lt_of_le g1 hS.1
        rw [hF.2 q g3 (fun z => g2 (hAA q z)), e0]
        exact hS.2.1 q g1 g2
      · rcases List.mem_append.mp hq with z | z
        · exact hS.2.2 q z
        · exact hAA _ (hL q z)
    have W2 := h2.2 D cy p l e s m args below meth c0 R A n0 k0 T'.heap (locs ++ L) ls C (by omega) (by omega) a3 a4 a5 (by rw [e1]; exact hW1.mono hAA) hS' hl
    rw [show sX S - n0 + (sX S1 - sX S) = sX S1 - n0 by omega, show sS S - k0 + (sS S1 - sS S) = sS S1 - k0 by omega] at X'
    obtain ⟨t2, b1, b2⟩ := W2 T' rfl X'
    refine ⟨t2, step t2 ?_, b2⟩
    rw [List.map_append, ← hpu] at b1
    exact b1
theorem sm_calli {sa : List TV} {P0 : Prg Int32} {K : Int32 → Prg β} {ins : Instr} {d : Nat} (hI : Inv E.1 d ins sa vI P0) (hdep : d ≤ E.2.2.2.2.2) (hd : decode E.2.2.1 pc = .ok (ins, 3)) (hp : pc + 3 = pc') (hr : (st.map tc).sum ≤ 8) (kk : ∀ x, Sim E rv pc' lv (iv x :: st) (K x)) : Sim E rv pc lv (sa ++ st) (cl P0 K) := sm_inv (pu := fun x => [iv x]) (fun _ => rfl) hI hdep hd hp hr kk
theorem sm_calll {sa : List TV} {P0 : Prg Int64} {K : Int64 → Prg β} {ins : Instr} {d : Nat} (hI : Inv E.1 d ins sa vL P0) (hdep : d ≤ E.2.2.2.2.2) (hd : decode E.2.2.1 pc = .ok (ins, 3)) (hp : pc + 3 = pc') (hr : (st.map tc).sum ≤ 8) (kk : ∀ x, Sim E rv pc' lv (jv x :: st) (K x)) : Sim E rv pc lv (sa ++ st) (cl P0 K) := sm_inv (pu := fun x => [jv x]) (fun _ => rfl) hI hdep hd hp hr kk
theorem sm_callr {sa : List TV} {P0 : Prg (Option Nat)} {K : Option Nat → Prg β} {ins : Instr} {d : Nat} (hI : Inv E.1 d ins sa vR P0) (hdep : d ≤ E.2.2.2.2.2) (hd : decode E.2.2.1 pc = .ok (ins, 3)) (hp : pc + 3 = pc') (hr : (st.map tc).sum ≤ 8) (kk : ∀ x, Sim E rv pc' lv (qv x :: st) (K x)) : Sim E rv pc lv (sa ++ st) (cl P0 K) := sm_inv (pu := fun x => [qv x]) (fun _ => rfl) hI hdep hd hp hr kk
theorem sm_callv {sa : List TV} {P0 : Prg Unit} {K : Unit → Prg β} {ins : Instr} {d : Nat} (hI : Inv E.1 d ins sa vU P0) (hdep : d ≤ E.2.2.2.2.2) (hd : decode E.2.2.1 pc = .ok (ins, 3)) (hp : pc + 3 = pc') (hr : (st.map tc).sum ≤ 8) (kk : ∀ x, Sim E rv pc' lv st (K x)) : Sim E rv pc lv (sa ++ st) (cl P0 K) := sm_inv (pu := fun _ => []) (fun _ => rfl) hI hdep hd hp hr kk
end R9
theorem PcW.blind (D : va_G) (cy : Nat → ClassId) (S : St) (As : List TV) : FrameBlind (PcW D cy S As) := fun a U g mk q => ⟨q.1, KN.same (s := U) (U := U.calling g mk a) rfl q.2.1, q.2.2⟩
theorem rev_map (As : List TV) : (As.map tv).reverse = As.reverse.map tv := (List.map_reverse (f := tv) (l := As)).symm
-- calls by contract
/-- P, where a has the tag t -/
def onT {α : Type} (a t : Nat) (P : Prg α) : Prg α := fun S => if sT S a = t then P S else none
section R10
variable {α : Type} {own : String} {d idx : Nat} {y : MethodName} {cc : ByteArray} {nL : Nat} {ret : Option FieldType} {As : List TV} {rv : α → Option Value} {P : Prg α}
theorem inv_S (hC : Callee d y cc nL ret As rv P) (hl : Cond.methodLink own idx y ∈ gtbl) (hs : Cond.static y ∈ gtbl) (hi : Cond.initialized y.cls ∈ gtbl) (hc : Cond.code y cc nL ret ∈ gtbl) (hn : y.cls ≠ "java/lang/invoke/MethodHandle" ∧ y.cls ≠ "java/lang/invoke/VarHandle" ∧ (parseMethodDescriptor y.desc).map (fun d => d.parameters.length) = some As.length) (hL : nL ≤ 21) : Inv own (d + 1) (.invokestatic idx) As.reverse rv P := by
  intro S x S1 hp
  obtain ⟨hm, hM⟩ := hC S x S1 hp
  refine ⟨hm, ?_⟩
  intro E D cy p l e s m args below meth c R n0 k0 H locs ls pc st C hE hdep hls a1 a2 a3 a4 hW hr hd
  subst hE
  have hts := C.2.2.2.2.2.2.2.1
  refine va_runS (As := As.map tv) (rest := st.map tv) (Ts := gtbl) (nL := E.2.2.2.1) (y := y) ⟨C.1, C.2.1, C.2.2.1, C.2.2.2.2.2.2.1, hts⟩ (hM D cy l) (va_cwS As.length hts (good_sub ?_) rfl rfl rfl hn ⟨?_, ?_⟩) ⟨PcW.blind D cy S As, fun U hU hWa => ⟨rfl, C.2.2.2.2.2.2.2.2.1.warm hWa, by rw [hU]; exact hW⟩⟩ rfl (by simp) hls (by rw [rev_map]) ?_ hd ⟨by omega, by omega⟩
  · intro w hw
    rcases List.mem_append.mp hw with z | z
    · simp only [List.mem_cons, List.not_mem_nil, or_false] at z
      rcases z with rfl | rfl | rfl
      · exact hl
      · exact hs
      · exact hi
    · rcases List.mem_cons.mp z with rfl | z
      · exact hc
      · exact z
  · have := C.2.2.2.2.2.2.2.2.2.1
    show d + 1 ≤ R.frames
    omega
  · have := C.2.2.2.2.2.2.2.2.2.2
    show 8 + (nL + 11) + 40 * d ≤ R.locals
    omega
  · show 2 * 0 + _ ≤ 8
    rw [tc_sum]
    omega
theorem fr_ok {R : Room} {E : Env0} (h : E.2.2.2.2.2 ≤ R.frames) (h2 : 40 * E.2.2.2.2.2 ≤ R.locals) {d mc ms nL : Nat} (hd : d + 1 ≤ E.2.2.2.2.2) (hL : nL ≤ 21) : (Rm d mc ms).frames + 1 ≤ R.frames ∧ 8 + (nL + 11) + (Rm d mc ms).locals ≤ R.locals := by
  constructor
  · show d + 1 ≤ R.frames
    omega
  · show 8 + (nL + 11) + 40 * d ≤ R.locals
    omega
theorem rest_ok {m : MethodId} {pc : Nat} {ls : Array Slot} {sk : List Value} {st : List TV} (h : (st.map tc).sum ≤ 8) : 2 * (F0 m pc ls sk).monitorRoom + ((st.map tv).map fun v => v.category).sum ≤ 8 := by
  show 2 * 0 + _ ≤ 8
  rw [tc_sum]
  omega
/-- a private static method of a nest mate -/
theorem inv_SN {host : String} (hC : Callee d y cc nL ret As rv P) (hl : Cond.methodLinkNest own idx y host ∈ nws) (hs : Cond.static y ∈ gtbl) (hi : Cond.initialized y.cls ∈ gtbl) (hc : Cond.code y cc nL ret ∈ gtbl) (hn : y.cls ≠ "java/lang/invoke/MethodHandle" ∧ y.cls ≠ "java/lang/invoke/VarHandle" ∧ (parseMethodDescriptor y.desc).map (fun d => d.parameters.length) = some As.length) (hL : nL ≤ 21) : Inv own (d + 1) (.invokestatic idx) As.reverse rv P := by
  intro S x S1 hp
  obtain ⟨hm, hM⟩ := hC S x S1 hp
  refine ⟨hm, ?_⟩
  intro E D cy p l e s m args below meth c R n0 k0 H locs ls pc st C hE hdep hls a1 a2 a3 a4 hW hr hd
  subst hE
  have hts := C.2.2.2.2.2.2.2.1
  have hG : GoodIn gtbl (wsY y cc nL ret) := good_sub (fun w hw => (List.mem_cons.mp hw).elim (fun z => z ▸ hc) id)
  exact va_runSN (As := As.map tv) (rest := st.map tv) (Ts := gtbl) (nL := E.2.2.2.1) (y := y) ⟨C.1, C.2.1, C.2.2.1, C.2.2.2.2.2.2.1, hts⟩ (hM D cy l) ⟨va_cnB As.length hts hG rfl rfl rfl (C.2.2.2.2.2.2.2.2.1.2.1 _ hl) (hts _ hi) hn (fr_ok C.2.2.2.2.2.2.2.2.2.1 C.2.2.2.2.2.2.2.2.2.2 hdep hL), hts _ hs, trivial⟩ ⟨PcW.blind D cy S As, fun U hU hWa => ⟨rfl, C.2.2.2.2.2.2.2.2.1.warm hWa, by rw [hU]; exact hW⟩⟩ rfl (by simp) hls (by rw [rev_map]) (rest_ok hr) hd ⟨by omega, by omega⟩
/-- a constructor -/
theorem inv_I {a : Nat} (hC : Callee d y cc nL none (qv (some a) :: As) rv P) (hl : Cond.methodLink own idx y ∈ gtbl) (hs : Cond.instanceMethod y ∈ gtbl) (hi : Cond.initialized y.cls ∈ gtbl) (hc : Cond.code y cc nL none ∈ gtbl) (hy : y.name = "<init>") (hn : y.cls ≠ "java/lang/invoke/MethodHandle" ∧ y.cls ≠ "java/lang/invoke/VarHandle" ∧ (parseMethodDescriptor y.desc).map (fun d => d.parameters.length) = some As.length) (hL : nL ≤ 21) : Inv own (d + 1) (.invokespecial idx) (As.reverse ++ [qv (some a)]) rv P := by
  intro S x S1 hp
  obtain ⟨hm, hM⟩ := hC S x S1 hp
  refine ⟨hm, ?_⟩
  intro E D cy p l e s m args below meth c R n0 k0 H locs ls pc st C hE hdep hls a1 a2 a3 a4 hW hr hd
  subst hE
  have hts := C.2.2.2.2.2.2.2.1
  have hG : GoodIn gtbl (wsY y cc nL none) := good_sub (fun w hw => (List.mem_cons.mp hw).elim (fun z => z ▸ hc) id)
  exact va_runI (As := As.map tv) (rest := st.map tv) (Ts := gtbl) (nL := E.2.2.2.1) (y := y) (b := a) ⟨C.1, C.2.1, C.2.2.1, C.2.2.2.2.2.2.1, hts⟩ (hM D cy l) (cwI As.length hts hG rfl rfl rfl (hts _ hi) (hts _ hl) (hts _ hs) hy hn (fr_ok C.2.2.2.2.2.2.2.2.2.1 C.2.2.2.2.2.2.2.2.2.2 hdep hL)) ⟨PcW.blind D cy S _, fun U hU hWa => ⟨rfl, C.2.2.2.2.2.2.2.2.1.warm hWa, by rw [hU]; exact hW⟩⟩ rfl (by simp) hls (by rw [rev_map]; simp [tv, va_rf]) (rest_ok hr) hd ⟨by omega, by omega⟩
/-- a private constructor of a nest mate -/
theorem inv_IN {a : Nat} {host : String} (hC : Callee d y cc nL none (qv (some a) :: As) rv P) (hl : Cond.methodLinkNest own idx y host ∈ nws) (hs : Cond.instanceMethod y ∈ gtbl) (hi : Cond.initialized y.cls ∈ gtbl) (hc : Cond.code y cc nL none ∈ gtbl) (hy : y.name = "<init>") (hn : y.cls ≠ "java/lang/invoke/MethodHandle" ∧ y.cls ≠ "java/lang/invoke/VarHandle" ∧ (parseMethodDescriptor y.desc).map (fun d => d.parameters.length) = some As.length) (hL : nL ≤ 21) : Inv own (d + 1) (.invokespecial idx) (As.reverse ++ [qv (some a)]) rv P := by
  intro S x S1 hp
  obtain ⟨hm, hM⟩ := hC S x S1 hp
  refine ⟨hm, ?_⟩
  intro E D cy p l e s m args below meth c R n0 k0 H locs ls pc st C hE hdep hls a1 a2 a3 a4 hW hr hd
  subst hE
  have hts := C.2.2.2.2.2.2.2.1
  have hG : GoodIn gtbl (wsY y cc nL none) := good_sub (fun w hw => (List.mem_cons.mp hw).elim (fun z => z ▸ hc) id)
  exact va_runIN (As := As.map tv) (rest := st.map tv) (Ts := gtbl) (nL := E.2.2.2.1) (y := y) (b := a) ⟨C.1, C.2.1, C.2.2.1, C.2.2.2.2.2.2.1, hts⟩ (hM D cy l) ⟨va_cnB As.length hts hG rfl rfl rfl (C.2.2.2.2.2.2.2.2.1.2.1 _ hl) (hts _ hi) hn (fr_ok C.2.2.2.2.2.2.2.2.2.1 C.2.2.2.2.2.2.2.2.2.2 hdep hL), hy, hts _ hs⟩ ⟨PcW.blind D cy S _, fun U hU hWa => ⟨rfl, C.2.2.2.2.2.2.2.2.1.warm hWa, by rw [hU]; exact hW⟩⟩ rfl (by simp) hls (by rw [rev_map]; simp [tv, va_rf]) (rest_ok hr) hd ⟨by omega, by omega⟩
/-- an instance method of the receiver's own class; t: the receiver's tag -/
theorem inv_V {a t : Nat} (hC : Callee d y cc nL ret (qv (some a) :: As) rv P) (q : vw_C) (ht : 1 ≤ t ∧ t ≤ 11) (hq : vwCl[t - 1]? = some q) (hyc : y.cls = q.1) (hl : Cond.methodLink own idx y ∈ gtbl) (hs : Cond.instanceMethod y ∈ gtbl) (hsl : Cond.selects q.1 y y ∈ gtbl) (hi : Cond.initialized q.1 ∈ gtbl) (hc : Cond.code y cc nL ret ∈ gtbl) (hn : y.cls ≠ "java/lang/invoke/MethodHandle" ∧ y.cls ≠ "java/lang/invoke/VarHandle" ∧ (parseMethodDescriptor y.desc).map (fun d => d.parameters.length) = some As.length) (hL : nL ≤ 21) : Inv own (d + 1) (.invokevirtual idx) (As.reverse ++ [qv (some a)]) rv (onT a t P) := by
  intro S x S1 hp
  unfold onT at hp
  by_cases hta : sT S a = t
  · rw [if_pos hta] at hp
    obtain ⟨hm, hM⟩ := hC S x S1 hp
    refine ⟨hm, ?_⟩
    intro E D cy p l e s m args below meth c R n0 k0 H locs ls pc st C hE hdep hls a1 a2 a3 a4 hW hr hd
    subst hE
    have hts := C.2.2.2.2.2.2.2.1
    have hKN := C.2.2.2.2.2.2.2.2.1
    refine va_runV (As := As.map tv) (rest := st.map tv) (Ts := gtbl) (nL := E.2.2.2.1) (y := y) (b := a) (C := q.1) ⟨C.1, C.2.1, C.2.2.1, C.2.2.2.2.2.2.1, hts⟩ (hM D cy l) (cwV As.length hts (good_sub ?_) rfl rfl rfl ⟨hyc, hn⟩ (fr_ok C.2.2.2.2.2.2.2.2.2.1 C.2.2.2.2.2.2.2.2.2.2 hdep hL)) ⟨PcW.blind D cy S _, hW.recv hKN (by omega) (by omega) (by rw [hta]; exact hq), fun U hU hWa => ⟨rfl, hKN.warm hWa, by rw [hU]; exact hW⟩⟩ rfl (by simp) hls (by rw [rev_map]; simp [tv, va_rf]) (rest_ok hr) hd ⟨by omega, by omega⟩
    intro w hw
    rcases List.mem_append.mp hw with z | z
    · simp only [List.mem_cons, List.not_mem_nil, or_false] at z
      rcases z with rfl | rfl | rfl | rfl
      · exact hl
      · exact hs
      · exact hsl
      · exact hi
    · exact (List.mem_cons.mp z).elim (fun z => z ▸ hc) id
  · rw [if_neg hta] at hp
    cases hp
/-- an inherited or overriding method: x is named, y runs; t: the receiver's tag -/
theorem inv_U {a t : Nat} {owner : String} {xn : MethodName} (hC : Callee d y cc nL ret (qv (some a) :: As) rv P) (q : vw_C) (ht : 1 ≤ t ∧ t ≤ 11) (hq : vwCl[t - 1]? = some q) (hcl : Cond.methodLink own idx xn ∈ gtbl) (hsm : Cond.sameMethod xn.cls owner xn.name xn.desc ∈ gtbl) (hdc : (Cond.declares ⟨owner, xn.name, xn.desc⟩ ∈ nws) ∨ (Cond.instanceMethod ⟨owner, xn.name, xn.desc⟩ ∈ gtbl ∧ ∃ (b0 : ByteArray) (m0 : Nat) (r0 : Option FieldType), Cond.code ⟨owner, xn.name, xn.desc⟩ b0 m0 r0 ∈ gtbl)) (hsl : Cond.selects q.1 xn y ∈ gtbl) (hs : Cond.instanceMethod y ∈ gtbl) (hi : Cond.initialized y.cls ∈ gtbl) (hc : Cond.code y cc nL ret ∈ gtbl) (hn : owner ≠ "java/lang/invoke/MethodHandle" ∧ owner ≠ "java/lang/invoke/VarHandle" ∧ (parseMethodDescriptor xn.desc).map (fun d => d.parameters.length) = some As.length) (hL : nL ≤ 21) : Inv own (d + 1) (.invokevirtual idx) (As.reverse ++ [qv (some a)]) rv (onT a t P) := by
  intro S x S1 hp
  unfold onT at hp
  by_cases hta : sT S a = t
  · rw [if_pos hta] at hp
    obtain ⟨hm, hM⟩ := hC S x S1 hp
    refine ⟨hm, ?_⟩
    intro E D cy p l e s m args below meth c R n0 k0 H locs ls pc st C hE hdep hls a1 a2 a3 a4 hW hr hd
    subst hE
    have hts := C.2.2.2.2.2.2.2.1
    have hKN := C.2.2.2.2.2.2.2.2.1
    have h1 : va_CU R s args E.1 q.1 owner idx xn y cc nL ret (wsY y cc nL ret) (Rm d (sX S1 - sX S) (sS S1 - sS S)) (sX S1 - sX S) (sS S1 - sS S) As.length := by
      have hin : ∀ w ∈ ([.methodLink E.1 idx xn, .sameMethod xn.cls owner xn.name xn.desc, .selects q.1 xn y, .instanceMethod y, .initialized y.cls] : List Cond) ++ wsY y cc nL ret, w ∈ gtbl := by
        intro w hw
        rcases List.mem_append.mp hw with z | z
        · simp only [List.mem_cons, List.not_mem_nil, or_false] at z
          rcases z with rfl | rfl | rfl | rfl | rfl
          · exact hcl
          · exact hsm
          · exact hsl
          · exact hs
          · exact hi
        · exact (List.mem_cons.mp z).elim (fun z => z ▸ hc) id
      rcases hdc with hdc | ⟨hdc, b0, m0, r0, hdc2⟩
      · exact va_cwA As.length hts (good_sub hin) rfl rfl rfl (hKN.2.1 _ hdc) hn (fr_ok C.2.2.2.2.2.2.2.2.2.1 C.2.2.2.2.2.2.2.2.2.2 hdep hL)
      · refine va_cwO As.length hts (good_sub ?_) rfl rfl rfl hdc2 hn (fr_ok C.2.2.2.2.2.2.2.2.2.1 C.2.2.2.2.2.2.2.2.2.2 hdep hL)
        intro w hw
        rcases List.mem_append.mp hw with z | z
        · simp only [List.mem_cons, List.not_mem_nil, or_false] at z
          rcases z with rfl | rfl | rfl | rfl | rfl | rfl
          · exact hcl
          · exact hsm
          · exact hdc
          · exact hsl
          · exact hs
          · exact hi
        · exact (List.mem_cons.mp z).elim (fun z => z ▸ hc) id
    exact va_runU (As := As.map tv) (rest := st.map tv) (Ts := gtbl) (nL := E.2.2.2.1) (y := y) (b := a) (C := q.1) ⟨C.1, C.2.1, C.2.2.1, C.2.2.2.2.2.2.1, hts⟩ (hM D cy l) h1 ⟨PcW.blind D cy S _, hW.recv hKN (by omega) (by omega) (by rw [hta]; exact hq), fun U hU hWa => ⟨rfl, hKN.warm hWa, by rw [hU]; exact hW⟩⟩ rfl (by simp) hls (by rw [rev_map]; simp [tv, va_rf]) (rest_ok hr) hd ⟨by omega, by omega⟩
  · rw [if_neg hta] at hp
    cases hp
/-- super.y(..); t: the receiver's tag -/
theorem inv_SU {a t : Nat} (hC : Callee d y cc nL ret (qv (some a) :: As) rv P) (q : vw_C) (ht : 1 ≤ t ∧ t ≤ 11) (hq : vwCl[t - 1]? = some q) (hl : Cond.methodLink own idx y ∈ gtbl) (hsm : Cond.sameMethod y.cls y.cls y.name y.desc ∈ gtbl) (hsu : Cond.superclass own y.cls ∈ gtbl) (hs : Cond.instanceMethod y ∈ gtbl) (hi : Cond.initialized y.cls ∈ gtbl) (hc : Cond.code y cc nL ret ∈ gtbl) (hn : y.name ≠ "<init>" ∧ (parseMethodDescriptor y.desc).map (fun d => d.parameters.length) = some As.length) (hL : nL ≤ 21) : Inv own (d + 1) (.invokespecial idx) (As.reverse ++ [qv (some a)]) rv (onT a t P) := by
  intro S x S1 hp
  unfold onT at hp
  by_cases hta : sT S a = t
  · rw [if_pos hta] at hp
    obtain ⟨hm, hM⟩ := hC S x S1 hp
    refine ⟨hm, ?_⟩
    intro E D cy p l e s m args below meth c R n0 k0 H locs ls pc st C hE hdep hls a1 a2 a3 a4 hW hr hd
    subst hE
    have hts := C.2.2.2.2.2.2.2.1
    have hKN := C.2.2.2.2.2.2.2.2.1
    refine va_runSU (As := As.map tv) (rest := st.map tv) (Ts := gtbl) (nL := E.2.2.2.1) (y := y) (b := a) (C := q.1) (hKN.1.1 _ q hq).2 ⟨C.1, C.2.1, C.2.2.1, C.2.2.2.2.2.2.1, hts⟩ (hM D cy l) (va_cwSU As.length hts (good_sub ?_) rfl rfl rfl hn (fr_ok C.2.2.2.2.2.2.2.2.2.1 C.2.2.2.2.2.2.2.2.2.2 hdep hL)) ⟨PcW.blind D cy S _, hW.recv hKN (by omega) (by omega) (by rw [hta]; exact hq), fun U hU hWa => ⟨rfl, hKN.warm hWa, by rw [hU]; exact hW⟩⟩ rfl (by simp) hls (by rw [rev_map]; simp [tv, va_rf]) (rest_ok hr) hd ⟨by omega, by omega⟩
    intro w hw
    rcases List.mem_append.mp hw with z | z
    · simp only [List.mem_cons, List.not_mem_nil, or_false] at z
      rcases z with rfl | rfl | rfl | rfl | rfl
      · exact hl
      · exact hsm
      · exact hsu
      · exact hs
      · exact hi
    · exact (List.mem_cons.mp z).elim (fun z => z ▸ hc) id
  · rw [if_neg hta] at hp
    cases hp
end R10
