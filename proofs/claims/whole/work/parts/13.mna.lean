/-! new int[6][12]: the machine's loop, turn by turn -/
section R16
def mq_i (comp : ClassId) : Cell := arrV comp 12 (fun _ => .int 0)
def mq_o (cA : ClassId) (h i : Nat) : Cell := arrV cA 6 (fun j => if j < i then .ref (h + 1 + j) else .null)
/-- the state behind i turns of the loop -/
def mq (T : State) (cA comp : ClassId) : Nat → State
  | 0 => T.pushCell (mq_o cA T.heap.size 0)
  | i + 1 => ((mq T cA comp i).pushCell (mq_i comp)).setCell T.heap.size (mq_o cA T.heap.size (i + 1))
theorem mq_next (cA : ClassId) (h i : Nat) : (mq_o cA h i).setSlot i (.ref (h + 1 + i)) = mq_o cA h (i + 1) := by
  unfold mq_o
  rw [arrV_store]
  congr 1
  funext j
  unfold updV
  by_cases e : j = i
  · subst e
    rw [if_pos rfl, if_pos (by omega)]
  · rw [if_neg e]
    show (if j < i then Value.ref (h + 1 + j) else Value.null) = _
    by_cases g : j < i
    · rw [if_pos g, if_pos (by omega)]
    · rw [if_neg g, if_neg (by omega)]
theorem mq_facts (T : State) (cA comp : ClassId) : ∀ i, (mq T cA comp i).heap.size = T.heap.size + 1 + i ∧ (mq T cA comp i).heap[T.heap.size]? = some (mq_o cA T.heap.size i) ∧ (mq T cA comp i).vm = T.vm ∧ (mq T cA comp i).slotsUsed = T.slotsUsed + 6 + i * 12
  | 0 => ⟨by simp [mq], by simp [mq], rfl, by simp [mq, mq_o, arrV_size]⟩
  | i + 1 => by
    obtain ⟨a, b, d, u⟩ := mq_facts T cA comp i
    have hlt : T.heap.size < (mq T cA comp i).heap.size := by omega
    have hb' : ((mq T cA comp i).pushCell (mq_i comp)).heap[T.heap.size]? = some (mq_o cA T.heap.size i) := by rw [State.heap_pushCell_of_lt (h := hlt)]; exact b
    refine ⟨?_, State.heap_setCell_self hb', by simp [mq, d], ?_⟩
    · simp [mq, State.setCell, a]; omega
    · simp [mq, u, mq_i, arrV_size]; omega
theorem mq_top (T : State) (f : JFrame) (cA comp : ClassId) : ∀ i, mq (T.setTop f) cA comp i = (mq T cA comp i).setTop f
  | 0 => rfl
  | i + 1 => by simp only [mq, mq_top T f cA comp i, State.heap_setTop, State.pushCell_setTop, State.setCell_setTop]
theorem mq_old (T : State) (cA comp : ClassId) {a : Addr} (ha : a < T.heap.size) : ∀ i, (mq T cA comp i).heap[a]? = T.heap[a]?
  | 0 => State.heap_pushCell_of_lt _ _ ha
  | i + 1 => by
    have f1 := (mq_facts T cA comp i).1
    have hlt : a < (mq T cA comp i).heap.size := Nat.lt_of_lt_of_le ha (by rw [f1]; omega)
    show (((mq T cA comp i).pushCell (mq_i comp)).setCell T.heap.size _).heap[a]? = _
    rw [State.heap_setCell_other (Nat.ne_of_gt ha), State.heap_pushCell_of_lt (h := hlt)]
    exact mq_old T cA comp ha i
theorem mq_in (T : State) (cA comp : ClassId) : ∀ i j, j < i → (mq T cA comp i).heap[T.heap.size + 1 + j]? = some (mq_i comp)
  | 0, _, h => absurd h (Nat.not_lt_zero _)
  | i + 1, j, h => by
    have f1 := (mq_facts T cA comp i).1
    show (((mq T cA comp i).pushCell (mq_i comp)).setCell T.heap.size _).heap[T.heap.size + 1 + j]? = _
    rw [State.heap_setCell_other (show T.heap.size ≠ T.heap.size + 1 + j by omega)]
    by_cases hj : j < i
    · have hlt : T.heap.size + 1 + j < (mq T cA comp i).heap.size := by rw [f1]; omega
      rw [State.heap_pushCell_of_lt (h := hlt)]
      exact mq_in T cA comp i j hj
    · have e : j = i := by omega
      subst e
      rw [← f1]
      exact State.heap_pushCell_size _ _
section
variable {E : CtlPost} {e : Env} {d : Bool} {acts : List Action} {s : State}
theorem mq_new {c comp : ClassId} {k : Class} {type : FieldType} {len : Nat} {init : Value} (hk : s.vm.classes[c]? = some k) (hkind : k.kind = .array comp type) (hlimit : ¬ len > e.platform.arrayLengthLimit) (hheap : ¬ len * componentBytes type > e.platform.maxHeapBytes) (hfit : fits type init = true) (hdef : init.isDefault = true) {Q : Addr → Pre} (h1 : s.heap.size < e.platform.maxCells) (h2 : s.slotsUsed + len ≤ e.platform.maxSlots) (hq : Q s.heap.size d acts (s.pushCell (arrV c len (fun _ => init)))) : wp (Jvm.newArray c len init) Q E e d acts s := by
  have hfits : ∀ i v, (Array.replicate len init)[i]? = some v → s.fitsSlot c .none i v = true := by
    intro i v hv
    simp only [Array.getElem?_replicate] at hv
    split at hv
    · cases hv; simp [State.fitsSlot, State.slotType?, hk, hkind, hfit]
    · cases hv
  have hda : allocActs (Array.replicate len init) s.heap.size acts = acts := by
    have hall : ((Array.replicate len init).all (·.isDefault)) = true := by
      rw [Array.all_replicate]; split <;> simp [hdef]
    unfold allocActs; rw [if_pos hall]
  rw [← arrV_new] at hq
  simp only [Jvm.newArray, Jvm.arrayFits, wp_bind', W.ask, W.ite, hlimit, if_false, wp_pure', W.theClass, hk, hkind, hheap, W.alloc, W.stop, Option.some.injEq, exists_eq_left', Array.size_replicate, hda]
  rw [if_neg (by omega)]
  exact ⟨h1, h2, hfits, hq⟩
theorem mq_make1 {comp cc : ClassId} {kc : Class} (hkc : s.vm.classes[comp]? = some kc) (hkindc : kc.kind = .array cc .int) (hl2 : ¬ 12 > e.platform.arrayLengthLimit) (hh2 : ¬ 12 * componentBytes .int > e.platform.maxHeapBytes) (h1 : s.heap.size < e.platform.maxCells) (h2 : s.slotsUsed + 12 ≤ e.platform.maxSlots) {Q : Addr → Pre} (hq : Q s.heap.size d acts (s.pushCell (mq_i comp))) : wp (multianewarray.make comp [(12 : Int32)]) Q E e d acts s := by
  have hm : ¬ ((12 : Int32) < 0) := by decide
  have e12 : (12 : Int32).toNatClampNeg = 12 := by decide
  rw [multianewarray.make]
  simp only [wp_bind', W.ite, hm, if_false, wp_pure', W.theClass, hkc, hkindc, Option.some.injEq, exists_eq_left', e12]
  exact mq_new hkc hkindc hl2 hh2 rfl rfl h1 h2 hq
theorem mq_make2 {c comp cc : ClassId} {k kc : Class} (hk : s.vm.classes[c]? = some k) (hkind : k.kind = .array comp (.array .int)) (hkc : s.vm.classes[comp]? = some kc) (hkindc : kc.kind = .array cc .int) (hl1 : ¬ 6 > e.platform.arrayLengthLimit) (hh1 : ¬ 6 * componentBytes (.array .int) > e.platform.maxHeapBytes) (hl2 : ¬ 12 > e.platform.arrayLengthLimit) (hh2 : ¬ 12 * componentBytes .int > e.platform.maxHeapBytes) (hc : s.heap.size + 7 ≤ e.platform.maxCells) (hs : s.slotsUsed + 78 ≤ e.platform.maxSlots) {Q : Addr → Pre} (hq : ∀ d' acts', Q s.heap.size d' acts' (mq s c comp 6)) : wp (multianewarray.make c [(6 : Int32), 12]) Q E e d acts s := by
  have hn : ¬ ((6 : Int32) < 0) := by decide
  have e6 : (6 : Int32).toNatClampNeg = 6 := by decide
  have hz : ((6 : Int32) == 0) = false := by decide
  rw [multianewarray.make]
  simp only [wp_bind', W.ite, hn, if_false, wp_pure', W.theClass, hk, hkind, Option.some.injEq, exists_eq_left', e6]
  refine mq_new hk hkind hl1 hh1 rfl rfl (by omega) (by omega) ?_
  have h0 : s.pushCell (arrV c 6 (fun _ => Value.null)) = mq s c comp 0 := by
    show _ = s.pushCell (mq_o c s.heap.size 0)
    congr 1
  rw [h0]
  simp only [hz]
  rw [if_neg (by decide), wp_bind', Std.Legacy.Range.forIn_eq_forIn_range']
  have hsz : ([:6] : Std.Legacy.Range).size = 6 := by simp [Std.Legacy.Range.size]
  rw [hsz]
  show wp (forIn (List.range' 0 6 1) PUnit.unit _) _ E e d acts _
  refine wp_forIn_inv (fun rest s' => ∃ i, i ≤ 6 ∧ rest = List.range' i (6 - i) ∧ s' = mq s c comp i) _ _ ⟨0, Nat.zero_le _, rfl, rfl⟩ ?_ ?_
  · rintro x rest s' d' acts' Q' ⟨i, hi, hl, rfl⟩ hnext
    have hlt : i < 6 := by
      rcases Nat.lt_or_ge i 6 with h | h
      · exact h
      · rw [show 6 - i = 0 from by omega] at hl; simp at hl
    obtain ⟨rfl, hrest⟩ : x = i ∧ rest = List.range' (i + 1) (6 - (i + 1)) := by
      rw [show 6 - i = (6 - (i + 1)) + 1 from by omega, List.range'_succ] at hl
      exact ⟨(List.cons.inj hl).1, (List.cons.inj hl).2⟩
    obtain ⟨f1, f2, f3, f4⟩ := mq_facts s c comp x
    simp only [wp_bind']
    refine mq_make1 (by rw [f3]; exact hkc) hkindc hl2 hh2 (by rw [f1]; omega) (by rw [f4]; omega) ?_
    have hlt0 : s.heap.size < (mq s c comp x).heap.size := by rw [f1]; omega
    simp only [wp_bind', W.writeLoc, wp_pure']
    refine ⟨mq_o c s.heap.size x, by rw [State.heap_pushCell_of_lt (h := hlt0)]; exact f2, by simp [mq_o, arrV], by show x < (arrV _ _ _).slots.size; rw [arrV_size]; exact hlt, ?_, hnext _ _ _ ⟨x + 1, hlt, hrest, ?_⟩⟩
    · have o1 : (mq_o c s.heap.size x).cls = c := rfl
      have o2 : (mq_o c s.heap.size x).vm = .none := rfl
      rw [o1, o2]
      simp [State.fitsSlot, State.slotType?, f3, hk, hkind]
      rfl
    · rw [f1]
      show _ = ((mq s c comp x).pushCell (mq_i comp)).setCell s.heap.size (mq_o c s.heap.size (x + 1))
      rw [← mq_next]
  · rintro s' d' acts' ⟨i, hi, hl, rfl⟩
    have hiN : i = 6 := by
      rcases Nat.lt_or_ge i 6 with h | h
      · rw [show 6 - i = (6 - (i + 1)) + 1 from by omega, List.range'_succ] at hl; cases hl
      · omega
    subst hiN
    simp only [wp_pure']
    exact hq _ _
end
section
variable {p : Program} {l : Launch} {e : Env} {R : Room} {s : State} {m : MethodId} {args : Array Value} {below : List Frame} {meth : Method} {c : Code} {T : State} {locs : List Loc} {cells slots : Nat} {H : Heap} {Q : State → Prop}
def mq_l (h : Nat) (i : Nat) : List Loc := (List.range i).map fun j => ⟨h, j⟩
theorem mq_stand (X : Stand p l e R s m args below meth c T locs cells slots) (cA comp : ClassId) : ∀ i, Stand p l e R s m args below meth c (mq T cA comp i) (locs ++ mq_l T.heap.size i) (cells + 1 + i) (slots + 6 + i * 12)
  | 0 => by
    have h := X.pushed (mq_o cA T.heap.size 0)
    rw [show (mq_o cA T.heap.size 0).slots.size = 6 from arrV_size _ _ _] at h
    simpa [mq, mq_l] using h
  | i + 1 => by
    have Xi := mq_stand X cA comp i
    obtain ⟨f1, f2, f3, f4⟩ := mq_facts T cA comp i
    have hlt0 : T.heap.size < (mq T cA comp i).heap.size := by rw [f1]; omega
    have hcell : ((mq T cA comp i).pushCell (mq_i comp)).heap[T.heap.size]? = some (mq_o cA T.heap.size i) := by rw [State.heap_pushCell_of_lt (h := hlt0)]; exact f2
    have h := (Xi.pushed (mq_i comp)).stored hcell i (.ref (T.heap.size + 1 + i))
    rw [mq_next, show (mq_i comp).slots.size = 12 from arrV_size _ _ _] at h
    have e2 : (locs ++ mq_l T.heap.size (i + 1)) = (locs ++ mq_l T.heap.size i) ++ [⟨T.heap.size, i⟩] := by simp [mq_l, List.range_succ, List.append_assoc]
    have e3 : slots + 6 + (i + 1) * 12 = slots + 6 + i * 12 + 12 := by omega
    rw [e2, e3]
    exact h
theorem W_mna {cc : ByteArray} (hexec : p.tables.exec = Jvm.exec) (hb : c.code = cc) {own : String} {index : Nat} (hown : s.vm.findClass own = some m.cls) (hclink : (Cond.classLink own index "[[I").before args s = true) (hover : AOI s) (harr : (Cond.arrayClass .int).before args s = true) {g : JFrame} (hg : g.method = m) (hdg : decode cc g.pc = .ok (.multianewarray index 2, 4)) {rest : List Value} (hstack : g.stack = .int 12 :: .int 6 :: rest) (hcells : cells + 7 ≤ R.cells) (hslots : slots + 78 ≤ R.slots)
    (kk : ∀ (cA comp : ClassId) (H1 : Heap), s.vm.findClass ("[" ++ (FieldType.array .int).toString) = some cA → s.vm.findClass (FieldType.array .int).toString = some comp → H1.size = H.size + 7 → (∀ q : Nat, q < H.size → H1[q]? = H[q]?) → H1[H.size]? = some (mq_o cA H.size 6) → (∀ j, j < 6 → H1[H.size + 1 + j]? = some (mq_i comp)) →
      W p l e R s m args below meth c H1 (locs ++ mq_l H.size 6) (cells + 7) (slots + 78) Q { g with pc := g.pc + 4, stack := .ref H.size :: rest }) : W p l e R s m args below meth c H locs cells slots Q g := by
  intro T hT X
  subst hT; subst hb; subst hg
  have hpl : e.platform.magicAccessors = ({} : Platform).magicAccessors := by rw [X.admits.platform]
  obtain ⟨comp, cA, kA, hcomp, hidx, hkA, hkindA, hnameA⟩ := hover
  obtain ⟨comp', kC, cc, hcomp', hkC, hkindC⟩ := Cond.arrayClass_spec harr
  have ecomp : comp' = comp := Option.some.inj (hcomp'.symm.trans hcomp)
  subst ecomp
  obtain ⟨c0, hfc0, hcl⟩ := Cond.classLink_spec hown hclink e.platform hpl
  have hnameB : s.vm.findClass "[[I" = some cA := hnameA
  cases hnameB.symm.trans hfc0
  obtain ⟨hg₁, hwarm₁, hready₁⟩ := State.classEntry (e := e) X.warmed hcl
  generalize T.vm.noted g.method.cls index (.cls cA) = vm₁ at hg₁ hwarm₁ hready₁
  have hal : s.vm.Alike vm₁ := hwarm₁.alike
  obtain ⟨kA₁, hkA₁, heA⟩ := hal.2.2 _ _ hkA
  obtain ⟨kC₁, hkC₁, heC⟩ := hal.2.2 _ _ hkC
  have hkindA₁ : kA₁.kind = .array comp' (.array .int) := by rw [heA]; exact hkindA
  have hkindC₁ : kC₁.kind = .array cc .int := by rw [heC]; exact hkindC
  have X₁ := X.noted hwarm₁
  obtain ⟨hr1, hr2⟩ := X.roomAbove hcells hslots
  have XF := mq_stand X₁ cA comp' 6
  obtain ⟨f1, f2, f3, f4⟩ := mq_facts (T.setVm vm₁) cA comp' 6
  have fo := fun (a : Addr) (ha : a < (T.setVm vm₁).heap.size) => mq_old (T.setVm vm₁) cA comp' ha 6
  obtain ⟨t', a1, b1⟩ := kk cA comp' (mq (T.setVm vm₁) cA comp' 6).heap hnameA hcomp f1 fo f2 (fun j hj => mq_in (T.setVm vm₁) cA comp' 6 j hj) _ rfl XF
  refine ⟨t', ?_, b1⟩
  have hl1 : ¬ 6 > e.platform.arrayLengthLimit := by rw [Launch.admits_arrayLengthLimit X.admits]; omega
  have hh1 : ¬ 6 * componentBytes (.array .int) > e.platform.maxHeapBytes := by
    rw [Launch.admits_maxHeapBytes X.admits]; show ¬ 6 * 4 > 536870912; omega
  have hl2 : ¬ 12 > e.platform.arrayLengthLimit := by rw [Launch.admits_arrayLengthLimit X.admits]; omega
  have hh2 : ¬ 12 * componentBytes .int > e.platform.maxHeapBytes := by rw [Launch.admits_maxHeapBytes X.admits]; show ¬ 12 * 4 > 536870912; omega
  jvm_step X.here [hexec, hdg]
  simp only [multianewarray.sem, wp_bind', W.resolveClassAt_links (State.method?_setTop g X.here.top) hg₁]
  rw [W.popN, if_neg (by decide)]
  refine ⟨g, State.topJava?_setTop' (s := T.setVm vm₁) g X.here.top, [.int 6, .int 12], rest, rfl, hstack, ?_⟩
  simp only [List.mapM_cons, List.mapM_nil, wp_bind', wp_pure']
  refine mq_make2 (k := kA₁) (kc := kC₁) (comp := comp') (cc := cc) hkA₁ hkindA₁ hkC₁ hkindC₁ hl1 hh1 hl2 hh2 (by show T.heap.size + 7 ≤ _; omega) (by show T.slotsUsed + _ ≤ _; omega) (fun d' acts' => ?_)
  have eS : ((T.setTop g).setVm vm₁).setTop { g with stack := rest } = (T.setVm vm₁).setTop { g with stack := rest } := by
    show ((T.setVm vm₁).setTop g).setTop _ = _
    rw [State.setTop_setTop]
  rw [eS, mq_top]
  simp only [wp_bind', W.mark, W.pushRef, State.topJava?_setTop' _ XF.here.top, Option.some.injEq, exists_eq_left', State.setTop_setTop, State.heap_setTop]
  intro acts
  simp [jvm, XF.here.top]
  exact a1
end
section
variable {β : Type} {E : Env0} {rv : β → Option Value} {pc pc' : Nat} {lv : List (Nat × TV)} {st st' : List TV} {P P' : Prg β}
theorem mna_c {cy : Nat → ClassId} {S : St} {a : Nat} (h1 : a ≠ sX S) (h2 : ¬ (sX S < a ∧ a ≤ sX S + 6)) : cellF cy (mna S) a = cellF cy S a := by
  have h3 : ¬ (sX S ≤ a ∧ a ≤ sX S + 6) := by omega
  have eT : sT (mna S) a = sT S a := by show (if _ then _ else if _ then _ else _) = _; rw [if_neg h1, if_neg h2]
  have eN : sN (mna S) a = sN S a := by show (if _ then _ else if _ then _ else _) = _; rw [if_neg h1, if_neg h2]
  have eI : sI (mna S) a = sI S a := by show (if _ then _ else _) = _; rw [if_neg h3]
  have eJ : sJ (mna S) a = sJ S a := by show (if _ then _ else _) = _; rw [if_neg h3]
  have eF : sF (mna S) a = sF S a := by show (if _ then _ else if _ then _ else _) = _; rw [if_neg h1, if_neg h2]
  unfold cellF
  rw [eT, eN, eI, eJ, eF]
theorem sm_mna {idx : Nat} {n k : Int32} {K : Nat → Prg β} (hcl : Cond.classLink E.1 idx "[[I" ∈ gtbl) (harr : Cond.arrayClass .int ∈ gtbl) (hd : decode E.2.2.1 pc = .ok (.multianewarray idx 2, 4)) (hp : pc + 4 = pc') (kk : ∀ a, Sim E rv pc' lv (qv (some a) :: st) (K a)) : Sim E rv pc lv (iv k :: iv n :: st) (nM n k K) := by
  subst hp
  intro S x S' h0
  unfold nM at h0
  by_cases ht : n = 6 ∧ k = 12
  · rw [if_pos ht] at h0
    obtain ⟨rfl, rfl⟩ := ht
    have h2 := kk _ _ x S' h0
    have g1 : sX (mna S) = sX S + 7 := rfl
    have g2 : sS (mna S) = sS S + 78 := rfl
    have h3 := h2.1
    rw [g1, g2] at h3
    refine ⟨⟨by omega, by omega⟩, ?_⟩
    intro D cy p l e s m args below meth c0 R A n0 k0 H locs ls C a1 a2 a3 a4 a5 hW hS hl
    have hts := C.2.2.2.2.2.2.2.1
    have hKN := C.2.2.2.2.2.2.2.2.1
    have hA : ∀ q : Nat, sX S ≤ q → A q := fun q hq => a5 q (by have := hS.1; rw [hW.1] at this; omega)
    refine W_mna C.1 C.2.1 C.2.2.2.2.2.2.1 (hts _ hcl) hKN.2.2.2.2.2.2 (hts _ harr) rfl hd rfl (by omega) (by omega) fun cA comp H1 c1 c2 z1 o1 q1 q2 => ?_
    have e2 : sX S - n0 + 7 = sX (mna S) - n0 := by rw [g1]; omega
    have e3 : sS S - k0 + 78 = sS (mna S) - k0 := by rw [g2]; omega
    have hc2 : comp = cy 20 := cy_eq hKN (k := 0) rfl rfl c2
    have hc1 : cA = cy 26 := by
      have h9 := (hKN.1.2 6 _ rfl).2
      first | exact Option.some.inj (c1.symm.trans h9) | (obtain ⟨_, _, -, -, -, k4⟩ := h9; exact Option.some.inj (c1.symm.trans k4))
    rw [e2, e3, hW.1]
    rw [hW.1] at z1 o1 q1 q2
    refine h2.2 D cy p l e s m args below meth c0 R A n0 k0 H1 _ ls C (by rw [g1]; omega) (by rw [g2]; omega) a3 a4 a5 ⟨z1, fun a ha => ?_⟩ ?_ hl
    · by_cases b1 : a = sX S
      · subst b1
        refine ⟨hA _ (Nat.le_refl _), ?_⟩
        have t1 : sT (mna S) (sX S) = 26 := if_pos rfl
        have t2 : sN (mna S) (sX S) = 6 := if_pos rfl
        have t3 : sF (mna S) (sX S) = fun i => if i < 6 then some (sX S + 1 + i) else none := if_pos rfl
        rw [cell_Q (by rw [t1]; omega), t1, t2, t3, ← hc1]
        show H1[sX S]? = some (vp_cell _ _)
        rw [q1, vp_cell_q]
        unfold mq_o
        congr 2
        funext j
        by_cases hj : j < 6
        · rw [if_pos hj, if_pos hj]; rfl
        · rw [if_neg hj, if_neg hj]; rfl
      · by_cases b2 : sX S < a ∧ a ≤ sX S + 6
        · refine ⟨hA _ (by omega), ?_⟩
          have t1 : sT (mna S) a = 20 := by show (if _ then _ else if _ then _ else _) = _; rw [if_neg b1, if_pos b2]
          have t2 : sN (mna S) a = 12 := by show (if _ then _ else if _ then _ else _) = _; rw [if_neg b1, if_pos b2]
          have t3 : sI (mna S) a = fun _ => 0 := if_pos ⟨by omega, by omega⟩
          rw [cell_I t1, t2, t3, ← hc2]
          show H1[a]? = some (vp_cell _ _)
          have q3 := q2 (a - sX S - 1) (by omega)
          rw [show sX S + 1 + (a - sX S - 1) = a from by omega] at q3
          rw [q3, vp_cell_i]
          rfl
        · have t1 : sT (mna S) a = sT S a := by show (if _ then _ else if _ then _ else _) = _; rw [if_neg b1, if_neg b2]
          rw [t1] at ha
          have h9 := hW.2 a ha
          rw [mna_c b1 b2]
          have hlt : a < H.size := h9.2.lt
          exact ⟨h9.1, h9.2.kept (o1 a (by rw [← hW.1]; exact hlt))⟩
    · have hG := hS.grow (H1 := H1) (by rw [z1, hW.1]; omega) (fun z hz => o1 z (by rw [← hW.1]; exact hz))
      refine ⟨hG.1, hG.2.1, fun q hq => ?_⟩
      rcases List.mem_append.mp hq with h | h
      · exact hG.2.2 q h
      · obtain ⟨j, -, rfl⟩ := List.mem_map.mp h
        exact hA _ (Nat.le_refl _)
  · rw [if_neg ht] at h0
    cases h0
end
end R16
