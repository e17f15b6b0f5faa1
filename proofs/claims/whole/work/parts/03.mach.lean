/-! The memory of planes: what stands at an address (its tag, its length, its ints, longs, references), the next address, the slots made so far. Programs over it. What it means that bytes run as a program says. -/
abbrev St : Type := (Nat → Nat) × (Nat → Nat) × (Nat → Nat → Int32) × (Nat → Nat → Int64) × (Nat → Nat → Option Nat) × Nat × Nat
def sT (S : St) : Nat → Nat := S.1
def sN (S : St) : Nat → Nat := S.2.1
def sI (S : St) : Nat → Nat → Int32 := S.2.2.1
def sJ (S : St) : Nat → Nat → Int64 := S.2.2.2.1
def sF (S : St) : Nat → Nat → Option Nat := S.2.2.2.2.1
def sX (S : St) : Nat := S.2.2.2.2.2.1
def sS (S : St) : Nat := S.2.2.2.2.2.2
def wI (S : St) (a k : Nat) (v : Int32) : St := (sT S, sN S, va_up (sI S) a (upd (sI S a) k v), sJ S, sF S, sX S, sS S)
def wJ (S : St) (a k : Nat) (v : Int64) : St := (sT S, sN S, sI S, va_up (sJ S) a (vp_updL (sJ S a) k v), sF S, sX S, sS S)
def wF (S : St) (a k : Nat) (v : Option Nat) : St := (sT S, sN S, sI S, sJ S, va_up (sF S) a (va_up (sF S a) k v), sX S, sS S)
/-- the int row at a as a whole -/
def wIr (S : St) (a : Nat) (f : Nat → Int32) : St := (sT S, sN S, va_up (sI S) a f, sJ S, sF S, sX S, sS S)
def wJr (S : St) (a : Nat) (f : Nat → Int64) : St := (sT S, sN S, sI S, va_up (sJ S) a f, sF S, sX S, sS S)
/-- a new cell of tag t, length n, k slots, all 0 and null -/
def nw (S : St) (t n k : Nat) : St := (va_up (sT S) (sX S) t, va_up (sN S) (sX S) n, va_up (sI S) (sX S) (fun _ => 0), va_up (sJ S) (sX S) (fun _ => 0), va_up (sF S) (sX S) (fun _ => none), sX S + 1, sS S + k)
def tyT : Nat → Nat → FieldType := fun c => match c with
  | 0 => tyX0 | 1 => tyX1 | 2 => tyX2 | 3 => tyX3 | 4 => tyX4 | 5 => tyX5 | 6 => tyX6 | 7 => tyX7 | 8 => tyX9 | 9 => tyX10 | _ => tyX11
def isR (c k : Nat) : Bool := match tyT c k with
  | .object _ => true
  | .array _ => true
  | _ => false
def nF : Nat → Nat := fun c => match c with
  | 0 => 9 | 1 => 10 | 2 => 3 | 3 => 9 | 4 => 9 | 5 => 9 | 6 => 11 | 7 => 2 | 8 => 2 | 9 => 7 | _ => 45
def flds (c : Nat) (i : Nat → Int32) (f : Nat → Option Nat) : List Value := (List.range (nF c)).map (fun k => if isR c k then va_rf (f k) else .int (i k))
/-- tags: 1 .. 11 objects (a class of vwCl, and 1), 20 int[], 21 boolean[], 22 long[], 23 Sheet[], 24 Thing[], 25 Part[], 26 int[][] -/
def cellF (cy : Nat → ClassId) (S : St) (a : Nat) : va_E :=
  if sT S a < 20 then .inr (sT S a - 1, flds (sT S a - 1) (sI S a) (sF S a))
  else if sT S a < 22 then .inl (cy (sT S a), sN S a, .inl (sI S a))
  else if sT S a = 22 then .inl (cy (sT S a), sN S a, .inr (.inl (sJ S a)))
  else .inl (cy (sT S a), sN S a, .inr (.inr (.inr (.inr (sF S a)))))
def tysF (cy : Nat → ClassId) : List (ClassId × FieldType) := [(cy 20, .int), (cy 21, .boolean), (cy 22, .long), (cy 23, .object "HollowPress$Sheet"), (cy 24, .object "HollowPress$Thing"), (cy 25, .object "HollowPress$Part"), (cy 26, .array .int)]
def gtbl : List Cond := lw_tbl.filter goodWord
def nwK : Cond → Bool
  | .methodLinkNest _ _ _ _ => true
  | .castable _ _ => true
  | .declares _ => true
  | .arrayOver (.object _) => true
  | _ => false
def nws : List Cond := lw_tbl.filter nwK
/-- what the tables say of int[][] -/
def AOI (U : State) : Prop := ∃ (comp c : ClassId) (k : Class), U.vm.findClass (FieldType.array .int).toString = some comp ∧ (U.vm.classes.findIdx? fun (x : Class) => match x.kind with | .array component _ => component == comp | _ => false) = some c ∧ U.vm.classes[c]? = some k ∧ k.kind = .array comp (.array .int) ∧ U.vm.findClass ("[" ++ (FieldType.array .int).toString) = some c
def KN (D : va_G) (cy : Nat → ClassId) (U : State) : Prop := va_K D vwCl (tysF cy) U ∧ (∀ w ∈ nws, va_Nw w U) ∧ va_Nc "HollowPress$Layers" "HollowPress$Part" U ∧ va_Nc "HollowPress$Part" "HollowPress$Layers" U ∧ va_Nc "HollowPress$EvenPart" "HollowPress$Layers" U ∧ va_Nc "HollowPress$Plate" "HollowPress$Layers" U ∧ AOI U
def Wd (D : va_G) (cy : Nat → ClassId) (A : Nat → Prop) (S : St) (H : Heap) : Prop := H.size = sX S ∧ ∀ a, sT S a ≠ 0 → A a ∧ va_at D vwCl (a, cellF cy S a) H
/-- own class, method's name, bytes, locals, return type, how many frames may stand above -/
abbrev Env0 : Type := String × String × ByteArray × Nat × Option FieldType × Nat
def Ctx (E : Env0) (D : va_G) (cy : Nat → ClassId) (p : Program) (s : State) (m : MethodId) (args : Array Value) (meth : Method) (c : Code) (R : Room) : Prop :=
  p.tables.exec = Jvm.exec ∧ c.code = E.2.2.1 ∧ c.maxLocals = E.2.2.2.1 ∧ meth.sig.returnType = E.2.2.2.2.1 ∧ meth.locks = false ∧ meth.name = E.2.1 ∧ s.vm.findClass E.1 = some m.cls ∧ (∀ w ∈ gtbl, w.before args s = true) ∧ KN D cy s ∧ E.2.2.2.2.2 ≤ R.frames ∧ 40 * E.2.2.2.2.2 ≤ R.locals
def Qo (D : va_G) (cy : Nat → ClassId) (A : Nat → Prop) (o : Option Value) (S' : St) : Array Value → State → Outcome → State → Prop := fun _ st oc t => oc = .returned o ∧ Wd D cy A S' t.heap ∧ va_F A st t
/-- a value on the stack or in a local: an int, a long, a reference or null -/
abbrev TV : Type := Int32 ⊕ Int64 ⊕ Option Nat
abbrev iv (x : Int32) : TV := .inl x
abbrev jv (x : Int64) : TV := .inr (.inl x)
abbrev qv (r : Option Nat) : TV := .inr (.inr r)
def tv (v : TV) : Value := match v with
  | .inl x => .int x
  | .inr (.inl x) => .long x
  | .inr (.inr r) => va_rf r
def tq (q : Nat × TV) : Nat × Value := (q.1, tv q.2)
def isJ (v : TV) : Bool := match v with
  | .inr (.inl _) => true
  | _ => false
def Ev (E : Env0) (pc : Nat) (lv : List (Nat × TV)) (st : List TV) (S : St) (o : Option Value) (S' : St) : Prop :=
  ∀ (D : va_G) (cy : Nat → ClassId) (p : Program) (l : Launch) (e : Env) (s : State) (m : MethodId) (args : Array Value) (below : List Frame) (meth : Method) (c : Code) (R : Room) (A : Nat → Prop) (n0 k0 : Nat) (H : Heap) (locs : List Loc) (ls : Array Slot),
    Ctx E D cy p s m args meth c R → n0 ≤ sX S → k0 ≤ sS S → sX S' - n0 ≤ R.cells → sS S' - k0 ≤ R.slots → (∀ q : Nat, s.heap.size ≤ q → A q) → Wd D cy A S H → va_S A s.heap H locs → lv_has ls E.2.2.2.1 (lv.map tq) →
    W p l e R s m args below meth c H locs (sX S - n0) (sS S - k0) (MQ below (Qo D cy A o S') args s (sX S' - n0) (sS S' - k0) A) (F0 m pc ls (st.map tv))
abbrev Prg (β : Type) : Type := St → Option (β × St)
def Sim {β : Type} (E : Env0) (rv : β → Option Value) (pc : Nat) (lv : List (Nat × TV)) (st : List TV) (P : Prg β) : Prop := ∀ (S : St) (x : β) (S' : St), P S = some (x, S') → (sX S ≤ sX S' ∧ sS S ≤ sS S') ∧ Ev E pc lv st S (rv x) S'
-- programs
def fit (c t : Nat) : Bool := if c = 4 then t == 4 || t == 1 || t == 5 else if c = 1 then t == 1 || t == 5 else if c = 12 then t == 1 || t == 3 || t == 4 || t == 5 else t == c
def fl {β : Type} : Prg β := fun _ => none
def rt {β : Type} (x : β) : Prg β := fun S => some (x, S)
def cl {α β : Type} (P : Prg α) (K : α → Prg β) : Prg β := fun S => match P S with
  | none => none
  | some (x, S') => K x S'
def lt {α β : Type} (k : α) (f : α → Prg β) : Prg β := f k
def un {β : Type} (r : Option Nat) (K : Nat → Prg β) : Prg β := match r with
  | none => fl
  | some a => K a
def nu {β : Type} (r : Option Nat) (P : Prg β) (K : Nat → Prg β) : Prg β := match r with
  | none => P
  | some a => K a
def gI {β : Type} (c a k : Nat) (K : Int32 → Prg β) : Prg β := fun S => if fit c (sT S a) = true then K (sI S a k) S else none
def gF {β : Type} (c a k : Nat) (K : Option Nat → Prg β) : Prg β := fun S => if fit c (sT S a) = true then K (sF S a k) S else none
def pI {β : Type} (c a k : Nat) (v : Int32) (P : Prg β) : Prg β := fun S => if fit c (sT S a) = true then P (wI S a k v) else none
def pF {β : Type} (c a k : Nat) (v : Option Nat) (P : Prg β) : Prg β := fun S => if fit c (sT S a) = true then P (wF S a k v) else none
/-- a boolean field: what is put is 0 or 1 -/
def pZ {β : Type} (c a k : Nat) (v : Int32) (P : Prg β) : Prg β := fun S => if fit c (sT S a) = true ∧ vp_nar .boolean v = v then P (wI S a k v) else none
def inB (i : Int32) (n : Nat) : Bool := !(decide (i < 0)) && decide (i.toNatClampNeg < n)
def ldI {β : Type} (a : Nat) (i : Int32) (K : Int32 → Prg β) : Prg β := fun S => if sT S a = 20 ∧ inB i (sN S a) = true then K (sI S a i.toNatClampNeg) S else none
def stI {β : Type} (a : Nat) (i v : Int32) (P : Prg β) : Prg β := fun S => if sT S a = 20 ∧ inB i (sN S a) = true then P (wI S a i.toNatClampNeg v) else none
def ldZ {β : Type} (a : Nat) (i : Int32) (K : Int32 → Prg β) : Prg β := fun S => if sT S a = 21 ∧ inB i (sN S a) = true then K (sI S a i.toNatClampNeg) S else none
def stZ {β : Type} (a : Nat) (i v : Int32) (P : Prg β) : Prg β := fun S => if sT S a = 21 ∧ inB i (sN S a) = true then P (wI S a i.toNatClampNeg (vp_nar .boolean v)) else none
def ldJ {β : Type} (a : Nat) (i : Int32) (K : Int64 → Prg β) : Prg β := fun S => if sT S a = 22 ∧ inB i (sN S a) = true then K (sJ S a i.toNatClampNeg) S else none
def stJ {β : Type} (a : Nat) (i : Int32) (v : Int64) (P : Prg β) : Prg β := fun S => if sT S a = 22 ∧ inB i (sN S a) = true then P (wJ S a i.toNatClampNeg v) else none
def ldF {β : Type} (a : Nat) (i : Int32) (K : Option Nat → Prg β) : Prg β := fun S => if 23 ≤ sT S a ∧ sT S a ≤ 26 ∧ inB i (sN S a) = true then K (sF S a i.toNatClampNeg) S else none
/-- may a cell of tag t stand in a row of tag r -/
def canSt (r t : Nat) : Bool := (r == 23 && t == 8) || (r == 24 && (t == 1 || t == 3 || t == 4 || t == 5)) || (r == 25 && (t == 4 || t == 1 || t == 5))
def okSt (S : St) (r : Nat) (v : Option Nat) : Bool := match v with
  | none => true
  | some b => canSt r (sT S b)
def stF {β : Type} (a : Nat) (i : Int32) (v : Option Nat) (P : Prg β) : Prg β := fun S => if 23 ≤ sT S a ∧ sT S a ≤ 25 ∧ inB i (sN S a) = true ∧ okSt S (sT S a) v = true then P (wF S a i.toNatClampNeg v) else none
def ln {β : Type} (a : Nat) (K : Int32 → Prg β) : Prg β := fun S => if 20 ≤ sT S a ∧ sT S a ≤ 26 then K (Int32.ofNat (sN S a)) S else none
def nO {β : Type} (t : Nat) (K : Nat → Prg β) : Prg β := fun S => if 1 ≤ t ∧ t ≤ 11 then K (sX S) (nw S t 0 (nF (t - 1))) else none
def nA {β : Type} (t : Nat) (n : Int32) (K : Nat → Prg β) : Prg β := fun S => if inB n 67108864 = true ∧ 20 ≤ t ∧ t ≤ 25 then K (sX S) (nw S t n.toNatClampNeg n.toNatClampNeg) else none
/-- is what stands there of class c (4 Part, 3 Layers) -/
def iO {β : Type} (c : Nat) (r : Option Nat) (K : Int32 → Prg β) : Prg β := fun S => match r with
  | none => K 0 S
  | some a => if fit 12 (sT S a) = true ∧ (c = 3 ∨ c = 4) then (if fit c (sT S a) = true then K 1 S else K 0 S) else none
def cO {β : Type} (c : Nat) (a : Nat) (P : Prg β) : Prg β := fun S => if fit c (sT S a) = true then P S else none
/-- int division and rest: not by 0 -/
def dv {β : Type} (x y : Int32) (K : Int32 → Prg β) : Prg β := if y = 0 then fl else K (x / y)
def rm {β : Type} (x y : Int32) (K : Int32 → Prg β) : Prg β := if y = 0 then fl else K (x - x / y * y)
def rtZ (x : Int32) : Prg Int32 := fun S => if vp_nar .boolean x = x then some (x, S) else none
-- what a method's answer is as a value
def vI (x : Int32) : Option Value := some (.int x)
def vL (x : Int64) : Option Value := some (.long x)
def vR (x : Option Nat) : Option Value := some (va_rf x)
def vU (_ : Unit) : Option Value := none
