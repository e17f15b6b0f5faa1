/-! rows of Sim that touch stack and locals alone -/
section Rows
variable {β : Type} {E : Env0} {rv : β → Option Value} {pc pc' : Nat} {lv : List (Nat × TV)} {st st' : List TV} {P P' : Prg β}
theorem sm_step (h : ∀ (p : Program) (l : Launch) (e : Env) (s : State) (m : MethodId) (args : Array Value) (below : List Frame) (meth : Method) (c : Code) (R : Room) (H : Heap) (locs : List Loc) (cells slots : Nat) (Q : State → Prop) (ls : Array Slot), p.tables.exec = Jvm.exec → c.code = E.2.2.1 → s.vm.findClass E.1 = some m.cls → (∀ w ∈ gtbl, w.before args s = true) → lv_has ls E.2.2.2.1 (lv.map tq) → W p l e R s m args below meth c H locs cells slots Q (F0 m pc' ls (st'.map tv)) → W p l e R s m args below meth c H locs cells slots Q (F0 m pc ls (st.map tv))) (k : Sim E rv pc' lv st' P) : Sim E rv pc lv st P := by
  intro S x S' hp
  refine ⟨(k S x S' hp).1, ?_⟩
  intro D cy p l e s m args below meth c R A n0 k0 H locs ls C h1 h2 h3 h4 h5 hW hS hl
  exact h p l e s m args below meth c R H locs _ _ _ ls C.1 C.2.1 C.2.2.2.2.2.2.1 C.2.2.2.2.2.2.2.1 hl ((k S x S' hp).2 D cy p l e s m args below meth c R A n0 k0 H locs ls C h1 h2 h3 h4 h5 hW hS hl)
theorem sm_fl : Sim E rv pc lv st (fl : Prg β) := fun _ _ _ h => by cases h
theorem sm_unN {K : Nat → Prg β} : Sim E rv pc lv st (un none K) := fun _ _ _ h => by cases h
theorem sm_unS {K : Nat → Prg β} {a : Nat} (h : Sim E rv pc lv st (K a)) : Sim E rv pc lv st (un (some a) K) := h
theorem sm_nuN {K : Nat → Prg β} (h : Sim E rv pc lv st P) : Sim E rv pc lv st (nu none P K) := h
theorem sm_nuS {K : Nat → Prg β} {a : Nat} (h : Sim E rv pc lv st (K a)) : Sim E rv pc lv st (nu (some a) P K) := h
theorem sm_lt {α : Type} {K : α} {f : α → Prg β} (good : α → Prop) (hK : good K) (h : ∀ k, good k → Sim E rv pc lv st (f k)) : Sim E rv pc lv st (lt K f) := h K hK

theorem sm_iconst {n : Int} (v : Int32) (hd : decode E.2.2.1 pc = .ok (.iconst n, 1)) (hv : Int32.ofInt n = v) (hp : pc + 1 = pc') (k : Sim E rv pc' lv (iv v :: st) P) : Sim E rv pc lv st P := by
  subst hp
  exact sm_step (fun _ _ _ _ _ _ _ _ _ _ _ _ _ _ _ _ hx hb _ _ _ kk => lv_iconst hx hb hd hv kk) k
theorem sm_bipush {n : Int} (v : Int32) (hd : decode E.2.2.1 pc = .ok (.bipush n, 2)) (hv : (Int8.ofInt n).toInt32 = v) (hp : pc + 2 = pc') (k : Sim E rv pc' lv (iv v :: st) P) : Sim E rv pc lv st P := by
  subst hp
  exact sm_step (fun _ _ _ _ _ _ _ _ _ _ _ _ _ _ _ _ hx hb _ _ _ kk => lv_bipush hx hb hd hv kk) k
theorem sm_sipush {n : Int} (v : Int32) (hd : decode E.2.2.1 pc = .ok (.sipush n, 3)) (hv : (Int16.ofInt n).toInt32 = v) (hp : pc + 3 = pc') (k : Sim E rv pc' lv (iv v :: st) P) : Sim E rv pc lv st P := by
  subst hp
  exact sm_step (fun _ _ _ _ _ _ _ _ _ _ _ _ _ _ _ _ hx hb _ _ _ kk => lv_sipush hx hb hd hv kk) k
theorem sm_lconst {n : Fin 2} (v : Int64) (hd : decode E.2.2.1 pc = .ok (.lconst n, 1)) (hv : Int64.ofNat (n : Nat) = v) (hp : pc + 1 = pc') (k : Sim E rv pc' lv (jv v :: st) P) : Sim E rv pc lv st P := by
  subst hp
  exact sm_step (fun _ _ _ _ _ _ _ _ _ _ _ _ _ _ _ _ hx hb _ _ _ kk => lv_lconst hx hb hd hv kk) k
theorem sm_ldc {i : Nat} (v : Int32) (hc : Cond.constant E.1 i v ∈ gtbl) (hd : decode E.2.2.1 pc = .ok (.ldc i, 2)) (hp : pc + 2 = pc') (k : Sim E rv pc' lv (iv v :: st) P) : Sim E rv pc lv st P := by
  subst hp
  exact sm_step (fun _ _ _ _ _ _ _ _ _ _ _ _ _ _ _ _ hx hb ho ht _ kk => lv_ldc hx hb ho (ht _ hc) hd kk) k
theorem sm_ldcw {i : Nat} (v : Int32) (hc : Cond.constant E.1 i v ∈ gtbl) (hd : decode E.2.2.1 pc = .ok (.ldc_w i, 3)) (hp : pc + 3 = pc') (k : Sim E rv pc' lv (iv v :: st) P) : Sim E rv pc lv st P := by
  subst hp
  exact sm_step (fun _ _ _ _ _ _ _ _ _ _ _ _ _ _ _ _ hx hb ho ht _ kk => lv_ldcw hx hb ho (ht _ hc) hd kk) k
theorem sm_ldc2 {i : Nat} (v : Int64) (hc : Cond.constantLong E.1 i v ∈ gtbl) (hd : decode E.2.2.1 pc = .ok (.ldc2_w i, 3)) (hp : pc + 3 = pc') (k : Sim E rv pc' lv (jv v :: st) P) : Sim E rv pc lv st P := by
  subst hp
  exact sm_step (fun _ _ _ _ _ _ _ _ _ _ _ _ _ _ _ _ hx hb ho ht _ kk => lv_ldc2 hx hb ho (ht _ hc) hd kk) k
theorem sm_null (hd : decode E.2.2.1 pc = .ok (.aconst_null, 1)) (hp : pc + 1 = pc') (k : Sim E rv pc' lv (qv none :: st) P) : Sim E rv pc lv st P := by
  subst hp
  exact sm_step (fun _ _ _ _ _ _ _ _ _ _ _ _ _ _ _ _ hx hb _ _ _ kk => lv_null hx hb hd kk) k
theorem lk_mem {i : Nat} {v : TV} : ∀ {l : List (Nat × TV)}, l.lookup i = some v → (i, v) ∈ l
  | [], h => by simp at h
  | (j, u) :: l, h => by
    simp only [List.lookup_cons] at h
    by_cases e : i = j
    · subst e
      simp at h
      subst h
      exact List.mem_cons_self
    · rw [show (i == j) = false by simp [e]] at h
      exact List.mem_cons_of_mem _ (lk_mem h)
theorem lk_at {ls : Array Slot} {nL i : Nat} {v : TV} {l : List (Nat × TV)} (h : lv_has ls nL (l.map tq)) (hk : l.lookup i = some v) : ls[i]? = some (.val (tv v)) := h.2.2 (i, tv v) (List.mem_map.mpr ⟨(i, v), lk_mem hk, rfl⟩)
theorem sm_iload_n {k : Fin 4} {x : Int32} (hd : decode E.2.2.1 pc = .ok (.iload_n k, 1)) (hl : lv.lookup (k : Nat) = some (iv x)) (hp : pc + 1 = pc') (k : Sim E rv pc' lv (iv x :: st) P) : Sim E rv pc lv st P := by
  subst hp
  exact sm_step (fun _ _ _ _ _ _ _ _ _ _ _ _ _ _ _ _ hx hb _ _ h kk => lv_iload_n hx hb hd rfl (lk_at h hl) kk) k
theorem sm_iload {i : Nat} {x : Int32} (hd : decode E.2.2.1 pc = .ok (.iload i, 2)) (hl : lv.lookup i = some (iv x)) (hp : pc + 2 = pc') (k : Sim E rv pc' lv (iv x :: st) P) : Sim E rv pc lv st P := by
  subst hp
  exact sm_step (fun _ _ _ _ _ _ _ _ _ _ _ _ _ _ _ _ hx hb _ _ h kk => lv_iload hx hb hd (lk_at h hl) kk) k
theorem sm_lload_n {k : Fin 4} {x : Int64} (hd : decode E.2.2.1 pc = .ok (.lload_n k, 1)) (hl : lv.lookup (k : Nat) = some (jv x)) (hp : pc + 1 = pc') (k : Sim E rv pc' lv (jv x :: st) P) : Sim E rv pc lv st P := by
  subst hp
  exact sm_step (fun _ _ _ _ _ _ _ _ _ _ _ _ _ _ _ _ hx hb _ _ h kk => lv_lload_n hx hb hd rfl (lk_at h hl) kk) k
theorem sm_lload {i : Nat} {x : Int64} (hd : decode E.2.2.1 pc = .ok (.lload i, 2)) (hl : lv.lookup i = some (jv x)) (hp : pc + 2 = pc') (k : Sim E rv pc' lv (jv x :: st) P) : Sim E rv pc lv st P := by
  subst hp
  exact sm_step (fun _ _ _ _ _ _ _ _ _ _ _ _ _ _ _ _ hx hb _ _ h kk => lv_lload hx hb hd (lk_at h hl) kk) k
theorem sm_aload_n {k : Fin 4} {r : Option Nat} (hd : decode E.2.2.1 pc = .ok (.aload_n k, 1)) (hl : lv.lookup (k : Nat) = some (qv r)) (hp : pc + 1 = pc') (k : Sim E rv pc' lv (qv r :: st) P) : Sim E rv pc lv st P := by
  subst hp
  cases r with
  | none => exact sm_step (fun _ _ _ _ _ _ _ _ _ _ _ _ _ _ _ _ hx hb _ _ h kk => lv_aload_nN hx hb hd rfl (lk_at h hl) kk) k
  | some a => exact sm_step (fun _ _ _ _ _ _ _ _ _ _ _ _ _ _ _ _ hx hb _ _ h kk => lv_aload_n hx hb hd rfl (lk_at h hl) kk) k
theorem sm_aload {i : Nat} {r : Option Nat} (hd : decode E.2.2.1 pc = .ok (.aload i, 2)) (hl : lv.lookup i = some (qv r)) (hp : pc + 2 = pc') (k : Sim E rv pc' lv (qv r :: st) P) : Sim E rv pc lv st P := by
  subst hp
  cases r with
  | none => exact sm_step (fun _ _ _ _ _ _ _ _ _ _ _ _ _ _ _ _ hx hb _ _ h kk => lv_aloadN hx hb hd (lk_at h hl) kk) k
  | some a => exact sm_step (fun _ _ _ _ _ _ _ _ _ _ _ _ _ _ _ _ hx hb _ _ h kk => lv_aload hx hb hd (lk_at h hl) kk) k
def lst (lv : List (Nat × TV)) (i : Nat) (v : TV) : List (Nat × TV) := (i, v) :: lv.filter (fun q => !(q.1 == i) && !(q.1 + 1 == i && isJ q.2))
def lsj (lv : List (Nat × TV)) (i : Nat) (v : TV) : List (Nat × TV) := (i, v) :: lv.filter (fun q => !(q.1 == i) && (!(q.1 == i + 1) && !(q.1 + 1 == i && isJ q.2)))
theorem cat_j (v : TV) : ((tv v).category == 2) = isJ v := by
  rcases v with x | x | r
  · rfl
  · rfl
  · cases r <;> rfl
theorem lst_map (lv : List (Nat × TV)) (i : Nat) (v : TV) : (i, tv v) :: (lv.map tq).filter (fun q => !(q.1 == i) && !(q.1 + 1 == i && q.2.category == 2)) = (lst lv i v).map tq := by
  unfold lst
  rw [List.map_cons, List.filter_map]
  congr 2
  apply List.filter_congr
  intro q _
  simp only [Function.comp, tq, cat_j]
theorem lsj_map (lv : List (Nat × TV)) (i : Nat) (v : TV) : (i, tv v) :: (lv.map tq).filter (fun q => !(q.1 == i) && (!(q.1 == i + 1) && !(q.1 + 1 == i && q.2.category == 2))) = (lsj lv i v).map tq := by
  unfold lsj
  rw [List.map_cons, List.filter_map]
  congr 2
  apply List.filter_congr
  intro q _
  simp only [Function.comp, tq, cat_j]
/-- a step that changes the locals -/
theorem sm_stepL {lv' : List (Nat × TV)} (h : ∀ (p : Program) (l : Launch) (e : Env) (s : State) (m : MethodId) (args : Array Value) (below : List Frame) (meth : Method) (c : Code) (R : Room) (H : Heap) (locs : List Loc) (cells slots : Nat) (Q : State → Prop) (ls : Array Slot), p.tables.exec = Jvm.exec → c.code = E.2.2.1 → lv_has ls E.2.2.2.1 (lv.map tq) → (∀ ls' : Array Slot, lv_has ls' E.2.2.2.1 (lv'.map tq) → W p l e R s m args below meth c H locs cells slots Q (F0 m pc' ls' (st'.map tv))) → W p l e R s m args below meth c H locs cells slots Q (F0 m pc ls (st.map tv))) (k : Sim E rv pc' lv' st' P) : Sim E rv pc lv st P := by
  intro S x S' hp
  refine ⟨(k S x S' hp).1, ?_⟩
  intro D cy p l e s m args below meth c R A n0 k0 H locs ls C h1 h2 h3 h4 h5 hW hS hl
  exact h p l e s m args below meth c R H locs _ _ _ ls C.1 C.2.1 hl (fun ls' hl' => (k S x S' hp).2 D cy p l e s m args below meth c R A n0 k0 H locs ls' C h1 h2 h3 h4 h5 hW hS hl')
theorem sm_istore_n {k : Fin 4} {i : Nat} {x : Int32} (lv' : List (Nat × TV)) (hd : decode E.2.2.1 pc = .ok (.istore_n k, 1)) (hi : (k : Nat) = i) (hn : i < E.2.2.2.1) (hl : lst lv i (iv x) = lv') (hp : pc + 1 = pc') (k : Sim E rv pc' lv' st P) : Sim E rv pc lv (iv x :: st) P := by
  subst hp
  exact sm_stepL (fun _ _ _ _ _ _ _ _ _ _ _ _ _ _ _ _ hx hb h kk => lv_istore_n hx hb hd hi h hn (by rw [← hl]; exact lst_map lv i (iv x)) kk) k
theorem sm_istore {i : Nat} {x : Int32} (lv' : List (Nat × TV)) (hd : decode E.2.2.1 pc = .ok (.istore i, 2)) (hn : i < E.2.2.2.1) (hl : lst lv i (iv x) = lv') (hp : pc + 2 = pc') (k : Sim E rv pc' lv' st P) : Sim E rv pc lv (iv x :: st) P := by
  subst hp
  exact sm_stepL (fun _ _ _ _ _ _ _ _ _ _ _ _ _ _ _ _ hx hb h kk => lv_istore hx hb hd h hn (by rw [← hl]; exact lst_map lv i (iv x)) kk) k
theorem sm_lstore_n {k : Fin 4} {i : Nat} {x : Int64} (lv' : List (Nat × TV)) (hd : decode E.2.2.1 pc = .ok (.lstore_n k, 1)) (hi : (k : Nat) = i) (hn : i + 1 < E.2.2.2.1) (hl : lsj lv i (jv x) = lv') (hp : pc + 1 = pc') (k : Sim E rv pc' lv' st P) : Sim E rv pc lv (jv x :: st) P := by
  subst hp
  exact sm_stepL (fun _ _ _ _ _ _ _ _ _ _ _ _ _ _ _ _ hx hb h kk => lv_lstore_n hx hb hd hi h hn (by rw [← hl]; exact lsj_map lv i (jv x)) kk) k
theorem sm_lstore {i : Nat} {x : Int64} (lv' : List (Nat × TV)) (hd : decode E.2.2.1 pc = .ok (.lstore i, 2)) (hn : i + 1 < E.2.2.2.1) (hl : lsj lv i (jv x) = lv') (hp : pc + 2 = pc') (k : Sim E rv pc' lv' st P) : Sim E rv pc lv (jv x :: st) P := by
  subst hp
  exact sm_stepL (fun _ _ _ _ _ _ _ _ _ _ _ _ _ _ _ _ hx hb h kk => lv_lstore hx hb hd h hn (by rw [← hl]; exact lsj_map lv i (jv x)) kk) k
theorem sm_astore_n {k : Fin 4} {i : Nat} {r : Option Nat} (lv' : List (Nat × TV)) (hd : decode E.2.2.1 pc = .ok (.astore_n k, 1)) (hi : (k : Nat) = i) (hn : i < E.2.2.2.1) (hl : lst lv i (qv r) = lv') (hp : pc + 1 = pc') (k : Sim E rv pc' lv' st P) : Sim E rv pc lv (qv r :: st) P := by
  subst hp
  cases r with
  | none => exact sm_stepL (fun _ _ _ _ _ _ _ _ _ _ _ _ _ _ _ _ hx hb h kk => lv_astore_nN hx hb hd hi h hn (by rw [← hl]; exact lst_map lv i (qv none)) kk) k
  | some a => exact sm_stepL (fun _ _ _ _ _ _ _ _ _ _ _ _ _ _ _ _ hx hb h kk => lv_astore_n hx hb hd hi h hn (by rw [← hl]; exact lst_map lv i (qv (some a))) kk) k
theorem sm_astore {i : Nat} {r : Option Nat} (lv' : List (Nat × TV)) (hd : decode E.2.2.1 pc = .ok (.astore i, 2)) (hn : i < E.2.2.2.1) (hl : lst lv i (qv r) = lv') (hp : pc + 2 = pc') (k : Sim E rv pc' lv' st P) : Sim E rv pc lv (qv r :: st) P := by
  subst hp
  cases r with
  | none => exact sm_stepL (fun _ _ _ _ _ _ _ _ _ _ _ _ _ _ _ _ hx hb h kk => lv_astoreN hx hb hd h hn (by rw [← hl]; exact lst_map lv i (qv none)) kk) k
  | some a => exact sm_stepL (fun _ _ _ _ _ _ _ _ _ _ _ _ _ _ _ _ hx hb h kk => lv_astore hx hb hd h hn (by rw [← hl]; exact lst_map lv i (qv (some a))) kk) k
theorem lk_idx {i : Nat} {v : TV} {l : List (Nat × TV)} (h : l.lookup i = some v) : ∃ k : Nat, (l.map tq)[k]? = some (i, tv v) := List.getElem?_of_mem (List.mem_map.mpr ⟨(i, v), lk_mem h, rfl⟩)
theorem sm_iinc {i : Nat} {n : Int} {x : Int32} (v : Int32) (lv' : List (Nat × TV)) (hd : decode E.2.2.1 pc = .ok (.iinc i n, 3)) (hx0 : lv.lookup i = some (iv x)) (hv : x + Int32.ofInt n = v) (hn : i < E.2.2.2.1) (hl : lst lv i (iv v) = lv') (hp : pc + 3 = pc') (k : Sim E rv pc' lv' st P) : Sim E rv pc lv st P := by
  subst hp
  obtain ⟨j, hj⟩ := lk_idx hx0
  exact sm_stepL (fun _ _ _ _ _ _ _ _ _ _ _ _ _ _ _ _ hx hb h kk => lv_iinc hx hb hd h hj hv hn (by rw [← hl]; exact lst_map lv i (iv v)) kk) k
theorem sm_iadd {x y : Int32} (hd : decode E.2.2.1 pc = .ok (.iadd, 1)) (hp : pc + 1 = pc') (k : Sim E rv pc' lv (iv (x + y) :: st) P) : Sim E rv pc lv (iv y :: iv x :: st) P := by
  subst hp
  exact sm_step (fun _ _ _ _ _ _ _ _ _ _ _ _ _ _ _ _ hx hb _ _ _ kk => lv_iadd hx hb hd kk) k
theorem sm_isub {x y : Int32} (hd : decode E.2.2.1 pc = .ok (.isub, 1)) (hp : pc + 1 = pc') (k : Sim E rv pc' lv (iv (x - y) :: st) P) : Sim E rv pc lv (iv y :: iv x :: st) P := by
  subst hp
  exact sm_step (fun _ _ _ _ _ _ _ _ _ _ _ _ _ _ _ _ hx hb _ _ _ kk => lv_isub hx hb hd kk) k
theorem sm_imul {x y : Int32} (hd : decode E.2.2.1 pc = .ok (.imul, 1)) (hp : pc + 1 = pc') (k : Sim E rv pc' lv (iv (x * y) :: st) P) : Sim E rv pc lv (iv y :: iv x :: st) P := by
  subst hp
  exact sm_step (fun _ _ _ _ _ _ _ _ _ _ _ _ _ _ _ _ hx hb _ _ _ kk => lv_imul hx hb hd kk) k
theorem sm_iand {x y : Int32} (hd : decode E.2.2.1 pc = .ok (.iand, 1)) (hp : pc + 1 = pc') (k : Sim E rv pc' lv (iv (x &&& y) :: st) P) : Sim E rv pc lv (iv y :: iv x :: st) P := by
  subst hp
  exact sm_step (fun _ _ _ _ _ _ _ _ _ _ _ _ _ _ _ _ hx hb _ _ _ kk => lv_iand hx hb hd kk) k
theorem sm_ixor {x y : Int32} (hd : decode E.2.2.1 pc = .ok (.ixor, 1)) (hp : pc + 1 = pc') (k : Sim E rv pc' lv (iv (x ^^^ y) :: st) P) : Sim E rv pc lv (iv y :: iv x :: st) P := by
  subst hp
  exact sm_step (fun _ _ _ _ _ _ _ _ _ _ _ _ _ _ _ _ hx hb _ _ _ kk => lv_ixor hx hb hd kk) k
theorem sm_ior {x y : Int32} (hd : decode E.2.2.1 pc = .ok (.ior, 1)) (hp : pc + 1 = pc') (k : Sim E rv pc' lv (iv (x ||| y) :: st) P) : Sim E rv pc lv (iv y :: iv x :: st) P := by
  subst hp
  exact sm_step (fun _ _ _ _ _ _ _ _ _ _ _ _ _ _ _ _ hx hb _ _ _ kk => lv_ior hx hb hd kk) k
theorem sm_ishl {x y : Int32} (hd : decode E.2.2.1 pc = .ok (.ishl, 1)) (hp : pc + 1 = pc') (k : Sim E rv pc' lv (iv (x <<< (y &&& 31)) :: st) P) : Sim E rv pc lv (iv y :: iv x :: st) P := by
  subst hp
  exact sm_step (fun _ _ _ _ _ _ _ _ _ _ _ _ _ _ _ _ hx hb _ _ _ kk => lv_ishl hx hb hd kk) k
theorem sm_ishr {x y : Int32} (hd : decode E.2.2.1 pc = .ok (.ishr, 1)) (hp : pc + 1 = pc') (k : Sim E rv pc' lv (iv (x >>> (y &&& 31)) :: st) P) : Sim E rv pc lv (iv y :: iv x :: st) P := by
  subst hp
  exact sm_step (fun _ _ _ _ _ _ _ _ _ _ _ _ _ _ _ _ hx hb _ _ _ kk => lv_ishr hx hb hd kk) k
theorem sm_iushr {x y : Int32} (hd : decode E.2.2.1 pc = .ok (.iushr, 1)) (hp : pc + 1 = pc') (k : Sim E rv pc' lv (iv ((x.toUInt32 >>> (y.toUInt32 &&& Int32.toUInt32 31)).toInt32) :: st) P) : Sim E rv pc lv (iv y :: iv x :: st) P := by
  subst hp
  exact sm_step (fun _ _ _ _ _ _ _ _ _ _ _ _ _ _ _ _ hx hb _ _ _ kk => lv_iushr hx hb hd rfl kk) k
theorem sm_ineg {x : Int32} (hd : decode E.2.2.1 pc = .ok (.ineg, 1)) (hp : pc + 1 = pc') (k : Sim E rv pc' lv (iv (-x) :: st) P) : Sim E rv pc lv (iv x :: st) P := by
  subst hp
  exact sm_step (fun _ _ _ _ _ _ _ _ _ _ _ _ _ _ _ _ hx hb _ _ _ kk => lv_ineg hx hb hd kk) k
theorem sm_idiv {x y : Int32} {K : Int32 → Prg β} (hd : decode E.2.2.1 pc = .ok (.idiv, 1)) (hp : pc + 1 = pc') (k : ¬ y = 0 → ∀ z, z = x / y → Sim E rv pc' lv (iv z :: st) (K z)) : Sim E rv pc lv (iv y :: iv x :: st) (dv x y K) := by
  subst hp
  by_cases h0 : y = 0
  · unfold dv
    rw [if_pos h0]
    exact sm_fl
  · unfold dv
    rw [if_neg h0]
    exact sm_step (fun _ _ _ _ _ _ _ _ _ _ _ _ _ _ _ _ hx hb _ _ _ kk => lv_idiv hx hb hd h0 kk) (k h0 _ rfl)
theorem sm_irem {x y : Int32} {K : Int32 → Prg β} (hd : decode E.2.2.1 pc = .ok (.irem, 1)) (hp : pc + 1 = pc') (k : ¬ y = 0 → ∀ z, z = x - x / y * y → Sim E rv pc' lv (iv z :: st) (K z)) : Sim E rv pc lv (iv y :: iv x :: st) (rm x y K) := by
  subst hp
  by_cases h0 : y = 0
  · unfold rm
    rw [if_pos h0]
    exact sm_fl
  · unfold rm
    rw [if_neg h0]
    exact sm_step (fun _ _ _ _ _ _ _ _ _ _ _ _ _ _ _ _ hx hb _ _ _ kk => lv_irem hx hb hd h0 kk) (k h0 _ rfl)
theorem sm_ladd {x y : Int64} (hd : decode E.2.2.1 pc = .ok (.ladd, 1)) (hp : pc + 1 = pc') (k : Sim E rv pc' lv (jv (x + y) :: st) P) : Sim E rv pc lv (jv y :: jv x :: st) P := by
  subst hp
  exact sm_step (fun _ _ _ _ _ _ _ _ _ _ _ _ _ _ _ _ hx hb _ _ _ kk => lv_ladd hx hb hd kk) k
theorem sm_lsub {x y : Int64} (hd : decode E.2.2.1 pc = .ok (.lsub, 1)) (hp : pc + 1 = pc') (k : Sim E rv pc' lv (jv (x - y) :: st) P) : Sim E rv pc lv (jv y :: jv x :: st) P := by
  subst hp
  exact sm_step (fun _ _ _ _ _ _ _ _ _ _ _ _ _ _ _ _ hx hb _ _ _ kk => lv_lsub hx hb hd kk) k
theorem sm_land {x y : Int64} (hd : decode E.2.2.1 pc = .ok (.land, 1)) (hp : pc + 1 = pc') (k : Sim E rv pc' lv (jv (x &&& y) :: st) P) : Sim E rv pc lv (jv y :: jv x :: st) P := by
  subst hp
  exact sm_step (fun _ _ _ _ _ _ _ _ _ _ _ _ _ _ _ _ hx hb _ _ _ kk => lv_land hx hb hd kk) k
theorem sm_lor {x y : Int64} (hd : decode E.2.2.1 pc = .ok (.lor, 1)) (hp : pc + 1 = pc') (k : Sim E rv pc' lv (jv (x ||| y) :: st) P) : Sim E rv pc lv (jv y :: jv x :: st) P := by
  subst hp
  exact sm_step (fun _ _ _ _ _ _ _ _ _ _ _ _ _ _ _ _ hx hb _ _ _ kk => lv_lor hx hb hd kk) k
theorem sm_lshl {x : Int64} {y : Int32} (hd : decode E.2.2.1 pc = .ok (.lshl, 1)) (hp : pc + 1 = pc') (k : Sim E rv pc' lv (jv (x <<< (y.toInt64 &&& 63)) :: st) P) : Sim E rv pc lv (iv y :: jv x :: st) P := by
  subst hp
  exact sm_step (fun _ _ _ _ _ _ _ _ _ _ _ _ _ _ _ _ hx hb _ _ _ kk => lv_lshl hx hb hd rfl kk) k
theorem sm_lcmp {x y : Int64} (hd : decode E.2.2.1 pc = .ok (.lcmp, 1)) (hp : pc + 1 = pc') (k : Sim E rv pc' lv (iv (lg_cmp x y) :: st) P) : Sim E rv pc lv (jv y :: jv x :: st) P := by
  subst hp
  exact sm_step (fun _ _ _ _ _ _ _ _ _ _ _ _ _ _ _ _ hx hb _ _ _ kk => W.lcmp hx hb hd kk) k
theorem sm_i2l {x : Int32} (hd : decode E.2.2.1 pc = .ok (.i2l, 1)) (hp : pc + 1 = pc') (k : Sim E rv pc' lv (jv x.toInt64 :: st) P) : Sim E rv pc lv (iv x :: st) P := by
  subst hp
  exact sm_step (fun _ _ _ _ _ _ _ _ _ _ _ _ _ _ _ _ hx hb _ _ _ kk => lv_i2l hx hb hd rfl kk) k
theorem sm_l2i {x : Int64} (hd : decode E.2.2.1 pc = .ok (.l2i, 1)) (hp : pc + 1 = pc') (k : Sim E rv pc' lv (iv x.toInt32 :: st) P) : Sim E rv pc lv (jv x :: st) P := by
  subst hp
  exact sm_step (fun _ _ _ _ _ _ _ _ _ _ _ _ _ _ _ _ hx hb _ _ _ kk => lv_l2i hx hb hd rfl kk) k
theorem sm_i2b {x : Int32} (hd : decode E.2.2.1 pc = .ok (.i2b, 1)) (hp : pc + 1 = pc') (k : Sim E rv pc' lv (iv x.toInt8.toInt32 :: st) P) : Sim E rv pc lv (iv x :: st) P := by
  subst hp
  exact sm_step (fun _ _ _ _ _ _ _ _ _ _ _ _ _ _ _ _ hx hb _ _ _ kk => lv_i2b hx hb hd rfl kk) k
theorem cat_1 {v : TV} (h : isJ v = false) : (tv v).category = 1 := by
  rcases v with x | x | r
  · rfl
  · cases h
  · cases r <;> rfl
theorem sm_dup {v : TV} (hd : decode E.2.2.1 pc = .ok (.dup, 1)) (hj : isJ v = false) (hp : pc + 1 = pc') (k : Sim E rv pc' lv (v :: v :: st) P) : Sim E rv pc lv (v :: st) P := by
  subst hp
  exact sm_step (fun _ _ _ _ _ _ _ _ _ _ _ _ _ _ _ _ hx hb _ _ _ kk => lv_dup hx hb hd (cat_1 hj) kk) k
theorem sm_dup2 {v u : TV} (hd : decode E.2.2.1 pc = .ok (.dup2, 1)) (hj : isJ v = false) (hk : isJ u = false) (hp : pc + 1 = pc') (k : Sim E rv pc' lv (v :: u :: v :: u :: st) P) : Sim E rv pc lv (v :: u :: st) P := by
  subst hp
  exact sm_step (fun _ _ _ _ _ _ _ _ _ _ _ _ _ _ _ _ hx hb _ _ _ kk => lv_dup2_11 hx hb hd (cat_1 hj) (cat_1 hk) kk) k
theorem sm_goto {off : Int} (hd : decode E.2.2.1 pc = .ok (.goto off, 3)) (ht : (pc : Int) + off = (pc' : Int)) (k : Sim E rv pc' lv st P) : Sim E rv pc lv st P :=
  sm_step (fun _ _ _ _ _ _ _ _ _ _ _ _ _ _ _ _ hx hb _ _ _ kk => lv_goto hx hb hd ht kk) k
/-- two ways -/
theorem sm_two {cnd : Prop} {pc1 pc2 : Nat} [Decidable cnd] (h : ∀ (p : Program) (l : Launch) (e : Env) (s : State) (m : MethodId) (args : Array Value) (below : List Frame) (meth : Method) (c : Code) (R : Room) (H : Heap) (locs : List Loc) (cells slots : Nat) (Q : State → Prop) (ls : Array Slot), p.tables.exec = Jvm.exec → c.code = E.2.2.1 → (cnd → W p l e R s m args below meth c H locs cells slots Q (F0 m pc1 ls (st'.map tv))) → (¬ cnd → W p l e R s m args below meth c H locs cells slots Q (F0 m pc2 ls (st'.map tv))) → W p l e R s m args below meth c H locs cells slots Q (F0 m pc ls (st.map tv))) (k1 : cnd → Sim E rv pc1 lv st' P) (k2 : ¬ cnd → Sim E rv pc2 lv st' P') : Sim E rv pc lv st (if cnd then P else P') := by
  by_cases hc : cnd
  · rw [if_pos hc]
    exact sm_step (fun p l e s m args below meth c R H locs cells slots Q ls hx hb _ _ _ kk => h p l e s m args below meth c R H locs cells slots Q ls hx hb (fun _ => kk) (fun n => absurd hc n)) (k1 hc)
  · rw [if_neg hc]
    exact sm_step (fun p l e s m args below meth c R H locs cells slots Q ls hx hb _ _ _ kk => h p l e s m args below meth c R H locs cells slots Q ls hx hb (fun y => absurd y hc) (fun _ => kk)) (k2 hc)
theorem sm_if_eq {x : Int32} {off : Int} {pc1 : Nat} (hd : decode E.2.2.1 pc = .ok (.ifCond .eq off, 3)) (ht : (pc : Int) + off = (pc1 : Int)) (hp : pc + 3 = pc') (k1 : x = 0 → Sim E rv pc1 lv st P) (k2 : ¬ x = 0 → Sim E rv pc' lv st P') : Sim E rv pc lv (iv x :: st) (if x = 0 then P else P') := by
  subst hp
  exact sm_two (fun _ _ _ _ _ _ _ _ _ _ _ _ _ _ _ _ hx hb h1 h2 => lv_if_eq hx hb hd ht h1 h2) k1 k2
theorem sm_icmp_eq {x y : Int32} {off : Int} {pc1 : Nat} (hd : decode E.2.2.1 pc = .ok (.if_icmp .eq off, 3)) (ht : (pc : Int) + off = (pc1 : Int)) (hp : pc + 3 = pc') (k1 : x = y → Sim E rv pc1 lv st P) (k2 : ¬ x = y → Sim E rv pc' lv st P') : Sim E rv pc lv (iv y :: iv x :: st) (if x = y then P else P') := by
  subst hp
  exact sm_two (fun _ _ _ _ _ _ _ _ _ _ _ _ _ _ _ _ hx hb h1 h2 => lv_icmp_eq hx hb hd ht h1 h2) k1 k2
theorem sm_if_ne {x : Int32} {off : Int} {pc1 : Nat} (hd : decode E.2.2.1 pc = .ok (.ifCond .ne off, 3)) (ht : (pc : Int) + off = (pc1 : Int)) (hp : pc + 3 = pc') (k1 : ¬ x = 0 → Sim E rv pc1 lv st P) (k2 : x = 0 → Sim E rv pc' lv st P') : Sim E rv pc lv (iv x :: st) (if x = 0 then P' else P) := by
  subst hp
  exact sm_two (fun _ _ _ _ _ _ _ _ _ _ _ _ _ _ _ _ hx hb h1 h2 => lv_if_ne hx hb hd ht h2 h1) k2 k1
theorem sm_icmp_ne {x y : Int32} {off : Int} {pc1 : Nat} (hd : decode E.2.2.1 pc = .ok (.if_icmp .ne off, 3)) (ht : (pc : Int) + off = (pc1 : Int)) (hp : pc + 3 = pc') (k1 : ¬ x = y → Sim E rv pc1 lv st P) (k2 : x = y → Sim E rv pc' lv st P') : Sim E rv pc lv (iv y :: iv x :: st) (if x = y then P' else P) := by
  subst hp
  exact sm_two (fun _ _ _ _ _ _ _ _ _ _ _ _ _ _ _ _ hx hb h1 h2 => lv_icmp_ne hx hb hd ht h2 h1) k2 k1
theorem sm_if_lt {x : Int32} {off : Int} {pc1 : Nat} (hd : decode E.2.2.1 pc = .ok (.ifCond .lt off, 3)) (ht : (pc : Int) + off = (pc1 : Int)) (hp : pc + 3 = pc') (k1 : x < 0 → Sim E rv pc1 lv st P) (k2 : ¬ x < 0 → Sim E rv pc' lv st P') : Sim E rv pc lv (iv x :: st) (if x < 0 then P else P') := by
  subst hp
  exact sm_two (fun _ _ _ _ _ _ _ _ _ _ _ _ _ _ _ _ hx hb h1 h2 => lv_if_lt hx hb hd ht h1 h2) k1 k2
theorem sm_icmp_lt {x y : Int32} {off : Int} {pc1 : Nat} (hd : decode E.2.2.1 pc = .ok (.if_icmp .lt off, 3)) (ht : (pc : Int) + off = (pc1 : Int)) (hp : pc + 3 = pc') (k1 : x < y → Sim E rv pc1 lv st P) (k2 : ¬ x < y → Sim E rv pc' lv st P') : Sim E rv pc lv (iv y :: iv x :: st) (if x < y then P else P') := by
  subst hp
  exact sm_two (fun _ _ _ _ _ _ _ _ _ _ _ _ _ _ _ _ hx hb h1 h2 => lv_icmp_lt hx hb hd ht h1 h2) k1 k2
theorem sm_if_ge {x : Int32} {off : Int} {pc1 : Nat} (hd : decode E.2.2.1 pc = .ok (.ifCond .ge off, 3)) (ht : (pc : Int) + off = (pc1 : Int)) (hp : pc + 3 = pc') (k1 : 0 ≤ x → Sim E rv pc1 lv st P) (k2 : ¬ 0 ≤ x → Sim E rv pc' lv st P') : Sim E rv pc lv (iv x :: st) (if 0 ≤ x then P else P') := by
  subst hp
  exact sm_two (fun _ _ _ _ _ _ _ _ _ _ _ _ _ _ _ _ hx hb h1 h2 => lv_if_ge hx hb hd ht h1 h2) k1 k2
theorem sm_icmp_ge {x y : Int32} {off : Int} {pc1 : Nat} (hd : decode E.2.2.1 pc = .ok (.if_icmp .ge off, 3)) (ht : (pc : Int) + off = (pc1 : Int)) (hp : pc + 3 = pc') (k1 : y ≤ x → Sim E rv pc1 lv st P) (k2 : ¬ y ≤ x → Sim E rv pc' lv st P') : Sim E rv pc lv (iv y :: iv x :: st) (if y ≤ x then P else P') := by
  subst hp
  exact sm_two (fun _ _ _ _ _ _ _ _ _ _ _ _ _ _ _ _ hx hb h1 h2 => lv_icmp_ge hx hb hd ht h1 h2) k1 k2
theorem sm_if_gt {x : Int32} {off : Int} {pc1 : Nat} (hd : decode E.2.2.1 pc = .ok (.ifCond .gt off, 3)) (ht : (pc : Int) + off = (pc1 : Int)) (hp : pc + 3 = pc') (k1 : 0 < x → Sim E rv pc1 lv st P) (k2 : ¬ 0 < x → Sim E rv pc' lv st P') : Sim E rv pc lv (iv x :: st) (if 0 < x then P else P') := by
  subst hp
  exact sm_two (fun _ _ _ _ _ _ _ _ _ _ _ _ _ _ _ _ hx hb h1 h2 => lv_if_gt hx hb hd ht h1 h2) k1 k2
theorem sm_icmp_gt {x y : Int32} {off : Int} {pc1 : Nat} (hd : decode E.2.2.1 pc = .ok (.if_icmp .gt off, 3)) (ht : (pc : Int) + off = (pc1 : Int)) (hp : pc + 3 = pc') (k1 : y < x → Sim E rv pc1 lv st P) (k2 : ¬ y < x → Sim E rv pc' lv st P') : Sim E rv pc lv (iv y :: iv x :: st) (if y < x then P else P') := by
  subst hp
  exact sm_two (fun _ _ _ _ _ _ _ _ _ _ _ _ _ _ _ _ hx hb h1 h2 => lv_icmp_gt hx hb hd ht h1 h2) k1 k2
theorem sm_if_le {x : Int32} {off : Int} {pc1 : Nat} (hd : decode E.2.2.1 pc = .ok (.ifCond .le off, 3)) (ht : (pc : Int) + off = (pc1 : Int)) (hp : pc + 3 = pc') (k1 : x ≤ 0 → Sim E rv pc1 lv st P) (k2 : ¬ x ≤ 0 → Sim E rv pc' lv st P') : Sim E rv pc lv (iv x :: st) (if x ≤ 0 then P else P') := by
  subst hp
  exact sm_two (fun _ _ _ _ _ _ _ _ _ _ _ _ _ _ _ _ hx hb h1 h2 => lv_if_le hx hb hd ht h1 h2) k1 k2
theorem sm_icmp_le {x y : Int32} {off : Int} {pc1 : Nat} (hd : decode E.2.2.1 pc = .ok (.if_icmp .le off, 3)) (ht : (pc : Int) + off = (pc1 : Int)) (hp : pc + 3 = pc') (k1 : x ≤ y → Sim E rv pc1 lv st P) (k2 : ¬ x ≤ y → Sim E rv pc' lv st P') : Sim E rv pc lv (iv y :: iv x :: st) (if x ≤ y then P else P') := by
  subst hp
  exact sm_two (fun _ _ _ _ _ _ _ _ _ _ _ _ _ _ _ _ hx hb h1 h2 => lv_icmp_le hx hb hd ht h1 h2) k1 k2
theorem sm_acmp_ne {rx ry : Option Nat} {off : Int} {pc1 : Nat} (hd : decode E.2.2.1 pc = .ok (.if_acmp .ne off, 3)) (ht : (pc : Int) + off = (pc1 : Int)) (hp : pc + 3 = pc') (k1 : ¬ rx = ry → Sim E rv pc1 lv st P) (k2 : rx = ry → Sim E rv pc' lv st P') : Sim E rv pc lv (qv ry :: qv rx :: st) (if rx = ry then P' else P) := by
  subst hp
  exact sm_two (fun _ _ _ _ _ _ _ _ _ _ _ _ _ _ _ _ hx hb h1 h2 => lv_acmp_ne hx hb hd ht h2 h1) k2 k1
theorem sm_ifnullS {a : Nat} {off : Int} (hd : decode E.2.2.1 pc = .ok (.ifnull off, 3)) (hp : pc + 3 = pc') (k : Sim E rv pc' lv st P) : Sim E rv pc lv (qv (some a) :: st) P := by
  subst hp
  exact sm_step (fun _ _ _ _ _ _ _ _ _ _ _ _ _ _ _ _ hx hb _ _ _ kk => lv_ifnull hx hb hd kk) k
theorem sm_ifnullN {off : Int} (hd : decode E.2.2.1 pc = .ok (.ifnull off, 3)) (ht : (pc : Int) + off = (pc' : Int)) (k : Sim E rv pc' lv st P) : Sim E rv pc lv (qv none :: st) P :=
  sm_step (fun _ _ _ _ _ _ _ _ _ _ _ _ _ _ _ _ hx hb _ _ _ kk => lv_ifnullN hx hb hd ht kk) k
theorem sm_ifnonnullS {a : Nat} {off : Int} (hd : decode E.2.2.1 pc = .ok (.ifnonnull off, 3)) (ht : (pc : Int) + off = (pc' : Int)) (k : Sim E rv pc' lv st P) : Sim E rv pc lv (qv (some a) :: st) P :=
  sm_step (fun _ _ _ _ _ _ _ _ _ _ _ _ _ _ _ _ hx hb _ _ _ kk => lv_ifnonnull hx hb hd ht kk) k
theorem sm_ifnonnullN {off : Int} (hd : decode E.2.2.1 pc = .ok (.ifnonnull off, 3)) (hp : pc + 3 = pc') (k : Sim E rv pc' lv st P) : Sim E rv pc lv (qv none :: st) P := by
  subst hp
  exact sm_step (fun _ _ _ _ _ _ _ _ _ _ _ _ _ _ _ _ hx hb _ _ _ kk => lv_ifnonnullN hx hb hd kk) k
theorem sm_tabIn {dflt lo hi off : Int} {offs : Array Int} {len : Nat} {x : Int32} (hd : decode E.2.2.1 pc = .ok (.tableswitch dflt lo hi offs, len)) (h1 : ¬ x.toInt < lo) (h2 : ¬ hi < x.toInt) (ho : offs[(x.toInt - lo).toNat]? = some off) (ht : (pc : Int) + off = (pc' : Int)) (k : Sim E rv pc' lv st P) : Sim E rv pc lv (iv x :: st) P :=
  sm_step (fun _ _ _ _ _ _ _ _ _ _ _ _ _ _ _ _ hx hb _ _ _ kk => lv_tableIn hx hb hd h1 h2 ho ht kk) k
theorem sm_tabOut {dflt lo hi : Int} {offs : Array Int} {len : Nat} {x : Int32} (hd : decode E.2.2.1 pc = .ok (.tableswitch dflt lo hi offs, len)) (h : x.toInt < lo ∨ hi < x.toInt) (ht : (pc : Int) + dflt = (pc' : Int)) (k : Sim E rv pc' lv st P) : Sim E rv pc lv (iv x :: st) P :=
  sm_step (fun _ _ _ _ _ _ _ _ _ _ _ _ _ _ _ _ hx hb _ _ _ kk => lv_tableOut hx hb hd h ht kk) k
end Rows
