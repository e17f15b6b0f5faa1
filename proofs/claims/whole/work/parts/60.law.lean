/-! THE CLAIM OUT OF ONE WALK OF THE LAW'S BODY. Your part is whole_start (and what it stands on); all else here is the same for every law, but numbers. -/
theorem slots_ok : 7000000 ≤ room_1.slots := by decide
def R_law : String := "HollowPressLaw"
def lw_P (b : Addr) (xs : List Int32) (args : Array Value) (s : State) : Prop := args = #[.ref b] ∧ s.IntsAt b xs ∧ xs.length ≤ 3072 ∧ (Jvm.Cond.and given_1 narrow_1).before args s = true
def lw_Q (_ : Array Value) (s : State) (o : Outcome) (t : State) : Prop := o = .returned (some (.int 1)) ∧ Framed s o t [] 600000 room_1.slots
def lw_Z (below : List Frame) (a : Array Value) (s : State) : State → Prop := fun t => ∃ o, t.status = .running ∧ Ended t below o ∧ lw_Q a s o t
/-- the law's own end, with 1 on the stack, nothing written that was there before, its room as the claim has it -/
theorem lw_ret {p : Program} {l : Launch} {e : Env} {s : State} {m : MethodId} {below : List Frame} {meth : Method} {c : Code} {b : Nat} (hx : p.tables.exec = Jvm.exec) (hb : c.code = code) (hr : meth.sig.returnType = ret) (hlocks : meth.locks = false) {pc : Nat} {H : Heap} {ls : Array Slot} (hdg : decode code pc = .ok (.ireturn, 1)) : W p l e room_1 s m #[Value.ref b] below meth c H [] 600000 room_1.slots (lw_Z below #[Value.ref b] s) (F0 m pc ls [.int 1]) := by
  intro T hT X
  obtain ⟨fs, hret, hrun, hended, hW, hframe⟩ := X.leave (v := some (.int 1)) (hlocks := hlocks) (fun h => by rw [hr] at h; cases h)
  have hmeth' : T.vm.method? m = some meth := X.method'
  refine ⟨T.setFrames fs, ?_, .returned (some (.int 1)), hrun, hended, rfl, ⟨_, rfl⟩, hW, hframe⟩
  jvm_step X.here [X.here.top, hx, hb, hdg, hmeth', hr, ret, narrow_b1]
  (try refine ⟨rfl, ?_⟩); (try refine ⟨rfl, ?_⟩)
  first | (intro acts; rw [hret _ acts rfl rfl rfl]) | rw [hret _ _ rfl rfl rfl]
  exact Steps.refl _
/-- what holds at the law's entry: the machine, the code, the tables' words (any of lw_tbl by 'hts w (by decide +kernel)'), the script of L ints xs at the cell b, what the Statement gives of the start (any of its parts by flat_of_before) -/
def lw_At (p : Program) (s : State) (m : MethodId) (meth : Method) (c : Code) (b L : Nat) (xs : Nat → Int32) : Prop :=
  p.tables.exec = Jvm.exec ∧ c.code = code ∧ meth.sig.returnType = ret ∧ c.maxLocals = 4 ∧ s.vm.findClass R_law = some m.cls ∧ (∀ w ∈ lw_tbl, w.before #[Value.ref b] s = true) ∧ va_X b L xs s s.heap ∧ b < s.heap.size ∧ meth.locks = false ∧ (Jvm.Cond.and given_1 narrow_1).before #[Value.ref b] s = true

/-! the law's walk: two memories in one heap, the class's and the reference's; the script is read alone -/
def sy (S : St) (z y : Nat) : St := (sT S, sN S, sI S, sJ S, sF S, z, y)
def eL : Env0 := ("HollowPressLaw", "law", code, 4, ret, 40)
def EvL (b L : Nat) (xs : Nat → Int32) (n0 : Nat) (pc : Nat) (lv : List (Nat × TV)) (st : List TV) (C R : St) (z y : Nat) : Prop :=
  ∀ (D : va_G) (cy : Nat → ClassId) (p : Program) (l : Launch) (e : Env) (s : State) (m : MethodId) (below : List Frame) (meth : Method) (c : Code) (H : Heap) (locs : List Loc) (ls : Array Slot),
    Ctx eL D cy p s m #[Value.ref b] meth c room_1 → s.heap.size = n0 → va_X b L xs s s.heap → b < s.heap.size → s.heap.size ≤ z → z - s.heap.size ≤ 600000 → y ≤ room_1.slots → Wd D cy (fun q => s.heap.size ≤ q) (sy C z y) H → Wd D cy (fun q => s.heap.size ≤ q) (sy R z y) H → (∀ a, sT C a = 0 ∨ sT R a = 0) → va_S (fun q => s.heap.size ≤ q) s.heap H locs → lv_has ls 4 (lv.map tq) →
    W p l e room_1 s m #[Value.ref b] below meth c H locs (z - s.heap.size) y (lw_Z below #[Value.ref b] s) (F0 m pc ls (st.map tv))
section RL
variable {b L n0 : Nat} {xs : Nat → Int32} {pc pc' : Nat} {lv : List (Nat × TV)} {st st' : List TV} {C R : St} {z y : Nat}
theorem el_step (h : ∀ (p : Program) (l : Launch) (e : Env) (s : State) (m : MethodId) (args : Array Value) (below : List Frame) (meth : Method) (c : Code) (Rr : Room) (H : Heap) (locs : List Loc) (cells slots : Nat) (Q : State → Prop) (ls : Array Slot), p.tables.exec = Jvm.exec → c.code = code → s.vm.findClass "HollowPressLaw" = some m.cls → (∀ w ∈ gtbl, w.before args s = true) → lv_has ls 4 (lv.map tq) → W p l e Rr s m args below meth c H locs cells slots Q (F0 m pc' ls (st'.map tv)) → W p l e Rr s m args below meth c H locs cells slots Q (F0 m pc ls (st.map tv))) (k : EvL b L xs n0 pc' lv st' C R z y) : EvL b L xs n0 pc lv st C R z y := by
  intro D cy p l e s m below meth c H locs ls Cx hn0 hX hb hz h6 h7 hC hR hap hS hl
  exact h p l e s m _ below meth c room_1 H locs _ _ _ ls Cx.1 Cx.2.1 Cx.2.2.2.2.2.2.1 Cx.2.2.2.2.2.2.2.1 hl (k D cy p l e s m below meth c H locs ls Cx hn0 hX hb hz h6 h7 hC hR hap hS hl)
theorem el_stepL {lv' : List (Nat × TV)} (h : ∀ (p : Program) (l : Launch) (e : Env) (s : State) (m : MethodId) (args : Array Value) (below : List Frame) (meth : Method) (c : Code) (Rr : Room) (H : Heap) (locs : List Loc) (cells slots : Nat) (Q : State → Prop) (ls : Array Slot), p.tables.exec = Jvm.exec → c.code = code → lv_has ls 4 (lv.map tq) → (∀ ls' : Array Slot, lv_has ls' 4 (lv'.map tq) → W p l e Rr s m args below meth c H locs cells slots Q (F0 m pc' ls' (st'.map tv))) → W p l e Rr s m args below meth c H locs cells slots Q (F0 m pc ls (st.map tv))) (k : EvL b L xs n0 pc' lv' st' C R z y) : EvL b L xs n0 pc lv st C R z y := by
  intro D cy p l e s m below meth c H locs ls Cx hn0 hX hb hz h6 h7 hC hR hap hS hl
  exact h p l e s m _ below meth c room_1 H locs _ _ _ ls Cx.1 Cx.2.1 hl (fun ls' hl' => k D cy p l e s m below meth c H locs ls' Cx hn0 hX hb hz h6 h7 hC hR hap hS hl')
theorem el_sub {lv' : List (Nat × TV)} (ks : List Nat) (hl : ks.filterMap (fun k => lv[k]?) = lv') (k : EvL b L xs n0 pc lv' st C R z y) : EvL b L xs n0 pc lv st C R z y := by
  intro D cy p l e s m below meth c H locs ls Cx hn0 hX hb hz h6 h7 hC hR hap hS hl2
  refine k D cy p l e s m below meth c H locs ls Cx hn0 hX hb hz h6 h7 hC hR hap hS ⟨hl2.1, hl2.2.1, fun q hq => ?_⟩
  obtain ⟨q0, hq0, rfl⟩ := List.mem_map.mp hq
  rw [← hl] at hq0
  obtain ⟨k9, -, hk9⟩ := List.mem_filterMap.mp hq0
  exact hl2.2.2 _ (List.mem_map.mpr ⟨q0, List.mem_of_getElem? hk9, rfl⟩)
theorem el_iconst {n : Int} (v : Int32) (hd : decode code pc = .ok (.iconst n, 1)) (hv : Int32.ofInt n = v) (hp : pc + 1 = pc') (k : EvL b L xs n0 pc' lv (iv v :: st) C R z y) : EvL b L xs n0 pc lv st C R z y := by
  subst hp
  exact el_step (fun _ _ _ _ _ _ _ _ _ _ _ _ _ _ _ _ hx hb _ _ _ kk => lv_iconst hx hb hd hv kk) k
theorem el_bipush {n : Int} (v : Int32) (hd : decode code pc = .ok (.bipush n, 2)) (hv : (Int8.ofInt n).toInt32 = v) (hp : pc + 2 = pc') (k : EvL b L xs n0 pc' lv (iv v :: st) C R z y) : EvL b L xs n0 pc lv st C R z y := by
  subst hp
  exact el_step (fun _ _ _ _ _ _ _ _ _ _ _ _ _ _ _ _ hx hb _ _ _ kk => lv_bipush hx hb hd hv kk) k
theorem el_ldc2 {i : Nat} (v : Int64) (hc : Cond.constantLong "HollowPressLaw" i v ∈ gtbl) (hd : decode code pc = .ok (.ldc2_w i, 3)) (hp : pc + 3 = pc') (k : EvL b L xs n0 pc' lv (jv v :: st) C R z y) : EvL b L xs n0 pc lv st C R z y := by
  subst hp
  exact el_step (fun _ _ _ _ _ _ _ _ _ _ _ _ _ _ _ _ hx hb ho ht _ kk => lv_ldc2 hx hb ho (ht _ hc) hd kk) k
theorem el_iload_n {k : Fin 4} {x : Int32} (hd : decode code pc = .ok (.iload_n k, 1)) (hl : lv.lookup (k : Nat) = some (iv x)) (hp : pc + 1 = pc') (k : EvL b L xs n0 pc' lv (iv x :: st) C R z y) : EvL b L xs n0 pc lv st C R z y := by
  subst hp
  exact el_step (fun _ _ _ _ _ _ _ _ _ _ _ _ _ _ _ _ hx hb _ _ h kk => lv_iload_n hx hb hd rfl (lk_at h hl) kk) k
theorem el_aload_n {k : Fin 4} {a : Nat} (hd : decode code pc = .ok (.aload_n k, 1)) (hl : lv.lookup (k : Nat) = some (qv (some a))) (hp : pc + 1 = pc') (k : EvL b L xs n0 pc' lv (qv (some a) :: st) C R z y) : EvL b L xs n0 pc lv st C R z y := by
  subst hp
  exact el_step (fun _ _ _ _ _ _ _ _ _ _ _ _ _ _ _ _ hx hb _ _ h kk => lv_aload_n hx hb hd rfl (lk_at h hl) kk) k
theorem el_istore_n {k : Fin 4} {i : Nat} {x : Int32} (lv' : List (Nat × TV)) (hd : decode code pc = .ok (.istore_n k, 1)) (hi : (k : Nat) = i) (hn : i < 4) (hl : lst lv i (iv x) = lv') (hp : pc + 1 = pc') (k : EvL b L xs n0 pc' lv' st C R z y) : EvL b L xs n0 pc lv (iv x :: st) C R z y := by
  subst hp
  exact el_stepL (fun _ _ _ _ _ _ _ _ _ _ _ _ _ _ _ _ hx hb h kk => lv_istore_n hx hb hd hi h hn (by rw [← hl]; exact lst_map lv i (iv x)) kk) k
theorem el_astore_n {k : Fin 4} {i a : Nat} (lv' : List (Nat × TV)) (hd : decode code pc = .ok (.astore_n k, 1)) (hi : (k : Nat) = i) (hn : i < 4) (hl : lst lv i (qv (some a)) = lv') (hp : pc + 1 = pc') (k : EvL b L xs n0 pc' lv' st C R z y) : EvL b L xs n0 pc lv (qv (some a) :: st) C R z y := by
  subst hp
  exact el_stepL (fun _ _ _ _ _ _ _ _ _ _ _ _ _ _ _ _ hx hb h kk => lv_astore_n hx hb hd hi h hn (by rw [← hl]; exact lst_map lv i (qv (some a))) kk) k
theorem el_iinc {i : Nat} {n : Int} {x : Int32} (v : Int32) (lv' : List (Nat × TV)) (hd : decode code pc = .ok (.iinc i n, 3)) (hx0 : lv.lookup i = some (iv x)) (hv : x + Int32.ofInt n = v) (hn : i < 4) (hl : lst lv i (iv v) = lv') (hp : pc + 3 = pc') (k : EvL b L xs n0 pc' lv' st C R z y) : EvL b L xs n0 pc lv st C R z y := by
  subst hp
  obtain ⟨j, hj⟩ := lk_idx hx0
  exact el_stepL (fun _ _ _ _ _ _ _ _ _ _ _ _ _ _ _ _ hx hb h kk => lv_iinc hx hb hd h hj hv hn (by rw [← hl]; exact lst_map lv i (iv v)) kk) k
theorem el_iadd {x w : Int32} (hd : decode code pc = .ok (.iadd, 1)) (hp : pc + 1 = pc') (k : EvL b L xs n0 pc' lv (iv (x + w) :: st) C R z y) : EvL b L xs n0 pc lv (iv w :: iv x :: st) C R z y := by
  subst hp
  exact el_step (fun _ _ _ _ _ _ _ _ _ _ _ _ _ _ _ _ hx hb _ _ _ kk => lv_iadd hx hb hd kk) k
theorem el_isub {x w : Int32} (hd : decode code pc = .ok (.isub, 1)) (hp : pc + 1 = pc') (k : EvL b L xs n0 pc' lv (iv (x - w) :: st) C R z y) : EvL b L xs n0 pc lv (iv w :: iv x :: st) C R z y := by
  subst hp
  exact el_step (fun _ _ _ _ _ _ _ _ _ _ _ _ _ _ _ _ hx hb _ _ _ kk => lv_isub hx hb hd kk) k
theorem el_iand {x w : Int32} (hd : decode code pc = .ok (.iand, 1)) (hp : pc + 1 = pc') (k : EvL b L xs n0 pc' lv (iv (x &&& w) :: st) C R z y) : EvL b L xs n0 pc lv (iv w :: iv x :: st) C R z y := by
  subst hp
  exact el_step (fun _ _ _ _ _ _ _ _ _ _ _ _ _ _ _ _ hx hb _ _ _ kk => lv_iand hx hb hd kk) k
theorem el_land {x w : Int64} (hd : decode code pc = .ok (.land, 1)) (hp : pc + 1 = pc') (k : EvL b L xs n0 pc' lv (jv (x &&& w) :: st) C R z y) : EvL b L xs n0 pc lv (jv w :: jv x :: st) C R z y := by
  subst hp
  exact el_step (fun _ _ _ _ _ _ _ _ _ _ _ _ _ _ _ _ hx hb _ _ _ kk => lv_land hx hb hd kk) k
theorem el_lor {x w : Int64} (hd : decode code pc = .ok (.lor, 1)) (hp : pc + 1 = pc') (k : EvL b L xs n0 pc' lv (jv (x ||| w) :: st) C R z y) : EvL b L xs n0 pc lv (jv w :: jv x :: st) C R z y := by
  subst hp
  exact el_step (fun _ _ _ _ _ _ _ _ _ _ _ _ _ _ _ _ hx hb _ _ _ kk => lv_lor hx hb hd kk) k
theorem el_lshl {x : Int64} {w : Int32} (hd : decode code pc = .ok (.lshl, 1)) (hp : pc + 1 = pc') (k : EvL b L xs n0 pc' lv (jv (x <<< (w.toInt64 &&& 63)) :: st) C R z y) : EvL b L xs n0 pc lv (iv w :: jv x :: st) C R z y := by
  subst hp
  exact el_step (fun _ _ _ _ _ _ _ _ _ _ _ _ _ _ _ _ hx hb _ _ _ kk => lv_lshl hx hb hd rfl kk) k
theorem el_i2l {x : Int32} (hd : decode code pc = .ok (.i2l, 1)) (hp : pc + 1 = pc') (k : EvL b L xs n0 pc' lv (jv x.toInt64 :: st) C R z y) : EvL b L xs n0 pc lv (iv x :: st) C R z y := by
  subst hp
  exact el_step (fun _ _ _ _ _ _ _ _ _ _ _ _ _ _ _ _ hx hb _ _ _ kk => lv_i2l hx hb hd rfl kk) k
theorem el_lcmp {x w : Int64} (hd : decode code pc = .ok (.lcmp, 1)) (hp : pc + 1 = pc') (k : EvL b L xs n0 pc' lv (iv (lg_cmp x w) :: st) C R z y) : EvL b L xs n0 pc lv (jv w :: jv x :: st) C R z y := by
  subst hp
  exact el_step (fun _ _ _ _ _ _ _ _ _ _ _ _ _ _ _ _ hx hb _ _ _ kk => W.lcmp hx hb hd kk) k
theorem el_dup {v : TV} (hd : decode code pc = .ok (.dup, 1)) (hj : isJ v = false) (hp : pc + 1 = pc') (k : EvL b L xs n0 pc' lv (v :: v :: st) C R z y) : EvL b L xs n0 pc lv (v :: st) C R z y := by
  subst hp
  exact el_step (fun _ _ _ _ _ _ _ _ _ _ _ _ _ _ _ _ hx hb _ _ _ kk => lv_dup hx hb hd (cat_1 hj) kk) k
theorem el_goto {off : Int} (hd : decode code pc = .ok (.goto off, 3)) (ht : (pc : Int) + off = (pc' : Int)) (k : EvL b L xs n0 pc' lv st C R z y) : EvL b L xs n0 pc lv st C R z y :=
  el_step (fun _ _ _ _ _ _ _ _ _ _ _ _ _ _ _ _ hx hb _ _ _ kk => lv_goto hx hb hd ht kk) k
/-- equal: the branch is taken -/
theorem el_icmp_eq {x : Int32} {off : Int} (hd : decode code pc = .ok (.if_icmp .eq off, 3)) (ht : (pc : Int) + off = (pc' : Int)) (k : EvL b L xs n0 pc' lv st C R z y) : EvL b L xs n0 pc lv (iv x :: iv x :: st) C R z y :=
  el_step (fun _ _ _ _ _ _ _ _ _ _ _ _ _ _ _ _ hx hb _ _ _ kk => lv_icmp_eq hx hb hd ht (fun _ => kk) (fun n => absurd rfl n)) k
theorem el_if_eq0 {off : Int} (hd : decode code pc = .ok (.ifCond .eq off, 3)) (ht : (pc : Int) + off = (pc' : Int)) (k : EvL b L xs n0 pc' lv st C R z y) : EvL b L xs n0 pc lv (iv 0 :: st) C R z y :=
  el_step (fun _ _ _ _ _ _ _ _ _ _ _ _ _ _ _ _ hx hb _ _ _ kk => lv_if_eq hx hb hd ht (fun _ => kk) (fun n => absurd rfl n)) k
theorem el_icmp_gt {x w : Int32} {off : Int} {pc1 : Nat} (hd : decode code pc = .ok (.if_icmp .gt off, 3)) (ht : (pc : Int) + off = (pc1 : Int)) (hp : pc + 3 = pc') (k1 : w < x → EvL b L xs n0 pc1 lv st C R z y) (k2 : ¬ w < x → EvL b L xs n0 pc' lv st C R z y) : EvL b L xs n0 pc lv (iv w :: iv x :: st) C R z y := by
  subst hp
  by_cases h : w < x
  · exact el_step (fun _ _ _ _ _ _ _ _ _ _ _ _ _ _ _ _ hx hb _ _ _ kk => lv_icmp_gt hx hb hd ht (fun _ => kk) (fun n => absurd h n)) (k1 h)
  · exact el_step (fun _ _ _ _ _ _ _ _ _ _ _ _ _ _ _ _ hx hb _ _ _ kk => lv_icmp_gt hx hb hd ht (fun n => absurd n h) (fun _ => kk)) (k2 h)
theorem el_tabIn {dflt lo hi off : Int} {offs : Array Int} {len : Nat} {x : Int32} (hd : decode code pc = .ok (.tableswitch dflt lo hi offs, len)) (h1 : ¬ x.toInt < lo) (h2 : ¬ hi < x.toInt) (ho : offs[(x.toInt - lo).toNat]? = some off) (ht : (pc : Int) + off = (pc' : Int)) (k : EvL b L xs n0 pc' lv st C R z y) : EvL b L xs n0 pc lv (iv x :: st) C R z y :=
  el_step (fun _ _ _ _ _ _ _ _ _ _ _ _ _ _ _ _ hx hb _ _ _ kk => lv_tableIn hx hb hd h1 h2 ho ht kk) k
theorem el_tabOut {dflt lo hi : Int} {offs : Array Int} {len : Nat} {x : Int32} (hd : decode code pc = .ok (.tableswitch dflt lo hi offs, len)) (h : x.toInt < lo ∨ hi < x.toInt) (ht : (pc : Int) + dflt = (pc' : Int)) (k : EvL b L xs n0 pc' lv st C R z y) : EvL b L xs n0 pc lv (iv x :: st) C R z y :=
  el_step (fun _ _ _ _ _ _ _ _ _ _ _ _ _ _ _ _ hx hb _ _ _ kk => lv_tableOut hx hb hd h ht kk) k
theorem el_sld {i : Int32} {n : Nat} (hi : i = nI n) (hn : n < L) (hL : L < 2 ^ 31) (hd : decode code pc = .ok (.iaload, 1)) (hp : pc + 1 = pc') (k : EvL b L xs n0 pc' lv (iv (xs n) :: st) C R z y) : EvL b L xs n0 pc lv (iv i :: qv (some b) :: st) C R z y := by
  subst hp
  subst hi
  intro D cy p l e s m below meth c H locs ls Cx hn0 hX hb hz h6 h7 hC hR hap hS hl
  have k9 := k D cy p l e s m below meth c H locs ls Cx hn0 hX hb hz h6 h7 hC hR hap hS hl
  have h9 : (nI n).toNatClampNeg = n := nI_clamp (by omega)
  refine va_sld Cx.1 Cx.2.1 hX hb (Nat.not_le.mpr hb) hS (vp_in_nI hn hL) hd ?_
  rw [h9]
  exact k9
theorem el_slen (hd : decode code pc = .ok (.arraylength, 1)) (hp : pc + 1 = pc') (k : EvL b L xs n0 pc' lv (iv (nI L) :: st) C R z y) : EvL b L xs n0 pc lv (qv (some b) :: st) C R z y := by
  subst hp
  intro D cy p l e s m below meth c H locs ls Cx hn0 hX hb hz h6 h7 hC hR hap hS hl
  exact va_slen Cx.1 Cx.2.1 hX hb (Nat.not_le.mpr hb) hS hd (k D cy p l e s m below meth c H locs ls Cx hn0 hX hb hz h6 h7 hC hR hap hS hl)
theorem el_ret (hd : decode code pc = .ok (.ireturn, 1)) : EvL b L xs n0 pc lv [iv 1] C R z y := by
  intro D cy p l e s m below meth c H locs ls Cx hn0 hX hb hz h6 h7 hC hR hap hS hl
  refine va_forget (fun q hq => hS.2.2 q hq) ?_
  refine W.widen (k := 600000) (n := room_1.slots) h6 h7 ?_
  exact lw_ret Cx.1 Cx.2.1 Cx.2.2.2.1 Cx.2.2.2.2.1 hd
theorem keep_Wd {D : va_G} {cy : Nat → ClassId} {A : Nat → Prop} {S S1 : St} {z1 y1 : Nat} {H H1 : Heap} (hW : Wd D cy A S H) (hz : H1.size = z1) (hk : ∀ a, sT S a ≠ 0 → H1[a]? = H[a]?) (e1 : sT S1 = sT S) (e2 : sN S1 = sN S) (e3 : sI S1 = sI S) (e4 : sJ S1 = sJ S) (e5 : sF S1 = sF S) : Wd D cy A (sy S1 z1 y1) H1 := by
  refine ⟨hz, fun a ha => ?_⟩
  have ha : sT S a ≠ 0 := by rw [← e1]; exact ha
  refine ⟨(hW.2 a ha).1, ?_⟩
  have hc : cellF cy (sy S1 z1 y1) a = cellF cy S a := by
    unfold cellF
    show (if sT S1 a < 20 then _ else _) = _
    show (if sT S1 a < 20 then (Sum.inr (sT S1 a - 1, flds (sT S1 a - 1) (sI S1 a) (sF S1 a)) : va_E) else if sT S1 a < 22 then .inl (cy (sT S1 a), sN S1 a, .inl (sI S1 a)) else if sT S1 a = 22 then .inl (cy (sT S1 a), sN S1 a, .inr (.inl (sJ S1 a))) else .inl (cy (sT S1 a), sN S1 a, .inr (.inr (.inr (.inr (sF S1 a)))))) = _
    rw [e1, e2, e3, e4, e5]
  rw [hc]
  exact (hW.2 a ha).2.kept (hk a ha)
/-- a call on the class's memory -/
theorem el_callC {α : Type} {sa : List TV} {rv' : α → Option Value} {P0 : Prg α} {ins : Instr} {d : Nat} {pu : List TV} {x : α} {C1 : St} (hpu : (rv' x).toList = pu.map tv) (hI : Inv "HollowPressLaw" d ins sa rv' P0) (hrun : P0 (sy C z y) = some (x, C1)) (hdep : d ≤ 40) (hd : decode code pc = .ok (ins, 3)) (hp : pc + 3 = pc') (hr : (st.map tc).sum ≤ 8) (hbd : sX C1 - n0 ≤ 600000 ∧ sS C1 ≤ 7000000) (hap1 : ∀ a, sT C1 a = 0 ∨ sT R a = 0) (k : EvL b L xs n0 pc' lv (pu ++ st) C1 R (sX C1) (sS C1)) : EvL b L xs n0 pc lv (sa ++ st) C R z y := by
  subst hp
  intro D cy p l e s m below meth c H locs ls Cx hn0 hX hb hz h6 h7 hC hR hap hS hl
  obtain ⟨m1, run⟩ := hI (sy C z y) x C1 hrun
  subst hn0
  have hb9 : sX C1 - s.heap.size ≤ 600000 ∧ sS C1 ≤ room_1.slots := ⟨hbd.1, Nat.le_trans hbd.2 slots_ok⟩
  have m1 : z ≤ sX C1 ∧ y ≤ sS C1 := m1
  have run := run eL D cy p l e s m #[Value.ref b] below meth c room_1 s.heap.size 0 H locs ls pc st Cx rfl hdep hl.1 hz (Nat.zero_le _) (by show sX C1 - s.heap.size ≤ 600000; exact hb9.1) (by show sS C1 - 0 ≤ room_1.slots; exact hb9.2) hC.self hr hd
  rw [List.map_append]
  intro T hT X
  obtain ⟨v, st₀, t, T', L9, e0, X', hL9, e1, e2, ⟨hv, hW1, hF⟩, step⟩ := run T hT X
  cases hv
  have hAA : ∀ q, Adom (sy C z y) q → s.heap.size ≤ q := fun q hq => hq.elim (fun w => (hC.2 q w).1) (fun w => Nat.le_trans hz w)
  have hS' : va_S (fun q => s.heap.size ≤ q) s.heap T'.heap (locs ++ L9) := by
    rw [e1]
    refine ⟨Nat.le_trans hS.1 (by rw [← e0]; exact hF.1), fun q g1 g2 => ?_, fun q hq => ?_⟩
    · have g3 : q < st₀.heap.size := by rw [e0]; exact Nat.lt_of_lt_of_le g1 hS.1
      rw [hF.2 q g3 (fun w => g2 (hAA q w)), e0]
      exact hS.2.1 q g1 g2
    · rcases List.mem_append.mp hq with w | w
      · exact hS.2.2 q w
      · exact hAA _ (hL9 q w)
  have hWC : Wd D cy (fun q => s.heap.size ≤ q) (sy C1 (sX C1) (sS C1)) T'.heap := by
    rw [e1]
    exact hW1.mono hAA
  have hWR : Wd D cy (fun q => s.heap.size ≤ q) (sy R (sX C1) (sS C1)) T'.heap := by
    refine keep_Wd (S := sy R z y) hR (by rw [e1]; exact hW1.1) (fun a ha => ?_) rfl rfl rfl rfl rfl
    have hlt : a < H.size := (hR.2 a ha).2.lt
    rw [e1, hF.2 a (by rw [e0]; exact hlt) (fun w => ?_), e0]
    rcases w with w | w
    · rcases hap a with h9 | h9
      · exact w h9
      · exact ha h9
    · have h9 : H.size = z := hC.1
      have w : z ≤ a := w
      omega
  have W2 := k D cy p l e s m below meth c T'.heap (locs ++ L9) ls Cx rfl hX hb (by omega) hb9.1 hb9.2 hWC hWR hap1 hS' hl
  have q1 : z - s.heap.size + (sX C1 - z) = sX C1 - s.heap.size := by omega
  have q2 : y - 0 + (sS C1 - y) = sS C1 := by omega
  have X' : Stand p l e room_1 s m #[Value.ref b] below meth c T' (locs ++ L9) (z - s.heap.size + (sX C1 - z)) (y - 0 + (sS C1 - y)) := X'
  rw [q1, q2] at X'
  obtain ⟨t2, b1, b2⟩ := W2 T' rfl X'
  refine ⟨t2, step t2 ?_, b2⟩
  rw [List.map_append, ← hpu] at b1
  exact b1
/-- a call on the reference's memory -/
theorem el_callR {α : Type} {sa : List TV} {rv' : α → Option Value} {P0 : Prg α} {ins : Instr} {d : Nat} {pu : List TV} {x : α} {R1 : St} (hpu : (rv' x).toList = pu.map tv) (hI : Inv "HollowPressLaw" d ins sa rv' P0) (hrun : P0 (sy R z y) = some (x, R1)) (hdep : d ≤ 40) (hd : decode code pc = .ok (ins, 3)) (hp : pc + 3 = pc') (hr : (st.map tc).sum ≤ 8) (hbd : sX R1 - n0 ≤ 600000 ∧ sS R1 ≤ 7000000) (hap1 : ∀ a, sT C a = 0 ∨ sT R1 a = 0) (k : EvL b L xs n0 pc' lv (pu ++ st) C R1 (sX R1) (sS R1)) : EvL b L xs n0 pc lv (sa ++ st) C R z y := by
  subst hp
  intro D cy p l e s m below meth c H locs ls Cx hn0 hX hb hz h6 h7 hC hR hap hS hl
  obtain ⟨m1, run⟩ := hI (sy R z y) x R1 hrun
  subst hn0
  have hb9 : sX R1 - s.heap.size ≤ 600000 ∧ sS R1 ≤ room_1.slots := ⟨hbd.1, Nat.le_trans hbd.2 slots_ok⟩
  have m1 : z ≤ sX R1 ∧ y ≤ sS R1 := m1
  have run := run eL D cy p l e s m #[Value.ref b] below meth c room_1 s.heap.size 0 H locs ls pc st Cx rfl hdep hl.1 hz (Nat.zero_le _) (by show sX R1 - s.heap.size ≤ 600000; exact hb9.1) (by show sS R1 - 0 ≤ room_1.slots; exact hb9.2) hR.self hr hd
  rw [List.map_append]
  intro T hT X
  obtain ⟨v, st₀, t, T', L9, e0, X', hL9, e1, e2, ⟨hv, hW1, hF⟩, step⟩ := run T hT X
  cases hv
  have hAA : ∀ q, Adom (sy R z y) q → s.heap.size ≤ q := fun q hq => hq.elim (fun w => (hR.2 q w).1) (fun w => Nat.le_trans hz w)
  have hS' : va_S (fun q => s.heap.size ≤ q) s.heap T'.heap (locs ++ L9) := by
    rw [e1]
    refine ⟨Nat.le_trans hS.1 (by rw [← e0]; exact hF.1), fun q g1 g2 => ?_, fun q hq => ?_⟩
    · have g3 : q < st₀.heap.size := by rw [e0]; exact Nat.lt_of_lt_of_le g1 hS.1
      rw [hF.2 q g3 (fun w => g2 (hAA q w)), e0]
      exact hS.2.1 q g1 g2
    · rcases List.mem_append.mp hq with w | w
      · exact hS.2.2 q w
      · exact hAA _ (hL9 q w)
  have hWR : Wd D cy (fun q => s.heap.size ≤ q) (sy R1 (sX R1) (sS R1)) T'.heap := by
    rw [e1]
    exact hW1.mono hAA
  have hWC : Wd D cy (fun q => s.heap.size ≤ q) (sy C (sX R1) (sS R1)) T'.heap := by
    refine keep_Wd (S := sy C z y) hC (by rw [e1]; exact hW1.1) (fun a ha => ?_) rfl rfl rfl rfl rfl
    have hlt : a < H.size := (hC.2 a ha).2.lt
    rw [e1, hF.2 a (by rw [e0]; exact hlt) (fun w => ?_), e0]
    rcases w with w | w
    · rcases hap a with h9 | h9
      · exact ha h9
      · exact w h9
    · have h9 : H.size = z := hC.1
      have w : z ≤ a := w
      omega
  have W2 := k D cy p l e s m below meth c T'.heap (locs ++ L9) ls Cx rfl hX hb (by omega) hb9.1 hb9.2 hWC hWR hap1 hS' hl
  have q1 : z - s.heap.size + (sX R1 - z) = sX R1 - s.heap.size := by omega
  have q2 : y - 0 + (sS R1 - y) = sS R1 := by omega
  have X' : Stand p l e room_1 s m #[Value.ref b] below meth c T' (locs ++ L9) (z - s.heap.size + (sX R1 - z)) (y - 0 + (sS R1 - y)) := X'
  rw [q1, q2] at X'
  obtain ⟨t2, b1, b2⟩ := W2 T' rfl X'
  refine ⟨t2, step t2 ?_, b2⟩
  rw [List.map_append, ← hpu] at b1
  exact b1
theorem el_dom (h : n0 ≤ z → (∀ a, sT C a ≠ 0 → a < z) → (∀ a, sT R a ≠ 0 → a < z) → (∀ a, sT C a = 0 ∨ sT R a = 0) → EvL b L xs n0 pc lv st C R z y) : EvL b L xs n0 pc lv st C R z y := by
  intro D cy p l e s m below meth c H locs ls Cx hn0 hX hb hz h6 h7 hC hR hap hS hl
  have e1 : H.size = z := hC.1
  exact h (by omega) (fun a ha => by have := (hC.2 a ha).2.lt; have h9 : a < H.size := this; omega) (fun a ha => by have := (hR.2 a ha).2.lt; have h9 : a < H.size := this; omega) hap D cy p l e s m below meth c H locs ls Cx hn0 hX hb hz h6 h7 hC hR hap hS hl
end RL
/-- class and reference answer alike, from alike memories; how much the class may make -/
def Alike {α : Type} (Rl : St → St → Prop) (P Q : Prg α) : Prop := ∀ C R : St, Rl C R → (∀ a, sT C a ≠ 0 → a < sX C) → (∀ a, sT R a ≠ 0 → a < sX C) → ∃ (x : α) (C1 R1 : St), P C = some (x, C1) ∧ Q R = some (x, R1) ∧ Rl C1 R1 ∧ sX R1 = sX R ∧ sS R1 = sS R ∧ sT R1 = sT R ∧ sX C1 ≤ sX C + 4 ∧ sS C1 ≤ sS C + 400
/-- both calls, one behind the other, as the law makes them -/
theorem Alike.two {α : Type} {Rl : St → St → Prop} {P Q : Prg α} (hA : Alike Rl P Q) (hs : ∀ C R z y z' y', Rl C R → Rl (sy C z y) (sy R z' y')) {C R : St} {z y : Nat} (h : Rl C R) (dC : ∀ a, sT C a ≠ 0 → a < z) (dR : ∀ a, sT R a ≠ 0 → a < z) : ∃ (x : α) (C1 R1 : St), P (sy C z y) = some (x, C1) ∧ Q (sy R (sX C1) (sS C1)) = some (x, R1) ∧ Rl C1 R1 ∧ sX R1 = sX C1 ∧ sS R1 = sS C1 ∧ sT R1 = sT R ∧ sX C1 ≤ z + 4 ∧ sS C1 ≤ y + 400 := by
  obtain ⟨x, C1, R1, h1, -, -, -, -, -, h2, h3⟩ := hA (sy C z y) (sy R z y) (hs _ _ _ _ _ _ h) dC dR
  obtain ⟨x2, C2, R2, g1, g2, g3, g4, g5, g6, -, -⟩ := hA (sy C z y) (sy R (sX C1) (sS C1)) (hs _ _ _ _ _ _ h) dC dR
  cases h1.symm.trans g1
  exact ⟨x, C1, R2, h1, g2, g3, g4, g5, g6, h2, h3⟩
