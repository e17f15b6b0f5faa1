/-! (C) the claim -/
theorem inst_in (c : Nat) (q : vw_C) (hq : vwCl[c]? = some q) : Cond.instantiable q.1 q.2.2 ∈ gtbl := by
  match c, hq with
  | 0, hq => cases hq; exact tb_g 328 (by decide +kernel) rfl
  | 1, hq => cases hq; exact tb_g 43 (by decide +kernel) rfl
  | 2, hq => cases hq; exact tb_g 383 (by decide +kernel) rfl
  | 3, hq => cases hq; exact tb_g 277 (by decide +kernel) rfl
  | 4, hq => cases hq; exact tb_g 344 (by decide +kernel) rfl
  | 5, hq => cases hq; exact tb_g 124 (by decide +kernel) rfl
  | 6, hq => cases hq; exact tb_g 80 (by decide +kernel) rfl
  | 7, hq => cases hq; exact tb_g 198 (by decide +kernel) rfl
  | 8, hq => cases hq; exact tb_g 29 (by decide +kernel) rfl
  | 9, hq => cases hq; exact tb_g 17 (by decide +kernel) rfl
  | 10, hq => cases hq; exact tb_g 852 (by decide +kernel) rfl
  | k + 11, hq => simp [vwCl] at hq
theorem nws_of {w : Cond} {A : Array Value} {s : State} (hn : nwK w = true) (h : w.before A s = true) : va_Nw w s := by
  unfold nwK at hn
  split at hn <;> first | exact va_Nw.of rfl h | exact h | cases hn
theorem aoi_of {args : Array Value} {s : State} (h : (Cond.arrayOver (.array .int)).before args s = true) : AOI s := by
  have h : (Cond.arrayOver (.array .int)).holds args s none s [] = true := h
  simp only [Cond.holds, Cond.value, beq_iff_eq] at h
  cases hc : s.vm.findClass (FieldType.array .int).toString with
  | none => simp [hc] at h
  | some comp =>
    simp only [hc, Option.bind_some, Option.bind_eq_some_iff, Option.map_eq_some_iff] at h
    obtain ⟨c, hi, k, hk, hb⟩ := h
    obtain ⟨hlt, hp, -⟩ := Array.findIdx?_eq_some_iff_getElem.mp hi
    have hkk : s.vm.classes[c] = k := (Array.getElem?_eq_some_iff.mp hk).2
    rw [hkk] at hp
    cases hkind : k.kind with
    | array component ty =>
      rw [hkind] at hb hp
      simp at hb hp
      exact ⟨comp, c, k, hc, hi, hk, by rw [hkind, hp, hb.1], hb.2⟩
    | _ => rw [hkind] at hb; simp at hb
theorem kn_of {s : State} {b : Nat} (d : ClassId) (hts : ∀ w ∈ lw_tbl, w.before #[Value.ref b] s = true) (hgv : (Jvm.Cond.and given_1 narrow_1).before #[Value.ref b] s = true) : ∃ (D : va_G) (cy : Nat → ClassId), KN D cy s := by
  have hg : ∀ w ∈ gtbl, w.before #[Value.ref b] s = true := fun w hw => hts w (List.mem_filter.mp hw).1
  have hw : ∀ (w : Cond) (i : Nat), tables_1[i]? = some w → w.before #[Value.ref b] s = true := fun w i h => hts w (List.mem_append_right _ (List.mem_of_getElem? h))
  have hK0 : ∀ c : Nat, ∃ (cC : ClassId) (iS : Nat → Nat), ∀ q : vw_C, vwCl[c]? = some q → u_Kn s q.1 q.2.1 q.2.2 cC iS := fun c => by
    cases hq : vwCl[c]? with
    | none => exact ⟨d, fun _ => 0, fun q h => by cases h⟩
    | some q =>
      obtain ⟨cC, iS, h⟩ := u_known (n := q.2.2) hg (cls_in c q hq) (hg _ (inst_in c q hq))
      exact ⟨cC, iS, fun q' h' => by cases h'; exact h⟩
  have hs := flat_of_before _ hgv
  obtain ⟨cI, kI, pI, I1, I2, I3⟩ := Cond.arrayClass_spec (hg (.arrayClass .int) w_11)
  have aI : ArrOfT s cI .int ∧ va_RA s cI .int := ⟨fun n z => ⟨fun k h => (by cases h), kI, I2, pI, I3⟩, I1⟩
  obtain ⟨cZ, kZ, pZ, Z1, Z2, Z3⟩ := Cond.arrayClass_spec (hg (.arrayClass .boolean) w_21)
  have aZ : ArrOfT s cZ .boolean ∧ va_RA s cZ .boolean := ⟨fun n z => ⟨fun k h => (by cases h), kZ, Z2, pZ, Z3⟩, Z1⟩
  obtain ⟨cJ, kJ, pJ, J1, J2, J3⟩ := Cond.arrayClass_spec (hg (.arrayClass .long) w_551)
  have aJ : ArrOfT s cJ .long ∧ va_RA s cJ .long := ⟨fun n z => ⟨fun k h => (by cases h), kJ, J2, pJ, J3⟩, J1⟩
  obtain ⟨pS, cS, kS, S1, -, S3, S4, S5⟩ := Cond.arrayOver_spec (hw (.arrayOver (.object "HollowPress$Sheet")) 25 (by decide +kernel))
  have aS : ArrOfT s cS (.object "HollowPress$Sheet") ∧ va_RA s cS (.object "HollowPress$Sheet") := ⟨fun n z => ⟨fun k h => (by cases h), kS, S3, pS, S4⟩, kS, pS, S3, S4, S1, S5⟩
  obtain ⟨pT, cT, kT, T1, -, T3, T4, T5⟩ := Cond.arrayOver_spec (hw (.arrayOver (.object "HollowPress$Thing")) 27 (by decide +kernel))
  have aT : ArrOfT s cT (.object "HollowPress$Thing") ∧ va_RA s cT (.object "HollowPress$Thing") := ⟨fun n z => ⟨fun k h => (by cases h), kT, T3, pT, T4⟩, kT, pT, T3, T4, T1, T5⟩
  obtain ⟨pP, cP, kP, P1, -, P3, P4, P5⟩ := Cond.arrayOver_spec (hw (.arrayOver (.object "HollowPress$Part")) 86 (by decide +kernel))
  have aP : ArrOfT s cP (.object "HollowPress$Part") ∧ va_RA s cP (.object "HollowPress$Part") := ⟨fun n z => ⟨fun k h => (by cases h), kP, P3, pP, P4⟩, kP, pP, P3, P4, P1, P5⟩
  have aoi : AOI s := aoi_of (hw (.arrayOver (.array .int)) 130 (by decide +kernel))
  obtain ⟨pA, cA, kA, A1, -, A3, A4, A5⟩ := id aoi
  have aA : ArrOfT s cA (.array .int) ∧ va_RA s cA (.array .int) := ⟨fun n z => ⟨fun k h => (by cases h), kA, A3, pA, A4⟩, A5⟩
  refine ⟨(fun c => Classical.choose (hK0 c), fun c => Classical.choose (Classical.choose_spec (hK0 c))), fun t => if t = 20 then cI else if t = 21 then cZ else if t = 22 then cJ else if t = 23 then cS else if t = 24 then cT else if t = 25 then cP else cA, ⟨fun c q hq => Classical.choose_spec (Classical.choose_spec (hK0 c)) q hq, fun k q hq => ?_⟩, fun w hw9 => nws_of (List.mem_filter.mp hw9).2 (hts w (List.mem_filter.mp hw9).1), va_Nc.of (hs (.not (.castable "HollowPress$Layers" "HollowPress$Part")) (by decide +kernel)), va_Nc.of (hs (.not (.castable "HollowPress$Part" "HollowPress$Layers")) (by decide +kernel)), va_Nc.of (hs (.not (.castable "HollowPress$EvenPart" "HollowPress$Layers")) (by decide +kernel)), va_Nc.of (hs (.not (.castable "HollowPress$Plate" "HollowPress$Layers")) (by decide +kernel)), aoi⟩
  match k, hq with
  | 0, hq => cases hq; exact aI
  | 1, hq => cases hq; exact aZ
  | 2, hq => cases hq; exact aJ
  | 3, hq => cases hq; exact aS
  | 4, hq => cases hq; exact aT
  | 5, hq => cases hq; exact aP
  | 6, hq => cases hq; exact aA
  | k + 7, hq => simp [tysF] at hq
/-- from the entry, for every script of at most 3072 ints, the law comes to its end with true -/
theorem whole_start {p : Program} {e : Env} {s : State} {m : MethodId} {below : List Frame} {meth : Method} {c : Code} (l : Launch) {b L : Nat} {xs : Nat → Int32} (hnm : meth.name = "law") (hL : L ≤ 3072) (C0 : lw_At p s m meth c b L xs) : W p l e room_1 s m #[Value.ref b] below meth c s.heap [] 0 0 (lw_Z below #[Value.ref b] s) (entryFrame m ([Value.ref b] : List Value).toArray 4) := by
  obtain ⟨hx, hb, hr, hml, hown, hts, hX, hbl, hlocks, hgv⟩ := C0
  obtain ⟨D, cy, kn⟩ := kn_of m.cls hts hgv
  have hg : ∀ w ∈ gtbl, w.before #[Value.ref b] s = true := fun w hw => hts w (List.mem_filter.mp hw).1
  have Cx : Ctx eL D cy p s m #[Value.ref b] meth c room_1 := ⟨hx, hb, hml, hr, hlocks, hnm, hown, hg, kn, by decide, by decide⟩
  have hl := lv_entry ([.ref b]) (n := 4) (Nat.le_of_ble_eq_true rfl)
  rw [lg_entry_eq]
  generalize (lg_sl ([.ref b]) ++ List.replicate (4 - (lg_sl ([.ref b])).length) Slot.unset).toArray = ls at hl ⊢
  have hl : lv_has ls 4 [(0, .ref b)] := hl
  have k := lw_entry (b := b) (L := L) (X := s.heap.size) (xs := xs) hL D cy p l e s m below meth c s.heap [] ls Cx rfl hX hbl (Nat.le_refl _) (by omega) (Nat.zero_le _) ⟨rfl, fun a ha => absurd (M0_T s.heap.size 0 a) ha⟩ ⟨rfl, fun a ha => absurd (M0_T (s.heap.size + 34) 0 a) ha⟩ (fun a => Or.inl (M0_T s.heap.size 0 a)) va_S.rf hl
  rw [Nat.sub_self] at k
  exact k
set_option maxHeartbeats 4000000 in
theorem lw_walk (l : Launch) (b : Addr) (xs : List Int32) : MetFree l x (headSpec (Jvm.Cond.code x code maxLocals ret :: tables_1) room_1) (lw_P b xs) (fun _ _ _ _ _ => True) lw_Q := by
  refine MetFree.of_bodyS (code := code) (maxLocals := maxLocals) (ret := ret) (by decide) ?_ ?_
  · intro args s m h hn
    obtain ⟨meth, c, h1, h2, h3, h4, h5, h6, -, -⟩ := Cond.code_spec hn (atoms_spec (ws := Jvm.Cond.code x code maxLocals ret :: tables_1) h _ List.mem_cons_self)
    exact ⟨meth, c, h1, h2, h3, h4, h5, h6⟩
  · intro p e s m args below meth c s₁ B hml0 hP _
    obtain ⟨rfl, hx, hbd, hgv⟩ := hP
    obtain ⟨scr, harrAt, hlist, hof, hsmall⟩ := hx
    obtain ⟨hcb, hkn, -, -⟩ := State.arrayAt?_spec harrAt
    have hown : s.vm.findClass R_law = some m.cls := findClass_of_methodNamed B.named
    have hts0 : ∀ c ∈ (Jvm.Cond.code x code maxLocals ret :: tables_1), c.before #[Value.ref b] s = true := atoms_spec (ws := Jvm.Cond.code x code maxLocals ret :: tables_1) B.pre
    have hts : ∀ w ∈ lw_tbl, w.before #[Value.ref b] s = true := k2_hts_sels lw_privs (fun w hw => hts0 w (List.mem_cons_of_mem _ hw)) lw_privs_ok
    have hml : c.maxLocals = 4 := B.maxLocals_eq (hts0 _ List.mem_cons_self)
    have X₀ : Stand p l e room_1 s m #[Value.ref b] below meth c s₁ [] 0 0 := Stand.of_body B
    have hh0 : s₁.heap = s.heap := by rw [B.state]; rfl
    have hsz : scr.slots.size = xs.length := by rw [← Array.length_toList, hlist, List.length_map]
    have hval : ∀ j : Nat, j < xs.length → scr.slots[j]? = some (.int (xs.getD j 0)) := fun j hj => by
      rw [← Array.getElem?_toList, hlist]
      simp [hj]
    have hbl : b < s.heap.size := (Array.getElem?_eq_some_iff.mp hcb).1
    have hX : va_X b xs.length (fun j => xs.getD j 0) s s.heap := ⟨scr, hcb, hof, hkn, hsz, hval⟩
    have K : W p l e room_1 s m #[Value.ref b] below meth c s₁.heap [] 0 0 (lw_Z below #[Value.ref b] s) (entryFrame m ([Value.ref b] : List Value).toArray 4) := by
      rw [hh0]
      exact whole_start l ((name_of_methodNamed B.named B.method).1) hbd ⟨B.exec, B.bytes, B.returns, hml, hown, hts, hX, hbl, B.notSynchronized, hgv⟩
    obtain ⟨t, a1, o, b1, b2, b3⟩ := K s₁ rfl X₀
    exact ⟨t, o, a1, b1, b2, b3⟩
theorem lw_pre_spec {args : Array Value} {s : State} (h : (Jvm.Cond.and given_1 narrow_1).before args s = true) (hr : rest_1_c.before args s = true) : ∃ (b : Addr) (xs : List Int32), lw_P b xs args s := by
  have hs := flat_of_before _ h
  have hq := flat_of_before _ hr
  have hc : (Cond.count 1).before args s = true := hs _ (by decide +kernel)
  have harr : (Cond.arrayOf (.arg 0) .int).before args s = true := hs _ (by decide +kernel)
  have hle : (Cond.le (.length (.arg 0)) (.int 3072)).before args s = true := hs _ (by decide +kernel)
  have hlen : (Cond.isInt (.length (.arg 0))).before args s = true := hq _ (by decide +kernel)
  have hall : (Cond.all (.arg 0) (.isInt (.elem (.arg 0) (.index 0)))).before args s = true := hq _ (by decide +kernel)
  obtain ⟨b, xs, hb, hx⟩ := State.ints_of_pre rfl harr hlen hall
  have hsm : xs.length < 2 ^ 31 := hx.choose_spec.2.2.2
  have hev : (Term.length (.arg 0)).eval args s none [] s = some (.int xs.length.toInt32) := hx.length_eval hb
  have hv := Cond.le_ints hev (show (Term.int 3072).eval args s none [] s = some (.int 3072) from rfl)
  have hd : xs.length.toInt32 ≤ 3072 := by
    simpa [Cond.before, Cond.holds, hv] using hle
  have hN : xs.length ≤ 3072 := (Int32.ofNat_le_ofNat hsm (by decide)).mp (show Int32.ofNat xs.length ≤ Int32.ofNat 3072 from hd)
  exact ⟨b, xs, Cond.one_arg hc (show args[0]? = some (.ref b) from hb), hx, hN, h⟩
theorem lw_comes (l : Launch) : Comes l x (Jvm.Cond.code x code maxLocals ret :: tables_1) room_1 (fun tb e args s => Calls_1 tb e args s ∧ rest_1 tb e args s ∧ Pre_1 tb e args s)
    (fun _ _ args s o t => lw_Q args s o t) := by
  intro p e ha hc hk s m args below hf hfit hheap happ hpre
  obtain ⟨b, xs, hP⟩ := lw_pre_spec hpre.2.2 hpre.2.1
  obtain ⟨k, o, h1, h2, h3, hQ⟩ := lw_walk l b xs p e ha hc hk s m args below hf ((Spec.applies_iff_loose hf).mp happ).1 hP trivial
  exact ⟨k, o, h1, h2, h3, hQ⟩
theorem lw_frame {s t : State} {o : Outcome} {args : Array Value} (h : Framed s o t [] 600000 room_1.slots) :
    Framed s o t (fieldLocs frame_1_writes args s ++ arrayLocs frame_1_arrays args s ++ staticLocs frame_1_statics s) 600000 room_1.slots := h
theorem lw_limb (L : Cond) (hL : ∀ (args : Array Value) (s t : State), L.after args s (.returned (some (.int 1))) t = true) :
    ArmFor flags0 classFile x code maxLocals ret World_1 tables_1 room_1 Calls_1 rest_1 Pre_1
      (fun tb e a s o t => postC L tb e a s o t ∧ Framed s o t (fieldLocs frame_1_writes a s ++ arrayLocs frame_1_arrays a s ++ staticLocs frame_1_statics s) 600000 room_1.slots) := by
  intro l _ _ _ p e ha hc hk s m args below hf hfit hheap happ hpre
  obtain ⟨k, o, h1, h2, h3, rfl, hF⟩ := lw_comes l p e ha hc hk s m args below hf hfit hheap happ hpre
  exact ⟨k, _, h1, h2, h3, hL args s _, lw_frame hF⟩
theorem i_vc : Claimed_1_1 ∧ Claimed_1_2 := ⟨lw_limb limb_1_1 (fun args s t => by simp [limb_1_1, Cond.after, Cond.holds, Cond.value]), lw_limb limb_1_2 (fun args s t => Cond.after_iff.mpr (by
  first | (rw [show limb_1_2 = Cond.eq .result (.int 1) from rfl, Cond.eq_ints (x := 1) (y := 1) rfl rfl]; simp; done) | (simp [limb_1_2, Cond.value, Term.eval]; done)))⟩
