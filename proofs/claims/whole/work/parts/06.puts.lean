/-! rows of Sim that write the heap, make cells, ask for classes, return -/
def Gok (E : Env0) (idx c k : Nat) : Prop := (1 ≤ c ∧ c ≤ 12) ∧ ∀ t, fit c t = true → ∃ q : vw_C, vwCl[t - 1]? = some q ∧ k < q.2.2 ∧ ∃ ref : String, Cond.fieldLink E.1 idx ref (q.2.1 k).2.1 (q.2.1 k).2.2.1 ∈ gtbl ∧ (ref = (q.2.1 k).1 ∨ Cond.sameField ref (q.2.1 k).1 (q.2.1 k).2.1 (q.2.1 k).2.2.1 ∈ gtbl) ∧ ((q.2.1 k).2.2.2 = false ∨ ((q.2.1 k).2.2.2 = true ∧ E.2.1 = "<init>" ∧ (q.2.1 k).1 = E.1))
theorem bool_01 {x : Int32} (h : vp_nar .boolean x = x) : narrow .boolean (.int x) = .int x ∧ fits .boolean (.int x) = true := by
  have h1 : x &&& 1 = x := h
  refine ⟨by show Value.int (x &&& 1) = _; rw [h1], ?_⟩
  have h2 := pk_and x (m := 1) 1 (by decide)
  rw [h1] at h2
  show (x == 0 || x == 1) = true
  rcases (show x.toBitVec.toNat % 2 ^ 1 = 0 ∨ x.toBitVec.toNat % 2 ^ 1 = 1 by omega) with e | e
  · rw [e] at h2
    subst h2
    decide
  · rw [e] at h2
    subst h2
    decide
section PutRows
variable {β : Type} {E : Env0} {rv : β → Option Value} {pc pc' : Nat} {lv : List (Nat × TV)} {st st' : List TV} {P P' : Prg β}
theorem put_core {c a k idx : Nat} {v : TV} {S S2 S' : St} {o : Option Value} (hF : Gok E idx c k) (hf : fit c (sT S a) = true) (hn : narrow (tyT (sT S a - 1) k) (tv v) = tv v ∧ fits (tyT (sT S a - 1) k) (tv v) = true) (hT : sT S2 = sT S) (hX : sX S2 = sX S) (hSS : sS S2 = sS S) (ho : ∀ cy b, b ≠ a → cellF cy S2 b = cellF cy S b)
    (hV : ∀ j, j < nF (sT S a - 1) → updV (vp_V (flds (sT S a - 1) (sI S a) (sF S a))) k (tv v) j = vp_V (flds (sT S a - 1) (sI S2 a) (sF S2 a)) j) (hd : decode E.2.2.1 pc = .ok (.putfield idx, 3)) (kk : Ev E (pc + 3) lv st S2 o S') : Ev E pc lv (v :: qv (some a) :: st) S o S' := by
  intro D cy p l e s m args below meth c0 R A n0 k0 H locs ls C a1 a2 a3 a4 a5 hW hS hl
  obtain ⟨q, hq1, hk, ref, hlink, hsame, hfin⟩ := hF.2 _ hf
  have hrg := fit_rng hf hF.1
  have hts := C.2.2.2.2.2.2.2.1
  have hK := C.2.2.2.2.2.2.2.2.1.1
  have hat := hW.2 a (by omega)
  have hcell := hat.2
  rw [cell_O hrg.2] at hcell
  have hap := va_apart (own := E.1) hts (cls_in _ q hq1) (tyT (sT S a - 1)) (ty_ok _ q hq1) (nm_ok _ q hq1) hK hq1
  obtain ⟨r, h1, cell, q1, q2, q3, q4⟩ := hcell
  have hr : r = q := Option.some.inj (h1.symm.trans hq1)
  subst hr
  obtain ⟨hSl, hfc, kC, hkC, hkind⟩ := hK.1 _ _ hq1
  obtain ⟨cf, kf, fi, f, hi, hsl⟩ := hSl k hk
  have hst := (u_facts hfc hkC (u_lays hts (cls_in _ r hq1) hk) hi).1
  have hsm : ∀ x, s.fieldFound? (r.2.1 k).1 (r.2.1 k).2.1 (r.2.1 k).2.2.1 = some x → s.fieldFound? ref (r.2.1 k).2.1 (r.2.1 k).2.2.1 = some x := by
    rcases hsame with h9 | h9
    · intro z hz
      rw [h9]
      exact hz
    · exact fun z hz => u_same (hts _ h9) z hz
  have hlay := hts _ (cls_in _ r hq1 _ (u_in_lay hk))
  unfold u_lay at hlay
  have fin : ∀ H' : Heap, H'[a]? = some (cell.setSlot (D.2 (sT S a - 1) k) (tv v)) → H'.size = H.size → (∀ q, q ≠ a → H'[q]? = H[q]?) → W p l e R s m args below meth c0 H' (locs ++ [⟨a, D.2 (sT S a - 1) k⟩]) (sX S - n0) (sS S - k0) (MQ below (Qo D cy A o S') args s (sX S' - n0) (sS S' - k0) A) (F0 m (pc + 3) ls (st.map tv)) := by
    intro H' e1 e2 e3
    have hW2 : Wd D cy A S2 H' := by
      refine hW.put1 hT hX (ho cy) e2 e3 ?_
      have hT2 : sT S2 a = sT S a := by rw [hT]
      rw [cell_O (by rw [hT2]; exact hrg.2), hT2]
      exact ⟨r, hq1, t_OB.to (V := updV (vp_V (flds (sT S a - 1) (sI S a) (sF S a))) k (tv v)) ⟨_, e1, q2, q3, t_set q4 hap hk (tv v)⟩ (fun j hj => hV j (by rw [← nF_ok _ r hq1]; exact hj))⟩
    have := kk D cy p l e s m args below meth c0 R A n0 k0 H' (locs ++ [⟨a, D.2 (sT S a - 1) k⟩]) ls C (by rw [hX]; exact a1) (by rw [hSS]; exact a2) a3 a4 a5 hW2 (hS.put e2 e3 hat.1) hl
    rw [hX, hSS] at this
    exact this
  rcases hfin with hfin | ⟨hfin, hini, hdecl⟩
  · rw [if_neg (by rw [hfin]; decide)] at hlay
    have h6 := u_store hfc hkC hkind hlay hi (ty_ok _ r hq1 k hk) hn.1 hn.2
    refine W.putK C.1 C.2.1 (f := f) ⟨C.2.2.2.2.2.2.1, hts _ hlink, ⟨_, _, _, hsm _ hi⟩, hst⟩ (by rw [q2]; exact h6) q1 q3 (by rw [hsl]; exact k2_hasslot (q4 k hk)) rfl rfl hd fun H' e1 e2 e3 => ?_
    rw [hsl] at e1 ⊢
    exact fin H' e1 e2 e3
  · rw [if_pos hfin] at hlay
    have hcf : m.cls = cf := by
      obtain ⟨_, _, c', _, _, _, -, -, hf', -, -, -, hown2, -⟩ := Cond.laysFinal_spec hlay
      have e1 : c' = cf := by
        have := hi.symm.trans hf'
        simp at this
        exact this.1.symm
      rw [hdecl] at hown2
      rw [← e1]
      exact Option.some.inj (C.2.2.2.2.2.2.1.symm.trans hown2)
    have h6 := u_fits hfc hkC hkind (Or.inr hlay) hi (ty_ok _ r hq1 k hk) hn.1 hn.2
    refine W.putFinK C.1 C.2.1 C.2.2.2.2.2.2.1 (hts _ hlink) (hsm _ hi) hst hcf (C.2.2.2.2.2.1.trans hini) (by rw [q2]; exact h6) q1 q3 (by rw [hsl]; exact k2_hasslot (q4 k hk)) rfl rfl hd fun H' e1 e2 e3 => ?_
    rw [hsl] at e1 ⊢
    exact fin H' e1 e2 e3
theorem upV_I {c k : Nat} {i : Nat → Int32} {f : Nat → Option Nat} {v : Int32} (hr : isR c k = false) (j : Nat) (hj : j < nF c) : updV (vp_V (flds c i f)) k (.int v) j = vp_V (flds c (upd i k v) f) j := by
  rw [vpV_flds hj]
  unfold updV
  by_cases e : j = k
  · subst e
    rw [if_pos rfl, hr]
    simp [upd]
  · rw [if_neg e, vpV_flds hj]
    simp [upd, e]
theorem upV_F {c k : Nat} {i : Nat → Int32} {f : Nat → Option Nat} {v : Option Nat} (hr : isR c k = true) (j : Nat) (hj : j < nF c) : updV (vp_V (flds c i f)) k (va_rf v) j = vp_V (flds c i (va_up f k v)) j := by
  rw [vpV_flds hj]
  unfold updV
  by_cases e : j = k
  · subst e
    rw [if_pos rfl, hr, va_up_self]
    rfl
  · rw [if_neg e, vpV_flds hj, va_up_ne _ _ e]
theorem sm_putI {c a k idx : Nat} {v : Int32} (hF : Gok E idx c k) (hty : ∀ t, fit c t = true → tyT (t - 1) k = .int) (hd : decode E.2.2.1 pc = .ok (.putfield idx, 3)) (hp : pc + 3 = pc') (kk : Sim E rv pc' lv st P) : Sim E rv pc lv (iv v :: qv (some a) :: st) (pI c a k v P) := by
  subst hp
  intro S x S' hq
  unfold pI at hq
  by_cases hf : fit c (sT S a) = true
  · rw [if_pos hf] at hq
    have h2 := kk _ x S' hq
    have hr : isR (sT S a - 1) k = false := by
      unfold isR
      rw [hty _ hf]
    refine ⟨h2.1, put_core (S2 := wI S a k v) hF hf ?_ rfl rfl rfl (fun cy b hb => wI_o hb) (fun j hj => ?_) hd h2.2⟩
    · rw [hty _ hf]
      exact ⟨rfl, rfl⟩
    · rw [wI_a]
      exact upV_I hr j hj
  · rw [if_neg hf] at hq
    cases hq
theorem sm_putZ {c a k idx : Nat} {v : Int32} (hF : Gok E idx c k) (hty : ∀ t, fit c t = true → tyT (t - 1) k = .boolean) (hd : decode E.2.2.1 pc = .ok (.putfield idx, 3)) (hp : pc + 3 = pc') (kk : Sim E rv pc' lv st P) : Sim E rv pc lv (iv v :: qv (some a) :: st) (pZ c a k v P) := by
  subst hp
  intro S x S' hq
  unfold pZ at hq
  by_cases hf : fit c (sT S a) = true ∧ vp_nar .boolean v = v
  · rw [if_pos hf] at hq
    have h2 := kk _ x S' hq
    have hr : isR (sT S a - 1) k = false := by
      unfold isR
      rw [hty _ hf.1]
    refine ⟨h2.1, put_core (S2 := wI S a k v) hF hf.1 ?_ rfl rfl rfl (fun cy b hb => wI_o hb) (fun j hj => ?_) hd h2.2⟩
    · rw [hty _ hf.1]
      exact bool_01 hf.2
    · rw [wI_a]
      exact upV_I hr j hj
  · rw [if_neg hf] at hq
    cases hq
theorem ref_fits {t : FieldType} (h : (∃ C, t = .object C) ∨ ∃ u, t = .array u) (r : Option Nat) : narrow t (va_rf r) = va_rf r ∧ fits t (va_rf r) = true := by
  rcases h with ⟨C, rfl⟩ | ⟨u, rfl⟩ <;> cases r <;> exact ⟨rfl, rfl⟩
theorem isR_ty {c k : Nat} (h : isR c k = true) : (∃ C, tyT c k = .object C) ∨ ∃ u, tyT c k = .array u := by
  unfold isR at h
  cases ht : tyT c k with
  | object C => exact Or.inl ⟨C, rfl⟩
  | array u => exact Or.inr ⟨u, rfl⟩
  | _ => rw [ht] at h; cases h
theorem sm_putF {c a k idx : Nat} {v : Option Nat} (hF : Gok E idx c k) (hr : ∀ t, fit c t = true → isR (t - 1) k = true) (hd : decode E.2.2.1 pc = .ok (.putfield idx, 3)) (hp : pc + 3 = pc') (kk : Sim E rv pc' lv st P) : Sim E rv pc lv (qv v :: qv (some a) :: st) (pF c a k v P) := by
  subst hp
  intro S x S' hq
  unfold pF at hq
  by_cases hf : fit c (sT S a) = true
  · rw [if_pos hf] at hq
    have h2 := kk _ x S' hq
    refine ⟨h2.1, put_core (S2 := wF S a k v) hF hf (ref_fits (isR_ty (hr _ hf)) v) rfl rfl rfl (fun cy b hb => wF_o hb) (fun j hj => ?_) hd h2.2⟩
    rw [wF_a]
    exact upV_F (hr _ hf) j hj
  · rw [if_neg hf] at hq
    cases hq
theorem upd_V (f : Nat → Int32) (k : Nat) (v : Int32) : updV (fun j => Value.int (f j)) k (.int v) = fun j => .int (upd f k v j) := by
  funext j
  by_cases e : j = k
  · subst e
    simp [updV, upd]
  · simp [updV, upd, e]
theorem upJ_V (f : Nat → Int64) (k : Nat) (v : Int64) : updV (fun j => Value.long (f j)) k (.long v) = fun j => .long (vp_updL f k v j) := by
  funext j
  by_cases e : j = k
  · subst e
    simp [updV, vp_updL]
  · simp [updV, vp_updL, e]
theorem upQ_V (f : Nat → Option Nat) (k : Nat) (v : Option Nat) : updV (fun j => va_rf (f j)) k (va_rf v) = fun j => va_rf (va_up f k v j) := by
  funext j
  by_cases e : j = k
  · subst e
    simp [updV, va_up]
  · simp [updV, va_up, e]
theorem sm_iastore {a : Nat} {i v : Int32} (hd : decode E.2.2.1 pc = .ok (.iastore, 1)) (hp : pc + 1 = pc') (kk : Sim E rv pc' lv st P) : Sim E rv pc lv (iv v :: iv i :: qv (some a) :: st) (stI a i v P) := by
  subst hp
  intro S x S' hq
  unfold stI at hq
  by_cases hf : sT S a = 20 ∧ inB i (sN S a) = true
  · rw [if_pos hf] at hq
    have h2 := kk _ x S' hq
    refine ⟨h2.1, ?_⟩
    intro D cy p l e s m args below meth c0 R A n0 k0 H locs ls C a1 a2 a3 a4 a5 hW hS hl
    have hat := hW.2 a (by omega)
    have hcell := hat.2
    rw [cell_I hf.1] at hcell
    have hK := C.2.2.2.2.2.2.2.2.1.1
    refine W.iast C.1 C.2.1 hcell ((hK.2 0 _ rfl).1 (sN S a) (fun j => .int (sI S a j))) (fun q => by cases q) (by show ¬ (i < 0 ∨ (arrV _ _ _).slots.size ≤ _); rw [arrV_size]; exact inB_in hf.2) rfl rfl hd fun H1 e1 z oq => ?_
    refine h2.2 D cy p l e s m args below meth c0 R A n0 k0 H1 _ ls C a1 a2 a3 a4 a5 (hW.put1 rfl rfl (fun b hb => wI_o hb) z oq ?_) (hS.put z oq hat.1) hl
    rw [cell_I (show sT (wI S a i.toNatClampNeg v) a = 20 from hf.1), wI_a]
    show H1[a]? = some (vp_cell _ _)
    rw [e1, vp_cell_i, vp_cell_i, arrV_store, upd_V]
    rfl
  · rw [if_neg hf] at hq
    cases hq
theorem sm_zastore {a : Nat} {i v : Int32} (hd : decode E.2.2.1 pc = .ok (.bastore, 1)) (hp : pc + 1 = pc') (kk : Sim E rv pc' lv st P) : Sim E rv pc lv (iv v :: iv i :: qv (some a) :: st) (stZ a i v P) := by
  subst hp
  intro S x S' hq
  unfold stZ at hq
  by_cases hf : sT S a = 21 ∧ inB i (sN S a) = true
  · rw [if_pos hf] at hq
    have h2 := kk _ x S' hq
    refine ⟨h2.1, ?_⟩
    intro D cy p l e s m args below meth c0 R A n0 k0 H locs ls C a1 a2 a3 a4 a5 hW hS hl
    have hat := hW.2 a (by omega)
    have hcell := hat.2
    rw [cell_Z hf.1] at hcell
    have hK := C.2.2.2.2.2.2.2.2.1.1
    refine W.zast C.1 C.2.1 hcell ((hK.2 1 _ rfl).1 (sN S a) (fun j => .int (sI S a j))) (fun q => by cases q) (by show ¬ (i < 0 ∨ (arrV _ _ _).slots.size ≤ _); rw [arrV_size]; exact inB_in hf.2) rfl rfl hd fun H1 e1 z oq => ?_
    refine h2.2 D cy p l e s m args below meth c0 R A n0 k0 H1 _ ls C a1 a2 a3 a4 a5 (hW.put1 rfl rfl (fun b hb => wI_o hb) z oq ?_) (hS.put z oq hat.1) hl
    rw [cell_Z (show sT (wI S a i.toNatClampNeg (vp_nar .boolean v)) a = 21 from hf.1), wI_a]
    show H1[a]? = some (vp_cell _ _)
    rw [e1, vp_cell_i, vp_cell_i, arrV_store]
    have h9 : narrow .boolean (.int v) = .int (vp_nar .boolean v) := rfl
    rw [h9, upd_V]
    rfl
  · rw [if_neg hf] at hq
    cases hq
theorem sm_lastore {a : Nat} {i : Int32} {v : Int64} (hd : decode E.2.2.1 pc = .ok (.lastore, 1)) (hp : pc + 1 = pc') (kk : Sim E rv pc' lv st P) : Sim E rv pc lv (jv v :: iv i :: qv (some a) :: st) (stJ a i v P) := by
  subst hp
  intro S x S' hq
  unfold stJ at hq
  by_cases hf : sT S a = 22 ∧ inB i (sN S a) = true
  · rw [if_pos hf] at hq
    have h2 := kk _ x S' hq
    refine ⟨h2.1, ?_⟩
    intro D cy p l e s m args below meth c0 R A n0 k0 H locs ls C a1 a2 a3 a4 a5 hW hS hl
    have hat := hW.2 a (by omega)
    have hcell := hat.2
    rw [cell_J hf.1] at hcell
    have hK := C.2.2.2.2.2.2.2.2.1.1
    refine W.last C.1 C.2.1 hcell ((hK.2 2 _ rfl).1 (sN S a) (fun j => .long (sJ S a j))) (fun q => by cases q) (by show ¬ (i < 0 ∨ (arrV _ _ _).slots.size ≤ _); rw [arrV_size]; exact inB_in hf.2) rfl rfl hd fun H1 e1 z oq => ?_
    refine h2.2 D cy p l e s m args below meth c0 R A n0 k0 H1 _ ls C a1 a2 a3 a4 a5 (hW.put1 rfl rfl (fun b hb => wJ_o hb) z oq ?_) (hS.put z oq hat.1) hl
    rw [cell_J (show sT (wJ S a i.toNatClampNeg v) a = 22 from hf.1), wJ_a]
    show H1[a]? = some (vp_cell _ _)
    rw [e1, vp_cell_l, vp_cell_l, arrV_store, upJ_V]
    rfl
  · rw [if_neg hf] at hq
    cases hq
end PutRows
