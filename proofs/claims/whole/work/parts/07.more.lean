/-! rows of Sim: references put into rows, new cells, classes asked for -/
theorem nws_cast {C T : String} (h : Cond.castable C T ∈ nws) {D : va_G} {cy : Nat → ClassId} {U : State} (hK : KN D cy U) : va_Nw (.castable C T) U := hK.2.1 _ h
/-- the class of what stands at a -/
theorem Wd.recv {D : va_G} {cy : Nat → ClassId} {A : Nat → Prop} {S : St} {H : Heap} {a : Nat} {s : State} {q : vw_C} (hW : Wd D cy A S H) (hK : KN D cy s) (h1 : 1 ≤ sT S a) (h2 : sT S a ≤ 11) (hq : vwCl[sT S a - 1]? = some q) : ∃ cell : Cell, H[a]? = some cell ∧ cell.vm.isStatics = false ∧ s.vm.findClass q.1 = some cell.cls := by
  have hP := one_P (hW.2 a (by omega)).2
  rw [cell_O h2] at hP
  exact va_recv hK.1 hP (ci := sT S a - 1) (q0 := 0) hq rfl
theorem vwCl_at (t : Nat) (h1 : 1 ≤ t) (h2 : t ≤ 11) : ∃ q : vw_C, vwCl[t - 1]? = some q := by
  refine ⟨vwCl[t - 1]'(by show t - 1 < 11; omega), ?_⟩
  exact List.getElem?_eq_getElem _
section MoreRows
variable {β : Type} {E : Env0} {rv : β → Option Value} {pc pc' : Nat} {lv : List (Nat × TV)} {st st' : List TV} {P P' : Prg β}
theorem row_cast {cy : Nat → ClassId} {D : va_G} {s : State} {A : Nat → Prop} {S : St} {H : Heap} {r b : Nat} (hK : KN D cy s) (hW : Wd D cy A S H) (h : canSt r (sT S b) = true) (hr : 23 ≤ r ∧ r ≤ 25) : ∃ (kA kE kB : Class) (comp : ClassId) (ty : FieldType) (cv : Cell), s.vm.classes[cy r]? = some kA ∧ kA.kind = .array comp ty ∧ ty.isReference = true ∧ s.vm.classes[comp]? = some kE ∧ H[b]? = some cv ∧ cv.vm = .none ∧ s.vm.classes[cv.cls]? = some kB ∧ s.vm.assignable cv.cls comp = true := by
  have key : ∀ (Cn En : String) (t0 t : Nat) (q : vw_C), (tysF cy)[t0]? = some (cy r, .object En) → sT S b = t → 1 ≤ t → t ≤ 11 → vwCl[t - 1]? = some q → q.1 = Cn → (Cn = En ∨ Cond.castable Cn En ∈ nws) → ∃ (kA kE kB : Class) (comp : ClassId) (ty : FieldType) (cv : Cell), s.vm.classes[cy r]? = some kA ∧ kA.kind = .array comp ty ∧ ty.isReference = true ∧ s.vm.classes[comp]? = some kE ∧ H[b]? = some cv ∧ cv.vm = .none ∧ s.vm.classes[cv.cls]? = some kB ∧ s.vm.assignable cv.cls comp = true := by
    intro Cn En t0 t q ht0 ht h1 h2 hq hn hcast
    obtain ⟨kA, comp, k1, k2, k3, -⟩ := (hK.1.2 t0 _ ht0).2
    have hcell := (hW.2 b (by omega)).2
    rw [cell_O (by omega), ht] at hcell
    obtain ⟨r', h1', cv, g1, g2, g3, -⟩ := hcell
    obtain ⟨-, hcls⟩ := hK.1.1 (t - 1) q hq
    obtain ⟨kB, hkB, -⟩ := hcls.2
    obtain ⟨kE, hkE, -⟩ := Vm.findClass_spec k3
    refine ⟨kA, kE, kB, comp, _, cv, k1, k2, rfl, hkE, g1, g3, by rw [g2]; exact hkB, ?_⟩
    rcases hcast with e | e
    · have : comp = D.1 (t - 1) := by
        have h9 := hcls.1
        rw [hn, e] at h9
        exact Option.some.inj (k3.symm.trans h9)
      rw [g2, this]
      exact va_assign hcls
    · obtain ⟨c0, t1, f1, f2, f3⟩ := Cond.castable_spec (va_Nw.use (A := #[]) rfl (nws_cast e hK))
      have h9 := hcls.1
      rw [hn] at h9
      cases h9.symm.trans f1
      cases k3.symm.trans f2
      rw [g2]
      exact f3
  unfold canSt at h
  simp only [Bool.or_eq_true, Bool.and_eq_true, beq_iff_eq] at h
  rcases h with (⟨rfl, h⟩ | ⟨rfl, h⟩) | ⟨rfl, h⟩
  · exact key "HollowPress$Sheet" "HollowPress$Sheet" 3 8 _ rfl h (by decide) (by decide) rfl rfl (Or.inl rfl)
  · rcases h with ((h | h) | h) | h
    · exact key "HollowPress$EvenPart" "HollowPress$Thing" 4 1 _ rfl h (by decide) (by decide) rfl rfl (Or.inr (by decide +kernel))
    · exact key "HollowPress$Layers" "HollowPress$Thing" 4 3 _ rfl h (by decide) (by decide) rfl rfl (Or.inr (by decide +kernel))
    · exact key "HollowPress$Part" "HollowPress$Thing" 4 4 _ rfl h (by decide) (by decide) rfl rfl (Or.inr (by decide +kernel))
    · exact key "HollowPress$Plate" "HollowPress$Thing" 4 5 _ rfl h (by decide) (by decide) rfl rfl (Or.inr (by decide +kernel))
  · rcases h with (h | h) | h
    · exact key "HollowPress$Part" "HollowPress$Part" 5 4 _ rfl h (by decide) (by decide) rfl rfl (Or.inl rfl)
    · exact key "HollowPress$EvenPart" "HollowPress$Part" 5 1 _ rfl h (by decide) (by decide) rfl rfl (Or.inr (by decide +kernel))
    · exact key "HollowPress$Plate" "HollowPress$Part" 5 5 _ rfl h (by decide) (by decide) rfl rfl (Or.inr (by decide +kernel))
theorem sm_aastore {a : Nat} {i : Int32} {v : Option Nat} (hd : decode E.2.2.1 pc = .ok (.aastore, 1)) (hp : pc + 1 = pc') (kk : Sim E rv pc' lv st P) : Sim E rv pc lv (qv v :: iv i :: qv (some a) :: st) (stF a i v P) := by
  subst hp
  intro S x S' hq
  unfold stF at hq
  by_cases hf : 23 ≤ sT S a ∧ sT S a ≤ 25 ∧ inB i (sN S a) = true ∧ okSt S (sT S a) v = true
  · rw [if_pos hf] at hq
    have h2 := kk _ x S' hq
    refine ⟨h2.1, ?_⟩
    intro D cy p l e s m args below meth c0 R A n0 k0 H locs ls C a1 a2 a3 a4 a5 hW hS hl
    have hat := hW.2 a (by omega)
    have hcell := hat.2
    rw [cell_Q hf.1] at hcell
    have hcell : H[a]? = some (vp_cell (cy (sT S a)) (sN S a, .inr (.inr (.inr (.inr (sF S a)))))) := hcell
    have hKN := C.2.2.2.2.2.2.2.2.1
    have hin := inB_in hf.2.2.1
    have hlt : i.toNatClampNeg < sN S a := Nat.not_le.mp fun q => hin (Or.inr q)
    have h0 : ¬ i < 0 := fun q => hin (Or.inl q)
    have fin : ∀ H1 : Heap, H1[a]? = some ((vp_cell (cy (sT S a)) (sN S a, .inr (.inr (.inr (.inr (sF S a)))))).setSlot i.toNatClampNeg (va_rf v)) → H1.size = H.size → (∀ q, q ≠ a → H1[q]? = H[q]?) → W p l e R s m args below meth c0 H1 (locs ++ [⟨a, i.toNatClampNeg⟩]) (sX S - n0) (sS S - k0) (MQ below (Qo D cy A (rv x) S') args s (sX S' - n0) (sS S' - k0) A) (F0 m (pc + 1) ls (st.map tv)) := by
      intro H1 e1 z oq
      refine h2.2 D cy p l e s m args below meth c0 R A n0 k0 H1 _ ls C a1 a2 a3 a4 a5 (hW.put1 rfl rfl (fun b hb => wF_o hb) z oq ?_) (hS.put z oq hat.1) hl
      rw [cell_Q (show 23 ≤ sT (wF S a i.toNatClampNeg v) a from hf.1), wF_a]
      show H1[a]? = some (vp_cell _ _)
      rw [e1, vp_cell_q, vp_cell_q, arrV_store, upQ_V]
      rfl
    cases v with
    | none =>
      have ht : ∃ (k9 : Nat) (Cn : String), (tysF cy)[k9]? = some (cy (sT S a), .object Cn) := by
        rcases (show sT S a = 23 ∨ sT S a = 24 ∨ sT S a = 25 by omega) with h | h | h <;> rw [h]
        · exact ⟨3, _, rfl⟩
        · exact ⟨4, _, rfl⟩
        · exact ⟨5, _, rfl⟩
      obtain ⟨k9, Cn, ht⟩ := ht
      exact va_WaastN (C := Cn) C.1 C.2.1 hcell ((hKN.1.2 k9 _ ht).1 (sN S a) (fun j => va_rf (sF S a j))) (fun h => by cases h) (by show ¬ (i < 0 ∨ (arrV _ _ _).slots.size ≤ _); rw [arrV_size]; exact hin) rfl rfl hd fin
    | some b =>
      obtain ⟨kA, kE, kB, comp, ty, cv, g1, g2, g3, g4, g5, g6, g7, g8⟩ := row_cast hKN hW hf.2.2.2 ⟨hf.1, hf.2.1⟩
      exact W.aast C.1 C.2.1 hcell (fun q h => by cases h) (fun h => by cases h) g1 g2 g3 g4 ⟨h0, by show _ < (arrV _ _ _).slots.size; rw [arrV_size]; exact hlt⟩ g5 (fun q h => by rw [g6] at h; cases h) g7 g8 rfl rfl hd fin
  · rw [if_neg hf] at hq
    cases hq
/-- a new cell: the others stay -/
theorem Wd.new1 {D : va_G} {cy : Nat → ClassId} {A : Nat → Prop} {S : St} {H H1 : Heap} {t n k : Nat} (hW : Wd D cy A S H) (hA : A (sX S)) (hz : H1.size = H.size + 1) (oq : ∀ q : Nat, q < H.size → H1[q]? = H[q]?) (he : va_at D vwCl (sX S, cellF cy (nw S t n k) (sX S)) H1) : Wd D cy A (nw S t n k) H1 := by
  refine ⟨by rw [hz, hW.1]; rfl, fun b hb => ?_⟩
  by_cases e : b = sX S
  · subst e
    exact ⟨hA, he⟩
  · have hT : sT (nw S t n k) b = sT S b := va_up_ne _ _ e
    rw [hT] at hb
    have h9 := hW.2 b hb
    refine ⟨h9.1, ?_⟩
    have hc : cellF cy (nw S t n k) b = cellF cy S b := by
      have eN : sN (nw S t n k) b = sN S b := va_up_ne _ _ e
      have eI : sI (nw S t n k) b = sI S b := va_up_ne _ _ e
      have eJ : sJ (nw S t n k) b = sJ S b := va_up_ne _ _ e
      have eF : sF (nw S t n k) b = sF S b := va_up_ne _ _ e
      unfold cellF
      rw [hT, eN, eI, eJ, eF]
    rw [hc]
    have hlt : b < H.size := h9.2.lt
    exact h9.2.kept (oq b hlt)
theorem va_S.grow {A : Nat → Prop} {H0 H H1 : Heap} {locs : List Loc} (h : va_S A H0 H locs) (hz : H.size ≤ H1.size) (oq : ∀ q : Nat, q < H.size → H1[q]? = H[q]?) : va_S A H0 H1 locs := ⟨Nat.le_trans h.1 hz, fun q a b => by rw [oq q (Nat.lt_of_lt_of_le a h.1)]; exact h.2.1 q a b, h.2.2⟩
theorem nw_T (S : St) (t n k : Nat) : sT (nw S t n k) (sX S) = t := va_up_self _ _ _
theorem nw_N (S : St) (t n k : Nat) : sN (nw S t n k) (sX S) = n := va_up_self _ _ _
theorem nw_I (S : St) (t n k : Nat) : sI (nw S t n k) (sX S) = fun _ => 0 := va_up_self _ _ _
theorem nw_J (S : St) (t n k : Nat) : sJ (nw S t n k) (sX S) = fun _ => 0 := va_up_self _ _ _
theorem nw_F (S : St) (t n k : Nat) : sF (nw S t n k) (sX S) = fun _ => none := va_up_self _ _ _
theorem dflt_V {c k : Nat} (hc : c < 11) (hk : k < nF c) : defaultValue (tyT c k) = if isR c k then va_rf none else .int 0 := by
  have : ∀ c, c < 11 → ∀ k, k < nF c → (tyT c k = .int ∨ tyT c k = .boolean ∨ isR c k = true) := by decide +kernel
  rcases this c hc k hk with h | h | h
  · unfold isR
    rw [h]
    rfl
  · unfold isR
    rw [h]
    rfl
  · rw [h]
    rcases isR_ty h with ⟨C, e⟩ | ⟨u, e⟩ <;> rw [e] <;> rfl
theorem sm_new {t idx : Nat} {K : Nat → Prg β} {q : vw_C} (hq : vwCl[t - 1]? = some q) (hcl : Cond.classLink E.1 idx q.1 ∈ gtbl) (hin : Cond.instantiable q.1 q.2.2 ∈ gtbl) (hini : Cond.initialized q.1 ∈ gtbl) (hd : decode E.2.2.1 pc = .ok (.new idx, 3)) (hp : pc + 3 = pc') (kk : ∀ a, Sim E rv pc' lv (qv (some a) :: st) (K a)) : Sim E rv pc lv st (nO t K) := by
  subst hp
  intro S x S' h0
  unfold nO at h0
  by_cases ht : 1 ≤ t ∧ t ≤ 11
  · rw [if_pos ht] at h0
    have h2 := kk _ _ x S' h0
    have g1 : sX (nw S t 0 (nF (t - 1))) = sX S + 1 := rfl
    have g2 : sS (nw S t 0 (nF (t - 1))) = sS S + nF (t - 1) := rfl
    have h3 := h2.1
    rw [g1, g2] at h3
    refine ⟨⟨by omega, by omega⟩, ?_⟩
    intro D cy p l e s m args below meth c0 R A n0 k0 H locs ls C a1 a2 a3 a4 a5 hW hS hl
    have hts := C.2.2.2.2.2.2.2.1
    have hKn := C.2.2.2.2.2.2.2.2.1.1.1 (t - 1) q hq
    have hN := nF_ok _ q hq
    refine W.newcK C.1 C.2.1 C.2.2.2.2.2.2.1 (hts _ hcl) (hts _ hin) (hts _ hini) rfl hd (by omega) (by rw [hN]; omega) hKn.2.1 hW.1 fun H1 kC hkC e1 z1 o1 => ?_
    have e2 : sX S - n0 + 1 = sX (nw S t 0 (nF (t - 1))) - n0 := by rw [g1]; omega
    have e3 : sS S - k0 + q.2.2 = sS (nw S t 0 (nF (t - 1))) - k0 := by rw [g2, hN]; omega
    rw [e2, e3]
    refine h2.2 D cy p l e s m args below meth c0 R A n0 k0 H1 locs ls C (by rw [g1]; omega) (by rw [g2]; omega) a3 a4 a5 (hW.new1 (a5 _ (by rw [← hW.1]; exact hS.1)) (by rw [z1, hW.1]) (fun z hz => o1 z (by rw [← hW.1]; exact hz)) ?_) (hS.grow (by rw [z1, hW.1]; omega) (fun z hz => o1 z (by rw [← hW.1]; exact hz))) hl
    have hT := nw_T S t 0 (nF (t - 1))
    rw [cell_O (by rw [hT]; exact ht.2), hT, nw_I, nw_F]
    refine ⟨q, hq, (u_born (tyT (t - 1)) hts (cls_in _ q hq) hKn hkC e1 (ty_ok _ q hq)).to (fun j hj => ?_)⟩
    rw [hN] at hj
    rw [dflt_V (by omega) hj, vpV_flds hj]
  · rw [if_neg ht] at h0
    cases h0
end MoreRows
