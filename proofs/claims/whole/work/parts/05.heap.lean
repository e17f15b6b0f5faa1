/-! rows of Sim that read and write the heap -/
theorem inB_in {i : Int32} {n : Nat} (h : inB i n = true) : vp_in i n := by
  unfold inB at h
  simp only [Bool.and_eq_true, Bool.not_eq_true', decide_eq_false_iff_not, decide_eq_true_eq] at h
  exact fun q => q.elim h.1 (fun z => absurd h.2 (Nat.not_lt.mpr z))
theorem ci_0 : ∀ w ∈ u_ws RX0 TX0 9, w ∈ gtbl := by decide +kernel
theorem ci_1 : ∀ w ∈ u_ws RX1 TX1 10, w ∈ gtbl := by decide +kernel
theorem ci_2 : ∀ w ∈ u_ws RX2 TX2 3, w ∈ gtbl := by decide +kernel
theorem ci_3 : ∀ w ∈ u_ws RX3 TX3 9, w ∈ gtbl := by decide +kernel
theorem ci_4 : ∀ w ∈ u_ws RX4 TX4 9, w ∈ gtbl := by decide +kernel
theorem ci_5 : ∀ w ∈ u_ws RX5 TX5 9, w ∈ gtbl := by decide +kernel
theorem ci_6 : ∀ w ∈ u_ws RX6 TX6 11, w ∈ gtbl := by decide +kernel
theorem ci_7 : ∀ w ∈ u_ws RX7 TX7 2, w ∈ gtbl := by decide +kernel
theorem ci_8 : ∀ w ∈ u_ws RX9 TX9 2, w ∈ gtbl := by decide +kernel
theorem ci_9 : ∀ w ∈ u_ws RX10 TX10 7, w ∈ gtbl := by decide +kernel
theorem ci_10 : ∀ w ∈ u_ws RX11 TX11 45, w ∈ gtbl := by decide +kernel
theorem cls_in (c : Nat) (q : vw_C) (hq : vwCl[c]? = some q) : ∀ w ∈ u_ws q.1 q.2.1 q.2.2, w ∈ gtbl := by
  match c, hq with
  | 0, hq => cases hq; exact ci_0
  | 1, hq => cases hq; exact ci_1
  | 2, hq => cases hq; exact ci_2
  | 3, hq => cases hq; exact ci_3
  | 4, hq => cases hq; exact ci_4
  | 5, hq => cases hq; exact ci_5
  | 6, hq => cases hq; exact ci_6
  | 7, hq => cases hq; exact ci_7
  | 8, hq => cases hq; exact ci_8
  | 9, hq => cases hq; exact ci_9
  | 10, hq => cases hq; exact ci_10
  | c + 11, hq => simp [vwCl] at hq
theorem ty_ok (c : Nat) (q : vw_C) (hq : vwCl[c]? = some q) : ∀ k, k < q.2.2 → parseFieldDescriptor (q.2.1 k).2.2.1 = some (tyT c k) := by
  match c, hq with
  | 0, hq => cases hq; exact tyX0_ok
  | 1, hq => cases hq; exact tyX1_ok
  | 2, hq => cases hq; exact tyX2_ok
  | 3, hq => cases hq; exact tyX3_ok
  | 4, hq => cases hq; exact tyX4_ok
  | 5, hq => cases hq; exact tyX5_ok
  | 6, hq => cases hq; exact tyX6_ok
  | 7, hq => cases hq; exact tyX7_ok
  | 8, hq => cases hq; exact tyX9_ok
  | 9, hq => cases hq; exact tyX10_ok
  | 10, hq => cases hq; exact tyX11_ok
  | c + 11, hq => simp [vwCl] at hq
theorem nm_ok (c : Nat) (q : vw_C) (hq : vwCl[c]? = some q) : ∀ a, a < q.2.2 → ∀ b, b < q.2.2 → a ≠ b → (q.2.1 a).2.1 ≠ (q.2.1 b).2.1 := by
  match c, hq with
  | 0, hq => cases hq; exact nmX0
  | 1, hq => cases hq; exact nmX1
  | 2, hq => cases hq; exact nmX2
  | 3, hq => cases hq; exact nmX3
  | 4, hq => cases hq; exact nmX4
  | 5, hq => cases hq; exact nmX5
  | 6, hq => cases hq; exact nmX6
  | 7, hq => cases hq; exact nmX7
  | 8, hq => cases hq; exact nmX9
  | 9, hq => cases hq; exact nmX10
  | 10, hq => cases hq; exact nmX11
  | c + 11, hq => simp [vwCl] at hq
theorem nF_ok (c : Nat) (q : vw_C) (hq : vwCl[c]? = some q) : q.2.2 = nF c := by
  match c, hq with
  | 0, hq => cases hq; rfl
  | 1, hq => cases hq; rfl
  | 2, hq => cases hq; rfl
  | 3, hq => cases hq; rfl
  | 4, hq => cases hq; rfl
  | 5, hq => cases hq; rfl
  | 6, hq => cases hq; rfl
  | 7, hq => cases hq; rfl
  | 8, hq => cases hq; rfl
  | 9, hq => cases hq; rfl
  | 10, hq => cases hq; rfl
  | c + 11, hq => simp [vwCl] at hq
theorem flds_len (c : Nat) (i : Nat → Int32) (f : Nat → Option Nat) : (flds c i f).length = nF c := by simp [flds]
theorem flds_at {c k : Nat} {i : Nat → Int32} {f : Nat → Option Nat} (hk : k < nF c) : (flds c i f)[k]? = some (if isR c k then va_rf (f k) else .int (i k)) := by
  unfold flds
  rw [List.getElem?_map, List.getElem?_range hk]
  rfl
theorem vpV_flds {c k : Nat} {i : Nat → Int32} {f : Nat → Option Nat} (hk : k < nF c) : vp_V (flds c i f) k = if isR c k then va_rf (f k) else .int (i k) := by
  unfold vp_V
  rw [List.getD_eq_getElem?_getD, flds_at hk]
  rfl
theorem fit_rng {c t : Nat} (h : fit c t = true) (hc : 1 ≤ c ∧ c ≤ 12) : 1 ≤ t ∧ t ≤ 11 := by
  unfold fit at h
  by_cases h4 : c = 4
  · rw [if_pos h4] at h
    simp only [Bool.or_eq_true, beq_iff_eq] at h
    omega
  · rw [if_neg h4] at h
    by_cases h1 : c = 1
    · rw [if_pos h1] at h
      simp only [Bool.or_eq_true, beq_iff_eq] at h
      omega
    · rw [if_neg h1] at h
      by_cases h12 : c = 12
      · rw [if_pos h12] at h
        simp only [Bool.or_eq_true, beq_iff_eq] at h
        omega
      · rw [if_neg h12] at h
        simp only [beq_iff_eq] at h
        omega
theorem one_P {D : va_G} {cl : List vw_C} {a : Nat} {e : va_E} {H : Heap} (h : va_at D cl (a, e) H) : va_P D cl [(a, e)] H := by
  intro k q hk
  cases k with
  | zero =>
    rw [List.getElem?_cons_zero] at hk
    cases hk
    exact h
  | succ k => simp at hk
theorem cell_O {cy : Nat → ClassId} {S : St} {a : Nat} (h : sT S a ≤ 11) : cellF cy S a = .inr (sT S a - 1, flds (sT S a - 1) (sI S a) (sF S a)) := by
  unfold cellF
  rw [if_pos (by omega)]
theorem cell_I {cy : Nat → ClassId} {S : St} {a : Nat} (h : sT S a = 20) : cellF cy S a = .inl (cy 20, sN S a, .inl (sI S a)) := by
  unfold cellF
  rw [if_neg (by omega), if_pos (by omega), h]
theorem cell_Z {cy : Nat → ClassId} {S : St} {a : Nat} (h : sT S a = 21) : cellF cy S a = .inl (cy 21, sN S a, .inl (sI S a)) := by
  unfold cellF
  rw [if_neg (by omega), if_pos (by omega), h]
theorem cell_J {cy : Nat → ClassId} {S : St} {a : Nat} (h : sT S a = 22) : cellF cy S a = .inl (cy 22, sN S a, .inr (.inl (sJ S a))) := by
  unfold cellF
  rw [if_neg (by omega), if_neg (by omega), if_pos (by omega), h]
theorem cell_Q {cy : Nat → ClassId} {S : St} {a : Nat} (h : 23 ≤ sT S a) : cellF cy S a = .inl (cy (sT S a), sN S a, .inr (.inr (.inr (.inr (sF S a))))) := by
  unfold cellF
  rw [if_neg (by omega), if_neg (by omega), if_neg (by omega)]
/-- a cell at a is written: the others stay -/
theorem Wd.put1 {D : va_G} {cy : Nat → ClassId} {A : Nat → Prop} {S S2 : St} {H H1 : Heap} {a : Nat} (hW : Wd D cy A S H) (hT : sT S2 = sT S) (hX : sX S2 = sX S) (ho : ∀ b, b ≠ a → cellF cy S2 b = cellF cy S b) (hz : H1.size = H.size) (oq : ∀ q : Nat, q ≠ a → H1[q]? = H[q]?) (he : va_at D vwCl (a, cellF cy S2 a) H1) : Wd D cy A S2 H1 := by
  refine ⟨by rw [hz, hW.1, hX], fun b hb => ?_⟩
  rw [hT] at hb
  refine ⟨(hW.2 b hb).1, ?_⟩
  by_cases e : b = a
  · subst e
    exact he
  · rw [ho b e]
    exact (hW.2 b hb).2.kept (oq b e)
theorem wI_o {cy : Nat → ClassId} {S : St} {a k b : Nat} {v : Int32} (h : b ≠ a) : cellF cy (wI S a k v) b = cellF cy S b := by
  have e : sI (wI S a k v) b = sI S b := va_up_ne _ _ h
  unfold cellF
  rw [e]
  rfl
theorem wJ_o {cy : Nat → ClassId} {S : St} {a k b : Nat} {v : Int64} (h : b ≠ a) : cellF cy (wJ S a k v) b = cellF cy S b := by
  have e : sJ (wJ S a k v) b = sJ S b := va_up_ne _ _ h
  unfold cellF
  rw [e]
  rfl
theorem wF_o {cy : Nat → ClassId} {S : St} {a k b : Nat} {v : Option Nat} (h : b ≠ a) : cellF cy (wF S a k v) b = cellF cy S b := by
  have e : sF (wF S a k v) b = sF S b := va_up_ne _ _ h
  unfold cellF
  rw [e]
  rfl
theorem wIr_o {cy : Nat → ClassId} {S : St} {a b : Nat} {f : Nat → Int32} (h : b ≠ a) : cellF cy (wIr S a f) b = cellF cy S b := by
  have e : sI (wIr S a f) b = sI S b := va_up_ne _ _ h
  unfold cellF
  rw [e]
  rfl
theorem wJr_o {cy : Nat → ClassId} {S : St} {a b : Nat} {f : Nat → Int64} (h : b ≠ a) : cellF cy (wJr S a f) b = cellF cy S b := by
  have e : sJ (wJr S a f) b = sJ S b := va_up_ne _ _ h
  unfold cellF
  rw [e]
  rfl
theorem wI_a (S : St) (a k : Nat) (v : Int32) : sI (wI S a k v) a = upd (sI S a) k v := va_up_self _ _ _
theorem wJ_a (S : St) (a k : Nat) (v : Int64) : sJ (wJ S a k v) a = vp_updL (sJ S a) k v := va_up_self _ _ _
theorem wF_a (S : St) (a k : Nat) (v : Option Nat) : sF (wF S a k v) a = va_up (sF S a) k v := va_up_self _ _ _
theorem wIr_a (S : St) (a : Nat) (f : Nat → Int32) : sI (wIr S a f) a = f := va_up_self _ _ _
theorem wJr_a (S : St) (a : Nat) (f : Nat → Int64) : sJ (wJr S a f) a = f := va_up_self _ _ _
/-- field k of what has the static class c, by the place idx of own's pool: what the tables say -/
def Fok (own : String) (idx c k : Nat) : Prop := (1 ≤ c ∧ c ≤ 12) ∧ ∀ t, fit c t = true → ∃ q : vw_C, vwCl[t - 1]? = some q ∧ k < q.2.2 ∧ ∃ ref : String, Cond.fieldLink own idx ref (q.2.1 k).2.1 (q.2.1 k).2.2.1 ∈ gtbl ∧ (ref = (q.2.1 k).1 ∨ Cond.sameField ref (q.2.1 k).1 (q.2.1 k).2.1 (q.2.1 k).2.2.1 ∈ gtbl)
section HeapRows
variable {β : Type} {E : Env0} {rv : β → Option Value} {pc pc' : Nat} {lv : List (Nat × TV)} {st st' : List TV} {P P' : Prg β}
theorem sm_getI {c a k idx : Nat} {K : Int32 → Prg β} (hF : Fok E.1 idx c k) (hr : ∀ t, fit c t = true → isR (t - 1) k = false) (hd : decode E.2.2.1 pc = .ok (.getfield idx, 3)) (hp : pc + 3 = pc') (kk : ∀ v, Sim E rv pc' lv (iv v :: st) (K v)) : Sim E rv pc lv (qv (some a) :: st) (gI c a k K) := by
  subst hp
  intro S x S' hq
  unfold gI at hq
  by_cases hf : fit c (sT S a) = true
  · rw [if_pos hf] at hq
    have h2 := kk (sI S a k) S x S' hq
    refine ⟨h2.1, ?_⟩
    intro D cy p l e s m args below meth c0 R A n0 k0 H locs ls C a1 a2 a3 a4 a5 hW hS hl
    obtain ⟨q, hq1, hk, ref, hlink, hsame⟩ := hF.2 _ hf
    have hrg := fit_rng hf hF.1
    have hts := C.2.2.2.2.2.2.2.1
    have hP := one_P (hW.2 a (by omega)).2
    rw [cell_O hrg.2] at hP
    refine va_get (D := D) (cl := vwCl) (ci := sT S a - 1) (C := q.1) (T := q.2.1) (N := q.2.2) (ref := ref) C.1 C.2.1 hts (cls_in _ q hq1) C.2.2.2.2.2.2.1 C.2.2.2.2.2.2.2.2.1.1 hP 0 rfl hq1 k hk (hts _ hlink) ?_ (v := .int (sI S a k)) ?_ hd (h2.2 D cy p l e s m args below meth c0 R A n0 k0 H locs ls C a1 a2 a3 a4 a5 hW hS hl)
    · rcases hsame with h9 | h9
      · intro z hz
        rw [h9]
        exact hz
      · exact fun z hz => u_same (hts _ h9) z hz
    · rw [nF_ok _ q hq1] at hk
      rw [flds_at hk, hr _ hf]
      rfl
  · rw [if_neg hf] at hq
    cases hq
theorem sm_getF {c a k idx : Nat} {K : Option Nat → Prg β} (hF : Fok E.1 idx c k) (hr : ∀ t, fit c t = true → isR (t - 1) k = true) (hd : decode E.2.2.1 pc = .ok (.getfield idx, 3)) (hp : pc + 3 = pc') (kk : ∀ v, Sim E rv pc' lv (qv v :: st) (K v)) : Sim E rv pc lv (qv (some a) :: st) (gF c a k K) := by
  subst hp
  intro S x S' hq
  unfold gF at hq
  by_cases hf : fit c (sT S a) = true
  · rw [if_pos hf] at hq
    have h2 := kk (sF S a k) S x S' hq
    refine ⟨h2.1, ?_⟩
    intro D cy p l e s m args below meth c0 R A n0 k0 H locs ls C a1 a2 a3 a4 a5 hW hS hl
    obtain ⟨q, hq1, hk, ref, hlink, hsame⟩ := hF.2 _ hf
    have hrg := fit_rng hf hF.1
    have hts := C.2.2.2.2.2.2.2.1
    have hP := one_P (hW.2 a (by omega)).2
    rw [cell_O hrg.2] at hP
    refine va_get (D := D) (cl := vwCl) (ci := sT S a - 1) (C := q.1) (T := q.2.1) (N := q.2.2) (ref := ref) C.1 C.2.1 hts (cls_in _ q hq1) C.2.2.2.2.2.2.1 C.2.2.2.2.2.2.2.2.1.1 hP 0 rfl hq1 k hk (hts _ hlink) ?_ (v := va_rf (sF S a k)) ?_ hd (h2.2 D cy p l e s m args below meth c0 R A n0 k0 H locs ls C a1 a2 a3 a4 a5 hW hS hl)
    · rcases hsame with h9 | h9
      · intro z hz
        rw [h9]
        exact hz
      · exact fun z hz => u_same (hts _ h9) z hz
    · rw [nF_ok _ q hq1] at hk
      rw [flds_at hk, hr _ hf]
      rfl
  · rw [if_neg hf] at hq
    cases hq
theorem sm_iaload {a : Nat} {i : Int32} {K : Int32 → Prg β} (hd : decode E.2.2.1 pc = .ok (.iaload, 1)) (hp : pc + 1 = pc') (kk : ∀ v, Sim E rv pc' lv (iv v :: st) (K v)) : Sim E rv pc lv (iv i :: qv (some a) :: st) (ldI a i K) := by
  subst hp
  intro S x S' hq
  unfold ldI at hq
  by_cases hf : sT S a = 20 ∧ inB i (sN S a) = true
  · rw [if_pos hf] at hq
    have h2 := kk _ S x S' hq
    refine ⟨h2.1, ?_⟩
    intro D cy p l e s m args below meth c0 R A n0 k0 H locs ls C a1 a2 a3 a4 a5 hW hS hl
    have hP := one_P (hW.2 a (by omega)).2
    rw [cell_I hf.1] at hP
    exact va_iald C.1 C.2.1 C.2.2.2.2.2.2.2.2.1.1 hP 0 0 rfl rfl (inB_in hf.2) hd (h2.2 D cy p l e s m args below meth c0 R A n0 k0 H locs ls C a1 a2 a3 a4 a5 hW hS hl)
  · rw [if_neg hf] at hq
    cases hq
theorem sm_zaload {a : Nat} {i : Int32} {K : Int32 → Prg β} (hd : decode E.2.2.1 pc = .ok (.baload, 1)) (hp : pc + 1 = pc') (kk : ∀ v, Sim E rv pc' lv (iv v :: st) (K v)) : Sim E rv pc lv (iv i :: qv (some a) :: st) (ldZ a i K) := by
  subst hp
  intro S x S' hq
  unfold ldZ at hq
  by_cases hf : sT S a = 21 ∧ inB i (sN S a) = true
  · rw [if_pos hf] at hq
    have h2 := kk _ S x S' hq
    refine ⟨h2.1, ?_⟩
    intro D cy p l e s m args below meth c0 R A n0 k0 H locs ls C a1 a2 a3 a4 a5 hW hS hl
    have hP := one_P (hW.2 a (by omega)).2
    rw [cell_Z hf.1] at hP
    exact va_zald C.1 C.2.1 C.2.2.2.2.2.2.2.2.1.1 hP 0 1 rfl rfl (inB_in hf.2) hd (h2.2 D cy p l e s m args below meth c0 R A n0 k0 H locs ls C a1 a2 a3 a4 a5 hW hS hl)
  · rw [if_neg hf] at hq
    cases hq
theorem sm_laload {a : Nat} {i : Int32} {K : Int64 → Prg β} (hd : decode E.2.2.1 pc = .ok (.laload, 1)) (hp : pc + 1 = pc') (kk : ∀ v, Sim E rv pc' lv (jv v :: st) (K v)) : Sim E rv pc lv (iv i :: qv (some a) :: st) (ldJ a i K) := by
  subst hp
  intro S x S' hq
  unfold ldJ at hq
  by_cases hf : sT S a = 22 ∧ inB i (sN S a) = true
  · rw [if_pos hf] at hq
    have h2 := kk _ S x S' hq
    refine ⟨h2.1, ?_⟩
    intro D cy p l e s m args below meth c0 R A n0 k0 H locs ls C a1 a2 a3 a4 a5 hW hS hl
    have hP := one_P (hW.2 a (by omega)).2
    rw [cell_J hf.1] at hP
    exact va_lald C.1 C.2.1 C.2.2.2.2.2.2.2.2.1.1 hP 0 2 rfl rfl (inB_in hf.2) hd (h2.2 D cy p l e s m args below meth c0 R A n0 k0 H locs ls C a1 a2 a3 a4 a5 hW hS hl)
  · rw [if_neg hf] at hq
    cases hq
theorem sm_aaload {a : Nat} {i : Int32} {K : Option Nat → Prg β} (hd : decode E.2.2.1 pc = .ok (.aaload, 1)) (hp : pc + 1 = pc') (kk : ∀ v, Sim E rv pc' lv (qv v :: st) (K v)) : Sim E rv pc lv (iv i :: qv (some a) :: st) (ldF a i K) := by
  subst hp
  intro S x S' hq
  unfold ldF at hq
  by_cases hf : 23 ≤ sT S a ∧ sT S a ≤ 26 ∧ inB i (sN S a) = true
  · rw [if_pos hf] at hq
    have h2 := kk _ S x S' hq
    refine ⟨h2.1, ?_⟩
    intro D cy p l e s m args below meth c0 R A n0 k0 H locs ls C a1 a2 a3 a4 a5 hW hS hl
    have hin := inB_in hf.2.2
    have hlt : i.toNatClampNeg < sN S a := Nat.not_le.mp fun q => hin (Or.inr q)
    have hcell := (hW.2 a (by omega)).2
    rw [cell_Q hf.1] at hcell
    have hcell : H[a]? = some (vp_cell (cy (sT S a)) (sN S a, .inr (.inr (.inr (.inr (sF S a)))))) := hcell
    have hK := C.2.2.2.2.2.2.2.2.1.1
    have ht : ∃ (k9 : Nat) (ty : FieldType), (tysF cy)[k9]? = some (cy (sT S a), ty) ∧ ty.isReference = true := by
      rcases (show sT S a = 23 ∨ sT S a = 24 ∨ sT S a = 25 ∨ sT S a = 26 by omega) with h | h | h | h <;> rw [h]
      · exact ⟨3, _, rfl, rfl⟩
      · exact ⟨4, _, rfl, rfl⟩
      · exact ⟨5, _, rfl, rfl⟩
      · exact ⟨6, _, rfl, rfl⟩
    obtain ⟨k9, ty, ht, hty⟩ := ht
    exact W.aald (v := va_rf (sF S a i.toNatClampNeg)) (ty := ty) C.1 C.2.1 hcell ((hK.2 k9 _ ht).1 (sN S a) (fun j => va_rf (sF S a j))) hty (fun q => by cases q) (by show ¬ (i < 0 ∨ (arrV _ _ _).slots.size ≤ _); rw [arrV_size]; exact hin) (by show (arrV _ _ _).slots[_]? = _; rw [arrV_read _ _ hlt]) rfl rfl hd (h2.2 D cy p l e s m args below meth c0 R A n0 k0 H locs ls C a1 a2 a3 a4 a5 hW hS hl)
  · rw [if_neg hf] at hq
    cases hq
theorem sm_alen {a : Nat} {K : Int32 → Prg β} (hd : decode E.2.2.1 pc = .ok (.arraylength, 1)) (hp : pc + 1 = pc') (kk : ∀ v, Sim E rv pc' lv (iv v :: st) (K v)) : Sim E rv pc lv (qv (some a) :: st) (ln a K) := by
  subst hp
  intro S x S' hq
  unfold ln at hq
  by_cases hf : 20 ≤ sT S a ∧ sT S a ≤ 26
  · rw [if_pos hf] at hq
    have h2 := kk _ S x S' hq
    refine ⟨h2.1, ?_⟩
    intro D cy p l e s m args below meth c0 R A n0 k0 H locs ls C a1 a2 a3 a4 a5 hW hS hl
    have hP := one_P (hW.2 a (by omega)).2
    have hk := h2.2 D cy p l e s m args below meth c0 R A n0 k0 H locs ls C a1 a2 a3 a4 a5 hW hS hl
    have hK := C.2.2.2.2.2.2.2.2.1.1
    rcases (show sT S a = 20 ∨ sT S a = 21 ∨ sT S a = 22 ∨ sT S a = 23 ∨ sT S a = 24 ∨ sT S a = 25 ∨ sT S a = 26 by omega) with h | h | h | h | h | h | h
    · rw [cell_I h] at hP
      exact va_alen C.1 C.2.1 hK hP 0 0 rfl rfl rfl hd hk
    · rw [cell_Z h] at hP
      exact va_alen C.1 C.2.1 hK hP 0 1 rfl rfl rfl hd hk
    · rw [cell_J h] at hP
      exact va_alen C.1 C.2.1 hK hP 0 2 rfl rfl rfl hd hk
    · rw [cell_Q (by omega), h] at hP
      exact va_alen C.1 C.2.1 hK hP 0 3 rfl rfl rfl hd hk
    · rw [cell_Q (by omega), h] at hP
      exact va_alen C.1 C.2.1 hK hP 0 4 rfl rfl rfl hd hk
    · rw [cell_Q (by omega), h] at hP
      exact va_alen C.1 C.2.1 hK hP 0 5 rfl rfl rfl hd hk
    · rw [cell_Q (by omega), h] at hP
      exact va_alen C.1 C.2.1 hK hP 0 6 rfl rfl rfl hd hk
  · rw [if_neg hf] at hq
    cases hq
end HeapRows
