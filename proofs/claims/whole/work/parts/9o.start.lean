/-! (C) what the constructors make -/
/-- the memory from X on: tags and lengths, ints, references from X on -/
def Mk (X : Nat) (l : List (Nat × Nat)) (I : Nat → Nat → Int32) (F : Nat → Nat → Option Nat) (y : Nat) : St := (fun a => if a < X then 0 else ((l[a - X]?).map Prod.fst).getD 0, fun a => if a < X then 0 else ((l[a - X]?).map Prod.snd).getD 0, fun a => if a < X then (fun _ => 0) else I (a - X), fun _ _ => 0, fun a => if a < X then (fun _ => none) else fun j => (F (a - X) j).map (X + ·), X + l.length, y)
section MkS
variable {X : Nat} {l : List (Nat × Nat)} {I : Nat → Nat → Int32} {F : Nat → Nat → Option Nat} {y k m n t : Nat}
theorem Mk_T (k : Nat) : sT (Mk X l I F y) (X + k) = ((l[k]?).map Prod.fst).getD 0 := by
  show (if X + k < X then 0 else ((l[X + k - X]?).map Prod.fst).getD 0) = _
  rw [if_neg (by omega), Nat.add_sub_cancel_left]
theorem Mk_N (k : Nat) : sN (Mk X l I F y) (X + k) = ((l[k]?).map Prod.snd).getD 0 := by
  show (if X + k < X then 0 else ((l[X + k - X]?).map Prod.snd).getD 0) = _
  rw [if_neg (by omega), Nat.add_sub_cancel_left]
theorem Mk_I (k : Nat) : sI (Mk X l I F y) (X + k) = I k := by
  show (if X + k < X then (fun _ => 0) else I (X + k - X)) = _
  rw [if_neg (by omega), Nat.add_sub_cancel_left]
theorem Mk_F (k : Nat) : sF (Mk X l I F y) (X + k) = fun j => (F k j).map (X + ·) := by
  show (if X + k < X then (fun _ => none) else fun j => (F (X + k - X) j).map (X + ·)) = _
  rw [if_neg (by omega), Nat.add_sub_cancel_left]
theorem Mk_out {a : Nat} (h : sT (Mk X l I F y) a ≠ 0) : X ≤ a ∧ a < X + l.length := by
  have h : (if a < X then 0 else ((l[a - X]?).map Prod.fst).getD 0) ≠ 0 := h
  by_cases h1 : a < X
  · rw [if_pos h1] at h; exact absurd rfl h
  · rw [if_neg h1] at h
    by_cases h2 : a - X < l.length
    · omega
    · rw [List.getElem?_eq_none (by omega)] at h; exact absurd rfl h
theorem nw_Mk (hk : l.length = k) (hI : I k = fun _ => 0) (hF : F k = fun _ => none) : nw (Mk X l I F y) t n m = Mk X (l ++ [(t, n)]) I F (y + m) := by
  subst hk
  have e : ∀ a, a ≠ X + l.length → ¬ a < X → (l ++ [(t, n)])[a - X]? = l[a - X]? := fun a h1 h2 => by
    by_cases h3 : a - X < l.length
    · rw [List.getElem?_append_left h3]
    · rw [List.getElem?_eq_none (by simp; omega), List.getElem?_eq_none (by omega)]
  have e0 : (l ++ [(t, n)])[X + l.length - X]? = some (t, n) := by rw [Nat.add_sub_cancel_left]; simp
  unfold nw Mk sT sN sI sJ sF sX sS
  refine Prod.ext (funext fun a => ?_) (Prod.ext (funext fun a => ?_) (Prod.ext (funext fun a => ?_) (Prod.ext (funext fun a => ?_) (Prod.ext (funext fun a => ?_) (Prod.ext ?_ rfl)))))
  · by_cases h : a = X + l.length
    · subst h
      show va_up _ _ _ _ = if X + l.length < X then 0 else _
      rw [va_up_self, if_neg (by omega), e0]; rfl
    · show va_up _ _ _ _ = if a < X then 0 else _
      rw [va_up_ne _ _ h]
      show (if a < X then 0 else ((l[a - X]?).map Prod.fst).getD 0) = _
      by_cases h1 : a < X
      · rw [if_pos h1, if_pos h1]
      · rw [if_neg h1, if_neg h1, e a h h1]
  · by_cases h : a = X + l.length
    · subst h
      show va_up _ _ _ _ = if X + l.length < X then 0 else _
      rw [va_up_self, if_neg (by omega), e0]; rfl
    · show va_up _ _ _ _ = if a < X then 0 else _
      rw [va_up_ne _ _ h]
      show (if a < X then 0 else ((l[a - X]?).map Prod.snd).getD 0) = _
      by_cases h1 : a < X
      · rw [if_pos h1, if_pos h1]
      · rw [if_neg h1, if_neg h1, e a h h1]
  · by_cases h : a = X + l.length
    · subst h
      show va_up _ _ _ _ = if X + l.length < X then _ else I (X + l.length - X)
      rw [va_up_self, if_neg (by omega), Nat.add_sub_cancel_left, hI]
    · show va_up _ _ _ _ = _
      rw [va_up_ne _ _ h]
  · by_cases h : a = X + l.length
    · subst h
      show va_up _ _ _ _ = _
      rw [va_up_self]
    · show va_up _ _ _ _ = _
      rw [va_up_ne _ _ h]
  · by_cases h : a = X + l.length
    · subst h
      show va_up _ _ _ _ = if X + l.length < X then _ else fun j => (F (X + l.length - X) j).map (X + ·)
      rw [va_up_self, if_neg (by omega), Nat.add_sub_cancel_left, hF]
      rfl
    · show va_up _ _ _ _ = _
      rw [va_up_ne _ _ h]
  · show X + l.length + 1 = X + (l ++ [(t, n)]).length
    simp; omega
theorem mna_Mk (hk : l.length = k) (hI : ∀ q, k ≤ q → q ≤ k + 6 → I q = fun _ => 0) (hF : ∀ q, k ≤ q → q ≤ k + 6 → F q = fun _ => none) : mna (Mk X l I F y) = Mk X (l ++ [(26, 6), (20, 12), (20, 12), (20, 12), (20, 12), (20, 12), (20, 12)]) I (va_up F k (fun i => if i < 6 then some (k + 1 + i) else none)) (y + 78) := by
  subst hk
  have e : ∀ a, a < X + l.length → ¬ a < X → (l ++ [(26, 6), (20, 12), (20, 12), (20, 12), (20, 12), (20, 12), (20, 12)])[a - X]? = l[a - X]? := fun a h1 h2 => List.getElem?_append_left (by omega)
  have e2 : ∀ a, X + l.length + 7 ≤ a → (l ++ [(26, 6), (20, 12), (20, 12), (20, 12), (20, 12), (20, 12), (20, 12)])[a - X]? = none := fun a h1 => List.getElem?_eq_none (by simp; omega)
  have e3 : ∀ a, X + l.length + 7 ≤ a → l[a - X]? = none := fun a h1 => List.getElem?_eq_none (by omega)
  have e0 : (l ++ [(26, 6), (20, 12), (20, 12), (20, 12), (20, 12), (20, 12), (20, 12)])[X + l.length - X]? = some (26, 6) := by rw [Nat.add_sub_cancel_left]; simp
  have e1 : ∀ a, X + l.length < a → a ≤ X + l.length + 6 → (l ++ [(26, 6), (20, 12), (20, 12), (20, 12), (20, 12), (20, 12), (20, 12)])[a - X]? = some (20, 12) := fun a h1 h2 => by
    rw [List.getElem?_append_right (by omega)]
    rcases (show a - X - l.length = 1 ∨ a - X - l.length = 2 ∨ a - X - l.length = 3 ∨ a - X - l.length = 4 ∨ a - X - l.length = 5 ∨ a - X - l.length = 6 by omega) with h | h | h | h | h | h <;> rw [h] <;> rfl
  unfold mna Mk sT sN sI sJ sF sX sS
  refine Prod.ext (funext fun a => ?_) (Prod.ext (funext fun a => ?_) (Prod.ext (funext fun a => ?_) (Prod.ext (funext fun a => ?_) (Prod.ext (funext fun a => ?_) (Prod.ext ?_ rfl)))))
  · show (if a = X + l.length then 26 else if X + l.length < a ∧ a ≤ X + l.length + 6 then 20 else if a < X then 0 else _) = if a < X then 0 else _
    by_cases h : a = X + l.length
    · subst h
      rw [if_pos rfl, if_neg (by omega), e0]; rfl
    · rw [if_neg h]
      by_cases h1 : X + l.length < a ∧ a ≤ X + l.length + 6
      · rw [if_pos h1, if_neg (by omega), e1 a h1.1 h1.2]; rfl
      · rw [if_neg h1]
        by_cases h2 : a < X
        · rw [if_pos h2, if_pos h2]
        · rw [if_neg h2, if_neg h2]
          by_cases h3 : a < X + l.length
          · rw [e a h3 h2]
          · rw [e2 a (by omega), e3 a (by omega)]
  · show (if a = X + l.length then 6 else if X + l.length < a ∧ a ≤ X + l.length + 6 then 12 else if a < X then 0 else _) = if a < X then 0 else _
    by_cases h : a = X + l.length
    · subst h
      rw [if_pos rfl, if_neg (by omega), e0]; rfl
    · rw [if_neg h]
      by_cases h1 : X + l.length < a ∧ a ≤ X + l.length + 6
      · rw [if_pos h1, if_neg (by omega), e1 a h1.1 h1.2]; rfl
      · rw [if_neg h1]
        by_cases h2 : a < X
        · rw [if_pos h2, if_pos h2]
        · rw [if_neg h2, if_neg h2]
          by_cases h3 : a < X + l.length
          · rw [e a h3 h2]
          · rw [e2 a (by omega), e3 a (by omega)]
  · show (if X + l.length ≤ a ∧ a ≤ X + l.length + 6 then (fun _ => 0) else if a < X then (fun _ => 0) else I (a - X)) = if a < X then (fun _ => 0) else I (a - X)
    by_cases h : X + l.length ≤ a ∧ a ≤ X + l.length + 6
    · rw [if_pos h, if_neg (by omega), hI _ (by omega) (by omega)]
    · rw [if_neg h]
  · show (if X + l.length ≤ a ∧ a ≤ X + l.length + 6 then (fun _ => 0) else (fun _ => 0)) = fun _ => 0
    split <;> rfl
  · show (if a = X + l.length then (fun i => if i < 6 then some (X + l.length + 1 + i) else none) else if X + l.length < a ∧ a ≤ X + l.length + 6 then (fun _ => none) else if a < X then (fun _ => none) else fun j => (F (a - X) j).map (X + ·)) = if a < X then (fun _ => none) else fun j => (va_up F l.length (fun i => if i < 6 then some (l.length + 1 + i) else none) (a - X) j).map (X + ·)
    by_cases h : a = X + l.length
    · subst h
      rw [if_pos rfl, if_neg (by omega), Nat.add_sub_cancel_left, va_up_self]
      funext i
      by_cases h6 : i < 6
      · rw [if_pos h6, if_pos h6]
        show some (X + l.length + 1 + i) = some (X + (l.length + 1 + i))
        congr 1; omega
      · rw [if_neg h6, if_neg h6]; rfl
    · rw [if_neg h]
      by_cases h1 : X + l.length < a ∧ a ≤ X + l.length + 6
      · rw [if_pos h1, if_neg (by omega), va_up_ne _ _ (by omega), hF _ (by omega) (by omega)]; rfl
      · rw [if_neg h1]
        by_cases h2 : a < X
        · rw [if_pos h2, if_pos h2]
        · rw [if_neg h2, if_neg h2, va_up_ne _ _ (by omega)]
  · show X + l.length + 7 = X + (l ++ [(26, 6), (20, 12), (20, 12), (20, 12), (20, 12), (20, 12), (20, 12)]).length
    simp; omega
theorem wF_Mk {j : Nat} {v : Option Nat} : wF (Mk X l I F y) (X + k) j (v.map (X + ·)) = Mk X l I (va_up F k (va_up (F k) j v)) y := by
  unfold wF Mk sT sN sI sJ sF sX sS
  refine Prod.ext rfl (Prod.ext rfl (Prod.ext rfl (Prod.ext rfl (Prod.ext (funext fun a => ?_) rfl))))
  show va_up _ (X + k) _ a = if a < X then (fun _ => none) else fun i => (va_up F k (va_up (F k) j v) (a - X) i).map (X + ·)
  by_cases h : a = X + k
  · subst h
    rw [va_up_self, if_neg (by omega), Nat.add_sub_cancel_left, va_up_self]
    funext i
    by_cases h1 : i = j
    · subst h1
      rw [va_up_self, va_up_self]
    · rw [va_up_ne _ _ h1, va_up_ne _ _ h1]
      show (if X + k < X then (fun _ => none) else fun j => (F (X + k - X) j).map (X + ·)) i = _
      rw [if_neg (by omega), Nat.add_sub_cancel_left]
  · rw [va_up_ne _ _ h]
    show (if a < X then (fun _ => none) else fun j => (F (a - X) j).map (X + ·)) = _
    by_cases h1 : a < X
    · rw [if_pos h1, if_pos h1]
    · rw [if_neg h1, if_neg h1, va_up_ne _ _ (by omega)]
theorem wI_Mk {j : Nat} {v : Int32} : wI (Mk X l I F y) (X + k) j v = Mk X l (va_up I k (upd (I k) j v)) F y := by
  unfold wI Mk sT sN sI sJ sF sX sS
  refine Prod.ext rfl (Prod.ext rfl (Prod.ext (funext fun a => ?_) rfl))
  show va_up _ (X + k) _ a = if a < X then (fun _ => 0) else va_up I k (upd (I k) j v) (a - X)
  by_cases h : a = X + k
  · subst h
    rw [va_up_self, if_neg (by omega), Nat.add_sub_cancel_left, va_up_self]
    show upd (if X + k < X then (fun _ => 0) else I (X + k - X)) j v = _
    rw [if_neg (by omega), Nat.add_sub_cancel_left]
  · rw [va_up_ne _ _ h]
    show (if a < X then (fun _ => 0) else I (a - X)) = _
    by_cases h1 : a < X
    · rw [if_pos h1, if_pos h1]
    · rw [if_neg h1, if_neg h1, va_up_ne _ _ (by omega)]
theorem wI_Mk0 {j : Nat} {v : Int32} (h : I k j = v) : wI (Mk X l I F y) (X + k) j v = Mk X l I F y := by
  rw [wI_Mk]
  have e : va_up I k (upd (I k) j v) = I := by
    funext q
    by_cases h1 : q = k
    · subst h1
      rw [va_up_self]
      funext i
      by_cases h2 : i = j
      · subst h2; simp [upd, h]
      · simp [upd, h2]
    · rw [va_up_ne _ _ h1]
  rw [e]
/-- the program ends, and Q holds of what it leaves -/
def Fin0 (Q : St → Prop) (o : Option (Unit × St)) : Prop := ∃ S1, o = some ((), S1) ∧ Q S1
variable {Q : St → Prop}
theorem M_rt {S : St} (h : Q S) : Fin0 Q (rt () S) := ⟨S, rfl, h⟩
theorem M_nA {x : Int32} {K : Nat → Prg Unit} (h1 : inB x 67108864 = true ∧ 20 ≤ t ∧ t ≤ 25) (hm : x.toNatClampNeg = m) (hk : l.length = k) (hI : I k = fun _ => 0) (hF : F k = fun _ => none) (kk : Fin0 Q (K (X + k) (Mk X (l ++ [(t, m)]) I F (y + m)))) : Fin0 Q (nA t x K (Mk X l I F y)) := by
  unfold nA
  rw [if_pos h1, hm, nw_Mk hk hI hF]
  show Fin0 Q (K (X + l.length) _)
  rw [hk]
  exact kk
theorem M_nO {K : Nat → Prg Unit} (h1 : 1 ≤ t ∧ t ≤ 11) (hm : nF (t - 1) = m) (hk : l.length = k) (hI : I k = fun _ => 0) (hF : F k = fun _ => none) (kk : Fin0 Q (K (X + k) (Mk X (l ++ [(t, 0)]) I F (y + m)))) : Fin0 Q (nO t K (Mk X l I F y)) := by
  unfold nO
  rw [if_pos h1, hm, nw_Mk hk hI hF]
  show Fin0 Q (K (X + l.length) _)
  rw [hk]
  exact kk
theorem M_nM {K : Nat → Prg Unit} (hk : l.length = k) (hI : ∀ q, k ≤ q → q ≤ k + 6 → I q = fun _ => 0) (h0 : F k = fun _ => none) (h1 : F (k + 1) = fun _ => none) (h2 : F (k + 2) = fun _ => none) (h3 : F (k + 3) = fun _ => none) (h4 : F (k + 4) = fun _ => none) (h5 : F (k + 5) = fun _ => none) (h6 : F (k + 6) = fun _ => none) (kk : Fin0 Q (K (X + k) (Mk X (l ++ [(26, 6), (20, 12), (20, 12), (20, 12), (20, 12), (20, 12), (20, 12)]) I (va_up F k (fun i => if i < 6 then some (k + 1 + i) else none)) (y + 78)))) : Fin0 Q (nM 6 12 K (Mk X l I F y)) := by
  have hF : ∀ q, k ≤ q → q ≤ k + 6 → F q = fun _ => none := fun q a1 a2 => by
    rcases (show q = k ∨ q = k + 1 ∨ q = k + 2 ∨ q = k + 3 ∨ q = k + 4 ∨ q = k + 5 ∨ q = k + 6 by omega) with e | e | e | e | e | e | e <;> rw [e] <;> assumption
  unfold nM
  rw [if_pos ⟨rfl, rfl⟩, mna_Mk hk hI hF]
  show Fin0 Q (K (X + l.length) _)
  rw [hk]
  exact kk
theorem M_pF {c j a : Nat} {v w : Option Nat} {P : Prg Unit} (hl : l[k]? = some (t, n)) (hc : fit c t = true) (ha : a = X + k) (hw : w = v.map (X + ·)) (kk : Fin0 Q (P (Mk X l I (va_up F k (va_up (F k) j v)) y))) : Fin0 Q (pF c a j w P (Mk X l I F y)) := by
  subst ha hw
  unfold pF
  rw [if_pos (by rw [Mk_T, hl]; exact hc), wF_Mk]
  exact kk
theorem M_pI {c j a : Nat} {v : Int32} {P : Prg Unit} (hl : l[k]? = some (t, n)) (hc : fit c t = true) (ha : a = X + k) (hv : I k j = v) (kk : Fin0 Q (P (Mk X l I F y))) : Fin0 Q (pI c a j v P (Mk X l I F y)) := by
  subst ha
  unfold pI
  rw [if_pos (by rw [Mk_T, hl]; exact hc), wI_Mk0 hv]
  exact kk
theorem M_stI {j a : Nat} {i v : Int32} {P : Prg Unit} (hl : l[k]? = some (20, n)) (hi : inB i n = true) (hj : i.toNatClampNeg = j) (ha : a = X + k) (kk : Fin0 Q (P (Mk X l (va_up I k (upd (I k) j v)) F y))) : Fin0 Q (stI a i v P (Mk X l I F y)) := by
  subst ha hj
  unfold stI
  rw [if_pos ⟨by rw [Mk_T, hl]; rfl, by rw [Mk_N, hl]; exact hi⟩, wI_Mk]
  exact kk
end MkS
theorem cl_nA {α β : Type} (t : Nat) (n : Int32) (K0 : Nat → Prg α) (K : α → Prg β) : cl (nA t n K0) K = nA t n (fun a => cl (K0 a) K) := by
  funext S
  unfold cl nA
  by_cases h : inB n 67108864 = true ∧ 20 ≤ t ∧ t ≤ 25
  · rw [if_pos h, if_pos h]
  · rw [if_neg h, if_neg h]
theorem cl_nM {α β : Type} (n k : Int32) (K0 : Nat → Prg α) (K : α → Prg β) : cl (nM n k K0) K = nM n k (fun a => cl (K0 a) K) := by
  funext S
  unfold cl nM
  by_cases h : n = 6 ∧ k = 12
  · rw [if_pos h, if_pos h]
  · rw [if_neg h, if_neg h]
theorem cl_pF {α β : Type} (c a j : Nat) (v : Option Nat) (P : Prg α) (K : α → Prg β) : cl (pF c a j v P) K = pF c a j v (cl P K) := by
  funext S
  unfold cl pF
  by_cases h : fit c (sT S a) = true
  · rw [if_pos h, if_pos h]
  · rw [if_neg h, if_neg h]
theorem cl_pI {α β : Type} (c a j : Nat) (v : Int32) (P : Prg α) (K : α → Prg β) : cl (pI c a j v P) K = pI c a j v (cl P K) := by
  funext S
  unfold cl pI
  by_cases h : fit c (sT S a) = true
  · rw [if_pos h, if_pos h]
  · rw [if_neg h, if_neg h]
theorem cl_rt {α β : Type} (x : α) (K : α → Prg β) : cl (rt x) K = K x := rfl
def CQ (X : Nat) (C : St) : Prop := ∃ (F : Nat → Nat → Option Nat) (y : Nat), C = Mk X ckT (fun _ _ => 0) F y ∧ (F 1 = fun _ => none) ∧ (F 2 = fun _ => none) ∧ F 5 8 = none ∧ (∀ q ∈ ckF, F q.1 q.2.1 = some q.2.2) ∧ y ≤ 5000
def RQ (X : Nat) (R : St) : Prop := ∃ (I : Nat → Nat → Int32) (F : Nat → Nat → Option Nat) (y : Nat), R = Mk X rkT I F y ∧ (∀ s, s < 8 → I 1 s = mI 1) ∧ (∀ s, s < 10 → I 4 s = mI 1) ∧ (∀ s, s < 10 → I 14 s = mI 1) ∧ (∀ j, j < 45 → I 0 j = 0) ∧ (∀ q ∈ rkF, F 0 q.1 = some q.2) ∧ y ≤ 65000
set_option maxRecDepth 20000 in
theorem init_C (X : Nat) : Fin0 (CQ X) (pX10_init X (Mk X [(10, 0)] (fun _ _ => 0) (fun _ _ => none) 7)) := by
  simp only [pX10_init, pX9_init, pX1_init, pX6_init, pX5_init, cl_nA, cl_nM, cl_pF, cl_pI, cl_rt]
  refine M_nA (k := 1) (m := 8) (by decide +kernel) (by decide +kernel) rfl rfl rfl ?_
  refine M_pF (k := 0) (v := some 1) (n := _) rfl (by decide) rfl rfl ?_
  refine M_nA (k := 2) (m := 10) (by decide +kernel) (by decide +kernel) rfl rfl rfl ?_
  refine M_pF (k := 0) (v := some 2) (n := _) rfl (by decide) rfl rfl ?_
  refine M_nO (k := 3) (m := 2) (by decide) rfl rfl rfl rfl ?_
  refine M_nA (k := 4) (m := 16) (by decide +kernel) (by decide +kernel) rfl rfl rfl ?_
  refine M_pF (k := 3) (v := some 4) (n := _) rfl (by decide) rfl rfl ?_
  refine M_pI (k := 3) (n := _) rfl (by decide) rfl rfl ?_
  refine M_pF (k := 0) (v := some 3) (n := _) rfl (by decide) rfl rfl ?_
  refine M_nO (k := 5) (m := 10) (by decide) rfl rfl rfl rfl ?_
  refine M_nA (k := 6) (m := 144) (by decide +kernel) (by decide +kernel) rfl rfl rfl ?_
  refine M_pF (k := 5) (v := some 6) (n := _) rfl (by decide) rfl rfl ?_
  refine M_nA (k := 7) (m := 576) (by decide +kernel) (by decide +kernel) rfl rfl rfl ?_
  refine M_pF (k := 5) (v := some 7) (n := _) rfl (by decide) rfl rfl ?_
  refine M_nA (k := 8) (m := 144) (by decide +kernel) (by decide +kernel) rfl rfl rfl ?_
  refine M_pF (k := 5) (v := some 8) (n := _) rfl (by decide) rfl rfl ?_
  refine M_nA (k := 9) (m := 144) (by decide +kernel) (by decide +kernel) rfl rfl rfl ?_
  refine M_pF (k := 5) (v := some 9) (n := _) rfl (by decide) rfl rfl ?_
  refine M_nA (k := 10) (m := 144) (by decide +kernel) (by decide +kernel) rfl rfl rfl ?_
  refine M_pF (k := 5) (v := some 10) (n := _) rfl (by decide) rfl rfl ?_
  refine M_nA (k := 11) (m := 144) (by decide +kernel) (by decide +kernel) rfl rfl rfl ?_
  refine M_pF (k := 5) (v := some 11) (n := _) rfl (by decide) rfl rfl ?_
  refine M_pI (k := 5) (n := _) rfl (by decide) rfl rfl ?_
  refine M_pI (k := 5) (n := _) rfl (by decide) rfl rfl ?_
  refine M_pF (k := 5) (v := none) (n := _) rfl (by decide) rfl rfl ?_
  refine M_pI (k := 5) (n := _) rfl (by decide) rfl rfl ?_
  refine M_pF (k := 0) (v := some 5) (n := _) rfl (by decide) rfl rfl ?_
  refine M_nO (k := 12) (m := 11) (by decide) rfl rfl rfl rfl ?_
  refine M_nA (k := 13) (m := 8) (by decide +kernel) (by decide +kernel) rfl rfl rfl ?_
  refine M_pF (k := 12) (v := some 13) (n := _) rfl (by decide) rfl rfl ?_
  refine M_nA (k := 14) (m := 8) (by decide +kernel) (by decide +kernel) rfl rfl rfl ?_
  refine M_pF (k := 12) (v := some 14) (n := _) rfl (by decide) rfl rfl ?_
  refine M_nA (k := 15) (m := 8) (by decide +kernel) (by decide +kernel) rfl rfl rfl ?_
  refine M_pF (k := 12) (v := some 15) (n := _) rfl (by decide) rfl rfl ?_
  refine M_nA (k := 16) (m := 8) (by decide +kernel) (by decide +kernel) rfl rfl rfl ?_
  refine M_pF (k := 12) (v := some 16) (n := _) rfl (by decide) rfl rfl ?_
  refine M_pI (k := 12) (n := _) rfl (by decide) rfl rfl ?_
  refine M_nA (k := 17) (m := 8) (by decide +kernel) (by decide +kernel) rfl rfl rfl ?_
  refine M_pF (k := 12) (v := some 17) (n := _) rfl (by decide) rfl rfl ?_
  refine M_nA (k := 18) (m := 8) (by decide +kernel) (by decide +kernel) rfl rfl rfl ?_
  refine M_pF (k := 12) (v := some 18) (n := _) rfl (by decide) rfl rfl ?_
  refine M_nA (k := 19) (m := 3) (by decide +kernel) (by decide +kernel) rfl rfl rfl ?_
  refine M_pF (k := 12) (v := some 19) (n := _) rfl (by decide) rfl rfl ?_
  refine M_pI (k := 12) (n := _) rfl (by decide) rfl rfl ?_
  refine M_pI (k := 12) (n := _) rfl (by decide) rfl rfl ?_
  refine M_pI (k := 12) (n := _) rfl (by decide) rfl rfl ?_
  refine M_pF (k := 0) (v := some 12) (n := _) rfl (by decide) rfl rfl ?_
  refine M_nO (k := 20) (m := 9) (by decide) rfl rfl rfl rfl ?_
  refine M_nA (k := 21) (m := 6) (by decide +kernel) (by decide +kernel) rfl rfl rfl ?_
  refine M_pF (k := 20) (v := some 21) (n := _) rfl (by decide) rfl rfl ?_
  refine M_nA (k := 22) (m := 12) (by decide +kernel) (by decide +kernel) rfl rfl rfl ?_
  refine M_pF (k := 20) (v := some 22) (n := _) rfl (by decide) rfl rfl ?_
  refine M_nA (k := 23) (m := 12) (by decide +kernel) (by decide +kernel) rfl rfl rfl ?_
  refine M_pF (k := 20) (v := some 23) (n := _) rfl (by decide) rfl rfl ?_
  refine M_nA (k := 24) (m := 12) (by decide +kernel) (by decide +kernel) rfl rfl rfl ?_
  refine M_pF (k := 20) (v := some 24) (n := _) rfl (by decide) rfl rfl ?_
  refine M_nM (k := 25) rfl (fun _ _ _ => rfl) rfl rfl rfl rfl rfl rfl rfl ?_
  refine M_pF (k := 20) (v := some 25) (n := _) rfl (by decide) rfl rfl ?_
  refine M_nA (k := 32) (m := 6) (by decide +kernel) (by decide +kernel) rfl rfl rfl ?_
  refine M_pF (k := 20) (v := some 32) (n := _) rfl (by decide) rfl rfl ?_
  refine M_nA (k := 33) (m := 6) (by decide +kernel) (by decide +kernel) rfl rfl rfl ?_
  refine M_pF (k := 20) (v := some 33) (n := _) rfl (by decide) rfl rfl ?_
  refine M_pI (k := 20) (n := _) rfl (by decide) rfl rfl ?_
  refine M_pI (k := 20) (n := _) rfl (by decide) rfl rfl ?_
  refine M_pF (k := 0) (v := some 20) (n := _) rfl (by decide) rfl rfl ?_
  refine M_pI (k := 0) (n := _) rfl (by decide) rfl rfl ?_
  refine M_rt ⟨_, _, rfl, rfl, rfl, rfl, by decide +kernel, by decide⟩
set_option maxRecDepth 20000 in
theorem init_R (X y : Nat) (hy : y ≤ 5100) : Fin0 (RQ X) (pX11_init X (Mk X [(11, 0)] (fun _ _ => 0) (fun _ _ => none) y)) := by
  unfold pX11_init
  refine M_nA (k := 1) (m := 8) (by decide +kernel) (by decide +kernel) rfl rfl rfl ?_
  refine M_stI (k := 1) (j := 0) (n := _) rfl (by decide +kernel) (by decide +kernel) rfl ?_
  refine M_stI (k := 1) (j := 1) (n := _) rfl (by decide +kernel) (by decide +kernel) rfl ?_
  refine M_stI (k := 1) (j := 2) (n := _) rfl (by decide +kernel) (by decide +kernel) rfl ?_
  refine M_stI (k := 1) (j := 3) (n := _) rfl (by decide +kernel) (by decide +kernel) rfl ?_
  refine M_stI (k := 1) (j := 4) (n := _) rfl (by decide +kernel) (by decide +kernel) rfl ?_
  refine M_stI (k := 1) (j := 5) (n := _) rfl (by decide +kernel) (by decide +kernel) rfl ?_
  refine M_stI (k := 1) (j := 6) (n := _) rfl (by decide +kernel) (by decide +kernel) rfl ?_
  refine M_stI (k := 1) (j := 7) (n := _) rfl (by decide +kernel) (by decide +kernel) rfl ?_
  refine M_pF (k := 0) (v := some 1) (n := _) rfl (by decide) rfl rfl ?_
  refine M_nA (k := 2) (m := 8) (by decide +kernel) (by decide +kernel) rfl rfl rfl ?_
  refine M_pF (k := 0) (v := some 2) (n := _) rfl (by decide) rfl rfl ?_
  refine M_nA (k := 3) (m := 1152) (by decide +kernel) (by decide +kernel) rfl rfl rfl ?_
  refine M_pF (k := 0) (v := some 3) (n := _) rfl (by decide) rfl rfl ?_
  refine M_nA (k := 4) (m := 10) (by decide +kernel) (by decide +kernel) rfl rfl rfl ?_
  refine M_stI (k := 4) (j := 0) (n := _) rfl (by decide +kernel) (by decide +kernel) rfl ?_
  refine M_stI (k := 4) (j := 1) (n := _) rfl (by decide +kernel) (by decide +kernel) rfl ?_
  refine M_stI (k := 4) (j := 2) (n := _) rfl (by decide +kernel) (by decide +kernel) rfl ?_
  refine M_stI (k := 4) (j := 3) (n := _) rfl (by decide +kernel) (by decide +kernel) rfl ?_
  refine M_stI (k := 4) (j := 4) (n := _) rfl (by decide +kernel) (by decide +kernel) rfl ?_
  refine M_stI (k := 4) (j := 5) (n := _) rfl (by decide +kernel) (by decide +kernel) rfl ?_
  refine M_stI (k := 4) (j := 6) (n := _) rfl (by decide +kernel) (by decide +kernel) rfl ?_
  refine M_stI (k := 4) (j := 7) (n := _) rfl (by decide +kernel) (by decide +kernel) rfl ?_
  refine M_stI (k := 4) (j := 8) (n := _) rfl (by decide +kernel) (by decide +kernel) rfl ?_
  refine M_stI (k := 4) (j := 9) (n := _) rfl (by decide +kernel) (by decide +kernel) rfl ?_
  refine M_pF (k := 0) (v := some 4) (n := _) rfl (by decide) rfl rfl ?_
  refine M_nA (k := 5) (m := 10) (by decide +kernel) (by decide +kernel) rfl rfl rfl ?_
  refine M_pF (k := 0) (v := some 5) (n := _) rfl (by decide) rfl rfl ?_
  refine M_nA (k := 6) (m := 10) (by decide +kernel) (by decide +kernel) rfl rfl rfl ?_
  refine M_pF (k := 0) (v := some 6) (n := _) rfl (by decide) rfl rfl ?_
  refine M_nA (k := 7) (m := 1440) (by decide +kernel) (by decide +kernel) rfl rfl rfl ?_
  refine M_pF (k := 0) (v := some 7) (n := _) rfl (by decide) rfl rfl ?_
  refine M_nA (k := 8) (m := 10) (by decide +kernel) (by decide +kernel) rfl rfl rfl ?_
  refine M_pF (k := 0) (v := some 8) (n := _) rfl (by decide) rfl rfl ?_
  refine M_nA (k := 9) (m := 40) (by decide +kernel) (by decide +kernel) rfl rfl rfl ?_
  refine M_pF (k := 0) (v := some 9) (n := _) rfl (by decide) rfl rfl ?_
  refine M_nA (k := 10) (m := 1440) (by decide +kernel) (by decide +kernel) rfl rfl rfl ?_
  refine M_pF (k := 0) (v := some 10) (n := _) rfl (by decide) rfl rfl ?_
  refine M_nA (k := 11) (m := 200) (by decide +kernel) (by decide +kernel) rfl rfl rfl ?_
  refine M_pF (k := 0) (v := some 11) (n := _) rfl (by decide) rfl rfl ?_
  refine M_nA (k := 12) (m := 10) (by decide +kernel) (by decide +kernel) rfl rfl rfl ?_
  refine M_pF (k := 0) (v := some 12) (n := _) rfl (by decide) rfl rfl ?_
  refine M_nA (k := 13) (m := 10) (by decide +kernel) (by decide +kernel) rfl rfl rfl ?_
  refine M_pF (k := 0) (v := some 13) (n := _) rfl (by decide) rfl rfl ?_
  refine M_nA (k := 14) (m := 10) (by decide +kernel) (by decide +kernel) rfl rfl rfl ?_
  refine M_stI (k := 14) (j := 0) (n := _) rfl (by decide +kernel) (by decide +kernel) rfl ?_
  refine M_stI (k := 14) (j := 1) (n := _) rfl (by decide +kernel) (by decide +kernel) rfl ?_
  refine M_stI (k := 14) (j := 2) (n := _) rfl (by decide +kernel) (by decide +kernel) rfl ?_
  refine M_stI (k := 14) (j := 3) (n := _) rfl (by decide +kernel) (by decide +kernel) rfl ?_
  refine M_stI (k := 14) (j := 4) (n := _) rfl (by decide +kernel) (by decide +kernel) rfl ?_
  refine M_stI (k := 14) (j := 5) (n := _) rfl (by decide +kernel) (by decide +kernel) rfl ?_
  refine M_stI (k := 14) (j := 6) (n := _) rfl (by decide +kernel) (by decide +kernel) rfl ?_
  refine M_stI (k := 14) (j := 7) (n := _) rfl (by decide +kernel) (by decide +kernel) rfl ?_
  refine M_stI (k := 14) (j := 8) (n := _) rfl (by decide +kernel) (by decide +kernel) rfl ?_
  refine M_stI (k := 14) (j := 9) (n := _) rfl (by decide +kernel) (by decide +kernel) rfl ?_
  refine M_pF (k := 0) (v := some 14) (n := _) rfl (by decide) rfl rfl ?_
  refine M_nA (k := 15) (m := 16) (by decide +kernel) (by decide +kernel) rfl rfl rfl ?_
  refine M_pF (k := 0) (v := some 15) (n := _) rfl (by decide) rfl rfl ?_
  refine M_nA (k := 16) (m := 144) (by decide +kernel) (by decide +kernel) rfl rfl rfl ?_
  refine M_pF (k := 0) (v := some 16) (n := _) rfl (by decide) rfl rfl ?_
  refine M_nA (k := 17) (m := 144) (by decide +kernel) (by decide +kernel) rfl rfl rfl ?_
  refine M_pF (k := 0) (v := some 17) (n := _) rfl (by decide) rfl rfl ?_
  refine M_nA (k := 18) (m := 144) (by decide +kernel) (by decide +kernel) rfl rfl rfl ?_
  refine M_pF (k := 0) (v := some 18) (n := _) rfl (by decide) rfl rfl ?_
  refine M_nA (k := 19) (m := 144) (by decide +kernel) (by decide +kernel) rfl rfl rfl ?_
  refine M_pF (k := 0) (v := some 19) (n := _) rfl (by decide) rfl rfl ?_
  refine M_nA (k := 20) (m := 144) (by decide +kernel) (by decide +kernel) rfl rfl rfl ?_
  refine M_pF (k := 0) (v := some 20) (n := _) rfl (by decide) rfl rfl ?_
  refine M_nA (k := 21) (m := 8) (by decide +kernel) (by decide +kernel) rfl rfl rfl ?_
  refine M_pF (k := 0) (v := some 21) (n := _) rfl (by decide) rfl rfl ?_
  refine M_nA (k := 22) (m := 8) (by decide +kernel) (by decide +kernel) rfl rfl rfl ?_
  refine M_pF (k := 0) (v := some 22) (n := _) rfl (by decide) rfl rfl ?_
  refine M_nA (k := 23) (m := 8) (by decide +kernel) (by decide +kernel) rfl rfl rfl ?_
  refine M_pF (k := 0) (v := some 23) (n := _) rfl (by decide) rfl rfl ?_
  refine M_nA (k := 24) (m := 8) (by decide +kernel) (by decide +kernel) rfl rfl rfl ?_
  refine M_pF (k := 0) (v := some 24) (n := _) rfl (by decide) rfl rfl ?_
  refine M_nA (k := 25) (m := 8) (by decide +kernel) (by decide +kernel) rfl rfl rfl ?_
  refine M_pF (k := 0) (v := some 25) (n := _) rfl (by decide) rfl rfl ?_
  refine M_nA (k := 26) (m := 3) (by decide +kernel) (by decide +kernel) rfl rfl rfl ?_
  refine M_pF (k := 0) (v := some 26) (n := _) rfl (by decide) rfl rfl ?_
  refine M_nA (k := 27) (m := 8) (by decide +kernel) (by decide +kernel) rfl rfl rfl ?_
  refine M_pF (k := 0) (v := some 27) (n := _) rfl (by decide) rfl rfl ?_
  refine M_nA (k := 28) (m := 22) (by decide +kernel) (by decide +kernel) rfl rfl rfl ?_
  refine M_pF (k := 0) (v := some 28) (n := _) rfl (by decide) rfl rfl ?_
  refine M_nA (k := 29) (m := 6) (by decide +kernel) (by decide +kernel) rfl rfl rfl ?_
  refine M_pF (k := 0) (v := some 29) (n := _) rfl (by decide) rfl rfl ?_
  refine M_nA (k := 30) (m := 12) (by decide +kernel) (by decide +kernel) rfl rfl rfl ?_
  refine M_pF (k := 0) (v := some 30) (n := _) rfl (by decide) rfl rfl ?_
  refine M_nA (k := 31) (m := 12) (by decide +kernel) (by decide +kernel) rfl rfl rfl ?_
  refine M_pF (k := 0) (v := some 31) (n := _) rfl (by decide) rfl rfl ?_
  refine M_nA (k := 32) (m := 12) (by decide +kernel) (by decide +kernel) rfl rfl rfl ?_
  refine M_pF (k := 0) (v := some 32) (n := _) rfl (by decide) rfl rfl ?_
  refine M_nA (k := 33) (m := 72) (by decide +kernel) (by decide +kernel) rfl rfl rfl ?_
  refine M_pF (k := 0) (v := some 33) (n := _) rfl (by decide) rfl rfl ?_
  refine M_nA (k := 34) (m := 6) (by decide +kernel) (by decide +kernel) rfl rfl rfl ?_
  refine M_pF (k := 0) (v := some 34) (n := _) rfl (by decide) rfl rfl ?_
  refine M_nA (k := 35) (m := 6) (by decide +kernel) (by decide +kernel) rfl rfl rfl ?_
  refine M_pF (k := 0) (v := some 35) (n := _) rfl (by decide) rfl rfl ?_
  refine M_nA (k := 36) (m := 49152) (by decide +kernel) (by decide +kernel) rfl rfl rfl ?_
  refine M_pF (k := 0) (v := some 36) (n := _) rfl (by decide) rfl rfl ?_
  refine M_nA (k := 37) (m := 12) (by decide +kernel) (by decide +kernel) rfl rfl rfl ?_
  refine M_pF (k := 0) (v := some 37) (n := _) rfl (by decide) rfl rfl ?_
  refine M_rt ⟨_, _, _, rfl, by decide +kernel, by decide +kernel, by decide +kernel, by decide +kernel, by decide +kernel, by omega⟩
