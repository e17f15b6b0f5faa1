/-! (B) how programs are worked out: the planes behind a write, a step at a time -/
section Ev0
variable {β : Type} {S : St}
theorem wI_T (S : St) (a k : Nat) (v : Int32) : sT (wI S a k v) = sT S := rfl
theorem wI_N (S : St) (a k : Nat) (v : Int32) : sN (wI S a k v) = sN S := rfl
theorem wI_J (S : St) (a k : Nat) (v : Int32) : sJ (wI S a k v) = sJ S := rfl
theorem wI_F (S : St) (a k : Nat) (v : Int32) : sF (wI S a k v) = sF S := rfl
theorem wI_X (S : St) (a k : Nat) (v : Int32) : sX (wI S a k v) = sX S := rfl
theorem wI_S (S : St) (a k : Nat) (v : Int32) : sS (wI S a k v) = sS S := rfl
theorem wI_I (S : St) (a k : Nat) (v : Int32) (b j : Nat) : sI (wI S a k v) b j = if b = a ∧ j = k then v else sI S b j := by
  show va_up (sI S) a (upd (sI S a) k v) b j = _
  by_cases e : b = a
  · subst e
    rw [va_up_self]
    by_cases e2 : j = k
    · simp [upd, e2]
    · simp [upd, e2]
  · rw [va_up_ne _ _ e]
    simp [e]
theorem wI_same (S : St) (a k : Nat) (v : Int32) : sI (wI S a k v) a k = v := by rw [wI_I]; simp
theorem wI_row (S : St) (a k : Nat) (v : Int32) {b : Nat} (h : b ≠ a) : sI (wI S a k v) b = sI S b := va_up_ne _ _ h
theorem wJ_T (S : St) (a k : Nat) (v : Int64) : sT (wJ S a k v) = sT S := rfl
theorem wJ_N (S : St) (a k : Nat) (v : Int64) : sN (wJ S a k v) = sN S := rfl
theorem wJ_I (S : St) (a k : Nat) (v : Int64) : sI (wJ S a k v) = sI S := rfl
theorem wJ_F (S : St) (a k : Nat) (v : Int64) : sF (wJ S a k v) = sF S := rfl
theorem wJ_X (S : St) (a k : Nat) (v : Int64) : sX (wJ S a k v) = sX S := rfl
theorem wJ_S (S : St) (a k : Nat) (v : Int64) : sS (wJ S a k v) = sS S := rfl
theorem wJ_J (S : St) (a k : Nat) (v : Int64) (b j : Nat) : sJ (wJ S a k v) b j = if b = a ∧ j = k then v else sJ S b j := by
  show va_up (sJ S) a (vp_updL (sJ S a) k v) b j = _
  by_cases e : b = a
  · subst e
    rw [va_up_self]
    by_cases e2 : j = k
    · simp [vp_updL, e2]
    · simp [vp_updL, e2]
  · rw [va_up_ne _ _ e]
    simp [e]
theorem wJ_row (S : St) (a k : Nat) (v : Int64) {b : Nat} (h : b ≠ a) : sJ (wJ S a k v) b = sJ S b := va_up_ne _ _ h
theorem wF_T (S : St) (a k : Nat) (v : Option Nat) : sT (wF S a k v) = sT S := rfl
theorem wF_N (S : St) (a k : Nat) (v : Option Nat) : sN (wF S a k v) = sN S := rfl
theorem wF_I (S : St) (a k : Nat) (v : Option Nat) : sI (wF S a k v) = sI S := rfl
theorem wF_J (S : St) (a k : Nat) (v : Option Nat) : sJ (wF S a k v) = sJ S := rfl
theorem wF_X (S : St) (a k : Nat) (v : Option Nat) : sX (wF S a k v) = sX S := rfl
theorem wF_S (S : St) (a k : Nat) (v : Option Nat) : sS (wF S a k v) = sS S := rfl
theorem wF_F (S : St) (a k : Nat) (v : Option Nat) (b j : Nat) : sF (wF S a k v) b j = if b = a ∧ j = k then v else sF S b j := by
  show va_up (sF S) a (va_up (sF S a) k v) b j = _
  by_cases e : b = a
  · subst e
    rw [va_up_self]
    by_cases e2 : j = k
    · subst e2
      rw [va_up_self]
      simp
    · rw [va_up_ne _ _ e2]
      simp [e2]
  · rw [va_up_ne _ _ e]
    simp [e]
theorem nw_Tb (S : St) (t n k b : Nat) : sT (nw S t n k) b = if b = sX S then t else sT S b := rfl
theorem nw_Nb (S : St) (t n k b : Nat) : sN (nw S t n k) b = if b = sX S then n else sN S b := rfl
theorem nw_Ib (S : St) (t n k b j : Nat) : sI (nw S t n k) b j = if b = sX S then 0 else sI S b j := by
  show va_up (sI S) (sX S) (fun _ => 0) b j = _
  by_cases e : b = sX S
  · rw [e, va_up_self, if_pos rfl]
  · rw [va_up_ne _ _ e, if_neg e]
theorem nw_Jb (S : St) (t n k b j : Nat) : sJ (nw S t n k) b j = if b = sX S then 0 else sJ S b j := by
  show va_up (sJ S) (sX S) (fun _ => 0) b j = _
  by_cases e : b = sX S
  · rw [e, va_up_self, if_pos rfl]
  · rw [va_up_ne _ _ e, if_neg e]
theorem nw_Fb (S : St) (t n k b j : Nat) : sF (nw S t n k) b j = if b = sX S then none else sF S b j := by
  show va_up (sF S) (sX S) (fun _ => none) b j = _
  by_cases e : b = sX S
  · rw [e, va_up_self, if_pos rfl]
  · rw [va_up_ne _ _ e, if_neg e]
theorem nw_X (S : St) (t n k : Nat) : sX (nw S t n k) = sX S + 1 := rfl
theorem nw_S (S : St) (t n k : Nat) : sS (nw S t n k) = sS S + k := rfl
theorem wIr_T (S : St) (a : Nat) (f : Nat → Int32) : sT (wIr S a f) = sT S := rfl
theorem wIr_N (S : St) (a : Nat) (f : Nat → Int32) : sN (wIr S a f) = sN S := rfl
theorem wIr_J (S : St) (a : Nat) (f : Nat → Int32) : sJ (wIr S a f) = sJ S := rfl
theorem wIr_F (S : St) (a : Nat) (f : Nat → Int32) : sF (wIr S a f) = sF S := rfl
theorem wIr_X (S : St) (a : Nat) (f : Nat → Int32) : sX (wIr S a f) = sX S := rfl
theorem wIr_S (S : St) (a : Nat) (f : Nat → Int32) : sS (wIr S a f) = sS S := rfl
theorem wIr_row (S : St) (a : Nat) (f : Nat → Int32) {b : Nat} (h : b ≠ a) : sI (wIr S a f) b = sI S b := va_up_ne _ _ h
theorem wJr_T (S : St) (a : Nat) (f : Nat → Int64) : sT (wJr S a f) = sT S := rfl
theorem wJr_N (S : St) (a : Nat) (f : Nat → Int64) : sN (wJr S a f) = sN S := rfl
theorem wJr_I (S : St) (a : Nat) (f : Nat → Int64) : sI (wJr S a f) = sI S := rfl
theorem wJr_F (S : St) (a : Nat) (f : Nat → Int64) : sF (wJr S a f) = sF S := rfl
theorem wJr_X (S : St) (a : Nat) (f : Nat → Int64) : sX (wJr S a f) = sX S := rfl
theorem wJr_S (S : St) (a : Nat) (f : Nat → Int64) : sS (wJr S a f) = sS S := rfl
theorem wJr_row (S : St) (a : Nat) (f : Nat → Int64) {b : Nat} (h : b ≠ a) : sJ (wJr S a f) b = sJ S b := va_up_ne _ _ h
-- steps
theorem fit_self {c : Nat} (h : c ≠ 12) : fit c c = true := by
  unfold fit
  by_cases h4 : c = 4
  · subst h4
    rfl
  · by_cases h1 : c = 1
    · subst h1
      rfl
    · simp [h4, h1, h]
theorem gI_e {c a k : Nat} {K : Int32 → Prg β} (h : fit c (sT S a) = true) : gI c a k K S = K (sI S a k) S := by unfold gI; rw [if_pos h]
theorem gF_e {c a k : Nat} {K : Option Nat → Prg β} (h : fit c (sT S a) = true) : gF c a k K S = K (sF S a k) S := by unfold gF; rw [if_pos h]
theorem pI_e {c a k : Nat} {v : Int32} {P : Prg β} (h : fit c (sT S a) = true) : pI c a k v P S = P (wI S a k v) := by unfold pI; rw [if_pos h]
theorem pF_e {c a k : Nat} {v : Option Nat} {P : Prg β} (h : fit c (sT S a) = true) : pF c a k v P S = P (wF S a k v) := by unfold pF; rw [if_pos h]
theorem pZ_e {c a k : Nat} {v : Int32} {P : Prg β} (h : fit c (sT S a) = true) (hv : vp_nar .boolean v = v) : pZ c a k v P S = P (wI S a k v) := by unfold pZ; rw [if_pos ⟨h, hv⟩]
theorem inB_nI {n N : Nat} (h : n < N) (hN : N < 2 ^ 31) : inB (nI n) N = true := by
  unfold inB
  rw [nI_clamp (by omega)]
  simp [nI_pos (show n < 2 ^ 31 by omega), h]
theorem ldI_e {a n : Nat} {K : Int32 → Prg β} (ht : sT S a = 20) (h : n < sN S a) (hN : sN S a < 2 ^ 31) : ldI a (nI n) K S = K (sI S a n) S := by unfold ldI; rw [if_pos ⟨ht, inB_nI h hN⟩, nI_clamp (by omega)]
theorem stI_e {a n : Nat} {v : Int32} {P : Prg β} (ht : sT S a = 20) (h : n < sN S a) (hN : sN S a < 2 ^ 31) : stI a (nI n) v P S = P (wI S a n v) := by unfold stI; rw [if_pos ⟨ht, inB_nI h hN⟩, nI_clamp (by omega)]
theorem ldZ_e {a n : Nat} {K : Int32 → Prg β} (ht : sT S a = 21) (h : n < sN S a) (hN : sN S a < 2 ^ 31) : ldZ a (nI n) K S = K (sI S a n) S := by unfold ldZ; rw [if_pos ⟨ht, inB_nI h hN⟩, nI_clamp (by omega)]
theorem stZ_e {a n : Nat} {v : Int32} {P : Prg β} (ht : sT S a = 21) (h : n < sN S a) (hN : sN S a < 2 ^ 31) : stZ a (nI n) v P S = P (wI S a n (vp_nar .boolean v)) := by unfold stZ; rw [if_pos ⟨ht, inB_nI h hN⟩, nI_clamp (by omega)]
theorem ldJ_e {a n : Nat} {K : Int64 → Prg β} (ht : sT S a = 22) (h : n < sN S a) (hN : sN S a < 2 ^ 31) : ldJ a (nI n) K S = K (sJ S a n) S := by unfold ldJ; rw [if_pos ⟨ht, inB_nI h hN⟩, nI_clamp (by omega)]
theorem stJ_e {a n : Nat} {v : Int64} {P : Prg β} (ht : sT S a = 22) (h : n < sN S a) (hN : sN S a < 2 ^ 31) : stJ a (nI n) v P S = P (wJ S a n v) := by unfold stJ; rw [if_pos ⟨ht, inB_nI h hN⟩, nI_clamp (by omega)]
theorem ldF_e {a n : Nat} {K : Option Nat → Prg β} (ht : 23 ≤ sT S a ∧ sT S a ≤ 26) (h : n < sN S a) (hN : sN S a < 2 ^ 31) : ldF a (nI n) K S = K (sF S a n) S := by unfold ldF; rw [if_pos ⟨ht.1, ht.2, inB_nI h hN⟩, nI_clamp (by omega)]
theorem stF_e {a n : Nat} {v : Option Nat} {P : Prg β} (ht : 23 ≤ sT S a ∧ sT S a ≤ 25) (h : n < sN S a) (hN : sN S a < 2 ^ 31) (ho : okSt S (sT S a) v = true) : stF a (nI n) v P S = P (wF S a n v) := by unfold stF; rw [if_pos ⟨ht.1, ht.2, inB_nI h hN, ho⟩, nI_clamp (by omega)]
theorem ln_e {a : Nat} {K : Int32 → Prg β} (ht : 20 ≤ sT S a ∧ sT S a ≤ 26) : ln a K S = K (nI (sN S a)) S := by unfold ln; rw [if_pos ht]; rfl
theorem nO_e {t : Nat} {K : Nat → Prg β} (ht : 1 ≤ t ∧ t ≤ 11) : nO t K S = K (sX S) (nw S t 0 (nF (t - 1))) := by unfold nO; rw [if_pos ht]
theorem nA_e {t n : Nat} {K : Nat → Prg β} (hn : n < 67108864) (ht : 20 ≤ t ∧ t ≤ 25) : nA t (nI n) K S = K (sX S) (nw S t n n) := by unfold nA; rw [if_pos ⟨inB_nI hn (by decide), ht⟩, nI_clamp (by omega)]
theorem onT_e {α : Type} {a t : Nat} {P : Prg α} (h : sT S a = t) : onT a t P S = P S := by unfold onT; rw [if_pos h]
theorem or2_y {α : Type} {a t : Nat} {P Q : Prg α} (h : sT S a = t) : or2 a t P Q S = P S := by unfold or2; rw [if_pos h]
theorem or2_n {α : Type} {a t : Nat} {P Q : Prg α} (h : sT S a ≠ t) : or2 a t P Q S = Q S := by unfold or2; rw [if_neg h]
theorem cl_e {α : Type} {P : Prg α} {K : α → Prg β} {x : α} {S1 : St} (h : P S = some (x, S1)) : cl P K S = K x S1 := by unfold cl; rw [h]
theorem ite_S {c : Prop} [Decidable c] {P Q : Prg β} : (if c then P else Q) S = if c then P S else Q S := by split <;> rfl
theorem rtZ_b {c : Prop} [Decidable c] : rtZ (if c then 1 else 0) S = some (if c then 1 else 0, S) := by
  unfold rtZ
  split <;> rfl
theorem rtZ_1 : rtZ 1 S = some (1, S) := rfl
theorem rtZ_0 : rtZ 0 S = some (0, S) := rfl
end Ev0
-- the small methods
theorem below_e (a b : Int32) (S : St) : pX10_below a b S = some (if 0 ≤ a ∧ a < b then 1 else 0, S) := by
  unfold pX10_below
  simp only [lt, ite_S, rtZ_0, rtZ_1]
  by_cases h1 : a < 0
  · rw [if_pos h1, if_neg (fun q => absurd h1 (Int32.not_lt.mpr q.1))]
  · rw [if_neg h1]
    by_cases h2 : b ≤ a
    · rw [if_pos h2, if_neg (fun q => absurd q.2 (Int32.not_lt.mpr h2))]
    · rw [if_neg h2, if_pos ⟨Int32.not_lt.mp h1, Int32.not_le.mp h2⟩]
theorem among_e (a b c : Int32) (S : St) : pX10_among a b c S = some (if b ≤ a ∧ a ≤ c then 1 else 0, S) := by
  unfold pX10_among
  simp only [lt, ite_S, rtZ_0, rtZ_1]
  by_cases h1 : a < b
  · rw [if_pos h1, if_neg (fun q => absurd h1 (Int32.not_lt.mpr q.1))]
  · rw [if_neg h1]
    by_cases h2 : c < a
    · rw [if_pos h2, if_neg (fun q => absurd h2 (Int32.not_lt.mpr q.2))]
    · rw [if_neg h2, if_pos ⟨Int32.not_lt.mp h1, Int32.not_lt.mp h2⟩]
theorem cmp_lt (x y : Int64) : lg_cmp x y < 0 ↔ x < y := by
  unfold lg_cmp
  by_cases h1 : y < x
  · rw [if_pos h1]
    constructor
    · intro h; exact absurd h (by decide)
    · intro h; exact (Int64.lt_irrefl (Int64.lt_trans h h1)).elim
  · rw [if_neg h1]
    by_cases h2 : x = y
    · rw [if_pos h2, h2]
      constructor
      · intro h; exact absurd h (by decide)
      · intro h; exact (Int64.lt_irrefl h).elim
    · rw [if_neg h2]
      constructor
      · intro _
        rcases Int64.lt_or_eq_of_le (Int64.not_lt.mp h1) with h | h
        · exact h
        · exact absurd h h2
      · intro _; decide
theorem cmp_gt (x y : Int64) : 0 < lg_cmp x y ↔ y < x := by
  unfold lg_cmp
  by_cases h1 : y < x
  · rw [if_pos h1]
    exact ⟨fun _ => h1, fun _ => by decide⟩
  · rw [if_neg h1]
    by_cases h2 : x = y
    · rw [if_pos h2]
      exact ⟨fun h => absurd h (by decide), fun h => absurd h h1⟩
    · rw [if_neg h2]
      exact ⟨fun h => absurd h (by decide), fun h => absurd h h1⟩
theorem in_e (a b c : Int64) (S : St) : pX11_in a b c S = some (if b ≤ a ∧ a ≤ c then 1 else 0, S) := by
  unfold pX11_in
  simp only [lt, ite_S, rtZ_0, rtZ_1, cmp_lt, cmp_gt]
  by_cases h1 : a < b
  · rw [if_pos h1, if_neg (fun q => absurd h1 (Int64.not_lt.mpr q.1))]
  · rw [if_neg h1]
    by_cases h2 : c < a
    · rw [if_pos h2, if_neg (fun q => absurd h2 (Int64.not_lt.mpr q.2))]
    · rw [if_neg h2, if_pos ⟨Int64.not_lt.mp h1, Int64.not_lt.mp h2⟩]
