/-! (B) programs worked out by simp: every step a rule; ints as nI; skeletons of both memories -/
theorem nI_mul (a b : Nat) : nI a * nI b = nI (a * b) := (Int32.ofNat_mul a b).symm
theorem nI_sub {a b : Nat} (h : b ≤ a) : nI a - nI b = nI (a - b) := by
  have e : nI a = nI (a - b) + nI b := by rw [nI_add, Nat.sub_add_cancel h]
  rw [e, Int32.add_sub_cancel]
def uN (x : Int32) : Nat := x.toNatClampNeg
theorem uN_nI {n : Nat} (h : n < 2 ^ 31) : uN (nI n) = n := nI_clamp h
/-- an int between two numbers -/
abbrev inR (x : Int32) (lo hi : Int) : Prop := lo ≤ x.toInt ∧ x.toInt ≤ hi
theorem inR_of {x : Int32} {hi : Int} (h : inR x 0 hi) : ∃ n : Nat, x = nI n ∧ (n : Int) ≤ hi ∧ n < 2 ^ 31 := by
  have hx := Int32.toInt_lt x
  refine ⟨x.toInt.toNat, Int32.toInt_inj.mp ?_, by have := h.1; have := h.2; omega, by have := h.1; omega⟩
  rw [nI_toInt (by have := h.1; omega)]
  have := h.1
  omega
theorem inR_nI {n : Nat} {lo hi : Int} (h : n < 2 ^ 31) : inR (nI n) lo hi ↔ lo ≤ (n : Int) ∧ (n : Int) ≤ hi := by
  unfold inR
  rw [nI_toInt h]
theorem i_le (a b : Int32) : a ≤ b ↔ a.toInt ≤ b.toInt := Int32.le_iff_toInt_le
theorem i_lt (a b : Int32) : a < b ↔ a.toInt < b.toInt := Int32.lt_iff_toInt_lt
theorem L_0 : (0 : Int32) = nI 0 := by decide
theorem L_1 : (1 : Int32) = nI 1 := by decide
theorem L_2 : (2 : Int32) = nI 2 := by decide
theorem L_3 : (3 : Int32) = nI 3 := by decide
theorem L_4 : (4 : Int32) = nI 4 := by decide
theorem L_5 : (5 : Int32) = nI 5 := by decide
theorem L_6 : (6 : Int32) = nI 6 := by decide
theorem L_7 : (7 : Int32) = nI 7 := by decide
theorem L_8 : (8 : Int32) = nI 8 := by decide
theorem L_9 : (9 : Int32) = nI 9 := by decide
theorem L_10 : (10 : Int32) = nI 10 := by decide
theorem L_11 : (11 : Int32) = nI 11 := by decide
theorem L_12 : (12 : Int32) = nI 12 := by decide
theorem L_13 : (13 : Int32) = nI 13 := by decide
theorem L_14 : (14 : Int32) = nI 14 := by decide
theorem L_15 : (15 : Int32) = nI 15 := by decide
theorem L_16 : (16 : Int32) = nI 16 := by decide
theorem L_17 : (17 : Int32) = nI 17 := by decide
theorem L_18 : (18 : Int32) = nI 18 := by decide
theorem L_19 : (19 : Int32) = nI 19 := by decide
theorem L_20 : (20 : Int32) = nI 20 := by decide
theorem L_21 : (21 : Int32) = nI 21 := by decide
theorem L_22 : (22 : Int32) = nI 22 := by decide
theorem L_23 : (23 : Int32) = nI 23 := by decide
theorem L_24 : (24 : Int32) = nI 24 := by decide
theorem L_25 : (25 : Int32) = nI 25 := by decide
theorem L_26 : (26 : Int32) = nI 26 := by decide
theorem L_27 : (27 : Int32) = nI 27 := by decide
theorem L_28 : (28 : Int32) = nI 28 := by decide
theorem L_29 : (29 : Int32) = nI 29 := by decide
theorem L_30 : (30 : Int32) = nI 30 := by decide
theorem L_31 : (31 : Int32) = nI 31 := by decide
theorem L_32 : (32 : Int32) = nI 32 := by decide
theorem L_33 : (33 : Int32) = nI 33 := by decide
theorem L_34 : (34 : Int32) = nI 34 := by decide
theorem L_35 : (35 : Int32) = nI 35 := by decide
theorem L_36 : (36 : Int32) = nI 36 := by decide
theorem L_37 : (37 : Int32) = nI 37 := by decide
theorem L_38 : (38 : Int32) = nI 38 := by decide
theorem L_39 : (39 : Int32) = nI 39 := by decide
theorem L_40 : (40 : Int32) = nI 40 := by decide
theorem L_48 : (48 : Int32) = nI 48 := by decide
theorem L_49 : (49 : Int32) = nI 49 := by decide
theorem L_50 : (50 : Int32) = nI 50 := by decide
theorem L_63 : (63 : Int32) = nI 63 := by decide
theorem L_72 : (72 : Int32) = nI 72 := by decide
theorem L_100 : (100 : Int32) = nI 100 := by decide
theorem L_143 : (143 : Int32) = nI 143 := by decide
theorem L_144 : (144 : Int32) = nI 144 := by decide
theorem L_200 : (200 : Int32) = nI 200 := by decide
theorem L_576 : (576 : Int32) = nI 576 := by decide
theorem L_1000 : (1000 : Int32) = nI 1000 := by decide
theorem L_1022 : (1022 : Int32) = nI 1022 := by decide
theorem L_1151 : (1151 : Int32) = nI 1151 := by decide
theorem L_1152 : (1152 : Int32) = nI 1152 := by decide
theorem L_1440 : (1440 : Int32) = nI 1440 := by decide
theorem L_5000 : (5000 : Int32) = nI 5000 := by decide
theorem L_10000 : (10000 : Int32) = nI 10000 := by decide
theorem L_1000000 : (1000000 : Int32) = nI 1000000 := by decide
theorem L_2147483647 : (2147483647 : Int32) = nI 2147483647 := by decide
theorem J_0 : (0 : Int64).toInt = 0 := by decide
theorem J_1 : (1 : Int64).toInt = 1 := by decide
theorem J_2 : (2 : Int64).toInt = 2 := by decide
theorem J_3 : (3 : Int64).toInt = 3 := by decide
theorem J_4 : (4 : Int64).toInt = 4 := by decide
theorem J_5 : (5 : Int64).toInt = 5 := by decide
theorem J_6 : (6 : Int64).toInt = 6 := by decide
theorem J_7 : (7 : Int64).toInt = 7 := by decide
theorem J_8 : (8 : Int64).toInt = 8 := by decide
theorem J_9 : (9 : Int64).toInt = 9 := by decide
theorem J_10 : (10 : Int64).toInt = 10 := by decide
theorem J_11 : (11 : Int64).toInt = 11 := by decide
theorem J_12 : (12 : Int64).toInt = 12 := by decide
theorem J_13 : (13 : Int64).toInt = 13 := by decide
theorem J_14 : (14 : Int64).toInt = 14 := by decide
theorem J_15 : (15 : Int64).toInt = 15 := by decide
theorem J_16 : (16 : Int64).toInt = 16 := by decide
theorem J_17 : (17 : Int64).toInt = 17 := by decide
theorem J_18 : (18 : Int64).toInt = 18 := by decide
theorem J_19 : (19 : Int64).toInt = 19 := by decide
theorem J_20 : (20 : Int64).toInt = 20 := by decide
theorem J_21 : (21 : Int64).toInt = 21 := by decide
theorem J_22 : (22 : Int64).toInt = 22 := by decide
theorem J_23 : (23 : Int64).toInt = 23 := by decide
theorem J_24 : (24 : Int64).toInt = 24 := by decide
theorem J_25 : (25 : Int64).toInt = 25 := by decide
theorem J_26 : (26 : Int64).toInt = 26 := by decide
theorem J_27 : (27 : Int64).toInt = 27 := by decide
theorem J_28 : (28 : Int64).toInt = 28 := by decide
theorem J_29 : (29 : Int64).toInt = 29 := by decide
theorem J_30 : (30 : Int64).toInt = 30 := by decide
theorem J_31 : (31 : Int64).toInt = 31 := by decide
theorem J_32 : (32 : Int64).toInt = 32 := by decide
theorem J_33 : (33 : Int64).toInt = 33 := by decide
theorem J_34 : (34 : Int64).toInt = 34 := by decide
theorem J_35 : (35 : Int64).toInt = 35 := by decide
theorem J_36 : (36 : Int64).toInt = 36 := by decide
theorem J_37 : (37 : Int64).toInt = 37 := by decide
theorem J_38 : (38 : Int64).toInt = 38 := by decide
theorem J_39 : (39 : Int64).toInt = 39 := by decide
theorem J_40 : (40 : Int64).toInt = 40 := by decide
theorem J_48 : (48 : Int64).toInt = 48 := by decide
theorem J_49 : (49 : Int64).toInt = 49 := by decide
theorem J_50 : (50 : Int64).toInt = 50 := by decide
theorem J_63 : (63 : Int64).toInt = 63 := by decide
theorem J_72 : (72 : Int64).toInt = 72 := by decide
theorem J_100 : (100 : Int64).toInt = 100 := by decide
theorem J_143 : (143 : Int64).toInt = 143 := by decide
theorem J_144 : (144 : Int64).toInt = 144 := by decide
theorem J_200 : (200 : Int64).toInt = 200 := by decide
theorem J_576 : (576 : Int64).toInt = 576 := by decide
theorem J_1000 : (1000 : Int64).toInt = 1000 := by decide
theorem J_1022 : (1022 : Int64).toInt = 1022 := by decide
theorem J_1151 : (1151 : Int64).toInt = 1151 := by decide
theorem J_1152 : (1152 : Int64).toInt = 1152 := by decide
theorem J_1440 : (1440 : Int64).toInt = 1440 := by decide
theorem J_5000 : (5000 : Int64).toInt = 5000 := by decide
theorem J_10000 : (10000 : Int64).toInt = 10000 := by decide
theorem J_1000000 : (1000000 : Int64).toInt = 1000000 := by decide
theorem J_2147483647 : (2147483647 : Int64).toInt = 2147483647 := by decide
/-- negative ints -/
def mI (n : Nat) : Int32 := - nI n
theorem ng_x (n : Nat) : - nI n = mI n := rfl
theorem N_1000000 : (mI 1000000).toInt = -1000000 := by decide
theorem N_1000001 : (mI 1000001).toInt = -1000001 := by decide
theorem N_1000002 : (mI 1000002).toInt = -1000002 := by decide
theorem N_1000003 : (mI 1000003).toInt = -1000003 := by decide
theorem N_1 : (mI 1).toInt = -1 := by decide
theorem N_1000010 : (mI 1000010).toInt = -1000010 := by decide
theorem mI_toInt {n : Nat} (h : n < 2 ^ 31) : (mI n).toInt = -(n : Int) := by
  unfold mI
  rw [Int32.toInt_neg, nI_toInt h]
  have h1 : (n : Int) < 2147483648 := by omega
  rw [Int.bmod_def]
  have h2 : ((2 ^ 32 : Nat) : Int) = 4294967296 := by decide
  rw [h2]
  by_cases g : -(n : Int) % 4294967296 < (4294967296 + 1) / 2
  · rw [if_pos g]; omega
  · rw [if_neg g]; omega
theorem nI_mI {a b : Nat} (ha : a < 2 ^ 31) (hb : b < 2 ^ 31) (h : 0 < b) : (nI a = mI b) = False := by
  apply eq_false
  intro e
  have := congrArg Int32.toInt e
  rw [nI_toInt ha, mI_toInt hb] at this
  omega
theorem mI_nI {a b : Nat} (ha : a < 2 ^ 31) (hb : b < 2 ^ 31) (h : 0 < b) : (mI b = nI a) = False := by
  rw [show (mI b = nI a) = (nI a = mI b) from propext ⟨Eq.symm, Eq.symm⟩]
  exact nI_mI ha hb h
theorem mI_mI {a b : Nat} (ha : a < 2 ^ 31) (hb : b < 2 ^ 31) : (mI a = mI b) = (a = b) := by
  apply propext
  constructor
  · intro e
    have := congrArg Int32.toInt e
    rw [mI_toInt ha, mI_toInt hb] at this
    omega
  · intro e; rw [e]
theorem mI_lt {b a : Nat} (hb : b < 2 ^ 31) (ha : a < 2 ^ 31) (h : 0 < b) : (mI b < nI a) = True := by
  apply eq_true
  rw [i_lt, mI_toInt hb, nI_toInt ha]
  omega
theorem nI_lm {b a : Nat} (hb : b < 2 ^ 31) (ha : a < 2 ^ 31) : (nI a < mI b) = False := by
  apply eq_false
  rw [i_lt, mI_toInt hb, nI_toInt ha]
  omega
theorem mI_le {b a : Nat} (hb : b < 2 ^ 31) (ha : a < 2 ^ 31) : (mI b ≤ nI a) = True := by
  apply eq_true
  rw [i_le, mI_toInt hb, nI_toInt ha]
  omega
theorem nI_em {b a : Nat} (hb : b < 2 ^ 31) (ha : a < 2 ^ 31) (h : 0 < b) : (nI a ≤ mI b) = False := by
  apply eq_false
  rw [i_le, mI_toInt hb, nI_toInt ha]
  omega
theorem nI_et {a b : Nat} (h : a = b) : (nI a = nI b) = True := by rw [h]; exact eq_self _
theorem nI_ef {a b : Nat} (ha : a < 2 ^ 31) (hb : b < 2 ^ 31) (h : a ≠ b) : (nI a = nI b) = False := eq_false (fun q => h ((nI_eq ha hb).mp q))
theorem nI_lt_t {a b : Nat} (hb : b < 2 ^ 31) (h : a < b) : (nI a < nI b) = True := eq_true (nI_lt h hb)
theorem nI_lt_f {a b : Nat} (ha : a < 2 ^ 31) (h : b ≤ a) : (nI a < nI b) = False := eq_false (nI_nlt h ha)
theorem nI_le_t {a b : Nat} (hb : b < 2 ^ 31) (h : a ≤ b) : (nI a ≤ nI b) = True := eq_true (nI_le h hb)
theorem nI_le_f {a b : Nat} (ha : a < 2 ^ 31) (h : b < a) : (nI a ≤ nI b) = False := eq_false (nI_ge h ha)
theorem inR_t {n : Nat} {lo hi : Int} (h : n < 2 ^ 31) (g : lo ≤ (n : Int) ∧ (n : Int) ≤ hi) : inR (nI n) lo hi = True := eq_true ((inR_nI h).mpr g)
theorem inR_f {n : Nat} {lo hi : Int} (h : n < 2 ^ 31) (g : ¬ (lo ≤ (n : Int) ∧ (n : Int) ≤ hi)) : inR (nI n) lo hi = False := eq_false (fun q => g ((inR_nI h).mp q))
theorem nI_pre {n : Nat} (h : n < 2 ^ 31) : (nI n - nI 1).toInt = (n : Int) - 1 := by
  rcases n with _ | n
  · decide
  · rw [show nI (n + 1) - nI 1 = nI n from nI_sub (by omega), nI_toInt (by omega)]
    omega
theorem b01 {c : Prop} [Decidable c] : ((if c then nI 1 else nI 0) = nI 0) = ¬ c := by
  by_cases h : c
  · rw [if_pos h]
    exact propext ⟨fun q => absurd q (by decide), fun q => absurd h q⟩
  · rw [if_neg h]
    exact propext ⟨fun _ => h, fun _ => rfl⟩
theorem nar_0 : vp_nar .boolean (nI 0) = nI 0 := by decide
theorem nar_1 : vp_nar .boolean (nI 1) = nI 1 := by decide
section Ex
variable {α β : Type}
theorem gI_x (c a k : Nat) (K : Int32 → Prg β) (S : St) : gI c a k K S = if fit c (sT S a) = true then K (sI S a k) S else none := rfl
theorem gF_x (c a k : Nat) (K : Option Nat → Prg β) (S : St) : gF c a k K S = if fit c (sT S a) = true then K (sF S a k) S else none := rfl
theorem pI_x (c a k : Nat) (v : Int32) (P : Prg β) (S : St) : pI c a k v P S = if fit c (sT S a) = true then P (wI S a k v) else none := rfl
theorem pF_x (c a k : Nat) (v : Option Nat) (P : Prg β) (S : St) : pF c a k v P S = if fit c (sT S a) = true then P (wF S a k v) else none := rfl
theorem pZ_x (c a k : Nat) (v : Int32) (P : Prg β) (S : St) : pZ c a k v P S = if fit c (sT S a) = true ∧ vp_nar .boolean v = v then P (wI S a k v) else none := rfl
theorem ldI_x (a : Nat) (i : Int32) (K : Int32 → Prg β) (S : St) : ldI a i K S = if sT S a = 20 ∧ inB i (sN S a) = true then K (sI S a (uN i)) S else none := rfl
theorem stI_x (a : Nat) (i v : Int32) (P : Prg β) (S : St) : stI a i v P S = if sT S a = 20 ∧ inB i (sN S a) = true then P (wI S a (uN i) v) else none := rfl
theorem ldZ_x (a : Nat) (i : Int32) (K : Int32 → Prg β) (S : St) : ldZ a i K S = if sT S a = 21 ∧ inB i (sN S a) = true then K (sI S a (uN i)) S else none := rfl
theorem stZ_x (a : Nat) (i v : Int32) (P : Prg β) (S : St) : stZ a i v P S = if sT S a = 21 ∧ inB i (sN S a) = true then P (wI S a (uN i) (vp_nar .boolean v)) else none := rfl
theorem ldJ_x (a : Nat) (i : Int32) (K : Int64 → Prg β) (S : St) : ldJ a i K S = if sT S a = 22 ∧ inB i (sN S a) = true then K (sJ S a (uN i)) S else none := rfl
theorem stJ_x (a : Nat) (i : Int32) (v : Int64) (P : Prg β) (S : St) : stJ a i v P S = if sT S a = 22 ∧ inB i (sN S a) = true then P (wJ S a (uN i) v) else none := rfl
theorem ldF_x (a : Nat) (i : Int32) (K : Option Nat → Prg β) (S : St) : ldF a i K S = if 23 ≤ sT S a ∧ sT S a ≤ 26 ∧ inB i (sN S a) = true then K (sF S a (uN i)) S else none := rfl
theorem stF_x (a : Nat) (i : Int32) (v : Option Nat) (P : Prg β) (S : St) : stF a i v P S = if 23 ≤ sT S a ∧ sT S a ≤ 25 ∧ inB i (sN S a) = true ∧ okSt S (sT S a) v = true then P (wF S a (uN i) v) else none := rfl
theorem ln_x (a : Nat) (K : Int32 → Prg β) (S : St) : ln a K S = if 20 ≤ sT S a ∧ sT S a ≤ 26 then K (nI (sN S a)) S else none := rfl
theorem nO_x (t : Nat) (K : Nat → Prg β) (S : St) : nO t K S = if 1 ≤ t ∧ t ≤ 11 then K (sX S) (nw S t 0 (nF (t - 1))) else none := rfl
theorem nA_x (t : Nat) (n : Int32) (K : Nat → Prg β) (S : St) : nA t n K S = if inB n 67108864 = true ∧ 20 ≤ t ∧ t ≤ 25 then K (sX S) (nw S t (uN n) (uN n)) else none := rfl
theorem onT_x (a t : Nat) (P : Prg α) (S : St) : onT a t P S = if sT S a = t then P S else none := rfl
theorem or2_x (a t : Nat) (P Q : Prg α) (S : St) : or2 a t P Q S = if sT S a = t then P S else Q S := rfl
theorem un_s (a : Nat) (K : Nat → Prg β) (S : St) : un (some a) K S = K a S := rfl
theorem nu_s (a : Nat) (P : Prg β) (K : Nat → Prg β) (S : St) : nu (some a) P K S = K a S := rfl
theorem nu_n (P : Prg β) (K : Nat → Prg β) (S : St) : nu none P K S = P S := rfl
theorem lt_x (k : α) (f : α → Prg β) (S : St) : lt k f S = f k S := rfl
theorem rt_x (x : β) (S : St) : rt x S = some (x, S) := rfl
theorem cl_x (P : Prg α) (K : α → Prg β) (S : St) : cl P K S = (P S).bind (fun q => K q.1 q.2) := by
  unfold cl
  cases P S <;> rfl
theorem rtZ_x (x : Int32) (S : St) : rtZ x S = if vp_nar .boolean x = x then some (x, S) else none := rfl
theorem iO_s (c a : Nat) (K : Int32 → Prg β) (S : St) : iO c (some a) K S = if fit 12 (sT S a) = true ∧ (c = 3 ∨ c = 4) then (if fit c (sT S a) = true then K 1 S else K 0 S) else none := rfl
theorem iO_n (c : Nat) (K : Int32 → Prg β) (S : St) : iO c none K S = K 0 S := rfl
theorem cO_x (c a : Nat) (P : Prg β) (S : St) : cO c a P S = if fit c (sT S a) = true then P S else none := rfl
theorem dv_x (x y : Int32) (K : Int32 → Prg β) (S : St) : dv x y K S = if y = 0 then none else K (x / y) S := by
  unfold dv
  split <;> rfl
theorem rm_x (x y : Int32) (K : Int32 → Prg β) (S : St) : rm x y K S = if y = 0 then none else K (x - x / y * y) S := by
  unfold rm
  split <;> rfl
theorem fl_x (S : St) : (fl : Prg β) S = none := rfl
theorem below_x (a b : Int32) (S : St) : pX10_below a b S = some (if inR a 0 (b.toInt - 1) then nI 1 else nI 0, S) := by
  rw [below_e]
  congr 2
  have h : (0 ≤ a ∧ a < b) ↔ inR a 0 (b.toInt - 1) := by
    unfold inR
    rw [i_le, i_lt]
    have : (0 : Int32).toInt = 0 := by decide
    omega
  by_cases g : inR a 0 (b.toInt - 1)
  · rw [if_pos g, if_pos (h.mpr g)]; rfl
  · rw [if_neg g, if_neg (fun q => g (h.mp q))]; rfl
theorem among_x (a b c : Int32) (S : St) : pX10_among a b c S = some (if inR a b.toInt c.toInt then nI 1 else nI 0, S) := by
  rw [among_e]
  congr 2
  have h : (b ≤ a ∧ a ≤ c) ↔ inR a b.toInt c.toInt := by
    unfold inR
    rw [i_le, i_le]
  by_cases g : inR a b.toInt c.toInt
  · rw [if_pos g, if_pos (h.mpr g)]; rfl
  · rw [if_neg g, if_neg (fun q => g (h.mp q))]; rfl
theorem in_x (a : Int32) (b c : Int64) (S : St) : pX11_in a.toInt64 b c S = some (if inR a b.toInt c.toInt then nI 1 else nI 0, S) := by
  rw [in_e]
  congr 2
  have h : (b ≤ a.toInt64 ∧ a.toInt64 ≤ c) ↔ inR a b.toInt c.toInt := by
    unfold inR
    rw [Int64.le_iff_toInt_le, Int64.le_iff_toInt_le, Int32.toInt_toInt64]
  by_cases g : inR a b.toInt c.toInt
  · rw [if_pos g, if_pos (h.mpr g)]; rfl
  · rw [if_neg g, if_neg (fun q => g (h.mp q))]; rfl
theorem l_toInt (a : Int32) : (Int32.toInt64 a).toInt = a.toInt := Int32.toInt_toInt64 a
theorem inB_x {n N : Nat} (h : n < N) (hN : N < 2 ^ 31) : inB (nI n) N = true := inB_nI h hN
theorem ite_bind {c : Prop} [Decidable c] (a b : Option (α × St)) (f : α × St → Option (β × St)) : (if c then a else b).bind f = if c then a.bind f else b.bind f := by split <;> rfl
theorem bind_id (o : Option (α × St)) : (o.bind fun q => some (q.1, q.2)) = o := by cases o <;> rfl
theorem wI_se (S : St) (a k : Nat) (v : Int32) : sI (wI S a k v) a k = v := wI_same S a k v
theorem wI_ne (S : St) (a k : Nat) (v : Int32) {b j : Nat} (h : b ≠ a ∨ j ≠ k) : sI (wI S a k v) b j = sI S b j := by rw [wI_I, if_neg (by omega)]
theorem wJ_se (S : St) (a k : Nat) (v : Int64) : sJ (wJ S a k v) a k = v := by rw [wJ_J]; simp
theorem wJ_ne (S : St) (a k : Nat) (v : Int64) {b j : Nat} (h : b ≠ a ∨ j ≠ k) : sJ (wJ S a k v) b j = sJ S b j := by rw [wJ_J, if_neg (by omega)]
theorem wF_se (S : St) (a k : Nat) (v : Option Nat) : sF (wF S a k v) a k = v := by rw [wF_F]; simp
theorem wF_ne (S : St) (a k : Nat) (v : Option Nat) {b j : Nat} (h : b ≠ a ∨ j ≠ k) : sF (wF S a k v) b j = sF S b j := by rw [wF_F, if_neg (by omega)]
theorem nw_Te {S : St} {t n k b : Nat} (h : b = sX S) : sT (nw S t n k) b = t := by rw [nw_Tb, if_pos h]
theorem nw_Tn {S : St} {t n k b : Nat} (h : b ≠ sX S) : sT (nw S t n k) b = sT S b := by rw [nw_Tb, if_neg h]
theorem nw_Ne {S : St} {t n k b : Nat} (h : b = sX S) : sN (nw S t n k) b = n := by rw [nw_Nb, if_pos h]
theorem nw_Nn {S : St} {t n k b : Nat} (h : b ≠ sX S) : sN (nw S t n k) b = sN S b := by rw [nw_Nb, if_neg h]
theorem nw_In {S : St} {t n k b : Nat} (h : b ≠ sX S) : sI (nw S t n k) b = sI S b := va_up_ne _ _ h
theorem nw_Jn {S : St} {t n k b : Nat} (h : b ≠ sX S) : sJ (nw S t n k) b = sJ S b := va_up_ne _ _ h
theorem nw_Fn {S : St} {t n k b : Nat} (h : b ≠ sX S) : sF (nw S t n k) b = sF S b := va_up_ne _ _ h
end Ex
theorem fit_1_1 : fit 1 1 = true := rfl
theorem fit_2_2 : fit 2 2 = true := rfl
theorem fit_3_3 : fit 3 3 = true := rfl
theorem fit_4_4 : fit 4 4 = true := rfl
theorem fit_5_5 : fit 5 5 = true := rfl
theorem fit_6_6 : fit 6 6 = true := rfl
theorem fit_7_7 : fit 7 7 = true := rfl
theorem fit_8_8 : fit 8 8 = true := rfl
theorem fit_9_9 : fit 9 9 = true := rfl
theorem fit_10_10 : fit 10 10 = true := rfl
theorem fit_11_11 : fit 11 11 = true := rfl
theorem fit_4_1 : fit 4 1 = true := rfl
theorem fit_4_5 : fit 4 5 = true := rfl
theorem fit_1_5 : fit 1 5 = true := rfl
theorem fit_12_1 : fit 12 1 = true := rfl
theorem fit_12_3 : fit 12 3 = true := rfl
theorem fit_12_4 : fit 12 4 = true := rfl
theorem fit_12_5 : fit 12 5 = true := rfl
theorem fit_3_1 : fit 3 1 = false := rfl
theorem fit_3_4 : fit 3 4 = false := rfl
theorem fit_3_5 : fit 3 5 = false := rfl
theorem fit_4_3 : fit 4 3 = false := rfl
theorem fit_1_4 : fit 1 4 = false := rfl
theorem fit_1_3 : fit 1 3 = false := rfl
def rkT : List (Nat × Nat) := [(11, 0), (20, 8), (20, 8), (22, 1152), (20, 10), (20, 10), (20, 10), (20, 1440), (20, 10), (20, 40), (21, 1440), (20, 200), (20, 10), (20, 10), (20, 10), (20, 16), (20, 144), (20, 144), (20, 144), (20, 144), (21, 144), (20, 8), (20, 8), (20, 8), (20, 8), (20, 8), (20, 3), (20, 8), (20, 22), (20, 6), (20, 12), (20, 12), (20, 12), (20, 72), (20, 6), (20, 6), (20, 49152), (20, 12)]
def rkF : List (Nat × Nat) := [(2, 1), (3, 2), (4, 3), (5, 4), (6, 5), (7, 6), (8, 7), (9, 8), (10, 9), (11, 10), (12, 11), (13, 12), (14, 13), (15, 14), (16, 15), (18, 16), (19, 17), (20, 18), (21, 19), (22, 20), (25, 21), (26, 22), (27, 23), (28, 24), (29, 25), (30, 26), (31, 27), (32, 28), (34, 29), (36, 30), (37, 31), (38, 32), (40, 33), (41, 34), (42, 35), (43, 36), (44, 37)]
def ckT : List (Nat × Nat) := [(10, 0), (23, 8), (24, 10), (9, 0), (20, 16), (2, 0), (20, 144), (20, 576), (20, 144), (20, 144), (20, 144), (20, 144), (7, 0), (20, 8), (20, 8), (20, 8), (25, 8), (20, 8), (20, 8), (20, 3), (6, 0), (20, 6), (20, 12), (20, 12), (20, 12), (26, 6), (20, 12), (20, 12), (20, 12), (20, 12), (20, 12), (20, 12), (20, 6), (20, 6)]
def ckF : List (Nat × Nat × Nat) := [(0, 0, 1), (0, 1, 2), (0, 2, 3), (0, 3, 5), (0, 4, 12), (0, 5, 20), (3, 0, 4), (5, 0, 6), (5, 1, 7), (5, 2, 8), (5, 3, 9), (5, 4, 10), (5, 5, 11), (12, 0, 13), (12, 1, 14), (12, 2, 15), (12, 3, 16), (12, 5, 17), (12, 6, 18), (12, 7, 19), (20, 0, 21), (20, 1, 22), (20, 2, 23), (20, 3, 24), (20, 4, 25), (20, 5, 32), (20, 6, 33), (25, 0, 26), (25, 1, 27), (25, 2, 28), (25, 3, 29), (25, 4, 30), (25, 5, 31)]
/-- the reference's memory: what stands where, for good -/
def RK (X : Nat) (R : St) : Prop := (∀ (k : Nat) (q : Nat × Nat), rkT[k]? = some q → sT R (X + 34 + k) = q.1 ∧ sN R (X + 34 + k) = q.2) ∧ (∀ (k : Nat) (q : Nat × Nat), rkF[k]? = some q → sF R (X + 34) q.1 = some (X + 34 + q.2)) ∧ ∀ a, sT R a ≠ 0 → X + 34 ≤ a ∧ a < X + 72
/-- the class's memory: what its constructor made -/
def CK (X : Nat) (C : St) : Prop := (∀ (k : Nat) (q : Nat × Nat), ckT[k]? = some q → sT C (X + k) = q.1 ∧ sN C (X + k) = q.2) ∧ (∀ (k : Nat) (q : Nat × Nat × Nat), ckF[k]? = some q → sF C (X + q.1) q.2.1 = some (X + q.2.2)) ∧ ∀ a, X + 34 ≤ a → a < X + 72 → sT C a = 0
theorem RK.t34 {X : Nat} {R : St} (h : RK X R) : sT R (X + 34) = 11 := (h.1 0 _ rfl).1
theorem RK.t35 {X : Nat} {R : St} (h : RK X R) : sT R (X + 35) = 20 := (h.1 1 _ rfl).1
theorem RK.n35 {X : Nat} {R : St} (h : RK X R) : sN R (X + 35) = 8 := (h.1 1 _ rfl).2
theorem RK.t36 {X : Nat} {R : St} (h : RK X R) : sT R (X + 36) = 20 := (h.1 2 _ rfl).1
theorem RK.n36 {X : Nat} {R : St} (h : RK X R) : sN R (X + 36) = 8 := (h.1 2 _ rfl).2
theorem RK.t37 {X : Nat} {R : St} (h : RK X R) : sT R (X + 37) = 22 := (h.1 3 _ rfl).1
theorem RK.n37 {X : Nat} {R : St} (h : RK X R) : sN R (X + 37) = 1152 := (h.1 3 _ rfl).2
theorem RK.t38 {X : Nat} {R : St} (h : RK X R) : sT R (X + 38) = 20 := (h.1 4 _ rfl).1
theorem RK.n38 {X : Nat} {R : St} (h : RK X R) : sN R (X + 38) = 10 := (h.1 4 _ rfl).2
theorem RK.t39 {X : Nat} {R : St} (h : RK X R) : sT R (X + 39) = 20 := (h.1 5 _ rfl).1
theorem RK.n39 {X : Nat} {R : St} (h : RK X R) : sN R (X + 39) = 10 := (h.1 5 _ rfl).2
theorem RK.t40 {X : Nat} {R : St} (h : RK X R) : sT R (X + 40) = 20 := (h.1 6 _ rfl).1
theorem RK.n40 {X : Nat} {R : St} (h : RK X R) : sN R (X + 40) = 10 := (h.1 6 _ rfl).2
theorem RK.t41 {X : Nat} {R : St} (h : RK X R) : sT R (X + 41) = 20 := (h.1 7 _ rfl).1
theorem RK.n41 {X : Nat} {R : St} (h : RK X R) : sN R (X + 41) = 1440 := (h.1 7 _ rfl).2
theorem RK.t42 {X : Nat} {R : St} (h : RK X R) : sT R (X + 42) = 20 := (h.1 8 _ rfl).1
theorem RK.n42 {X : Nat} {R : St} (h : RK X R) : sN R (X + 42) = 10 := (h.1 8 _ rfl).2
theorem RK.t43 {X : Nat} {R : St} (h : RK X R) : sT R (X + 43) = 20 := (h.1 9 _ rfl).1
theorem RK.n43 {X : Nat} {R : St} (h : RK X R) : sN R (X + 43) = 40 := (h.1 9 _ rfl).2
theorem RK.t44 {X : Nat} {R : St} (h : RK X R) : sT R (X + 44) = 21 := (h.1 10 _ rfl).1
theorem RK.n44 {X : Nat} {R : St} (h : RK X R) : sN R (X + 44) = 1440 := (h.1 10 _ rfl).2
theorem RK.t45 {X : Nat} {R : St} (h : RK X R) : sT R (X + 45) = 20 := (h.1 11 _ rfl).1
theorem RK.n45 {X : Nat} {R : St} (h : RK X R) : sN R (X + 45) = 200 := (h.1 11 _ rfl).2
theorem RK.t46 {X : Nat} {R : St} (h : RK X R) : sT R (X + 46) = 20 := (h.1 12 _ rfl).1
theorem RK.n46 {X : Nat} {R : St} (h : RK X R) : sN R (X + 46) = 10 := (h.1 12 _ rfl).2
theorem RK.t47 {X : Nat} {R : St} (h : RK X R) : sT R (X + 47) = 20 := (h.1 13 _ rfl).1
theorem RK.n47 {X : Nat} {R : St} (h : RK X R) : sN R (X + 47) = 10 := (h.1 13 _ rfl).2
theorem RK.t48 {X : Nat} {R : St} (h : RK X R) : sT R (X + 48) = 20 := (h.1 14 _ rfl).1
theorem RK.n48 {X : Nat} {R : St} (h : RK X R) : sN R (X + 48) = 10 := (h.1 14 _ rfl).2
theorem RK.t49 {X : Nat} {R : St} (h : RK X R) : sT R (X + 49) = 20 := (h.1 15 _ rfl).1
theorem RK.n49 {X : Nat} {R : St} (h : RK X R) : sN R (X + 49) = 16 := (h.1 15 _ rfl).2
theorem RK.t50 {X : Nat} {R : St} (h : RK X R) : sT R (X + 50) = 20 := (h.1 16 _ rfl).1
theorem RK.n50 {X : Nat} {R : St} (h : RK X R) : sN R (X + 50) = 144 := (h.1 16 _ rfl).2
theorem RK.t51 {X : Nat} {R : St} (h : RK X R) : sT R (X + 51) = 20 := (h.1 17 _ rfl).1
theorem RK.n51 {X : Nat} {R : St} (h : RK X R) : sN R (X + 51) = 144 := (h.1 17 _ rfl).2
theorem RK.t52 {X : Nat} {R : St} (h : RK X R) : sT R (X + 52) = 20 := (h.1 18 _ rfl).1
theorem RK.n52 {X : Nat} {R : St} (h : RK X R) : sN R (X + 52) = 144 := (h.1 18 _ rfl).2
theorem RK.t53 {X : Nat} {R : St} (h : RK X R) : sT R (X + 53) = 20 := (h.1 19 _ rfl).1
theorem RK.n53 {X : Nat} {R : St} (h : RK X R) : sN R (X + 53) = 144 := (h.1 19 _ rfl).2
theorem RK.t54 {X : Nat} {R : St} (h : RK X R) : sT R (X + 54) = 21 := (h.1 20 _ rfl).1
theorem RK.n54 {X : Nat} {R : St} (h : RK X R) : sN R (X + 54) = 144 := (h.1 20 _ rfl).2
theorem RK.t55 {X : Nat} {R : St} (h : RK X R) : sT R (X + 55) = 20 := (h.1 21 _ rfl).1
theorem RK.n55 {X : Nat} {R : St} (h : RK X R) : sN R (X + 55) = 8 := (h.1 21 _ rfl).2
theorem RK.t56 {X : Nat} {R : St} (h : RK X R) : sT R (X + 56) = 20 := (h.1 22 _ rfl).1
theorem RK.n56 {X : Nat} {R : St} (h : RK X R) : sN R (X + 56) = 8 := (h.1 22 _ rfl).2
theorem RK.t57 {X : Nat} {R : St} (h : RK X R) : sT R (X + 57) = 20 := (h.1 23 _ rfl).1
theorem RK.n57 {X : Nat} {R : St} (h : RK X R) : sN R (X + 57) = 8 := (h.1 23 _ rfl).2
theorem RK.t58 {X : Nat} {R : St} (h : RK X R) : sT R (X + 58) = 20 := (h.1 24 _ rfl).1
theorem RK.n58 {X : Nat} {R : St} (h : RK X R) : sN R (X + 58) = 8 := (h.1 24 _ rfl).2
theorem RK.t59 {X : Nat} {R : St} (h : RK X R) : sT R (X + 59) = 20 := (h.1 25 _ rfl).1
theorem RK.n59 {X : Nat} {R : St} (h : RK X R) : sN R (X + 59) = 8 := (h.1 25 _ rfl).2
theorem RK.t60 {X : Nat} {R : St} (h : RK X R) : sT R (X + 60) = 20 := (h.1 26 _ rfl).1
theorem RK.n60 {X : Nat} {R : St} (h : RK X R) : sN R (X + 60) = 3 := (h.1 26 _ rfl).2
theorem RK.t61 {X : Nat} {R : St} (h : RK X R) : sT R (X + 61) = 20 := (h.1 27 _ rfl).1
theorem RK.n61 {X : Nat} {R : St} (h : RK X R) : sN R (X + 61) = 8 := (h.1 27 _ rfl).2
theorem RK.t62 {X : Nat} {R : St} (h : RK X R) : sT R (X + 62) = 20 := (h.1 28 _ rfl).1
theorem RK.n62 {X : Nat} {R : St} (h : RK X R) : sN R (X + 62) = 22 := (h.1 28 _ rfl).2
theorem RK.t63 {X : Nat} {R : St} (h : RK X R) : sT R (X + 63) = 20 := (h.1 29 _ rfl).1
theorem RK.n63 {X : Nat} {R : St} (h : RK X R) : sN R (X + 63) = 6 := (h.1 29 _ rfl).2
theorem RK.t64 {X : Nat} {R : St} (h : RK X R) : sT R (X + 64) = 20 := (h.1 30 _ rfl).1
theorem RK.n64 {X : Nat} {R : St} (h : RK X R) : sN R (X + 64) = 12 := (h.1 30 _ rfl).2
theorem RK.t65 {X : Nat} {R : St} (h : RK X R) : sT R (X + 65) = 20 := (h.1 31 _ rfl).1
theorem RK.n65 {X : Nat} {R : St} (h : RK X R) : sN R (X + 65) = 12 := (h.1 31 _ rfl).2
theorem RK.t66 {X : Nat} {R : St} (h : RK X R) : sT R (X + 66) = 20 := (h.1 32 _ rfl).1
theorem RK.n66 {X : Nat} {R : St} (h : RK X R) : sN R (X + 66) = 12 := (h.1 32 _ rfl).2
theorem RK.t67 {X : Nat} {R : St} (h : RK X R) : sT R (X + 67) = 20 := (h.1 33 _ rfl).1
theorem RK.n67 {X : Nat} {R : St} (h : RK X R) : sN R (X + 67) = 72 := (h.1 33 _ rfl).2
theorem RK.t68 {X : Nat} {R : St} (h : RK X R) : sT R (X + 68) = 20 := (h.1 34 _ rfl).1
theorem RK.n68 {X : Nat} {R : St} (h : RK X R) : sN R (X + 68) = 6 := (h.1 34 _ rfl).2
theorem RK.t69 {X : Nat} {R : St} (h : RK X R) : sT R (X + 69) = 20 := (h.1 35 _ rfl).1
theorem RK.n69 {X : Nat} {R : St} (h : RK X R) : sN R (X + 69) = 6 := (h.1 35 _ rfl).2
theorem RK.t70 {X : Nat} {R : St} (h : RK X R) : sT R (X + 70) = 20 := (h.1 36 _ rfl).1
theorem RK.n70 {X : Nat} {R : St} (h : RK X R) : sN R (X + 70) = 49152 := (h.1 36 _ rfl).2
theorem RK.t71 {X : Nat} {R : St} (h : RK X R) : sT R (X + 71) = 20 := (h.1 37 _ rfl).1
theorem RK.n71 {X : Nat} {R : St} (h : RK X R) : sN R (X + 71) = 12 := (h.1 37 _ rfl).2
theorem RK.f2 {X : Nat} {R : St} (h : RK X R) : sF R (X + 34) 2 = some (X + 35) := h.2.1 0 _ rfl
theorem RK.f3 {X : Nat} {R : St} (h : RK X R) : sF R (X + 34) 3 = some (X + 36) := h.2.1 1 _ rfl
theorem RK.f4 {X : Nat} {R : St} (h : RK X R) : sF R (X + 34) 4 = some (X + 37) := h.2.1 2 _ rfl
theorem RK.f5 {X : Nat} {R : St} (h : RK X R) : sF R (X + 34) 5 = some (X + 38) := h.2.1 3 _ rfl
theorem RK.f6 {X : Nat} {R : St} (h : RK X R) : sF R (X + 34) 6 = some (X + 39) := h.2.1 4 _ rfl
theorem RK.f7 {X : Nat} {R : St} (h : RK X R) : sF R (X + 34) 7 = some (X + 40) := h.2.1 5 _ rfl
theorem RK.f8 {X : Nat} {R : St} (h : RK X R) : sF R (X + 34) 8 = some (X + 41) := h.2.1 6 _ rfl
theorem RK.f9 {X : Nat} {R : St} (h : RK X R) : sF R (X + 34) 9 = some (X + 42) := h.2.1 7 _ rfl
theorem RK.f10 {X : Nat} {R : St} (h : RK X R) : sF R (X + 34) 10 = some (X + 43) := h.2.1 8 _ rfl
theorem RK.f11 {X : Nat} {R : St} (h : RK X R) : sF R (X + 34) 11 = some (X + 44) := h.2.1 9 _ rfl
theorem RK.f12 {X : Nat} {R : St} (h : RK X R) : sF R (X + 34) 12 = some (X + 45) := h.2.1 10 _ rfl
theorem RK.f13 {X : Nat} {R : St} (h : RK X R) : sF R (X + 34) 13 = some (X + 46) := h.2.1 11 _ rfl
theorem RK.f14 {X : Nat} {R : St} (h : RK X R) : sF R (X + 34) 14 = some (X + 47) := h.2.1 12 _ rfl
theorem RK.f15 {X : Nat} {R : St} (h : RK X R) : sF R (X + 34) 15 = some (X + 48) := h.2.1 13 _ rfl
theorem RK.f16 {X : Nat} {R : St} (h : RK X R) : sF R (X + 34) 16 = some (X + 49) := h.2.1 14 _ rfl
theorem RK.f18 {X : Nat} {R : St} (h : RK X R) : sF R (X + 34) 18 = some (X + 50) := h.2.1 15 _ rfl
theorem RK.f19 {X : Nat} {R : St} (h : RK X R) : sF R (X + 34) 19 = some (X + 51) := h.2.1 16 _ rfl
theorem RK.f20 {X : Nat} {R : St} (h : RK X R) : sF R (X + 34) 20 = some (X + 52) := h.2.1 17 _ rfl
theorem RK.f21 {X : Nat} {R : St} (h : RK X R) : sF R (X + 34) 21 = some (X + 53) := h.2.1 18 _ rfl
theorem RK.f22 {X : Nat} {R : St} (h : RK X R) : sF R (X + 34) 22 = some (X + 54) := h.2.1 19 _ rfl
theorem RK.f25 {X : Nat} {R : St} (h : RK X R) : sF R (X + 34) 25 = some (X + 55) := h.2.1 20 _ rfl
theorem RK.f26 {X : Nat} {R : St} (h : RK X R) : sF R (X + 34) 26 = some (X + 56) := h.2.1 21 _ rfl
theorem RK.f27 {X : Nat} {R : St} (h : RK X R) : sF R (X + 34) 27 = some (X + 57) := h.2.1 22 _ rfl
theorem RK.f28 {X : Nat} {R : St} (h : RK X R) : sF R (X + 34) 28 = some (X + 58) := h.2.1 23 _ rfl
theorem RK.f29 {X : Nat} {R : St} (h : RK X R) : sF R (X + 34) 29 = some (X + 59) := h.2.1 24 _ rfl
theorem RK.f30 {X : Nat} {R : St} (h : RK X R) : sF R (X + 34) 30 = some (X + 60) := h.2.1 25 _ rfl
theorem RK.f31 {X : Nat} {R : St} (h : RK X R) : sF R (X + 34) 31 = some (X + 61) := h.2.1 26 _ rfl
theorem RK.f32 {X : Nat} {R : St} (h : RK X R) : sF R (X + 34) 32 = some (X + 62) := h.2.1 27 _ rfl
theorem RK.f34 {X : Nat} {R : St} (h : RK X R) : sF R (X + 34) 34 = some (X + 63) := h.2.1 28 _ rfl
theorem RK.f36 {X : Nat} {R : St} (h : RK X R) : sF R (X + 34) 36 = some (X + 64) := h.2.1 29 _ rfl
theorem RK.f37 {X : Nat} {R : St} (h : RK X R) : sF R (X + 34) 37 = some (X + 65) := h.2.1 30 _ rfl
theorem RK.f38 {X : Nat} {R : St} (h : RK X R) : sF R (X + 34) 38 = some (X + 66) := h.2.1 31 _ rfl
theorem RK.f40 {X : Nat} {R : St} (h : RK X R) : sF R (X + 34) 40 = some (X + 67) := h.2.1 32 _ rfl
theorem RK.f41 {X : Nat} {R : St} (h : RK X R) : sF R (X + 34) 41 = some (X + 68) := h.2.1 33 _ rfl
theorem RK.f42 {X : Nat} {R : St} (h : RK X R) : sF R (X + 34) 42 = some (X + 69) := h.2.1 34 _ rfl
theorem RK.f43 {X : Nat} {R : St} (h : RK X R) : sF R (X + 34) 43 = some (X + 70) := h.2.1 35 _ rfl
theorem RK.f44 {X : Nat} {R : St} (h : RK X R) : sF R (X + 34) 44 = some (X + 71) := h.2.1 36 _ rfl
theorem CK.t0 {X : Nat} {C : St} (h : CK X C) : sT C (X) = 10 := (h.1 0 _ rfl).1
theorem CK.t1 {X : Nat} {C : St} (h : CK X C) : sT C (X + 1) = 23 := (h.1 1 _ rfl).1
theorem CK.n1 {X : Nat} {C : St} (h : CK X C) : sN C (X + 1) = 8 := (h.1 1 _ rfl).2
theorem CK.t2 {X : Nat} {C : St} (h : CK X C) : sT C (X + 2) = 24 := (h.1 2 _ rfl).1
theorem CK.n2 {X : Nat} {C : St} (h : CK X C) : sN C (X + 2) = 10 := (h.1 2 _ rfl).2
theorem CK.t3 {X : Nat} {C : St} (h : CK X C) : sT C (X + 3) = 9 := (h.1 3 _ rfl).1
theorem CK.t4 {X : Nat} {C : St} (h : CK X C) : sT C (X + 4) = 20 := (h.1 4 _ rfl).1
theorem CK.n4 {X : Nat} {C : St} (h : CK X C) : sN C (X + 4) = 16 := (h.1 4 _ rfl).2
theorem CK.t5 {X : Nat} {C : St} (h : CK X C) : sT C (X + 5) = 2 := (h.1 5 _ rfl).1
theorem CK.t6 {X : Nat} {C : St} (h : CK X C) : sT C (X + 6) = 20 := (h.1 6 _ rfl).1
theorem CK.n6 {X : Nat} {C : St} (h : CK X C) : sN C (X + 6) = 144 := (h.1 6 _ rfl).2
theorem CK.t7 {X : Nat} {C : St} (h : CK X C) : sT C (X + 7) = 20 := (h.1 7 _ rfl).1
theorem CK.n7 {X : Nat} {C : St} (h : CK X C) : sN C (X + 7) = 576 := (h.1 7 _ rfl).2
theorem CK.t8 {X : Nat} {C : St} (h : CK X C) : sT C (X + 8) = 20 := (h.1 8 _ rfl).1
theorem CK.n8 {X : Nat} {C : St} (h : CK X C) : sN C (X + 8) = 144 := (h.1 8 _ rfl).2
theorem CK.t9 {X : Nat} {C : St} (h : CK X C) : sT C (X + 9) = 20 := (h.1 9 _ rfl).1
theorem CK.n9 {X : Nat} {C : St} (h : CK X C) : sN C (X + 9) = 144 := (h.1 9 _ rfl).2
theorem CK.t10 {X : Nat} {C : St} (h : CK X C) : sT C (X + 10) = 20 := (h.1 10 _ rfl).1
theorem CK.n10 {X : Nat} {C : St} (h : CK X C) : sN C (X + 10) = 144 := (h.1 10 _ rfl).2
theorem CK.t11 {X : Nat} {C : St} (h : CK X C) : sT C (X + 11) = 20 := (h.1 11 _ rfl).1
theorem CK.n11 {X : Nat} {C : St} (h : CK X C) : sN C (X + 11) = 144 := (h.1 11 _ rfl).2
theorem CK.t12 {X : Nat} {C : St} (h : CK X C) : sT C (X + 12) = 7 := (h.1 12 _ rfl).1
theorem CK.t13 {X : Nat} {C : St} (h : CK X C) : sT C (X + 13) = 20 := (h.1 13 _ rfl).1
theorem CK.n13 {X : Nat} {C : St} (h : CK X C) : sN C (X + 13) = 8 := (h.1 13 _ rfl).2
theorem CK.t14 {X : Nat} {C : St} (h : CK X C) : sT C (X + 14) = 20 := (h.1 14 _ rfl).1
theorem CK.n14 {X : Nat} {C : St} (h : CK X C) : sN C (X + 14) = 8 := (h.1 14 _ rfl).2
theorem CK.t15 {X : Nat} {C : St} (h : CK X C) : sT C (X + 15) = 20 := (h.1 15 _ rfl).1
theorem CK.n15 {X : Nat} {C : St} (h : CK X C) : sN C (X + 15) = 8 := (h.1 15 _ rfl).2
theorem CK.t16 {X : Nat} {C : St} (h : CK X C) : sT C (X + 16) = 25 := (h.1 16 _ rfl).1
theorem CK.n16 {X : Nat} {C : St} (h : CK X C) : sN C (X + 16) = 8 := (h.1 16 _ rfl).2
theorem CK.t17 {X : Nat} {C : St} (h : CK X C) : sT C (X + 17) = 20 := (h.1 17 _ rfl).1
theorem CK.n17 {X : Nat} {C : St} (h : CK X C) : sN C (X + 17) = 8 := (h.1 17 _ rfl).2
theorem CK.t18 {X : Nat} {C : St} (h : CK X C) : sT C (X + 18) = 20 := (h.1 18 _ rfl).1
theorem CK.n18 {X : Nat} {C : St} (h : CK X C) : sN C (X + 18) = 8 := (h.1 18 _ rfl).2
theorem CK.t19 {X : Nat} {C : St} (h : CK X C) : sT C (X + 19) = 20 := (h.1 19 _ rfl).1
theorem CK.n19 {X : Nat} {C : St} (h : CK X C) : sN C (X + 19) = 3 := (h.1 19 _ rfl).2
theorem CK.t20 {X : Nat} {C : St} (h : CK X C) : sT C (X + 20) = 6 := (h.1 20 _ rfl).1
theorem CK.t21 {X : Nat} {C : St} (h : CK X C) : sT C (X + 21) = 20 := (h.1 21 _ rfl).1
theorem CK.n21 {X : Nat} {C : St} (h : CK X C) : sN C (X + 21) = 6 := (h.1 21 _ rfl).2
theorem CK.t22 {X : Nat} {C : St} (h : CK X C) : sT C (X + 22) = 20 := (h.1 22 _ rfl).1
theorem CK.n22 {X : Nat} {C : St} (h : CK X C) : sN C (X + 22) = 12 := (h.1 22 _ rfl).2
theorem CK.t23 {X : Nat} {C : St} (h : CK X C) : sT C (X + 23) = 20 := (h.1 23 _ rfl).1
theorem CK.n23 {X : Nat} {C : St} (h : CK X C) : sN C (X + 23) = 12 := (h.1 23 _ rfl).2
theorem CK.t24 {X : Nat} {C : St} (h : CK X C) : sT C (X + 24) = 20 := (h.1 24 _ rfl).1
theorem CK.n24 {X : Nat} {C : St} (h : CK X C) : sN C (X + 24) = 12 := (h.1 24 _ rfl).2
theorem CK.t25 {X : Nat} {C : St} (h : CK X C) : sT C (X + 25) = 26 := (h.1 25 _ rfl).1
theorem CK.n25 {X : Nat} {C : St} (h : CK X C) : sN C (X + 25) = 6 := (h.1 25 _ rfl).2
theorem CK.t26 {X : Nat} {C : St} (h : CK X C) : sT C (X + 26) = 20 := (h.1 26 _ rfl).1
theorem CK.n26 {X : Nat} {C : St} (h : CK X C) : sN C (X + 26) = 12 := (h.1 26 _ rfl).2
theorem CK.t27 {X : Nat} {C : St} (h : CK X C) : sT C (X + 27) = 20 := (h.1 27 _ rfl).1
theorem CK.n27 {X : Nat} {C : St} (h : CK X C) : sN C (X + 27) = 12 := (h.1 27 _ rfl).2
theorem CK.t28 {X : Nat} {C : St} (h : CK X C) : sT C (X + 28) = 20 := (h.1 28 _ rfl).1
theorem CK.n28 {X : Nat} {C : St} (h : CK X C) : sN C (X + 28) = 12 := (h.1 28 _ rfl).2
theorem CK.t29 {X : Nat} {C : St} (h : CK X C) : sT C (X + 29) = 20 := (h.1 29 _ rfl).1
theorem CK.n29 {X : Nat} {C : St} (h : CK X C) : sN C (X + 29) = 12 := (h.1 29 _ rfl).2
theorem CK.t30 {X : Nat} {C : St} (h : CK X C) : sT C (X + 30) = 20 := (h.1 30 _ rfl).1
theorem CK.n30 {X : Nat} {C : St} (h : CK X C) : sN C (X + 30) = 12 := (h.1 30 _ rfl).2
theorem CK.t31 {X : Nat} {C : St} (h : CK X C) : sT C (X + 31) = 20 := (h.1 31 _ rfl).1
theorem CK.n31 {X : Nat} {C : St} (h : CK X C) : sN C (X + 31) = 12 := (h.1 31 _ rfl).2
theorem CK.t32 {X : Nat} {C : St} (h : CK X C) : sT C (X + 32) = 20 := (h.1 32 _ rfl).1
theorem CK.n32 {X : Nat} {C : St} (h : CK X C) : sN C (X + 32) = 6 := (h.1 32 _ rfl).2
theorem CK.t33 {X : Nat} {C : St} (h : CK X C) : sT C (X + 33) = 20 := (h.1 33 _ rfl).1
theorem CK.n33 {X : Nat} {C : St} (h : CK X C) : sN C (X + 33) = 6 := (h.1 33 _ rfl).2
theorem CK.f0_0 {X : Nat} {C : St} (h : CK X C) : sF C (X) 0 = some (X + 1) := h.2.1 0 _ rfl
theorem CK.f0_1 {X : Nat} {C : St} (h : CK X C) : sF C (X) 1 = some (X + 2) := h.2.1 1 _ rfl
theorem CK.f0_2 {X : Nat} {C : St} (h : CK X C) : sF C (X) 2 = some (X + 3) := h.2.1 2 _ rfl
theorem CK.f0_3 {X : Nat} {C : St} (h : CK X C) : sF C (X) 3 = some (X + 5) := h.2.1 3 _ rfl
theorem CK.f0_4 {X : Nat} {C : St} (h : CK X C) : sF C (X) 4 = some (X + 12) := h.2.1 4 _ rfl
theorem CK.f0_5 {X : Nat} {C : St} (h : CK X C) : sF C (X) 5 = some (X + 20) := h.2.1 5 _ rfl
theorem CK.f3_0 {X : Nat} {C : St} (h : CK X C) : sF C (X + 3) 0 = some (X + 4) := h.2.1 6 _ rfl
theorem CK.f5_0 {X : Nat} {C : St} (h : CK X C) : sF C (X + 5) 0 = some (X + 6) := h.2.1 7 _ rfl
theorem CK.f5_1 {X : Nat} {C : St} (h : CK X C) : sF C (X + 5) 1 = some (X + 7) := h.2.1 8 _ rfl
theorem CK.f5_2 {X : Nat} {C : St} (h : CK X C) : sF C (X + 5) 2 = some (X + 8) := h.2.1 9 _ rfl
theorem CK.f5_3 {X : Nat} {C : St} (h : CK X C) : sF C (X + 5) 3 = some (X + 9) := h.2.1 10 _ rfl
theorem CK.f5_4 {X : Nat} {C : St} (h : CK X C) : sF C (X + 5) 4 = some (X + 10) := h.2.1 11 _ rfl
theorem CK.f5_5 {X : Nat} {C : St} (h : CK X C) : sF C (X + 5) 5 = some (X + 11) := h.2.1 12 _ rfl
theorem CK.f12_0 {X : Nat} {C : St} (h : CK X C) : sF C (X + 12) 0 = some (X + 13) := h.2.1 13 _ rfl
theorem CK.f12_1 {X : Nat} {C : St} (h : CK X C) : sF C (X + 12) 1 = some (X + 14) := h.2.1 14 _ rfl
theorem CK.f12_2 {X : Nat} {C : St} (h : CK X C) : sF C (X + 12) 2 = some (X + 15) := h.2.1 15 _ rfl
theorem CK.f12_3 {X : Nat} {C : St} (h : CK X C) : sF C (X + 12) 3 = some (X + 16) := h.2.1 16 _ rfl
theorem CK.f12_5 {X : Nat} {C : St} (h : CK X C) : sF C (X + 12) 5 = some (X + 17) := h.2.1 17 _ rfl
theorem CK.f12_6 {X : Nat} {C : St} (h : CK X C) : sF C (X + 12) 6 = some (X + 18) := h.2.1 18 _ rfl
theorem CK.f12_7 {X : Nat} {C : St} (h : CK X C) : sF C (X + 12) 7 = some (X + 19) := h.2.1 19 _ rfl
theorem CK.f20_0 {X : Nat} {C : St} (h : CK X C) : sF C (X + 20) 0 = some (X + 21) := h.2.1 20 _ rfl
theorem CK.f20_1 {X : Nat} {C : St} (h : CK X C) : sF C (X + 20) 1 = some (X + 22) := h.2.1 21 _ rfl
theorem CK.f20_2 {X : Nat} {C : St} (h : CK X C) : sF C (X + 20) 2 = some (X + 23) := h.2.1 22 _ rfl
theorem CK.f20_3 {X : Nat} {C : St} (h : CK X C) : sF C (X + 20) 3 = some (X + 24) := h.2.1 23 _ rfl
theorem CK.f20_4 {X : Nat} {C : St} (h : CK X C) : sF C (X + 20) 4 = some (X + 25) := h.2.1 24 _ rfl
theorem CK.f20_5 {X : Nat} {C : St} (h : CK X C) : sF C (X + 20) 5 = some (X + 32) := h.2.1 25 _ rfl
theorem CK.f20_6 {X : Nat} {C : St} (h : CK X C) : sF C (X + 20) 6 = some (X + 33) := h.2.1 26 _ rfl
theorem CK.f25_0 {X : Nat} {C : St} (h : CK X C) : sF C (X + 25) 0 = some (X + 26) := h.2.1 27 _ rfl
theorem CK.f25_1 {X : Nat} {C : St} (h : CK X C) : sF C (X + 25) 1 = some (X + 27) := h.2.1 28 _ rfl
theorem CK.f25_2 {X : Nat} {C : St} (h : CK X C) : sF C (X + 25) 2 = some (X + 28) := h.2.1 29 _ rfl
theorem CK.f25_3 {X : Nat} {C : St} (h : CK X C) : sF C (X + 25) 3 = some (X + 29) := h.2.1 30 _ rfl
theorem CK.f25_4 {X : Nat} {C : St} (h : CK X C) : sF C (X + 25) 4 = some (X + 30) := h.2.1 31 _ rfl
theorem CK.f25_5 {X : Nat} {C : St} (h : CK X C) : sF C (X + 25) 5 = some (X + 31) := h.2.1 32 _ rfl
