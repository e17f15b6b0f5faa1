/-! (B) the pure things: how a part fills; what class and reference have in common -/
def NO : Nat := 2147483647
/-- a part: wide, high, thickness, gates' number, gates -/
abbrev PD : Type := Nat × Nat × (Nat → Nat) × Nat × (Nat → Nat)
def pdW (D : PD) : Nat := D.1
def pdH (D : PD) : Nat := D.2.1
def pdT (D : PD) : Nat → Nat := D.2.2.1
def pdG (D : PD) : Nat := D.2.2.2.1
def pdQ (D : PD) : Nat → Nat := D.2.2.2.2
def pdN (D : PD) : Nat := pdW D * pdH D
/-- the same part with its first g gates -/
def pdC (D : PD) (g : Nat) : PD := (pdW D, pdH D, pdT D, g, pdQ D)
/-- the same part with one gate, at c -/
def pd1 (D : PD) (c : Nat) : PD := (pdW D, pdH D, pdT D, 1, fun _ => c)
/-- the place beside c: 0 right, 1 below, 2 left, 3 above -/
def nbN (w h c way : Nat) : Option Nat :=
  if way = 0 then (if c % w + 1 < w then some (c + 1) else none)
  else if way = 1 then (if c + w < w * h then some (c + w) else none)
  else if way = 2 then (if 0 < c % w then some (c - 1) else none)
  else (if w ≤ c then some (c - w) else none)
def nbr (D : PD) (c d : Nat) : Prop := c < pdN D ∧ d < pdN D ∧ 0 < pdT D c ∧ 0 < pdT D d ∧ ∃ way, way < 4 ∧ nbN (pdW D) (pdH D) c way = some d
def dr (t : Nat) : Nat := 5000 / (t * t * t)
/-- L c: four times the strain and the front, NO: none; o: the k filled cells in their order -/
def FS (D : PD) (L : Nat → Nat) (k : Nat) (o : Nat → Nat) : Prop :=
  (∀ c, c < pdN D → L c ≤ NO) ∧ (∀ c, c < pdN D → L c ≠ NO → 0 < pdT D c) ∧ k ≤ pdN D ∧ (∀ r, r < k → o r < pdN D ∧ L (o r) ≠ NO) ∧ (∀ c, c < pdN D → L c ≠ NO → ∃ r, r < k ∧ o r = c) ∧ (∀ r s, r < s → s < k → L (o r) / 4 < L (o s) / 4 ∨ (L (o r) / 4 = L (o s) / 4 ∧ o r < o s)) ∧ (∀ j, j < pdG D → L (pdQ D j) ≤ 4 * dr (pdT D (pdQ D j)) + j) ∧ (∀ c d, nbr D c d → L c ≠ NO → L d ≤ L c + 4 * dr (pdT D d)) ∧ (∀ c, c < pdN D → L c ≠ NO → (∃ j, j < pdG D ∧ pdQ D j = c ∧ L c = 4 * dr (pdT D c) + j) ∨ ∃ d, nbr D d c ∧ L d ≠ NO ∧ L c = L d + 4 * dr (pdT D c))
def endsOf (L : Nat → Nat) (k : Nat) (o : Nat → Nat) : Nat := if k = 0 then 0 else L (o (k - 1)) / 4
/-- from c alone: all cells fill, and how it ends; or not all do -/
def Com (D : PD) (c e : Nat) : Prop := ∃ L k o, FS (pd1 D c) L k o ∧ (∀ d, d < pdN D → 0 < pdT D d → L d ≠ NO) ∧ e = endsOf L k o
def Inc (D : PD) (c : Nat) : Prop := ∃ L k o, FS (pd1 D c) L k o ∧ ∃ d, d < pdN D ∧ 0 < pdT D d ∧ L d = NO
def BestS (D : PD) (v : Int32) : Prop := (v = mI 1000000 ∧ ∀ c, c < pdN D → 0 < pdT D c → Inc D c) ∨ ∃ c e, v = nI c ∧ c < pdN D ∧ 0 < pdT D c ∧ Com D c e ∧ ∀ d, d < pdN D → 0 < pdT D d → Inc D d ∨ ∃ f, Com D d f ∧ (e < f ∨ (e = f ∧ c ≤ d))
def isP (t : Nat) : Prop := t = 1 ∨ t = 4 ∨ t = 5
def kOf (t : Nat) : Nat := if t = 4 then 1 else if t = 1 then 2 else if t = 5 then 3 else 4
-- what stands in the class's memory
def PDof (C : St) (b : Nat) : PD := (uN (sI C (b + 1) 0), uN (sI C (b + 1) 1), fun k => uN (sI C b k), uN (sI C (b + 1) 5), fun j => uN (sI C (b + 2) j))
/-- a part: its thickness at b, itself at b + 1, its gates at b + 2, its vents at b + 3 -/
def PartOk (X : Nat) (C : St) (b : Nat) : Prop :=
  (X + 72 ≤ b ∧ isP (sT C (b + 1)) ∧ sF C (b + 1) 2 = some b ∧ sF C (b + 1) 3 = some (b + 3) ∧ sF C (b + 1) 4 = some (b + 2)) ∧
  (sT C b = 20 ∧ sN C b = pdN (PDof C b) ∧ sT C (b + 2) = 20 ∧ sN C (b + 2) = 4 ∧ sT C (b + 3) = 21 ∧ sN C (b + 3) = pdN (PDof C b)) ∧
  (sI C (b + 1) 0 = nI (pdW (PDof C b)) ∧ 1 ≤ pdW (PDof C b) ∧ pdW (PDof C b) ≤ 12 ∧ sI C (b + 1) 1 = nI (pdH (PDof C b)) ∧ 1 ≤ pdH (PDof C b) ∧ pdH (PDof C b) ≤ 12) ∧
  (∀ k, k < pdN (PDof C b) → sI C b k = nI (pdT (PDof C b) k) ∧ pdT (PDof C b) k ≤ 9) ∧
  (sI C (b + 1) 5 = nI (pdG (PDof C b)) ∧ pdG (PDof C b) ≤ 4) ∧
  (∀ j, j < pdG (PDof C b) → sI C (b + 2) j = nI (pdQ (PDof C b) j) ∧ pdQ (PDof C b) j < pdN (PDof C b) ∧ 0 < pdT (PDof C b) (pdQ (PDof C b) j)) ∧
  (∀ i j, i < j → j < pdG (PDof C b) → pdQ (PDof C b) i ≠ pdQ (PDof C b) j) ∧
  (∀ k, k < pdN (PDof C b) → sI C (b + 3) k = nI 0 ∨ sI C (b + 3) k = nI 1) ∧
  (∃ L k o, FS (PDof C b) L k o ∧ sI C (b + 1) 6 = nI (endsOf L k o)) ∧
  (sI C (b + 1) 7 = nI 0 ∨ sI C (b + 1) 7 = nI 1 ∧ BestS (PDof C b) (sI C (b + 1) 8))
def PartR (X p : Nat) (C R : St) (b : Nat) : Prop :=
  sI R (X + 38) p = nI (kOf (sT C (b + 1))) ∧ sI R (X + 39) p = nI (pdW (PDof C b)) ∧ sI R (X + 40) p = nI (pdH (PDof C b)) ∧
  (∀ k, k < 144 → sI R (X + 41) (144 * p + k) = nI (if k < pdN (PDof C b) then pdT (PDof C b) k else 0)) ∧
  sI R (X + 42) p = nI (pdG (PDof C b)) ∧ (∀ j, j < pdG (PDof C b) → sI R (X + 43) (4 * p + j) = nI (pdQ (PDof C b) j)) ∧
  ∀ k, k < pdN (PDof C b) → sI R (X + 44) (144 * p + k) = sI C (b + 3) k
def LayOk (X : Nat) (C : St) (a : Nat) : Prop := X + 72 ≤ a ∧ sF C a 0 = some (a + 1) ∧ sT C (a + 1) = 20 ∧ 2 ≤ sN C (a + 1) ∧ sN C (a + 1) ≤ 20 ∧ ¬ isP (sT C (a + 2))
def LayR (X p : Nat) (C R : St) (a : Nat) : Prop := sI R (X + 38) p = nI 4 ∧ sI R (X + 39) p = nI (sN C (a + 1)) ∧ (∀ k, k < sN C (a + 1) → sI C (a + 1) k = sI R (X + 45) (20 * p + k)) ∧ sI C a 1 = sI R (X + 46) p ∧ sI C a 2 = sI R (X + 47) p
def SheetOk (X s : Nat) (C R : St) (a : Nat) : Prop := X + 72 ≤ a ∧ sT C a = 8 ∧ sT C (a + 1) = 22 ∧ sN C (a + 1) ≤ 144 ∧ sF C a 1 = some (a + 1) ∧ sI C a 0 = sI R (X + 35) s ∧ (∃ l, l ≤ 2 ∧ sI R (X + 35) s = nI l) ∧ sI R (X + 36) s = nI (sN C (a + 1)) ∧ ∀ i, i < sN C (a + 1) → sJ C (a + 1) i = sJ R (X + 37) (144 * s + i)
-- the parts of the relation
def KA (X : Nat) (C R : St) : Prop := sI C X 6 = sI R (X + 34) 1
def KS (X : Nat) (C R : St) : Prop := (∀ s, s < 8 → (sF C (X + 1) s = none ∧ sI R (X + 35) s = mI 1) ∨ ∃ a, sF C (X + 1) s = some a ∧ SheetOk X s C R a) ∧ ∀ s t a, s < 8 → t < 8 → sF C (X + 1) s = some a → sF C (X + 1) t = some a → s = t
def KP (X : Nat) (C : St) : Prop := (∀ a, isP (sT C a) → ∃ b, a = b + 1 ∧ PartOk X C b) ∧ ∀ a, sT C a = 3 → LayOk X C a
def KT (X : Nat) (C R : St) : Prop := (∀ p, p < 10 → (sF C (X + 2) p = none ∧ sI R (X + 38) p = mI 1) ∨ (∃ b, sF C (X + 2) p = some (b + 1) ∧ isP (sT C (b + 1)) ∧ PartR X p C R b) ∨ ∃ a, sF C (X + 2) p = some a ∧ sT C a = 3 ∧ LayR X p C R a) ∧ ∀ p q a, p < 10 → q < 10 → sF C (X + 2) p = some a → sF C (X + 2) q = some a → p = q
def KE (X : Nat) (C R : St) : Prop := ∃ n, n ≤ 16 ∧ sI C (X + 3) 1 = nI n ∧ sI R (X + 34) 17 = nI n ∧ ∀ i, i < n → sI C (X + 4) i = sI R (X + 49) i
/-- the value beside c that the class keeps -/
def nbV (D : PD) (c way : Nat) : Int32 := match nbN (pdW D) (pdH D) c way with
  | none => mI 1000000
  | some d => if 0 < pdT D c ∧ 0 < pdT D d then nI d else mI 1000000
def Laid (X : Nat) (C : St) (D : PD) : Prop := sI C (X + 5) 6 = nI (pdN D) ∧ (∀ c, c < pdN D → sI C (X + 6) c = nI (if pdT D c = 0 then 0 else dr (pdT D c))) ∧ ∀ c way, c < pdN D → way < 4 → sI C (X + 7) (4 * c + way) = nbV D c way
def FlowIs (X : Nat) (C : St) (D : PD) (L : Nat → Nat) (k : Nat) (o : Nat → Nat) : Prop := FS D L k o ∧ Laid X C D ∧ (∀ c, c < pdN D → sI C (X + 8) c = nI (L c)) ∧ sI C (X + 5) 7 = nI k ∧ (∀ r, r < k → sI C (X + 9) r = nI (o r)) ∧ ∀ r, r < k → sI C (X + 10) (o r) = nI r
def KF (X : Nat) (C : St) : Prop := ∀ a, sF C (X + 5) 8 = some a → ∃ b g L k o, a = b + 1 ∧ isP (sT C (b + 1)) ∧ sI C (X + 5) 9 = nI g ∧ g ≤ pdG (PDof C b) ∧ FlowIs X C (pdC (PDof C b) g) L k o
def KR (X : Nat) (C R : St) : Prop := ∃ n, n ≤ 8 ∧ sI C (X + 12) 4 = nI n ∧ sI R (X + 34) 24 = nI n ∧
  (∀ b, b < n → sI C (X + 13) b = sI R (X + 55) b ∧ (sI R (X + 55) b = mI 1000000 ∨ ∃ q, q < b ∧ sI R (X + 55) b = nI q)) ∧
  (∀ b, b < n → sI C (X + 14) b = sI R (X + 56) b ∧ ∃ l, 1 ≤ l ∧ l ≤ 50 ∧ sI R (X + 56) b = nI l) ∧
  (∀ b, b < n → sI C (X + 15) b = sI R (X + 57) b ∧ ∃ l, 1 ≤ l ∧ l ≤ 9 ∧ sI R (X + 57) b = nI l) ∧
  (∀ b, b < n → (sF C (X + 16) b = none ∧ sI R (X + 58) b = mI 1000000) ∨ ∃ a p, sF C (X + 16) b = some a ∧ isP (sT C a) ∧ p < 10 ∧ sI R (X + 58) b = nI p ∧ sF C (X + 2) p = some a ∧ sI R (X + 48) p = nI b) ∧
  ∀ p, p < 10 → sI R (X + 48) p = mI 1 ∨ ∃ b, b < n ∧ sI R (X + 48) p = nI b ∧ sI R (X + 58) b = nI p
/-- a press's row in the plan -/
def sumN (f : Nat → Nat) : Nat → Nat
  | 0 => 0
  | n + 1 => sumN f n + f n
def PlanR (X p j : Nat) (C R : St) : Prop := ∃ (n : Nat) (o : Nat → Nat), n ≤ j ∧ sI C (X + 32) p = nI n ∧ sI R (X + 68) p = nI n ∧ (∀ i, i < n → o i < j ∧ sI C (X + 26 + p) i = nI (o i) ∧ sI R (X + 67) (12 * p + i) = nI (o i)) ∧ sI C (X + 33) p = nI (sumN (fun i => uN (sI R (X + 66) (o i))) n) ∧ sI R (X + 69) p = nI (if n = 0 then 0 else uN (sI R (X + 65) (o (n - 1))) - uN (sI R (X + 65) (o 0))) ∧ uN (sI R (X + 65) (o 0)) ≤ uN (sI R (X + 65) (o (n - 1)))
def KH (X : Nat) (C R : St) : Prop := ∃ m j, m ≤ 6 ∧ j ≤ 12 ∧ sI C (X + 20) 7 = nI m ∧ sI R (X + 34) 33 = nI m ∧ sI C (X + 20) 8 = nI j ∧ sI R (X + 34) 35 = nI j ∧
  (∀ p, p < m → sI C (X + 21) p = sI R (X + 63) p) ∧ (∀ i, i < j → sI C (X + 22) i = sI R (X + 64) i) ∧
  (∀ i, i < j → sI C (X + 23) i = sI R (X + 65) i ∧ ∃ c, c ≤ 9 ∧ sI R (X + 65) i = nI c) ∧
  (∀ i, i < j → sI C (X + 24) i = sI R (X + 66) i ∧ ∃ t, 1 ≤ t ∧ t ≤ 1000 ∧ sI R (X + 66) i = nI t) ∧
  ((sI R (X + 34) 39 = nI 0 ∧ ∀ p, p < 6 → sI C (X + 32) p = nI 0 ∧ sI C (X + 33) p = nI 0) ∨ (sI R (X + 34) 39 = nI 1 ∧ ∀ p, p < m → PlanR X p j C R))
/-- class and reference agree -/
def R0 (X : Nat) (C R : St) : Prop := CK X C ∧ RK X R ∧ KS X C R ∧ KP X C ∧ KT X C R ∧ KE X C R ∧ KF X C ∧ KR X C R ∧ KH X C R
def Rel (X : Nat) (C R : St) : Prop := KA X C R ∧ R0 X C R
theorem R0.ck {X : Nat} {C R : St} (h : R0 X C R) : CK X C := h.1
theorem R0.rk {X : Nat} {C R : St} (h : R0 X C R) : RK X R := h.2.1
theorem R0.ks {X : Nat} {C R : St} (h : R0 X C R) : KS X C R := h.2.2.1
theorem R0.kp {X : Nat} {C R : St} (h : R0 X C R) : KP X C := h.2.2.2.1
theorem R0.kt {X : Nat} {C R : St} (h : R0 X C R) : KT X C R := h.2.2.2.2.1
theorem R0.ke {X : Nat} {C R : St} (h : R0 X C R) : KE X C R := h.2.2.2.2.2.1
theorem R0.kf {X : Nat} {C R : St} (h : R0 X C R) : KF X C := h.2.2.2.2.2.2.1
theorem R0.kr {X : Nat} {C R : St} (h : R0 X C R) : KR X C R := h.2.2.2.2.2.2.2.1
theorem R0.kh {X : Nat} {C R : St} (h : R0 X C R) : KH X C R := h.2.2.2.2.2.2.2.2
theorem Rel.sy {X : Nat} {C R : St} {z y z' y' : Nat} (h : Rel X C R) : Rel X (sy C z y) (sy R z' y') := h
theorem Rel.ap {X : Nat} {C R : St} (h : Rel X C R) (a : Nat) : sT C a = 0 ∨ sT R a = 0 := by
  by_cases e : sT R a = 0
  · exact Or.inr e
  · have g := h.2.rk.2.2 a e
    exact Or.inl (h.2.ck.2.2 a g.1 g.2)
-- what stays
/-- all cells stay, but ints and longs at W, references at V; new ones may come -/
def Fr (C C1 : St) (W V : Nat → Prop) : Prop := ∀ a, sT C a ≠ 0 → sT C1 a = sT C a ∧ sN C1 a = sN C a ∧ (¬ W a → sI C1 a = sI C a ∧ sJ C1 a = sJ C a) ∧ (¬ V a → sF C1 a = sF C a)
theorem wF_row (S : St) (a k : Nat) (v : Option Nat) {b : Nat} (h : b ≠ a) : sF (wF S a k v) b = sF S b := va_up_ne _ _ h
section Fr
variable {C C1 R R1 : St} {W V : Nat → Prop} {X : Nat}
theorem Fr.rf : Fr C C W V := fun _ _ => ⟨rfl, rfl, fun _ => ⟨rfl, rfl⟩, fun _ => rfl⟩
theorem Fr.wI {a k : Nat} {v : Int32} (h : Fr C C1 W V) (ha : sT C a = 0 ∨ W a) : Fr C (wI C1 a k v) W V := fun b hb => ⟨(h b hb).1, (h b hb).2.1, fun hw => by
  have e : b ≠ a := fun q => by rcases ha with g | g; exact hb (q ▸ g); exact hw (q ▸ g)
  rw [wI_row _ _ _ _ e, wI_J]
  exact (h b hb).2.2.1 hw, (h b hb).2.2.2⟩
theorem Fr.wJ {a k : Nat} {v : Int64} (h : Fr C C1 W V) (ha : sT C a = 0 ∨ W a) : Fr C (wJ C1 a k v) W V := fun b hb => ⟨(h b hb).1, (h b hb).2.1, fun hw => by
  have e : b ≠ a := fun q => by rcases ha with g | g; exact hb (q ▸ g); exact hw (q ▸ g)
  rw [wJ_row _ _ _ _ e, wJ_I]
  exact (h b hb).2.2.1 hw, (h b hb).2.2.2⟩
theorem Fr.wF {a k : Nat} {v : Option Nat} (h : Fr C C1 W V) (ha : sT C a = 0 ∨ V a) : Fr C (wF C1 a k v) W V := fun b hb => ⟨(h b hb).1, (h b hb).2.1, (h b hb).2.2.1, fun hw => by
  have e : b ≠ a := fun q => by rcases ha with g | g; exact hb (q ▸ g); exact hw (q ▸ g)
  rw [wF_row _ _ _ _ e]
  exact (h b hb).2.2.2 hw⟩
theorem Fr.wIr {a : Nat} {f : Nat → Int32} (h : Fr C C1 W V) (ha : sT C a = 0 ∨ W a) : Fr C (wIr C1 a f) W V := fun b hb => ⟨(h b hb).1, (h b hb).2.1, fun hw => by
  have e : b ≠ a := fun q => by rcases ha with g | g; exact hb (q ▸ g); exact hw (q ▸ g)
  rw [wIr_row _ _ _ e, wIr_J]
  exact (h b hb).2.2.1 hw, (h b hb).2.2.2⟩
theorem Fr.wJr {a : Nat} {f : Nat → Int64} (h : Fr C C1 W V) (ha : sT C a = 0 ∨ W a) : Fr C (wJr C1 a f) W V := fun b hb => ⟨(h b hb).1, (h b hb).2.1, fun hw => by
  have e : b ≠ a := fun q => by rcases ha with g | g; exact hb (q ▸ g); exact hw (q ▸ g)
  rw [wJr_row _ _ _ e, wJr_I]
  exact (h b hb).2.2.1 hw, (h b hb).2.2.2⟩
theorem Fr.tr {C2 : St} (h : Fr C C1 W V) (h2 : Fr C1 C2 W V) : Fr C C2 W V := fun b hb => by
  have g := h b hb
  have g2 := h2 b (by rw [g.1]; exact hb)
  exact ⟨g2.1.trans g.1, g2.2.1.trans g.2.1, fun hw => ⟨(g2.2.2.1 hw).1.trans (g.2.2.1 hw).1, (g2.2.2.1 hw).2.trans (g.2.2.1 hw).2⟩, fun hw => (g2.2.2.2 hw).trans (g.2.2.2 hw)⟩
theorem Fr.mono {W' V' : Nat → Prop} (h : Fr C C1 W V) (hw : ∀ a, W a → W' a) (hv : ∀ a, V a → V' a) : Fr C C1 W' V' := fun b hb => ⟨(h b hb).1, (h b hb).2.1, fun q => (h b hb).2.2.1 (fun x => q (hw b x)), fun q => (h b hb).2.2.2 (fun x => q (hv b x))⟩
theorem Fr.new {t n k : Nat} (h : Fr C C1 W V) (hd : ∀ a, sT C a ≠ 0 → a < sX C1) : Fr C (nw C1 t n k) W V := fun b hb => by
  have e : b ≠ sX C1 := Nat.ne_of_lt (hd b hb)
  have eT : sT (nw C1 t n k) b = sT C1 b := va_up_ne _ _ e
  have eN : sN (nw C1 t n k) b = sN C1 b := va_up_ne _ _ e
  have eI : sI (nw C1 t n k) b = sI C1 b := va_up_ne _ _ e
  have eJ : sJ (nw C1 t n k) b = sJ C1 b := va_up_ne _ _ e
  have eF : sF (nw C1 t n k) b = sF C1 b := va_up_ne _ _ e
  rw [eT, eN, eI, eJ, eF]
  exact h b hb
theorem isP.ne {t : Nat} (h : isP t) : t ≠ 0 ∧ t ≠ 2 ∧ t ≠ 3 ∧ t ≠ 6 ∧ t ≠ 7 ∧ t ≠ 8 ∧ t ≠ 9 ∧ t ≠ 10 ∧ t < 20 := by unfold isP at h; omega
theorem CK.tag (h : CK X C) {k : Nat} (hk : k < 34) : sT C (X + k) ≠ 0 ∧ sT C (X + k) ≠ 8 ∧ sT C (X + k) ≠ 22 ∧ sT C (X + k) ≠ 3 ∧ ¬ isP (sT C (X + k)) ∧ sT C (X + k) ≠ 21 := by
  have h1 : ckT.length = 34 := by decide
  have hm : ckT[k]'(by omega) ∈ ckT := List.getElem_mem _
  have h2 : ∀ q ∈ ckT, q.1 ≠ 0 ∧ q.1 ≠ 8 ∧ q.1 ≠ 22 ∧ q.1 ≠ 3 ∧ ¬ (q.1 = 1 ∨ q.1 = 4 ∨ q.1 = 5) ∧ q.1 ≠ 21 := by decide
  have h3 := (h.1 k _ (List.getElem?_eq_getElem (by omega))).1
  rw [h3]
  exact h2 _ hm
/-- rows of the class's own cells that stay -/
theorem Fr.I (hf : Fr C C1 W V) (h : CK X C) {k : Nat} (hk : k < 34) (hw : ¬ W (X + k)) : sI C1 (X + k) = sI C (X + k) := ((hf _ (h.tag hk).1).2.2.1 hw).1
theorem Fr.F (hf : Fr C C1 W V) (h : CK X C) {k : Nat} (hk : k < 34) (hw : ¬ V (X + k)) : sF C1 (X + k) = sF C (X + k) := (hf _ (h.tag hk).1).2.2.2 hw
theorem CK.keep (h : CK X C) (hf : Fr C C1 W V) (hz : ∀ a, X + 34 ≤ a → a < X + 72 → sT C1 a = 0) (hv : ∀ k, k = 0 ∨ k = 3 ∨ k = 12 ∨ k = 20 ∨ k = 25 → ¬ V (X + k)) (h5 : ∀ j, j < 6 → sF C1 (X + 5) j = sF C (X + 5) j) : CK X C1 := by
  refine ⟨fun k q hk => ?_, fun k q hk => ?_, hz⟩
  · have g := h.1 k q hk
    have hl : k < 34 := by
      have := (List.getElem?_eq_some_iff.mp hk).1
      have h1 : ckT.length = 34 := by decide
      omega
    have g2 := hf _ (h.tag hl).1
    exact ⟨g2.1.trans g.1, g2.2.1.trans g.2⟩
  · have g := h.2.1 k q hk
    rw [← g]
    have hm : q ∈ ckF := List.mem_of_getElem? hk
    have : ∀ q ∈ ckF, q.1 = 0 ∨ q.1 = 3 ∨ (q.1 = 5 ∧ q.2.1 < 6) ∨ q.1 = 12 ∨ q.1 = 20 ∨ q.1 = 25 := by decide
    rcases this q hm with e | e | e | e | e | e
    · rw [e]; exact congrFun (hf.F h (by omega) (hv _ (by omega))) _
    · rw [e]; exact congrFun (hf.F h (by omega) (hv _ (by omega))) _
    · rw [e.1]; exact h5 _ e.2
    · rw [e]; exact congrFun (hf.F h (by omega) (hv _ (by omega))) _
    · rw [e]; exact congrFun (hf.F h (by omega) (hv _ (by omega))) _
    · rw [e]; exact congrFun (hf.F h (by omega) (hv _ (by omega))) _
theorem KS.keep (h : KS X C R) (hc : CK X C) (hf : Fr C C1 W V) (hw : ∀ a, sT C a = 8 ∨ sT C a = 22 → ¬ W a) (hv : ∀ a, sT C a = 8 → ¬ V a) (h1 : ¬ V (X + 1)) (r1 : sI R1 (X + 35) = sI R (X + 35)) (r2 : sI R1 (X + 36) = sI R (X + 36)) (r3 : sJ R1 (X + 37) = sJ R (X + 37)) : KS X C1 R1 := by
  have h1 := hf.F hc (by decide) h1
  refine ⟨fun s hs => ?_, fun s t a hs ht g1 g2 => h.2 s t a hs ht (by rw [← h1]; exact g1) (by rw [← h1]; exact g2)⟩
  rw [h1, r1]
  rcases h.1 s hs with g | ⟨a, g, k1, k2, k3, k4, k5, k6, k7, k8, k9⟩
  · exact Or.inl g
  · have f1 := hf a (by rw [k2]; decide)
    have f2 := hf (a + 1) (by rw [k3]; decide)
    refine Or.inr ⟨a, g, k1, ?_⟩
    rw [f1.1, f2.1, f2.2.1, (f1.2.2.1 (hw a (Or.inl k2))).1, f1.2.2.2 (hv a k2), (f2.2.2.1 (hw (a + 1) (Or.inr k3))).2, r1, r2, r3]
    exact ⟨k2, k3, k4, k5, k6, k7, k8, k9⟩
theorem PartOk.keep {b : Nat} (h : PartOk X C b) (hf : Fr C C1 W V) (h0 : ¬ W b) (h1 : ¬ W (b + 1)) (h2 : ¬ W (b + 2)) (h3 : ¬ W (b + 3)) (h4 : ¬ V (b + 1)) : PartOk X C1 b ∧ PDof C1 b = PDof C b ∧ sT C1 (b + 1) = sT C (b + 1) ∧ sI C1 (b + 3) = sI C (b + 3) := by
  have n1 : sT C (b + 1) ≠ 0 := h.1.2.1.ne.1
  have f0 := hf b (by rw [h.2.1.1]; decide)
  have f1 := hf (b + 1) n1
  have f2 := hf (b + 2) (by rw [h.2.1.2.2.1]; decide)
  have f3 := hf (b + 3) (by rw [h.2.1.2.2.2.2.1]; decide)
  have e0 := f0.2.2.1 h0
  have e1 := f1.2.2.1 h1
  have e2 := f2.2.2.1 h2
  have e3 := f3.2.2.1 h3
  have hD : PDof C1 b = PDof C b := by unfold PDof; rw [e0.1, e1.1, e2.1]
  refine ⟨?_, hD, f1.1, e3.1⟩
  unfold PartOk
  rw [hD, f0.1, f0.2.1, f1.1, f2.1, f2.2.1, f3.1, f3.2.1, e0.1, e1.1, f1.2.2.2 h4, e2.1, e3.1]
  exact h
theorem PartOk.ap {b d : Nat} (h : PartOk X C b) (g : PartOk X C d) (e : b ≠ d) : d ≠ b + 1 ∧ d ≠ b + 2 ∧ d ≠ b + 3 ∧ b ≠ d + 1 ∧ b ≠ d + 2 ∧ b ≠ d + 3 := by
  have a1 := h.1.2.1
  have a2 := g.1.2.1
  have p1 := h.2.1
  have p2 := g.2.1
  unfold isP at a1 a2
  refine ⟨fun q => ?_, fun q => ?_, fun q => ?_, fun q => ?_, fun q => ?_, fun q => ?_⟩ <;> subst q
  · rw [p1.2.2.1] at a2; omega
  · rw [p1.2.2.2.2.1] at a2; omega
  · have := p2.1; rw [p1.2.2.2.2.1] at this; omega
  · rw [p2.2.2.1] at a1; omega
  · rw [p2.2.2.2.2.1] at a1; omega
  · have := p1.1; rw [p2.2.2.2.2.1] at this; omega
theorem PartOk.apL {b a : Nat} (h : PartOk X C b) (g : sT C a = 3) (k : LayOk X C a) : a ≠ b ∧ a ≠ b + 1 ∧ a ≠ b + 2 ∧ a ≠ b + 3 ∧ a + 1 ≠ b := by
  have a1 := h.1.2.1
  have p1 := h.2.1
  refine ⟨fun q => ?_, fun q => ?_, fun q => ?_, fun q => ?_, fun q => ?_⟩
  · subst q; rw [p1.1] at g; omega
  · subst q; rw [g] at a1; unfold isP at a1; omega
  · subst q; rw [p1.2.2.1] at g; omega
  · subst q; rw [p1.2.2.2.2.1] at g; omega
  · subst q; exact k.2.2.2.2.2 a1
theorem LayOk.keep {a : Nat} (h : LayOk X C a) (ht : sT C a = 3) (hf : Fr C C1 W V) (hv : ¬ V a) (hn : ∀ a, sT C a = 0 → ¬ isP (sT C1 a)) : LayOk X C1 a := by
  have f1 := hf (a + 1) (by rw [h.2.2.1]; decide)
  unfold LayOk
  rw [(hf a (by rw [ht]; decide)).2.2.2 hv, f1.1, f1.2.1]
  refine ⟨h.1, h.2.1, h.2.2.1, h.2.2.2.1, h.2.2.2.2.1, ?_⟩
  by_cases e : sT C (a + 2) = 0
  · exact hn _ e
  · rw [(hf _ e).1]
    exact h.2.2.2.2.2
/-- new cells aren't parts nor layers; what is written isn't a part's nor layers' -/
theorem KP.keep (h : KP X C) (hf : Fr C C1 W V) (hn : ∀ a, sT C a = 0 → ¬ isP (sT C1 a) ∧ sT C1 a ≠ 3) (hw : ∀ a, X + 72 ≤ a → sT C a ≠ 8 → sT C a ≠ 22 → ¬ W a) (hv : ∀ a, X + 72 ≤ a → sT C a ≠ 8 → ¬ V a) : KP X C1 := by
  refine ⟨fun a ha => ?_, fun a ha => ?_⟩
  · have h0 : sT C a ≠ 0 := fun e => (hn a e).1 ha
    rw [(hf a h0).1] at ha
    obtain ⟨b, rfl, hb⟩ := h.1 a ha
    have := hb.1.1
    have t1 := ha.ne
    have t2 := hb.2.1
    exact ⟨b, rfl, (hb.keep hf (hw _ (by omega) (by omega) (by omega)) (hw _ (by omega) (by omega) (by omega)) (hw _ (by omega) (by omega) (by omega)) (hw _ (by omega) (by omega) (by omega)) (hv _ (by omega) (by omega))).1⟩
  · have h0 : sT C a ≠ 0 := fun e => (hn a e).2 ha
    rw [(hf a h0).1] at ha
    have hl := h.2 a ha
    exact hl.keep ha hf (hv _ hl.1 (by omega)) (fun a e => (hn a e).1)
theorem KP.part (h : KP X C) {b : Nat} (ha : isP (sT C (b + 1))) : PartOk X C b := by
  obtain ⟨d, e, hd⟩ := h.1 _ ha
  cases e
  exact hd
theorem KT.keep (h : KT X C R) (hc : CK X C) (hk : KP X C) (hf : Fr C C1 W V) (hw : ∀ a, X + 72 ≤ a → sT C a ≠ 8 → sT C a ≠ 22 → ¬ W a) (hv : ∀ a, X + 72 ≤ a → sT C a ≠ 8 → ¬ V a) (h2 : ¬ V (X + 2)) (r : ∀ k, 38 ≤ k → k ≤ 47 → sI R1 (X + k) = sI R (X + k)) : KT X C1 R1 := by
  have h2 := hf.F hc (by decide) h2
  refine ⟨fun p hp => ?_, fun p q a hp hq g1 g2 => h.2 p q a hp hq (by rw [← h2]; exact g1) (by rw [← h2]; exact g2)⟩
  rw [h2, r 38 (by omega) (by omega)]
  rcases h.1 p hp with g | ⟨b, g, gp, gr⟩ | ⟨a, g, gl, gr⟩
  · exact Or.inl g
  · have hb := hk.part gp
    have := hb.1.1
    have t1 := gp.ne
    have t2 := hb.2.1
    obtain ⟨k1, k2, k3, k4⟩ := hb.keep hf (hw _ (by omega) (by omega) (by omega)) (hw _ (by omega) (by omega) (by omega)) (hw _ (by omega) (by omega) (by omega)) (hw _ (by omega) (by omega) (by omega)) (hv _ (by omega) (by omega))
    refine Or.inr (Or.inl ⟨b, g, by rw [k3]; exact gp, ?_⟩)
    unfold PartR
    rw [k2, k3, k4, r 38 (by omega) (by omega), r 39 (by omega) (by omega), r 40 (by omega) (by omega), r 41 (by omega) (by omega), r 42 (by omega) (by omega), r 43 (by omega) (by omega), r 44 (by omega) (by omega)]
    exact gr
  · have hl := hk.2 a gl
    have := hl.1
    have t2 := hl.2.2.1
    have f0 := hf a (by rw [gl]; decide)
    have f1 := hf (a + 1) (by rw [hl.2.2.1]; decide)
    have e0 := f0.2.2.1 (hw _ (by omega) (by omega) (by omega))
    have e1 := f1.2.2.1 (hw _ (by omega) (by omega) (by omega))
    refine Or.inr (Or.inr ⟨a, g, by rw [f0.1]; exact gl, ?_⟩)
    unfold LayR
    rw [e0.1, e1.1, f1.2.1, r 38 (by omega) (by omega), r 39 (by omega) (by omega), r 45 (by omega) (by omega), r 46 (by omega) (by omega), r 47 (by omega) (by omega)]
    exact gr
theorem KE.keep (h : KE X C R) (hc : CK X C) (hf : Fr C C1 W V) (h1 : ¬ W (X + 3)) (h2 : ¬ W (X + 4)) (r1 : sI R1 (X + 34) 17 = sI R (X + 34) 17) (r2 : sI R1 (X + 49) = sI R (X + 49)) : KE X C1 R1 := by
  unfold KE
  rw [hf.I hc (by decide) h1, hf.I hc (by decide) h2, r1, r2]
  exact h
theorem KF.keep (h : KF X C) (hc : CK X C) (hk : KP X C) (hf : Fr C C1 W V) (hw : ∀ a, X + 72 ≤ a → sT C a ≠ 8 → sT C a ≠ 22 → ¬ W a) (hv : ∀ a, X + 72 ≤ a → sT C a ≠ 8 → ¬ V a) (h1 : ¬ V (X + 5)) (r : ∀ k, 5 ≤ k → k ≤ 10 → ¬ W (X + k)) : KF X C1 := by
  have r : ∀ k, 5 ≤ k → k ≤ 10 → sI C1 (X + k) = sI C (X + k) := fun k k1 k2 => hf.I hc (by omega) (r k k1 k2)
  intro a ha
  rw [hf.F hc (by decide) h1] at ha
  obtain ⟨b, g, L, k, o, e, g1, g2, g3, g4⟩ := h a ha
  have hb := hk.part g1
  have := hb.1.1
  have t1 := g1.ne
  have t2 := hb.2.1
  obtain ⟨k1, k2, k3, k4⟩ := hb.keep hf (hw _ (by omega) (by omega) (by omega)) (hw _ (by omega) (by omega) (by omega)) (hw _ (by omega) (by omega) (by omega)) (hw _ (by omega) (by omega) (by omega)) (hv _ (by omega) (by omega))
  refine ⟨b, g, L, k, o, e, by rw [k3]; exact g1, ?_⟩
  rw [r 5 (by omega) (by omega), k2]
  refine ⟨g2, g3, g4.1, ?_⟩
  unfold Laid
  rw [r 5 (by omega) (by omega), r 6 (by omega) (by omega), r 7 (by omega) (by omega), r 8 (by omega) (by omega), r 9 (by omega) (by omega), r 10 (by omega) (by omega)]
  exact g4.2
theorem KR.keep (h : KR X C R) (hc : CK X C) (hf : Fr C C1 W V) (h2 : ¬ V (X + 2)) (h16 : ¬ V (X + 16)) (h12 : sI C1 (X + 12) 4 = sI C (X + 12) 4) (h13 : ¬ W (X + 13)) (h14 : ¬ W (X + 14)) (h15 : ¬ W (X + 15)) (r : sI R1 (X + 34) 24 = sI R (X + 34) 24) (r48 : sI R1 (X + 48) = sI R (X + 48)) (r55 : ∀ k, 55 ≤ k → k ≤ 58 → sI R1 (X + k) = sI R (X + k)) : KR X C1 R1 := by
  obtain ⟨n, g1, g2, g3, g4, g5, g6, g7, g8⟩ := h
  refine ⟨n, g1, ?_⟩
  rw [hf.F hc (by decide) h2, hf.F hc (by decide) h16, h12, hf.I hc (by decide) h13, hf.I hc (by decide) h14, hf.I hc (by decide) h15, r, r48, r55 55 (by omega) (by omega), r55 56 (by omega) (by omega), r55 57 (by omega) (by omega), r55 58 (by omega) (by omega)]
  refine ⟨g2, g3, g4, g5, g6, fun b hb => ?_, g8⟩
  rcases g7 b hb with k | ⟨a, p, k1, k2, k3⟩
  · exact Or.inl k
  · exact Or.inr ⟨a, p, k1, by rw [(hf a k2.ne.1).1]; exact k2, k3⟩
theorem KH.keep (h : KH X C R) (hc : CK X C) (hf : Fr C C1 W V) (c : ∀ k, 20 ≤ k → k ≤ 33 → ¬ W (X + k)) (r : ∀ j, j = 33 ∨ j = 35 ∨ j = 39 → sI R1 (X + 34) j = sI R (X + 34) j) (q : ∀ k, 63 ≤ k → k ≤ 69 → sI R1 (X + k) = sI R (X + k)) : KH X C1 R1 := by
  have c : ∀ k, 20 ≤ k → k ≤ 33 → sI C1 (X + k) = sI C (X + k) := fun k k1 k2 => hf.I hc (by omega) (c k k1 k2)
  obtain ⟨m, j, g1, g2, g⟩ := h
  refine ⟨m, j, g1, g2, ?_⟩
  rw [c 20 (by omega) (by omega), c 21 (by omega) (by omega), c 22 (by omega) (by omega), c 23 (by omega) (by omega), c 24 (by omega) (by omega), c 32 (by omega) (by omega), c 33 (by omega) (by omega), r 33 (by omega), r 35 (by omega), r 39 (by omega), q 63 (by omega) (by omega), q 64 (by omega) (by omega), q 65 (by omega) (by omega), q 66 (by omega) (by omega)]
  refine ⟨g.1, g.2.1, g.2.2.1, g.2.2.2.1, g.2.2.2.2.1, g.2.2.2.2.2.1, g.2.2.2.2.2.2.1, g.2.2.2.2.2.2.2.1, ?_⟩
  rcases g.2.2.2.2.2.2.2.2 with k | ⟨k1, k2⟩
  · exact Or.inl k
  · refine Or.inr ⟨k1, fun p hp => ?_⟩
    have := k2 p hp
    unfold PlanR at this ⊢
    have e : X + 26 + p = X + (26 + p) := by omega
    rw [c 32 (by omega) (by omega), c 33 (by omega) (by omega), e, c (26 + p) (by omega) (by omega), ← e, q 65 (by omega) (by omega), q 66 (by omega) (by omega), q 67 (by omega) (by omega), q 68 (by omega) (by omega), q 69 (by omega) (by omega)]
    exact this
theorem RK.mv (h : RK X R) (hT : sT R1 = sT R) (hN : sN R1 = sN R) (hF : sF R1 = sF R) : RK X R1 := by
  unfold RK
  rw [hT, hN, hF]
  exact h
theorem CK.mv (h : CK X C) (hT : sT C1 = sT C) (hN : sN C1 = sN C) (hF : sF C1 = sF C) : CK X C1 := by
  unfold CK
  rw [hT, hN, hF]
  exact h
/-- only the reference's memory moves, in rows that nothing is said of -/
theorem R0.refs (h : R0 X C R) (hT : sT R1 = sT R) (hN : sN R1 = sN R) (hF : sF R1 = sF R) (hJ : sJ R1 (X + 37) = sJ R (X + 37)) (hI : ∀ k, (35 ≤ k ∧ k ≤ 36) ∨ (38 ≤ k ∧ k ≤ 49) ∨ (55 ≤ k ∧ k ≤ 58) ∨ (63 ≤ k ∧ k ≤ 69) → sI R1 (X + k) = sI R (X + k)) (h34 : ∀ j, j = 17 ∨ j = 24 ∨ j = 33 ∨ j = 35 ∨ j = 39 → sI R1 (X + 34) j = sI R (X + 34) j) : R0 X C R1 := by
  have hf : Fr C C (fun _ => False) (fun _ => False) := Fr.rf
  exact ⟨h.ck, h.rk.mv hT hN hF, h.ks.keep h.ck hf (fun _ _ q => q) (fun _ _ q => q) id (hI 35 (by omega)) (hI 36 (by omega)) hJ, h.kp, h.kt.keep h.ck h.kp hf (fun _ _ _ _ q => q) (fun _ _ _ q => q) id (fun k k1 k2 => hI k (by omega)), h.ke.keep h.ck hf id id (h34 17 (by omega)) (hI 49 (by omega)), h.kf, h.kr.keep h.ck hf id id rfl id id id (h34 24 (by omega)) (hI 48 (by omega)) (fun k k1 k2 => hI k (by omega)), h.kh.keep h.ck hf (fun _ _ _ q => q) (fun j hj => h34 j (by omega)) (fun k k1 k2 => hI k (by omega))⟩
theorem R0.r01 (h : R0 X C R) {j : Nat} {v : Int32} (hj : j ≤ 1) : R0 X C (wI R (X + 34) j v) := h.refs rfl rfl rfl rfl (fun k hk => wI_row _ _ _ _ (by omega)) (fun k hk => wI_ne _ _ _ _ (by omega))
/-- what is written in the class's memory are ints of its own cells; the flow's part is given -/
theorem R0.stat (h : R0 X C R) (hf : Fr C C1 W (fun _ => False)) (hT : sT C1 = sT C) (hw : ∀ a, W a → ∃ k, k < 34 ∧ a = X + k ∧ k ≠ 3 ∧ k ≠ 4 ∧ k ≠ 13 ∧ k ≠ 14 ∧ k ≠ 15 ∧ ¬ (20 ≤ k ∧ k ≤ 33)) (h12 : sI C1 (X + 12) 4 = sI C (X + 12) 4) (kf : KF X C1) : R0 X C1 R := by
  have hd : ∀ a, sT C a = 8 ∨ sT C a = 22 → ¬ W a := by
    intro a ha hwa
    obtain ⟨k, hk, rfl, -⟩ := hw a hwa
    have := h.ck.tag hk
    omega
  have hn : ∀ k, (k = 3 ∨ k = 4 ∨ k = 13 ∨ k = 14 ∨ k = 15 ∨ (20 ≤ k ∧ k ≤ 33)) → ¬ W (X + k) := fun k hk q => by
    obtain ⟨j, h1, h2, h3⟩ := hw _ q
    omega
  have hw2 : ∀ a, X + 72 ≤ a → sT C a ≠ 8 → sT C a ≠ 22 → ¬ W a := fun a ha _ _ q => by
    obtain ⟨k, h1, h2, -⟩ := hw a q
    omega
  have hn0 : ∀ a, sT C a = 0 → ¬ isP (sT C1 a) ∧ sT C1 a ≠ 3 := fun a ha => by
    rw [hT, ha]
    exact ⟨by unfold isP; omega, by omega⟩
  exact ⟨h.ck.keep hf (by rw [hT]; exact h.ck.2.2) (fun _ _ q => q) (fun j hj => congrFun (hf.F h.ck (by decide) id) j), h.rk, h.ks.keep h.ck hf hd (fun _ _ q => q) id rfl rfl rfl, h.kp.keep hf hn0 hw2 (fun _ _ _ q => q), h.kt.keep h.ck h.kp hf hw2 (fun _ _ _ q => q) id (fun _ _ _ => rfl), h.ke.keep h.ck hf (hn 3 (by omega)) (hn 4 (by omega)) rfl rfl, kf, h.kr.keep h.ck hf id id h12 (hn 13 (by omega)) (hn 14 (by omega)) (hn 15 (by omega)) rfl rfl (fun _ _ _ => rfl), h.kh.keep h.ck hf (fun k k1 k2 => hn k (by omega)) (fun _ _ => rfl) (fun _ _ _ => rfl)⟩
theorem R0.c6 (h : R0 X C R) {v : Int32} : R0 X (wI C X 6 v) R := by
  have hf : Fr C (wI C X 6 v) (fun a => a = X) (fun _ => False) := Fr.rf.wI (Or.inr rfl)
  exact h.stat hf rfl (fun a ha => ⟨0, by omega⟩) (wI_ne _ _ _ _ (by omega)) (h.kf.keep h.ck h.kp hf (fun a h1 _ _ h2 => by omega) (fun _ _ _ q => q) id (fun k k1 k2 => by omega))
theorem R0.ka (h : R0 X C R) (e : sI C X 6 = sI R (X + 34) 1) : Rel X C R := ⟨e, h⟩
/-- both programs worked out: what is left -/
theorem al_fin {α : Type} {v v' : α} (hv : v = v') (hr : Rel X C1 R1) (h1 : sX R1 = sX R) (h2 : sS R1 = sS R) (h3 : sT R1 = sT R) (h4 : sX C1 ≤ sX C + 4) (h5 : sS C1 ≤ sS C + 400) : ∃ (x : α) (C2 R2 : St), some (v, C1) = some (x, C2) ∧ some (v', R1) = some (x, R2) ∧ Rel X C2 R2 ∧ sX R2 = sX R ∧ sS R2 = sS R ∧ sT R2 = sT R ∧ sX C2 ≤ sX C + 4 ∧ sS C2 ≤ sS C + 400 := ⟨v, C1, R1, rfl, by rw [hv], hr, h1, h2, h3, h4, h5⟩
/-- .. where no cell of the class's is made -/
theorem al_fi {α : Type} {v v' : α} (hv : v = v') (hr : Rel X C1 R1) (h1 : sX R1 = sX R) (h2 : sS R1 = sS R) (h3 : sT R1 = sT R) (h4 : sX C1 = sX C) (h5 : sS C1 = sS C) : ∃ (x : α) (C2 R2 : St), some (v, C1) = some (x, C2) ∧ some (v', R1) = some (x, R2) ∧ Rel X C2 R2 ∧ sX R2 = sX R ∧ sS R2 = sS R ∧ sT R2 = sT R ∧ sX C2 ≤ sX C + 4 ∧ sS C2 ≤ sS C + 400 := al_fin hv hr h1 h2 h3 (by omega) (by omega)
theorem wIr_self (S : St) (a : Nat) (f : Nat → Int32) (h : f = sI S a) : wIr S a f = S := by
  subst h
  show (sT S, sN S, va_up (sI S) a (sI S a), sJ S, sF S, sX S, sS S) = S
  rw [show va_up (sI S) a (sI S a) = sI S from by
    funext b
    by_cases e : b = a
    · rw [e, va_up_self]
    · rw [va_up_ne _ _ e]]
  rfl
theorem wJr_self (S : St) (a : Nat) (f : Nat → Int64) (h : f = sJ S a) : wJr S a f = S := by
  subst h
  show (sT S, sN S, sI S, va_up (sJ S) a (sJ S a), sF S, sX S, sS S) = S
  rw [show va_up (sJ S) a (sJ S a) = sJ S from by
    funext b
    by_cases e : b = a
    · rw [e, va_up_self]
    · rw [va_up_ne _ _ e]]
  rfl
theorem wIr_wI (S : St) (a k : Nat) (v : Int32) (f : Nat → Int32) : wIr (wI S a k v) a f = wIr S a f := by
  show (sT S, sN S, va_up (va_up (sI S) a (upd (sI S a) k v)) a f, sJ S, sF S, sX S, sS S) = (sT S, sN S, va_up (sI S) a f, sJ S, sF S, sX S, sS S)
  rw [show va_up (va_up (sI S) a (upd (sI S a) k v)) a f = va_up (sI S) a f from by
    funext b
    by_cases e : b = a
    · rw [e, va_up_self, va_up_self]
    · rw [va_up_ne _ _ e, va_up_ne _ _ e, va_up_ne _ _ e]]
theorem wJr_wJ (S : St) (a k : Nat) (v : Int64) (f : Nat → Int64) : wJr (wJ S a k v) a f = wJr S a f := by
  show (sT S, sN S, sI S, va_up (va_up (sJ S) a (vp_updL (sJ S a) k v)) a f, sF S, sX S, sS S) = (sT S, sN S, sI S, va_up (sJ S) a f, sF S, sX S, sS S)
  rw [show va_up (va_up (sJ S) a (vp_updL (sJ S a) k v)) a f = va_up (sJ S) a f from by
    funext b
    by_cases e : b = a
    · rw [e, va_up_self, va_up_self]
    · rw [va_up_ne _ _ e, va_up_ne _ _ e, va_up_ne _ _ e]]
theorem wIr_at (S : St) (a : Nat) (f : Nat → Int32) : sI (wIr S a f) a = f := va_up_self _ _ _
theorem wJr_at (S : St) (a : Nat) (f : Nat → Int64) : sJ (wJr S a f) a = f := va_up_self _ _ _
theorem wI_at (S : St) (a k : Nat) (v : Int32) (j : Nat) : sI (wI S a k v) a j = if j = k then v else sI S a j := by rw [wI_I]; simp
theorem wJ_at (S : St) (a k : Nat) (v : Int64) (j : Nat) : sJ (wJ S a k v) a j = if j = k then v else sJ S a j := by rw [wJ_J]; simp
theorem wF_at (S : St) (a k : Nat) (v : Option Nat) (j : Nat) : sF (wF S a k v) a j = if j = k then v else sF S a j := by rw [wF_F]; simp
end Fr
