/-! (B) plan: sets as numbers; the least pains, pure -/
section Dp
def mem (s i : Nat) : Prop := s.testBit i = true
def rmv (s j : Nat) : Nat := s ^^^ 2 ^ j
theorem rmv_b {s j i : Nat} (h : mem s j) : mem (rmv s j) i ↔ mem s i ∧ i ≠ j := by
  unfold mem rmv at *
  rw [Nat.testBit_xor, Nat.testBit_two_pow]
  by_cases e : j = i
  · subst e
    rw [h]
    simp
  · have e' : i ≠ j := fun q => e q.symm
    simp [e, e']
theorem rmv_lt {s j : Nat} (h : mem s j) : rmv s j < s := by
  have e : rmv s j ||| 2 ^ j = s := by
    apply Nat.eq_of_testBit_eq
    intro i
    unfold rmv
    rw [Nat.testBit_or, Nat.testBit_xor, Nat.testBit_two_pow]
    by_cases e : j = i
    · subst e
      rw [show s.testBit j = true from h]
      simp
    · simp [e]
  have l : rmv s j ≤ rmv s j ||| 2 ^ j := Nat.left_le_or
  rw [e] at l
  refine Nat.lt_of_le_of_ne l (fun q => ?_)
  have := (rmv_b (i := j) h)
  rw [q] at this
  exact (this.mp h).2 rfl
theorem mem_lt {s n i : Nat} (hs : s < 2 ^ n) (h : mem s i) : i < n := Classical.byContradiction fun q => by
  have := Nat.testBit_lt_two_pow (Nat.lt_of_lt_of_le hs (Nat.pow_le_pow_right (by omega) (by omega : n ≤ i)))
  unfold mem at h
  rw [this] at h
  cases h
theorem mem_full {n i : Nat} : mem (2 ^ n - 1) i ↔ i < n := by
  unfold mem
  rw [Nat.testBit_two_pow_sub_one]
  simp
def dwn (x y : Nat) : Nat := if y < x then 3 + 5 * (x - y) else 0
/-- the pains from one colour to another -/
def pn (x y : Nat) : Nat := (y - x) + dwn x y
theorem pn_le {x y : Nat} (hx : x ≤ 9) (hy : y ≤ 9) : pn x y ≤ 48 := by
  unfold pn dwn
  split <;> omega
/-- what is known of the least pains t of going through s from k -/
def PT (cl : Nat → Nat) (s k t : Nat) : Prop := (∀ a b, mem s a → mem s b → (cl a - cl k) + dwn (cl k) (cl b) ≤ t) ∧ ((∀ i, mem s i → cl k ≤ cl i) → (t = 0 ∧ ∀ i, ¬ mem s i) ∨ ∃ a, mem s a ∧ t = cl a - cl k) ∧ t ≤ 48 * s
variable {cl : Nat → Nat} {s k t : Nat}
theorem least_col (h : ∃ i, mem s i) : ∃ j, mem s j ∧ ∀ i, mem s i → cl j ≤ cl i := by
  obtain ⟨i, hi⟩ := h
  obtain ⟨c, ⟨j, j1, j2⟩, h2⟩ := pk_least (fun c => ∃ j, mem s j ∧ cl j = c) ⟨cl i, i, hi, rfl⟩
  refine ⟨j, j1, fun x hx => Classical.byContradiction fun q => h2 (cl x) (by omega) ⟨x, hx, rfl⟩⟩
theorem PT.step {tv : Nat → Nat} (hc : ∀ i, mem s i → cl i ≤ 9) (hk : cl k ≤ 9) (h : ∀ j, mem s j → PT cl (rmv s j) j (tv j)) (lo : ∀ j, mem s j → t ≤ pn (cl k) (cl j) + tv j) (at' : (t = 0 ∧ ∀ j, ¬ mem s j) ∨ ∃ j, mem s j ∧ t = pn (cl k) (cl j) + tv j) : PT cl s k t := by
  have lower : ∀ a b, mem s a → mem s b → (cl a - cl k) + dwn (cl k) (cl b) ≤ t := fun a b ha hb => by
    rcases at' with ⟨-, q⟩ | ⟨j, j1, j2⟩
    · exact absurd ha (q a)
    · have p := (h j j1).1
      rw [j2]
      have ra := rmv_b (i := a) j1
      have rb := rmv_b (i := b) j1
      by_cases ea : a = j
      · by_cases eb : b = j
        · rw [ea, eb]
          unfold pn
          omega
        · have := p b b (rb.mpr ⟨hb, eb⟩) (rb.mpr ⟨hb, eb⟩)
          rw [ea]
          unfold pn dwn at *
          split <;> split at this <;> (try split) <;> omega
      · by_cases eb : b = j
        · have := p a a (ra.mpr ⟨ha, ea⟩) (ra.mpr ⟨ha, ea⟩)
          rw [eb]
          unfold pn dwn at *
          split <;> split at this <;> omega
        · have := p a b (ra.mpr ⟨ha, ea⟩) (rb.mpr ⟨hb, eb⟩)
          unfold pn dwn at *
          split <;> split at this <;> (try split) <;> omega
  refine ⟨lower, fun q => ?_, ?_⟩
  · by_cases em : ∃ i, mem s i
    · obtain ⟨j0, m0, m1⟩ := least_col (cl := cl) em
      have up := lo j0 m0
      have k0 := q j0 m0
      have p0 : pn (cl k) (cl j0) = cl j0 - cl k := by unfold pn dwn; rw [if_neg (by omega)]; omega
      rw [p0] at up
      rcases (h j0 m0).2.1 (fun i hi => m1 i ((rmv_b m0).mp hi).1) with ⟨z1, z2⟩ | ⟨a, a1, a2⟩
      · have := lower j0 j0 m0 m0
        refine Or.inr ⟨j0, m0, ?_⟩
        omega
      · have am := ((rmv_b m0).mp a1).1
        have := lower a a am am
        have := q a am
        have := m1 a am
        refine Or.inr ⟨a, am, ?_⟩
        omega
    · rcases at' with z | ⟨j, j1, -⟩
      · exact Or.inl z
      · exact absurd ⟨j, j1⟩ em
  · rcases at' with ⟨z, -⟩ | ⟨j, j1, j2⟩
    · omega
    · have a := (h j j1).2.2
      have b := rmv_lt j1
      have c := pn_le hk (hc j j1)
      omega
def px (x : Option Nat) (c : Nat) : Nat := match x with
  | none => 0
  | some y => pn y c
def bx (x : Option Nat) (c : Nat) : Nat := match x with
  | none => c
  | some y => y
def lx (x : Option Nat) : Nat := match x with
  | none => 0
  | some y => y
/-- the first least of what may come next has the least colour, and the least number of those -/
theorem next_ok {left j0 : Nat} {tv : Nat → Nat} {x : Option Nat} (hx : ∀ i, mem left i → lx x ≤ cl i) (h : ∀ j, mem left j → PT cl (rmv left j) j (tv j)) (m0 : mem left j0) (l0 : ∀ j, mem left j → px x (cl j0) + tv j0 ≤ px x (cl j) + tv j) (l1 : ∀ j, mem left j → j < j0 → px x (cl j0) + tv j0 < px x (cl j) + tv j) : ∀ i, mem left i → cl j0 < cl i ∨ (cl j0 = cl i ∧ j0 ≤ i) := by
  obtain ⟨m, mm, mc⟩ := least_col (cl := cl) ⟨j0, m0⟩
  -- a cell of the least colour: what it comes to
  have val : ∀ m, mem left m → (∀ i, mem left i → cl m ≤ cl i) → ∀ i, mem left i → (∃ e, mem left e ∧ px x (cl m) + tv m + bx x (cl m) = cl e) := fun m mm mc i hi => by
    have hm := hx m mm
    rcases (h m mm).2.1 (fun i hi => mc i ((rmv_b mm).mp hi).1) with ⟨z1, z2⟩ | ⟨a, a1, a2⟩
    · refine ⟨m, mm, ?_⟩
      rcases x with _ | y
      · show 0 + tv m + cl m = cl m
        omega
      · have hm : y ≤ cl m := hm
        show pn y (cl m) + tv m + y = cl m
        unfold pn dwn
        rw [if_neg (by omega)]
        omega
    · have am := ((rmv_b mm).mp a1).1
      have := mc a am
      refine ⟨a, am, ?_⟩
      rcases x with _ | y
      · show 0 + tv m + cl m = cl a
        omega
      · have hm : y ≤ cl m := hm
        show pn y (cl m) + tv m + y = cl a
        unfold pn dwn
        rw [if_neg (by omega)]
        omega
  -- j0 has the least colour
  have c0 : cl j0 = cl m := by
    refine Classical.byContradiction fun ne => ?_
    have lt0 : cl m < cl j0 := by have := mc j0 m0; omega
    have nm : m ≠ j0 := fun q => ne (by rw [q])
    obtain ⟨e, e1, e2⟩ := val m mm mc j0 m0
    have u := l0 m mm
    have p := (h j0 m0).1
    have rm := (rmv_b (i := m) m0).mpr ⟨mm, nm⟩
    have hj := hx j0 m0
    have hmx := hx m mm
    -- what j0 comes to is more
    have big : cl e < px x (cl j0) + tv j0 + bx x (cl m) := by
      by_cases ee : e = j0
      · have q := p m m rm rm
        rw [ee]
        rcases x with _ | y
        · show cl j0 < 0 + tv j0 + cl m
          unfold dwn at q
          rw [if_pos lt0] at q
          omega
        · have hj : y ≤ cl j0 := hj
          show cl j0 < pn y (cl j0) + tv j0 + y
          unfold pn
          unfold dwn at q ⊢
          rw [if_pos lt0] at q
          rw [if_neg (by omega)]
          omega
      · have q := p e m ((rmv_b m0).mpr ⟨e1, ee⟩) rm
        rcases x with _ | y
        · show cl e < 0 + tv j0 + cl m
          unfold dwn at q
          rw [if_pos lt0] at q
          omega
        · have hj : y ≤ cl j0 := hj
          show cl e < pn y (cl j0) + tv j0 + y
          unfold pn
          unfold dwn at q ⊢
          rw [if_pos lt0] at q
          rw [if_neg (by omega)]
          omega
    omega
  intro i hi
  have mi := mc i hi
  by_cases ei : cl j0 = cl i
  · refine Or.inr ⟨ei, Classical.byContradiction fun q => ?_⟩
    have s := l1 i hi (by omega)
    obtain ⟨e, e1, e2⟩ := val j0 m0 (fun z hz => by have := mc z hz; omega) i hi
    obtain ⟨f, f1, f2⟩ := val i hi (fun z hz => by have := mc z hz; omega) i hi
    -- both come to the same: the greatest colour
    have g : ∀ w, mem left w → cl w = cl m → ∀ z, mem left z → cl z ≤ px x (cl w) + tv w + bx x (cl w) := fun w hw wc z hz => by
      have hwx := hx w hw
      have wz : cl w ≤ cl z := by have := mc z hz; omega
      by_cases ez : z = w
      · rw [ez]
        rcases x with _ | y
        · show cl w ≤ 0 + tv w + cl w
          omega
        · have hwx : y ≤ cl w := hwx
          show cl w ≤ pn y (cl w) + tv w + y
          unfold pn
          omega
      · have := (h w hw).1 z z ((rmv_b hw).mpr ⟨hz, ez⟩) ((rmv_b hw).mpr ⟨hz, ez⟩)
        rcases x with _ | y
        · show cl z ≤ 0 + tv w + cl w
          omega
        · have hwx : y ≤ cl w := hwx
          show cl z ≤ pn y (cl w) + tv w + y
          unfold pn
          omega
    have g1 := g j0 m0 c0 f f1
    have g2 := g i hi (by omega) e e1
    rcases x with _ | y
    · have e2 : 0 + tv j0 + cl j0 = cl e := e2
      have f2 : 0 + tv i + cl i = cl f := f2
      have g1 : cl f ≤ 0 + tv j0 + cl j0 := g1
      have g2 : cl e ≤ 0 + tv i + cl i := g2
      have s : 0 + tv j0 < 0 + tv i := s
      omega
    · have e2 : pn y (cl j0) + tv j0 + y = cl e := e2
      have f2 : pn y (cl i) + tv i + y = cl f := f2
      have g1 : cl f ≤ pn y (cl j0) + tv j0 + y := g1
      have g2 : cl e ≤ pn y (cl i) + tv i + y := g2
      have s : pn y (cl j0) + tv j0 < pn y (cl i) + tv i := s
      omega
  · exact Or.inl (by omega)
end Dp
