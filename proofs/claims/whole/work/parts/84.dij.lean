/-! (B) how a part fills, cell by cell: pure -/
section Dj
variable {D : PD} {L L' : Nat → Nat} {k : Nat} {o : Nat → Nat}
theorem pigeon : ∀ (N k : Nat) (o : Nat → Nat), (∀ r, r < k → o r < N) → (∀ r s, r < s → s < k → o r ≠ o s) → k ≤ N := by
  intro N
  induction N with
  | zero => intro k o h _; exact Nat.le_of_not_lt (fun q => absurd (h 0 q) (by omega))
  | succ N ih =>
    intro k o h1 h2
    rcases Nat.eq_zero_or_pos k with q | q
    · omega
    · have := ih (k - 1) (fun r => if o r = N then o (k - 1) else o r) (fun r hr => by
        show (if o r = N then o (k - 1) else o r) < N
        have a := h1 r (by omega)
        have b := h1 (k - 1) (by omega)
        have c := h2 r (k - 1) (by omega) (by omega)
        split <;> omega) (fun r s hr hs => by
        show (if o r = N then o (k - 1) else o r) ≠ (if o s = N then o (k - 1) else o s)
        have a := h2 r s hr (by omega)
        have b := h2 r (k - 1) (by omega) (by omega)
        have c := h2 s (k - 1) (by omega) (by omega)
        split <;> split <;> omega)
      omega
/-- settled -/
def stl (k : Nat) (o : Nat → Nat) (c : Nat) : Prop := ∃ r, r < k ∧ o r = c
def Dj (D : PD) (L : Nat → Nat) (k : Nat) (o : Nat → Nat) : Prop :=
  (∀ c, L c ≤ NO) ∧ (∀ c, L c ≠ NO → c < pdN D ∧ 0 < pdT D c ∧ L c ≤ 20000 * (k + 1) + 3) ∧ (∀ r, r < k → L (o r) ≠ NO) ∧ (∀ r s, r < s → s < k → bef L (o r) (o s)) ∧ (∀ r c, r < k → L c ≠ NO → ¬ stl k o c → bef L (o r) c) ∧ (∀ j, j < pdG D → L (pdQ D j) ≤ 4 * dr (pdT D (pdQ D j)) + j) ∧ (∀ r d, r < k → nbr D (o r) d → L d ≤ L (o r) + 4 * dr (pdT D d)) ∧ ∀ c, L c ≠ NO → (∃ j, j < pdG D ∧ pdQ D j = c ∧ L c = 4 * dr (pdT D c) + j) ∨ ∃ r, r < k ∧ nbr D (o r) c ∧ L c = L (o r) + 4 * dr (pdT D c)
theorem bef.ne {a b : Nat} (h : bef L a b) : a ≠ b := fun q => by
  subst q
  unfold bef at h
  omega
theorem Dj.kn (h : Dj D L k o) : k ≤ pdN D := pigeon _ _ o (fun r hr => (h.2.1 _ (h.2.2.1 r hr)).1) (fun r s hr hs => (h.2.2.2.1 r s hr hs).ne)
theorem Dj.fs (h : Dj D L k o) (e : ∀ c, L c ≠ NO → stl k o c) : FS D L k o := by
  have hk := h.kn
  obtain ⟨a1, a2, a3, a4, a5, a6, a7, a8⟩ := h
  refine ⟨fun c _ => a1 c, fun c _ q => (a2 c q).2.1, hk, fun r hr => ⟨(a2 _ (a3 r hr)).1, a3 r hr⟩, fun c _ q => e c q, fun r s hr hs => a4 r s hr hs, a6, fun c d n q => ?_, fun c _ q => ?_⟩
  · obtain ⟨r, r1, r2⟩ := e c q
    subst r2
    exact a7 r d r1 n
  · rcases a8 c q with g | ⟨r, r1, r2, r3⟩
    · exact Or.inl g
    · exact Or.inr ⟨o r, r2, a3 r r1, r3⟩
theorem Dj.start (hg : pdG D ≤ 4) (hq : ∀ j, j < pdG D → pdQ D j < pdN D ∧ 0 < pdT D (pdQ D j)) (h1 : ∀ j, j < pdG D → L (pdQ D j) = 4 * dr (pdT D (pdQ D j)) + j) (h2 : ∀ c, L c ≠ NO → ∃ j, j < pdG D ∧ pdQ D j = c) : Dj D L 0 o := by
  refine ⟨fun c => ?_, fun c q => ?_, fun r hr => by omega, fun r s _ hs => by omega, fun r c hr => by omega, fun j hj => Nat.le_of_eq (h1 j hj), fun r d hr => by omega, fun c q => ?_⟩
  · by_cases e : L c = NO
    · omega
    · obtain ⟨j, j1, rfl⟩ := h2 c e
      have := h1 j j1
      have := dr_le (pdT D (pdQ D j))
      unfold NO
      omega
  · obtain ⟨j, j1, rfl⟩ := h2 c q
    have := h1 j j1
    have := dr_le (pdT D (pdQ D j))
    exact ⟨(hq j j1).1, (hq j j1).2, by omega⟩
  · obtain ⟨j, j1, rfl⟩ := h2 c q
    exact Or.inl ⟨j, j1, rfl, h1 j j1⟩
theorem Dj.step (hT : ∀ c, c < pdN D → pdT D c ≤ 9) (h : Dj D L k o) {c : Nat} (c1 : L c ≠ NO) (c2 : ¬ stl k o c) (c3 : ∀ d, L d ≠ NO → ¬ stl k o d → d ≠ c → bef L c d) (p1 : ∀ x, L' x = L x ∨ (nbr D c x ∧ L' x = L c + 4 * dr (pdT D x) ∧ L' x < L x)) (p2 : ∀ x, nbr D c x → L' x ≤ L c + 4 * dr (pdT D x)) : Dj D L' (k + 1) (fun r => if r = k then c else o r) := by
  obtain ⟨a1, a2, a3, a4, a5, a6, a7, a8⟩ := h
  have oc : (if k = k then c else o k) = c := if_pos rfl
  have oo : ∀ r, r < k → (if r = k then c else o r) = o r := fun r hr => if_neg (by omega)
  have big : ∀ x, nbr D c x → 6 ≤ dr (pdT D x) := fun x n => dr_pos n.2.2.2.1 (hT x n.2.1)
  have fx : ∀ r, r < k → L' (o r) = L (o r) := fun r hr => by
    rcases p1 (o r) with q | ⟨q1, q2, q3⟩
    · exact q
    · have b := a5 r c hr c1 c2
      have := big _ q1
      unfold bef at b
      omega
  have fc : L' c = L c := by
    rcases p1 c with q | ⟨q1, q2, q3⟩
    · exact q
    · omega
  have le : ∀ x, L' x ≤ L x := fun x => by
    rcases p1 x with q | ⟨q1, q2, q3⟩ <;> omega
  have ns : ∀ x, ¬ stl (k + 1) (fun r => if r = k then c else o r) x → x ≠ c ∧ ¬ stl k o x := fun x q => by
    refine ⟨fun e => q ⟨k, by omega, ?_⟩, fun ⟨r, r1, r2⟩ => q ⟨r, by omega, ?_⟩⟩
    · show (if k = k then c else o k) = x
      rw [oc, e]
    · show (if r = k then c else o r) = x
      rw [oo r r1]
      exact r2
  refine ⟨fun x => Nat.le_trans (le x) (a1 x), fun x q => ?_, fun r hr => ?_, fun r s hr hs => ?_, fun r x hr q1 q2 => ?_, fun j hj => Nat.le_trans (le _) (a6 j hj), fun r d hr n => ?_, fun x q => ?_⟩
  · rcases p1 x with e | ⟨e1, e2, e3⟩
    · rw [e] at q ⊢
      have := a2 x q
      exact ⟨this.1, this.2.1, by omega⟩
    · have := (a2 c c1).2.2
      have := dr_le (pdT D x)
      exact ⟨e1.2.1, e1.2.2.2.1, by omega⟩
  · show L' (if r = k then c else o r) ≠ NO
    by_cases e : r = k
    · rw [if_pos e, fc]; exact c1
    · rw [if_neg e, fx r (by omega)]; exact a3 r (by omega)
  · show bef L' (if r = k then c else o r) (if s = k then c else o s)
    rw [if_neg (by omega : ¬ r = k)]
    by_cases e : s = k
    · rw [if_pos e]
      have := a5 r c (by omega) c1 c2
      unfold bef at this ⊢
      rw [fx r (by omega), fc]
      exact this
    · rw [if_neg e]
      have := a4 r s hr (by omega)
      unfold bef at this ⊢
      rw [fx r (by omega), fx s (by omega)]
      exact this
  · show bef L' (if r = k then c else o r) x
    obtain ⟨x1, x2⟩ := ns x q2
    rcases p1 x with e | ⟨e1, e2, e3⟩
    · rw [e] at q1
      by_cases g : r = k
      · rw [if_pos g]
        have := c3 x q1 x2 x1
        unfold bef at this ⊢
        rw [fc, e]
        exact this
      · rw [if_neg g]
        have := a5 r x (by omega) q1 x2
        unfold bef at this ⊢
        rw [fx r (by omega), e]
        exact this
    · have b := big x e1
      by_cases g : r = k
      · rw [if_pos g]
        unfold bef
        rw [fc]
        omega
      · rw [if_neg g]
        have := a5 r c (by omega) c1 c2
        unfold bef at this ⊢
        rw [fx r (by omega)]
        omega
  · by_cases g : r = k
    · have n : nbr D c d := by
        have n : nbr D (if r = k then c else o r) d := n
        rw [if_pos g] at n
        exact n
      show L' d ≤ L' (if r = k then c else o r) + _
      rw [if_pos g, fc]
      exact p2 d n
    · have n : nbr D (o r) d := by
        have n : nbr D (if r = k then c else o r) d := n
        rw [if_neg g] at n
        exact n
      show L' d ≤ L' (if r = k then c else o r) + _
      rw [if_neg g, fx r (by omega)]
      exact Nat.le_trans (le d) (a7 r d (by omega) n)
  · rcases p1 x with e | ⟨e1, e2, e3⟩
    · rw [e] at q
      rcases a8 x q with ⟨j, j1, j2, j3⟩ | ⟨r, r1, r2, r3⟩
      · exact Or.inl ⟨j, j1, j2, by rw [e]; exact j3⟩
      · refine Or.inr ⟨r, by omega, ?_, ?_⟩
        · show nbr D (if r = k then c else o r) x
          rw [oo r r1]; exact r2
        · show L' x = L' (if r = k then c else o r) + _
          rw [oo r r1, e, fx r r1]; exact r3
    · refine Or.inr ⟨k, by omega, ?_, ?_⟩
      · show nbr D (if k = k then c else o k) x
        rw [oc]; exact e1
      · show L' x = L' (if k = k then c else o k) + _
        rw [oc, fc]; exact e2
-- the places beside
theorem xy_of {w h c : Nat} (hc : c < w * h) : ∃ x y, c = w * y + x ∧ x < w ∧ y < h ∧ c % w = x ∧ c / w = y ∧ (c + w < w * h ↔ y + 1 < h) ∧ (w ≤ c ↔ 1 ≤ y) := by
  have w0 : 0 < w := Nat.pos_of_ne_zero (fun q => by rw [q, Nat.zero_mul] at hc; omega)
  have e := Nat.div_add_mod c w
  have l := Nat.mod_lt c w0
  have y1 : c / w < h := Nat.div_lt_of_lt_mul hc
  refine ⟨c % w, c / w, e.symm, l, y1, rfl, rfl, ⟨fun q => ?_, fun q => ?_⟩, ⟨fun q => ?_, fun q => ?_⟩⟩
  · refine Classical.byContradiction fun n => ?_
    have := Nat.mul_le_mul_left w (by omega : h ≤ c / w + 1)
    rw [Nat.mul_add, Nat.mul_one] at this
    omega
  · have := Nat.mul_le_mul_left w (by omega : c / w + 2 ≤ h)
    rw [Nat.mul_add] at this
    omega
  · refine Classical.byContradiction fun n => ?_
    have : c / w = 0 := Nat.eq_zero_of_not_pos n
    rw [this, Nat.mul_zero] at e
    omega
  · have := Nat.mul_le_mul_left w q
    omega
theorem nbN_lt {w h c way d : Nat} (hc : c < w * h) (e : nbN w h c way = some d) : d < w * h ∧ d ≠ c := by
  obtain ⟨x, y, c1, x1, y1, x2, y2, i1, i2⟩ := xy_of hc
  have m := Nat.mul_le_mul_left w (by omega : y + 1 ≤ h)
  rw [Nat.mul_add, Nat.mul_one] at m
  unfold nbN at e
  rw [x2] at e
  by_cases w1 : way = 0
  · rw [if_pos w1] at e
    by_cases g : x + 1 < w
    · rw [if_pos g] at e
      cases e
      omega
    · rw [if_neg g] at e; cases e
  · rw [if_neg w1] at e
    by_cases w2 : way = 1
    · rw [if_pos w2] at e
      by_cases g : c + w < w * h
      · rw [if_pos g] at e
        cases e
        omega
      · rw [if_neg g] at e; cases e
    · rw [if_neg w2] at e
      by_cases w3 : way = 2
      · rw [if_pos w3] at e
        by_cases g : 0 < x
        · rw [if_pos g] at e
          cases e
          omega
        · rw [if_neg g] at e; cases e
      · rw [if_neg w3] at e
        by_cases g : w ≤ c
        · rw [if_pos g] at e
          cases e
          omega
        · rw [if_neg g] at e; cases e
end Dj
