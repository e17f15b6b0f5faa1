/-! (B) how a part fills: the solution is one; ways are as long backwards -/
section FS
variable {D : PD} {L L' : Nat → Nat} {k k' : Nat} {o o' : Nat → Nat}
theorem dr_pos {t : Nat} (h0 : 0 < t) (h : t ≤ 9) : 6 ≤ dr t := by
  have e : t = 1 ∨ t = 2 ∨ t = 3 ∨ t = 4 ∨ t = 5 ∨ t = 6 ∨ t = 7 ∨ t = 8 ∨ t = 9 := by omega
  rcases e with rfl | rfl | rfl | rfl | rfl | rfl | rfl | rfl | rfl <;> decide
theorem dr_le (t : Nat) : dr t ≤ 5000 := Nat.div_le_self _ _
theorem FS.le (hT : ∀ c, c < pdN D → pdT D c ≤ 9) (h : FS D L k o) (h' : FS D L' k' o') : ∀ n c, c < pdN D → L' c = n → L c ≤ L' c := by
  intro n
  induction n using Nat.strongRecOn with
  | ind n ih =>
    intro c hc e
    by_cases e0 : L' c = NO
    · rw [e0]; exact h.1 c hc
    · rcases h'.2.2.2.2.2.2.2.2 c hc e0 with ⟨j, j1, j2, j3⟩ | ⟨d, d1, d2, d3⟩
      · have := h.2.2.2.2.2.2.1 j j1
        rw [j2] at this
        omega
      · have p := dr_pos (h'.2.1 c hc e0) (hT c hc)
        have i := ih (L' d) (by omega) d d1.1 rfl
        have b := h'.1 d d1.1
        have n0 : L d ≠ NO := by omega
        have := h.2.2.2.2.2.2.2.1 d c d1 n0
        omega
theorem FS.eqL (hT : ∀ c, c < pdN D → pdT D c ≤ 9) (h : FS D L k o) (h' : FS D L' k' o') {c : Nat} (hc : c < pdN D) : L c = L' c := Nat.le_antisymm (h.le hT h' _ c hc rfl) (h'.le hT h _ c hc rfl)
/-- a before b in the order -/
def bef (L : Nat → Nat) (a b : Nat) : Prop := L a / 4 < L b / 4 ∨ (L a / 4 = L b / 4 ∧ a < b)
theorem FS.ord (hL : ∀ c, c < pdN D → L c = L' c) (h : FS D L k o) (h' : FS D L' k' o') : ∀ r, r < k → r < k' → o r = o' r := by
  intro r
  induction r using Nat.strongRecOn with
  | ind r ih =>
    intro r1 r2
    have a := h.2.2.2.1 r r1
    have b := h'.2.2.2.1 r r2
    have la := hL _ a.1
    have lb := hL _ b.1
    obtain ⟨t, t1, t2⟩ := h'.2.2.2.2.1 (o r) a.1 (by rw [← la]; exact a.2)
    obtain ⟨s, s1, s2⟩ := h.2.2.2.2.1 (o' r) b.1 (by rw [lb]; exact b.2)
    have q1 : r ≤ t := Classical.byContradiction fun q => by
      have e := ih t (by omega) (by omega) t1
      have := h.2.2.2.2.2.1 t r (by omega) r1
      rw [e, t2] at this
      omega
    have q2 : r ≤ s := Classical.byContradiction fun q => by
      have e := ih s (by omega) s1 (by omega)
      have := h'.2.2.2.2.2.1 s r (by omega) r2
      rw [← e, s2] at this
      omega
    by_cases e1 : r = t
    · rw [e1, t2, e1]
    · by_cases e2 : r = s
      · rw [← s2, ← e2]
      · have u := h'.2.2.2.2.2.1 r t (by omega) t1
        have v := h.2.2.2.2.2.1 r s (by omega) s1
        rw [t2] at u
        rw [s2] at v
        rw [← la, ← lb] at u
        omega
theorem FS.uniq (hT : ∀ c, c < pdN D → pdT D c ≤ 9) (h : FS D L k o) (h' : FS D L' k' o') : (∀ c, c < pdN D → L c = L' c) ∧ k = k' ∧ ∀ r, r < k → o r = o' r := by
  have hL : ∀ c, c < pdN D → L c = L' c := fun c hc => h.eqL hT h' hc
  have ho := h.ord hL h'
  have hk : k = k' := by
    rcases Nat.lt_trichotomy k k' with q | q | q
    · have b := h'.2.2.2.1 k q
      obtain ⟨s, s1, s2⟩ := h.2.2.2.2.1 (o' k) b.1 (by rw [hL _ b.1]; exact b.2)
      have e := ho s s1 (by omega)
      have := h'.2.2.2.2.2.1 s k s1 q
      rw [← e, s2] at this
      omega
    · exact q
    · have b := h.2.2.2.1 k' q
      obtain ⟨s, s1, s2⟩ := h'.2.2.2.2.1 (o k') b.1 (by rw [← hL _ b.1]; exact b.2)
      have e := ho s (by omega) s1
      have := h.2.2.2.2.2.1 s k' s1 q
      rw [e, s2] at this
      omega
  exact ⟨hL, hk, fun r hr => ho r hr (by omega)⟩
theorem FS.ends (hT : ∀ c, c < pdN D → pdT D c ≤ 9) (h : FS D L k o) (h' : FS D L' k' o') : endsOf L k o = endsOf L' k' o' := by
  obtain ⟨u1, u2, u3⟩ := h.uniq hT h'
  unfold endsOf
  subst u2
  by_cases e : k = 0
  · rw [if_pos e, if_pos e]
  · rw [if_neg e, if_neg e, ← u3 (k - 1) (by omega), u1 _ (h.2.2.2.1 (k - 1) (by omega)).1]
/-- the solution speaks of the gates alone that count -/
theorem FS.q {D' : PD} (h : FS D L k o) (e1 : pdW D' = pdW D) (e2 : pdH D' = pdH D) (e3 : pdT D' = pdT D) (e4 : pdG D' = pdG D) (e5 : ∀ j, j < pdG D → pdQ D' j = pdQ D j) : FS D' L k o := by
  have eN : pdN D' = pdN D := by unfold pdN; rw [e1, e2]
  have en : ∀ c d, nbr D' c d ↔ nbr D c d := fun c d => by unfold nbr; rw [eN, e1, e2, e3]
  obtain ⟨a1, a2, a3, a4, a5, a6, a7, a8, a9⟩ := h
  unfold FS
  rw [eN, e3, e4]
  refine ⟨a1, a2, a3, a4, a5, a6, fun j hj => by rw [e5 j hj]; exact a7 j hj, fun c d g => a8 c d ((en c d).mp g), fun c hc e => ?_⟩
  rcases a9 c hc e with ⟨j, j1, j2⟩ | ⟨d, d1, d2⟩
  · exact Or.inl ⟨j, j1, by rw [e5 j j1]; exact j2⟩
  · exact Or.inr ⟨d, (en d c).mpr d1, d2⟩
theorem mod_up {c w : Nat} (h : c % w + 1 < w) : (c + 1) % w = c % w + 1 := by
  have e := Nat.div_add_mod c w
  have e2 : c + 1 = w * (c / w) + (c % w + 1) := by omega
  rw [e2, Nat.mul_add_mod, Nat.mod_eq_of_lt h]
theorem mod_dn {c w : Nat} (h : 0 < c % w) (hw : 0 < w) : (c - 1) % w = c % w - 1 := by
  have e := Nat.div_add_mod c w
  have l := Nat.mod_lt c hw
  have e2 : c - 1 = w * (c / w) + (c % w - 1) := by omega
  have e3 : (w * (c / w) + (c % w - 1)) % w = c % w - 1 := by rw [Nat.mul_add_mod, Nat.mod_eq_of_lt (by omega)]
  rw [e2, e3]
theorem nbN_sy {w h c d way : Nat} (hw : way < 4) (hc : c < w * h) (e : nbN w h c way = some d) : ∃ v, v < 4 ∧ nbN w h d v = some c := by
  have w0 : 0 < w := Nat.pos_of_ne_zero (fun q => by rw [q, Nat.zero_mul] at hc; omega)
  unfold nbN at e
  by_cases w1 : way = 0
  · rw [if_pos w1] at e
    by_cases g : c % w + 1 < w
    · rw [if_pos g] at e
      cases e
      refine ⟨2, by omega, ?_⟩
      unfold nbN
      rw [if_neg (by omega), if_neg (by omega), if_pos rfl, mod_up g, if_pos (by omega)]
      rfl
    · rw [if_neg g] at e; cases e
  · rw [if_neg w1] at e
    by_cases w2 : way = 1
    · rw [if_pos w2] at e
      by_cases g : c + w < w * h
      · rw [if_pos g] at e
        cases e
        refine ⟨3, by omega, ?_⟩
        unfold nbN
        rw [if_neg (by omega), if_neg (by omega), if_neg (by omega), if_pos (by omega), Nat.add_sub_cancel]
      · rw [if_neg g] at e; cases e
    · rw [if_neg w2] at e
      by_cases w3 : way = 2
      · rw [if_pos w3] at e
        by_cases g : 0 < c % w
        · rw [if_pos g] at e
          cases e
          refine ⟨0, by omega, ?_⟩
          have l := Nat.mod_lt c w0
          have l2 := Nat.mod_le c w
          unfold nbN
          rw [if_pos rfl, mod_dn g w0, if_pos (by omega)]
          congr 1
          omega
        · rw [if_neg g] at e; cases e
      · rw [if_neg w3] at e
        by_cases g : w ≤ c
        · rw [if_pos g] at e
          cases e
          refine ⟨1, by omega, ?_⟩
          unfold nbN
          rw [if_neg (by omega), if_pos rfl, if_pos (by omega)]
          congr 1
          omega
        · rw [if_neg g] at e; cases e
theorem nbr.sy {c d : Nat} (h : nbr D c d) : nbr D d c := by
  obtain ⟨h1, h2, h3, h4, way, h5, h6⟩ := h
  exact ⟨h2, h1, h4, h3, nbN_sy h5 h1 h6⟩
theorem FS.bound (hT : ∀ c, c < pdN D → pdT D c ≤ 9) (hg : pdG D ≤ 4) (h : FS D L k o) : ∀ r, r < k → L (o r) ≤ 20000 * (r + 1) + 3 := by
  intro r
  induction r using Nat.strongRecOn with
  | ind r ih =>
    intro r1
    have a := h.2.2.2.1 r r1
    have l := dr_le (pdT D (o r))
    rcases h.2.2.2.2.2.2.2.2 (o r) a.1 a.2 with ⟨j, j1, j2, j3⟩ | ⟨d, d1, d2, d3⟩
    · omega
    · obtain ⟨s, s1, s2⟩ := h.2.2.2.2.1 d d1.1 d2
      have p := dr_pos d1.2.2.2.1 (hT _ a.1)
      have q : s < r := Classical.byContradiction fun q => by
        by_cases e : s = r
        · rw [e] at s2
          rw [← s2] at d3
          omega
        · have := h.2.2.2.2.2.1 r s (by omega) s1
          rw [s2] at this
          omega
      have i := ih s q s1
      rw [s2] at i
      omega
theorem FS.bnd (hT : ∀ c, c < pdN D → pdT D c ≤ 9) (hg : pdG D ≤ 4) (hn : pdN D ≤ 144) (h : FS D L k o) {c : Nat} (hc : c < pdN D) (e : L c ≠ NO) : L c ≤ 2880003 := by
  obtain ⟨r, r1, r2⟩ := h.2.2.2.2.1 c hc e
  have := h.bound hT hg r r1
  have := h.2.2.1
  rw [r2] at *
  omega
/-- a way is as long backwards -/
theorem FS.back {c e : Nat} (hn : pdN D ≤ 144) (hT : ∀ c, c < pdN D → pdT D c ≤ 9) (h : FS (pd1 D c) L k o) (h' : FS (pd1 D e) L' k' o') : ∀ n x, x < pdN D → L x = n → L x ≠ NO → L' x ≠ NO → L' c ≠ NO ∧ L' c + 4 * dr (pdT D x) ≤ L' x + L x := by
  intro n
  induction n using Nat.strongRecOn with
  | ind n ih =>
    intro x hx e1 e2 e3
    rcases h.2.2.2.2.2.2.2.2 x hx e2 with ⟨j, j1, j2, j3⟩ | ⟨y, y1, y2, y3⟩
    · have j0 : j = 0 := Nat.lt_one_iff.mp j1
      subst j0
      have e4 : c = x := j2
      rw [e4]
      refine ⟨e3, ?_⟩
      have j3 : L x = 4 * dr (pdT D x) + 0 := j3
      omega
    · have y3 : L x = L y + 4 * dr (pdT D x) := y3
      have y1 : nbr D y x := y1
      have p := dr_pos y1.2.2.2.1 (hT x hx)
      have r := h'.2.2.2.2.2.2.2.1 x y (show nbr (pd1 D e) x y from y1.sy) e3
      have r : L' y ≤ L' x + 4 * dr (pdT D y) := r
      have b1 := h'.1 y y1.1
      have b2 := h.1 y y1.1
      have b3 : L' x ≤ 2880003 := FS.bnd (D := pd1 D e) hT (show (1 : Nat) ≤ 4 by omega) hn h' hx e3
      have q : L' y ≠ NO := fun q => by
        have l := dr_le (pdT D y)
        unfold NO at q
        omega
      obtain ⟨i1, i2⟩ := ih (L y) (by omega) y y1.1 rfl y2 q
      exact ⟨i1, by omega⟩
end FS
