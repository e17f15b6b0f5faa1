section R15
variable {β : Type} {E : Env0} {rv : β → Option Value} {pc pc' : Nat} {lv : List (Nat × TV)} {st st' : List TV} {P P' : Prg β}
theorem sm_mna {idx : Nat} {n k : Int32} {K : Nat → Prg β} (hd : decode E.2.2.1 pc = .ok (.multianewarray idx 2, 4)) (hp : pc + 4 = pc') (kk : ∀ a, Sim E rv pc' lv (qv (some a) :: st) (K a)) : Sim E rv pc lv (iv k :: iv n :: st) (nM n k K) := sorry
end R15
