theorem dr0 {l0 l1 l2 l3 l4 l5 l6 l7 l8 : Option Value} : ∀ i v, L9 none l1 l2 l3 l4 l5 l6 l7 l8 i = some v → L9 l0 l1 l2 l3 l4 l5 l6 l7 l8 i = some v := by
  intro i v h
  match i, h with
  | 0, h => cases h
  | 1, h => exact h
  | 2, h => exact h
  | 3, h => exact h
  | 4, h => exact h
  | 5, h => exact h
  | 6, h => exact h
  | 7, h => exact h
  | 8, h => exact h
  | _ + 9, h => cases h
theorem dr1 {l0 l1 l2 l3 l4 l5 l6 l7 l8 : Option Value} : ∀ i v, L9 l0 none l2 l3 l4 l5 l6 l7 l8 i = some v → L9 l0 l1 l2 l3 l4 l5 l6 l7 l8 i = some v := by
  intro i v h
  match i, h with
  | 0, h => exact h
  | 1, h => cases h
  | 2, h => exact h
  | 3, h => exact h
  | 4, h => exact h
  | 5, h => exact h
  | 6, h => exact h
  | 7, h => exact h
  | 8, h => exact h
  | _ + 9, h => cases h
theorem dr2 {l0 l1 l2 l3 l4 l5 l6 l7 l8 : Option Value} : ∀ i v, L9 l0 l1 none l3 l4 l5 l6 l7 l8 i = some v → L9 l0 l1 l2 l3 l4 l5 l6 l7 l8 i = some v := by
  intro i v h
  match i, h with
  | 0, h => exact h
  | 1, h => exact h
  | 2, h => cases h
  | 3, h => exact h
  | 4, h => exact h
  | 5, h => exact h
  | 6, h => exact h
  | 7, h => exact h
  | 8, h => exact h
  | _ + 9, h => cases h
theorem dr3 {l0 l1 l2 l3 l4 l5 l6 l7 l8 : Option Value} : ∀ i v, L9 l0 l1 l2 none l4 l5 l6 l7 l8 i = some v → L9 l0 l1 l2 l3 l4 l5 l6 l7 l8 i = some v := by
  intro i v h
  match i, h with
  | 0, h => exact h
  | 1, h => exact h
  | 2, h => exact h
  | 3, h => cases h
  | 4, h => exact h
  | 5, h => exact h
  | 6, h => exact h
  | 7, h => exact h
  | 8, h => exact h
  | _ + 9, h => cases h
theorem dr4 {l0 l1 l2 l3 l4 l5 l6 l7 l8 : Option Value} : ∀ i v, L9 l0 l1 l2 l3 none l5 l6 l7 l8 i = some v → L9 l0 l1 l2 l3 l4 l5 l6 l7 l8 i = some v := by
  intro i v h
  match i, h with
  | 0, h => exact h
  | 1, h => exact h
  | 2, h => exact h
  | 3, h => exact h
  | 4, h => cases h
  | 5, h => exact h
  | 6, h => exact h
  | 7, h => exact h
  | 8, h => exact h
  | _ + 9, h => cases h
theorem dr5 {l0 l1 l2 l3 l4 l5 l6 l7 l8 : Option Value} : ∀ i v, L9 l0 l1 l2 l3 l4 none l6 l7 l8 i = some v → L9 l0 l1 l2 l3 l4 l5 l6 l7 l8 i = some v := by
  intro i v h
  match i, h with
  | 0, h => exact h
  | 1, h => exact h
  | 2, h => exact h
  | 3, h => exact h
  | 4, h => exact h
  | 5, h => cases h
  | 6, h => exact h
  | 7, h => exact h
  | 8, h => exact h
  | _ + 9, h => cases h
theorem dr6 {l0 l1 l2 l3 l4 l5 l6 l7 l8 : Option Value} : ∀ i v, L9 l0 l1 l2 l3 l4 l5 none l7 l8 i = some v → L9 l0 l1 l2 l3 l4 l5 l6 l7 l8 i = some v := by
  intro i v h
  match i, h with
  | 0, h => exact h
  | 1, h => exact h
  | 2, h => exact h
  | 3, h => exact h
  | 4, h => exact h
  | 5, h => exact h
  | 6, h => cases h
  | 7, h => exact h
  | 8, h => exact h
  | _ + 9, h => cases h
theorem dr7 {l0 l1 l2 l3 l4 l5 l6 l7 l8 : Option Value} : ∀ i v, L9 l0 l1 l2 l3 l4 l5 l6 none l8 i = some v → L9 l0 l1 l2 l3 l4 l5 l6 l7 l8 i = some v := by
  intro i v h
  match i, h with
  | 0, h => exact h
  | 1, h => exact h
  | 2, h => exact h
  | 3, h => exact h
  | 4, h => exact h
  | 5, h => exact h
  | 6, h => exact h
  | 7, h => cases h
  | 8, h => exact h
  | _ + 9, h => cases h
theorem dr8 {l0 l1 l2 l3 l4 l5 l6 l7 l8 : Option Value} : ∀ i v, L9 l0 l1 l2 l3 l4 l5 l6 l7 none i = some v → L9 l0 l1 l2 l3 l4 l5 l6 l7 l8 i = some v := by
  intro i v h
  match i, h with
  | 0, h => exact h
  | 1, h => exact h
  | 2, h => exact h
  | 3, h => exact h
  | 4, h => exact h
  | 5, h => exact h
  | 6, h => exact h
  | 7, h => exact h
  | 8, h => cases h
  | _ + 9, h => cases h
section R8
variable {l : Launch} {own : String} {cc : ByteArray} {nL d mc ms : Nat} {G : GT} {pc : Nat} {lf lf' : Nat → Option Value} {st : List Value} {h : HP} {ce sl : Nat}
theorem R_iinc1 {i : Nat} {x : Int32} (hd : decode cc pc = .ok (.iinc i 1, 3)) (hi : i < 9) (hv : lf i = some (.int x)) (hn : i < nL) (hs : stO lf i (.int (x + 1)) lf') (k : Q l own cc nL d mc ms G (pc + 3) lf' st h ce sl) : Q l own cc nL d mc ms G pc lf st h ce sl := R_iinc hd hi hv rfl hn hs k
theorem R_iincN {i j : Nat} (hd : decode cc pc = .ok (.iinc i 1, 3)) (hi : i < 9) (hv : lf i = some (.int (nI j))) (hn : i < nL) (hs : stO lf i (.int (nI (j + 1))) lf') (k : Q l own cc nL d mc ms G (pc + 3) lf' st h ce sl) : Q l own cc nL d mc ms G pc lf st h ce sl := R_iinc hd hi hv (nI_succ j).symm hn hs k
end R8
/-- n steps of f -/
def itN {α : Type} (f : Nat → α → α) (a : α) : Nat → α
  | 0 => a
  | n + 1 => f n (itN f a n)
/-- the first of j places from i on at which p holds, or -1 -/
def findN (p : Nat → Bool) : Nat → Nat → Int32
  | 0, _ => -1
  | j + 1, i => if p i = true then nI i else findN p j (i + 1)
theorem itN_congr {α : Type} {f g : Nat → α → α} {a : α} {n : Nat} (h : ∀ i x, i < n → f i x = g i x) : itN f a n = itN g a n := by
  induction n with
  | zero => rfl
  | succ n ih => rw [itN, itN, ih (fun i x hi => h i x (by omega)), h n _ (by omega)]
theorem findN_congr {p q : Nat → Bool} : ∀ (j i : Nat), (∀ k, i ≤ k → k < i + j → p k = q k) → findN p j i = findN q j i
  | 0, _, _ => rfl
  | j + 1, i, h => by rw [findN, findN, h i (by omega) (by omega), findN_congr j (i + 1) (fun k h1 h2 => h k (by omega) (by omega))]
theorem findN_spec (p : Nat → Bool) : ∀ (j i : Nat), (findN p j i = -1 ∧ ∀ k, i ≤ k → k < i + j → p k = false) ∨ ∃ k, i ≤ k ∧ k < i + j ∧ findN p j i = nI k ∧ p k = true ∧ ∀ k', i ≤ k' → k' < k → p k' = false
  | 0, i => Or.inl ⟨rfl, fun k h1 h2 => by omega⟩
  | j + 1, i => by
    by_cases hp : p i = true
    · exact Or.inr ⟨i, Nat.le_refl _, by omega, by rw [findN, if_pos hp], hp, fun k h1 h2 => by omega⟩
    · rcases findN_spec p j (i + 1) with ⟨h1, h2⟩ | ⟨k, h1, h2, h3, h4, h5⟩
      · refine Or.inl ⟨by rw [findN, if_neg hp, h1], fun k h3 h4 => ?_⟩
        by_cases hk : k = i
        · subst hk; simpa using hp
        · exact h2 k (by omega) (by omega)
      · refine Or.inr ⟨k, by omega, by omega, by rw [findN, if_neg hp, h3], h4, fun k' h6 h7 => ?_⟩
        by_cases hk : k' = i
        · subst hk; simpa using hp
        · exact h5 k' (by omega) h7
theorem nI_in12 {k n : Nat} (h : k < n) (hn : n ≤ 2000) : vp_in (nI k) n := nI_in h (by omega)
theorem nI_cl {k : Nat} (h : k < 2000) : (nI k).toNatClampNeg = k := nI_clamp (by omega)
