theorem hrR_lt {t : Nat → Int32} {L p : Nat} {c : Int32} (h : hrR t L p = c) (hc : c ≠ -1) : p < L := by
  by_cases hp : p < L
  · exact hp
  · rw [hrR, if_neg hp] at h
    exact absurd h.symm hc
theorem fgR_le {t : Nat → Int32} {L m p : Nat} (h1 : ¬ zb (dgR (hrR t L p)) = 0) : (fgR t L m p).2 ≤ L := by
  have g1 := dgR_lt h1
  unfold fgR
  split
  · exact g1
  · split
    · exact g1
    · rename_i h2
      have g2 := dgR_lt h2
      show p + 2 ≤ L
      omega
section P33
variable {M : MM} {r : MR}
theorem s_X10_figures_y1 {l : Launch} (hf : l.stackTraces = false) {t : Nat → Int32} (ht : M 470 = t) {L p : Nat} (hL : M 464 14 = nI L) (hL60 : L ≤ 60) (ha : M 464 18 = nI p) (hp61 : p ≤ 61) {q : Nat} (hq : q < 128) (h1 : ¬ zb (dgR (hrR t L p)) = 0) : V_X10_figures l [.ref 464, .int (nI q), .int 1] (hp M r) (VI 1 (hp (fgM t M L 1 p q) r)) := s_X10_figures_1 hf ht hL hL60 ha hp61 hq h1
theorem s_X10_figures_y2 {l : Launch} (hf : l.stackTraces = false) {t : Nat → Int32} (ht : M 470 = t) {L p : Nat} (hL : M 464 14 = nI L) (hL60 : L ≤ 60) (ha : M 464 18 = nI p) (hp61 : p ≤ 61) {q : Nat} (hq : q < 128) (h1 : ¬ zb (dgR (hrR t L p)) = 0) : V_X10_figures l [.ref 464, .int (nI q), .int 2] (hp M r) (VI 1 (hp (fgM t M L 2 p q) r)) := by
  by_cases h2 : zb (dgR (hrR t L (p + 1))) = 0
  · exact s_X10_figures_2a hf ht hL hL60 ha hp61 hq h1 h2
  · exact s_X10_figures_2b hf ht hL hL60 ha hp61 hq h1 h2
/-- a command read: whether it is one, the place behind, the memory; told's place is q -/
def chR (t : Nat → Int32) (M : MM) (L p q : Nat) : Bool × Nat × MM :=
  if hrR t L p = 100 then (true, p + 1, mst (mst M 472 q (hrR t L p)) 464 18 (nI (p + 1)))
  else if two (hrR t L p) = true then
    (if zb (dgR (hrR t L (p + 1))) = 0 then (false, p + 1, mst (mst M 472 q (hrR t L p)) 464 18 (nI (p + 1)))
     else (true, (fgR t L 2 (p + 1)).2, fgM t (mst (mst M 472 q (hrR t L p)) 464 18 (nI (p + 1))) L 2 (p + 1) (q + 1)))
  else if hrR t L p = 102 ∨ hrR t L p = 97 ∨ hrR t L p = 119 then
    (if zb (dgR (hrR t L (p + 1))) = 0 then (false, p + 1, mst (mst M 472 q (hrR t L p)) 464 18 (nI (p + 1)))
     else (true, (fgR t L 1 (p + 1)).2, fgM t (mst (mst M 472 q (hrR t L p)) 464 18 (nI (p + 1))) L 1 (p + 1) (q + 1)))
  else (false, p, mst M 472 q (hrR t L p))
end P33
