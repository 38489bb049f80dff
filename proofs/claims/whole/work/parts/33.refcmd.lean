theorem hrR_lt {t : Nat → Int32} {L p : Nat} {c : Int32} (h : hrR t L p = c) (hc : c ≠ -1) : p < L := by
  by_cases hp : p < L
  · exact hp
  · rw [hrR, if_neg hp] at h
    exact absurd h.symm hc
theorem fgR_le {t : Nat → Int32} {L m p : Nat} (h1 : ¬ zb (dgR (hrR t L p)) = 0) : (fgR t L m p).2 ≤ L := by
  have g1 := dgR_lt h1
  unfold fgR
  split
  · exact g1
  · split
    · exact g1
    · rename_i h2
      have g2 := dgR_lt h2
      show p + 2 ≤ L
      omega
section P33
variable {M : MM} {r : MR}
theorem s_X10_figures_y1 {l : Launch} (hf : l.stackTraces = false) {t : Nat → Int32} (ht : M 470 = t) {L p : Nat} (hL : M 464 14 = nI L) (hL60 : L ≤ 60) (ha : M 464 18 = nI p) (hp61 : p ≤ 61) {q : Nat} (hq : q < 128) (h1 : ¬ zb (dgR (hrR t L p)) = 0) : V_X10_figures l [.ref 464, .int (nI q), .int 1] (hp M r) (VI 1 (hp (fgM t M L 1 p q) r)) := s_X10_figures_1 hf ht hL hL60 ha hp61 hq h1
theorem s_X10_figures_y2 {l : Launch} (hf : l.stackTraces = false) {t : Nat → Int32} (ht : M 470 = t) {L p : Nat} (hL : M 464 14 = nI L) (hL60 : L ≤ 60) (ha : M 464 18 = nI p) (hp61 : p ≤ 61) {q : Nat} (hq : q < 128) (h1 : ¬ zb (dgR (hrR t L p)) = 0) : V_X10_figures l [.ref 464, .int (nI q), .int 2] (hp M r) (VI 1 (hp (fgM t M L 2 p q) r)) := by
  by_cases h2 : zb (dgR (hrR t L (p + 1))) = 0
  · exact s_X10_figures_2a hf ht hL hL60 ha hp61 hq h1 h2
  · exact s_X10_figures_2b hf ht hL hL60 ha hp61 hq h1 h2
/-- what a hanging asks for, behind its sign -/
def hgC (t : Nat → Int32) (M : MM) (L p q : Nat) : Bool × Nat × MM :=
  if zb (dgR (hrR t L p)) = 0 then (false, p, M)
  else if hrR t L (fgR t L 2 p).2 = 47 then
    (if zb (dgR (hrR t L ((fgR t L 2 p).2 + 1))) = 0 then (false, (fgR t L 2 p).2 + 1, mst (fgM t M L 2 p (q + 1)) 464 18 (nI ((fgR t L 2 p).2 + 1)))
     else if zb (dgR (hrR t L (fgR t L 1 ((fgR t L 2 p).2 + 1)).2)) = 0 then (false, (fgR t L 1 ((fgR t L 2 p).2 + 1)).2, fgM t (mst (fgM t M L 2 p (q + 1)) 464 18 (nI ((fgR t L 2 p).2 + 1))) L 1 ((fgR t L 2 p).2 + 1) (q + 2))
     else (true, (fgR t L 1 (fgR t L 1 ((fgR t L 2 p).2 + 1)).2).2, fgM t (fgM t (mst (fgM t M L 2 p (q + 1)) 464 18 (nI ((fgR t L 2 p).2 + 1))) L 1 ((fgR t L 2 p).2 + 1) (q + 2)) L 1 (fgR t L 1 ((fgR t L 2 p).2 + 1)).2 (q + 3)))
  else (false, (fgR t L 2 p).2, fgM t M L 2 p (q + 1))
theorem fgM_470 {t : Nat → Int32} {M : MM} {L m p q : Nat} : fgM t M L m p q 470 = M 470 := (mst_fn (by decide)).trans (mst_fn (by decide))
theorem fgM_14 {t : Nat → Int32} {M : MM} {L m p q : Nat} : fgM t M L m p q 464 14 = M 464 14 := (mst_ne2 (by decide)).trans (mst_ne1 (by decide))
theorem fgM_18 {t : Nat → Int32} {M : MM} {L m p q : Nat} : fgM t M L m p q 464 18 = nI (fgR t L m p).2 := mst_eq _ _ _ _
theorem B89_X10_commandHere {l : Launch} (hf : l.stackTraces = false) {t : Nat → Int32} (ht : M 470 = t) {L p : Nat} (hL : M 464 14 = nI L) (hL60 : L ≤ 60) (ha : M 464 18 = nI p) (hp61 : p ≤ 61) {q : Nat} (hq : q + 3 < 128) : Q_X10_commandHere l (VI (zb (hgC t M L p q).1) (hp (hgC t M L p q).2.2 r)) 89 (L9 (some (.ref 464)) (some (.int (nI q))) none none none none none none none) [] (hp M r) := by
  refine R_aload_n dX10_commandHere_89 rfl rfl ?_
  refine R_iload_n dX10_commandHere_90 rfl rfl ?_
  refine R_iconst (v := 1) dX10_commandHere_91 (by decide) ?_
  refine R_iadd dX10_commandHere_92 ?_
  refine R_topE (show nI q + 1 = nI (q + 1) from nI_add2 q 1) ?_
  refine R_iconst (v := 2) dX10_commandHere_93 (by decide) ?_
  by_cases g1 : zb (dgR (hrR t L p)) = 0
  · refine G_cV2 cw_X10_187 (s_X10_figures_n hf ht hL hL60 ha hp61 (q := q + 1) (by omega) g1) dX10_commandHere_94 (rcv cok10 rfl (Nat.le_of_ble_eq_true rfl)) ⟨(Nat.le_of_ble_eq_true rfl), (Nat.le_of_ble_eq_true rfl), (Nat.le_of_ble_eq_true rfl), (Nat.le_of_ble_eq_true rfl)⟩ ?_
    refine R_if_eq_t (tgt := 135) dX10_commandHere_97 rfl (by decide) ?_
    refine R_iconst (v := 0) dX10_commandHere_135 (by decide) ?_
    refine R_iret dX10_commandHere_136 (by first | rfl | decide) (Nat.le_of_ble_eq_true rfl) (Nat.le_of_ble_eq_true rfl) ?_
    rw [hgC, if_pos g1]
    exact ⟨rfl, rfl⟩
  · have le1 := fgR_le (m := 2) g1
    refine G_cV2 cw_X10_187 (s_X10_figures_y2 hf ht hL hL60 ha hp61 (q := q + 1) (by omega) g1) dX10_commandHere_94 (rcv cok10 rfl (Nat.le_of_ble_eq_true rfl)) ⟨(Nat.le_of_ble_eq_true rfl), (Nat.le_of_ble_eq_true rfl), (Nat.le_of_ble_eq_true rfl), (Nat.le_of_ble_eq_true rfl)⟩ ?_
    refine R_if_eq_f (tgt := 135) dX10_commandHere_97 rfl (by decide) ?_
    refine R_aload_n dX10_commandHere_100 rfl rfl ?_
    refine R_bipush (v := 47) dX10_commandHere_101 (by decide) ?_
    by_cases g2 : hrR t L (fgR t L 2 p).2 = 47
    · have lt2 := hrR_lt g2 (by decide)
      refine G_cV1 cw_X10_177 (s_X10_skips_y hf (fgM_470.trans ht) (fgM_14.trans hL) hL60 fgM_18 (by omega) g2) dX10_commandHere_103 (rcv cok10 rfl (Nat.le_of_ble_eq_true rfl)) ⟨(Nat.le_of_ble_eq_true rfl), (Nat.le_of_ble_eq_true rfl), (Nat.le_of_ble_eq_true rfl), (Nat.le_of_ble_eq_true rfl)⟩ ?_
      refine R_if_eq_f (tgt := 135) dX10_commandHere_106 rfl (by decide) ?_
      refine R_aload_n dX10_commandHere_109 rfl rfl ?_
      refine R_iload_n dX10_commandHere_110 rfl rfl ?_
      refine R_iconst (v := 2) dX10_commandHere_111 (by decide) ?_
      refine R_iadd dX10_commandHere_112 ?_
      refine R_topE (show nI q + 2 = nI (q + 2) from nI_add2 q 2) ?_
      refine R_iconst (v := 1) dX10_commandHere_113 (by decide) ?_
      by_cases g3 : zb (dgR (hrR t L ((fgR t L 2 p).2 + 1))) = 0
      · refine G_cV2 cw_X10_187 (s_X10_figures_n hf ((mst_fn (by decide)).trans (fgM_470.trans ht)) ((mst_ne2 (by decide)).trans (fgM_14.trans hL)) hL60 (mst_eq _ _ _ _) (by omega) (q := q + 2) (by omega) g3) dX10_commandHere_114 (rcv cok10 rfl (Nat.le_of_ble_eq_true rfl)) ⟨(Nat.le_of_ble_eq_true rfl), (Nat.le_of_ble_eq_true rfl), (Nat.le_of_ble_eq_true rfl), (Nat.le_of_ble_eq_true rfl)⟩ ?_
        refine R_if_eq_t (tgt := 135) dX10_commandHere_117 rfl (by decide) ?_
        refine R_iconst (v := 0) dX10_commandHere_135 (by decide) ?_
        refine R_iret dX10_commandHere_136 (by first | rfl | decide) (Nat.le_of_ble_eq_true rfl) (Nat.le_of_ble_eq_true rfl) ?_
        rw [hgC, if_neg g1, if_pos g2, if_pos g3]
        exact ⟨rfl, rfl⟩
      · have le3 := fgR_le (m := 1) g3
        refine G_cV2 cw_X10_187 (s_X10_figures_y1 hf ((mst_fn (by decide)).trans (fgM_470.trans ht)) ((mst_ne2 (by decide)).trans (fgM_14.trans hL)) hL60 (mst_eq _ _ _ _) (by omega) (q := q + 2) (by omega) g3) dX10_commandHere_114 (rcv cok10 rfl (Nat.le_of_ble_eq_true rfl)) ⟨(Nat.le_of_ble_eq_true rfl), (Nat.le_of_ble_eq_true rfl), (Nat.le_of_ble_eq_true rfl), (Nat.le_of_ble_eq_true rfl)⟩ ?_
        refine R_if_eq_f (tgt := 135) dX10_commandHere_117 rfl (by decide) ?_
        refine R_aload_n dX10_commandHere_120 rfl rfl ?_
        refine R_iload_n dX10_commandHere_121 rfl rfl ?_
        refine R_iconst (v := 3) dX10_commandHere_122 (by decide) ?_
        refine R_iadd dX10_commandHere_123 ?_
        refine R_topE (show nI q + 3 = nI (q + 3) from nI_add2 q 3) ?_
        refine R_iconst (v := 1) dX10_commandHere_124 (by decide) ?_
        by_cases g4 : zb (dgR (hrR t L (fgR t L 1 ((fgR t L 2 p).2 + 1)).2)) = 0
        · refine G_cV2 cw_X10_187 (s_X10_figures_n hf (fgM_470.trans ((mst_fn (by decide)).trans (fgM_470.trans ht))) (fgM_14.trans ((mst_ne2 (by decide)).trans (fgM_14.trans hL))) hL60 fgM_18 (by omega) (q := q + 3) (by omega) g4) dX10_commandHere_125 (rcv cok10 rfl (Nat.le_of_ble_eq_true rfl)) ⟨(Nat.le_of_ble_eq_true rfl), (Nat.le_of_ble_eq_true rfl), (Nat.le_of_ble_eq_true rfl), (Nat.le_of_ble_eq_true rfl)⟩ ?_
          refine R_if_eq_t (tgt := 135) dX10_commandHere_128 rfl (by decide) ?_
          refine R_iconst (v := 0) dX10_commandHere_135 (by decide) ?_
          refine R_iret dX10_commandHere_136 (by first | rfl | decide) (Nat.le_of_ble_eq_true rfl) (Nat.le_of_ble_eq_true rfl) ?_
          rw [hgC, if_neg g1, if_pos g2, if_neg g3, if_pos g4]
          exact ⟨rfl, rfl⟩
        · refine G_cV2 cw_X10_187 (s_X10_figures_y1 hf (fgM_470.trans ((mst_fn (by decide)).trans (fgM_470.trans ht))) (fgM_14.trans ((mst_ne2 (by decide)).trans (fgM_14.trans hL))) hL60 fgM_18 (by omega) (q := q + 3) (by omega) g4) dX10_commandHere_125 (rcv cok10 rfl (Nat.le_of_ble_eq_true rfl)) ⟨(Nat.le_of_ble_eq_true rfl), (Nat.le_of_ble_eq_true rfl), (Nat.le_of_ble_eq_true rfl), (Nat.le_of_ble_eq_true rfl)⟩ ?_
          refine R_if_eq_f (tgt := 135) dX10_commandHere_128 rfl (by decide) ?_
          refine R_iconst (v := 1) dX10_commandHere_131 (by decide) ?_
          refine R_goto (tgt := 136) dX10_commandHere_132 rfl ?_
          refine R_iret dX10_commandHere_136 (by first | rfl | decide) (Nat.le_of_ble_eq_true rfl) (Nat.le_of_ble_eq_true rfl) ?_
          rw [hgC, if_neg g1, if_pos g2, if_neg g3, if_neg g4]
          exact ⟨rfl, rfl⟩
    · refine G_cV1 cw_X10_177 (s_X10_skips_n hf (fgM_470.trans ht) (fgM_14.trans hL) hL60 fgM_18 (by omega) g2) dX10_commandHere_103 (rcv cok10 rfl (Nat.le_of_ble_eq_true rfl)) ⟨(Nat.le_of_ble_eq_true rfl), (Nat.le_of_ble_eq_true rfl), (Nat.le_of_ble_eq_true rfl), (Nat.le_of_ble_eq_true rfl)⟩ ?_
      refine R_if_eq_t (tgt := 135) dX10_commandHere_106 rfl (by decide) ?_
      refine R_iconst (v := 0) dX10_commandHere_135 (by decide) ?_
      refine R_iret dX10_commandHere_136 (by first | rfl | decide) (Nat.le_of_ble_eq_true rfl) (Nat.le_of_ble_eq_true rfl) ?_
      rw [hgC, if_neg g1, if_neg g2]
      exact ⟨rfl, rfl⟩
theorem s_X10_hasTwo_y {l : Launch} (hf : l.stackTraces = false) {t : Nat → Int32} (ht : M 470 = t) {L p : Nat} (hL : M 464 14 = nI L) (hL60 : L ≤ 60) (ha : M 464 18 = nI p) (hp61 : p ≤ 61) (h : two (hrR t L p) = true) : V_X10_hasTwo l [.ref 464] (hp M r) (VI 1 (hp (mst M 464 18 (nI (p + 1))) r)) := by
  have z := s_X10_hasTwo (r := r) hf ht hL hL60 ha hp61
  rw [if_pos h, h] at z
  exact z
theorem s_X10_hasTwo_n {l : Launch} (hf : l.stackTraces = false) {t : Nat → Int32} (ht : M 470 = t) {L p : Nat} (hL : M 464 14 = nI L) (hL60 : L ≤ 60) (ha : M 464 18 = nI p) (hp61 : p ≤ 61) (h : ¬ two (hrR t L p) = true) : V_X10_hasTwo l [.ref 464] (hp M r) (VI 0 (hp M r)) := by
  have z := s_X10_hasTwo (r := r) hf ht hL hL60 ha hp61
  have e : two (hrR t L p) = false := by simpa using h
  rw [if_neg h, e] at z
  exact z
def nuC (t : Nat → Int32) (M : MM) (L m p q : Nat) : Bool × Nat × MM := if zb (dgR (hrR t L p)) = 0 then (false, p, M) else (true, (fgR t L m p).2, fgM t M L m p (q + 1))
def chM (t : Nat → Int32) (M : MM) (L p q : Nat) : MM := mst (mst M 472 q (hrR t L p)) 464 18 (nI (p + 1))
/-- a command read: whether it is one, the place behind, the memory; told's place is q -/
def chR (t : Nat → Int32) (M : MM) (L p q : Nat) : Bool × Nat × MM :=
  if hrR t L p = 100 then (true, p + 1, chM t M L p q)
  else if two (hrR t L p) = true then nuC t (chM t M L p q) L 2 (p + 1) q
  else if hrR t L p = 102 then nuC t (chM t M L p q) L 1 (p + 1) q
  else if hrR t L p = 97 then nuC t (chM t M L p q) L 1 (p + 1) q
  else if hrR t L p = 119 then nuC t (chM t M L p q) L 1 (p + 1) q
  else if hrR t L p = 104 then hgC t (chM t M L p q) L (p + 1) q
  else (false, p, mst M 472 q (hrR t L p))
theorem two_n1 {c : Int32} (h : two c = true) : c ≠ -1 := fun e => by rw [e] at h; exact absurd h (by decide)
theorem B35_X10_commandHere {l : Launch} (hf : l.stackTraces = false) {t : Nat → Int32} (ht : M 470 = t) {L p : Nat} (hL : M 464 14 = nI L) (hL60 : L ≤ 60) (ha : M 464 18 = nI p) (hp61 : p ≤ 61) {q : Nat} (hq : q + 3 < 128) : Q_X10_commandHere l (VI (zb (nuC t M L 2 p q).1) (hp (nuC t M L 2 p q).2.2 r)) 35 (L9 (some (.ref 464)) (some (.int (nI q))) none none none none none none none) [] (hp M r) := by
  by_cases g1 : zb (dgR (hrR t L p)) = 0
  · refine R_aload_n dX10_commandHere_35 rfl rfl ?_
    refine R_iload_n dX10_commandHere_36 rfl rfl ?_
    refine R_iconst (v := 1) dX10_commandHere_37 (by decide) ?_
    refine R_iadd dX10_commandHere_38 ?_
    refine R_topE (show nI q + 1 = nI (q + 1) from nI_add2 q 1) ?_
    refine R_iconst (v := 2) dX10_commandHere_39 (by decide) ?_
    refine G_cV2 cw_X10_187 (s_X10_figures_n hf ht hL hL60 ha hp61 (q := q + 1) (by omega) g1) dX10_commandHere_40 (rcv cok10 (by first | exact rfl | assumption) (Nat.le_of_ble_eq_true rfl)) ⟨(Nat.le_of_ble_eq_true rfl), (Nat.le_of_ble_eq_true rfl), (Nat.le_of_ble_eq_true rfl), (Nat.le_of_ble_eq_true rfl)⟩ ?_
    refine R_iret dX10_commandHere_43 (by first | rfl | decide) (Nat.le_of_ble_eq_true rfl) (Nat.le_of_ble_eq_true rfl) ?_
    rw [nuC, if_pos g1]
    exact ⟨rfl, rfl⟩
  · refine R_aload_n dX10_commandHere_35 rfl rfl ?_
    refine R_iload_n dX10_commandHere_36 rfl rfl ?_
    refine R_iconst (v := 1) dX10_commandHere_37 (by decide) ?_
    refine R_iadd dX10_commandHere_38 ?_
    refine R_topE (show nI q + 1 = nI (q + 1) from nI_add2 q 1) ?_
    refine R_iconst (v := 2) dX10_commandHere_39 (by decide) ?_
    refine G_cV2 cw_X10_187 (s_X10_figures_y2 hf ht hL hL60 ha hp61 (q := q + 1) (by omega) g1) dX10_commandHere_40 (rcv cok10 (by first | exact rfl | assumption) (Nat.le_of_ble_eq_true rfl)) ⟨(Nat.le_of_ble_eq_true rfl), (Nat.le_of_ble_eq_true rfl), (Nat.le_of_ble_eq_true rfl), (Nat.le_of_ble_eq_true rfl)⟩ ?_
    refine R_iret dX10_commandHere_43 (by first | rfl | decide) (Nat.le_of_ble_eq_true rfl) (Nat.le_of_ble_eq_true rfl) ?_
    rw [nuC, if_neg g1]
    exact ⟨rfl, rfl⟩
theorem B71_X10_commandHere {l : Launch} (hf : l.stackTraces = false) {t : Nat → Int32} (ht : M 470 = t) {L p : Nat} (hL : M 464 14 = nI L) (hL60 : L ≤ 60) (ha : M 464 18 = nI p) (hp61 : p ≤ 61) {q : Nat} (hq : q + 3 < 128) : Q_X10_commandHere l (VI (zb (nuC t M L 1 p q).1) (hp (nuC t M L 1 p q).2.2 r)) 71 (L9 (some (.ref 464)) (some (.int (nI q))) none none none none none none none) [] (hp M r) := by
  by_cases g1 : zb (dgR (hrR t L p)) = 0
  · refine R_aload_n dX10_commandHere_71 rfl rfl ?_
    refine R_iload_n dX10_commandHere_72 rfl rfl ?_
    refine R_iconst (v := 1) dX10_commandHere_73 (by decide) ?_
    refine R_iadd dX10_commandHere_74 ?_
    refine R_topE (show nI q + 1 = nI (q + 1) from nI_add2 q 1) ?_
    refine R_iconst (v := 1) dX10_commandHere_75 (by decide) ?_
    refine G_cV2 cw_X10_187 (s_X10_figures_n hf ht hL hL60 ha hp61 (q := q + 1) (by omega) g1) dX10_commandHere_76 (rcv cok10 (by first | exact rfl | assumption) (Nat.le_of_ble_eq_true rfl)) ⟨(Nat.le_of_ble_eq_true rfl), (Nat.le_of_ble_eq_true rfl), (Nat.le_of_ble_eq_true rfl), (Nat.le_of_ble_eq_true rfl)⟩ ?_
    refine R_iret dX10_commandHere_79 (by first | rfl | decide) (Nat.le_of_ble_eq_true rfl) (Nat.le_of_ble_eq_true rfl) ?_
    rw [nuC, if_pos g1]
    exact ⟨rfl, rfl⟩
  · refine R_aload_n dX10_commandHere_71 rfl rfl ?_
    refine R_iload_n dX10_commandHere_72 rfl rfl ?_
    refine R_iconst (v := 1) dX10_commandHere_73 (by decide) ?_
    refine R_iadd dX10_commandHere_74 ?_
    refine R_topE (show nI q + 1 = nI (q + 1) from nI_add2 q 1) ?_
    refine R_iconst (v := 1) dX10_commandHere_75 (by decide) ?_
    refine G_cV2 cw_X10_187 (s_X10_figures_y1 hf ht hL hL60 ha hp61 (q := q + 1) (by omega) g1) dX10_commandHere_76 (rcv cok10 (by first | exact rfl | assumption) (Nat.le_of_ble_eq_true rfl)) ⟨(Nat.le_of_ble_eq_true rfl), (Nat.le_of_ble_eq_true rfl), (Nat.le_of_ble_eq_true rfl), (Nat.le_of_ble_eq_true rfl)⟩ ?_
    refine R_iret dX10_commandHere_79 (by first | rfl | decide) (Nat.le_of_ble_eq_true rfl) (Nat.le_of_ble_eq_true rfl) ?_
    rw [nuC, if_neg g1]
    exact ⟨rfl, rfl⟩
theorem s_X10_commandHere {l : Launch} (hf : l.stackTraces = false) {t : Nat → Int32} (ht : M 470 = t) {L p : Nat} (hL : M 464 14 = nI L) (hL60 : L ≤ 60) (ha : M 464 18 = nI p) (hp61 : p ≤ 61) {n : Nat} (hn : n < 31) (hm : M 464 20 = nI n) : V_X10_commandHere l [.ref 464] (hp M r) (VI (zb (chR t M L p (4 * n)).1) (hp (chR t M L p (4 * n)).2.2 r)) := by
  refine VM.intro (lf := L9 (some (.ref 464)) none none none none none none none none) (by decide +kernel) hf (fun _ => (Nat.le_of_ble_eq_true rfl)) (fun _ => rfl) ?_
  obtain ⟨q, eq⟩ : ∃ q, q = 4 * n := ⟨_, rfl⟩
  have hq : q + 3 < 128 := by omega
  rw [← eq]
  refine R_iconst (v := 4) dX10_commandHere_0 (by decide) ?_
  refine R_aload_n dX10_commandHere_1 rfl rfl ?_
  refine G_get cok10 20 wf_X10_180 dX10_commandHere_2 (by first | exact rfl | assumption) ⟨(Nat.le_of_ble_eq_true rfl), (Nat.le_of_ble_eq_true rfl)⟩ rfl ?_
  refine R_topE hm ?_
  refine R_imul dX10_commandHere_5 ?_
  refine R_topE (show 4 * nI n = nI q from by rw [eq]; exact nI_mul2 4 n) ?_
  refine R_istore_n dX10_commandHere_6 rfl (by decide) (st1 rfl) ?_
  refine R_aload_n dX10_commandHere_7 rfl rfl ?_
  refine G_get cok10 19 wf_X10_36 dX10_commandHere_8 (by first | exact rfl | assumption) ⟨(Nat.le_of_ble_eq_true rfl), (Nat.le_of_ble_eq_true rfl)⟩ rfl ?_
  refine R_iload_n dX10_commandHere_11 rfl rfl ?_
  refine R_aload_n dX10_commandHere_12 rfl rfl ?_
  refine G_cV0 cw_X10_174 (s_X10_here hf ht hL hL60 ha hp61) dX10_commandHere_13 (rcv cok10 (by first | exact rfl | assumption) (Nat.le_of_ble_eq_true rfl)) ⟨(Nat.le_of_ble_eq_true rfl), (Nat.le_of_ble_eq_true rfl), (Nat.le_of_ble_eq_true rfl), (Nat.le_of_ble_eq_true rfl)⟩ ?_
  refine G_iast dX10_commandHere_16 (by first | exact rfl | assumption) (show vp_in (nI q) 128 from nI_in12 (by omega) (by omega)) ?_
  rw [show (nI q).toNatClampNeg = q from nI_cl (by omega)]
  refine R_aload_n dX10_commandHere_17 rfl rfl ?_
  refine R_bipush (v := 100) dX10_commandHere_18 (by decide) ?_
  by_cases f1 : hrR t L p = 100
  · have lt9 := hrR_lt f1 (by decide)
    refine G_cV1 cw_X10_177 (s_X10_skips_y hf ((mst_fn (by decide)).trans ht) ((mst_ne1 (by decide)).trans hL) hL60 ((mst_ne1 (by decide)).trans ha) hp61 f1) dX10_commandHere_20 (rcv cok10 rfl (Nat.le_of_ble_eq_true rfl)) ⟨(Nat.le_of_ble_eq_true rfl), (Nat.le_of_ble_eq_true rfl), (Nat.le_of_ble_eq_true rfl), (Nat.le_of_ble_eq_true rfl)⟩ ?_
    refine R_if_eq_f (tgt := 28) dX10_commandHere_23 rfl (by decide) ?_
    refine R_iconst (v := 1) dX10_commandHere_26 (by decide) ?_
    refine R_iret dX10_commandHere_27 (by first | rfl | decide) (Nat.le_of_ble_eq_true rfl) (Nat.le_of_ble_eq_true rfl) ?_
    rw [chR, if_pos f1]
    exact ⟨rfl, rfl⟩
  · refine G_cV1 cw_X10_177 (s_X10_skips_n hf ((mst_fn (by decide)).trans ht) ((mst_ne1 (by decide)).trans hL) hL60 ((mst_ne1 (by decide)).trans ha) hp61 f1) dX10_commandHere_20 (rcv cok10 rfl (Nat.le_of_ble_eq_true rfl)) ⟨(Nat.le_of_ble_eq_true rfl), (Nat.le_of_ble_eq_true rfl), (Nat.le_of_ble_eq_true rfl), (Nat.le_of_ble_eq_true rfl)⟩ ?_
    refine R_if_eq_t (tgt := 28) dX10_commandHere_23 rfl (by decide) ?_
    refine R_aload_n dX10_commandHere_28 rfl rfl ?_
    by_cases f2 : two (hrR t L p) = true
    · have lt9 := hrR_lt (c := hrR t L p) rfl (two_n1 f2)
      refine G_cV0 cw_X10_183 (s_X10_hasTwo_y hf ((mst_fn (by decide)).trans ht) ((mst_ne1 (by decide)).trans hL) hL60 ((mst_ne1 (by decide)).trans ha) hp61 f2) dX10_commandHere_29 (rcv cok10 rfl (Nat.le_of_ble_eq_true rfl)) ⟨(Nat.le_of_ble_eq_true rfl), (Nat.le_of_ble_eq_true rfl), (Nat.le_of_ble_eq_true rfl), (Nat.le_of_ble_eq_true rfl)⟩ ?_
      refine R_if_eq_f (tgt := 44) dX10_commandHere_32 rfl (by decide) ?_
      rw [chR, if_neg f1, if_pos f2]
      exact B35_X10_commandHere (M := chM t M L p q) hf ((mst_fn (by decide)).trans ((mst_fn (by decide)).trans ht)) ((mst_ne2 (by decide)).trans ((mst_ne1 (by decide)).trans hL)) hL60 (mst_eq _ _ _ _) (by omega) hq
    · refine G_cV0 cw_X10_183 (s_X10_hasTwo_n hf ((mst_fn (by decide)).trans ht) ((mst_ne1 (by decide)).trans hL) hL60 ((mst_ne1 (by decide)).trans ha) hp61 f2) dX10_commandHere_29 (rcv cok10 rfl (Nat.le_of_ble_eq_true rfl)) ⟨(Nat.le_of_ble_eq_true rfl), (Nat.le_of_ble_eq_true rfl), (Nat.le_of_ble_eq_true rfl), (Nat.le_of_ble_eq_true rfl)⟩ ?_
      refine R_if_eq_t (tgt := 44) dX10_commandHere_32 rfl (by decide) ?_
      refine R_aload_n dX10_commandHere_44 rfl rfl ?_
      refine R_bipush (v := 102) dX10_commandHere_45 (by decide) ?_
      by_cases f3 : hrR t L p = 102
      · have lt9 := hrR_lt f3 (by decide)
        refine G_cV1 cw_X10_177 (s_X10_skips_y hf ((mst_fn (by decide)).trans ht) ((mst_ne1 (by decide)).trans hL) hL60 ((mst_ne1 (by decide)).trans ha) hp61 f3) dX10_commandHere_47 (rcv cok10 rfl (Nat.le_of_ble_eq_true rfl)) ⟨(Nat.le_of_ble_eq_true rfl), (Nat.le_of_ble_eq_true rfl), (Nat.le_of_ble_eq_true rfl), (Nat.le_of_ble_eq_true rfl)⟩ ?_
        refine R_if_ne_t (tgt := 71) dX10_commandHere_50 rfl (by decide) ?_
        rw [chR, if_neg f1, if_neg f2, if_pos f3]
        exact B71_X10_commandHere (M := chM t M L p q) hf ((mst_fn (by decide)).trans ((mst_fn (by decide)).trans ht)) ((mst_ne2 (by decide)).trans ((mst_ne1 (by decide)).trans hL)) hL60 (mst_eq _ _ _ _) (by omega) hq
      · refine G_cV1 cw_X10_177 (s_X10_skips_n hf ((mst_fn (by decide)).trans ht) ((mst_ne1 (by decide)).trans hL) hL60 ((mst_ne1 (by decide)).trans ha) hp61 f3) dX10_commandHere_47 (rcv cok10 rfl (Nat.le_of_ble_eq_true rfl)) ⟨(Nat.le_of_ble_eq_true rfl), (Nat.le_of_ble_eq_true rfl), (Nat.le_of_ble_eq_true rfl), (Nat.le_of_ble_eq_true rfl)⟩ ?_
        refine R_if_ne_f (tgt := 71) dX10_commandHere_50 rfl (by decide) ?_
        refine R_aload_n dX10_commandHere_53 rfl rfl ?_
        refine R_bipush (v := 97) dX10_commandHere_54 (by decide) ?_
        by_cases f4 : hrR t L p = 97
        · have lt9 := hrR_lt f4 (by decide)
          refine G_cV1 cw_X10_177 (s_X10_skips_y hf ((mst_fn (by decide)).trans ht) ((mst_ne1 (by decide)).trans hL) hL60 ((mst_ne1 (by decide)).trans ha) hp61 f4) dX10_commandHere_56 (rcv cok10 rfl (Nat.le_of_ble_eq_true rfl)) ⟨(Nat.le_of_ble_eq_true rfl), (Nat.le_of_ble_eq_true rfl), (Nat.le_of_ble_eq_true rfl), (Nat.le_of_ble_eq_true rfl)⟩ ?_
          refine R_if_ne_t (tgt := 71) dX10_commandHere_59 rfl (by decide) ?_
          rw [chR, if_neg f1, if_neg f2, if_neg f3, if_pos f4]
          exact B71_X10_commandHere (M := chM t M L p q) hf ((mst_fn (by decide)).trans ((mst_fn (by decide)).trans ht)) ((mst_ne2 (by decide)).trans ((mst_ne1 (by decide)).trans hL)) hL60 (mst_eq _ _ _ _) (by omega) hq
        · refine G_cV1 cw_X10_177 (s_X10_skips_n hf ((mst_fn (by decide)).trans ht) ((mst_ne1 (by decide)).trans hL) hL60 ((mst_ne1 (by decide)).trans ha) hp61 f4) dX10_commandHere_56 (rcv cok10 rfl (Nat.le_of_ble_eq_true rfl)) ⟨(Nat.le_of_ble_eq_true rfl), (Nat.le_of_ble_eq_true rfl), (Nat.le_of_ble_eq_true rfl), (Nat.le_of_ble_eq_true rfl)⟩ ?_
          refine R_if_ne_f (tgt := 71) dX10_commandHere_59 rfl (by decide) ?_
          refine R_aload_n dX10_commandHere_62 rfl rfl ?_
          refine R_bipush (v := 119) dX10_commandHere_63 (by decide) ?_
          by_cases f5 : hrR t L p = 119
          · have lt9 := hrR_lt f5 (by decide)
            refine G_cV1 cw_X10_177 (s_X10_skips_y hf ((mst_fn (by decide)).trans ht) ((mst_ne1 (by decide)).trans hL) hL60 ((mst_ne1 (by decide)).trans ha) hp61 f5) dX10_commandHere_65 (rcv cok10 rfl (Nat.le_of_ble_eq_true rfl)) ⟨(Nat.le_of_ble_eq_true rfl), (Nat.le_of_ble_eq_true rfl), (Nat.le_of_ble_eq_true rfl), (Nat.le_of_ble_eq_true rfl)⟩ ?_
            refine R_if_eq_f (tgt := 80) dX10_commandHere_68 rfl (by decide) ?_
            rw [chR, if_neg f1, if_neg f2, if_neg f3, if_neg f4, if_pos f5]
            exact B71_X10_commandHere (M := chM t M L p q) hf ((mst_fn (by decide)).trans ((mst_fn (by decide)).trans ht)) ((mst_ne2 (by decide)).trans ((mst_ne1 (by decide)).trans hL)) hL60 (mst_eq _ _ _ _) (by omega) hq
          · refine G_cV1 cw_X10_177 (s_X10_skips_n hf ((mst_fn (by decide)).trans ht) ((mst_ne1 (by decide)).trans hL) hL60 ((mst_ne1 (by decide)).trans ha) hp61 f5) dX10_commandHere_65 (rcv cok10 rfl (Nat.le_of_ble_eq_true rfl)) ⟨(Nat.le_of_ble_eq_true rfl), (Nat.le_of_ble_eq_true rfl), (Nat.le_of_ble_eq_true rfl), (Nat.le_of_ble_eq_true rfl)⟩ ?_
            refine R_if_eq_t (tgt := 80) dX10_commandHere_68 rfl (by decide) ?_
            refine R_aload_n dX10_commandHere_80 rfl rfl ?_
            refine R_bipush (v := 104) dX10_commandHere_81 (by decide) ?_
            by_cases f6 : hrR t L p = 104
            · have lt9 := hrR_lt f6 (by decide)
              refine G_cV1 cw_X10_177 (s_X10_skips_y hf ((mst_fn (by decide)).trans ht) ((mst_ne1 (by decide)).trans hL) hL60 ((mst_ne1 (by decide)).trans ha) hp61 f6) dX10_commandHere_83 (rcv cok10 rfl (Nat.le_of_ble_eq_true rfl)) ⟨(Nat.le_of_ble_eq_true rfl), (Nat.le_of_ble_eq_true rfl), (Nat.le_of_ble_eq_true rfl), (Nat.le_of_ble_eq_true rfl)⟩ ?_
              refine R_if_eq_f (tgt := 135) dX10_commandHere_86 rfl (by decide) ?_
              rw [chR, if_neg f1, if_neg f2, if_neg f3, if_neg f4, if_neg f5, if_pos f6]
              exact B89_X10_commandHere (M := chM t M L p q) hf ((mst_fn (by decide)).trans ((mst_fn (by decide)).trans ht)) ((mst_ne2 (by decide)).trans ((mst_ne1 (by decide)).trans hL)) hL60 (mst_eq _ _ _ _) (by omega) hq
            · refine G_cV1 cw_X10_177 (s_X10_skips_n hf ((mst_fn (by decide)).trans ht) ((mst_ne1 (by decide)).trans hL) hL60 ((mst_ne1 (by decide)).trans ha) hp61 f6) dX10_commandHere_83 (rcv cok10 rfl (Nat.le_of_ble_eq_true rfl)) ⟨(Nat.le_of_ble_eq_true rfl), (Nat.le_of_ble_eq_true rfl), (Nat.le_of_ble_eq_true rfl), (Nat.le_of_ble_eq_true rfl)⟩ ?_
              refine R_if_eq_t (tgt := 135) dX10_commandHere_86 rfl (by decide) ?_
              refine R_iconst (v := 0) dX10_commandHere_135 (by decide) ?_
              refine R_iret dX10_commandHere_136 (by first | rfl | decide) (Nat.le_of_ble_eq_true rfl) (Nat.le_of_ble_eq_true rfl) ?_
              rw [chR, if_neg f1, if_neg f2, if_neg f3, if_neg f4, if_neg f5, if_neg f6]
              exact ⟨rfl, rfl⟩
end P33
