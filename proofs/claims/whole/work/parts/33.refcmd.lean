theorem hrR_lt {t : Nat → Int32} {L p : Nat} {c : Int32} (h : hrR t L p = c) (hc : c ≠ -1) : p < L := by
  by_cases hp : p < L
  · exact hp
  · rw [hrR, if_neg hp] at h
    exact absurd h.symm hc
theorem fgR_le {t : Nat → Int32} {L m p : Nat} (h1 : ¬ zb (dgR (hrR t L p)) = 0) : (fgR t L m p).2 ≤ L := by
  have g1 := dgR_lt h1
  unfold fgR
  split
  · exact g1
  · split
    · exact g1
    · rename_i h2
      have g2 := dgR_lt h2
      show p + 2 ≤ L
      omega
section P33
variable {M : MM} {r : MR}
theorem s_X10_figures_y1 {l : Launch} (hf : l.stackTraces = false) {t : Nat → Int32} (ht : M 470 = t) {L p : Nat} (hL : M 464 14 = nI L) (hL60 : L ≤ 60) (ha : M 464 18 = nI p) (hp61 : p ≤ 61) {q : Nat} (hq : q < 128) (h1 : ¬ zb (dgR (hrR t L p)) = 0) : V_X10_figures l [.ref 464, .int (nI q), .int 1] (hp M r) (VI 1 (hp (fgM t M L 1 p q) r)) := s_X10_figures_1 hf ht hL hL60 ha hp61 hq h1
theorem s_X10_figures_y2 {l : Launch} (hf : l.stackTraces = false) {t : Nat → Int32} (ht : M 470 = t) {L p : Nat} (hL : M 464 14 = nI L) (hL60 : L ≤ 60) (ha : M 464 18 = nI p) (hp61 : p ≤ 61) {q : Nat} (hq : q < 128) (h1 : ¬ zb (dgR (hrR t L p)) = 0) : V_X10_figures l [.ref 464, .int (nI q), .int 2] (hp M r) (VI 1 (hp (fgM t M L 2 p q) r)) := by
  by_cases h2 : zb (dgR (hrR t L (p + 1))) = 0
  · exact s_X10_figures_2a hf ht hL hL60 ha hp61 hq h1 h2
  · exact s_X10_figures_2b hf ht hL hL60 ha hp61 hq h1 h2
/-- what a hanging asks for, behind its sign -/
def hgC (t : Nat → Int32) (M : MM) (L p q : Nat) : Bool × Nat × MM :=
  if zb (dgR (hrR t L p)) = 0 then (false, p, M)
  else if hrR t L (fgR t L 2 p).2 = 47 then
    (if zb (dgR (hrR t L ((fgR t L 2 p).2 + 1))) = 0 then (false, (fgR t L 2 p).2 + 1, mst (fgM t M L 2 p (q + 1)) 464 18 (nI ((fgR t L 2 p).2 + 1)))
     else if zb (dgR (hrR t L (fgR t L 1 ((fgR t L 2 p).2 + 1)).2)) = 0 then (false, (fgR t L 1 ((fgR t L 2 p).2 + 1)).2, fgM t (mst (fgM t M L 2 p (q + 1)) 464 18 (nI ((fgR t L 2 p).2 + 1))) L 1 ((fgR t L 2 p).2 + 1) (q + 2))
     else (true, (fgR t L 1 (fgR t L 1 ((fgR t L 2 p).2 + 1)).2).2, fgM t (fgM t (mst (fgM t M L 2 p (q + 1)) 464 18 (nI ((fgR t L 2 p).2 + 1))) L 1 ((fgR t L 2 p).2 + 1) (q + 2)) L 1 (fgR t L 1 ((fgR t L 2 p).2 + 1)).2 (q + 3)))
  else (false, (fgR t L 2 p).2, fgM t M L 2 p (q + 1))
theorem fgM_470 {t : Nat → Int32} {M : MM} {L m p q : Nat} : fgM t M L m p q 470 = M 470 := (mst_fn (by decide)).trans (mst_fn (by decide))
theorem fgM_14 {t : Nat → Int32} {M : MM} {L m p q : Nat} : fgM t M L m p q 464 14 = M 464 14 := (mst_ne2 (by decide)).trans (mst_ne1 (by decide))
theorem fgM_18 {t : Nat → Int32} {M : MM} {L m p q : Nat} : fgM t M L m p q 464 18 = nI (fgR t L m p).2 := mst_eq _ _ _ _
theorem B89_X10_commandHere {l : Launch} (hf : l.stackTraces = false) {t : Nat → Int32} (ht : M 470 = t) {L p : Nat} (hL : M 464 14 = nI L) (hL60 : L ≤ 60) (ha : M 464 18 = nI p) (hp61 : p ≤ 61) {q : Nat} (hq : q + 3 < 128) : Q_X10_commandHere l (VI (zb (hgC t M L p q).1) (hp (hgC t M L p q).2.2 r)) 89 (L9 (some (.ref 464)) (some (.int (nI q))) none none none none none none none) [] (hp M r) := by
  refine R_aload_n dX10_commandHere_89 rfl rfl ?_
  refine R_iload_n dX10_commandHere_90 rfl rfl ?_
  refine R_iconst (v := 1) dX10_commandHere_91 (by decide) ?_
  refine R_iadd dX10_commandHere_92 ?_
  refine R_topE (show nI q + 1 = nI (q + 1) from nI_add2 q 1) ?_
  refine R_iconst (v := 2) dX10_commandHere_93 (by decide) ?_
  by_cases g1 : zb (dgR (hrR t L p)) = 0
  · refine G_cV2 cw_X10_187 (s_X10_figures_n hf ht hL hL60 ha hp61 (q := q + 1) (by omega) g1) dX10_commandHere_94 (rcv cok10 rfl (Nat.le_of_ble_eq_true rfl)) ⟨(Nat.le_of_ble_eq_true rfl), (Nat.le_of_ble_eq_true rfl), (Nat.le_of_ble_eq_true rfl), (Nat.le_of_ble_eq_true rfl)⟩ ?_
    refine R_if_eq_t (tgt := 135) dX10_commandHere_97 rfl (by decide) ?_
    refine R_iconst (v := 0) dX10_commandHere_135 (by decide) ?_
    refine R_iret dX10_commandHere_136 (by first | rfl | decide) (Nat.le_of_ble_eq_true rfl) (Nat.le_of_ble_eq_true rfl) ?_
    rw [hgC, if_pos g1]
    exact ⟨rfl, rfl⟩
  · have le1 := fgR_le (m := 2) g1
    refine G_cV2 cw_X10_187 (s_X10_figures_y2 hf ht hL hL60 ha hp61 (q := q + 1) (by omega) g1) dX10_commandHere_94 (rcv cok10 rfl (Nat.le_of_ble_eq_true rfl)) ⟨(Nat.le_of_ble_eq_true rfl), (Nat.le_of_ble_eq_true rfl), (Nat.le_of_ble_eq_true rfl), (Nat.le_of_ble_eq_true rfl)⟩ ?_
    refine R_if_eq_f (tgt := 135) dX10_commandHere_97 rfl (by decide) ?_
    refine R_aload_n dX10_commandHere_100 rfl rfl ?_
    refine R_bipush (v := 47) dX10_commandHere_101 (by decide) ?_
    by_cases g2 : hrR t L (fgR t L 2 p).2 = 47
    · have lt2 := hrR_lt g2 (by decide)
      refine G_cV1 cw_X10_177 (s_X10_skips_y hf (fgM_470.trans ht) (fgM_14.trans hL) hL60 fgM_18 (by omega) g2) dX10_commandHere_103 (rcv cok10 rfl (Nat.le_of_ble_eq_true rfl)) ⟨(Nat.le_of_ble_eq_true rfl), (Nat.le_of_ble_eq_true rfl), (Nat.le_of_ble_eq_true rfl), (Nat.le_of_ble_eq_true rfl)⟩ ?_
      refine R_if_eq_f (tgt := 135) dX10_commandHere_106 rfl (by decide) ?_
      refine R_aload_n dX10_commandHere_109 rfl rfl ?_
      refine R_iload_n dX10_commandHere_110 rfl rfl ?_
      refine R_iconst (v := 2) dX10_commandHere_111 (by decide) ?_
      refine R_iadd dX10_commandHere_112 ?_
      refine R_topE (show nI q + 2 = nI (q + 2) from nI_add2 q 2) ?_
      refine R_iconst (v := 1) dX10_commandHere_113 (by decide) ?_
      by_cases g3 : zb (dgR (hrR t L ((fgR t L 2 p).2 + 1))) = 0
      · refine G_cV2 cw_X10_187 (s_X10_figures_n hf ((mst_fn (by decide)).trans (fgM_470.trans ht)) ((mst_ne2 (by decide)).trans (fgM_14.trans hL)) hL60 (mst_eq _ _ _ _) (by omega) (q := q + 2) (by omega) g3) dX10_commandHere_114 (rcv cok10 rfl (Nat.le_of_ble_eq_true rfl)) ⟨(Nat.le_of_ble_eq_true rfl), (Nat.le_of_ble_eq_true rfl), (Nat.le_of_ble_eq_true rfl), (Nat.le_of_ble_eq_true rfl)⟩ ?_
        refine R_if_eq_t (tgt := 135) dX10_commandHere_117 rfl (by decide) ?_
        refine R_iconst (v := 0) dX10_commandHere_135 (by decide) ?_
        refine R_iret dX10_commandHere_136 (by first | rfl | decide) (Nat.le_of_ble_eq_true rfl) (Nat.le_of_ble_eq_true rfl) ?_
        rw [hgC, if_neg g1, if_pos g2, if_pos g3]
        exact ⟨rfl, rfl⟩
      · have le3 := fgR_le (m := 1) g3
        refine G_cV2 cw_X10_187 (s_X10_figures_y1 hf ((mst_fn (by decide)).trans (fgM_470.trans ht)) ((mst_ne2 (by decide)).trans (fgM_14.trans hL)) hL60 (mst_eq _ _ _ _) (by omega) (q := q + 2) (by omega) g3) dX10_commandHere_114 (rcv cok10 rfl (Nat.le_of_ble_eq_true rfl)) ⟨(Nat.le_of_ble_eq_true rfl), (Nat.le_of_ble_eq_true rfl), (Nat.le_of_ble_eq_true rfl), (Nat.le_of_ble_eq_true rfl)⟩ ?_
        refine R_if_eq_f (tgt := 135) dX10_commandHere_117 rfl (by decide) ?_
        refine R_aload_n dX10_commandHere_120 rfl rfl ?_
        refine R_iload_n dX10_commandHere_121 rfl rfl ?_
        refine R_iconst (v := 3) dX10_commandHere_122 (by decide) ?_
        refine R_iadd dX10_commandHere_123 ?_
        refine R_topE (show nI q + 3 = nI (q + 3) from nI_add2 q 3) ?_
        refine R_iconst (v := 1) dX10_commandHere_124 (by decide) ?_
        by_cases g4 : zb (dgR (hrR t L (fgR t L 1 ((fgR t L 2 p).2 + 1)).2)) = 0
        · refine G_cV2 cw_X10_187 (s_X10_figures_n hf (fgM_470.trans ((mst_fn (by decide)).trans (fgM_470.trans ht))) (fgM_14.trans ((mst_ne2 (by decide)).trans (fgM_14.trans hL))) hL60 fgM_18 (by omega) (q := q + 3) (by omega) g4) dX10_commandHere_125 (rcv cok10 rfl (Nat.le_of_ble_eq_true rfl)) ⟨(Nat.le_of_ble_eq_true rfl), (Nat.le_of_ble_eq_true rfl), (Nat.le_of_ble_eq_true rfl), (Nat.le_of_ble_eq_true rfl)⟩ ?_
          refine R_if_eq_t (tgt := 135) dX10_commandHere_128 rfl (by decide) ?_
          refine R_iconst (v := 0) dX10_commandHere_135 (by decide) ?_
          refine R_iret dX10_commandHere_136 (by first | rfl | decide) (Nat.le_of_ble_eq_true rfl) (Nat.le_of_ble_eq_true rfl) ?_
          rw [hgC, if_neg g1, if_pos g2, if_neg g3, if_pos g4]
          exact ⟨rfl, rfl⟩
        · refine G_cV2 cw_X10_187 (s_X10_figures_y1 hf (fgM_470.trans ((mst_fn (by decide)).trans (fgM_470.trans ht))) (fgM_14.trans ((mst_ne2 (by decide)).trans (fgM_14.trans hL))) hL60 fgM_18 (by omega) (q := q + 3) (by omega) g4) dX10_commandHere_125 (rcv cok10 rfl (Nat.le_of_ble_eq_true rfl)) ⟨(Nat.le_of_ble_eq_true rfl), (Nat.le_of_ble_eq_true rfl), (Nat.le_of_ble_eq_true rfl), (Nat.le_of_ble_eq_true rfl)⟩ ?_
          refine R_if_eq_f (tgt := 135) dX10_commandHere_128 rfl (by decide) ?_
          refine R_iconst (v := 1) dX10_commandHere_131 (by decide) ?_
          refine R_goto (tgt := 136) dX10_commandHere_132 rfl ?_
          refine R_iret dX10_commandHere_136 (by first | rfl | decide) (Nat.le_of_ble_eq_true rfl) (Nat.le_of_ble_eq_true rfl) ?_
          rw [hgC, if_neg g1, if_pos g2, if_neg g3, if_neg g4]
          exact ⟨rfl, rfl⟩
    · refine G_cV1 cw_X10_177 (s_X10_skips_n hf (fgM_470.trans ht) (fgM_14.trans hL) hL60 fgM_18 (by omega) g2) dX10_commandHere_103 (rcv cok10 rfl (Nat.le_of_ble_eq_true rfl)) ⟨(Nat.le_of_ble_eq_true rfl), (Nat.le_of_ble_eq_true rfl), (Nat.le_of_ble_eq_true rfl), (Nat.le_of_ble_eq_true rfl)⟩ ?_
      refine R_if_eq_t (tgt := 135) dX10_commandHere_106 rfl (by decide) ?_
      refine R_iconst (v := 0) dX10_commandHere_135 (by decide) ?_
      refine R_iret dX10_commandHere_136 (by first | rfl | decide) (Nat.le_of_ble_eq_true rfl) (Nat.le_of_ble_eq_true rfl) ?_
      rw [hgC, if_neg g1, if_neg g2]
      exact ⟨rfl, rfl⟩
end P33
