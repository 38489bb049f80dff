theorem fgM_fr {t : Nat → Int32} {M : MM} {L m p q a k : Nat} (h1 : a ≠ 472) (h2 : a ≠ 464 ∨ k ≠ 18) : fgM t M L m p q a k = M a k := (mst_ne (by omega)).trans (mst_ne1 h1)
theorem hgC_fr {t : Nat → Int32} {M : MM} {L p q a k : Nat} (h1 : a ≠ 472) (h2 : a ≠ 464 ∨ k ≠ 18) : (hgC t M L p q).2.2 a k = M a k := by
  unfold hgC
  repeat' split
  · rfl
  · exact (mst_ne (by omega)).trans (fgM_fr h1 h2)
  · exact (fgM_fr h1 h2).trans ((mst_ne (by omega)).trans (fgM_fr h1 h2))
  · exact (fgM_fr h1 h2).trans ((fgM_fr h1 h2).trans ((mst_ne (by omega)).trans (fgM_fr h1 h2)))
  · exact fgM_fr h1 h2
theorem nuC_fr {t : Nat → Int32} {M : MM} {L m p q a k : Nat} (h1 : a ≠ 472) (h2 : a ≠ 464 ∨ k ≠ 18) : (nuC t M L m p q).2.2 a k = M a k := by
  unfold nuC
  split
  · rfl
  · exact fgM_fr h1 h2
theorem chM_fr {t : Nat → Int32} {M : MM} {L p q a k : Nat} (h1 : a ≠ 472) (h2 : a ≠ 464 ∨ k ≠ 18) : chM t M L p q a k = M a k := (mst_ne (by omega)).trans (mst_ne1 h1)
theorem chR_fr {t : Nat → Int32} {M : MM} {L p q a k : Nat} (h1 : a ≠ 472) (h2 : a ≠ 464 ∨ k ≠ 18) : (chR t M L p q).2.2 a k = M a k := by
  unfold chR
  repeat' split
  · exact chM_fr h1 h2
  · exact (nuC_fr h1 h2).trans (chM_fr h1 h2)
  · exact (nuC_fr h1 h2).trans (chM_fr h1 h2)
  · exact (nuC_fr h1 h2).trans (chM_fr h1 h2)
  · exact (nuC_fr h1 h2).trans (chM_fr h1 h2)
  · exact (hgC_fr h1 h2).trans (chM_fr h1 h2)
  · exact mst_ne1 h1
theorem hgC_18 {t : Nat → Int32} {M : MM} {L p q : Nat} (h : M 464 18 = nI p) : (hgC t M L p q).2.2 464 18 = nI (hgC t M L p q).2.1 := by
  unfold hgC
  repeat' split
  · dsimp only; exact h
  · dsimp only; exact mst_eq _ _ _ _
  · dsimp only; exact fgM_18
  · dsimp only; exact fgM_18
  · dsimp only; exact fgM_18
theorem nuC_18 {t : Nat → Int32} {M : MM} {L m p q : Nat} (h : M 464 18 = nI p) : (nuC t M L m p q).2.2 464 18 = nI (nuC t M L m p q).2.1 := by
  unfold nuC
  split
  · dsimp only; exact h
  · dsimp only; exact fgM_18
theorem chR_18 {t : Nat → Int32} {M : MM} {L p q : Nat} (h : M 464 18 = nI p) : (chR t M L p q).2.2 464 18 = nI (chR t M L p q).2.1 := by
  unfold chR
  repeat' split
  · dsimp only; exact mst_eq _ _ _ _
  · exact nuC_18 (mst_eq _ _ _ _)
  · exact nuC_18 (mst_eq _ _ _ _)
  · exact nuC_18 (mst_eq _ _ _ _)
  · exact nuC_18 (mst_eq _ _ _ _)
  · exact hgC_18 (mst_eq _ _ _ _)
  · dsimp only; exact (mst_ne1 (show (464 : Nat) ≠ 472 by decide)).trans h
theorem fgR_ge {t : Nat → Int32} {L m p : Nat} : p + 1 ≤ (fgR t L m p).2 := by
  unfold fgR
  split
  · exact Nat.le_refl _
  · split
    · exact Nat.le_refl _
    · show p + 1 ≤ p + 2; omega
theorem nuC_b {t : Nat → Int32} {M : MM} {L m p q : Nat} (h : p ≤ L) : p ≤ (nuC t M L m p q).2.1 ∧ (nuC t M L m p q).2.1 ≤ L := by
  have g := fgR_ge (t := t) (L := L) (m := m) (p := p)
  unfold nuC
  split
  · exact ⟨Nat.le_refl _, h⟩
  · rename_i h1
    exact ⟨by show p ≤ (fgR t L m p).2; omega, fgR_le h1⟩
theorem hgC_b {t : Nat → Int32} {M : MM} {L p q : Nat} (h : p ≤ L) : p ≤ (hgC t M L p q).2.1 ∧ (hgC t M L p q).2.1 ≤ L := by
  have g := fgR_ge (t := t) (L := L) (m := 2) (p := p)
  have g2 := fgR_ge (t := t) (L := L) (m := 1) (p := (fgR t L 2 p).2 + 1)
  have g3 := fgR_ge (t := t) (L := L) (m := 1) (p := (fgR t L 1 ((fgR t L 2 p).2 + 1)).2)
  unfold hgC
  by_cases h1 : zb (dgR (hrR t L p)) = 0
  · rw [if_pos h1]; exact ⟨Nat.le_refl _, h⟩
  · rw [if_neg h1]
    have l1 := fgR_le (m := 2) h1
    by_cases h2 : hrR t L (fgR t L 2 p).2 = 47
    · rw [if_pos h2]
      have l2 := hrR_lt h2 (by decide)
      by_cases h3 : zb (dgR (hrR t L ((fgR t L 2 p).2 + 1))) = 0
      · rw [if_pos h3]; exact ⟨by show p ≤ (fgR t L 2 p).2 + 1; omega, l2⟩
      · rw [if_neg h3]
        have l3 := fgR_le (m := 1) h3
        by_cases h4 : zb (dgR (hrR t L (fgR t L 1 ((fgR t L 2 p).2 + 1)).2)) = 0
        · rw [if_pos h4]; exact ⟨by show p ≤ (fgR t L 1 ((fgR t L 2 p).2 + 1)).2; omega, l3⟩
        · rw [if_neg h4]; exact ⟨by show p ≤ (fgR t L 1 (fgR t L 1 ((fgR t L 2 p).2 + 1)).2).2; omega, fgR_le h4⟩
    · rw [if_neg h2]; exact ⟨by show p ≤ (fgR t L 2 p).2; omega, l1⟩
theorem chR_b {t : Nat → Int32} {M : MM} {L p q : Nat} (h : p ≤ L) : ((chR t M L p q).1 = true → p + 1 ≤ (chR t M L p q).2.1) ∧ (chR t M L p q).2.1 ≤ L := by
  unfold chR
  by_cases h1 : hrR t L p = 100
  · rw [if_pos h1]; exact ⟨fun _ => Nat.le_refl _, hrR_lt h1 (by decide)⟩
  rw [if_neg h1]
  by_cases h2 : two (hrR t L p) = true
  · rw [if_pos h2]; have z := nuC_b (t := t) (M := chM t M L p q) (m := 2) (q := q) (hrR_lt (c := hrR t L p) rfl (two_n1 h2)); exact ⟨fun _ => z.1, z.2⟩
  rw [if_neg h2]
  by_cases h3 : hrR t L p = 102
  · rw [if_pos h3]; have z := nuC_b (t := t) (M := chM t M L p q) (m := 1) (q := q) (hrR_lt h3 (by decide)); exact ⟨fun _ => z.1, z.2⟩
  rw [if_neg h3]
  by_cases h4 : hrR t L p = 97
  · rw [if_pos h4]; have z := nuC_b (t := t) (M := chM t M L p q) (m := 1) (q := q) (hrR_lt h4 (by decide)); exact ⟨fun _ => z.1, z.2⟩
  rw [if_neg h4]
  by_cases h5 : hrR t L p = 119
  · rw [if_pos h5]; have z := nuC_b (t := t) (M := chM t M L p q) (m := 1) (q := q) (hrR_lt h5 (by decide)); exact ⟨fun _ => z.1, z.2⟩
  rw [if_neg h5]
  by_cases h6 : hrR t L p = 104
  · rw [if_pos h6]; have z := hgC_b (t := t) (M := chM t M L p q) (q := q) (hrR_lt h6 (by decide)); exact ⟨fun _ => z.1, z.2⟩
  rw [if_neg h6]
  exact ⟨(fun z => by cases z), h⟩
/-- a text read: whether it is one, where it ends, the memory -/
def txR (t : Nat → Int32) (L : Nat) : Nat → Nat → Nat → MM → Bool × Nat × MM
  | 0, _, p, M => (false, p, M)
  | f + 1, n, p, M =>
    if (chR t M L p (4 * n)).1 = false then (false, (chR t M L p (4 * n)).2.1, (chR t M L p (4 * n)).2.2)
    else if hrR t L (chR t M L p (4 * n)).2.1 = 59 then txR t L f (n + 1) ((chR t M L p (4 * n)).2.1 + 1) (mst (mst (chR t M L p (4 * n)).2.2 464 20 (nI (n + 1))) 464 18 (nI ((chR t M L p (4 * n)).2.1 + 1)))
    else ((chR t M L p (4 * n)).2.1 == L, (chR t M L p (4 * n)).2.1, mst (chR t M L p (4 * n)).2.2 464 20 (nI (n + 1)))
section P34
variable {M : MM} {r : MR}
theorem L_X10_isText {l : Launch} (hf : l.stackTraces = false) {t : Nat → Int32} {L : Nat} (hL60 : L ≤ 60) : ∀ (j n p : Nat) (M : MM), n + j = 31 → 2 * n ≤ p → p ≤ L → M 470 = t → M 464 14 = nI L → M 464 18 = nI p → M 464 20 = nI n → Q_X10_isText l (VI (zb (txR t L j n p M).1) (hp (txR t L j n p M).2.2 r)) 10 (L9 (some (.ref 464)) none none none none none none none none) [] (hp M r) := by
  intro j
  induction j with
  | zero =>
    intro n p M hn h2 hpL
    exfalso
    omega
  | succ j ih =>
    intro n p M hn h2 hpL ht hL ha hm
    have b := chR_b (t := t) (M := M) (q := 4 * n) hpL
    have e18 := chR_18 (t := t) (L := L) (q := 4 * n) ha
    have e14 : (chR t M L p (4 * n)).2.2 464 14 = nI L := (chR_fr (by decide) (Or.inr (by decide))).trans hL
    have e20 : (chR t M L p (4 * n)).2.2 464 20 = nI n := (chR_fr (by decide) (Or.inr (by decide))).trans hm
    have e470 : (chR t M L p (4 * n)).2.2 470 = t := (funext fun k => chR_fr (by decide) (Or.inl (by decide))).trans ht
    obtain ⟨X, eX⟩ : ∃ X, X = mst (chR t M L p (4 * n)).2.2 464 20 (nI (n + 1)) := ⟨_, rfl⟩
    have f18 : X 464 18 = nI (chR t M L p (4 * n)).2.1 := by rw [eX]; exact (mst_ne2 (by decide)).trans e18
    have f14 : X 464 14 = nI L := by rw [eX]; exact (mst_ne2 (by decide)).trans e14
    have f470 : X 470 = t := by rw [eX]; exact (mst_fn (by decide)).trans e470
    have f20 : X 464 20 = nI (n + 1) := by rw [eX]; exact mst_eq _ _ _ _
    refine R_aload_n dX10_isText_10 rfl rfl ?_
    refine G_cV0 cw_X10_190 (s_X10_commandHere hf ht hL hL60 ha (by omega) (by omega) hm) dX10_isText_11 (rcv cok10 (by first | exact rfl | assumption) (Nat.le_of_ble_eq_true rfl)) ⟨(Nat.le_of_ble_eq_true rfl), (Nat.le_of_ble_eq_true rfl), (Nat.le_of_ble_eq_true rfl), (Nat.le_of_ble_eq_true rfl)⟩ ?_
    refine R_if_ne (tgt := 19) dX10_isText_14 rfl (fun c1 => ?_) (fun c1 => ?_)
    · have ok : ¬ (chR t M L p (4 * n)).1 = false := by simpa [zb_n0] using c1
      have b1 := b.1 (by simpa using ok)
      refine R_aload_n dX10_isText_19 rfl rfl ?_
      refine R_dup dX10_isText_20 rfl ?_
      refine G_get cok10 20 wf_X10_180 dX10_isText_21 (by first | exact rfl | assumption) ⟨(Nat.le_of_ble_eq_true rfl), (Nat.le_of_ble_eq_true rfl)⟩ rfl ?_
      refine R_iconst (v := 1) dX10_isText_24 (by decide) ?_
      refine R_iadd dX10_isText_25 ?_
      refine R_topE (show (chR t M L p (4 * n)).2.2 464 20 + 1 = nI (n + 1) from by rw [e20, nI_1]) ?_
      refine G_put cok10 20 wf_X10_180 dX10_isText_26 (by first | exact rfl | assumption) rfl ⟨(Nat.le_of_ble_eq_true rfl), rfl, (Nat.le_of_ble_eq_true rfl)⟩ ⟨rfl, rfl⟩ ?_
      rw [← eX]
      refine R_aload_n dX10_isText_29 rfl rfl ?_
      refine R_bipush (v := 59) dX10_isText_30 (by decide) ?_
      by_cases g1 : hrR t L (chR t M L p (4 * n)).2.1 = 59
      · refine G_cV1 cw_X10_177 (s_X10_skips_y hf f470 f14 hL60 f18 (by omega) g1) dX10_isText_32 (rcv cok10 rfl (Nat.le_of_ble_eq_true rfl)) ⟨(Nat.le_of_ble_eq_true rfl), (Nat.le_of_ble_eq_true rfl), (Nat.le_of_ble_eq_true rfl), (Nat.le_of_ble_eq_true rfl)⟩ ?_
        refine R_if_ne_t (tgt := 10) dX10_isText_35 rfl (by decide) ?_
        have lt9 := hrR_lt g1 (by decide)
        rw [txR, if_neg ok, if_pos g1, ← eX]
        exact ih (n + 1) _ _ (by omega) (by omega) (by omega) ((mst_fn (by decide)).trans f470) ((mst_ne2 (by decide)).trans f14) (mst_eq _ _ _ _) ((mst_ne2 (by decide)).trans f20)
      · refine G_cV1 cw_X10_177 (s_X10_skips_n hf f470 f14 hL60 f18 (by omega) g1) dX10_isText_32 (rcv cok10 rfl (Nat.le_of_ble_eq_true rfl)) ⟨(Nat.le_of_ble_eq_true rfl), (Nat.le_of_ble_eq_true rfl), (Nat.le_of_ble_eq_true rfl), (Nat.le_of_ble_eq_true rfl)⟩ ?_
        refine R_if_ne_f (tgt := 10) dX10_isText_35 rfl (by decide) ?_
        refine R_aload_n dX10_isText_38 rfl rfl ?_
        refine G_get cok10 18 wf_X10_171 dX10_isText_39 (by first | exact rfl | assumption) ⟨(Nat.le_of_ble_eq_true rfl), (Nat.le_of_ble_eq_true rfl)⟩ rfl ?_
        refine R_aload_n dX10_isText_42 rfl rfl ?_
        refine G_get cok10 14 wf_X10_168 dX10_isText_43 (by first | exact rfl | assumption) ⟨(Nat.le_of_ble_eq_true rfl), (Nat.le_of_ble_eq_true rfl)⟩ rfl ?_
        refine R_icmp_ne (tgt := 53) dX10_isText_46 rfl (fun c2 => ?_) (fun c2 => ?_)
        · refine R_iconst (v := 0) dX10_isText_53 (by decide) ?_
          refine R_iret dX10_isText_54 (by first | rfl | decide) (Nat.le_of_ble_eq_true rfl) (Nat.le_of_ble_eq_true rfl) ?_
          first | (rw [txR, if_pos (by simpa [zb_0] using c1)]; exact ⟨rfl, rfl⟩) | (rw [txR, if_neg ok, if_neg g1, ← eX]; rw [f18, f14] at *; refine ⟨?_, rfl⟩; first | (rw [beq_iff_eq.mpr ((nI_eq (by omega) (by omega)).mp (by assumption))]; rfl) | (rw [beq_eq_false_iff_ne.mpr (fun z => absurd (congrArg nI z) (by assumption))]; rfl))
        · refine R_iconst (v := 1) dX10_isText_49 (by decide) ?_
          refine R_goto (tgt := 54) dX10_isText_50 rfl ?_
          refine R_iret dX10_isText_54 (by first | rfl | decide) (Nat.le_of_ble_eq_true rfl) (Nat.le_of_ble_eq_true rfl) ?_
          first | (rw [txR, if_pos (by simpa [zb_0] using c1)]; exact ⟨rfl, rfl⟩) | (rw [txR, if_neg ok, if_neg g1, ← eX]; rw [f18, f14] at *; refine ⟨?_, rfl⟩; first | (rw [beq_iff_eq.mpr ((nI_eq (by omega) (by omega)).mp (by assumption))]; rfl) | (rw [beq_eq_false_iff_ne.mpr (fun z => absurd (congrArg nI z) (by assumption))]; rfl))
    · refine R_iconst (v := 0) dX10_isText_17 (by decide) ?_
      refine R_iret dX10_isText_18 rfl (Nat.le_of_ble_eq_true rfl) (Nat.le_of_ble_eq_true rfl) ?_
      first | (rw [txR, if_pos (by simpa [zb_0] using c1)]; exact ⟨rfl, rfl⟩) | (rw [txR, if_neg ok, if_neg g1, ← eX]; rw [f18, f14] at *; refine ⟨?_, rfl⟩; first | (rw [beq_iff_eq.mpr ((nI_eq (by omega) (by omega)).mp (by assumption))]; rfl) | (rw [beq_eq_false_iff_ne.mpr (fun z => absurd (congrArg nI z) (by assumption))]; rfl))
theorem s_X10_isText {l : Launch} (hf : l.stackTraces = false) {t : Nat → Int32} {L : Nat} (ht : M 470 = t) (hL : M 464 14 = nI L) (hL60 : L ≤ 60) : V_X10_isText l [.ref 464] (hp M r) (VI (zb (txR t L 31 0 0 (mst (mst M 464 18 0) 464 20 0)).1) (hp (txR t L 31 0 0 (mst (mst M 464 18 0) 464 20 0)).2.2 r)) := by
  refine VM.intro (lf := L9 (some (.ref 464)) none none none none none none none none) (by decide +kernel) hf (fun _ => (Nat.le_of_ble_eq_true rfl)) (fun _ => rfl) ?_
  refine R_aload_n dX10_isText_0 rfl rfl ?_
  refine R_iconst (v := 0) dX10_isText_1 (by decide) ?_
  refine G_put cok10 18 wf_X10_171 dX10_isText_2 (by first | exact rfl | assumption) rfl ⟨(Nat.le_of_ble_eq_true rfl), rfl, (Nat.le_of_ble_eq_true rfl)⟩ ⟨rfl, rfl⟩ ?_
  refine R_aload_n dX10_isText_5 rfl rfl ?_
  refine R_iconst (v := 0) dX10_isText_6 (by decide) ?_
  refine G_put cok10 20 wf_X10_180 dX10_isText_7 (by first | exact rfl | assumption) rfl ⟨(Nat.le_of_ble_eq_true rfl), rfl, (Nat.le_of_ble_eq_true rfl)⟩ ⟨rfl, rfl⟩ ?_
  exact L_X10_isText hf hL60 31 0 0 _ (by omega) (by omega) (by omega) ((mst_fn (by decide)).trans ((mst_fn (by decide)).trans ht)) ((mst_ne2 (by decide)).trans ((mst_ne2 (by decide)).trans hL)) ((mst_ne2 (by decide)).trans ((mst_eq _ _ _ _).trans nI_0.symm)) ((mst_eq _ _ _ _).trans nI_0.symm)
end P34
