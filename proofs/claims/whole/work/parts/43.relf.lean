section P43
variable {M N K : MM} {n k c : Nat} {t : Nat → Int32} {L p q : Nat}
theorem sg_hr (h : dgR (hrR t L p) = true) : sg t L p = hrR t L p := by
  have hp : p < L := dgR_lt (zb_n0.mpr h)
  unfold sg hrR
  rw [if_pos hp, if_pos hp]
theorem dg_eq : dig (sg t L p) = dgR (hrR t L p) := by
  by_cases hp : p < L
  · unfold sg hrR
    rw [if_pos hp, if_pos hp]; rfl
  · unfold sg hrR
    rw [if_neg hp, if_neg hp]; decide
theorem dg_num {x : Int32} (h : dgR x = true) : ∃ d, d < 10 ∧ x - 48 = nI d ∧ 10 * 0 + x - 48 = nI d ∧ 0 * 10 + (x - 48) = nI d := by
  unfold dgR inB at h
  rw [Bool.and_eq_true, Bool.not_eq_true', Bool.not_eq_true', decide_eq_false_iff_not, decide_eq_false_iff_not] at h
  have h2 := Int32.not_lt.mp h.1
  have h3 := Int32.not_lt.mp h.2
  rw [Int32.le_iff_toInt_le] at h2 h3
  have e0 : (48 : Int32).toInt = 48 := rfl
  have e1 : (57 : Int32).toInt = 57 := rfl
  obtain ⟨d, hd, e⟩ : ∃ d, d < 10 ∧ x = nI (48 + d) := by
    refine ⟨x.toInt.toNat - 48, by omega, ?_⟩
    apply Int32.toInt_inj.mp
    rw [nI_toInt (by omega)]
    omega
  have key : ∀ d, d < 10 → nI (48 + d) - 48 = nI d ∧ 10 * 0 + nI (48 + d) - 48 = nI d ∧ 0 * 10 + (nI (48 + d) - 48) = nI d := by decide +kernel
  exact ⟨d, hd, by rw [e]; exact (key d hd).1, by rw [e]; exact (key d hd).2.1, by rw [e]; exact (key d hd).2.2⟩
theorem rd_no {m : Nat} (h : ¬ dgR (hrR t L p) = true) : rdN t L m p = (-1, p) := by
  unfold rdN
  rw [dg_eq, if_pos (by simpa using h)]
theorem rd_fg {m : Nat} (h : dgR (hrR t L p) = true) : rdN t L m p = fgR t L m p ∧ ¬ (rdN t L m p).1 = -1 := by
  have e : rdN t L m p = fgR t L m p ∧ ∃ d, d < 100 ∧ (fgR t L m p).1 = nI d := by
    unfold rdN fgR
    rw [dg_eq, if_neg (by rw [h]; decide), sg_hr h]
    obtain ⟨d, hd, d1, d2, d3⟩ := dg_num h
    by_cases hm : m = 1
    · rw [if_pos hm, if_pos hm, d2, d3]
      exact ⟨rfl, d, by omega, rfl⟩
    rw [if_neg hm, if_neg hm, dg_eq]
    by_cases h2 : dgR (hrR t L (p + 1)) = true
    · obtain ⟨e, he, e1, e2, e3⟩ := dg_num h2
      rw [if_neg (by rw [h2]; decide), if_neg (zb_n0.mpr h2), sg_hr h2, d2, d3, e1]
      have key : ∀ d, d < 10 → ∀ e, e < 10 → nI d * 10 + nI e = nI (10 * d + e) ∧ 10 * nI d + nI e = nI (10 * d + e) := by decide +kernel
      have as : 10 * nI d + hrR t L (p + 1) - 48 = nI (10 * d + e) := by rw [asub, e1]; exact (key d hd e he).2
      rw [(key d hd e he).1, as]
      exact ⟨rfl, 10 * d + e, by omega, rfl⟩
    · rw [if_pos (by simpa using h2), if_pos (by simpa [zb_0] using h2), d2, d3]
      exact ⟨rfl, d, by omega, rfl⟩
  obtain ⟨e1, d, hd, e2⟩ := e
  refine ⟨e1, ?_⟩
  rw [e1, e2]
  exact nI_nm1 (by omega)
/-- what was read, in the class's slots and in the reference's row -/
def rgs (K : MM) (T : Nat → Int32) (q : Nat) : Prop := K 460 5 = T q ∧ (T q ≠ 100 → K 460 6 = T (q + 1)) ∧ (T q = 104 → K 460 7 = T (q + 2) ∧ K 460 8 = T (q + 3))
theorem kc_1 {x : Int32} (h : x = 100) : kc x = 1 := by rw [h]; decide
theorem nu_eq {m : Nat} {M0 : MM} {x : Int32} (hx : x ≠ 100) (hx2 : x ≠ 104) (hN : N 472 q = x) : (!((rdN t L m p).1 == -1)) = (nuC t N L m p q).1 ∧ (rdN t L m p).2 = (nuC t N L m p q).2.1 ∧ ((nuC t N L m p q).1 = true → rgs (mst (mst (mst M0 460 5 x) 460 4 (nI (rdN t L m p).2)) 460 6 (rdN t L m p).1) ((nuC t N L m p q).2.2 472) q) := by
  unfold nuC
  by_cases h : dgR (hrR t L p) = true
  · obtain ⟨e1, e2⟩ := rd_fg (m := m) h
    rw [if_neg (zb_n0.mpr h)]
    refine ⟨?_, by rw [e1], fun _ => ?_⟩
    · rw [beq_eq_false_iff_ne.mpr e2]; rfl
    · have g0 : fgM t N L m p (q + 1) 472 q = x := by rw [fgM, mst_ne1 (by decide), mst_ne2 (by omega), hN]
      have g1 : fgM t N L m p (q + 1) 472 (q + 1) = (fgR t L m p).1 := by rw [fgM, mst_ne1 (by decide), mst_eq]
      refine ⟨?_, fun _ => ?_, fun z => ?_⟩
      · show _ = fgM t N L m p (q + 1) 472 q
        rw [g0, mst_ne2 (by decide), mst_ne2 (by decide), mst_eq]
      · show _ = fgM t N L m p (q + 1) 472 (q + 1)
        rw [g1, mst_eq, e1]
      · exact absurd (g0.symm.trans z) hx2
  · rw [rd_no h, if_pos (by simpa [zb_0] using h)]
    exact ⟨rfl, rfl, fun z => by cases z⟩
theorem hr_sg {x : Int32} (h0 : x ≠ 0) (h1 : x ≠ -1) : sg t L p = x ↔ hrR t L p = x := by
  unfold sg hrR
  by_cases hp : p < L
  · rw [if_pos hp, if_pos hp]
  · rw [if_neg hp, if_neg hp]
    exact ⟨fun z => absurd z.symm h0, fun z => absurd z.symm h1⟩
theorem tx_1 : (pcM t M L p).1 = (chR t N L p q).1 ∧ (pcM t M L p).2.1 = (chR t N L p q).2.1 ∧ ((chR t N L p q).1 = true → rgs (pcM t M L p).2.2 ((chR t N L p q).2.2 472) q) := by
  have hc : chM t N L p q 472 q = hrR t L p := by rw [chM, mst_ne1 (by decide), mst_eq]
  by_cases h1 : hrR t L p = 100
  · have s1 : sg t L p = 100 := (hr_sg (by decide) (by decide)).mpr h1
    unfold pcM chR
    rw [s1, if_pos (show kc 100 = 1 by decide), if_pos h1]
    refine ⟨rfl, rfl, fun _ => ⟨?_, fun z => ?_, fun z => ?_⟩⟩
    · show _ = chM t N L p q 472 q
      rw [hc, h1]
      dsimp only
      rw [mst_ne2 (by decide), mst_eq]
    · exact absurd (hc.trans h1) z
    · exact absurd ((hc.trans h1).symm.trans z) (by decide)
  by_cases h2 : two (hrR t L p) = true
  · have hl : p < L := hrR_lt rfl (two_n1 h2)
    have s2 : sg t L p = hrR t L p := by unfold sg hrR; rw [if_pos hl, if_pos hl]
    have k3 : ∀ x, two x = true → kc x = 3 ∧ x ≠ 104 := by
      intro x hx
      unfold two at hx
      simp only [Bool.or_eq_true, beq_iff_eq] at hx
      rcases hx with ((((((hx | hx) | hx) | hx) | hx) | hx) | hx) <;> (rw [hx]; decide)
    unfold pcM chR
    rw [s2, if_neg (by rw [(k3 _ h2).1]; decide), if_neg (by rw [(k3 _ h2).1]; decide), if_pos (k3 _ h2).1, if_neg h1, if_pos h2]
    exact nu_eq h1 (k3 _ h2).2 hc
  have c2 : ∀ x, (x = 102 ∨ x = 97 ∨ x = 119) → hrR t L p = x → (pcM t M L p) = (!((rdN t L 1 (p + 1)).1 == -1), (rdN t L 1 (p + 1)).2, mst (mst (mst M 460 5 (hrR t L p)) 460 4 (nI (rdN t L 1 (p + 1)).2)) 460 6 (rdN t L 1 (p + 1)).1) ∧ chR t N L p q = nuC t (chM t N L p q) L 1 (p + 1) q := by
    intro x hx e
    have s2 : sg t L p = x := (hr_sg (by rcases hx with rfl | rfl | rfl <;> decide) (by rcases hx with rfl | rfl | rfl <;> decide)).mpr e
    have kx : kc x = 2 := by rcases hx with rfl | rfl | rfl <;> decide
    refine ⟨?_, ?_⟩
    · unfold pcM
      rw [s2, if_neg (by rw [kx]; decide), if_pos kx, e]
    · unfold chR
      rw [if_neg h1, if_neg h2, e]
      rcases hx with rfl | rfl | rfl
      · rw [if_pos rfl]
      · rw [if_neg (by decide), if_pos rfl]
      · rw [if_neg (by decide), if_neg (by decide), if_pos rfl]
  by_cases h3 : hrR t L p = 102 ∨ hrR t L p = 97 ∨ hrR t L p = 119
  · obtain ⟨e1, e2⟩ := c2 (hrR t L p) h3 rfl
    rw [e1, e2]
    exact nu_eq h1 (by rcases h3 with h3 | h3 | h3 <;> rw [h3] <;> decide) hc
  by_cases h4 : hrR t L p = 104
  · have s4 : sg t L p = 104 := (hr_sg (by decide) (by decide)).mpr h4
    unfold pcM chR
    rw [s4, if_neg (show ¬ kc 104 = 1 by decide), if_neg (show ¬ kc 104 = 2 by decide), if_neg (show ¬ kc 104 = 3 by decide), if_pos (show kc 104 = 4 by decide), if_neg h1, if_neg h2, if_neg (fun z => h3 (Or.inl z)), if_neg (fun z => h3 (Or.inr (Or.inl z))), if_neg (fun z => h3 (Or.inr (Or.inr z))), if_pos h4]
    unfold hgC
    by_cases d1 : dgR (hrR t L (p + 1)) = true
    · obtain ⟨e1, e2⟩ := rd_fg (m := 2) d1
      rw [if_neg e2, if_neg (zb_n0.mpr d1), e1]
      unfold hkM
      by_cases d2 : hrR t L (fgR t L 2 (p + 1)).2 = 47
      · rw [if_pos ((hr_sg (by decide) (by decide)).mpr d2), if_pos d2]
        by_cases d3 : dgR (hrR t L ((fgR t L 2 (p + 1)).2 + 1)) = true
        · obtain ⟨f1, f2⟩ := rd_fg (m := 1) d3
          rw [if_neg f2, if_neg (zb_n0.mpr d3), f1]
          by_cases d4 : dgR (hrR t L (fgR t L 1 ((fgR t L 2 (p + 1)).2 + 1)).2) = true
          · obtain ⟨g1, g2⟩ := rd_fg (m := 1) d4
            rw [if_neg (zb_n0.mpr d4)]
            refine ⟨by rw [beq_eq_false_iff_ne.mpr g2]; rfl, by rw [g1], fun _ => ?_⟩
            have u0 : fgM t (fgM t (mst (fgM t (chM t N L p q) L 2 (p + 1) (q + 1)) 464 18 (nI ((fgR t L 2 (p + 1)).2 + 1))) L 1 ((fgR t L 2 (p + 1)).2 + 1) (q + 2)) L 1 (fgR t L 1 ((fgR t L 2 (p + 1)).2 + 1)).2 (q + 3) 472 q = 104 := by
              rw [fgM, mst_ne1 (by decide), mst_ne2 (by omega), fgM, mst_ne1 (by decide), mst_ne2 (by omega), mst_ne1 (by decide), fgM, mst_ne1 (by decide), mst_ne2 (by omega), hc, h4]
            have u1 : fgM t (fgM t (mst (fgM t (chM t N L p q) L 2 (p + 1) (q + 1)) 464 18 (nI ((fgR t L 2 (p + 1)).2 + 1))) L 1 ((fgR t L 2 (p + 1)).2 + 1) (q + 2)) L 1 (fgR t L 1 ((fgR t L 2 (p + 1)).2 + 1)).2 (q + 3) 472 (q + 1) = (fgR t L 2 (p + 1)).1 := by
              rw [fgM, mst_ne1 (by decide), mst_ne2 (by omega), fgM, mst_ne1 (by decide), mst_ne2 (by omega), mst_ne1 (by decide), fgM, mst_ne1 (by decide), mst_eq]
            have u2 : fgM t (fgM t (mst (fgM t (chM t N L p q) L 2 (p + 1) (q + 1)) 464 18 (nI ((fgR t L 2 (p + 1)).2 + 1))) L 1 ((fgR t L 2 (p + 1)).2 + 1) (q + 2)) L 1 (fgR t L 1 ((fgR t L 2 (p + 1)).2 + 1)).2 (q + 3) 472 (q + 2) = (fgR t L 1 ((fgR t L 2 (p + 1)).2 + 1)).1 := by
              rw [fgM, mst_ne1 (by decide), mst_ne2 (by omega), fgM, mst_ne1 (by decide), mst_eq]
            have u3 : fgM t (fgM t (mst (fgM t (chM t N L p q) L 2 (p + 1) (q + 1)) 464 18 (nI ((fgR t L 2 (p + 1)).2 + 1))) L 1 ((fgR t L 2 (p + 1)).2 + 1) (q + 2)) L 1 (fgR t L 1 ((fgR t L 2 (p + 1)).2 + 1)).2 (q + 3) 472 (q + 3) = (fgR t L 1 (fgR t L 1 ((fgR t L 2 (p + 1)).2 + 1)).2).1 := by
              rw [fgM, mst_ne1 (by decide), mst_eq]
            refine ⟨Eq.trans ?_ u0.symm, fun _ => Eq.trans ?_ u1.symm, fun _ => ⟨Eq.trans ?_ u2.symm, Eq.trans ?_ u3.symm⟩⟩
            · dsimp only
              rw [mst_ne2 (by decide), mst_ne2 (by decide), mst_ne2 (by decide), mst_ne2 (by decide), mst_ne2 (by decide), mst_ne2 (by decide), mst_eq]
            · dsimp only
              rw [mst_ne2 (by decide), mst_ne2 (by decide), mst_ne2 (by decide), mst_ne2 (by decide), mst_eq]
            · dsimp only
              rw [mst_ne2 (by decide), mst_ne2 (by decide), mst_eq]
            · dsimp only
              rw [mst_eq, g1]
          · rw [rd_no d4, if_pos (by simpa [zb_0] using d4)]
            exact ⟨rfl, rfl, fun z => by cases z⟩
        · rw [rd_no d3, if_pos rfl, if_pos (by simpa [zb_0] using d3)]
          exact ⟨rfl, rfl, fun z => by cases z⟩
      · rw [if_neg (fun z => d2 ((hr_sg (by decide) (by decide)).mp z)), if_neg d2]
        exact ⟨rfl, rfl, fun z => by cases z⟩
    · rw [rd_no d1, if_pos rfl, if_pos (by simpa [zb_0] using d1)]
      exact ⟨rfl, rfl, fun z => by cases z⟩
  · have k0 : kc (sg t L p) = 0 := by
      by_cases hp : p < L
      · have s2 : sg t L p = hrR t L p := by unfold sg hrR; rw [if_pos hp, if_pos hp]
        rw [s2]
        unfold kc
        rw [if_neg h1, if_neg (fun z => h3 (by rcases z with z | z | z; exact Or.inl z; exact Or.inr (Or.inr z); exact Or.inr (Or.inl z))), if_neg (fun z => h2 (by rcases z with z | z | z | z | z | z | z <;> (rw [z]; decide))), if_neg h4]
      · unfold sg
        rw [if_neg hp]; decide
    unfold pcM chR
    rw [k0, if_neg (by decide), if_neg (by decide), if_neg (by decide), if_neg (by decide), if_neg h1, if_neg h2, if_neg (fun z => h3 (Or.inl z)), if_neg (fun z => h3 (Or.inr (Or.inl z))), if_neg (fun z => h3 (Or.inr (Or.inr z))), if_neg h4]
    exact ⟨rfl, rfl, fun z => by cases z⟩
end P43
