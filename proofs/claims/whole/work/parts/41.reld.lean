section P41
variable {M N K : MM} {n k c : Nat}
theorem sa_up : ∀ a, a < 10 → mn2 (nI a + 2) 9 = nI (if a + 2 < 9 then a + 2 else 9) := by decide +kernel
theorem dayR_s {i : Nat} : dayR M (i + 1) = if dayR M i (6 + 3 * i) 4 = 1 then mst (dayR M i) (6 + 3 * i) 3 (am (dayR M i (6 + 3 * i) 3 + 2) 9) else dayR M i := rfl
theorem dyR_s {i : Nat} : dyR K (i + 1) = dyS i (dyR K i) := rfl
theorem fW_sa {M : MM} {a w : Nat} {v : Int32} : fW (mst M a 3 v) a w = if w = 1 then v else fW M a w := by
  match w with
  | 0 | 1 | 2 | 3 | 4 | 5 | 6 | 7 | 8 | 9 => simp [fW, mst]
  | w + 10 => simp [fW, mst]
theorem day_key (h : HR M 1 n (K 465)) (hI : IV (K 465) n) : ∀ m, m ≤ n → HR (dayR M m) 1 n ((dyR K m).2 465) ∧ IV ((dyR K m).2 465) n ∧ (∀ i, i < n → oF (dyR K m).2 i 2 = oF K i 2 ∧ oF (dyR K m).2 i 1 = if i < m ∧ oF K i 2 = 1 then mn2 (oF K i 1 + 2) 9 else oF K i 1) ∧ (dyR K m).1 = itN (fun i s => s + (if oF K i 2 = 1 then mn2 (oF K i 1 + 2) 9 else 0)) 0 m ∧ ∃ d, d ≤ 9 * m ∧ (dyR K m).1 = nI d := by
  intro m
  induction m with
  | zero => intro _; exact ⟨h, hI, fun i hi => ⟨rfl, by rw [if_neg (by omega)]; rfl⟩, rfl, 0, by omega, rfl⟩
  | succ m ih =>
    intro hm
    obtain ⟨i1, i2, i3, i4, d, i5, i6⟩ := ih (by omega)
    have hi : m < n := by omega
    have ok := iv_k i2 hi
    obtain ⟨a, ha, ea⟩ := ok.2.1
    rw [dayR_s, dyR_s, hr_2 i1 hi, hr_1 i1 hi]
    have e1 : oF (dyR K m).2 m 1 = oF K m 1 := by rw [(i3 m hi).2, if_neg (by omega)]
    have e2 := (i3 m hi).1
    have er : itN (fun i s => s + (if oF K i 2 = 1 then mn2 (oF K i 1 + 2) 9 else 0)) 0 (m + 1) = itN (fun i s => s + (if oF K i 2 = 1 then mn2 (oF K i 1 + 2) 9 else 0)) 0 m + (if oF K m 2 = 1 then mn2 (oF K m 1 + 2) 9 else 0) := rfl
    unfold dyS
    by_cases c : oF (dyR K m).2 m 2 = 1
    · rw [if_pos c, if_pos c]
      have hN : ∀ y, (y < 8 + 11 * m ∨ 8 + 11 * m + 11 ≤ y) → mst (dyR K m).2 465 (8 + 11 * m + 1) (mn2 (oF (dyR K m).2 m 1 + 2) 9) 465 y = (dyR K m).2 465 y := fun y hy => mst_ne (Or.inr (by omega))
      have g : ∀ w, w < 11 → oF (mst (dyR K m).2 465 (8 + 11 * m + 1) (mn2 (oF (dyR K m).2 m 1 + 2) 9)) m w = if w = 1 then mn2 (oF (dyR K m).2 m 1 + 2) 9 else oF (dyR K m).2 m w := fun w hw => by rw [oF_st (by omega) hw]; simp
      refine ⟨HR_upd i1 hi (fun x h1 _ _ => mst_fn h1) hN (fun w hw => ?_), IV_upd i2 hN (fOK_eq g ⟨ok.1, ⟨if a + 2 < 9 then a + 2 else 9, ?_, (by show mn2 (oF (dyR K m).2 m 1 + 2) 9 = _; rw [ea]; exact sa_up a (by omega))⟩, ok.2.2⟩), fun i hi2 => ⟨?_, ?_⟩, ?_, ?_⟩
      · rw [fW_sa, g w hw, hr_w i1 hi hw]; rfl
      · split <;> omega
      · show oF (mst (dyR K m).2 465 (8 + 11 * m + 1) (mn2 (oF (dyR K m).2 m 1 + 2) 9)) i 2 = _
        rw [oF_st (by omega) (by omega), if_neg (by omega)]
        exact (i3 i hi2).1
      · show oF (mst (dyR K m).2 465 (8 + 11 * m + 1) (mn2 (oF (dyR K m).2 m 1 + 2) 9)) i 1 = _
        rw [oF_st (by omega) (by omega)]
        by_cases e : i = m
        · subst e
          rw [if_pos ⟨rfl, rfl⟩, if_pos ⟨by omega, e2.symm.trans c⟩, e1]
        · rw [if_neg (fun z => e z.1), (i3 i hi2).2]
          by_cases e3 : i < m ∧ oF K i 2 = 1
          · rw [if_pos e3, if_pos ⟨by omega, e3.2⟩]
          · rw [if_neg e3, if_neg (fun z => e3 ⟨by omega, z.2⟩)]
      · show (dyR K m).1 + oF (mst (dyR K m).2 465 (8 + 11 * m + 1) (mn2 (oF (dyR K m).2 m 1 + 2) 9)) m 1 = _
        rw [er, i4, g 1 (by omega), if_pos rfl, if_pos (e2.symm.trans c), e1]
      · refine ⟨d + (if a + 2 < 9 then a + 2 else 9), by split <;> omega, ?_⟩
        show (dyR K m).1 + oF (mst (dyR K m).2 465 (8 + 11 * m + 1) (mn2 (oF (dyR K m).2 m 1 + 2) 9)) m 1 = _
        rw [g 1 (by omega), if_pos rfl, i6, ea, sa_up a (by omega), nI_add2]
    · rw [if_neg c, if_neg c]
      refine ⟨i1, i2, fun i hi2 => ⟨(i3 i hi2).1, ?_⟩, ?_, d, by omega, i6⟩
      · rw [(i3 i hi2).2]
        by_cases e3 : i < m ∧ oF K i 2 = 1
        · rw [if_pos e3, if_pos ⟨by omega, e3.2⟩]
        · rw [if_neg e3, if_neg (fun z => e3 ⟨by
            by_cases e : i = m
            · subst e; exact absurd (e2.trans z.2) c
            · omega, z.2⟩)]
      · rw [er, i4, if_neg (fun z => c (e2.trans z)), Int32.add_zero]
theorem c_Day (h : HR M 1 n (N 465)) (hI : IV (N 465) n) : CH M N c (wDay M n) (tDay N n c) := by
  have hn := hI.2.1
  unfold wDay tDay
  rw [e_in h]
  by_cases c1 : rMany N 1 n = 0
  · rw [if_pos c1, if_pos c1]
    exact CH_no (by decide)
  rw [if_neg c1, if_neg c1]
  have h' : HR M 1 n (kpR N 465 c 465) := by rw [kp_465]; exact h
  have hI' : IV (kpR N 465 c 465) n := by rw [kp_465]; exact hI
  obtain ⟨K, eK⟩ : ∃ K, K = kpR N 465 c := ⟨_, rfl⟩
  rw [← eK] at h' hI' ⊢
  obtain ⟨i1, i2, i3, i4, d, i5, i6⟩ := day_key h' hI' n (Nat.le_refl _)
  have e6 : M 1 6 = (dyR K n).2 465 4 := (h'.1 4 (by omega)).trans (dyR_fr (Or.inr (Or.inl (by omega))) n).symm
  rw [e6]
  refine CH_ok eK ?_ (by show (dyR K n).1 ≠ -1; rw [i6]; exact nI_nm1 (by omega)) (fun x hx => (mst_fn (by omega)).trans (dayR_fr n (by omega))) (fun x y hx => (mst_ne1 hx).trans (dyR_fr (Or.inl hx) n)) (HR_num i1 (j := 4) (by omega)) (IV_num i2 (by omega))
  show sumSa (mst (dayR M n) 1 6 ((dyR K n).2 465 4 + 1)) n = (dyR K n).1
  rw [i4]
  refine itN_congr (fun i s hi => ?_)
  rw [mst_ne1 (show 6 + 3 * i ≠ 1 by omega), mst_ne1 (show 6 + 3 * i ≠ 1 by omega), hr_2 i1 hi, hr_1 i1 hi, (i3 i hi).1, (i3 i hi).2]
  by_cases e : oF K i 2 = 1
  · rw [if_pos e, if_pos e, if_pos ⟨hi, e⟩]
  · rw [if_neg e, if_neg e]
/-- the smoke of an hour, and a fish's numbers behind it: x logs, wood wd, y: whether it is crowded -/
def hS (g : Nat → Int32) (x wd y : Int32) : Int32 := if y = 0 then (if 0 < x then mx0 (x - g 3) + wd else 0) else (if 0 < x then mx0 (x - g 3) + wd else 0) / 2
def hF (g : Nat → Int32) (x wd y : Int32) : Nat → Int32 := fun w =>
  if g 2 = 2 then
    (if w = 6 then 0 else if w = (if g 5 = 0 then 7 else 8) then am (g w + hS g x wd y) 40
    else if w = (if g 5 = 0 then 9 else 10) ∧ g 6 = 0 ∧ 2 + g 1 / 3 < mx0 (x - g 3) then am (g w + (mx0 (x - g 3) - (2 + g 1 / 3))) 9 else g w)
  else g w
theorem smk_fW {M : MM} {b a w : Nat} {x y : Int32} (hw : w < 11) : fW (smk M b a x y) a w = hF (fW M a) x (M b 4) y w := by
  unfold smk hF
  have g1 : fW M a 1 = M a 3 := rfl
  have g2 : fW M a 2 = M a 4 := rfl
  have g3 : fW M a 3 = M a 5 := rfl
  have g5 : fW M a 5 = M a 7 := rfl
  have g6 : fW M a 6 = M a 8 := rfl
  have gS : hS (fW M a) x (M b 4) y = if y = 0 then (if 0 < x then mx0 (x - M a 5) + M b 4 else 0) else (if 0 < x then mx0 (x - M a 5) + M b 4 else 0) / 2 := rfl
  rw [gS, g1, g2, g3, g5, g6]
  generalize (if y = 0 then (if 0 < x then mx0 (x - M a 5) + M b 4 else 0) else (if 0 < x then mx0 (x - M a 5) + M b 4 else 0) / 2) = sm
  by_cases c2 : M a 4 = 2
  · rw [if_pos c2, if_pos c2]
    unfold fspend dside fBear
    generalize mx0 (x - M a 5) = ht
    by_cases c5 : M a 7 = 0
    · by_cases c6 : M a 8 = 0 ∧ 2 + M a 3 / 3 < ht
      · match w, hw with
        | 0, _ | 1, _ | 2, _ | 3, _ | 4, _ | 5, _ | 6, _ | 7, _ | 8, _ | 9, _ | 10, _ => simp [fW, mst, c5, c6]
      · match w, hw with
        | 0, _ | 1, _ | 2, _ | 3, _ | 4, _ | 5, _ | 6, _ | 7, _ | 8, _ | 9, _ | 10, _ => simp [fW, mst, c5, c6]
    · by_cases c6 : M a 8 = 0 ∧ 2 + M a 3 / 3 < ht
      · match w, hw with
        | 0, _ | 1, _ | 2, _ | 3, _ | 4, _ | 5, _ | 6, _ | 7, _ | 8, _ | 9, _ | 10, _ => simp [fW, mst, c5, c6]
      · match w, hw with
        | 0, _ | 1, _ | 2, _ | 3, _ | 4, _ | 5, _ | 6, _ | 7, _ | 8, _ | 9, _ | 10, _ => simp [fW, mst, c5, c6]
  · rw [if_neg c2, if_neg c2]
theorem he_mx : ∀ a, a < 13 → ∀ p, p < 4 → mx0 (nI a - nI p) = nI (a - p) := by decide +kernel
theorem hS_ok : ∀ m, m < 13 → ∀ wd, wd < 4 → (nI m + nI wd = nI (m + wd) ∧ nI (m + wd) / 2 = nI ((m + wd) / 2)) := by decide +kernel
/-- its ranges -/
theorem hF_ok {g : Nat → Int32} (o : fOK g) {lg wd : Nat} (hl : lg ≤ 12) (hw : wd < 4) {y : Int32} : fOK (hF g (nI lg) (nI wd) y) := by
  by_cases c2 : g 2 = 2
  · obtain ⟨o0, ⟨sa, hsa, esa⟩, o2, o5, o6, ⟨s0, hs0, es0⟩, ⟨s1, hs1, es1⟩, ⟨c0, hc0, ec0⟩, ⟨c1, hc1, ec1⟩⟩ := o
    rcases o2 with ⟨_, p, q, hp, hq, e3, e4⟩ | ⟨z, _⟩
    · have sm : ∃ m, m ≤ 15 ∧ hS g (nI lg) (nI wd) y = nI m := by
        unfold hS
        rw [e3, he_mx lg (by omega) p hp]
        by_cases z : 0 < nI lg
        · rw [if_pos z, (hS_ok (lg - p) (by omega) wd hw).1, (hS_ok (lg - p) (by omega) wd hw).2]
          by_cases z2 : y = 0
          · rw [if_pos z2]; exact ⟨_, by omega, rfl⟩
          · rw [if_neg z2]; exact ⟨_, by omega, rfl⟩
        · rw [if_neg z]
          by_cases z2 : y = 0
          · rw [if_pos z2]; exact ⟨0, by omega, rfl⟩
          · rw [if_neg z2]; exact ⟨0, by omega, by decide⟩
      obtain ⟨m, hm, em⟩ := sm
      have am40 : ∀ s, s ≤ 40 → ∃ a, a ≤ 40 ∧ am (nI s + nI m) 40 = nI a := fun s hs => by
        rw [nI_add2]
        unfold am
        by_cases z : nI (s + m) < 40
        · rw [if_pos z]
          have : nI (s + m) < nI 40 := z
          rw [nI_ltI (by omega) (by omega)] at this
          exact ⟨s + m, by omega, rfl⟩
        · rw [if_neg z]; exact ⟨40, by omega, rfl⟩
      have hb : (2 : Int32) + nI sa / 3 = nI (2 + sa / 3) := by
        have : ∀ a, a < 10 → (2 : Int32) + nI a / 3 = nI (2 + a / 3) := by decide +kernel
        exact this sa (by omega)
      have am9 : ∀ s, s ≤ 9 → 2 + g 1 / 3 < mx0 (nI lg - g 3) → ∃ a, a ≤ 9 ∧ am (nI s + (mx0 (nI lg - g 3) - (2 + g 1 / 3))) 9 = nI a := fun s hs z => by
        rw [esa, e3, he_mx lg (by omega) p hp, hb] at z ⊢
        rw [nI_ltI (by omega) (by omega)] at z
        have e : nI (lg - p) - nI (2 + sa / 3) = nI (lg - p - (2 + sa / 3)) := by
          have : ∀ a, a < 13 → ∀ b, b < 13 → b < a → nI a - nI b = nI (a - b) := by decide +kernel
          exact this _ (by omega) _ (by omega) z
        rw [e, nI_add2]
        unfold am
        by_cases z2 : nI (s + (lg - p - (2 + sa / 3))) < 9
        · rw [if_pos z2]
          have : nI (s + (lg - p - (2 + sa / 3))) < nI 9 := z2
          rw [nI_ltI (by omega) (by omega)] at this
          exact ⟨_, by omega, rfl⟩
        · rw [if_neg z2]; exact ⟨9, by omega, rfl⟩
      have q7 : ∃ a, a ≤ 40 ∧ hF g (nI lg) (nI wd) y 7 = nI a := by
        unfold hF
        rw [if_pos c2, if_neg (by decide)]
        by_cases z : g 5 = 0
        · rw [if_pos z, if_pos rfl, es0, em]; exact am40 s0 hs0
        · rw [if_neg z, if_neg (by decide), if_neg z, if_neg (fun z => by cases z.1)]; exact ⟨s0, hs0, es0⟩
      have q8 : ∃ a, a ≤ 40 ∧ hF g (nI lg) (nI wd) y 8 = nI a := by
        unfold hF
        rw [if_pos c2, if_neg (by decide)]
        by_cases z : g 5 = 0
        · rw [if_pos z, if_neg (by decide), if_pos z, if_neg (fun z => by cases z.1)]; exact ⟨s1, hs1, es1⟩
        · rw [if_neg z, if_pos rfl, es1, em]; exact am40 s1 hs1
      have q9 : ∃ a, a ≤ 9 ∧ hF g (nI lg) (nI wd) y 9 = nI a := by
        unfold hF
        rw [if_pos c2, if_neg (by decide)]
        by_cases z : g 5 = 0
        · rw [if_pos z, if_neg (by decide), if_pos z]
          split
          · rename_i z3
            rw [ec0]
            exact am9 c0 hc0 z3.2.2
          · exact ⟨c0, hc0, ec0⟩
        · rw [if_neg z, if_neg (by decide), if_neg z, if_neg (fun z => by cases z.1)]; exact ⟨c0, hc0, ec0⟩
      have q10 : ∃ a, a ≤ 9 ∧ hF g (nI lg) (nI wd) y 10 = nI a := by
        unfold hF
        rw [if_pos c2, if_neg (by decide)]
        by_cases z : g 5 = 0
        · rw [if_pos z, if_neg (by decide), if_pos z, if_neg (fun z => by cases z.1)]; exact ⟨c1, hc1, ec1⟩
        · rw [if_neg z, if_neg (by decide), if_neg z]
          split
          · rename_i z3
            rw [ec1]
            exact am9 c1 hc1 z3.2.2
          · exact ⟨c1, hc1, ec1⟩
      have low : ∀ w, w < 6 → hF g (nI lg) (nI wd) y w = g w := fun w hw => by
        unfold hF
        rw [if_pos c2, if_neg (by omega), if_neg (by split <;> omega), if_neg (fun z => by have := z.1; split at this <;> omega)]
      have l6 : hF g (nI lg) (nI wd) y 6 = 0 := by
        unfold hF
        rw [if_pos c2, if_pos rfl]
      refine ⟨by rw [low 0 (by omega)]; exact o0, ⟨sa, hsa, by rw [low 1 (by omega)]; exact esa⟩, Or.inl ⟨by rw [low 2 (by omega)]; exact c2, p, q, hp, hq, by rw [low 3 (by omega)]; exact e3, by rw [low 4 (by omega)]; exact e4⟩, by rw [low 5 (by omega)]; exact o5, Or.inl l6, q7, q8, q9, q10⟩
    · rcases z with z | z <;> exact absurd (z.symm.trans c2) (by decide)
  · exact fOK_eq (fun w hw => by unfold hF; rw [if_neg c2]) o
end P41
