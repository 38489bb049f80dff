def flG (g : Nat → Int32) : Nat → Int32 := fun w => if w = 5 then 1 - g 5 else if w = 6 then 1 else g w
/-- hours of one fish that is turned before each -/
def dIt (g : Nat → Int32) (lg : Nat) (wd y : Int32) : Nat → Nat → Int32
  | 0 => g
  | m + 1 => hF (flG (dIt g lg wd y m)) (nI (lg - m)) wd y
def rdy (g : Nat → Int32) : Bool := !(g 9 == 9 || g 10 == 9) && (mx0 (5 + g 0 - g 7) + mx0 (5 + g 0 - g 8)) == 0
section P47
variable {M N K : MM} {n k c : Nat} {g g' : Nat → Int32} {lg : Nat} {wd y : Int32}
theorem rdy_cg (h : ∀ w, w < 11 → w ≠ 5 → w ≠ 6 → g w = g' w) : rdy g = rdy g' := by
  unfold rdy
  rw [h 9 (by omega) (by omega) (by omega), h 10 (by omega) (by omega) (by omega), h 0 (by omega) (by omega) (by omega), h 7 (by omega) (by omega) (by omega), h 8 (by omega) (by omega) (by omega)]
theorem rdy_cell {M : MM} {a : Nat} (h : ∀ w, w < 11 → fW M a w = g w) : fReady M a = rdy g := by
  have e : fReady M a = rdy (fW M a) := rfl
  rw [e]
  exact rdy_cg (fun w hw _ _ => h w hw)
theorem rdy_row {N : MM} (o : fOK g) (h : ∀ w, w < 11 → oF N k w = g w) : rReady N k = rdy g := by
  have e : rLack N k = (0 + (if oF N k 7 < 5 + oF N k 0 then 5 + oF N k 0 - oF N k 7 else 0)) + (if oF N k 8 < 5 + oF N k 0 then 5 + oF N k 0 - oF N k 8 else 0) := rfl
  obtain ⟨⟨a, h1, h2, h3⟩, -, -, -, -, ⟨b, h4, h5⟩, ⟨c, h6, h7⟩, -⟩ := o
  unfold rReady rBurnt rdy
  rw [e, h 9 (by omega), h 10 (by omega), h 0 (by omega), h 7 (by omega), h 8 (by omega), h3, h5, h7, lack1 a (by omega) b (by omega), lack1 a (by omega) c (by omega), Int32.zero_add]
theorem dIt_2 {w : Nat} (hw : w < 5) : ∀ m, dIt g lg wd y m w = g w
  | 0 => rfl
  | m + 1 => by
    show hF (flG (dIt g lg wd y m)) _ wd y w = _
    rw [hF_low (by omega)]
    unfold flG
    rw [if_neg (by omega), if_neg (by omega)]
    exact dIt_2 hw m
theorem flG_ok (o : fOK g) (h2 : g 2 = 2) : fOK (flG g) := fl_ok (g := g) (fun w _ => by
  unfold flG
  by_cases w5 : w = 5
  · subst w5; rfl
  · by_cases w6 : w = 6
    · subst w6; rfl
    · rw [if_neg w5, if_neg w6, if_neg w6, if_neg w5]) h2 o
theorem dIt_ok (o : fOK g) (h2 : g 2 = 2) (hl : lg ≤ 12) {wd : Nat} (hw : wd < 4) : ∀ m, fOK (dIt g lg (nI wd) y m)
  | 0 => o
  | m + 1 => hF_ok (flG_ok (dIt_ok o h2 hl hw m) ((dIt_2 (by omega) m).trans h2)) (by omega) hw
/-- behind the last log nothing that counts changes -/
theorem dIt_z (o : fOK g) (h2 : g 2 = 2) (hl : lg ≤ 12) {wd : Nat} (hw : wd < 4) {w : Nat} (h5 : w ≠ 5) (h6 : w ≠ 6) (hw11 : w < 11) : ∀ m, lg ≤ m → dIt g lg (nI wd) y m w = dIt g lg (nI wd) y lg w := by
  intro m hm
  induction m with
  | zero =>
    obtain rfl : lg = 0 := by omega
    rfl
  | succ m ih =>
    by_cases e : lg = m + 1
    · rw [e]
    · show hF (flG (dIt g lg (nI wd) y m)) (nI (lg - m)) (nI wd) y w = _
      rw [show lg - m = 0 by omega, hF_z (flG_ok (dIt_ok o h2 hl hw m) ((dIt_2 (by omega) m).trans h2)) h6 hw11]
      unfold flG
      rw [if_neg h5, if_neg h6]
      exact ih (by omega)
theorem dIt_nh (h2 : ¬ g 2 = 2) {w : Nat} (h5 : w ≠ 5) (h6 : w ≠ 6) : ∀ m, dIt g lg wd y m w = g w
  | 0 => rfl
  | m + 1 => by
    have e2 : ¬ flG (dIt g lg wd y m) 2 = 2 := by
      unfold flG
      rw [if_neg (by decide), if_neg (by decide), dIt_2 (by omega) m]
      exact h2
    show hF (flG (dIt g lg wd y m)) _ wd y w = g w
    unfold hF
    rw [if_neg e2]
    unfold flG
    rw [if_neg h5, if_neg h6]
    exact dIt_nh h2 h5 h6 m
theorem readU_fs (hl : lg ≤ 12) : ∀ (j i : Nat) (M : MM) (g : Nat → Int32), i + j = 13 → M 1 3 = nI lg → (∀ w, w < 11 → fW M 457 w = dIt g lg (M 1 4) y i w) → (readU y j i M).1 = fsF (fun i => rdy (dIt g lg (M 1 4) y i)) j i
  | 0, _, _, _, _, _, _ => rfl
  | j + 1, i, M, g, hij, e3, hw => by
    unfold readU fsF
    rw [rdy_cell hw]
    by_cases c1 : rdy (dIt g lg (M 1 4) y i) = true
    · rw [if_pos c1, if_pos c1]
    rw [if_neg c1, if_neg c1]
    have s0 : flp M 457 1 = M 1 := fl_ne9 (by decide)
    have s1 : smk (flp M 457) 1 457 (mx0 (M 1 3 - nI i)) y 1 = M 1 := (smk_ne (by decide) (by decide) (by decide)).trans s0
    have r := readU_fs hl j (i + 1) (smk (flp M 457) 1 457 (mx0 (M 1 3 - nI i)) y) g (by omega) (by rw [s1]; exact e3) (fun w hw2 => by
      rw [smk_fW hw2, s1, s0, e3, mx_lg lg (by omega) i (by omega)]
      refine hF_cg (fun w hw3 => ?_) hw2
      rw [fW_fl]
      unfold flG
      have g5 : M 457 7 = dIt g lg (M 1 4) y i 5 := hw 5 (by omega)
      rw [g5, hw w hw3])
    rw [s1] at r
    exact r
/-- the reference's state behind m such hours -/
def dsR (N : MM) (n k : Nat) : Nat → MM
  | 0 => N
  | m + 1 => rHour (rTu (dsR N n k m) k) n
theorem dsR_x (hI : IV (K 465) n) (hl : lg ≤ 12) (el : K 465 1 = nI lg) (hk : k < n) (h2 : oF K k 2 = 2) : ∀ m, IV (dsR K n k m 465) n ∧ dsR K n k m 465 1 = nI (lg - m) ∧ dsR K n k m 465 2 = K 465 2 ∧ (∀ w, w < 11 → oF (dsR K n k m) k w = dIt (oF K k) lg (K 465 2) (zb (rNear K k n)) m w) ∧ rNear (dsR K n k m) k n = rNear K k n
  | 0 => ⟨hI, el, rfl, fun _ _ => rfl, rfl⟩
  | m + 1 => by
    obtain ⟨i1, i2, i3, i4, i5⟩ := dsR_x hI hl el hk h2 m
    have hh : oF (dsR K n k m) k 2 = 2 := (i4 2 (by omega)).trans ((dIt_2 (by omega) m).trans h2)
    have hN : ∀ z, (z < 8 + 11 * k ∨ 8 + 11 * k + 11 ≤ z) → rTu (dsR K n k m) k 465 z = dsR K n k m 465 z := fun z hz => by rw [rTu, mst_ne (Or.inr (by omega)), mst_ne (Or.inr (by omega))]
    have g : ∀ w, w < 11 → oF (rTu (dsR K n k m) k) k w = if w = 6 then 1 else if w = 5 then 1 - oF (dsR K n k m) k 5 else oF (dsR K n k m) k w := fun w hw => by rw [rTu, oF_st (by omega) hw, oF_st (by omega) hw]; simp
    have t1 : IV (rTu (dsR K n k m) k 465) n := IV_upd i1 hN (fl_ok g hh (iv_k i1 hk))
    have tn : rNear (rTu (dsR K n k m) k) k n = rNear K k n := (near_cg (fun i hi w hw => by
      by_cases e : i = k
      · subst e
        rw [g w (by omega), if_neg (by omega), if_neg (by omega)]
      · exact hN _ (by omega)) hk).trans i5
    obtain ⟨j1, j2, j3, j4, j5⟩ := rHour_x t1 (lg := lg - m) (by omega) ((hN 1 (by omega)).trans i2)
    refine ⟨j1, j2.trans (by rw [Nat.sub_sub]), j3.trans ((hN 2 (by omega)).trans i3), fun w hw => ?_, (j5 k hk).trans tn⟩
    show oF (rHour (rTu (dsR K n k m) k) n) k w = _
    rw [j4 k hk w hw, hN 2 (by omega), i3, tn]
    refine hF_cg (fun w hw => ?_) hw
    rw [g w hw, i4 5 (by omega), i4 w hw]
    unfold flG
    by_cases w5 : w = 5
    · subst w5; rfl
    · by_cases w6 : w = 6
      · subst w6; rfl
      · simp [w5, w6]
theorem doI_rs (hl : lg ≤ 12) {N0 : MM} (hI : IV (N0 465) n) (el : N0 465 1 = nI lg) (hk : k < n) (h2 : oF N0 k 2 = 2) (hwd : ∃ a, a < 4 ∧ N0 465 2 = nI a) : ∀ (j i : Nat), rsF (fun i => rdy (dIt (oF N0 k) lg (N0 465 2) (zb (rNear N0 k n)) i)) lg j i = ((doI n k j i (dsR N0 n k i)).1, rReady (doI n k j i (dsR N0 n k i)).2 k)
  | 0, i => by
    obtain ⟨s1, s2, s3, s4, s5⟩ := dsR_x hI hl el hk h2 i
    obtain ⟨a, ha, ea⟩ := hwd
    have o : fOK (dIt (oF N0 k) lg (N0 465 2) (zb (rNear N0 k n)) i) := by rw [ea]; exact dIt_ok (iv_k hI hk) h2 hl ha i
    show (i, _) = (i, rReady (dsR N0 n k i) k)
    rw [rdy_row o s4]
  | j + 1, i => by
    obtain ⟨s1, s2, s3, s4, s5⟩ := dsR_x hI hl el hk h2 i
    have ih := doI_rs hl hI el hk h2 hwd j (i + 1)
    obtain ⟨a, ha, ea⟩ := hwd
    have o : fOK (dIt (oF N0 k) lg (N0 465 2) (zb (rNear N0 k n)) i) := by rw [ea]; exact dIt_ok (iv_k hI hk) h2 hl ha i
    have rb : rReady (dsR N0 n k i) k = rdy (dIt (oF N0 k) lg (N0 465 2) (zb (rNear N0 k n)) i) := rdy_row o s4
    have hh : rHang (dsR N0 n k i) k = true := beq_iff_eq.mpr ((s4 2 (by omega)).trans ((dIt_2 (by omega) i).trans h2))
    unfold rsF doI
    rw [rb, s2, hh]
    cases c1 : rdy (dIt (oF N0 k) lg (N0 465 2) (zb (rNear N0 k n)) i) with
    | true =>
      rw [if_pos rfl, if_neg (show ¬ zb true = 0 by decide)]
      show (i, true) = (i, rReady (dsR N0 n k i) k)
      rw [rb, c1]
    | false =>
      rw [if_neg (show ¬ false = true by decide), if_pos (show zb false = 0 from rfl), if_neg (show ¬ zb true = 0 by decide)]
      by_cases c2 : i < lg
      · rw [if_pos c2, if_pos (show (0 : Int32) < nI (lg - i) from nI_lt (a := 0) (by omega) (by omega))]
        exact ih
      · have z0 : ¬ (0 : Int32) < nI (lg - i) := by rw [show lg - i = 0 by omega]; decide
        rw [if_neg c2, if_neg z0]
        show (i, false) = (i, rReady (dsR N0 n k i) k)
        rw [rb, c1]
/-- doneIn: the two alike -/
theorem e_dn (h : HR M 1 n (N 465)) (hI : IV (N 465) n) (hk : k < n) : ((readU (zb (tooNear M 1 k n)) 13 0 (fcp M 457 (6 + 3 * k))).1 = -1 ∧ rReady (doI n k 13 0 (spM N)).2 k = false) ∨ ∃ d, d ≤ 12 ∧ (readU (zb (tooNear M 1 k n)) 13 0 (fcp M 457 (6 + 3 * k))).1 = nI d ∧ rReady (doI n k 13 0 (spM N)).2 k = true ∧ (doI n k 13 0 (spM N)).1 = d := by
  obtain ⟨lg, hl, el⟩ := hI.2.2.1
  have hwd := hI.2.2.2.1
  obtain ⟨wd, hwd1, e2⟩ := hI.2.2.2.1
  have c1 : fcp M 457 (6 + 3 * k) 1 = M 1 := fcp_ne (by decide) (by decide) (by decide)
  have e3 : fcp M 457 (6 + 3 * k) 1 3 = nI lg := by rw [c1]; exact (h.1 1 (by omega)).trans el
  have e4 : fcp M 457 (6 + 3 * k) 1 4 = N 465 2 := by rw [c1]; exact h.1 2 (by omega)
  have b := readU_fs (y := zb (tooNear M 1 k n)) hl 13 0 (fcp M 457 (6 + 3 * k)) (oF N k) (by omega) e3 (tr_g h hk)
  have eg : oF (spM N) k = oF N k := funext fun w => sp_row _
  have okS := iv_k (sp_IV hI) hk
  rw [e4, e_ne h hI hk] at b
  rw [e_ne h hI hk, b]
  by_cases h2 : oF N k 2 = 2
  · have r := doI_rs (k := k) hl (sp_IV hI) ((sp_row 1).trans el) hk (by rw [eg]; exact h2) (by rw [sp_row 2]; exact hwd) 13 0
    rw [eg, sp_row 2, sp_near hk] at r
    have z0 : dsR (spM N) n k 0 = spM N := rfl
    rw [z0] at r
    have q := rs_fs (p := fun i => rdy (dIt (oF N k) lg (N 465 2) (zb (rNear N k n)) i)) (lg := lg) (fun m hm => by
      rw [e2]
      exact rdy_cg (fun w hw h5 h6 => dIt_z (iv_k hI hk) h2 hl hwd1 h5 h6 hw m hm)) 13 0 (by omega) (by omega)
    obtain ⟨q1, q2, q3, q4⟩ := q
    rw [r] at q1 q2
    rw [q1]
    cases c5 : rReady (doI n k 13 0 (spM N)).2 k with
    | true => exact Or.inr ⟨_, Nat.le_trans q2 hl, by rw [if_pos rfl], rfl, rfl⟩
    | false => exact Or.inl ⟨by rw [if_neg (by simp)], rfl⟩
  · have hp : ∀ m, rdy (dIt (oF N k) lg (N 465 2) (zb (rNear N k n)) m) = rdy (oF N k) := fun m => rdy_cg (fun w hw h5 h6 => dIt_nh h2 h5 h6 m)
    have rb : rReady (spM N) k = rdy (oF N k) := rdy_row (g := oF N k) (iv_k hI hk) (fun w hw => sp_row _)
    have rh : rHang (spM N) k = false := beq_eq_false_iff_ne.mpr (by rw [eg]; exact h2)
    cases c5 : rdy (oF N k) with
    | true =>
      have d0 : doI n k 13 0 (spM N) = (0, spM N) := by
        rw [doI, rb, c5, if_neg (show ¬ zb true = 0 by decide)]
      refine Or.inr ⟨0, by omega, ?_, by rw [d0]; exact rb.trans c5, by rw [d0]⟩
      rw [fsF, if_pos ((hp 0).trans c5)]
    | false =>
      have d0 : doI n k 13 0 (spM N) = (0, spM N) := by
        rw [doI, rb, c5, if_pos (show zb false = 0 from rfl), rh, if_pos (show zb false = 0 from rfl)]
      refine Or.inl ⟨?_, by rw [d0]; exact rb.trans c5⟩
      exact fsF_no 13 0 (fun m _ => (hp m).trans c5)
end P47
