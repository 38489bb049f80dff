/-- hours of one fish: lg logs at first -/
def hIt (g : Nat → Int32) (lg : Nat) (wd y : Int32) : Nat → Nat → Int32
  | 0 => g
  | m + 1 => hF (hIt g lg wd y m) (nI (lg - m)) wd y
section P45
variable {M N K : MM} {n k c : Nat} {g g' : Nat → Int32} {lg wd : Nat} {y : Int32}
theorem hF_cg {x wd y : Int32} (h : ∀ w, w < 11 → g w = g' w) {w : Nat} (hw : w < 11) : hF g x wd y w = hF g' x wd y w := by
  unfold hF hS
  rw [h 2 (by omega), h 5 (by omega), h 6 (by omega), h 1 (by omega), h 3 (by omega), h w hw]
theorem hF_low {x wd y : Int32} {w : Nat} (hw : w < 6) : hF g x wd y w = g w := by
  unfold hF
  by_cases c2 : g 2 = 2
  · rw [if_pos c2, if_neg (by omega), if_neg (by split <;> omega), if_neg (fun z => by have := z.1; split at this <;> omega)]
  · rw [if_neg c2]
theorem hIt_low {wd : Int32} {w : Nat} (hw : w < 6) : ∀ m, hIt g lg wd y m w = g w
  | 0 => rfl
  | m + 1 => (hF_low hw).trans (hIt_low hw m)
theorem hIt_ok (o : fOK g) (hl : lg ≤ 12) (hw : wd < 4) : ∀ m, fOK (hIt g lg (nI wd) y m)
  | 0 => o
  | m + 1 => hF_ok (hIt_ok o hl hw m) (by omega) hw
theorem hIt_nh {wd : Int32} (h2 : ¬ g 2 = 2) : ∀ m w, hIt g lg wd y m w = g w
  | 0, _ => rfl
  | m + 1, w => by
    have e2 : ¬ hIt g lg wd y m 2 = 2 := by rw [hIt_nh h2 m 2]; exact h2
    show hF (hIt g lg wd y m) _ wd y w = g w
    unfold hF
    rw [if_neg e2]
    exact hIt_nh h2 m w
theorem mx_lg : ∀ a, a < 13 → ∀ i, i < 25 → mx0 (nI a - nI i) = nI (a - i) := by decide +kernel
/-- the class's trial fish -/
theorem try_1 (e3 : M 1 3 = nI lg) (hl : lg ≤ 12) (hg : ∀ w, w < 11 → fW M 457 w = g w) : ∀ m, m ≤ 25 → tryF y M m 1 = M 1 ∧ ∀ w, w < 11 → fW (tryF y M m) 457 w = hIt g lg (M 1 4) y m w := by
  intro m
  induction m with
  | zero => intro _; exact ⟨rfl, hg⟩
  | succ m ih =>
    intro hm
    obtain ⟨i1, i2⟩ := ih (by omega)
    have e : tryF y M (m + 1) = smk (tryF y M m) 1 457 (mx0 (tryF y M m 1 3 - nI m)) y := rfl
    rw [e]
    refine ⟨by rw [smk_ne (by decide) (by decide) (by decide)]; exact i1, fun w hw => ?_⟩
    rw [smk_fW hw, i1, e3, mx_lg lg (by omega) m (by omega)]
    exact hF_cg i2 hw
/-- the reference's rows: who is crowded doesn't change -/
theorem near_cg {N' : MM} (h : ∀ i, i < n → ∀ w, w < 5 → oF N' i w = oF N i w) (hk : k < n) : rNear N' k n = rNear N k n := by
  have e : ∀ x p q, rFar N' x p q n = rFar N x p q n := fun x p q => itN_congr (fun i s hi => by
    unfold rHang
    rw [h i hi 2 (by omega), h i hi 3 (by omega), h i hi 4 (by omega)])
  unfold rNear rHang
  rw [e, h k hk 0 (by omega), h k hk 2 (by omega), h k hk 3 (by omega), h k hk 4 (by omega)]
theorem hst_iv (hI : IV (K 465) n) (hk : k < n) : IV (rHst K n k 465) n := by
  obtain ⟨lg, hl, e1⟩ := hI.2.2.1
  obtain ⟨wd, hwd, e2⟩ := hI.2.2.2.1
  refine IV_upd hI (fun y hy => rHst_n hI hk hy) (fOK_eq (fun w hw => rHst_o hI hk hw) ?_)
  rw [e1, e2]
  exact hF_ok (iv_k hI hk) hl hwd
theorem rHr_1 (hI : IV (K 465) n) : ∀ m, m ≤ n → IV (rHr K n m 465) n ∧ (∀ j, j < 8 → rHr K n m 465 j = K 465 j) ∧ ∀ i, i < n → ∀ w, w < 11 → oF (rHr K n m) i w = if i < m then hF (oF K i) (K 465 1) (K 465 2) (zb (rNear K i n)) w else oF K i w := by
  intro m
  induction m with
  | zero => intro _; exact ⟨hI, fun _ _ => rfl, fun i hi w hw => by rw [if_neg (by omega)]; rfl⟩
  | succ m ih =>
    intro hm
    obtain ⟨i1, i2, i3⟩ := ih (by omega)
    rw [rHr_s]
    refine ⟨hst_iv i1 (by omega), fun j hj => by rw [rHst_n i1 (by omega) (by omega)]; exact i2 j hj, fun i hi w hw => ?_⟩
    by_cases e : i = m
    · subst e
      rw [rHst_o i1 (by omega) hw, if_pos (by omega), i2 1 (by omega), i2 2 (by omega)]
      have en : rNear (rHr K n i) i n = rNear K i n := near_cg (fun j hj w hw => by
        rw [i3 j hj w (by omega)]
        split
        · exact hF_low (by omega)
        · rfl) hi
      rw [en]
      exact hF_cg (fun w hw => by rw [i3 i hi w hw, if_neg (by omega)]) hw
    · have e1 : oF (rHst (rHr K n m) n m) i w = oF (rHr K n m) i w := rHst_n i1 (by omega) (by omega)
      rw [e1, i3 i hi w hw]
      by_cases e2 : i < m
      · rw [if_pos e2, if_pos (by omega)]
      · rw [if_neg e2, if_neg (by omega)]
theorem rHour_x (hI : IV (K 465) n) (hl : lg ≤ 12) (el : K 465 1 = nI lg) : IV (rHour K n 465) n ∧ rHour K n 465 1 = nI (lg - 1) ∧ rHour K n 465 2 = K 465 2 ∧ (∀ i, i < n → ∀ w, w < 11 → oF (rHour K n) i w = hF (oF K i) (nI lg) (K 465 2) (zb (rNear K i n)) w) ∧ ∀ i, i < n → rNear (rHour K n) i n = rNear K i n := by
  obtain ⟨i1, i2, i3⟩ := rHr_1 hI n (Nat.le_refl _)
  have hd := iv_dwn hI
  have e1 : rHour K n 465 1 = nI (lg - 1) := by
    rw [rHour_1 hd, el]
    have : ∀ a, a < 13 → (if 0 < nI a then nI a - 1 else nI a) = nI (a - 1) := by decide +kernel
    exact this lg (by omega)
  have hy : ∀ z, z ≠ 1 → z ≠ 3 → rHour K n 465 z = rHr K n n 465 z := fun z h1 h3 => by
    rw [rHour]
    exact rHt_fr (by omega)
  have ew : ∀ i, i < n → ∀ w, w < 11 → oF (rHour K n) i w = hF (oF K i) (nI lg) (K 465 2) (zb (rNear K i n)) w := fun i hi w hw => by
    have q : oF (rHour K n) i w = oF (rHr K n n) i w := hy _ (by omega) (by omega)
    rw [q, i3 i hi w hw, if_pos hi, el]
  refine ⟨?_, e1, (hy 2 (by omega) (by omega)).trans (i2 2 (by omega)), ew, fun i hi => near_cg (fun j hj w hw => ?_) hi⟩
  · obtain ⟨h1, h2, h3, h4, h5⟩ := i1
    refine ⟨(hy 0 (by omega) (by omega)).trans h1, h2, ⟨lg - 1, by omega, e1⟩, by rw [hy 2 (by omega) (by omega)]; exact h4, fun i hi => fOK_eq (fun w hw => hy _ (by omega) (by omega)) (h5 i hi)⟩
  · rw [ew j hj w (by omega)]
    exact hF_low (by omega)
theorem hsR_x (hI : IV (K 465) n) (hl : lg ≤ 12) (el : K 465 1 = nI lg) : ∀ m, IV (hsR K n m 465) n ∧ hsR K n m 465 1 = nI (lg - m) ∧ hsR K n m 465 2 = K 465 2 ∧ (∀ i, i < n → ∀ w, w < 11 → oF (hsR K n m) i w = hIt (oF K i) lg (K 465 2) (zb (rNear K i n)) m w) ∧ ∀ i, i < n → rNear (hsR K n m) i n = rNear K i n
  | 0 => ⟨hI, el, rfl, fun _ _ _ _ => rfl, fun _ _ => rfl⟩
  | m + 1 => by
    obtain ⟨i1, i2, i3, i4, i5⟩ := hsR_x hI hl el m
    obtain ⟨j1, j2, j3, j4, j5⟩ := rHour_x i1 (by omega) i2
    rw [hsR_s]
    refine ⟨j1, j2.trans (by rw [Nat.sub_sub]), j3.trans i3, fun i hi w hw => ?_, fun i hi => (j5 i hi).trans (i5 i hi)⟩
    rw [j4 i hi w hw, i3, i5 i hi]
    exact hF_cg (i4 i hi) hw
theorem sp_row : ∀ z, spM N 465 z = N 465 z := fun z => sp_465
theorem sp_IV (hI : IV (N 465) n) : IV (spM N 465) n := IV_eq (fun z _ => sp_row z) hI
theorem sp_near (hk : k < n) : rNear (spM N) k n = rNear N k n := near_cg (fun i hi w hw => sp_row _) hk
theorem tr_g (h : HR M 1 n (N 465)) (hk : k < n) : ∀ w, w < 11 → fW (fcp M 457 (6 + 3 * k)) 457 w = oF N k w := fun w hw => fW_cp.trans (hr_w h hk hw)
/-- wouldChar: the two alike -/
theorem e_wc (h : HR M 1 n (N 465)) (hI : IV (N 465) n) (hk : k < n) {m : Nat} (hm : m ≤ 24) : tryF (zb (tooNear M 1 k n)) (fcp M 457 (6 + 3 * k)) m (dside (tryF (zb (tooNear M 1 k n)) (fcp M 457 (6 + 3 * k)) m) 457) 1 = oF (hsR (spM N) n m) k (9 + (oF (hsR (spM N) n m) k 5).toNatClampNeg) := by
  obtain ⟨lg, hl, el⟩ := hI.2.2.1
  have c1 : fcp M 457 (6 + 3 * k) 1 = M 1 := fcp_ne (by decide) (by decide) (by decide)
  have e3 : fcp M 457 (6 + 3 * k) 1 3 = nI lg := by rw [c1]; exact (h.1 1 (by omega)).trans el
  have e4 : fcp M 457 (6 + 3 * k) 1 4 = N 465 2 := by rw [c1]; exact h.1 2 (by omega)
  obtain ⟨t1, t2⟩ := try_1 (y := zb (tooNear M 1 k n)) e3 hl (tr_g h hk) m (by omega)
  obtain ⟨s1, s2, s3, s4, s5⟩ := hsR_x (K := spM N) (sp_IV hI) hl ((sp_row 1).trans el) m
  have s4' : ∀ w, w < 11 → oF (hsR (spM N) n m) k w = hIt (oF N k) lg (N 465 2) (zb (rNear N k n)) m w := fun w hw => by
    rw [s4 k hk w hw, sp_near hk, sp_row 2]
    have : oF (spM N) k = oF N k := funext fun w => sp_row _
    rw [this]
  rw [e_ne h hI hk, e4] at t2
  rw [e_ne h hI hk]
  generalize hX : tryF (zb (rNear N k n)) (fcp M 457 (6 + 3 * k)) m = X at t2 ⊢
  have q5 : X 457 7 = oF N k 5 := (t2 5 (by omega)).trans (hIt_low (by omega) m)
  have r5 : oF (hsR (spM N) n m) k 5 = oF N k 5 := (s4' 5 (by omega)).trans (hIt_low (by omega) m)
  rw [r5]
  unfold dside
  rw [q5]
  rcases (iv_k hI hk).2.2.2.1 with e | e
  · rw [e, if_pos rfl, show ((0 : Int32).toNatClampNeg) = 0 from rfl, s4' 9 (by omega)]
    exact t2 9 (by omega)
  · rw [e, if_neg (by decide), show ((1 : Int32).toNatClampNeg) = 1 from rfl, s4' 10 (by omega)]
    exact t2 10 (by omega)
/-- the char of some hours, reckoned at once -/
def smU (A f : Nat) : Nat → Nat
  | 0 => 0
  | m + 1 => if (f = 0 ∨ 0 < m) ∧ m < A then smU A f m + (A - m) else smU A f m
theorem sm_at : ∀ A, A < 13 → ∀ f, f < 2 → ∀ m, m < 25 → (nI f < (if nI A < nI m then nI A else nI m) → (((if nI A < nI m then nI A else nI m) - nI f) * (2 * nI A - nI f - (if nI A < nI m then nI A else nI m) + 1)) / 2 = nI (smU A f m)) ∧ (¬ nI f < (if nI A < nI m then nI A else nI m) → smU A f m = 0) ∧ smU A f m < 100 := by decide +kernel
theorem hIt_ch {p b f d c0 : Nat} (h2 : g 2 = 2) (h3 : g 3 = nI p) (hp : p < 4) (h1 : 2 + g 1 / 3 = nI b) (hb : b < 13) (h5 : g 5 = nI d) (hd : d < 2) (h6 : g 6 = nI f) (hf : f < 2) (hc : g (9 + d) = nI c0) (hc9 : c0 ≤ 9) (hl : lg ≤ 12) {wd : Int32} : ∀ m, m ≤ 24 → hIt g lg wd y m 6 = (if m = 0 then nI f else 0) ∧ hIt g lg wd y m (9 + d) = nI (min 9 (c0 + smU (lg - p - b) f m)) := by
  intro m
  induction m with
  | zero =>
    intro _
    refine ⟨h6, ?_⟩
    show g (9 + d) = nI (min 9 (c0 + 0))
    rw [hc, show min 9 (c0 + 0) = c0 by omega]
  | succ m ih =>
    intro hm
    obtain ⟨i1, i2⟩ := ih (by omega)
    have l := fun w hw => hIt_low (g := g) (lg := lg) (wd := wd) (y := y) (w := w) hw m
    have e : ∀ w, hIt g lg wd y (m + 1) w = hF (hIt g lg wd y m) (nI (lg - m)) wd y w := fun _ => rfl
    refine ⟨?_, ?_⟩
    · rw [e]
      unfold hF
      rw [l 2 (by omega), if_pos h2, if_pos rfl, if_neg (by omega)]
    · rw [e]
      unfold hF
      rw [l 2 (by omega), if_pos h2, if_neg (by omega), l 5 (by omega), l 1 (by omega), l 3 (by omega), h3, h5, he_mx (lg - m) (by omega) p hp, h1, i1, i2]
      have d1 : ¬ 9 + d = (if nI d = 0 then 7 else 8) := by
        match d, hd with
        | 0, _ => decide
        | 1, _ => decide
      have d2 : 9 + d = if nI d = 0 then 9 else 10 := by
        match d, hd with
        | 0, _ => decide
        | 1, _ => decide
      rw [if_neg d1]
      have cz : ((if m = 0 then nI f else 0) = 0) ↔ (f = 0 ∨ 0 < m) := by
        by_cases z : m = 0
        · rw [if_pos z]
          match f, hf with
          | 0, _ => exact ⟨fun _ => Or.inl rfl, fun _ => rfl⟩
          | 1, _ => exact ⟨fun z2 => absurd z2 (by decide), fun z2 => by omega⟩
        · rw [if_neg z]; exact ⟨fun _ => Or.inr (by omega), fun _ => rfl⟩
      have cb : (nI b < nI (lg - m - p)) ↔ m < lg - p - b := by
        rw [nI_ltI (by omega) (by omega)]; omega
      have un : smU (lg - p - b) f (m + 1) = if (f = 0 ∨ 0 < m) ∧ m < lg - p - b then smU (lg - p - b) f m + (lg - p - b - m) else smU (lg - p - b) f m := rfl
      rw [un]
      by_cases z : (f = 0 ∨ 0 < m) ∧ m < lg - p - b
      · rw [if_pos z, if_pos ⟨d2, cz.mpr z.1, cb.mpr z.2⟩]
        have sb : nI (lg - m - p) - nI b = nI (lg - p - b - m) := by
          have : ∀ a, a < 13 → ∀ b, b < 13 → b < a → nI a - nI b = nI (a - b) := by decide +kernel
          rw [this _ (by omega) _ (by omega) (by omega)]
          congr 1
          omega
        rw [sb, nI_add2]
        unfold am
        have sm := (sm_at (lg - p - b) (by omega) f hf m (by omega)).2.2
        by_cases z2 : nI (min 9 (c0 + smU (lg - p - b) f m) + (lg - p - b - m)) < 9
        · rw [if_pos z2]
          have : nI (min 9 (c0 + smU (lg - p - b) f m) + (lg - p - b - m)) < nI 9 := z2
          rw [nI_ltI (by omega) (by omega)] at this
          congr 1
          omega
        · rw [if_neg z2]
          have : ¬ nI (min 9 (c0 + smU (lg - p - b) f m) + (lg - p - b - m)) < nI 9 := z2
          rw [nI_ltI (by omega) (by omega)] at this
          show nI 9 = _
          congr 1
          omega
      · rw [if_neg z, if_neg (fun z2 => z ⟨cz.mp z2.2.1, cb.mp z2.2.2⟩)]
theorem e_wa (h : HR M 1 n (N 465)) (hI : IV (N 465) n) (hk : k < n) {m : Nat} (hm : m ≤ 24) : charA M k (nI m) = oF (hsR (spM N) n m) k (9 + (oF (hsR (spM N) n m) k 5).toNatClampNeg) := by
  obtain ⟨lg, hl, el⟩ := hI.2.2.1
  have o := iv_k hI hk
  obtain ⟨s1, s2, s3, s4, s5⟩ := hsR_x (K := spM N) (sp_IV hI) hl ((sp_row 1).trans el) m
  have s4' : ∀ w, w < 11 → oF (hsR (spM N) n m) k w = hIt (oF N k) lg (N 465 2) (zb (rNear N k n)) m w := fun w hw => by
    rw [s4 k hk w hw, sp_near hk, sp_row 2]
    have : oF (spM N) k = oF N k := funext fun w => sp_row _
    rw [this]
  have r5 : oF (hsR (spM N) n m) k 5 = oF N k 5 := (s4' 5 (by omega)).trans (hIt_low (by omega) m)
  rw [r5]
  obtain ⟨d, hd, e5⟩ : ∃ d, d < 2 ∧ oF N k 5 = nI d := by
    rcases o.2.2.2.1 with e | e
    · exact ⟨0, by omega, e⟩
    · exact ⟨1, by omega, e⟩
  obtain ⟨f, hf, e6⟩ : ∃ f, f < 2 ∧ oF N k 6 = nI f := by
    rcases o.2.2.2.2.1 with e | e
    · exact ⟨0, by omega, e⟩
    · exact ⟨1, by omega, e⟩
  obtain ⟨c0, hc0, ec⟩ : ∃ c0, c0 ≤ 9 ∧ oF N k (9 + d) = nI c0 := by
    match d, hd with
    | 0, _ => exact o.2.2.2.2.2.2.2.1
    | 1, _ => exact o.2.2.2.2.2.2.2.2
  rw [e5, nI_cl (show d < 2000 by omega), s4' (9 + d) (by omega)]
  have ds : M (dside M (6 + 3 * k)) 1 = oF N k (9 + d) := by
    unfold dside
    rw [hr_5 h hk, e5]
    match d, hd with
    | 0, _ => exact hr_9 h hk
    | 1, _ => exact hr_10 h hk
  unfold charA
  simp only []
  rw [ds, hr_2 h hk, hr_3 h hk, hr_6 h hk, e_be h hk, h.1 1 (by omega), el, e6, ec]
  by_cases c2 : oF N k 2 = 2
  · rw [if_pos c2]
    rcases o.2.2.1 with ⟨_, p, q, hp, hq, e3, e4⟩ | ⟨z, _⟩
    · obtain ⟨sa, hsa, esa⟩ := o.2.1
      have hb : (2 : Int32) + oF N k 1 / 3 = nI (2 + sa / 3) := by
        rw [esa]
        have : ∀ a, a < 10 → (2 : Int32) + nI a / 3 = nI (2 + a / 3) := by decide +kernel
        exact this sa (by omega)
      rw [(hIt_ch c2 e3 hp hb (by omega) e5 hd e6 hf ec hc0 hl m hm).2, hb, e3, he_mx lg (by omega) p hp]
      have ef : (if nI f = 0 then (0 : Int32) else 1) = nI f := by
        match f, hf with
        | 0, _ => rfl
        | 1, _ => rfl
      rw [ef]
      by_cases cA : 2 + sa / 3 ≤ lg - p
      · have sb : nI (lg - p) - nI (2 + sa / 3) = nI (lg - p - (2 + sa / 3)) := by
          have : ∀ a, a < 13 → ∀ b, b < 13 → b ≤ a → nI a - nI b = nI (a - b) := by decide +kernel
          exact this _ (by omega) _ (by omega) cA
        rw [sb]
        obtain ⟨u1, u2, u3⟩ := sm_at (lg - p - (2 + sa / 3)) (by omega) f hf m (by omega)
        by_cases c3 : nI f < (if nI (lg - p - (2 + sa / 3)) < nI m then nI (lg - p - (2 + sa / 3)) else nI m)
        · rw [if_pos c3, u1 c3, nI_add2]
          by_cases c4 : nI (c0 + smU (lg - p - (2 + sa / 3)) f m) < 9
          · rw [if_pos c4]
            have : nI (c0 + smU (lg - p - (2 + sa / 3)) f m) < nI 9 := c4
            rw [nI_ltI (by omega) (by omega)] at this
            congr 1
            omega
          · rw [if_neg c4]
            have : ¬ nI (c0 + smU (lg - p - (2 + sa / 3)) f m) < nI 9 := c4
            rw [nI_ltI (by omega) (by omega)] at this
            show nI 9 = _
            congr 1
            omega
        · rw [if_neg c3, u2 c3]
          congr 1
          omega
      · have A0 : lg - p - (2 + sa / 3) = 0 := by omega
        have ng : ∀ a, a < 13 → ∀ b, b < 13 → ¬ b ≤ a → ∀ f, f < 2 → ∀ m, m < 25 → ¬ nI f < (if nI a - nI b < nI m then nI a - nI b else nI m) := by decide +kernel
        rw [if_neg (ng _ (by omega) _ (by omega) cA f hf m (by omega)), A0]
        have z0 : ∀ f, f < 2 → ∀ m, m < 25 → smU 0 f m = 0 := by decide +kernel
        rw [z0 f hf m (by omega)]
        congr 1
        omega
    · rcases z with z | z <;> exact absurd (z.symm.trans c2) (by decide)
  · rw [if_neg c2, hIt_nh c2 m, ec]
end P45
