theorem inB_1 {x : Int32} {b : Nat} (hb : b < 100) (h : ¬ zb (inB x 1 (nI b)) = 0) : ∃ k, 1 ≤ k ∧ k ≤ b ∧ x = nI k := by
  have h1 : inB x 1 (nI b) = true := by simpa [zb_n0] using h
  simp only [inB, Bool.and_eq_true, Bool.not_eq_true', decide_eq_false_iff_not] at h1
  have h2 := Int32.not_lt.mp h1.1
  have h3 := Int32.not_lt.mp h1.2
  rw [Int32.le_iff_toInt_le] at h2 h3
  have e0 : (1 : Int32).toInt = 1 := rfl
  rw [nI_toInt (by omega)] at h3
  refine ⟨x.toInt.toNat, by omega, by omega, ?_⟩
  apply Int32.toInt_inj.mp
  rw [nI_toInt (by omega)]
  omega
section P40
variable {M N K : MM} {n k c : Nat}
/-- a number of the house -/
theorem HR_num (h : HR M 1 n (K 465)) {j : Nat} (hj : j < 8) {v : Int32} : HR (mst M 1 (2 + j) v) 1 n (mst K 465 j v 465) := by
  refine ⟨fun i hi => ?_, fun i hi w hw => ?_⟩
  · by_cases e : i = j
    · subst e
      rw [mst_eq, mst_eq]
    · rw [mst_ne (by omega), mst_ne (by omega)]
      exact h.1 i hi
  · rw [mst_ne (Or.inr (by omega)), ← h.2 i hi w hw]
    exact fW_ne (mst_fn (by omega)) (mst_fn (by omega)) (mst_fn (by omega))
theorem IV_num (h : IV (K 465) n) {j : Nat} (hj : 3 ≤ j ∧ j < 8) {v : Int32} : IV (mst K 465 j v 465) n := by
  obtain ⟨h1, h2, h3, h4, h5⟩ := h
  refine ⟨by rw [mst_ne (by omega)]; exact h1, h2, by rw [mst_ne (by omega)]; exact h3, by rw [mst_ne (by omega)]; exact h4, fun i hi => fOK_eq (fun w hw => mst_ne (Or.inr (by omega))) (h5 i hi)⟩
theorem IV_lg (h : IV (K 465) n) {a : Nat} (ha : a ≤ 12) : IV (mst K 465 1 (nI a) 465) n := by
  obtain ⟨h1, h2, h3, h4, h5⟩ := h
  refine ⟨by rw [mst_ne (by omega)]; exact h1, h2, ⟨a, ha, mst_eq _ _ _ _⟩, by rw [mst_ne (by omega)]; exact h4, fun i hi => fOK_eq (fun w hw => mst_ne (Or.inr (by omega))) (h5 i hi)⟩
theorem IV_wd (h : IV (K 465) n) {a : Nat} (ha : a < 4) : IV (mst K 465 2 (nI a) 465) n := by
  obtain ⟨h1, h2, h3, h4, h5⟩ := h
  refine ⟨by rw [mst_ne (by omega)]; exact h1, h2, by rw [mst_ne (by omega)]; exact h3, ⟨a, ha, mst_eq _ _ _ _⟩, fun i hi => fOK_eq (fun w hw => mst_ne (Or.inr (by omega))) (h5 i hi)⟩
theorem c_Log (h : HR M 1 n (N 465)) (hI : IV (N 465) n) {v : Int32} : CH M N c (wLog M v) (tLog N n c v) := by
  unfold wLog tLog
  have e3 : M 1 3 = N 465 1 := h.1 1 (by omega)
  rw [e3]
  by_cases c1 : zb (inB v 1 12) = 0
  · rw [if_pos (rng_in.mpr c1), if_pos c1]
    exact CH_no (by decide)
  rw [if_neg (fun z => c1 (rng_in.mp z)), if_neg c1]
  by_cases c2 : 12 < N 465 1 + v
  · rw [if_pos c2, if_pos c2]
    exact CH_no (by decide)
  rw [if_neg c2, if_neg c2]
  obtain ⟨b, hb1, hb2, rfl⟩ := inB_1 (b := 12) (by omega) c1
  obtain ⟨a, ha, ea⟩ := hI.2.2.1
  have es : N 465 1 + nI b = nI (a + b) := by rw [ea, nI_add2]
  have hab : a + b ≤ 12 := by
    rw [es] at c2
    have : ¬ nI 12 < nI (a + b) := c2
    rw [nI_ltI (by omega) (by omega)] at this
    omega
  have h' : HR M 1 n (kpR N 465 c 465) := by rw [kp_465]; exact h
  have hI' : IV (kpR N 465 c 465) n := by rw [kp_465]; exact hI
  have k1 : kpR N 465 c 465 1 = N 465 1 := by rw [kp_465]
  obtain ⟨K, eK⟩ : ∃ K, K = kpR N 465 c := ⟨_, rfl⟩
  rw [← eK] at h' hI' k1 ⊢
  rw [k1, es]
  exact CH_ok eK (by show nI (a + b) = mst K 465 1 (nI (a + b)) 465 1; rw [mst_eq]) (by show mst K 465 1 _ 465 1 ≠ -1; rw [mst_eq]; exact nI_nm1 (by omega)) (fun x hx => mst_fn (by omega)) (fun x y hx => mst_ne1 hx) (HR_num h' (j := 1) (by omega)) (IV_lg hI' hab)
theorem c_Woo (h : HR M 1 n (N 465)) (hI : IV (N 465) n) {v : Int32} : CH M N c (wWoo M v) (tWoo N n c v) := by
  unfold wWoo tWoo
  have e3 : M 1 4 = N 465 2 := h.1 2 (by omega)
  rw [e3]
  have er := rng_n (x := v) (hi := 3) (h1 := 4) (j := 3) (by omega) (by decide) (by decide)
  by_cases c1 : zb (inB v 0 3) = 0
  · rw [if_pos (er.mpr c1), if_pos c1]
    exact CH_no (by decide)
  rw [if_neg (fun z => c1 (er.mp z)), if_neg c1]
  by_cases c2 : N 465 2 = v
  · rw [if_pos c2.symm, if_pos c2]
    exact CH_no (by decide)
  rw [if_neg (fun z => c2 z.symm), if_neg c2]
  obtain ⟨b, hb2, rfl⟩ := inB_8 (b := 3) (by omega) c1
  obtain ⟨a, ha, ea⟩ := hI.2.2.2.1
  have h' : HR M 1 n (kpR N 465 c 465) := by rw [kp_465]; exact h
  have hI' : IV (kpR N 465 c 465) n := by rw [kp_465]; exact hI
  obtain ⟨K, eK⟩ : ∃ K, K = kpR N 465 c := ⟨_, rfl⟩
  rw [← eK] at h' hI' ⊢
  exact CH_ok eK rfl (by show N 465 2 ≠ -1; rw [ea]; exact nI_nm1 (by omega)) (fun x hx => mst_fn (by omega)) (fun x y hx => mst_ne1 hx) (HR_num h' (j := 2) (by omega)) (IV_wd hI' hb2)
theorem fW_beg {M : MM} {a w : Nat} {v : Int32} (hw : w < 11) : fW (fbeg M a v) a w = if w = 0 then v else if w = 3 ∨ w = 4 then -1 else 0 := by
  match w, hw with
  | 0, _ | 1, _ | 2, _ | 3, _ | 4, _ | 5, _ | 6, _ | 7, _ | 8, _ | 9, _ | 10, _ => simp [fW, fbeg]
theorem beg_ne {M : MM} {a x : Nat} {v : Int32} (h0 : x ≠ a) (h1 : x ≠ a + 1) (h2 : x ≠ a + 2) : fbeg M a v x = M x := by
  funext k
  simp [fbeg, h0, h1, h2]
theorem c_Let (h : HR M 1 n (N 465)) (hI : IV (N 465) n) {v : Int32} : CH M N c (wLet M n v) (tFis N n c v) := by
  have hn := hI.2.1
  unfold wLet tFis
  by_cases c1 : zb (inB v 1 9) = 0
  · rw [if_pos (rng_in.mpr c1), if_pos c1]
    exact CH_no (by decide)
  rw [if_neg (fun z => c1 (rng_in.mp z)), if_neg c1]
  by_cases c2 : n < 12
  · have c3 : ¬ nI n = 12 := fun z => by
      have := (nI_eq (a := n) (b := 12) (by omega) (by omega)).mp z
      omega
    rw [if_pos c2, if_neg c3]
    obtain ⟨b, hb1, hb2, rfl⟩ := inB_1 (b := 9) (by omega) c1
    have h' : HR M 1 n (kpR N 465 c 465) := by rw [kp_465]; exact h
    have hI' : IV (kpR N 465 c 465) n := by rw [kp_465]; exact hI
    obtain ⟨K, eK⟩ : ∃ K, K = kpR N 465 c := ⟨_, rfl⟩
    rw [← eK] at h' hI' ⊢
    obtain ⟨N', eN⟩ : ∃ N', N' = mst (mst (mst (clR (mst K 465 0 (nI (n + 1))) (8 + 11 * n) 11) 465 (8 + 11 * n + 0) (nI b)) 465 (8 + 11 * n + 3) (-1)) 465 (8 + 11 * n + 4) (-1) := ⟨_, rfl⟩
    rw [← eN]
    have r0 : N' 465 0 = nI (n + 1) := by rw [eN, mst_ne (by omega), mst_ne (by omega), mst_ne (by omega), clR, if_neg (by omega), mst_eq]
    have rj : ∀ y, y ≠ 0 → (y < 8 + 11 * n ∨ 8 + 11 * n + 11 ≤ y) → N' 465 y = K 465 y := fun y h0 hy => by rw [eN, mst_ne (by omega), mst_ne (by omega), mst_ne (by omega), clR, if_neg (by omega), mst_ne (by omega)]
    have g : ∀ w, w < 11 → oF N' n w = if w = 0 then nI b else if w = 3 ∨ w = 4 then -1 else 0 := fun w hw => by
      rw [eN, oF_st (by omega) hw, oF_st (by omega) hw, oF_st (by omega) hw]
      have e0 : oF (clR (mst K 465 0 (nI (n + 1))) (8 + 11 * n) 11) n w = 0 := if_pos ⟨rfl, by omega, by omega⟩
      rw [e0]
      match w, hw with
      | 0, _ | 1, _ | 2, _ | 3, _ | 4, _ | 5, _ | 6, _ | 7, _ | 8, _ | 9, _ | 10, _ => simp
    have hR : HR (mst (fbeg M (6 + 3 * n) (nI b)) 1 2 (nI (n + 1))) 1 (n + 1) (N' 465) := by
      refine ⟨fun j hj => ?_, fun i hi w hw => ?_⟩
      · by_cases e : j = 0
        · subst e
          rw [r0]; exact mst_eq _ _ _ _
        · rw [rj j e (by omega), mst_ne (by omega), beg_ne (by omega) (by omega) (by omega)]
          exact h'.1 j hj
      · by_cases e : i = n
        · subst e
          have q : N' 465 (8 + 11 * i + w) = _ := g w hw
          rw [q, ← fW_beg (M := M) (a := 6 + 3 * i) hw]
          exact fW_ne (mst_fn (by omega)) (mst_fn (by omega)) (mst_fn (by omega))
        · rw [rj _ (by omega) (by omega), ← h'.2 i (by omega) w hw]
          exact fW_ne ((mst_fn (by omega)).trans (beg_ne (by omega) (by omega) (by omega))) ((mst_fn (by omega)).trans (beg_ne (by omega) (by omega) (by omega))) ((mst_fn (by omega)).trans (beg_ne (by omega) (by omega) (by omega)))
    have hI2 : IV (N' 465) (n + 1) := by
      obtain ⟨h1, h2, h3, h4, h5⟩ := hI'
      refine ⟨r0, by omega, by rw [rj 1 (by omega) (by omega)]; exact h3, by rw [rj 2 (by omega) (by omega)]; exact h4, fun i hi => ?_⟩
      by_cases e : i = n
      · subst e
        refine fOK_eq g ⟨⟨b, hb1, hb2, rfl⟩, ⟨0, by omega, rfl⟩, Or.inr ⟨Or.inl rfl, rfl, rfl, rfl⟩, Or.inl rfl, Or.inl rfl, ⟨0, by omega, rfl⟩, ⟨0, by omega, rfl⟩, ⟨0, by omega, rfl⟩, ⟨0, by omega, rfl⟩⟩
      · exact fOK_eq (fun w hw => rj _ (by omega) (by omega)) (h5 i (by omega))
    exact CH_ok eK rfl (nI_nm1 (by omega)) (fun x hx => (mst_fn (by omega)).trans (beg_ne (by simp only [fa]; omega) (by simp only [fa]; omega) (by simp only [fa]; omega))) (fun x y hx => by show N' x y = K x y; rw [eN, mst_ne1 hx, mst_ne1 hx, mst_ne1 hx, clR_fr hx, mst_ne1 hx]) hR hI2
  · obtain rfl : n = 12 := by omega
    rw [if_neg c2, if_pos (show nI 12 = 12 by decide)]
    exact CH_no (by decide)
/-- a fish copied -/
theorem fW_cp {M : MM} {a b w : Nat} : fW (fcp M a b) a w = fW M b w := by
  match w with
  | 0 | 1 | 2 | 3 | 4 | 5 | 6 => exact fcp_at (by omega)
  | 7 => exact fcp_at1 (by omega)
  | 8 => exact fcp_at2 (by omega)
  | 9 => exact fcp_at1 (by omega)
  | w + 10 => exact fcp_at2 (by omega)
theorem hrm_s {b k t : Nat} : hrm M b k (t + 1) = fcp (hrm M b k t) (b + 5 + 3 * (k + t)) (b + 5 + 3 * (k + t + 1)) := rfl
theorem hrm_fW {k : Nat} : ∀ (t i w : Nat), fW (hrm M 1 k t) (6 + 3 * i) w = if k ≤ i ∧ i < k + t then fW M (6 + 3 * (i + 1)) w else fW M (6 + 3 * i) w
  | 0, i, w => by
    rw [if_neg (by omega)]
    show fW (mst M 1 2 (M 1 2 - 1)) (6 + 3 * i) w = fW M (6 + 3 * i) w
    exact fW_ne (mst_fn (by omega)) (mst_fn (by omega)) (mst_fn (by omega))
  | t + 1, i, w => by
    rw [hrm_s]
    by_cases e : i = k + t
    · subst e
      rw [if_pos (by omega)]
      have e1 : fW (fcp (hrm M 1 k t) (1 + 5 + 3 * (k + t)) (1 + 5 + 3 * (k + t + 1))) (6 + 3 * (k + t)) w = fW (hrm M 1 k t) (6 + 3 * (k + t + 1)) w := fW_cp (a := 6 + 3 * (k + t)) (b := 6 + 3 * (k + t + 1))
      rw [e1, hrm_fW t (k + t + 1) w, if_neg (by omega)]
    · have e1 : fW (fcp (hrm M 1 k t) (1 + 5 + 3 * (k + t)) (1 + 5 + 3 * (k + t + 1))) (6 + 3 * i) w = fW (hrm M 1 k t) (6 + 3 * i) w := fW_ne (fcp_ne (by omega) (by omega) (by omega)) (fcp_ne (by omega) (by omega) (by omega)) (fcp_ne (by omega) (by omega) (by omega))
      rw [e1, hrm_fW t i w]
      by_cases e2 : k ≤ i ∧ i < k + t
      · rw [if_pos e2, if_pos (by omega)]
      · rw [if_neg e2, if_neg (by omega)]
theorem hrm_1 {k : Nat} (t : Nat) {j : Nat} : hrm M 1 k t 1 j = mst M 1 2 (M 1 2 - 1) 1 j := by
  rw [hrm_fr t (by omega)]
theorem rGo_row {j : Nat} (h1 : 1 ≤ j) (h2 : j < 8) : rGo K k n 465 j = K 465 j := by
  rw [rGo, clR, if_neg (by omega), gsR, if_neg (by omega), mst_ne (by omega)]
theorem rGo_0 : rGo K k n 465 0 = nI (n - 1) := by
  rw [rGo, clR, if_neg (by omega), gsR, if_neg (by omega), mst_eq]
theorem rGo_fish {i w : Nat} (hi : i < n - 1) (hw : w < 11) : oF (rGo K k n) i w = if k ≤ i then oF K (i + 1) w else oF K i w := by
  show rGo K k n 465 (8 + 11 * i + w) = _
  rw [rGo, clR, if_neg (by omega), gsR]
  by_cases e : k ≤ i
  · rw [if_pos (by omega), if_pos e, mst_ne (by omega)]
    show K 465 _ = K 465 _
    congr 1
    omega
  · rw [if_neg (by omega), if_neg e, mst_ne (by omega)]
theorem HR_rm (h : HR M 1 n (K 465)) (hI : IV (K 465) n) (hk : k < n) : HR (hrm M 1 k (n - 1 - k)) 1 (n - 1) (rGo K k n 465) ∧ IV (rGo K k n 465) (n - 1) := by
  have hg := hr_g h hI
  obtain ⟨h1, h2, h3, h4, h5⟩ := hI
  refine ⟨⟨fun j hj => ?_, fun i hi w hw => ?_⟩, rGo_0, by omega, by rw [rGo_row (by omega) (by omega)]; exact h3, by rw [rGo_row (by omega) (by omega)]; exact h4, fun i hi => ?_⟩
  · rw [hrm_1]
    by_cases e : j = 0
    · subst e
      rw [mst_eq, rGo_0, hg, nI_sub1 (by omega)]
    · rw [rGo_row (by omega) hj, mst_ne (by omega)]
      exact h.1 j hj
  · have e1 : fW (hrm M 1 k (n - 1 - k)) (1 + 5 + 3 * i) w = _ := hrm_fW (n - 1 - k) i w
    have e2 : rGo K k n 465 (8 + 11 * i + w) = _ := rGo_fish hi hw
    rw [e1, e2]
    by_cases e : k ≤ i
    · rw [if_pos e, if_pos (by omega)]
      exact h.2 (i + 1) (by omega) w hw
    · rw [if_neg e, if_neg (by omega)]
      exact h.2 i (by omega) w hw
  · by_cases e : k ≤ i
    · exact fOK_eq (fun w hw => by show oF (rGo K k n) i w = _; rw [rGo_fish hi hw, if_pos e]) (h5 (i + 1) (by omega))
    · exact fOK_eq (fun w hw => by show oF (rGo K k n) i w = _; rw [rGo_fish hi hw, if_neg e]) (h5 i (by omega))
theorem hrm_num {k t j : Nat} {v : Int32} (hj : 3 ≤ j) : hrm (mst M 1 j v) 1 k t = mst (hrm M 1 k t) 1 j v := by
  induction t with
  | zero =>
    show mst (mst M 1 j v) 1 2 (mst M 1 j v 1 2 - 1) = mst (mst M 1 2 (M 1 2 - 1)) 1 j v
    rw [mst_ne2 (by omega), mst_cm (by omega)]
  | succ t ih =>
    rw [hrm_s, hrm_s, ih]
    funext x y
    by_cases e : x = 1
    · subst e
      rw [fcp_ne (by omega) (by omega) (by omega)]
      by_cases e2 : y = j
      · subst e2
        rw [mst_eq, mst_eq]
      · rw [mst_ne2 e2, mst_ne2 e2, fcp_ne (by omega) (by omega) (by omega)]
    · rw [mst_ne1 e]
      unfold fcp
      rw [mst_ne1 e, mst_ne1 (by omega), mst_ne1 (by omega), mst_ne1 (by omega)]
theorem wt_n1 {g : Nat → Int32} (h : fOK g) : g 0 ≠ -1 := by
  obtain ⟨a, h1, h2, h3⟩ := h.1
  rw [h3]; exact nI_nm1 (by omega)
theorem c_Dis (h : HR M 1 n (N 465)) (hI : IV (N 465) n) {x : Int32} : CH M N c (wDis M n x) (tThr N n c x) := by
  have hn := hI.2.1
  have hg := hr_g h hI
  unfold wDis tThr
  rw [has_in hg hn]
  by_cases c1 : zb (inB x 0 (nI n - 1)) = 0
  · rw [if_pos (zb_0.mp c1), if_pos c1, hg]
    exact CH_no (by decide)
  rw [if_neg (fun z => c1 (zb_0.mpr z)), if_neg c1]
  obtain ⟨k, hk, rfl⟩ := inB_k hn c1
  simp only [fx, nI_cl (show k < 2000 by omega)]
  have ok := iv_k hI hk
  have h' : HR M 1 n (kpR N 465 c 465) := by rw [kp_465]; exact h
  have hI' : IV (kpR N 465 c 465) n := by rw [kp_465]; exact hI
  obtain ⟨K, eK⟩ : ∃ K, K = kpR N 465 c := ⟨_, rfl⟩
  rw [← eK] at h' hI' ⊢
  have oK : oF K k 0 = oF N k 0 := by rw [eK]; exact oF_kp
  have e9 : M 1 9 = K 465 7 := h'.1 7 (by omega)
  obtain ⟨r1, r2⟩ := HR_rm h' hI' hk
  rw [hrm_num (by omega), e9, rGo_row (by omega) (by omega)]
  exact CH_ok eK (hr_0 h' hk) (by show oF K k 0 ≠ -1; rw [oK]; exact wt_n1 ok) (fun x hx => (mst_fn (by omega)).trans ((hrm_fr _ (by omega)).trans (mst_fn (by omega)))) (fun x y hx => (mst_ne1 hx).trans (rGo_fr hx)) (HR_num r1 (j := 7) (by omega)) (IV_num r2 (by omega))
theorem pr_n1 {k : Nat} (h : fOK (oF N k)) : rPrice N k ≠ -1 := by
  obtain ⟨a, h1, h2, h3⟩ := h.1
  obtain ⟨b, h4, h5⟩ := h.2.1
  unfold rPrice
  rw [h3, h5]
  have : ∀ a, a < 10 → ∀ b, b < 10 → 3 * nI a + (if 6 < nI b then 0 else nI b) ≠ -1 := by decide +kernel
  exact this a (by omega) b (by omega)
theorem c_Sel (h : HR M 1 n (N 465)) (hI : IV (N 465) n) {x : Int32} : CH M N c (wSel M n x) (tSel N n c x) := by
  have hn := hI.2.1
  have hg := hr_g h hI
  unfold wSel tSel
  rw [has_in hg hn]
  by_cases c1 : zb (inB x 0 (nI n - 1)) = 0
  · rw [if_pos (zb_0.mp c1), if_pos c1, hg]
    exact CH_no (by decide)
  rw [if_neg (fun z => c1 (zb_0.mpr z)), if_neg c1]
  obtain ⟨k, hk, rfl⟩ := inB_k hn c1
  simp only [fx, nI_cl (show k < 2000 by omega)]
  have ok := iv_k hI hk
  rw [e_re h hI hk, e_bu h hk, e_la h hI hk]
  by_cases c2 : zb (rReady N k) = 0
  · rw [if_pos (zb_0.mp c2), if_pos c2]
    by_cases c3 : zb (rBurnt N k) = 0
    · rw [if_pos c3, if_neg (by rw [zb_0.mp c3]; decide)]
      exact CH_no (by decide)
    · rw [if_neg c3, if_pos (zb_n0.mp c3)]
      exact CH_no (by decide)
  rw [if_neg (fun z => c2 (zb_0.mpr z)), if_neg c2]
  have h' : HR M 1 n (kpR N 465 c 465) := by rw [kp_465]; exact h
  have hI' : IV (kpR N 465 c 465) n := by rw [kp_465]; exact hI
  obtain ⟨K, eK⟩ : ∃ K, K = kpR N 465 c := ⟨_, rfl⟩
  rw [← eK] at h' hI' ⊢
  have okK := iv_k hI' hk
  have e7 : M 1 7 = K 465 5 := h'.1 5 (by omega)
  have e8 : M 1 8 = K 465 6 := h'.1 6 (by omega)
  obtain ⟨r1, r2⟩ := HR_rm h' hI' hk
  rw [hrm_num (by omega), hrm_num (by omega), e7, e8, e_pr h' hk, rGo_row (j := 5) (by omega) (by omega), mst_ne2 (show (6 : Nat) ≠ 5 by decide), rGo_row (j := 6) (by omega) (by omega)]
  have p1 := pr_n1 okK
  exact CH_ok eK rfl p1 (fun x hx => (mst_fn (by omega)).trans ((mst_fn (by omega)).trans ((hrm_fr _ (by omega)).trans (mst_fn (by omega))))) (fun x y hx => (mst_ne1 hx).trans ((mst_ne1 hx).trans (rGo_fr hx))) (HR_num (K := mst (rGo K k n) 465 5 (K 465 5 + 1)) (HR_num r1 (j := 5) (by omega)) (j := 6) (by omega)) (IV_num (K := mst (rGo K k n) 465 5 (K 465 5 + 1)) (IV_num r2 (by omega)) (by omega))
end P40
