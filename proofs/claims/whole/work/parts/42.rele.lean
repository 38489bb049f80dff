section P42
variable {M N K : MM} {n k c : Nat}
theorem rHeat_mx {lg p : Nat} (e1 : K 465 1 = nI lg) (hl : lg ≤ 12) (hp : p < 4) : rHeat K (nI p) = mx0 (nI lg - nI p) := by
  unfold rHeat
  rw [e1]
  have : ∀ a, a < 13 → ∀ p, p < 4 → (if nI p < nI a then nI a - nI p else 0) = mx0 (nI a - nI p) := by decide +kernel
  exact this lg (by omega) p hp
theorem asub (a b c : Int32) : a + b - c = a + (b - c) := by
  rw [Int32.sub_eq_add_neg, Int32.sub_eq_add_neg, Int32.add_assoc]
theorem rS1_o {d : Nat} (hd : d < 2) {w : Nat} (hw : w < 11) : oF (rS1 K k n d) k w = if w = 7 + d then mn2 (oF K k (7 + d) + (if zb (rNear K k n) = 0 then rHeat K (oF K k 3) + K 465 2 else (rHeat K (oF K k 3) + K 465 2) / 2)) 40 else oF K k w := by
  rw [rS1, oF_st (by omega) hw]
  simp
/-- an hour of the reference's fish k -/
theorem rHst_o (hI : IV (K 465) n) (hk : k < n) {w : Nat} (hw : w < 11) : oF (rHst K n k) k w = hF (oF K k) (K 465 1) (K 465 2) (zb (rNear K k n)) w := by
  have o := iv_k hI hk
  obtain ⟨lg, hl, e1⟩ := hI.2.2.1
  obtain ⟨wd, hwd, e2⟩ := hI.2.2.2.1
  unfold rHst
  rw [oF_st (by omega) hw]
  unfold rHang
  by_cases c2 : oF K k 2 = 2
  · rw [beq_iff_eq.mpr c2, if_neg (show ¬ zb true = 0 by decide)]
    rcases o.2.2.1 with ⟨_, p, q, hp, hq, e3, e4⟩ | ⟨z, _⟩
    · by_cases w6 : w = 6
      · subst w6
        unfold hF
        rw [if_pos ⟨rfl, rfl⟩, if_pos c2, if_pos rfl]
      rw [if_neg (fun z => w6 z.2)]
      by_cases cl : 0 < K 465 1
      · rw [if_pos cl]
        have sm : hS (oF K k) (K 465 1) (K 465 2) (zb (rNear K k n)) = if zb (rNear K k n) = 0 then rHeat K (oF K k 3) + K 465 2 else (rHeat K (oF K k 3) + K 465 2) / 2 := by
          unfold hS
          rw [if_pos cl, e3, rHeat_mx e1 hl hp, e1]
        have ht : mx0 (K 465 1 - oF K k 3) = rHeat K (oF K k 3) := by rw [e3, rHeat_mx e1 hl hp, e1]
        unfold hF
        rw [if_pos c2, if_neg w6, sm, ht]
        have key : ∀ d, d < 2 → oF K k 5 = nI d → oF (rSmk K k n d) k w = if w = 7 + d then am (oF K k w + (if zb (rNear K k n) = 0 then rHeat K (oF K k 3) + K 465 2 else (rHeat K (oF K k 3) + K 465 2) / 2)) 40 else if w = 9 + d ∧ oF K k 6 = 0 ∧ 2 + oF K k 1 / 3 < rHeat K (oF K k 3) then am (oF K k w + (rHeat K (oF K k 3) - (2 + oF K k 1 / 3))) 9 else oF K k w := by
          intro d hd e5
          have q1 : oF (rS1 K k n d) k 1 = oF K k 1 := by rw [rS1_o hd (by omega), if_neg (by omega)]
          have q6 : oF (rS1 K k n d) k 6 = oF K k 6 := by rw [rS1_o hd (by omega), if_neg (by omega)]
          have q9 : oF (rS1 K k n d) k (9 + d) = oF K k (9 + d) := by rw [rS1_o hd (by omega), if_neg (by omega)]
          unfold rSmk
          rw [q1, q6, q9]
          by_cases c3 : 2 + oF K k 1 / 3 < rHeat K (oF K k 3)
          · rw [if_pos c3]
            by_cases c6 : oF K k 6 = 0
            · rw [if_pos c6, oF_st (by omega) hw, rS1_o hd hw]
              by_cases w7 : w = 7 + d
              · subst w7
                rw [if_pos rfl, if_neg (by omega), if_pos rfl]; rfl
              · rw [if_neg w7, if_neg w7]
                by_cases w9 : w = 9 + d
                · subst w9
                  rw [if_pos ⟨rfl, rfl⟩, if_pos ⟨rfl, c6, c3⟩, asub]; rfl
                · rw [if_neg (fun z => w9 z.2), if_neg (fun z => w9 z.1)]
            · rw [if_neg c6, rS1_o hd hw]
              by_cases w7 : w = 7 + d
              · subst w7
                rw [if_pos rfl, if_pos rfl]; rfl
              · rw [if_neg w7, if_neg w7, if_neg (fun z => c6 z.2.1)]
          · rw [if_neg c3, rS1_o hd hw]
            by_cases w7 : w = 7 + d
            · subst w7
              rw [if_pos rfl, if_pos rfl]; rfl
            · rw [if_neg w7, if_neg w7, if_neg (fun z => c3 z.2.2)]
        rcases o.2.2.2.1 with e5 | e5
        · rw [e5, show ((0 : Int32).toNatClampNeg) = 0 from rfl, key 0 (by omega) e5, if_pos rfl]
          have e5' : oF K k 5 = 0 := e5
          simp
        · have e5' : oF K k 5 = 1 := e5
          rw [e5', show ((1 : Int32).toNatClampNeg) = 1 from rfl, key 1 (by omega) e5', if_neg (show ¬ (1 : Int32) = 0 by decide)]
          simp
      · rw [if_neg cl]
        have z0 : lg = 0 := by
          rw [e1] at cl
          have : ¬ nI 0 < nI lg := cl
          rw [nI_ltI (by omega) (by omega)] at this
          omega
        subst z0
        unfold hF hS
        rw [if_pos c2, if_neg w6, if_neg cl, e3, e1]
        have zz : (if zb (rNear K k n) = 0 then (0 : Int32) else 0 / 2) = 0 := by split <;> decide
        have z4 : mx0 (nI 0 - nI p) = 0 := by rw [he_mx 0 (by omega) p hp, Nat.zero_sub]; rfl
        rw [zz, z4]
        obtain ⟨sa, hsa, esa⟩ := o.2.1
        have nb : ¬ (2 + oF K k 1 / 3 < 0) := by
          rw [esa]
          have : ∀ a, a < 10 → ¬ ((2 : Int32) + nI a / 3 < 0) := by decide +kernel
          exact this sa (by omega)
        have nc : ¬ ((w = if oF K k 5 = 0 then 9 else 10) ∧ oF K k 6 = 0 ∧ 2 + oF K k 1 / 3 < 0) := fun z => nb z.2.2
        rw [if_neg nc, Int32.add_zero]
        obtain ⟨s0, hs0, es0⟩ := o.2.2.2.2.2.1
        obtain ⟨s1, hs1, es1⟩ := o.2.2.2.2.2.2.1
        have am40 : ∀ a, a < 41 → am (nI a) 40 = nI a := by decide +kernel
        by_cases z : oF K k 5 = 0
        · rw [if_pos z]
          by_cases z7 : w = 7
          · subst z7
            rw [if_pos rfl, es0, am40 s0 (by omega)]
          · rw [if_neg z7]
        · rw [if_neg z]
          by_cases z8 : w = 8
          · subst z8
            rw [if_pos rfl, es1, am40 s1 (by omega)]
          · rw [if_neg z8]
    · rcases z with z | z <;> exact absurd (z.symm.trans c2) (by decide)
  · rw [beq_eq_false_iff_ne.mpr c2, if_pos (show zb false = 0 from rfl)]
    unfold hF
    rw [if_neg c2]
    by_cases w6 : w = 6
    · subst w6
      rw [if_pos ⟨rfl, rfl⟩]; exact (ok_3 o c2).2.2.symm
    · rw [if_neg (fun z => w6 z.2)]
theorem rHst_n (hI : IV (K 465) n) (hk : k < n) {y : Nat} (hy : y < 8 + 11 * k ∨ 8 + 11 * k + 11 ≤ y) : rHst K n k 465 y = K 465 y := by
  have hdd : (oF K k 5).toNatClampNeg < 2 := by rcases (iv_k hI hk).2.2.2.1 with e | e <;> rw [e] <;> decide
  unfold rHst
  rw [mst_ne (Or.inr (by omega))]
  split
  · rfl
  · split
    · have q : rS1 K k n (oF K k 5).toNatClampNeg 465 y = K 465 y := mst_ne (Or.inr (by omega))
      unfold rSmk
      by_cases a1 : 2 + oF (rS1 K k n (oF K k 5).toNatClampNeg) k 1 / 3 < rHeat K (oF K k 3)
      · rw [if_pos a1]
        by_cases a2 : oF (rS1 K k n (oF K k 5).toNatClampNeg) k 6 = 0
        · rw [if_pos a2, mst_ne (Or.inr (by omega))]; exact q
        · rw [if_neg a2]; exact q
      · rw [if_neg a1]; exact q
    · rfl
theorem hst_step (h : HR M 1 n (K 465)) (hI : IV (K 465) n) (hk : k < n) : HR (smk M 1 (6 + 3 * k) (M 1 3) (zb (tooNear M 1 k n))) 1 n (rHst K n k 465) ∧ IV (rHst K n k 465) n := by
  have hN := fun y hy => rHst_n (y := y) hI hk hy
  have e3 : M 1 3 = K 465 1 := h.1 1 (by omega)
  have e4 : M 1 4 = K 465 2 := h.1 2 (by omega)
  obtain ⟨lg, hl, e1⟩ := hI.2.2.1
  obtain ⟨wd, hwd, e2⟩ := hI.2.2.2.1
  refine ⟨HR_upd h hk (fun x h0 h1 h2 => smk_ne h0 h1 h2) hN (fun w hw => ?_), IV_upd hI hN (fOK_eq (fun w hw => rHst_o hI hk hw) ?_)⟩
  · rw [smk_fW hw, rHst_o hI hk hw, e_ne h hI hk, e3, e4]
    have g : ∀ w, w < 11 → fW M (6 + 3 * k) w = oF K k w := fun w hw => hr_w h hk hw
    unfold hF hS
    rw [g 2 (by omega), g 5 (by omega), g 6 (by omega), g 1 (by omega), g 3 (by omega), g w hw]
  · rw [e1, e2]
    exact hF_ok (iv_k hI hk) hl hwd
theorem hrF_s {i : Nat} : hrF M 1 n (i + 1) = smk (hrF M 1 n i) 1 (6 + 3 * i) (hrF M 1 n i 1 3) (zb (tooNear (hrF M 1 n i) 1 i n)) := rfl
theorem rHr_s {i : Nat} : rHr K n (i + 1) = rHst (rHr K n i) n i := rfl
theorem hr_key (h : HR M 1 n (K 465)) (hI : IV (K 465) n) : ∀ m, m ≤ n → HR (hrF M 1 n m) 1 n (rHr K n m 465) ∧ IV (rHr K n m 465) n := by
  intro m
  induction m with
  | zero => intro _; exact ⟨h, hI⟩
  | succ m ih =>
    intro hm
    obtain ⟨i1, i2⟩ := ih (by omega)
    rw [hrF_s, rHr_s]
    exact hst_step i1 i2 (by omega)
theorem hour_key (h : HR M 1 n (K 465)) (hI : IV (K 465) n) : HR (hour M 1 n) 1 n (rHour K n 465) ∧ IV (rHour K n 465) n := by
  obtain ⟨i1, i2⟩ := hr_key h hI n (Nat.le_refl _)
  have a1 : M 1 3 = rHr K n n 465 1 := by
    rw [← i1.1 1 (by omega), hrF_fr n (by omega)]
  have a2 : M 1 5 = rHr K n n 465 3 := by
    rw [← i1.1 3 (by omega), hrF_fr n (by omega)]
  obtain ⟨lg, hl, e1⟩ := i2.2.2.1
  unfold hour rHour rHt rHt1
  rw [a1, a2]
  have ed : (if 0 < rHr K n n 465 1 then rHr K n n 465 1 - 1 else rHr K n n 465 1) = mx0 (rHr K n n 465 1 - 1) := by
    rw [e1]
    have : ∀ a, a < 13 → (if 0 < nI a then nI a - 1 else nI a) = mx0 (nI a - 1) := by decide +kernel
    exact this lg (by omega)
  have el : mx0 (rHr K n n 465 1 - 1) = nI (lg - 1) := by
    rw [e1]
    exact he_mx lg (by omega) 1 (by omega)
  obtain ⟨X, eX⟩ : ∃ X, X = (if 0 < rHr K n n 465 1 then mst (rHr K n n) 465 1 (rHr K n n 465 1 - 1) else rHr K n n) := ⟨_, rfl⟩
  have x1 : ∀ y, X 465 y = mst (rHr K n n) 465 1 (mx0 (rHr K n n 465 1 - 1)) 465 y := fun y => by
    rw [← ed, eX]
    by_cases z : 0 < rHr K n n 465 1
    · rw [if_pos z, if_pos z]
    · rw [if_neg z, if_neg z, mst_id rfl]
  rw [← eX]
  have x3 : X 465 3 = rHr K n n 465 3 := by rw [x1, mst_ne (by omega)]
  rw [x3]
  have y1 : ∀ y, mst X 465 3 (rHr K n n 465 3 + 1) 465 y = mst (mst (rHr K n n) 465 1 (mx0 (rHr K n n 465 1 - 1))) 465 3 (rHr K n n 465 3 + 1) 465 y := fun y => by
    by_cases z : y = 3
    · subst z
      rw [mst_eq, mst_eq]
    · rw [mst_ne2 z, mst_ne2 z, x1]
  have h1 := HR_num (HR_num i1 (j := 1) (by omega) (v := mx0 (rHr K n n 465 1 - 1))) (K := mst (rHr K n n) 465 1 (mx0 (rHr K n n 465 1 - 1))) (j := 3) (by omega) (v := rHr K n n 465 3 + 1)
  have h2 : IV (mst (mst (rHr K n n) 465 1 (mx0 (rHr K n n 465 1 - 1))) 465 3 (rHr K n n 465 3 + 1) 465) n := by
    rw [el]
    exact IV_num (K := mst (rHr K n n) 465 1 (nI (lg - 1))) (IV_lg i2 (by omega)) (by omega)
  exact ⟨HR_eq (fun _ _ _ _ => rfl) hI.2.1 (fun y _ => y1 y) h1, IV_eq (fun y _ => y1 y) h2⟩
theorem hrsR_s {i : Nat} : hrsR M n (i + 1) = hour (hrsR M n i) 1 n := rfl
theorem hsR_s {i : Nat} : hsR K n (i + 1) = rHour (hsR K n i) n := rfl
theorem hrs_key (h : HR M 1 n (K 465)) (hI : IV (K 465) n) : ∀ m, HR (hrsR M n m) 1 n (hsR K n m 465) ∧ IV (hsR K n m 465) n
  | 0 => ⟨h, hI⟩
  | m + 1 => by
    obtain ⟨i1, i2⟩ := hrs_key h hI m
    rw [hrsR_s, hsR_s]
    exact hour_key i1 i2
theorem hrsR_x (hn : n ≤ 12) {x : Nat} (hx : x = 0 ∨ 42 ≤ x) : ∀ m, hrsR M n m x = M x
  | 0 => rfl
  | m + 1 => by
    rw [hrsR_s, hour, mst_fn (by omega), mst_fn (by omega), hrF_fr n (by omega)]
    exact hrsR_x hn hx m
theorem iv_dwn (hI : IV (N 465) n) : dwn N n := fun k hk => by
  rcases (iv_k hI hk).2.2.2.1 with e | e
  · exact ⟨0, by omega, e⟩
  · exact ⟨1, by omega, e⟩
theorem c_Hrs (h : HR M 1 n (N 465)) (hI : IV (N 465) n) {v : Int32} : CH M N c (wHrs M n v) (tHrs N n c v) := by
  have hn := hI.2.1
  unfold wHrs tHrs
  by_cases c1 : zb (inB v 1 24) = 0
  · rw [if_pos (rng_in.mpr c1), if_pos c1]
    exact CH_no (by decide)
  rw [if_neg (fun z => c1 (rng_in.mp z)), if_neg c1]
  have h' : HR M 1 n (kpR N 465 c 465) := by rw [kp_465]; exact h
  have hI' : IV (kpR N 465 c 465) n := by rw [kp_465]; exact hI
  obtain ⟨K, eK⟩ : ∃ K, K = kpR N 465 c := ⟨_, rfl⟩
  rw [← eK] at h' hI' ⊢
  obtain ⟨i1, i2⟩ := hrs_key h' hI' v.toNatClampNeg
  exact CH_ok eK (e_bc i1) (bu_n1 hn) (fun x hx => hrsR_x hn (by omega) _) (fun x y hx => (hsR_ok (iv_dwn hI') _).2 x y (Or.inl hx)) i1 i2
end P42
