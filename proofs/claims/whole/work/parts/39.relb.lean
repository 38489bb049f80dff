/-- a change: what the class does against what the reference does -/
def CH (M N : MM) (c : Nat) (a b : Int32 × MM) : Prop := (∃ u v : Int32, u ≠ 0 ∧ a = (-1, ksR M u v) ∧ b = (0, rfM N u v)) ∨ (a.1 = b.1 ∧ a.1 ≠ -1 ∧ (∀ x, (x = 0 ∨ 42 ≤ x) → a.2 x = M x) ∧ (∀ x y, x ≠ 465 → b.2 x y = kpR N 465 c x y) ∧ ∃ n', HR a.2 1 n' (b.2 465) ∧ IV (b.2 465) n')
theorem kp_465 {N : MM} {c : Nat} : kpR N 465 c 465 = N 465 := funext fun y => kpR_fr (by decide) (Or.inl (by decide))
theorem oF_st {N : MM} {k w i j : Nat} {v : Int32} (hw : w < 11) (hj : j < 11) : oF (mst N 465 (8 + 11 * k + w) v) i j = if i = k ∧ j = w then v else oF N i j := by
  unfold oF mst
  by_cases c : i = k ∧ j = w
  · obtain ⟨rfl, rfl⟩ := c
    rw [if_pos ⟨rfl, rfl⟩, if_pos ⟨rfl, rfl⟩]
  · rw [if_neg c, if_neg (fun z => c (by omega))]
theorem row_st {N : MM} {k w j : Nat} {v : Int32} (hj : j < 8) : mst N 465 (8 + 11 * k + w) v 465 j = N 465 j := mst_ne (Or.inr (by omega))
theorem fW_ne {M M' : MM} {a w : Nat} (h0 : M' a = M a) (h1 : M' (a + 1) = M (a + 1)) (h2 : M' (a + 2) = M (a + 2)) : fW M' a w = fW M a w := by
  unfold fW
  split <;> first | rw [h0] | rw [h1] | rw [h2]
theorem HR_upd {M M' N N' : MM} {n k : Nat} (h : HR M 1 n (N 465)) (hk : k < n) (hM : ∀ x, x ≠ 6 + 3 * k → x ≠ 6 + 3 * k + 1 → x ≠ 6 + 3 * k + 2 → M' x = M x) (hN : ∀ y, (y < 8 + 11 * k ∨ 8 + 11 * k + 11 ≤ y) → N' 465 y = N 465 y) (hw : ∀ w, w < 11 → fW M' (6 + 3 * k) w = oF N' k w) : HR M' 1 n (N' 465) := by
  refine ⟨fun j hj => by rw [hM 1 (by omega) (by omega) (by omega), hN j (by omega)]; exact h.1 j hj, fun i hi w hw1 => ?_⟩
  by_cases c : i = k
  · subst c
    exact hw w hw1
  · rw [hN _ (by omega), ← h.2 i hi w hw1]
    exact fW_ne (hM _ (by omega) (by omega) (by omega)) (hM _ (by omega) (by omega) (by omega)) (hM _ (by omega) (by omega) (by omega))
theorem IV_upd {N N' : MM} {n k : Nat} (h : IV (N 465) n) (hN : ∀ y, (y < 8 + 11 * k ∨ 8 + 11 * k + 11 ≤ y) → N' 465 y = N 465 y) (ok : fOK (oF N' k)) : IV (N' 465) n := by
  obtain ⟨h1, h2, h3, h4, h5⟩ := h
  refine ⟨by rw [hN 0 (by omega)]; exact h1, h2, by rw [hN 1 (by omega)]; exact h3, by rw [hN 2 (by omega)]; exact h4, fun i hi => ?_⟩
  by_cases c : i = k
  · subst c
    exact ok
  · exact fOK_eq (fun w hw => hN _ (by omega)) (h5 i hi)
theorem fW_mv {M : MM} {a w : Nat} {p q s : Int32} : fW (mvT M a p q s) a w = if w = 2 then p else if w = 3 then q else if w = 4 then s else if w = 6 then 0 else fW M a w := by
  match w with
  | 0 | 1 | 2 | 3 | 4 | 5 | 6 | 7 | 8 | 9 => simp [fW, mst]
  | w + 10 => simp [fW, mst]
theorem fW_fl {M : MM} {a w : Nat} : fW (flp M a) a w = if w = 5 then 1 - M a 7 else if w = 6 then 1 else fW M a w := by
  match w with
  | 0 | 1 | 2 | 3 | 4 | 5 | 6 | 7 | 8 | 9 => simp [fW, mst]
  | w + 10 => simp [fW, mst]
theorem mv_ne {M : MM} {a x : Nat} {p q s : Int32} (h : x ≠ a) : mvT M a p q s x = M x := (mst_fn h).trans ((mst_fn h).trans ((mst_fn h).trans (mst_fn h)))
theorem fl_ne9 {M : MM} {a x : Nat} (h : x ≠ a) : flp M a x = M x := (mst_fn h).trans (mst_fn h)
section P39
variable {M N : MM} {n k c : Nat}
theorem hr_g (h : HR M 1 n (N 465)) (hI : IV (N 465) n) : M 1 2 = nI n := (h.1 0 (by omega)).trans hI.1
theorem it_n1 (f : Nat → Bool) : ∀ n, n ≤ 12 → itN (fun i s => s + (if f i = true then 1 else 0)) (0 : Int32) n ≠ -1 := by
  intro n hn
  have key : ∀ m, m ≤ n → ∃ d, d ≤ m ∧ itN (fun i s => s + (if f i = true then 1 else 0)) (0 : Int32) m = nI d := by
    intro m
    induction m with
    | zero => intro _; exact ⟨0, Nat.le_refl _, rfl⟩
    | succ m ih =>
      intro hm
      obtain ⟨d, h1, h2⟩ := ih (by omega)
      show ∃ d, d ≤ m + 1 ∧ itN _ _ m + _ = nI d
      rw [h2]
      cases hf : f m with
      | true => exact ⟨d + 1, by omega, nI_1 d⟩
      | false => exact ⟨d, by omega, by simp⟩
  obtain ⟨d, h1, h2⟩ := key n (Nat.le_refl _)
  rw [h2]
  exact nI_nm1 (by omega)
theorem many_n1 {v : Int32} (hn : n ≤ 12) : rMany N v n ≠ -1 := by
  have := it_n1 (fun i => oF N i 2 == v) n hn
  simp only [beq_iff_eq] at this
  exact this
theorem onr_n1 {p : Int32} (hn : n ≤ 12) : rOnR N p n ≠ -1 := by
  have e : rOnR N p n = itN (fun i s => s + (if (rHang N i && oF N i 3 == p) = true then 1 else 0)) (0 : Int32) n := itN_congr (fun i s hi => by
    cases rHang N i with
    | true => simp [zb]
    | false => simp [zb])
  rw [e]
  exact it_n1 _ n hn
theorem bu_n1 (hn : n ≤ 12) : rBuC N n ≠ -1 := by
  have e : rBuC N n = itN (fun i s => s + (if rBurnt N i = true then 1 else 0)) (0 : Int32) n := itN_congr (fun i s hi => by
    cases rBurnt N i with
    | true => simp [zb]
    | false => simp [zb])
  rw [e]
  exact it_n1 _ n hn
/-- the end of a change that isn't refused -/
theorem CH_ok {M N K : MM} {c n' : Nat} {a b : Int32 × MM} (eK : K = kpR N 465 c) (h1 : a.1 = b.1) (h2 : b.1 ≠ -1) (h3 : ∀ x, (x = 0 ∨ 42 ≤ x) → a.2 x = M x) (h4 : ∀ x y, x ≠ 465 → b.2 x y = K x y) (h5 : HR a.2 1 n' (b.2 465)) (h6 : IV (b.2 465) n') : CH M N c a b :=
  Or.inr ⟨h1, by rw [h1]; exact h2, h3, fun x y hx => by rw [← eK]; exact h4 x y hx, n', h5, h6⟩
theorem CH_no {M N : MM} {c : Nat} {u v : Int32} (hu : u ≠ 0) : CH M N c (-1, ksR M u v) (0, rfM N u v) := Or.inl ⟨u, v, hu, rfl, rfl⟩
theorem pl_gt {g : Nat → Int32} (h : fOK g) (e : ¬ g 2 = 0) : 0 < g 2 := by
  rcases ok_2 h with z | z | z
  · exact absurd z e
  · rw [z]; decide
  · rw [z]; decide
theorem sa_n1 {g : Nat → Int32} (h : fOK g) : g 1 ≠ -1 := by
  obtain ⟨a, h1, h2⟩ := h.2.1
  rw [h2]; exact nI_nm1 (by omega)
theorem c_Bri (h : HR M 1 n (N 465)) (hI : IV (N 465) n) {x : Int32} : CH M N c (wBri M n x) (tBri N n c x) := by
  have hn := hI.2.1
  have hg := hr_g h hI
  unfold wBri tBri
  rw [has_in hg hn]
  by_cases c1 : zb (inB x 0 (nI n - 1)) = 0
  · rw [if_pos (zb_0.mp c1), if_pos c1, hg]
    exact CH_no (by decide)
  rw [if_neg (fun z => c1 (zb_0.mpr z)), if_neg c1]
  obtain ⟨k, hk, rfl⟩ := inB_k hn c1
  simp only [fx, nI_cl (show k < 2000 by omega)]
  rw [hr_2 h hk]
  have ok := iv_k hI hk
  by_cases e : oF N k 2 = 0
  · rw [if_pos e, if_neg (by rw [e]; decide)]
    have h' : HR M 1 n (kpR N 465 c 465) := by rw [kp_465]; exact h
    have hI' : IV (kpR N 465 c 465) n := by rw [kp_465]; exact hI
    obtain ⟨K, eK⟩ : ∃ K, K = kpR N 465 c := ⟨_, rfl⟩
    rw [← eK] at h' hI' ⊢
    have oK : ∀ i w, oF K i w = oF N i w := fun i w => by rw [eK]; exact oF_kp
    have hN : ∀ y, (y < 8 + 11 * k ∨ 8 + 11 * k + 11 ≤ y) → mst K 465 (8 + 11 * k + 2) 1 465 y = K 465 y := fun y hy => mst_ne (Or.inr (by omega))
    have o3 := ok_3 ok (by rw [e]; decide)
    have g : ∀ w, w < 11 → oF (mst K 465 (8 + 11 * k + 2) 1) k w = if w = 2 then 1 else oF N k w := fun w hw => by rw [oF_st (by omega) hw, oK]; simp
    have hR : HR (mvT M (6 + 3 * k) 1 (-1) (-1)) 1 n (mst K 465 (8 + 11 * k + 2) 1 465) := HR_upd h' hk (fun x h1 _ _ => mv_ne h1) hN (fun w hw => by
      rw [fW_mv, g w hw, hr_w h' hk hw, oK]
      by_cases w2 : w = 2
      · rw [if_pos w2, if_pos w2]
      rw [if_neg w2, if_neg w2]
      by_cases w3 : w = 3
      · rw [if_pos w3, w3]; exact o3.1.symm
      rw [if_neg w3]
      by_cases w4 : w = 4
      · rw [if_pos w4, w4]; exact o3.2.1.symm
      rw [if_neg w4]
      by_cases w6 : w = 6
      · rw [if_pos w6, w6]; exact o3.2.2.symm
      rw [if_neg w6])
    have hI2 : IV (mst K 465 (8 + 11 * k + 2) 1 465) n := IV_upd hI' hN (fOK_eq g ⟨ok.1, ok.2.1, Or.inr ⟨Or.inr rfl, o3⟩, ok.2.2.2⟩)
    exact CH_ok eK (e_in hR) (many_n1 hn) (fun x hx => mv_ne (by omega)) (fun x y hx => mst_ne1 hx) hR hI2
  · rw [if_neg e, if_pos (pl_gt ok e)]
    exact CH_no (by decide)
theorem c_Out (h : HR M 1 n (N 465)) (hI : IV (N 465) n) {x : Int32} : CH M N c (wOut M x) (tOut N n c x) := by
  have hn := hI.2.1
  have hg := hr_g h hI
  unfold wOut tOut
  rw [has_in hg hn]
  by_cases c1 : zb (inB x 0 (nI n - 1)) = 0
  · rw [if_pos (zb_0.mp c1), if_pos c1, hg]
    exact CH_no (by decide)
  rw [if_neg (fun z => c1 (zb_0.mpr z)), if_neg c1]
  obtain ⟨k, hk, rfl⟩ := inB_k hn c1
  simp only [fx, nI_cl (show k < 2000 by omega)]
  rw [hr_2 h hk]
  have ok := iv_k hI hk
  by_cases e : oF N k 2 = 0
  · rw [if_pos e, if_pos e]
    exact CH_no (by decide)
  · rw [if_neg e, if_neg e]
    have h' : HR M 1 n (kpR N 465 c 465) := by rw [kp_465]; exact h
    have hI' : IV (kpR N 465 c 465) n := by rw [kp_465]; exact hI
    obtain ⟨K, eK⟩ : ∃ K, K = kpR N 465 c := ⟨_, rfl⟩
    rw [← eK] at h' hI' ⊢
    have oK : ∀ i w, oF K i w = oF N i w := fun i w => by rw [eK]; exact oF_kp
    obtain ⟨N', eN⟩ : ∃ N', N' = mst (mst (mst (mst K 465 (8 + 11 * k + 2) 0) 465 (8 + 11 * k + 3) (-1)) 465 (8 + 11 * k + 4) (-1)) 465 (8 + 11 * k + 6) 0 := ⟨_, rfl⟩
    rw [← eN]
    have hN : ∀ y, (y < 8 + 11 * k ∨ 8 + 11 * k + 11 ≤ y) → N' 465 y = K 465 y := fun y hy => by rw [eN, mst_ne (Or.inr (by omega)), mst_ne (Or.inr (by omega)), mst_ne (Or.inr (by omega)), mst_ne (Or.inr (by omega))]
    have g : ∀ w, w < 11 → oF N' k w = if w = 6 then 0 else if w = 4 then -1 else if w = 3 then -1 else if w = 2 then 0 else oF N k w := fun w hw => by rw [eN, oF_st (by omega) hw, oF_st (by omega) hw, oF_st (by omega) hw, oF_st (by omega) hw, oK]; simp
    have hR : HR (mvT M (6 + 3 * k) 0 (-1) (-1)) 1 n (N' 465) := HR_upd h' hk (fun x h1 _ _ => mv_ne h1) hN (fun w hw => by
      rw [fW_mv, g w hw, hr_w h' hk hw, oK]
      match w with
      | 0 | 1 | 2 | 3 | 4 | 5 | 6 | 7 | 8 | 9 | _ + 10 => simp)
    have hI2 : IV (N' 465) n := IV_upd hI' hN (fOK_eq g ⟨ok.1, ok.2.1, Or.inr ⟨Or.inl rfl, rfl, rfl, rfl⟩, ok.2.2.2.1, Or.inl rfl, ok.2.2.2.2.2⟩)
    have e1 : oF N' k 1 = oF N k 1 := g 1 (by omega)
    exact CH_ok eK ((hr_1 h hk).trans e1.symm) (by show oF N' k 1 ≠ -1; rw [e1]; exact sa_n1 ok) (fun x hx => mv_ne (by omega)) (fun x y hx => by show N' x y = K x y; rw [eN, mst_ne1 hx, mst_ne1 hx, mst_ne1 hx, mst_ne1 hx]) hR hI2
theorem findN_n1 {p : Nat → Bool} {j : Nat} (hj : j ≤ 12) : (findN p j 0 = -1) ↔ findN p j 0 < 0 := by
  rcases findN_spec p j 0 with ⟨e, _⟩ | ⟨k, _, hk, e, _⟩
  · rw [e]; decide
  · rw [e]; exact ⟨fun z => absurd z (nI_nm1 (by omega)), fun z => absurd z (nI_pos (by omega))⟩
theorem ra_k {p q : Int32} (h : ¬ zb (inB p 0 3 && inB q 0 9) = 0) : ∃ a b, a < 4 ∧ b < 10 ∧ p = nI a ∧ q = nI b := by
  have h1 : (inB p 0 3 && inB q 0 9) = true := zb_n0.mp h
  obtain ⟨h2, h3⟩ := Bool.and_eq_true_iff.mp h1
  obtain ⟨a, ha, e1⟩ := inB_8 (b := 3) (by omega) (x := p) (by rw [zb_n0]; exact h2)
  obtain ⟨b, hb, e2⟩ := inB_8 (b := 9) (by omega) (x := q) (by rw [zb_n0]; exact h3)
  exact ⟨a, b, ha, hb, e1, e2⟩
theorem c_Han (h : HR M 1 n (N 465)) (hI : IV (N 465) n) {x p q : Int32} : CH M N c (wHan M n x p q) (tHan N n c x p q) := by
  have hn := hI.2.1
  have hg := hr_g h hI
  unfold wHan tHan
  rw [has_in hg hn, inR_in (j := 3) (by omega) (show (4 : Int32) = nI 4 by decide), inR_in (j := 9) (by omega) (show (10 : Int32) = nI 10 by decide), show nI 3 = 3 from rfl, show nI 9 = 9 from rfl]
  by_cases c0 : zb (inB p 0 3 && inB q 0 9) = 0
  · rw [if_pos c0, if_pos (by have := zb_0.mp c0; rcases Bool.and_eq_false_iff.mp this with z | z; exact Or.inl z; exact Or.inr z)]
    exact CH_no (by decide)
  rw [if_neg c0, if_neg (by have := zb_n0.mp c0; have := Bool.and_eq_true_iff.mp this; intro z; rcases z with z | z; rw [this.1] at z; cases z; rw [this.2] at z; cases z)]
  by_cases c1 : zb (inB x 0 (nI n - 1)) = 0
  · rw [if_pos (zb_0.mp c1), if_pos c1, hg]
    exact CH_no (by decide)
  rw [if_neg (fun z => c1 (zb_0.mpr z)), if_neg c1]
  obtain ⟨k, hk, rfl⟩ := inB_k hn c1
  obtain ⟨a, b, ha, hb, rfl, rfl⟩ := ra_k c0
  simp only [fx, nI_cl (show k < 2000 by omega)]
  rw [hr_2 h hk, e_on h hI ha]
  have ok := iv_k hI hk
  by_cases e : oF N k 2 = 0
  · have g0 : ¬ 0 < oF N k 2 := by rw [e]; decide
    rw [if_pos e, if_neg g0]
    by_cases c2 : rOn N (nI a) (nI b) n < 0
    · have c3 : rOn N (nI a) (nI b) n = -1 := (findN_n1 hn).mpr c2
      rw [if_pos c2, if_pos c3]
      have h' : HR M 1 n (kpR N 465 c 465) := by rw [kp_465]; exact h
      have hI' : IV (kpR N 465 c 465) n := by rw [kp_465]; exact hI
      obtain ⟨K, eK⟩ : ∃ K, K = kpR N 465 c := ⟨_, rfl⟩
      rw [← eK] at h' hI' ⊢
      have oK : ∀ i w, oF K i w = oF N i w := fun i w => by rw [eK]; exact oF_kp
      obtain ⟨N', eN⟩ : ∃ N', N' = mst (mst (mst K 465 (8 + 11 * k + 2) 2) 465 (8 + 11 * k + 3) (nI a)) 465 (8 + 11 * k + 4) (nI b) := ⟨_, rfl⟩
      rw [← eN]
      have hN : ∀ y, (y < 8 + 11 * k ∨ 8 + 11 * k + 11 ≤ y) → N' 465 y = K 465 y := fun y hy => by rw [eN, mst_ne (Or.inr (by omega)), mst_ne (Or.inr (by omega)), mst_ne (Or.inr (by omega))]
      have g : ∀ w, w < 11 → oF N' k w = if w = 4 then nI b else if w = 3 then nI a else if w = 2 then 2 else oF N k w := fun w hw => by rw [eN, oF_st (by omega) hw, oF_st (by omega) hw, oF_st (by omega) hw, oK]; simp
      have o3 := ok_3 ok (by rw [e]; decide)
      have hR : HR (mvT M (6 + 3 * k) 2 (nI a) (nI b)) 1 n (N' 465) := HR_upd h' hk (fun x h1 _ _ => mv_ne h1) hN (fun w hw => by
        rw [fW_mv, g w hw, hr_w h' hk hw, oK]
        match w with
        | 0 | 1 | 2 | 3 | 4 | 5 | 7 | 8 | 9 | _ + 10 => simp
        | 6 => simp; exact o3.2.2.symm)
      have hI2 : IV (N' 465) n := IV_upd hI' hN (fOK_eq g ⟨ok.1, ok.2.1, Or.inl ⟨rfl, a, b, ha, hb, rfl, rfl⟩, ok.2.2.2⟩)
      exact CH_ok eK (e_rk hR hI2 ha) (onr_n1 hn) (fun x hx => mv_ne (by omega)) (fun x y hx => by show N' x y = K x y; rw [eN, mst_ne1 hx, mst_ne1 hx, mst_ne1 hx]) hR hI2
    · have c3 : ¬ rOn N (nI a) (nI b) n = -1 := fun z => c2 ((findN_n1 hn).mp z)
      rw [if_neg c2, if_neg c3]
      exact CH_no (by decide)
  · rw [if_neg e, if_pos (pl_gt ok e)]
    exact CH_no (by decide)
theorem dn_01 {g : Int32} (h : g = 0 ∨ g = 1) : (1 - g = 0 ∨ 1 - g = 1) ∧ 1 - g ≠ -1 := by rcases h with rfl | rfl <;> decide
theorem fl_ok {g g' : Nat → Int32} (h : ∀ w, w < 11 → g' w = if w = 6 then 1 else if w = 5 then 1 - g 5 else g w) (h2 : g 2 = 2) (o : fOK g) : fOK g' := by
  refine fOK_eq h ⟨o.1, o.2.1, ?_, (dn_01 o.2.2.2.1).1, Or.inr rfl, o.2.2.2.2.2⟩
  rcases o.2.2.1 with z | z
  · exact Or.inl z
  · rcases z.1 with z | z <;> exact absurd (z.symm.trans h2) (by decide)
/-- a fish turned -/
theorem tu_step {K : MM} (h : HR M 1 n (K 465)) (hI : IV (K 465) n) (hk : k < n) (h2 : oF K k 2 = 2) : HR (flp M (6 + 3 * k)) 1 n (rTu K k 465) ∧ IV (rTu K k 465) n ∧ oF (rTu K k) k 5 = 1 - oF K k 5 := by
  have hN : ∀ y, (y < 8 + 11 * k ∨ 8 + 11 * k + 11 ≤ y) → rTu K k 465 y = K 465 y := fun y hy => by rw [rTu, mst_ne (Or.inr (by omega)), mst_ne (Or.inr (by omega))]
  have g : ∀ w, w < 11 → oF (rTu K k) k w = if w = 6 then 1 else if w = 5 then 1 - oF K k 5 else oF K k w := fun w hw => by rw [rTu, oF_st (by omega) hw, oF_st (by omega) hw]; simp
  refine ⟨HR_upd h hk (fun x h1 _ _ => fl_ne9 h1) hN (fun w hw => ?_), IV_upd hI hN (fl_ok g h2 (iv_k hI hk)), g 5 (by omega)⟩
  rw [fW_fl, g w hw, hr_w h hk hw, hr_5 h hk]
  match w with
  | 0 | 1 | 2 | 3 | 4 | 5 | 6 | 7 | 8 | 9 | _ + 10 => simp
theorem c_Tur (h : HR M 1 n (N 465)) (hI : IV (N 465) n) {x : Int32} : CH M N c (wTur M x) (tTur N n c x) := by
  have hn := hI.2.1
  have hg := hr_g h hI
  unfold wTur tTur
  rw [has_in hg hn]
  by_cases c1 : zb (inB x 0 (nI n - 1)) = 0
  · rw [if_pos (zb_0.mp c1), if_pos c1, hg]
    exact CH_no (by decide)
  rw [if_neg (fun z => c1 (zb_0.mpr z)), if_neg c1]
  obtain ⟨k, hk, rfl⟩ := inB_k hn c1
  simp only [fx, nI_cl (show k < 2000 by omega)]
  rw [hr_2 h hk, hr_5 h hk]
  have ok := iv_k hI hk
  unfold rHang
  by_cases e : oF N k 2 = 2
  · rw [if_pos e, beq_iff_eq.mpr e, if_neg (show ¬ zb true = 0 by decide)]
    have h' : HR M 1 n (kpR N 465 c 465) := by rw [kp_465]; exact h
    have hI' : IV (kpR N 465 c 465) n := by rw [kp_465]; exact hI
    obtain ⟨K, eK⟩ : ∃ K, K = kpR N 465 c := ⟨_, rfl⟩
    rw [← eK] at h' hI' ⊢
    have oK : ∀ i w, oF K i w = oF N i w := fun i w => by rw [eK]; exact oF_kp
    obtain ⟨s1, s2, s3⟩ := tu_step h' hI' hk ((oK k 2).trans e)
    rw [oK] at s3
    exact CH_ok eK s3.symm (by show oF (rTu K k) k 5 ≠ -1; rw [s3]; exact (dn_01 ok.2.2.2.1).2) (fun x hx => fl_ne9 (by omega)) (fun x y hx => rTuX_fr hx) s1 s2
  · rw [if_neg e, beq_eq_false_iff_ne.mpr e, if_pos (show zb false = 0 from rfl)]
    exact CH_no (by decide)
theorem turR_s {p : Int32} {i : Nat} : turR M p (i + 1) = if turR M p i (6 + 3 * i) 5 = p then flp (turR M p i) (6 + 3 * i) else turR M p i := rfl
theorem raR_s {p : Int32} {i : Nat} : raR N p (i + 1) = if zb (rHang (raR N p i) i) = 0 then raR N p i else if oF (raR N p i) i 3 = p then rTu (raR N p i) i else raR N p i := rfl
theorem c_Trk (h : HR M 1 n (N 465)) (hI : IV (N 465) n) {p : Int32} : CH M N c (wTrk M n p) (tTrk N n c p) := by
  have hn := hI.2.1
  unfold wTrk tTrk
  rw [inR_in (j := 3) (by omega) (show (4 : Int32) = nI 4 by decide), show nI 3 = 3 from rfl]
  by_cases c1 : zb (inB p 0 3) = 0
  · rw [if_pos (zb_0.mp c1), if_pos c1]
    exact CH_no (by decide)
  rw [if_neg (fun z => c1 (zb_0.mpr z)), if_neg c1]
  obtain ⟨a, ha, rfl⟩ := inB_8 (b := 3) (by omega) c1
  rw [e_rk h hI ha]
  by_cases c2 : rOnR N (nI a) n = 0
  · rw [if_pos c2, if_pos c2]
    exact CH_no (by decide)
  rw [if_neg c2, if_neg c2]
  have h' : HR M 1 n (kpR N 465 c 465) := by rw [kp_465]; exact h
  have hI' : IV (kpR N 465 c 465) n := by rw [kp_465]; exact hI
  obtain ⟨K, eK⟩ : ∃ K, K = kpR N 465 c := ⟨_, rfl⟩
  rw [← eK] at h' hI' ⊢
  have key : ∀ m, m ≤ n → HR (turR M (nI a) m) 1 n (raR K (nI a) m 465) ∧ IV (raR K (nI a) m 465) n := by
    intro m
    induction m with
    | zero => intro _; exact ⟨h', hI'⟩
    | succ m ih =>
      intro hm
      obtain ⟨i1, i2⟩ := ih (by omega)
      have hi : m < n := by omega
      rw [turR_s, raR_s, hr_3 i1 hi]
      have ok := iv_k i2 hi
      unfold rHang
      by_cases e : oF (raR K (nI a) m) m 2 = 2
      · rw [beq_iff_eq.mpr e, if_neg (show ¬ zb true = 0 by decide)]
        by_cases e3 : oF (raR K (nI a) m) m 3 = nI a
        · rw [if_pos e3, if_pos e3]
          obtain ⟨s1, s2, _⟩ := tu_step i1 i2 hi e
          exact ⟨s1, s2⟩
        · rw [if_neg e3, if_neg e3]; exact ⟨i1, i2⟩
      · rw [beq_eq_false_iff_ne.mpr e, if_pos (show zb false = 0 from rfl), (ok_3 ok e).1, if_neg (nI_m1 (by omega))]
        exact ⟨i1, i2⟩
  obtain ⟨s1, s2⟩ := key n (Nat.le_refl _)
  exact CH_ok eK rfl (onr_n1 hn) (fun x hx => turR_fr n (by omega)) (fun x y hx => raR_fr (Or.inl hx) n) s1 s2
end P39
