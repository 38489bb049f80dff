section P50
variable {M M' N M1 : MM} {n k c L : Nat} {p : Nat → Nat} {t : Nat → Int32}
theorem cmA_fr {a k : Nat} (h : a ≠ 460 ∨ k < 2 ∨ 8 < k) : cmA t L M a k = M a k := by rw [cmA, mst_ne (by omega), ffM_fr (by omega), mst_ne (by omega)]
theorem cmA_fn {a : Nat} (h : a ≠ 460) : cmA t L M a = M a := funext fun _ => cmA_fr (Or.inl h)
theorem rcX_fr {a k : Nat} (h1 : a ≠ 472) (h2 : a ≠ 464 ∨ (k ≠ 18 ∧ k ≠ 20)) : (rcX t L M).2.2 a k = M a k := by
  unfold rcX
  rw [txR_fr h1 h2, mst_ne (by omega), mst_ne (by omega)]
/-- where the reference's loop begins -/
theorem rcB_fr {a k : Nat} (h1 : a ≠ 472) (h2 : a ≠ 468) (h3 : a ≠ 464 ∨ (k ≠ 18 ∧ k ≠ 20 ∧ k ≠ 15 ∧ k ≠ 14 ∧ k ≠ 9 ∧ k ≠ 7 ∧ k ≠ 8)) : rcB t L M a k = M a k := by
  rw [rcB, mst_ne (by omega), mst_ne (by omega), cpR_ne h2, mst_ne (by omega), mst_ne (by omega), mst_ne (by omega)]
  exact rcX_fr h1 (by omega)
theorem rcB_472 {k : Nat} : rcB t L M 472 k = (rcX t L M).2.2 472 k := by
  rw [rcB, mst_ne1 (by decide), mst_ne1 (by decide), cpR_ne (by decide), mst_ne1 (by decide), mst_ne1 (by decide), mst_ne1 (by decide)]
theorem rcB_468 {k : Nat} (hk : k < 140) : rcB t L M 468 k = M 465 k := by
  rw [rcB, mst_ne1 (by decide), mst_ne1 (by decide), cpR, if_pos (by omega), mst_ne1 (by decide), mst_ne1 (by decide), mst_ne1 (by decide), show 0 + (k - 0) = k by omega]
  exact rcX_fr (by decide) (Or.inl (by decide))
theorem rcB_k : rcB t L M 464 7 = 1 ∧ rcB t L M 464 8 = 0 ∧ rcB t L M 464 9 = 0 ∧ rcB t L M 464 15 = -1 ∧ rcB t L M 464 14 = 0 := by
  refine ⟨?_, mst_eq _ _ _ _, ?_, ?_, ?_⟩
  · rw [rcB, mst_ne2 (by decide), mst_eq]
  · rw [rcB, mst_ne2 (by decide), mst_ne2 (by decide), cpR_ne (by decide), mst_eq]
  · rw [rcB, mst_ne2 (by decide), mst_ne2 (by decide), cpR_ne (by decide), mst_ne2 (by decide), mst_ne2 (by decide), mst_eq]
  · rw [rcB, mst_ne2 (by decide), mst_ne2 (by decide), cpR_ne (by decide), mst_ne2 (by decide), mst_eq]
theorem cmF_fn {x : Nat} (h : x ≠ 454) (h2 : x ≠ 460) : cmF M x = M x := by rw [cmF, mst_fn h2, mst_fn h]
/-- a text of commands, of the class and of the reference -/
theorem rel_cm (h : REL M p) (h1 : HR M 1 n (M 465)) (hI : IV (M 465) n) (hc : rlK M p c) (ht : M 461 = t) (hL60 : L ≤ 60) (hL : M 460 1 = nI L) (hL' : M 464 14 = nI L) :
    (¬ cmA t L M 460 2 = -1 ∧ (rcZ t L (mst (cmA t L M) 460 1 0)).2 464 9 = 1 ∧ REL (rcZ t L (mst (cmA t L M) 460 1 0)).2 p) ∨
    (cmA t L M 460 2 = -1 ∧ ∃ tm, tm ≤ 60 ∧ (cmA t L M 460 3).toNatClampNeg = tm ∧
      (((cmR t L tm 0 (0, cmB t L n M)).1 = -1 ∧ (rcZ t L (hcp (cmF (cmR t L tm 0 (0, cmB t L n M)).2) 1 42 n)).2 464 9 = 2 ∧ REL (rcZ t L (hcp (cmF (cmR t L tm 0 (0, cmB t L n M)).2) 1 42 n)).2 p) ∨
       ((cmR t L tm 0 (0, cmB t L n M)).1 ≠ -1 ∧ (rcZ t L (keepM (cmF (cmR t L tm 0 (0, cmB t L n M)).2) p n)).1 = nI tm ∧ (rcZ t L (keepM (cmF (cmR t L tm 0 (0, cmB t L n M)).2) p n)).2 464 9 = 0 ∧ REL (rcZ t L (keepM (cmF (cmR t L tm 0 (0, cmB t L n M)).2) p n)).2 (rotR p)))) := by
  have hn := hI.2.1
  obtain ⟨hP, -, -, hS, hR, hT, hLn⟩ := h
  have e2 : cmA t L M 460 2 = (ffM t L 60 (0 + 1) 0 (mst M 460 4 0)).1 := mst_eq _ _ _ _
  have e3 : cmA t L M 460 3 = (ffM t L 60 (0 + 1) 0 (mst M 460 4 0)).2 460 3 := mst_ne2 (by decide)
  -- the two readings, whatever the reference's memory
  have rd := fun M1 : MM => tx_2 (t := t) hL60 31 0 0 60 (mst M 460 4 0) (mst (mst M1 464 18 0) 464 20 0) (by omega) (by omega) (by omega) (by omega) (by rw [mst_ne2 (by decide), mst_eq]; rfl)
  by_cases c0 : cmA t L M 460 2 = -1
  · refine Or.inr ⟨c0, ?_⟩
    rcases rd M with ⟨_, r2, r3, _⟩ | ⟨_, _, tm, _, r4, r5, _⟩
    · exact absurd (e2.symm.trans c0) (by rw [r2]; exact nI_nm1 (by omega))
    have etm : (cmA t L M 460 3).toNatClampNeg = tm := by rw [e3, r5]; exact nI_cl (by omega)
    refine ⟨tm, by omega, etm, ?_⟩
    -- the class's memory where its loop begins
    have B1 : ∀ x, (x < 42 ∨ 83 ≤ x) → x ≠ 460 → cmB t L n M x = M x := fun x hx h4 => by rw [cmB, mst_fn h4, hcp_out hn (by omega), cmA_fn h4]
    have hA42 : HR (cmA t L M) 1 n (M 465) := HR_fn (fun x x1 x2 => cmA_fn (by omega)) hn (fun _ _ => rfl) h1
    have B42 : HR (cmB t L n M) 42 n (M 465) := HR_fn (M := hcp (cmA t L M) 42 1 n) (fun x x1 x2 => by rw [cmB, mst_fn (by omega)]) hn (fun _ _ => rfl) (HR_hcp (by omega) hn hA42)
    have B460 : cmB t L n M 460 2 = -1 := by rw [cmB, mst_ne2 (by decide), hcp_out hn (by omega)]; exact c0
    obtain ⟨s, es⟩ : ∃ s, s = cmR t L tm 0 (0, cmB t L n M) := ⟨_, rfl⟩
    rw [← es]
    -- the loops, from a reference's memory that is M's beyond 464
    have lp : ∀ M1 : MM, (∀ x, 464 ≤ x → M1 x = M x) → zb (rcX t L M1).1 ≠ 0 ∧ (rcX t L M1).2.2 464 20 = nI tm ∧ frM (cmB t L n M) s.2 ∧ frN (rcB t L M1) (rcL tm 0 (0, rcB t L M1)).2 ∧ RF s.2 (rcL tm 0 (0, rcB t L M1)).2 ∧ ((s.1 = -1 ∧ (rcL tm 0 (0, rcB t L M1)).2 464 9 = 1 ∧ (rcL tm 0 (0, rcB t L M1)).1 = 0) ∨ (s.1 ≠ -1 ∧ (rcL tm 0 (0, rcB t L M1)).2 464 9 = 0 ∧ ∃ n', HR s.2 1 n' ((rcL tm 0 (0, rcB t L M1)).2 465) ∧ IV ((rcL tm 0 (0, rcB t L M1)).2 465) n')) := by
      intro M1 hM
      rcases rd M1 with ⟨_, r2, r3, _⟩ | ⟨x1, _, tm', _, x4, x5, x6, _, x8⟩
      · exact absurd (e2.symm.trans c0) (by rw [r2]; exact nI_nm1 (by omega))
      have et : tm' = tm := (nI_eq (by omega) (by omega)).mp (x5.symm.trans r5)
      subst et
      have row : ∀ y, rcB t L M1 465 y = M 465 y := fun y => by rw [rcB_fr (by decide) (by decide) (Or.inl (by decide)), hM 465 (by omega)]
      have z := cm_loop (t := t) (L := L) (tm := tm') tm' 0 0 0 (cmB t L n M) (rcB t L M1) n c (by omega) (by omega) (by decide)
        (HR_fn (fun x x1 x2 => B1 x (by omega) (by omega)) hn (fun y _ => row y) h1) (IV_eq (fun y _ => row y) hI)
        (fun i M0 hi => by
          have q := x8 i M0 (by omega)
          rw [Nat.zero_add] at q
          exact rgs_T (fun y _ _ => rcB_472) q)
        (RF_eq (fun k _ => by rw [B1 454 (by omega) (by omega)]) (fun y hy => by rw [rcB_fr (by decide) (by decide) (Or.inr (by omega)), hM 464 (by omega)]) hR.1)
        rcB_k.1 (rcB_k.2.1.trans rfl) rcB_k.2.2.1 hc.1 (by rw [rcB_fr (by decide) (by decide) (Or.inr (by omega)), hM 464 (by omega)]; exact hc.2.1)
      rw [← es] at z
      have xz : (rcX t L M1).1 = true := x1
      exact ⟨by rw [xz]; decide, x6, z⟩
    have sf : frM (cmB t L n M) s.2 := (lp M (fun _ _ => rfl)).2.2.1
    have s1 : ∀ x, x = 0 ∨ 83 ≤ x → x ≠ 454 → x ≠ 460 → s.2 x = M x := fun x hx h4 h6 => by rw [sf.1 x (by omega) h4 h6, B1 x (by omega) h6]
    have s42 : HR (cmF s.2) 42 n (M 465) := HR_fn (fun x x1 x2 => by rw [cmF_fn (by omega) (by omega), sf.1 x (by omega) (by omega) (by omega)]) hn (fun _ _ => rfl) B42
    have s460 : s.2 460 2 = -1 := (sf.2 2 (by omega)).trans B460
    by_cases cs : s.1 = -1
    · refine Or.inl ⟨cs, ?_⟩
      obtain ⟨M1, eM⟩ : ∃ M1, M1 = hcp (cmF s.2) 1 42 n := ⟨_, rfl⟩
      rw [← eM]
      have m1 : ∀ x, (x = 0 ∨ 42 ≤ x) → M1 x = cmF s.2 x := fun x hx => by rw [eM, hcp_out hn (by omega)]
      have m2 : ∀ x, (x = 0 ∨ 83 ≤ x) → x ≠ 454 → x ≠ 460 → M1 x = M x := fun x hx h4 h6 => by rw [m1 x (by omega), cmF_fn h4 h6, s1 x (by omega) h4 h6]
      obtain ⟨z1, z2, -, z4, z5, z6⟩ := lp M1 (fun x hx => m2 x (by omega) (by omega) (by omega))
      rcases z6 with ⟨-, u9, u0⟩ | ⟨ns, _⟩
      rotate_left
      · exact absurd cs ns
      unfold rcZ
      rw [if_neg z1, z2, nI_cl (show tm < 2000 by omega)]
      obtain ⟨u, eu⟩ : ∃ u, u = rcL tm 0 (0, rcB t L M1) := ⟨_, rfl⟩
      rw [← eu] at z4 z5 u9 u0 ⊢
      unfold rcE
      rw [if_pos (show 0 < u.2 464 9 by rw [u9]; decide)]
      obtain ⟨M2, e2'⟩ : ∃ M2, M2 = mst (cpR (mst u.2 464 7 0) 468 0 465 0 140) 464 9 2 := ⟨_, rfl⟩
      have q9 : M2 464 9 = 2 := by rw [e2']; exact mst_eq _ _ _ _
      show mst (cpR (mst u.2 464 7 0) 468 0 465 0 140) 464 9 2 464 9 = 2 ∧ REL (mst (cpR (mst u.2 464 7 0) 468 0 465 0 140) 464 9 2) p
      rw [← e2']
      have Kx : ∀ x, x ≠ 464 → x ≠ 465 → x ≠ 468 → x ≠ 472 → M2 x = M1 x := fun x g1 g2 g3 g4 => funext fun y => by rw [e2', mst_ne1 g1, cpR_ne g2, mst_ne1 g1, z4 x y g2 (Or.inl g1), rcB_fr g4 g3 (Or.inl g1)]
      have K4 : ∀ y, y ≠ 7 → y ≠ 8 → y ≠ 9 → y ≠ 10 → y ≠ 11 → y ≠ 12 → y ≠ 18 → y ≠ 20 → y ≠ 15 → y ≠ 14 → M2 464 y = M 464 y := fun y a b c d e f g h i j => by
        rw [e2', mst_ne2 c, cpR_ne (by decide), mst_ne2 a, z4 464 y (by decide) (Or.inr ⟨b, c, d, e, f⟩), rcB_fr (by decide) (by decide) (Or.inr (by omega)), m2 464 (by omega) (by omega) (by omega)]
      have row : ∀ y, y < 140 → M2 465 y = M 465 y := fun y hy => by
        rw [e2', mst_ne1 (by decide), cpR, if_pos (by omega), mst_ne1 (by decide), show 0 + (y - 0) = y by omega, z4 468 y (by decide) (Or.inl (by decide)), rcB_468 hy, m2 465 (by omega) (by omega) (by omega)]
      have k7 : M2 464 7 = 0 := by rw [e2', mst_ne2 (by decide), cpR_ne (by decide), mst_eq]
      have k454 : ∀ k, M2 454 k = cmF s.2 454 k := fun k => by rw [Kx 454 (by omega) (by omega) (by omega) (by omega), m1 454 (by omega)]
      have k460 : ∀ k, M2 460 k = cmF s.2 460 k := fun k => by rw [Kx 460 (by omega) (by omega) (by omega) (by omega), m1 460 (by omega)]
      have u15 : ∀ y, (y = 14 ∨ y = 15) → M2 464 y = rcB t L M1 464 y := fun y hy => by rw [e2', mst_ne2 (by omega), cpR_ne (by decide), mst_ne2 (by omega), z4 464 y (by decide) (Or.inr (by omega))]
      refine ⟨q9, hP, ⟨n, ?_, IV_eq row hI⟩, ⟨c, ?_⟩, ?_, ⟨?_, ?_, k7⟩, ⟨⟨0, by omega, ?_, ?_⟩, ?_, ?_, ?_⟩, ?_⟩
      · exact HR_fn (M := hcp (cmF s.2) 1 42 n) (fun x x1 x2 => by rw [Kx x (by omega) (by omega) (by omega) (by omega), eM]) hn row (HR_hcp (by omega) hn s42)
      · exact rlK_eq hP.1 (fun x x1 x2 => by rw [Kx x (by omega) (by omega) (by omega) (by omega), m2 x (by omega) (by omega) (by omega)]) (by rw [Kx 124 (by omega) (by omega) (by omega) (by omega), m2 124 (by omega) (by omega) (by omega)]) (K4 6 (by omega) (by omega) (by omega) (by omega) (by omega) (by omega) (by omega) (by omega) (by omega) (by omega)) (by rw [Kx 466 (by omega) (by omega) (by omega) (by omega), m2 466 (by omega) (by omega) (by omega)]) hc
      · exact rlS_eq (by rw [Kx 0 (by omega) (by omega) (by omega) (by omega), m2 0 (by omega) (by omega) (by omega)]) (K4 5 (by omega) (by omega) (by omega) (by omega) (by omega) (by omega) (by omega) (by omega) (by omega) (by omega)) (fun x x1 x2 => by rw [Kx x (by omega) (by omega) (by omega) (by omega), m2 x (by omega) (by omega) (by omega)]) (by rw [Kx 467 (by omega) (by omega) (by omega) (by omega), m2 467 (by omega) (by omega) (by omega)]) hS
      · refine RF_eq (M := s.2) (N := u.2) (fun k hk => ?_) (fun y hy => ?_) z5
        · rw [k454, cmF, mst_ne1 (by decide), mst_ne2 hk]
        · rw [e2', mst_ne2 (by omega), cpR_ne (by decide), mst_ne2 (by omega)]
      · rw [k454, cmF, mst_ne1 (by decide), mst_eq]
      · rw [k460, cmF, mst_eq]; rfl
      · rw [u15 14 (by omega)]; exact rcB_k.2.2.2.2
      · rw [Kx 461 (by omega) (by omega) (by omega) (by omega), m2 461 (by omega) (by omega) (by omega)]; exact hT.2.1
      · rw [Kx 461 (by omega) (by omega) (by omega) (by omega), m2 461 (by omega) (by omega) (by omega), Kx 470 (by omega) (by omega) (by omega) (by omega), m2 470 (by omega) (by omega) (by omega)]; exact hT.2.2.1
      · rw [k460, cmF, mst_ne2 (by decide), mst_ne1 (by decide), s460, u15 15 (by omega)]; exact rcB_k.2.2.2.1.symm
      · exact rlL_eq (by rw [Kx 462 (by omega) (by omega) (by omega) (by omega), m2 462 (by omega) (by omega) (by omega)]) (K4 17 (by omega) (by omega) (by omega) (by omega) (by omega) (by omega) (by omega) (by omega) (by omega) (by omega)) (by rw [Kx 463 (by omega) (by omega) (by omega) (by omega), m2 463 (by omega) (by omega) (by omega)]) (by rw [Kx 471 (by omega) (by omega) (by omega) (by omega), m2 471 (by omega) (by omega) (by omega)]) hLn
    · refine Or.inr ⟨cs, ?_⟩
      obtain ⟨M1, eM⟩ : ∃ M1, M1 = keepM (cmF s.2) p n := ⟨_, rfl⟩
      rw [← eM]
      have m1 : ∀ x, x ≠ 124 → (x < 126 ∨ 454 ≤ x) → M1 x = cmF s.2 x := fun x hx h2 => by rw [eM]; exact keep_fn hP hn hx h2
      have m2 : ∀ x, x ≠ 124 → (x = 0 ∨ (83 ≤ x ∧ x < 126) ∨ 454 ≤ x) → x ≠ 454 → x ≠ 460 → M1 x = M x := fun x h1 hx h4 h6 => by rw [m1 x h1 (by omega), cmF_fn h4 h6, s1 x (by omega) h4 h6]
      obtain ⟨z1, z2, -, z4, z5, z6⟩ := lp M1 (fun x hx => m2 x (by omega) (by omega) (by omega) (by omega))
      rcases z6 with ⟨ns, _⟩ | ⟨-, u9, n', u1, u2⟩
      · exact absurd ns cs
      unfold rcZ
      rw [if_neg z1, z2, nI_cl (show tm < 2000 by omega)]
      obtain ⟨u, eu⟩ : ∃ u, u = rcL tm 0 (0, rcB t L M1) := ⟨_, rfl⟩
      rw [← eu] at z4 z5 u9 u1 u2 ⊢
      unfold rcE
      rw [if_neg (show ¬ 0 < u.2 464 9 by rw [u9]; decide)]
      have u6 : u.2 464 6 = nI c := by rw [z4 464 6 (by decide) (Or.inr (by omega)), rcB_fr (by decide) (by decide) (Or.inr (by omega)), m2 464 (by omega) (by omega) (by omega) (by omega)]; exact hc.2.1
      rw [u6, nI_cl (show c < 2000 by have := hc.1; omega)]
      obtain ⟨U, eU⟩ : ∃ U, U = mst u.2 464 7 0 := ⟨_, rfl⟩
      rw [← eU]
      have U7 : U 464 7 = 0 := by rw [eU, mst_eq]
      obtain ⟨q1, q2, q3, q4⟩ := kp_row (N := U) (a := 468) ⟨by decide, by decide⟩ hc.1 U7
      refine ⟨rfl, q2, ?_⟩
      obtain ⟨M2, e2'⟩ : ∃ M2, M2 = kpR U 468 c := ⟨_, rfl⟩
      show REL (kpR U 468 c) (rotR p)
      rw [← e2']
      have Ux : ∀ x, x ≠ 464 → x ≠ 465 → x ≠ 468 → x ≠ 472 → U x = M1 x := fun x g1 g2 g3 g4 => funext fun y => by rw [eU, mst_ne1 g1, z4 x y g2 (Or.inl g1), rcB_fr g4 g3 (Or.inl g1)]
      have Kx : ∀ x, x ≠ 464 → x ≠ 465 → x ≠ 468 → x ≠ 472 → x ≠ 466 → M2 x = M1 x := fun x g1 g2 g3 g4 g5 => by
        rw [← Ux x g1 g2 g3 g4]
        funext y
        rw [e2']
        exact kpR_fr g5 (Or.inl g1)
      have KU : ∀ y, y ≠ 6 → y ≠ 9 → M2 464 y = U 464 y := fun y a b => by rw [e2']; exact kpR_fr (by decide) (Or.inr ⟨b, a⟩)
      have K4 : ∀ y, y ≠ 6 → y ≠ 7 → y ≠ 8 → y ≠ 9 → y ≠ 10 → y ≠ 11 → y ≠ 12 → y ≠ 18 → y ≠ 20 → y ≠ 15 → y ≠ 14 → M2 464 y = M 464 y := fun y o a b c d e f g h i j => by
        rw [KU y o c, eU, mst_ne2 a, z4 464 y (by decide) (Or.inr ⟨b, c, d, e, f⟩), rcB_fr (by decide) (by decide) (Or.inr (by omega)), m2 464 (by omega) (by omega) (by omega) (by omega)]
      have row : ∀ y, M2 465 y = u.2 465 y := fun y => by rw [e2', kpR_fr (by decide) (Or.inl (by decide)), eU, mst_ne1 (by decide)]
      have k454 : ∀ k, M2 454 k = cmF s.2 454 k := fun k => by rw [Kx 454 (by omega) (by omega) (by omega) (by omega) (by omega), m1 454 (by omega) (by omega)]
      have k460 : ∀ k, M2 460 k = cmF s.2 460 k := fun k => by rw [Kx 460 (by omega) (by omega) (by omega) (by omega) (by omega), m1 460 (by omega) (by omega)]
      have u15 : ∀ y, (y = 14 ∨ y = 15) → M2 464 y = rcB t L M1 464 y := fun y hy => by rw [KU y (by omega) (by omega), eU, mst_ne2 (by omega), z4 464 y (by decide) (Or.inr (by omega))]
      refine ⟨rotR_P hP, ⟨n', ?_, IV_eq (fun y _ => row y) u2⟩, ⟨(if c = 8 then 7 else c) + 1, ?_⟩, ?_, ⟨?_, ?_, ?_⟩, ⟨⟨0, by omega, ?_, ?_⟩, ?_, ?_, ?_⟩, ?_⟩
      · exact HR_fn (M := s.2) (fun x x1 x2 => by rw [Kx x (by omega) (by omega) (by omega) (by omega) (by omega), m1 x (by omega) (by omega), cmF_fn (by omega) (by omega)]) u2.2.1 (fun y _ => row y) u1
      · exact rlK_keep (a := 468) (A := cmF s.2) (U := U) (f := M 465) (n := n) hP hc (fun x hx => by rw [cmF_fn (by omega) (by omega), s1 x (by omega) (by omega) (by omega)]) s42 hn hI ⟨by decide, by decide⟩ (by rw [Ux 466 (by omega) (by omega) (by omega) (by omega), m2 466 (by omega) (by omega) (by omega) (by omega)]) U7
          (fun y hy => by rw [eU, mst_ne1 (by decide), z4 468 y (by decide) (Or.inl (by decide)), rcB_468 hy, m2 465 (by omega) (by omega) (by omega) (by omega)]) (fun x hx => by rw [Kx x (by omega) (by omega) (by omega) (by omega) (by omega), eM]) (fun y => by rw [e2']) (by rw [e2'])
      · exact rlS_eq (by rw [Kx 0 (by omega) (by omega) (by omega) (by omega) (by omega), m2 0 (by omega) (by omega) (by omega) (by omega)]) (K4 5 (by omega) (by omega) (by omega) (by omega) (by omega) (by omega) (by omega) (by omega) (by omega) (by omega) (by omega)) (fun x x1 x2 => by rw [Kx x (by omega) (by omega) (by omega) (by omega) (by omega), m2 x (by omega) (by omega) (by omega) (by omega)]) (by rw [Kx 467 (by omega) (by omega) (by omega) (by omega) (by omega), m2 467 (by omega) (by omega) (by omega) (by omega)]) hS
      · refine RF_eq (M := s.2) (N := u.2) (fun k hk => ?_) (fun y hy => ?_) z5
        · rw [k454, cmF, mst_ne1 (by decide), mst_ne2 hk]
        · rw [KU y (by omega) (by omega), eU, mst_ne2 (by omega)]
      · rw [k454, cmF, mst_ne1 (by decide), mst_eq]
      · rw [KU 7 (by omega) (by omega)]; exact U7
      · rw [k460, cmF, mst_eq]; rfl
      · rw [u15 14 (by omega)]; exact rcB_k.2.2.2.2
      · rw [Kx 461 (by omega) (by omega) (by omega) (by omega) (by omega), m2 461 (by omega) (by omega) (by omega) (by omega)]; exact hT.2.1
      · rw [Kx 461 (by omega) (by omega) (by omega) (by omega) (by omega), m2 461 (by omega) (by omega) (by omega) (by omega), Kx 470 (by omega) (by omega) (by omega) (by omega) (by omega), m2 470 (by omega) (by omega) (by omega) (by omega)]; exact hT.2.2.1
      · rw [k460, cmF, mst_ne2 (by decide), mst_ne1 (by decide), s460, u15 15 (by omega)]; exact rcB_k.2.2.2.1.symm
      · exact rlL_eq (by rw [Kx 462 (by omega) (by omega) (by omega) (by omega) (by omega), m2 462 (by omega) (by omega) (by omega) (by omega)]) (K4 17 (by omega) (by omega) (by omega) (by omega) (by omega) (by omega) (by omega) (by omega) (by omega) (by omega) (by omega)) (by rw [Kx 463 (by omega) (by omega) (by omega) (by omega) (by omega), m2 463 (by omega) (by omega) (by omega) (by omega)]) (by rw [Kx 471 (by omega) (by omega) (by omega) (by omega) (by omega), m2 471 (by omega) (by omega) (by omega) (by omega)]) hLn
  · refine Or.inl ⟨c0, ?_⟩
    obtain ⟨M1, eM⟩ : ∃ M1, M1 = mst (cmA t L M) 460 1 0 := ⟨_, rfl⟩
    rw [← eM]
    have m1 : ∀ x, x ≠ 460 → M1 x = M x := fun x hx => by rw [eM, mst_fn hx, cmA_fn hx]
    rcases rd M1 with ⟨x1, x2, x3, x4⟩ | ⟨_, x2, _⟩
    rotate_left
    · exact absurd (e2.trans x2) c0
    have xz : (rcX t L M1).1 = false := x1
    have x4' : (rcX t L M1).2.2 464 18 = cmA t L M 460 2 := x4.trans (e2.trans x2).symm
    unfold rcZ
    rw [if_pos (show zb (rcX t L M1).1 = 0 by rw [xz]; rfl)]
    obtain ⟨M2, e2'⟩ : ∃ M2, M2 = mst (mst (mst (rcX t L M1).2.2 464 15 ((rcX t L M1).2.2 464 18)) 464 14 0) 464 9 1 := ⟨_, rfl⟩
    show mst (mst (mst (rcX t L M1).2.2 464 15 ((rcX t L M1).2.2 464 18)) 464 14 0) 464 9 1 464 9 = 1 ∧ REL (mst (mst (mst (rcX t L M1).2.2 464 15 ((rcX t L M1).2.2 464 18)) 464 14 0) 464 9 1) p
    rw [← e2']
    have Kx : ∀ x, x ≠ 464 → x ≠ 472 → M2 x = M1 x := fun x g1 g4 => funext fun y => by rw [e2', mst_ne1 g1, mst_ne1 g1, mst_ne1 g1]; exact rcX_fr g4 (Or.inl g1)
    have K4 : ∀ y, y ≠ 9 → y ≠ 14 → y ≠ 15 → y ≠ 18 → y ≠ 20 → M2 464 y = M 464 y := fun y a b c d e => by rw [e2', mst_ne2 a, mst_ne2 b, mst_ne2 c, rcX_fr (by decide) (Or.inr ⟨d, e⟩), m1 464 (by omega)]
    refine ⟨by rw [e2', mst_eq], hP, ?_, ⟨c, ?_⟩, ?_, ?_, ⟨⟨0, by omega, ?_, ?_⟩, ?_, ?_, ?_⟩, ?_⟩
    · exact rlH_eq (fun x x1 x2 => by rw [Kx x (by omega) (by omega), m1 x (by omega)]) (fun y _ => by rw [Kx 465 (by omega) (by omega), m1 465 (by omega)]) ⟨n, h1, hI⟩
    · exact rlK_eq hP.1 (fun x x1 x2 => by rw [Kx x (by omega) (by omega), m1 x (by omega)]) (by rw [Kx 124 (by omega) (by omega), m1 124 (by omega)]) (K4 6 (by omega) (by omega) (by omega) (by omega) (by omega)) (by rw [Kx 466 (by omega) (by omega), m1 466 (by omega)]) hc
    · exact rlS_eq (by rw [Kx 0 (by omega) (by omega), m1 0 (by omega)]) (K4 5 (by omega) (by omega) (by omega) (by omega) (by omega)) (fun x x1 x2 => by rw [Kx x (by omega) (by omega), m1 x (by omega)]) (by rw [Kx 467 (by omega) (by omega), m1 467 (by omega)]) hS
    · exact rlR_eq (fun k => by rw [Kx 454 (by omega) (by omega), m1 454 (by omega)]) (fun y hy => K4 y (by omega) (by omega) (by omega) (by omega) (by omega)) hR
    · rw [Kx 460 (by omega) (by omega), eM, mst_eq]; rfl
    · rw [e2', mst_ne2 (by decide), mst_eq]; rfl
    · rw [Kx 461 (by omega) (by omega), m1 461 (by omega)]; exact hT.2.1
    · rw [Kx 461 (by omega) (by omega), m1 461 (by omega), Kx 470 (by omega) (by omega), m1 470 (by omega)]; exact hT.2.2.1
    · rw [Kx 460 (by omega) (by omega), eM, mst_ne2 (by decide), ← x4', e2', mst_ne2 (by decide), mst_ne2 (by decide), mst_eq]
    · exact rlL_eq (by rw [Kx 462 (by omega) (by omega), m1 462 (by omega)]) (K4 17 (by omega) (by omega) (by omega) (by omega) (by omega)) (by rw [Kx 463 (by omega) (by omega), m1 463 (by omega)]) (by rw [Kx 471 (by omega) (by omega), m1 471 (by omega)]) hLn
end P50
