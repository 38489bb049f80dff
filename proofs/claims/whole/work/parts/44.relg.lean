section P44
variable {M N K : MM} {n k c : Nat} {t : Nat → Int32} {L p q : Nat}
theorem fgM_told {m q' y : Nat} (h : y ≠ q') : fgM t N L m p q' 472 y = N 472 y := (mst_ne1 (by decide)).trans (mst_ne2 h)
theorem nuC_told {m y : Nat} (h : y < q ∨ q + 3 < y) : (nuC t N L m p q).2.2 472 y = N 472 y := by
  unfold nuC
  split
  · rfl
  · exact fgM_told (by omega)
theorem hgC_told {y : Nat} (h : y < q ∨ q + 3 < y) : (hgC t N L p q).2.2 472 y = N 472 y := by
  unfold hgC
  repeat' split
  · rfl
  · show mst (fgM t N L 2 p (q + 1)) 464 18 (nI ((fgR t L 2 p).2 + 1)) 472 y = N 472 y
    exact (mst_ne1 (by decide)).trans (fgM_told (by omega))
  · exact (fgM_told (by omega)).trans ((mst_ne1 (by decide)).trans (fgM_told (by omega)))
  · exact (fgM_told (by omega)).trans ((fgM_told (by omega)).trans ((mst_ne1 (by decide)).trans (fgM_told (by omega))))
  · exact fgM_told (by omega)
theorem chM_told {y : Nat} (h : y ≠ q) : chM t N L p q 472 y = N 472 y := (mst_ne1 (by decide)).trans (mst_ne2 h)
theorem chR_told {y : Nat} (h : y < q ∨ q + 3 < y) : (chR t N L p q).2.2 472 y = N 472 y := by
  unfold chR
  repeat' split
  · exact chM_told (by omega)
  · exact (nuC_told h).trans (chM_told (by omega))
  · exact (nuC_told h).trans (chM_told (by omega))
  · exact (nuC_told h).trans (chM_told (by omega))
  · exact (nuC_told h).trans (chM_told (by omega))
  · exact (hgC_told h).trans (chM_told (by omega))
  · exact mst_ne2 (by omega)
theorem rgs_T {K : MM} {T T' : Nat → Int32} (h : ∀ y, q ≤ y → y ≤ q + 3 → T' y = T y) (g : rgs K T q) : rgs K T' q := by
  unfold rgs at g ⊢
  rw [h q (by omega) (by omega), h (q + 1) (by omega) (by omega), h (q + 2) (by omega) (by omega), h (q + 3) (by omega) (by omega)]
  exact g
/-- the two readings of a text -/
theorem tx_2 (hL60 : L ≤ 60) : ∀ (j n p f : Nat) (M N : MM), n + j = 31 → n + f = 60 → 2 * n ≤ p → p ≤ L → N 464 18 = nI p →
    ((txR t L j n p N).1 = false ∧ (ffM t L f (n + 1) p M).1 = nI (txR t L j n p N).2.1 ∧ (txR t L j n p N).2.1 ≤ L ∧ (txR t L j n p N).2.2 464 18 = nI (txR t L j n p N).2.1) ∨
    ((txR t L j n p N).1 = true ∧ (ffM t L f (n + 1) p M).1 = -1 ∧ ∃ tm, n < tm ∧ tm ≤ 31 ∧ (ffM t L f (n + 1) p M).2 460 3 = nI tm ∧ (txR t L j n p N).2.2 464 20 = nI tm ∧ (∀ y, y < 4 * n → (txR t L j n p N).2.2 472 y = N 472 y) ∧ ∀ i M0, n + i < tm → rgs (pcM t M0 L (pos t L p i)).2.2 ((txR t L j n p N).2.2 472) (4 * (n + i))) := by
  intro j
  induction j with
  | zero => intro n p f M N h1 h2 h3 h4; omega
  | succ j ih =>
    intro n p f M N h1 h2 h3 h4 h18
    obtain ⟨f, rfl⟩ : ∃ f', f = f' + 1 := ⟨f - 1, by omega⟩
    have b := fun M0 => tx_1 (t := t) (M := M0) (N := N) (L := L) (p := p) (q := 4 * n)
    have bb := chR_b (t := t) (M := N) (q := 4 * n) h4
    have e18 := chR_18 (t := t) (L := L) (q := 4 * n) h18
    unfold txR ffM
    rw [(b M).1, (b M).2.1]
    by_cases c1 : (chR t N L p (4 * n)).1 = false
    · rw [if_pos c1, if_pos c1]
      exact Or.inl ⟨rfl, rfl, bb.2, e18⟩
    rw [if_neg c1, if_neg c1]
    have ok : (chR t N L p (4 * n)).1 = true := by simpa using c1
    have b1 := bb.1 ok
    by_cases c2 : hrR t L (chR t N L p (4 * n)).2.1 = 59
    · have lt := hrR_lt c2 (by decide)
      rw [if_neg (show ¬ (chR t N L p (4 * n)).2.1 = L by omega), if_pos ((hr_sg (by decide) (by decide)).mpr c2), if_pos c2]
      have r := ih (n + 1) ((chR t N L p (4 * n)).2.1 + 1) f (mst (pcM t M L p).2.2 460 4 (nI ((chR t N L p (4 * n)).2.1 + 1))) (mst (mst (chR t N L p (4 * n)).2.2 464 20 (nI (n + 1))) 464 18 (nI ((chR t N L p (4 * n)).2.1 + 1))) (by omega) (by omega) (by omega) (by omega) (mst_eq _ _ _ _)
      rcases r with ⟨r1, r2, r3, r4⟩ | ⟨r1, r2, tm, r3, r4, r5, r6, r7, r8⟩
      · exact Or.inl ⟨r1, r2, r3, r4⟩
      · refine Or.inr ⟨r1, r2, tm, by omega, r4, r5, r6, fun y hy => ?_, fun i M0 hi => ?_⟩
        · rw [r7 y (by omega), mst_ne1 (by decide), mst_ne1 (by decide)]
          exact chR_told (by omega)
        · match i with
          | 0 =>
            refine rgs_T (fun y g1 g2 => ?_) ((b M0).2.2 ok)
            rw [r7 y (by omega), mst_ne1 (by decide), mst_ne1 (by decide)]
          | i + 1 =>
            have e : pos t L p (i + 1) = pos t L ((chR t N L p (4 * n)).2.1 + 1) i := by
              show pos t L (pcP t L p + 1) i = _
              rw [pcP, (b mm0).2.1]
            rw [e, show 4 * (n + (i + 1)) = 4 * (n + 1 + i) by omega]
            exact r8 i M0 (by omega)
    · rw [if_neg c2]
      by_cases c3 : (chR t N L p (4 * n)).2.1 = L
      · rw [if_pos c3]
        refine Or.inr ⟨beq_iff_eq.mpr c3, rfl, n + 1, by omega, by omega, (show mst (pcM t M L p).2.2 460 3 (nI (n + 1)) 460 3 = nI (n + 1) from mst_eq _ _ _ _), (show mst (chR t N L p (4 * n)).2.2 464 20 (nI (n + 1)) 464 20 = nI (n + 1) from mst_eq _ _ _ _), fun y hy => ?_, fun i M0 hi => ?_⟩
        · show mst (chR t N L p (4 * n)).2.2 464 20 (nI (n + 1)) 472 y = N 472 y
          exact (mst_ne1 (by decide)).trans (chR_told (by omega))
        · obtain rfl : i = 0 := by omega
          exact rgs_T (fun y g1 g2 => (show mst (chR t N L p (4 * n)).2.2 464 20 (nI (n + 1)) 472 y = _ from mst_ne1 (by decide))) ((b M0).2.2 ok)
      · rw [if_neg c3, if_neg (fun z => c2 ((hr_sg (by decide) (by decide)).mp z))]
        exact Or.inl ⟨beq_eq_false_iff_ne.mpr c3, rfl, bb.2, (show mst (chR t N L p (4 * n)).2.2 464 20 (nI (n + 1)) 464 18 = _ from (mst_ne2 (by decide)).trans e18)⟩
theorem c_Car (h : HR M 1 n (N 465)) (hI : IV (N 465) n) (g : rgs M (N 472) q) : CH M N c (wCar M n) (tCar N n c q) := by
  obtain ⟨g1, g2, g3⟩ := g
  unfold wCar tCar
  rw [g1]
  by_cases e1 : N 472 q = 97
  · rw [if_pos e1, if_pos e1, g2 (by rw [e1]; decide)]; exact c_Trk h hI
  rw [if_neg e1, if_neg e1]
  by_cases e2 : N 472 q = 98
  · rw [if_pos e2, if_pos e2, g2 (by rw [e2]; decide)]; exact c_Bri h hI
  rw [if_neg e2, if_neg e2]
  by_cases e3 : N 472 q = 100
  · rw [if_pos e3, if_pos e3]; exact c_Day h hI
  rw [if_neg e3, if_neg e3, g2 e3]
  by_cases e4 : N 472 q = 102
  · rw [if_pos e4, if_pos e4]; exact c_Let h hI
  rw [if_neg e4, if_neg e4]
  by_cases e5 : N 472 q = 104
  · rw [if_pos e5, if_pos e5, (g3 e5).1, (g3 e5).2]; exact c_Han h hI
  rw [if_neg e5, if_neg e5]
  by_cases e6 : N 472 q = 108
  · rw [if_pos e6, if_pos e6]; exact c_Log h hI
  rw [if_neg e6, if_neg e6]
  by_cases e7 : N 472 q = 110
  · rw [if_pos e7, if_pos e7]; exact c_Hrs h hI
  rw [if_neg e7, if_neg e7]
  by_cases e8 : N 472 q = 111
  · rw [if_pos e8, if_pos e8]; exact c_Out h hI
  rw [if_neg e8, if_neg e8]
  by_cases e9 : N 472 q = 115
  · rw [if_pos e9, if_pos e9]; exact c_Sel h hI
  rw [if_neg e9, if_neg e9]
  by_cases e10 : N 472 q = 116
  · rw [if_pos e10, if_pos e10]; exact c_Tur h hI
  rw [if_neg e10, if_neg e10]
  by_cases e11 : N 472 q = 119
  · rw [if_pos e11, if_pos e11]; exact c_Woo h hI
  rw [if_neg e11, if_neg e11]
  exact c_Dis h hI
/-- the reason kept at last -/
def RF (M N : MM) : Prop := (M 454 0 = 0 ∧ N 464 10 = 0) ∨ (M 454 0 ≠ 0 ∧ N 464 10 ≠ 0 ∧ M 454 2 = N 464 10 ∧ M 454 3 = N 464 11 ∧ M 454 4 = N 464 12)
theorem RF_eq {M' N' : MM} (h1 : ∀ k, k ≠ 1 → M' 454 k = M 454 k) (h2 : ∀ y, y = 10 ∨ y = 11 ∨ y = 12 → N' 464 y = N 464 y) (h : RF M N) : RF M' N' := by
  unfold RF at h ⊢
  rw [h1 0 (by omega), h1 2 (by omega), h1 3 (by omega), h1 4 (by omega), h2 10 (by omega), h2 11 (by omega), h2 12 (by omega)]
  exact h
theorem RF_ks {u v : Int32} (hu : u ≠ 0) (h : M 454 1 = if N 464 7 = 0 then 0 else N 464 8) : RF (ksR M u v) (rfM N u v) := by
  refine Or.inr ⟨?_, ?_, ?_, ?_, ?_⟩
  · unfold ksR
    rw [mst_ne2 (by decide), mst_ne2 (by decide), mst_ne2 (by decide), mst_eq]; decide
  · show mst (mst (mst (mst N 464 9 1) 464 10 u) 464 11 v) 464 12 _ 464 10 ≠ 0
    rw [mst_ne2 (by decide), mst_ne2 (by decide), mst_eq]; exact hu
  · show ksR M u v 454 2 = mst (mst (mst (mst N 464 9 1) 464 10 u) 464 11 v) 464 12 _ 464 10
    unfold ksR
    rw [mst_ne2 (by decide), mst_ne2 (by decide), mst_eq, mst_ne2 (by decide), mst_ne2 (by decide), mst_eq]
  · show ksR M u v 454 3 = mst (mst (mst (mst N 464 9 1) 464 10 u) 464 11 v) 464 12 _ 464 11
    unfold ksR
    rw [mst_ne2 (by decide), mst_eq, mst_ne2 (by decide), mst_eq]
  · show ksR M u v 454 4 = mst (mst (mst (mst N 464 9 1) 464 10 u) 464 11 v) 464 12 _ 464 12
    unfold ksR
    rw [mst_eq, mst_eq, h]
theorem cmR_no {j i : Nat} {s : Int32 × MM} (h : s.1 = -1) : cmR t L j i s = s := by
  cases j with
  | zero => rfl
  | succ j => rw [cmR, if_pos h]
/-- what the commands of a text leave alone -/
def frM (M M' : MM) : Prop := (∀ x, (x = 0 ∨ 42 ≤ x) → x ≠ 454 → x ≠ 460 → M' x = M x) ∧ ∀ k, k < 4 → M' 460 k = M 460 k
def frN (N N' : MM) : Prop := ∀ x y, x ≠ 465 → (x ≠ 464 ∨ (y ≠ 8 ∧ y ≠ 9 ∧ y ≠ 10 ∧ y ≠ 11 ∧ y ≠ 12)) → N' x y = N x y
theorem kp_in {x y : Nat} (h7 : N 464 7 = 1) : kpR N 465 c x y = mst N 464 9 0 x y := by
  unfold kpR
  rw [if_neg (by rw [h7]; decide)]
theorem cm_loop {tm : Nat} : ∀ (j i : Nat) (x y : Int32) (M N : MM) (n c : Nat), i + j = tm → tm ≤ 60 → x ≠ -1 → HR M 1 n (N 465) → IV (N 465) n → (∀ i M0, i < tm → rgs (pcM t M0 L (pos t L 0 i)).2.2 (N 472) (4 * i)) → RF M N → N 464 7 = 1 → N 464 8 = nI i → N 464 9 = 0 → c ≤ 8 → N 464 6 = nI c →
    frM M (cmR t L j i (x, M)).2 ∧ frN N (rcL j i (y, N)).2 ∧ RF (cmR t L j i (x, M)).2 (rcL j i (y, N)).2 ∧
    (((cmR t L j i (x, M)).1 = -1 ∧ (rcL j i (y, N)).2 464 9 = 1 ∧ (rcL j i (y, N)).1 = 0) ∨ ((cmR t L j i (x, M)).1 ≠ -1 ∧ (rcL j i (y, N)).2 464 9 = 0 ∧ ∃ n', HR (cmR t L j i (x, M)).2 1 n' ((rcL j i (y, N)).2 465) ∧ IV ((rcL j i (y, N)).2 465) n')) := by
  intro j
  induction j with
  | zero =>
    intro i x y M N n c _ _ hx hR hI _ hF _ _ h9 _ _
    exact ⟨⟨fun _ _ _ _ => rfl, fun _ _ => rfl⟩, fun _ _ _ _ => rfl, hF, Or.inr ⟨hx, h9, n, hR, hI⟩⟩
  | succ j ih =>
    intro i x y M N n c hij htm hx hR hI hT hF h7 h8 h9 hc h6
    have hn := hI.2.1
    obtain ⟨M2, e2⟩ : ∃ M2, M2 = mst (mst (pcM t M L (pos t L 0 i)).2.2 460 4 (nI (pos t L 0 (i + 1)))) 454 1 (nI i) := ⟨_, rfl⟩
    have f2 : ∀ x, x ≠ 460 → x ≠ 454 → M2 x = M x := fun x h1 h2 => by rw [e2]; exact stp_pre h1 h2
    have f3 : ∀ k, k < 4 → M2 460 k = M 460 k := fun k hk => by rw [e2, mst_ne1 (by decide), mst_ne2 (by omega)]; exact pcM_scO 460 k (by omega)
    have f4 : ∀ k, k ≠ 1 → M2 454 k = M 454 k := fun k hk => by rw [e2, mst_ne2 hk, mst_ne1 (by decide)]; exact pcM_scO 454 k (by omega)
    have f5 : M2 454 1 = nI i := by rw [e2]; exact mst_eq _ _ _ _
    have hg : M 1 2 = nI n := hr_g hR hI
    have en : (M 1 2).toNatClampNeg = n := by rw [hg]; exact nI_cl (by omega)
    have es : stp t L i M = wCar M2 n := by rw [stp, en, e2]
    have er : rcS N i = tCar N n c (4 * i) := by rw [rcS, h6, nI_cl (show c < 2000 by omega), hI.1, nI_cl (show n < 2000 by omega)]
    have hR2 : HR M2 1 n (N 465) := HR_eq (fun x k h1 h2 => by rw [f2 x (by omega) (by omega)]) hn (fun _ _ => rfl) hR
    have hg2 : rgs M2 (N 472) (4 * i) := by
      have z := hT i M (by omega)
      unfold rgs at z ⊢
      have f6 : ∀ k, k ≠ 4 → M2 460 k = (pcM t M L (pos t L 0 i)).2.2 460 k := fun k hk => by rw [e2, mst_ne1 (by decide), mst_ne2 hk]
      rw [f6 5 (by decide), f6 6 (by decide), f6 7 (by decide), f6 8 (by decide)]
      exact z
    have hF2 : RF M2 N := RF_eq f4 (fun _ _ => rfl) hF
    rw [cmR, if_neg hx, es, rcL, er]
    rcases c_Car (c := c) hR2 hI hg2 with ⟨u, v, hu, a1, a2⟩ | ⟨a1, a2, a3, a4, n', a5, a6⟩
    · rw [a1, a2, cmR_no rfl]
      have q9 : rfM N u v 464 9 = 1 := by
        show mst (mst (mst (mst N 464 9 1) 464 10 u) 464 11 v) 464 12 _ 464 9 = 1
        rw [mst_ne2 (by decide), mst_ne2 (by decide), mst_ne2 (by decide), mst_eq]
      have q0 : ¬ rfM N u v 464 9 = 0 := by rw [q9]; decide
      rw [if_neg q0]
      refine ⟨⟨fun x h1 h2 h3 => ?_, fun k hk => ?_⟩, fun x y h1 h2 => rfM_fr (by omega), RF_ks hu ?_, Or.inl ⟨rfl, q9, rfl⟩⟩
      · show ksR M2 u v x = M x
        unfold ksR
        rw [mst_fn h2, mst_fn h2, mst_fn h2, mst_fn h2, f2 x h3 h2]
      · show ksR M2 u v 460 k = M 460 k
        unfold ksR
        rw [mst_ne1 (by decide), mst_ne1 (by decide), mst_ne1 (by decide), mst_ne1 (by decide), f3 k hk]
      · rw [f5, if_neg (by rw [h7]; decide), h8]
    · have b4 : ∀ x y, x ≠ 465 → (tCar N n c (4 * i)).2 x y = mst N 464 9 0 x y := fun x y hx => (a4 x y hx).trans (kp_in h7)
      have q9 : (tCar N n c (4 * i)).2 464 9 = 0 := by rw [b4 464 9 (by decide), mst_eq]
      rw [if_pos q9]
      have row : ∀ y, mst (tCar N n c (4 * i)).2 464 8 (nI (i + 1)) 465 y = (tCar N n c (4 * i)).2 465 y := fun y => mst_ne1 (by decide)
      have r := ih (i + 1) (wCar M2 n).1 (tCar N n c (4 * i)).1 (wCar M2 n).2 (mst (tCar N n c (4 * i)).2 464 8 (nI (i + 1))) n' c (by omega) htm a2 (HR_eq (fun _ _ _ _ => rfl) a6.2.1 (fun y _ => row y) a5) (IV_eq (fun y _ => row y) a6)
        (fun i M0 hi => rgs_T (fun y _ _ => (mst_ne1 (by decide)).trans ((b4 472 y (by decide)).trans (mst_ne1 (by decide)))) (hT i M0 hi))
        (RF_eq (fun k hk => by rw [a3 454 (by omega)]) (fun y hy => by rw [mst_ne2 (by omega), b4 464 y (by decide), mst_ne2 (by omega)]) hF2)
        (by rw [mst_ne2 (by decide), b4 464 7 (by decide), mst_ne2 (by decide)]; exact h7) (mst_eq _ _ _ _) (by rw [mst_ne2 (by decide)]; exact q9) hc (by rw [mst_ne2 (by decide), b4 464 6 (by decide), mst_ne2 (by decide)]; exact h6)
      refine ⟨⟨fun x h1 h2 h3 => ?_, fun k hk => ?_⟩, fun x y h1 h2 => ?_, r.2.2.1, r.2.2.2⟩
      · rw [r.1.1 x h1 h2 h3, a3 x h1, f2 x h3 h2]
      · rw [r.1.2 k hk, a3 460 (by omega), f3 k hk]
      · rw [r.2.1 x y h1 h2, mst_ne (by omega), b4 x y h1, mst_ne (by omega)]
end P44
