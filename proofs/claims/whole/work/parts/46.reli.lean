/-- a fish burnt by its numbers -/
def bt (g : Nat → Int32) : Bool := g 9 == 9 || g 10 == 9
/-- the first hour from i on at which p holds, among j; and as the reference goes: no further than lg -/
def fsF (p : Nat → Bool) : Nat → Nat → Int32
  | 0, _ => -1
  | j + 1, i => if p i = true then nI i else fsF p j (i + 1)
def rsF (p : Nat → Bool) (lg : Nat) : Nat → Nat → Nat × Bool
  | 0, i => (i, p i)
  | j + 1, i => if p i = true then (i, true) else if i < lg then rsF p lg j (i + 1) else (i, false)
section P46
variable {M N K : MM} {n k c : Nat} {g g' : Nat → Int32} {lg : Nat} {wd y : Int32}
theorem fsF_no {p : Nat → Bool} : ∀ (j i : Nat), (∀ m, i ≤ m → p m = false) → fsF p j i = -1
  | 0, _, _ => rfl
  | j + 1, i, h => by
    rw [fsF, if_neg (by rw [h i (Nat.le_refl _)]; decide)]
    exact fsF_no j (i + 1) (fun m hm => h m (by omega))
theorem rs_fs {p : Nat → Bool} (hp : ∀ m, lg ≤ m → p m = p lg) : ∀ (j i : Nat), i ≤ lg → lg < i + j → fsF p j i = (if (rsF p lg j i).2 = true then nI (rsF p lg j i).1 else -1) ∧ (rsF p lg j i).1 ≤ lg ∧ (p i = true → (rsF p lg j i) = (i, true)) ∧ (p i = false → (rsF p lg j i).2 = true → i < (rsF p lg j i).1)
  | 0, i, h1, h2 => by omega
  | j + 1, i, h1, h2 => by
    unfold fsF rsF
    by_cases c1 : p i = true
    · rw [if_pos c1, if_pos c1]
      exact ⟨by rw [if_pos rfl], h1, fun _ => rfl, fun z => by rw [c1] at z; cases z⟩
    rw [if_neg c1, if_neg c1]
    by_cases c2 : i < lg
    · rw [if_pos c2]
      obtain ⟨r1, r2, r3, r4⟩ := rs_fs hp j (i + 1) (by omega) (by omega)
      refine ⟨r1, r2, fun z => absurd z c1, fun _ z => ?_⟩
      by_cases c3 : p (i + 1) = true
      · rw [r3 c3]; exact Nat.lt_succ_self i
      · have := r4 (by simpa using c3) z
        omega
    · rw [if_neg c2]
      obtain rfl : i = lg := by omega
      refine ⟨?_, h1, fun z => absurd z c1, fun _ z => by cases z⟩
      rw [if_neg (show ¬ ((i, false) : Nat × Bool).2 = true by simp)]
      exact fsF_no j (i + 1) (fun m hm => by rw [hp m (by omega)]; simpa using c1)
theorem bt_cell {M : MM} {a : Nat} (h : ∀ w, w < 11 → fW M a w = g w) : fBurnt M a = bt g := by
  have h9 : M (a + 1) 1 = g 9 := h 9 (by omega)
  have h10 : M (a + 2) 1 = g 10 := h 10 (by omega)
  unfold fBurnt bt
  rw [h9, h10]
theorem bt_row {N : MM} (h : ∀ w, w < 11 → oF N k w = g w) : rBurnt N k = bt g := by
  unfold rBurnt bt
  rw [h 9 (by omega), h 10 (by omega)]
theorem hF_z (o : fOK g) {w : Nat} (h9 : w ≠ 6) (hw : w < 11) : hF g (nI 0) wd y w = g w := by
  unfold hF
  by_cases c2 : g 2 = 2
  · rw [if_pos c2, if_neg h9]
    rcases o.2.2.1 with ⟨_, p, q, hp, hq, e3, e4⟩ | ⟨z, _⟩
    · have z4 : mx0 (nI 0 - nI p) = 0 := by rw [he_mx 0 (by omega) p hp, Nat.zero_sub]; rfl
      have zs : hS g (nI 0) wd y = 0 := by
        unfold hS
        rw [if_neg (show ¬ (0 : Int32) < nI 0 by decide)]
        split
        · rfl
        · decide
      rw [zs, e3, z4, Int32.add_zero]
      obtain ⟨sa, hsa, esa⟩ := o.2.1
      have nb : ¬ (2 + g 1 / 3 < 0) := by
        rw [esa]
        have : ∀ a, a < 10 → ¬ ((2 : Int32) + nI a / 3 < 0) := by decide +kernel
        exact this sa (by omega)
      have nc : ¬ ((w = if g 5 = 0 then 9 else 10) ∧ g 6 = 0 ∧ 2 + g 1 / 3 < 0) := fun z => nb z.2.2
      rw [if_neg nc]
      obtain ⟨s0, hs0, es0⟩ := o.2.2.2.2.2.1
      obtain ⟨s1, hs1, es1⟩ := o.2.2.2.2.2.2.1
      have am40 : ∀ a, a < 41 → am (nI a) 40 = nI a := by decide +kernel
      by_cases z : g 5 = 0
      · rw [if_pos z]
        by_cases z7 : w = 7
        · subst z7
          rw [if_pos rfl, es0, am40 s0 (by omega)]
        · rw [if_neg z7]
      · rw [if_neg z]
        by_cases z8 : w = 8
        · subst z8
          rw [if_pos rfl, es1, am40 s1 (by omega)]
        · rw [if_neg z8]
    · rcases z with z | z <;> exact absurd (z.symm.trans c2) (by decide)
  · rw [if_neg c2]
theorem hIt_z (o : fOK g) (hl : lg ≤ 12) {wd : Nat} (hw : wd < 4) {w : Nat} (h9 : w ≠ 6) (hw11 : w < 11) : ∀ m, lg ≤ m → hIt g lg (nI wd) y m w = hIt g lg (nI wd) y lg w := by
  intro m hm
  induction m with
  | zero =>
    obtain rfl : lg = 0 := by omega
    rfl
  | succ m ih =>
    by_cases e : lg = m + 1
    · rw [e]
    · show hF (hIt g lg (nI wd) y m) (nI (lg - m)) (nI wd) y w = _
      rw [show lg - m = 0 by omega, hF_z (hIt_ok o hl hw m) h9 hw11]
      exact ih (by omega)
/-- the class's trial, hour by hour -/
theorem burnU_fs (hl : lg ≤ 12) : ∀ (j i : Nat) (M : MM) (g : Nat → Int32), i + j = 13 → M 1 3 = nI lg → (∀ w, w < 11 → fW M 457 w = hIt g lg (M 1 4) y i w) → (burnU y j i M).1 = fsF (fun i => bt (hIt g lg (M 1 4) y i)) j i
  | 0, _, _, _, _, _, _ => rfl
  | j + 1, i, M, g, hij, e3, hw => by
    unfold burnU fsF
    rw [bt_cell hw]
    by_cases c1 : bt (hIt g lg (M 1 4) y i) = true
    · rw [if_pos c1, if_pos c1]
    rw [if_neg c1, if_neg c1]
    have s1 : smk M 1 457 (mx0 (M 1 3 - nI i)) y 1 = M 1 := smk_ne (by decide) (by decide) (by decide)
    have r := burnU_fs hl j (i + 1) (smk M 1 457 (mx0 (M 1 3 - nI i)) y) g (by omega) (by rw [s1]; exact e3) (fun w hw2 => by
      rw [smk_fW hw2, s1, e3, mx_lg lg (by omega) i (by omega)]
      exact hF_cg hw hw2)
    rw [s1] at r
    exact r
theorem buI_rs (hl : lg ≤ 12) {N0 : MM} (hI : IV (N0 465) n) (el : N0 465 1 = nI lg) (hk : k < n) : ∀ (j i : Nat), rsF (fun i => bt (hIt (oF N0 k) lg (N0 465 2) (zb (rNear N0 k n)) i)) lg j i = ((buI n k j i (hsR N0 n i)).1, rBurnt (buI n k j i (hsR N0 n i)).2 k)
  | 0, i => by
    obtain ⟨s1, s2, s3, s4, s5⟩ := hsR_x hI hl el i
    show (i, _) = (i, rBurnt (hsR N0 n i) k)
    rw [bt_row (s4 k hk)]
  | j + 1, i => by
    obtain ⟨s1, s2, s3, s4, s5⟩ := hsR_x hI hl el i
    unfold rsF buI
    rw [bt_row (s4 k hk), s2]
    have rb : rBurnt (hsR N0 n i) k = bt (hIt (oF N0 k) lg (N0 465 2) (zb (rNear N0 k n)) i) := bt_row (s4 k hk)
    cases c1 : bt (hIt (oF N0 k) lg (N0 465 2) (zb (rNear N0 k n)) i) with
    | true =>
      rw [if_pos rfl, if_neg (show ¬ zb true = 0 by decide)]
      show (i, true) = (i, rBurnt (hsR N0 n i) k)
      rw [rb, c1]
    | false =>
      rw [if_neg (show ¬ false = true by decide), if_pos (show zb false = 0 from rfl)]
      by_cases c2 : i < lg
      · rw [if_pos c2, if_pos (show (0 : Int32) < nI (lg - i) from nI_lt (a := 0) (by omega) (by omega))]
        exact buI_rs hl hI el hk j (i + 1)
      · have z0 : ¬ (0 : Int32) < nI (lg - i) := by rw [show lg - i = 0 by omega]; decide
        rw [if_neg c2, if_neg z0]
        show (i, false) = (i, rBurnt (hsR N0 n i) k)
        rw [rb, c1]
/-- burnsIn: the two alike -/
theorem e_bn (h : HR M 1 n (N 465)) (hI : IV (N 465) n) (hk : k < n) : ((burnU (zb (tooNear M 1 k n)) 13 0 (fcp M 457 (6 + 3 * k))).1 = -1 ∧ rBu N n k = 99 ∧ rBurnt N k = false) ∨ ∃ d, d ≤ 12 ∧ (burnU (zb (tooNear M 1 k n)) 13 0 (fcp M 457 (6 + 3 * k))).1 = nI d ∧ rBu N n k = nI d ∧ (rBurnt N k = true ↔ d = 0) := by
  obtain ⟨lg, hl, el⟩ := hI.2.2.1
  obtain ⟨wd, hwd, e2⟩ := hI.2.2.2.1
  have c1 : fcp M 457 (6 + 3 * k) 1 = M 1 := fcp_ne (by decide) (by decide) (by decide)
  have e3 : fcp M 457 (6 + 3 * k) 1 3 = nI lg := by rw [c1]; exact (h.1 1 (by omega)).trans el
  have e4 : fcp M 457 (6 + 3 * k) 1 4 = N 465 2 := by rw [c1]; exact h.1 2 (by omega)
  have b := burnU_fs (y := zb (tooNear M 1 k n)) hl 13 0 (fcp M 457 (6 + 3 * k)) (oF N k) (by omega) e3 (tr_g h hk)
  rw [e4, e_ne h hI hk] at b
  have r := buI_rs (k := k) hl (sp_IV hI) ((sp_row 1).trans el) hk 13 0
  have eg : oF (spM N) k = oF N k := funext fun w => sp_row _
  rw [eg, sp_row 2, sp_near hk] at r
  have z0 : hsR (spM N) n 0 = spM N := rfl
  rw [z0] at r
  have q := rs_fs (p := fun i => bt (hIt (oF N k) lg (N 465 2) (zb (rNear N k n)) i)) (lg := lg) (fun m hm => by
    rw [e2]
    unfold bt
    rw [hIt_z (iv_k hI hk) hl hwd (by decide) (by omega) m hm, hIt_z (iv_k hI hk) hl hwd (by decide) (by omega) m hm]) 13 0 (by omega) (by omega)
  have pb : bt (hIt (oF N k) lg (N 465 2) (zb (rNear N k n)) 0) = rBurnt N k := rfl
  rw [e_ne h hI hk, b]
  unfold rBu
  obtain ⟨q1, q2, q3, q4⟩ := q
  rw [r] at q1 q2 q3 q4
  rw [q1]
  by_cases c5 : rBurnt (buI n k 13 0 (spM N)).2 k = true
  · rw [if_pos c5, if_neg (zb_n0.mpr c5)]
    refine Or.inr ⟨_, by exact Nat.le_trans q2 hl, rfl, rfl, ⟨fun z => ?_, fun z => ?_⟩⟩
    · exact (Prod.mk.inj (q3 (pb.trans z))).1
    · by_cases c6 : rBurnt N k = true
      · exact c6
      · have := q4 (pb.trans (by simpa using c6)) c5
        have z' : (buI n k 13 0 (spM N)).1 = 0 := z
        have t' : 0 < (buI n k 13 0 (spM N)).1 := this
        omega
  · rw [if_neg c5, if_pos (by simpa [zb_0] using c5)]
    refine Or.inl ⟨rfl, rfl, ?_⟩
    by_cases c6 : rBurnt N k = true
    · exact absurd (Prod.mk.inj (q3 (pb.trans c6))).2 c5
    · simpa using c6
/-- hottest: the two alike -/
theorem firF_s {i : Nat} : firF M n (i + 1) = if 0 < (fcst (firF M n i).2.2 n i).1 then (if (fcst (firF M n i).2.2 n i).1 < (firF M n i).2.1 then (nI i, (fcst (firF M n i).2.2 n i).1, (fcst (firF M n i).2.2 n i).2) else ((firF M n i).1, (firF M n i).2.1, (fcst (firF M n i).2.2 n i).2)) else ((firF M n i).1, (firF M n i).2.1, (fcst (firF M n i).2.2 n i).2) := rfl
theorem hoR_s {i : Nat} : hoR N n (i + 1) = hoS n i (hoR N n i) := rfl
theorem e_ho (h : HR M 1 n (N 465)) (hI : IV (N 465) n) : ∀ m, m ≤ n → (firF M n m).1 = (hoR N n m).1.1 ∧ (((firF M n m).2.1 = 13 ∧ (hoR N n m).1.2 = 99) ∨ ∃ d, d ≤ 12 ∧ (firF M n m).2.1 = nI d ∧ (hoR N n m).1.2 = nI d) ∧ ((firF M n m).1 = -1 ∨ ∃ d, d < n ∧ (firF M n m).1 = nI d) := by
  intro m
  induction m with
  | zero => intro _; exact ⟨rfl, Or.inl ⟨rfl, rfl⟩, Or.inl rfl⟩
  | succ m ih =>
    intro hm
    obtain ⟨i1, i2, i3⟩ := ih (by omega)
    have hi : m < n := by omega
    rw [firF_s, hoR_s]
    have rowE : ∀ z, (hoR N n m).2 465 z = N 465 z := fun z => hoR_fr (by decide) m
    have hR' : HR (firF M n m).2.2 1 n ((hoR N n m).2 465) := HR_eq (fun x k h1 h2 => by rw [firF_ne (Or.inl (by omega)) m]) hI.2.1 (fun z _ => rowE z) h
    have hI' : IV ((hoR N n m).2 465) n := IV_eq (fun z _ => rowE z) hI
    have cmp : ∀ a, a ≤ 12 → ((nI a < 13) ∧ (nI a < 99)) := by
      have : ∀ a, a < 13 → ((nI a < 13) ∧ (nI a < 99)) := by decide +kernel
      exact fun a ha => this a (by omega)
    have big : ∀ a, a ≤ 12 → ¬ ((99 : Int32) < nI a) := by
      have : ∀ a, a < 13 → ¬ ((99 : Int32) < nI a) := by decide +kernel
      exact fun a ha => this a (by omega)
    unfold hoS
    rcases e_bn hR' hI' hi with ⟨b1, b2, b3⟩ | ⟨d, hd, b1, b2, b3⟩
    · have f1 : (fcst (firF M n m).2.2 n m).1 = -1 := b1
      rw [f1, b2, b3, if_neg (by decide), if_pos (show zb false = 0 from rfl)]
      have ng : ¬ (99 : Int32) < (hoR N n m).1.2 := by
        rcases i2 with ⟨_, z⟩ | ⟨e, he, _, z⟩
        · rw [z]; decide
        · rw [z]; exact big e he
      rw [if_neg ng]
      exact ⟨i1, i2, i3⟩
    · have f1 : (fcst (firF M n m).2.2 n m).1 = nI d := b1
      rw [f1, b2]
      by_cases d0 : d = 0
      · subst d0
        rw [if_neg (by decide), b3.mpr rfl, if_neg (show ¬ zb true = 0 by decide)]
        have ng : ¬ (99 : Int32) < (hoR N n m).1.2 := by
          rcases i2 with ⟨_, z⟩ | ⟨e, he, _, z⟩
          · rw [z]; decide
          · rw [z]; exact big e he
        rw [if_neg ng]
        exact ⟨i1, i2, i3⟩
      · have b4 : rBurnt (hoR N n m).2 m = false := by
          cases e : rBurnt (hoR N n m).2 m with
          | true => exact absurd (b3.mp e) d0
          | false => rfl
        rw [if_pos (show (0 : Int32) < nI d from nI_lt (a := 0) (by omega) (by omega)), b4, if_pos (show zb false = 0 from rfl)]
        rcases i2 with ⟨z1, z2⟩ | ⟨e, he, z1, z2⟩
        · rw [z1, z2, if_pos (cmp d hd).1, if_pos (cmp d hd).2]
          exact ⟨rfl, Or.inr ⟨d, hd, rfl, rfl⟩, Or.inr ⟨m, hi, rfl⟩⟩
        · rw [z1, z2]
          by_cases c5 : nI d < nI e
          · rw [if_pos c5, if_pos c5]
            exact ⟨rfl, Or.inr ⟨d, hd, rfl, rfl⟩, Or.inr ⟨m, hi, rfl⟩⟩
          · rw [if_neg c5, if_neg c5]
            exact ⟨i1, Or.inr ⟨e, he, rfl, z2⟩, i3⟩
end P46
