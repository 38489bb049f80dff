/-- number w of the fish at the cell a -/
def fW (M : MM) (a w : Nat) : Int32 := match w with
  | 0 => M a 2 | 1 => M a 3 | 2 => M a 4 | 3 => M a 5 | 4 => M a 6 | 5 => M a 7 | 6 => M a 8
  | 7 => M (a + 1) 0 | 8 => M (a + 2) 0 | 9 => M (a + 1) 1 | _ => M (a + 2) 1
/-- the house at b is the row f, n fish -/
def HR (M : MM) (b n : Nat) (f : Nat → Int32) : Prop := (∀ j, j < 8 → M b (2 + j) = f j) ∧ ∀ k, k < n → ∀ w, w < 11 → fW M (b + 5 + 3 * k) w = f (8 + 11 * k + w)
/-- the eleven numbers of a fish, in their ranges -/
def fOK (g : Nat → Int32) : Prop := (∃ a, 1 ≤ a ∧ a ≤ 9 ∧ g 0 = nI a) ∧ (∃ a, a ≤ 9 ∧ g 1 = nI a) ∧ ((g 2 = 2 ∧ ∃ p q, p < 4 ∧ q < 10 ∧ g 3 = nI p ∧ g 4 = nI q) ∨ ((g 2 = 0 ∨ g 2 = 1) ∧ g 3 = -1 ∧ g 4 = -1 ∧ g 6 = 0)) ∧ (g 5 = 0 ∨ g 5 = 1) ∧ (g 6 = 0 ∨ g 6 = 1) ∧ (∃ a, a ≤ 40 ∧ g 7 = nI a) ∧ (∃ a, a ≤ 40 ∧ g 8 = nI a) ∧ (∃ a, a ≤ 9 ∧ g 9 = nI a) ∧ (∃ a, a ≤ 9 ∧ g 10 = nI a)
def IV (f : Nat → Int32) (n : Nat) : Prop := f 0 = nI n ∧ n ≤ 12 ∧ (∃ a, a ≤ 12 ∧ f 1 = nI a) ∧ (∃ a, a < 4 ∧ f 2 = nI a) ∧ ∀ k, k < n → fOK (fun w => f (8 + 11 * k + w))
theorem fOK_eq {g g' : Nat → Int32} (h : ∀ w, w < 11 → g' w = g w) (o : fOK g) : fOK g' := by
  unfold fOK at o ⊢
  rw [h 0 (by omega), h 1 (by omega), h 2 (by omega), h 3 (by omega), h 4 (by omega), h 5 (by omega), h 6 (by omega), h 7 (by omega), h 8 (by omega), h 9 (by omega), h 10 (by omega)]
  exact o
theorem IV_eq {f f' : Nat → Int32} {n : Nat} (h : ∀ y, y < 140 → f' y = f y) (o : IV f n) : IV f' n := by
  obtain ⟨h1, h2, h3, h4, h5⟩ := o
  refine ⟨(h 0 (by omega)).trans h1, h2, ?_, ?_, fun k hk => fOK_eq (fun w hw => h _ (by omega)) (h5 k hk)⟩
  · rw [h 1 (by omega)]; exact h3
  · rw [h 2 (by omega)]; exact h4
theorem HR_eq {M M' : MM} {b n : Nat} {f f' : Nat → Int32} (hM : ∀ x k, b ≤ x → x < b + 41 → M' x k = M x k) (hn : n ≤ 12) (hf : ∀ y, y < 140 → f' y = f y) (o : HR M b n f) : HR M' b n f' := by
  refine ⟨fun j hj => (hM _ _ (by omega) (by omega)).trans ((o.1 j hj).trans (hf j (by omega)).symm), fun k hk w hw => ?_⟩
  rw [hf _ (by omega), ← o.2 k hk w hw]
  match w with
  | 0 | 1 | 2 | 3 | 4 | 5 | 6 | 7 | 8 | 9 | _ + 10 => exact hM _ _ (by omega) (by omega)
section P38
variable {M N : MM} {n k : Nat}
theorem hr_w (h : HR M 1 n (N 465)) (hk : k < n) {w : Nat} (hw : w < 11) : fW M (6 + 3 * k) w = oF N k w := h.2 k hk w hw
theorem hr_0 (h : HR M 1 n (N 465)) (hk : k < n) : M (6 + 3 * k) 2 = oF N k 0 := hr_w h hk (w := 0) (by omega)
theorem hr_1 (h : HR M 1 n (N 465)) (hk : k < n) : M (6 + 3 * k) 3 = oF N k 1 := hr_w h hk (w := 1) (by omega)
theorem hr_2 (h : HR M 1 n (N 465)) (hk : k < n) : M (6 + 3 * k) 4 = oF N k 2 := hr_w h hk (w := 2) (by omega)
theorem hr_3 (h : HR M 1 n (N 465)) (hk : k < n) : M (6 + 3 * k) 5 = oF N k 3 := hr_w h hk (w := 3) (by omega)
theorem hr_4 (h : HR M 1 n (N 465)) (hk : k < n) : M (6 + 3 * k) 6 = oF N k 4 := hr_w h hk (w := 4) (by omega)
theorem hr_5 (h : HR M 1 n (N 465)) (hk : k < n) : M (6 + 3 * k) 7 = oF N k 5 := hr_w h hk (w := 5) (by omega)
theorem hr_6 (h : HR M 1 n (N 465)) (hk : k < n) : M (6 + 3 * k) 8 = oF N k 6 := hr_w h hk (w := 6) (by omega)
theorem hr_7 (h : HR M 1 n (N 465)) (hk : k < n) : M (6 + 3 * k + 1) 0 = oF N k 7 := hr_w h hk (w := 7) (by omega)
theorem hr_8 (h : HR M 1 n (N 465)) (hk : k < n) : M (6 + 3 * k + 2) 0 = oF N k 8 := hr_w h hk (w := 8) (by omega)
theorem hr_9 (h : HR M 1 n (N 465)) (hk : k < n) : M (6 + 3 * k + 1) 1 = oF N k 9 := hr_w h hk (w := 9) (by omega)
theorem hr_10 (h : HR M 1 n (N 465)) (hk : k < n) : M (6 + 3 * k + 2) 1 = oF N k 10 := hr_w h hk (w := 10) (by omega)
theorem iv_k (h : IV (N 465) n) (hk : k < n) : fOK (oF N k) := h.2.2.2.2 k hk
/-- a place: 0, 1 or 2 -/
theorem ok_2 {g : Nat → Int32} (h : fOK g) : g 2 = 0 ∨ g 2 = 1 ∨ g 2 = 2 := by
  rcases h.2.2.1 with h | h
  · exact Or.inr (Or.inr h.1)
  · rcases h.1 with h | h
    · exact Or.inl h
    · exact Or.inr (Or.inl h)
theorem ok_3 {g : Nat → Int32} (h : fOK g) (hp : ¬ g 2 = 2) : g 3 = -1 ∧ g 4 = -1 ∧ g 6 = 0 := by
  rcases h.2.2.1 with h | h
  · exact absurd h.1 hp
  · exact h.2
/-- the kinds of ranges -/
theorem has_in (hg : M 1 2 = nI n) (hn : n ≤ 12) {x : Int32} : hasB M 1 x = inB x 0 (nI n - 1) := by
  unfold hasB inB
  rw [hg]
  congr 1
  have : ∀ m, m < 13 → (∀ y : Int32, decide (y < nI m) = !decide (nI m - 1 < y)) := by
    intro m hm y
    have h1 : (nI m).toInt = (m : Int) := nI_toInt (by omega)
    have h2 : (nI m - 1).toInt = (m : Int) - 1 := by
      match m with
      | 0 => decide
      | m + 1 => rw [nI_sub1 (by omega), nI_toInt (by omega)]; omega
    have e1 : (y < nI m) ↔ y.toInt < (m : Int) := by rw [Int32.lt_iff_toInt_lt, h1]
    have e2 : (nI m - 1 < y) ↔ (m : Int) - 1 < y.toInt := by rw [Int32.lt_iff_toInt_lt, h2]
    by_cases c : y < nI m
    · have c2 : ¬ (nI m - 1 < y) := by rw [e2]; have := e1.mp c; omega
      rw [decide_eq_true c, decide_eq_false c2]; rfl
    · have c2 : nI m - 1 < y := by rw [e2]; have : ¬ (y.toInt < (m : Int)) := fun z => c (e1.mpr z); omega
      rw [decide_eq_false c, decide_eq_true c2]; rfl
  exact this n (by omega) x
theorem inR_in {x : Int32} {m : Int32} {j : Nat} (hj : j < 2000) (hm : m = nI (j + 1)) : inR x m = inB x 0 (nI j) := by
  unfold inR inB
  rw [hm]
  congr 1
  have h1 : (nI (j + 1)).toInt = (j : Int) + 1 := by rw [nI_toInt (by omega)]; omega
  have h2 : (nI j).toInt = (j : Int) := nI_toInt (by omega)
  have e1 : (x < nI (j + 1)) ↔ x.toInt < (j : Int) + 1 := by rw [Int32.lt_iff_toInt_lt, h1]
  have e2 : (nI j < x) ↔ (j : Int) < x.toInt := by rw [Int32.lt_iff_toInt_lt, h2]
  by_cases c : x < nI (j + 1)
  · have c2 : ¬ (nI j < x) := by rw [e2]; have := e1.mp c; omega
    rw [decide_eq_true c, decide_eq_false c2]; rfl
  · have c2 : nI j < x := by rw [e2]; have : ¬ (x.toInt < (j : Int) + 1) := fun z => c (e1.mpr z); omega
    rw [decide_eq_false c, decide_eq_true c2]; rfl
/-- a range asked for by two comparisons -/
theorem rng_in {x lo hi : Int32} : (x < lo ∨ hi < x) ↔ zb (inB x lo hi) = 0 := by
  unfold inB
  rw [zb_0]
  by_cases c : x < lo
  · simp [c]
  · by_cases d : hi < x
    · simp [c, d]
    · simp [c, d]
theorem rng_n {x hi h1 : Int32} {j : Nat} (hj : j < 2000) (e1 : hi = nI j) (e2 : h1 = nI (j + 1)) : (x < 0 ∨ ¬ x < h1) ↔ zb (inB x 0 hi) = 0 := by
  rw [e1, ← inR_in hj e2, zb_0]
  unfold inR
  by_cases c : x < 0
  · simp [c]
  · by_cases d : x < h1
    · simp [c, d]
    · simp [c, d]
theorem e_bu (h : HR M 1 n (N 465)) (hk : k < n) : fBurnt M (6 + 3 * k) = rBurnt N k := by
  unfold fBurnt rBurnt
  rw [hr_9 h hk, hr_10 h hk]
theorem e_ga (h : HR M 1 n (N 465)) (hk : k < n) : fGap M (6 + 3 * k) = 1 + oF N k 0 / 3 := by
  unfold fGap
  rw [hr_0 h hk]
theorem e_be (h : HR M 1 n (N 465)) (hk : k < n) : fBear M (6 + 3 * k) = 2 + oF N k 1 / 3 := by
  unfold fBear
  rw [hr_1 h hk]
theorem lack1 : ∀ a, a < 10 → ∀ b, b < 41 → mx0 (5 + nI a - nI b) = if nI b < 5 + nI a then 5 + nI a - nI b else 0 := by decide +kernel
theorem e_la (h : HR M 1 n (N 465)) (hI : IV (N 465) n) (hk : k < n) : fLack M (6 + 3 * k) = rLack N k := by
  obtain ⟨⟨a, h1, h2, h3⟩, -, -, -, -, ⟨b, h4, h5⟩, ⟨c, h6, h7⟩, -⟩ := iv_k hI hk
  have e : rLack N k = (0 + (if oF N k 7 < 5 + oF N k 0 then 5 + oF N k 0 - oF N k 7 else 0)) + (if oF N k 8 < 5 + oF N k 0 then 5 + oF N k 0 - oF N k 8 else 0) := rfl
  rw [e]
  unfold fLack
  rw [hr_0 h hk, hr_7 h hk, hr_8 h hk, h3, h5, h7, lack1 a (by omega) b (by omega), lack1 a (by omega) c (by omega), Int32.zero_add]
theorem e_re (h : HR M 1 n (N 465)) (hI : IV (N 465) n) (hk : k < n) : fReady M (6 + 3 * k) = rReady N k := by
  unfold fReady rReady
  rw [e_bu h hk, e_la h hI hk]
theorem e_pr (h : HR M 1 n (N 465)) (hk : k < n) : fPrice M (6 + 3 * k) = rPrice N k := by
  unfold fPrice rPrice
  rw [hr_0 h hk, hr_1 h hk, Int32.mul_comm]
theorem mx_sw : ∀ a, a < 10 → ∀ b, b < 10 → (if nI a < nI b then nI b else nI a) = if nI b < nI a then nI a else nI b := by decide +kernel
theorem e_me (h : HR M 1 n (N 465)) (hI : IV (N 465) n) (hk : k < n) {q : Int32} : fMea M (6 + 3 * k) q = rMea N k q := by
  obtain ⟨-, -, -, -, -, -, -, ⟨a, h1, h2⟩, ⟨b, h3, h4⟩⟩ := iv_k hI hk
  unfold fMea rMea
  rw [hr_0 h hk, hr_1 h hk, hr_7 h hk, hr_8 h hk, hr_9 h hk, hr_10 h hk, e_pr h hk, h2, h4, mx_sw a (by omega) b (by omega)]
theorem e_in (h : HR M 1 n (N 465)) {p : Int32} : cntIn M p n = rMany N p n := itN_congr (fun i s hi => by rw [hr_2 h hi])
theorem nI_m1 {j : Nat} (h : j < 2000) : ¬ (-1 : Int32) = nI j := fun e => nI_nm1 h e.symm
theorem e_rk (h : HR M 1 n (N 465)) (hI : IV (N 465) n) {p : Nat} (hp : p < 4) : cntRk M (nI p) n = rOnR N (nI p) n := itN_congr (fun i s hi => by
  have ok := iv_k hI hi
  rw [hr_3 h hi]
  unfold rHang
  by_cases c : oF N i 2 = 2
  · rw [beq_iff_eq.mpr c]; rw [if_neg (show ¬ zb true = 0 by decide)]
  · rw [beq_eq_false_iff_ne.mpr c, if_pos (show zb false = 0 from rfl), (ok_3 ok c).1, if_neg (nI_m1 (by omega))])
theorem e_on (h : HR M 1 n (N 465)) (hI : IV (N 465) n) {p : Nat} {q : Int32} (hp : p < 4) : onHook M 1 (nI p) q n = rOn N (nI p) q n := findN_congr n 0 (fun i _ hi => by
  have hi : i < n := by omega
  have ok := iv_k hI hi
  show (M (6 + 3 * i) 5 == nI p && M (6 + 3 * i) 6 == q) = _
  rw [hr_3 h hi, hr_4 h hi]
  unfold rHang
  by_cases c : oF N i 2 = 2
  · rw [beq_iff_eq.mpr c, Bool.true_and]
  · rw [beq_eq_false_iff_ne.mpr c, Bool.false_and, (ok_3 ok c).1, beq_eq_false_iff_ne.mpr (nI_m1 (by omega)), Bool.false_and])
theorem e_bc (h : HR M 1 n (N 465)) : cntBu M n = rBuC N n := itN_congr (fun i s hi => by rw [e_bu h hi])
theorem gp_ia : ∀ a, a < 10 → ∀ b, b < 10 → iabs (nI a - nI b) = gp (nI a) (nI b) ∧ gp (nI a) (nI b) < 10 := by decide +kernel
theorem mn_am : ∀ a, a < 10 → ∀ b, b < 10 → (if nI a < nI b then nI a else nI b) = mn2 (nI a) (nI b) := by decide +kernel
theorem mn_99 : ∀ a, a < 10 → (if nI a < 10 then nI a else 10) = nI a ∧ mn2 (nI a) 99 = nI a := by decide +kernel
theorem gp_k : ∀ a, a < 10 → ∀ b, b < 10 → gp (nI a) (nI b) = nI (if a < b then b - a else a - b) := by decide +kernel
/-- how far the nearest is: 10 and 99 stand for none -/
theorem e_fa (h : HR M 1 n (N 465)) (hI : IV (N 465) n) {p q : Nat} (hp : p < 4) (hq : q < 10) {x : Int32} : (nearO M 1 (nI p) (nI q) x n = 10 ∧ rFar N x (nI p) (nI q) n = 99) ∨ ∃ d, d < 10 ∧ nearO M 1 (nI p) (nI q) x n = nI d ∧ rFar N x (nI p) (nI q) n = nI d := by
  have key : ∀ m, m ≤ n → (nearO M 1 (nI p) (nI q) x m = 10 ∧ rFar N x (nI p) (nI q) m = 99) ∨ ∃ d, d < 10 ∧ nearO M 1 (nI p) (nI q) x m = nI d ∧ rFar N x (nI p) (nI q) m = nI d := by
    intro m
    induction m with
    | zero => intro _; exact Or.inl ⟨rfl, rfl⟩
    | succ m ih =>
      intro hm
      have ih := ih (by omega)
      have hi : m < n := by omega
      have ok := iv_k hI hi
      have e1 : nearO M 1 (nI p) (nI q) x (m + 1) = if nI m = x then nearO M 1 (nI p) (nI q) x m else if M (6 + 3 * m) 5 = nI p then (if iabs (M (6 + 3 * m) 6 - nI q) < nearO M 1 (nI p) (nI q) x m then iabs (M (6 + 3 * m) 6 - nI q) else nearO M 1 (nI p) (nI q) x m) else nearO M 1 (nI p) (nI q) x m := rfl
      have e2 : rFar N x (nI p) (nI q) (m + 1) = if nI m = x then rFar N x (nI p) (nI q) m else if zb (rHang N m) = 0 then rFar N x (nI p) (nI q) m else if oF N m 3 = nI p then mn2 (gp (oF N m 4) (nI q)) (rFar N x (nI p) (nI q) m) else rFar N x (nI p) (nI q) m := rfl
      rw [e1, e2, hr_3 h hi, hr_4 h hi]
      by_cases c1 : nI m = x
      · rw [if_pos c1, if_pos c1]; exact ih
      rw [if_neg c1, if_neg c1]
      unfold rHang
      by_cases c2 : oF N m 2 = 2
      · rw [beq_iff_eq.mpr c2, if_neg (show ¬ zb true = 0 by decide)]
        by_cases c3 : oF N m 3 = nI p
        · rw [if_pos c3, if_pos c3]
          rcases ok.2.2.1 with ⟨_, p', q', hp', hq', e3, e4⟩ | ⟨h0, _⟩
          · rw [e4, (gp_ia q' hq' q hq).1, gp_k q' hq' q hq]
            obtain ⟨g, hg⟩ : ∃ g, g = if q' < q then q - q' else q' - q := ⟨_, rfl⟩
            have hg10 : g < 10 := by rw [hg]; split <;> omega
            rw [← hg]
            rcases ih with ⟨i1, i2⟩ | ⟨d, hd, i1, i2⟩
            · rw [i1, i2, (mn_99 g hg10).1, (mn_99 g hg10).2]
              exact Or.inr ⟨g, hg10, rfl, rfl⟩
            · rw [i1, i2, ← mn_am g hg10 d hd]
              by_cases c4 : nI g < nI d
              · rw [if_pos c4]; exact Or.inr ⟨g, hg10, rfl, rfl⟩
              · rw [if_neg c4]; exact Or.inr ⟨d, hd, rfl, rfl⟩
          · rcases h0 with h0 | h0 <;> exact absurd (h0.symm.trans c2) (by decide)
        · rw [if_neg c3, if_neg c3]; exact ih
      · rw [beq_eq_false_iff_ne.mpr c2, if_pos (show zb false = 0 from rfl), (ok_3 ok c2).1, if_neg (nI_m1 (by omega))]
        exact ih
  exact key n (Nat.le_refl _)
theorem ga_99 : ∀ a, a < 10 → ((10 : Int32) < 1 + nI a / 3) = False ∧ ((99 : Int32) < 1 + nI a / 3) = False := by
  intro a ha
  have : ∀ a, a < 10 → ¬ ((10 : Int32) < 1 + nI a / 3) ∧ ¬ ((99 : Int32) < 1 + nI a / 3) := by decide +kernel
  exact ⟨eq_false (this a ha).1, eq_false (this a ha).2⟩
theorem e_ne (h : HR M 1 n (N 465)) (hI : IV (N 465) n) (hk : k < n) : tooNear M 1 k n = rNear N k n := by
  have ok := iv_k hI hk
  have e0 : tooNear M 1 k n = (M (6 + 3 * k) 4 == 2 && decide (nearO M 1 (M (6 + 3 * k) 5) (M (6 + 3 * k) 6) (nI k) n < fGap M (6 + 3 * k))) := rfl
  rw [e0, hr_2 h hk, hr_3 h hk, hr_4 h hk, e_ga h hk]
  unfold rNear rHang
  by_cases c2 : oF N k 2 = 2
  · rw [beq_iff_eq.mpr c2, Bool.true_and, Bool.true_and]
    obtain ⟨a, a1, a2, a3⟩ := ok.1
    rcases ok.2.2.1 with ⟨_, p, q, hp, hq, e3, e4⟩ | ⟨h0, _⟩
    · rw [e3, e4]
      rcases e_fa h hI hp hq (x := nI k) with ⟨i1, i2⟩ | ⟨d, hd, i1, i2⟩
      · rw [i1, i2, a3, decide_eq_decide, (ga_99 a (by omega)).1, (ga_99 a (by omega)).2]
      · rw [i1, i2]
    · rcases h0 with h0 | h0 <;> exact absurd (h0.symm.trans c2) (by decide)
  · rw [beq_eq_false_iff_ne.mpr c2, Bool.false_and, Bool.false_and]
theorem e_he (h : HR M 1 n (N 465)) (hI : IV (N 465) n) {p : Nat} (hp : p < 4) : mx0 (M 1 3 - nI p) = rHeat N (nI p) := by
  have e : M 1 3 = N 465 1 := h.1 1 (by omega)
  obtain ⟨a, ha, e2⟩ := hI.2.2.1
  unfold rHeat
  rw [e, e2]
  have : ∀ a, a < 13 → ∀ p, p < 4 → mx0 (nI a - nI p) = if nI p < nI a then nI a - nI p else 0 := by decide +kernel
  exact this a (by omega) p hp
end P38
