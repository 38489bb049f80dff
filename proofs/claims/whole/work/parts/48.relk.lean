section P48
variable {M N K : MM} {n k c : Nat}
theorem vn_chr (x : Int32) : vp_nar .char x = chr x := rfl
theorem isC_chr (x : Int32) : isC (chr x) := chr_nar x
theorem vn_C {x : Int32} (h : isC x) : vp_nar .char x = x := by
  unfold isC at h
  unfold vp_nar
  rw [h]
theorem isC_vn (x : Int32) : isC (vp_nar .char x) := isC_chr x
/-- the written signs: the first m alike -/
def LR (M N : MM) (m : Nat) : Prop := (∀ j, j < m → M 463 j = N 471 j) ∧ (∀ j, isC (M 463 j)) ∧ ∀ j, isC (N 471 j)
theorem LR_step {m : Nat} {a b : Int32} (h : LR M N m) (e : chr a = chr (chr b)) : LR (lnA M m a) (wrS N m b) (m + 1) := by
  refine ⟨fun j hj => ?_, fun j => ?_, fun j => ?_⟩
  · show mst (mst M 463 m (vp_nar .char a)) 462 1 _ 463 j = mst (mst N 471 m (vp_nar .char (chr b))) 464 17 _ 471 j
    rw [mst_ne1 (show (463 : Nat) ≠ 462 by decide), mst_ne1 (show (471 : Nat) ≠ 464 by decide), vn_chr, vn_chr]
    by_cases c : j = m
    · subst c
      rw [mst_eq, mst_eq, e]
    · rw [mst_ne2 c, mst_ne2 c]
      exact h.1 j (by omega)
  · show isC (mst (mst M 463 m (vp_nar .char a)) 462 1 _ 463 j)
    rw [mst_ne1 (by decide)]
    by_cases c : j = m
    · subst c
      rw [mst_eq]; exact isC_vn _
    · rw [mst_ne2 c]; exact h.2.1 j
  · show isC (mst (mst N 471 m (vp_nar .char (chr b))) 464 17 _ 471 j)
    rw [mst_ne1 (by decide)]
    by_cases c : j = m
    · subst c
      rw [mst_eq]; exact isC_vn _
    · rw [mst_ne2 c]; exact h.2.2 j
theorem LR_eq {M' N' : MM} {m : Nat} (h : LR M N m) (h1 : M' 463 = M 463) (h2 : N' 471 = N 471) : LR M' N' m := by
  unfold LR at h ⊢
  rw [h1, h2]; exact h
theorem ln_rel : ∀ (xs : List Int32) (M N : MM) (m : Nat), LR M N m → LR (lnL M m (xs.map chr)) (wrL N m xs) (m + xs.length)
  | [], _, _, _, h => h
  | x :: xs, M, N, m, h => by
    have r := ln_rel xs (lnA M m (chr x)) (wrS N m x) (m + 1) (LR_step h rfl)
    have e : m + 1 + xs.length = m + (x :: xs).length := by simp; omega
    rw [e] at r
    exact r
theorem dgs_dg (v : Int32) : dgs v = (dgL v).map chr := by
  unfold dgs dgL
  split <;> rfl
theorem c47 : chr 47 = 47 ∧ chr 126 = 126 ∧ chr 33 = 33 ∧ chr 42 = 42 ∧ chr 46 = 46 := by decide
/-- a fish's line: the two alike -/
theorem li_eq (h : HR M 1 n (N 465)) (hI : IV (N 465) n) (hk : k < n) : liL M (6 + 3 * k) = (liX N k).map chr := by
  have o := iv_k hI hk
  unfold liL liX sdX sdL
  rw [hr_0 h hk, hr_1 h hk, hr_5 h hk, hr_7 h hk, hr_8 h hk, hr_9 h hk, hr_10 h hk]
  simp only [dgs_dg]
  rcases o.2.2.2.1 with e | e
  · have e0 : oF N k 5 = nI 0 := e
    have e1 : ¬ oF N k 5 = nI 1 := by rw [e]; decide
    rw [if_neg e1, if_pos e0, if_pos e, if_neg (show ¬ oF N k 5 = 1 from e1), if_neg (show ¬ (1 : Int32) = 0 by decide), if_pos (show (0 : Int32) = 0 from rfl)]
    simp [List.map_append, c47.1, c47.2.1, c47.2.2.1, c47.2.2.2.1]
  · have e0 : ¬ oF N k 5 = nI 0 := by rw [e]; decide
    have e1 : oF N k 5 = nI 1 := e
    rw [if_pos e1, if_neg e0, if_neg (show ¬ oF N k 5 = 0 from e0), if_pos e, if_neg (show ¬ (1 : Int32) = 0 by decide), if_pos (show (0 : Int32) = 0 from rfl)]
    simp [List.map_append, c47.1, c47.2.1, c47.2.2.1, c47.2.2.2.1]
theorem oneF_ok (h : HR M 1 n (N 465)) (hI : IV (N 465) n) (hk : k < n) : oneF M (6 + 3 * k) := by
  obtain ⟨⟨a, a1, a2, a3⟩, ⟨b, b1, b2⟩, -, o5, -, -, -, ⟨c, c1, c2⟩, ⟨d, d1, d2⟩⟩ := iv_k hI hk
  unfold oneF
  rw [hr_0 h hk, hr_1 h hk, hr_9 h hk, hr_10 h hk, hr_5 h hk, a3, b2, c2, d2]
  have t : ∀ x, x < 10 → ¬ 9 < nI x := by decide +kernel
  exact ⟨t a (by omega), t b (by omega), t c (by omega), t d (by omega), o5⟩
theorem liL_14 {a : Nat} (o : oneF M a) : (liL M a).length ≤ 14 := by
  obtain ⟨o1, o2, o3, o4, o5⟩ := o
  have d1 : ∀ v : Int32, ¬ 9 < v → (dgs v).length = 1 := fun v hv => by unfold dgs; rw [if_neg hv]; rfl
  unfold liL
  simp only [List.length_append, sd_len _ _ _ o3, sd_len _ _ _ o4, d1 _ o1, d1 _ o2, List.length_cons, List.length_nil]
  have e1 := dgs_len (M (a + 1) 0)
  have e2 := dgs_len (M (a + 2) 0)
  rcases o5 with e | e
  · rw [e, if_pos rfl, if_neg (show ¬ (1 : Int32) = 0 by decide), if_neg (show ¬ (0 : Int32) = 1 by decide), if_pos rfl]
    omega
  · rw [e, if_neg (show ¬ (1 : Int32) = 0 by decide), if_pos rfl, if_pos rfl, if_neg (show ¬ (1 : Int32) = 0 by decide)]
    omega
theorem rkS_s {p : Int32} {i : Nat} : rkS M p n (i + 1) = lnA (rkS M p n i) i (letterO (rkS M p n i) 1 p (nI i) n) := rfl
theorem rkW_s {p : Int32} {i : Nat} : rkW N p n (i + 1) = wrS (rkW N p n i) i (rkV (rkW N p n i) p (nI i) n) := rfl
theorem let_eq (h : HR M 1 n (N 465)) (hI : IV (N 465) n) {p : Nat} (hp : p < 4) {q : Int32} : letterO M 1 (nI p) q n = chr (rkV N (nI p) q n) := by
  have hn := hI.2.1
  unfold letterO rkV
  rw [e_on h hI hp]
  rcases findN_spec (fun i => rHang N i && (oF N i 3 == nI p && oF N i 4 == q)) n 0 with ⟨e, _⟩ | ⟨k, _, hk, e, _⟩
  · have e' : rOn N (nI p) q n = -1 := e
    rw [e', if_pos rfl, if_pos (show (-1 : Int32) < 0 by decide)]
    exact c47.2.2.2.2.symm
  · have e' : rOn N (nI p) q n = nI k := e
    have hk' : k < n := by omega
    rw [e', if_neg (nI_nm1 (by omega)), if_neg (nI_pos (by omega)), nI_cl (show k < 2000 by omega)]
    have eb : fBurnt M (1 + 5 + 3 * k) = rBurnt N k := e_bu h hk'
    rw [eb]
    by_cases z : zb (rBurnt N k) = 0
    · rw [if_pos z, if_pos z]
    · rw [if_neg z, if_neg z]
theorem rk_rel (h : HR M 1 n (N 465)) (hI : IV (N 465) n) {p : Nat} (hp : p < 4) (h0 : LR M N 0) : ∀ i, LR (rkS M (nI p) n i) (rkW N (nI p) n i) i
  | 0 => LR_eq h0 (show mst M 462 1 0 463 = M 463 from mst_fn (by decide)) (show mst N 464 17 0 471 = N 471 from mst_fn (by decide))
  | i + 1 => by
    have ih := rk_rel h hI hp h0 i
    have fM : ∀ x, x < 462 → rkS M (nI p) n i x = M x := fun x hx => rkS_fr (by omega) (by omega) i
    have fN : ∀ y, rkW N (nI p) n i 465 y = N 465 y := fun y => rkW_fr (by decide) (Or.inl (by decide)) i
    have h' : HR (rkS M (nI p) n i) 1 n (rkW N (nI p) n i 465) := HR_eq (fun x k h1 h2 => by rw [fM x (by omega)]) hI.2.1 (fun y _ => fN y) h
    have hI' : IV (rkW N (nI p) n i 465) n := IV_eq (fun y _ => fN y) hI
    rw [rkS_s, rkW_s]
    exact LR_step ih (by rw [let_eq h' hI' hp])
theorem place_eq (h : HR M 1 n (N 465)) (hI : IV (N 465) n) {q : Int32} {i : Nat} (hi : i < n) : placeO M 1 q (nI i) (fMea M (1 + 5 + 3 * i) q) n = rkC N n i q n := by
  unfold placeO rkC
  have em : ∀ j, j < n → fMea M (1 + 5 + 3 * j) q = rMea N j q := fun j hj => e_me h hI hj
  rw [em i hi]
  refine itN_congr (fun j s hj => ?_)
  rw [em j hj]
  by_cases a : rMea N i q < rMea N j q
  · rw [if_pos a, if_pos a]
  · rw [if_neg a, if_neg a]
    by_cases b : rMea N j q = rMea N i q
    · rw [if_pos b, if_pos b]
      by_cases d : nI j < nI i
      · rw [if_pos d, if_pos d]
      · rw [if_neg d, if_neg d]
    · rw [if_neg b, if_neg b, Int32.add_zero]
theorem rank_eq (h : HR M 1 n (N 465)) (hI : IV (N 465) n) {q v : Int32} : findN (fun i => placeO M 1 q (nI i) (fMea M (1 + 5 + 3 * i) q) n == v) n 0 = rRk N n q v := findN_congr n 0 (fun i _ hi => by rw [place_eq h hI (show i < n by omega)])
theorem farH_s {x : Int32} {p m : Nat} : farH M 1 x (nI p) n (m + 1) = if (farH M 1 x (nI p) n m).2 < nearO M 1 (nI p) (nI m) x n then (nI m, nearO M 1 (nI p) (nI m) x n) else farH M 1 x (nI p) n m := rfl
theorem rBest_s {x : Int32} {p m : Nat} : rBest N x (nI p) n (m + 1) = if (rBest N x (nI p) n m).2 < rFar N x (nI p) (nI m) n then (nI m, rFar N x (nI p) (nI m) n) else rBest N x (nI p) n m := rfl
theorem best_key (h : HR M 1 n (N 465)) (hI : IV (N 465) n) {p : Nat} (hp : p < 4) {x : Int32} : ∀ m, m ≤ 10 → (farH M 1 x (nI p) n m).1 = (rBest N x (nI p) n m).1 ∧ ((farH M 1 x (nI p) n m).1 = -1 ∨ ∃ d, d < 10 ∧ (farH M 1 x (nI p) n m).1 = nI d) ∧ (((farH M 1 x (nI p) n m).2 = 10 ∧ (rBest N x (nI p) n m).2 = 99) ∨ ∃ d, d < 10 ∧ (farH M 1 x (nI p) n m).2 = nI d ∧ (rBest N x (nI p) n m).2 = nI d) := by
  intro m
  induction m with
  | zero =>
    intro _
    have z1 : farH M 1 x (nI p) n 0 = (-1, 0) := rfl
    have z2 : rBest N x (nI p) n 0 = (-1, 0) := rfl
    rw [z1, z2]
    exact ⟨rfl, Or.inl rfl, Or.inr ⟨0, by omega, rfl, rfl⟩⟩
  | succ m ih =>
    intro hm
    obtain ⟨i1, i2, i3⟩ := ih (by omega)
    have eA := farH_s (M := M) (n := n) (x := x) (p := p) (m := m)
    have eB := rBest_s (N := N) (n := n) (x := x) (p := p) (m := m)
    rw [eA, eB]
    have big : ∀ d, d < 10 → nI d < 10 ∧ nI d < 99 ∧ ¬ (10 : Int32) < nI d ∧ ¬ (99 : Int32) < nI d := by decide +kernel
    rcases e_fa h hI hp (show m < 10 by omega) (x := x) with ⟨f1, f2⟩ | ⟨d, hd, f1, f2⟩
    · rw [f1, f2]
      rcases i3 with ⟨s1, s2⟩ | ⟨e, he, s1, s2⟩
      · rw [s1, s2, if_neg (by decide), if_neg (by decide)]
        exact ⟨i1, i2, Or.inl ⟨s1, s2⟩⟩
      · rw [s1, s2, if_pos (big e he).1, if_pos (big e he).2.1]
        exact ⟨rfl, Or.inr ⟨m, by omega, rfl⟩, Or.inl ⟨rfl, rfl⟩⟩
    · rw [f1, f2]
      rcases i3 with ⟨s1, s2⟩ | ⟨e, he, s1, s2⟩
      · rw [s1, s2, if_neg (big d hd).2.2.1, if_neg (big d hd).2.2.2]
        exact ⟨i1, i2, Or.inl ⟨s1, s2⟩⟩
      · rw [s1, s2]
        by_cases z : nI e < nI d
        · rw [if_pos z, if_pos z]
          exact ⟨rfl, Or.inr ⟨m, by omega, rfl⟩, Or.inr ⟨d, hd, rfl, rfl⟩⟩
        · rw [if_neg z, if_neg z]
          exact ⟨i1, i2, Or.inr ⟨e, he, s1, s2⟩⟩

theorem best_eq (h : HR M 1 n (N 465)) (hI : IV (N 465) n) {p : Nat} (hp : p < 4) {x : Int32} : (farH M 1 x (nI p) n 10).1 = (rBest N x (nI p) n 10).1 ∧ ((farH M 1 x (nI p) n 10).1 = -1 ∨ ∃ d, d < 10 ∧ (farH M 1 x (nI p) n 10).1 = nI d) := by
  obtain ⟨k1, k2, _⟩ := best_key h hI hp (x := x) 10 (Nat.le_refl _)
  exact ⟨k1, k2⟩
theorem crow_eq (h : HR M 1 n (N 465)) (hI : IV (N 465) n) : itN (fun i s => s + (if zb (tooNear M 1 i n) = 0 then 0 else 1)) (0 : Int32) n = rCrC N n := itN_congr (fun i s hi => by rw [e_ne h hI hi])
/-- the smoke of all -/
theorem smoke_eq (h : HR M 1 n (N 465)) (hI : IV (N 465) n) : ∃ d, d ≤ 80 * n ∧ smS M n = nI d ∧ itN (fun i s => s + rMea N i 2) (0 : Int32) n = nI d := by
  have key : ∀ m, m ≤ n → ∃ d, d ≤ 80 * m ∧ smS M m = nI d ∧ itN (fun i s => s + rMea N i 2) (0 : Int32) m = nI d := by
    intro m
    induction m with
    | zero => intro _; exact ⟨0, by omega, rfl, rfl⟩
    | succ m ih =>
      intro hm
      obtain ⟨d, h1, h2, h3⟩ := ih (by omega)
      have hi : m < n := by omega
      obtain ⟨-, -, -, -, -, ⟨a, a1, a2⟩, ⟨b, b1, b2⟩, -⟩ := iv_k hI hi
      have eA : smS M (m + 1) = smS M m + (M (6 + 3 * m + 1) 0 + M (6 + 3 * m + 2) 0) := rfl
      have eB : itN (fun i s => s + rMea N i 2) (0 : Int32) (m + 1) = itN (fun i s => s + rMea N i 2) (0 : Int32) m + (oF N m 7 + oF N m 8) := rfl
      rw [eA, eB, h2, h3, hr_7 h hi, hr_8 h hi, a2, b2, nI_add2, nI_add2]
      exact ⟨d + (a + b), by omega, rfl, rfl⟩
  exact key n (Nat.le_refl _)
theorem num_eq (h : HR M 1 n (N 465)) (hI : IV (N 465) n) (hk : k < n) {q : Nat} (hq : q < 9) : fNum M (6 + 3 * k) (nI q) = if nI q = 7 then 2 + oF N k 1 / 3 else if nI q = 8 then 1 + oF N k 0 / 3 else oF N k q := by
  have o := iv_k hI hk
  unfold fNum
  rw [hr_0 h hk, hr_1 h hk, hr_2 h hk, hr_3 h hk, hr_4 h hk, hr_5 h hk, hr_6 h hk, e_be h hk, e_ga h hk]
  match q, hq with
  | 0, _ | 1, _ | 2, _ | 3, _ | 4, _ | 5, _ => simp [nI]
  | 6, _ =>
    rw [if_neg (by decide), if_neg (by decide), if_neg (by decide), if_neg (by decide), if_neg (by decide), if_neg (by decide), if_pos (by decide), if_neg (show ¬ nI 6 = 7 by decide), if_neg (show ¬ nI 6 = 8 by decide)]
    rcases o.2.2.2.2.1 with e | e
    · rw [e, if_pos rfl]
    · rw [e, if_neg (by decide)]
  | 7, _ => rfl
  | 8, _ => rfl
end P48
