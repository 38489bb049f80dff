def rlP (p : Nat → Nat) : Prop := prm p ∧ ∀ i j, i < 8 → j < 8 → p i = p j → i = j
def rlH (M : MM) : Prop := ∃ n, HR M 1 n (M 465) ∧ IV (M 465) n
def rlK (M : MM) (p : Nat → Nat) (c : Nat) : Prop := c ≤ 8 ∧ M 464 6 = nI c ∧ M 124 1 = nI c ∧ ∀ j, j < c → ∃ m, HR M (p j) m (fun y => M 466 (140 * (c - 1 - j) + y)) ∧ IV (fun y => M 466 (140 * (c - 1 - j) + y)) m
def rlS (M : MM) : Prop := (M 0 9 = 0 ∧ M 464 5 = 0) ∨ (M 0 9 ≠ 0 ∧ M 464 5 ≠ 0 ∧ ∃ m, HR M 83 m (M 467) ∧ IV (M 467) m)
def rlR (M : MM) : Prop := RF M M ∧ M 454 1 = 0 ∧ M 464 7 = 0
def rlT (M : MM) : Prop := (∃ L, L ≤ 60 ∧ M 460 1 = nI L ∧ M 464 14 = nI L) ∧ (∀ k, isC (M 461 k)) ∧ M 470 = M 461 ∧ M 460 2 = M 464 15
def rlL (M : MM) : Prop := ∃ m, m ≤ 14 ∧ M 462 1 = nI m ∧ M 464 17 = nI m ∧ LR M M m
/-- the class's cells against the reference's -/
def REL (M : MM) (p : Nat → Nat) : Prop := rlP p ∧ rlH M ∧ (∃ c, rlK M p c) ∧ rlS M ∧ rlR M ∧ rlT M ∧ rlL M
section P49
variable {M M' N A U : MM} {n k c m : Nat} {p : Nat → Nat} {f : Nat → Int32}
theorem HR_fn {M M' : MM} {b n : Nat} {f f' : Nat → Int32} (hM : ∀ x, b ≤ x → x < b + 41 → M' x = M x) (hn : n ≤ 12) (hf : ∀ y, y < 140 → f' y = f y) (o : HR M b n f) : HR M' b n f' := HR_eq (fun x k h1 h2 => by rw [hM x h1 h2]) hn hf o
theorem rlH_eq (h1 : ∀ x, 1 ≤ x → x < 42 → M' x = M x) (h2 : ∀ y, y < 140 → M' 465 y = M 465 y) (h : rlH M) : rlH M' := by
  obtain ⟨n, a, b⟩ := h
  exact ⟨n, HR_fn (fun x x1 x2 => h1 x x1 (by omega)) b.2.1 h2 a, IV_eq h2 b⟩
theorem pr_b (hp : prm p) (hj : k < 8) : 126 ≤ p k ∧ p k + 41 ≤ 454 := ⟨(hp k hj).2, isH_454 (hp k hj).1⟩
theorem rlK_eq (hp : prm p) (h1 : ∀ x, 126 ≤ x → x < 454 → M' x = M x) (h2 : M' 124 1 = M 124 1) (h3 : M' 464 6 = M 464 6) (h4 : M' 466 = M 466) (h : rlK M p c) : rlK M' p c := by
  obtain ⟨a1, a2, a3, a4⟩ := h
  refine ⟨a1, h3.trans a2, h2.trans a3, fun j hj => ?_⟩
  obtain ⟨m, b1, b2⟩ := a4 j hj
  have q := pr_b hp (show j < 8 by omega)
  rw [h4]
  exact ⟨m, HR_fn (fun x x1 x2 => h1 x (by omega) (by omega)) b2.2.1 (fun _ _ => rfl) b1, b2⟩
theorem rlS_eq (h1 : M' 0 9 = M 0 9) (h2 : M' 464 5 = M 464 5) (h3 : ∀ x, 83 ≤ x → x < 124 → M' x = M x) (h4 : M' 467 = M 467) (h : rlS M) : rlS M' := by
  unfold rlS at h ⊢
  rw [h1, h2, h4]
  rcases h with h | ⟨a, b, m, c, d⟩
  · exact Or.inl h
  · exact Or.inr ⟨a, b, m, HR_fn (fun x x1 x2 => h3 x x1 (by omega)) d.2.1 (fun _ _ => rfl) c, d⟩
theorem rlR_eq (h1 : ∀ k, M' 454 k = M 454 k) (h2 : ∀ y, (y = 7 ∨ y = 10 ∨ y = 11 ∨ y = 12) → M' 464 y = M 464 y) (h : rlR M) : rlR M' := ⟨RF_eq (fun k _ => h1 k) (fun y hy => h2 y (by omega)) h.1, (h1 1).trans h.2.1, (h2 7 (by omega)).trans h.2.2⟩
theorem rlT_eq (h1 : M' 460 1 = M 460 1) (h2 : M' 460 2 = M 460 2) (h3 : M' 461 = M 461) (h4 : M' 470 = M 470) (h5 : M' 464 14 = M 464 14) (h6 : M' 464 15 = M 464 15) (h : rlT M) : rlT M' := by
  unfold rlT at h ⊢
  rw [h1, h2, h3, h4, h5, h6]; exact h
theorem rlL_eq (h1 : M' 462 1 = M 462 1) (h2 : M' 464 17 = M 464 17) (h3 : M' 463 = M 463) (h4 : M' 471 = M 471) (h : rlL M) : rlL M' := by
  unfold rlL LR at h ⊢
  rw [h1, h2, h3, h4]; exact h
/-- a question -/
theorem REL_q (hx : ∀ x, (x < 457 ∨ (460 ≤ x ∧ x < 464) ∨ (465 ≤ x ∧ x ≠ 468 ∧ x ≠ 469)) → M' x = M x) (h4 : ∀ k, k ≠ 8 → k ≠ 9 → M' 464 k = M 464 k) (h : REL M p) : REL M' p := by
  obtain ⟨a, b, ⟨c, d⟩, e, f, g, i⟩ := h
  refine ⟨a, rlH_eq (fun x _ _ => hx x (by omega)) (fun y _ => by rw [hx 465 (by omega)]) b, ⟨c, rlK_eq a.1 (fun x _ _ => hx x (by omega)) (by rw [hx 124 (by omega)]) (h4 6 (by omega) (by omega)) (hx 466 (by omega)) d⟩, rlS_eq (by rw [hx 0 (by omega)]) (h4 5 (by omega) (by omega)) (fun x _ _ => hx x (by omega)) (hx 467 (by omega)) e,
    rlR_eq (fun k => by rw [hx 454 (by omega)]) (fun y hy => h4 y (by omega) (by omega)) f, rlT_eq (by rw [hx 460 (by omega)]) (by rw [hx 460 (by omega)]) (hx 461 (by omega)) (hx 470 (by omega)) (h4 14 (by omega) (by omega)) (h4 15 (by omega) (by omega)) g, rlL_eq (by rw [hx 462 (by omega)]) (h4 17 (by omega) (by omega)) (hx 463 (by omega)) (hx 471 (by omega)) i⟩
theorem REL_9 {v : Int32} (h : REL M p) : REL (mst M 464 9 v) p := REL_q (fun x hx => mst_fn (by omega)) (fun k _ h9 => mst_ne2 h9) h
/-- a house copied -/
theorem HR_hcp {a b : Nat} (hap : a + 41 ≤ b ∨ b + 41 ≤ a) (hn : n ≤ 12) (h : HR M b n f) : HR (hcp M a b n) a n f := by
  refine ⟨fun j hj => ?_, fun i hi w hw => ?_⟩
  · rw [hcp_fr n (by omega), ← h.1 j hj]
    unfold hcp0
    rw [if_pos ⟨rfl, by omega, by omega⟩]
  · rw [← h.2 i hi w hw]
    obtain ⟨q1, q2, q3⟩ := hcp_fish (M := M) hap n hn i hi
    match w, hw with
    | 0, _ | 1, _ | 2, _ | 3, _ | 4, _ | 5, _ | 6, _ => exact q1 _ (by omega) (by omega)
    | 7, _ => exact q2 0 (by omega)
    | 8, _ => exact q3 0 (by omega)
    | 9, _ => exact q2 1 (by omega)
    | 10, _ => exact q3 1 (by omega)
/-- the rows kept, one more -/
theorem kp_row {a : Nat} (ha : a ≠ 466 ∧ a ≠ 464) (hc : c ≤ 8) (h7 : N 464 7 = 0) : kpR N a c 464 6 = nI ((if c = 8 then 7 else c) + 1) ∧ kpR N a c 464 9 = 0 ∧ (∀ y, y < 140 → kpR N a c 466 (140 * (if c = 8 then 7 else c) + y) = N a y) ∧ ∀ i y, i < (if c = 8 then 7 else c) → y < 140 → kpR N a c 466 (140 * i + y) = N 466 (140 * (if c = 8 then i + 1 else i) + y) := by
  unfold kpR
  rw [if_pos h7]
  by_cases e : c = 8
  · rw [if_pos e, if_pos e]
    refine ⟨by unfold kpC; rw [mst_eq], ?_, fun y hy => ?_, fun i y hi hy => ?_⟩
    · unfold kpC
      rw [mst_ne2 (by decide), cpR_ne (by decide), mst_ne2 (by decide)]
      unfold kpS
      rw [if_neg (by omega), mst_eq]
    · unfold kpC
      rw [mst_ne1 (by decide), cpR, if_pos (by omega), mst_ne1 ha.2]
      unfold kpS
      rw [if_neg (fun z => ha.1 z.1), mst_ne1 ha.2, show 0 + (140 * 7 + y - 140 * 7) = y by omega]
    · unfold kpC
      rw [mst_ne1 (by decide), cpR, if_neg (by omega), mst_ne1 (by decide)]
      unfold kpS
      rw [if_pos (by omega), mst_ne1 (by decide), if_pos e]
      congr 1
      omega
  · rw [if_neg e, if_neg e]
    refine ⟨by unfold kpC; rw [mst_eq], ?_, fun y hy => ?_, fun i y hi hy => ?_⟩
    · unfold kpC
      rw [mst_ne2 (by decide), cpR_ne (by decide), mst_eq]
    · unfold kpC
      rw [mst_ne1 (by decide), cpR, if_pos (by omega), mst_ne1 ha.2, show 0 + (140 * c + y - 140 * c) = y by omega]
    · unfold kpC
      rw [mst_ne1 (by decide), cpR, if_neg (by omega), mst_ne1 (by decide), if_neg e]
theorem rotR_P (h : rlP p) : rlP (rotR p) := by
  obtain ⟨h1, h2⟩ := h
  refine ⟨fun k hk => ?_, fun i j hi hj e => ?_⟩
  · unfold rotR
    split
    · exact h1 7 (by omega)
    · first | exact h1 _ (by omega) | (rw [if_pos hk]; exact h1 _ (by omega))
  · unfold rotR at e
    by_cases z1 : i = 0
    · by_cases z2 : j = 0
      · omega
      · rw [if_pos z1, if_neg z2, if_pos hj] at e
        have := h2 7 (j - 1) (by omega) (by omega) e
        omega
    · by_cases z2 : j = 0
      · rw [if_neg z1, if_pos z2, if_pos hi] at e
        have := h2 (i - 1) 7 (by omega) (by omega) e
        omega
      · rw [if_neg z1, if_neg z2, if_pos hi, if_pos hj] at e
        have := h2 (i - 1) (j - 1) (by omega) (by omega) e
        omega
theorem rotL_P (h : rlP p) : rlP (rotL p) := by
  obtain ⟨h1, h2⟩ := h
  refine ⟨fun k hk => ?_, fun i j hi hj e => ?_⟩
  · unfold rotL
    split
    · exact h1 0 (by omega)
    · first | exact h1 _ (by omega) | (rw [if_pos (by omega)]; exact h1 _ (by omega))
  · unfold rotL at e
    by_cases z1 : i = 7
    · by_cases z2 : j = 7
      · omega
      · rw [if_pos z1, if_neg z2, if_pos (by omega)] at e
        have := h2 0 (j + 1) (by omega) (by omega) e
        omega
    · by_cases z2 : j = 7
      · rw [if_neg z1, if_pos z2, if_pos (by omega)] at e
        have := h2 (i + 1) 0 (by omega) (by omega) e
        omega
      · rw [if_neg z1, if_neg z2, if_pos (by omega), if_pos (by omega)] at e
        have := h2 (i + 1) (j + 1) (by omega) (by omega) e
        omega
/-- a change kept: the histories alike again -/
theorem rlK_keep {a : Nat} (hP : rlP p) (hK : rlK M p c) (hA : ∀ x, (x = 124 ∨ (126 ≤ x ∧ x < 454)) → A x = M x) (h42 : HR A 42 n f) (hn : n ≤ 12) (hI : IV f n) (ha : a ≠ 466 ∧ a ≠ 464) (u6 : U 466 = M 466) (u7 : U 464 7 = 0) (uf : ∀ y, y < 140 → U a y = f y)
    (m1 : ∀ x, x < 464 → M' x = keepM A p n x) (m2 : ∀ y, M' 466 y = kpR U a c 466 y) (m3 : M' 464 6 = kpR U a c 464 6) : rlK M' (rotR p) ((if c = 8 then 7 else c) + 1) := by
  obtain ⟨k1, k2, k3, k4⟩ := hK
  obtain ⟨q1, q2, q3, q4⟩ := kp_row (N := U) ha k1 u7
  have p7 := pr_b hP.1 (show 7 < 8 by omega)
  have am8 : ∀ c, c < 9 → am (nI c + 1) 8 = nI ((if c = 8 then 7 else c) + 1) := by decide +kernel
  refine ⟨by split <;> omega, m3.trans q1, ?_, fun j hj => ?_⟩
  · rw [m1 124 (by omega), keepM, mst_eq, hA 124 (by omega), k3]
    exact am8 c (by omega)
  · by_cases z : j = 0
    · subst z
      have e0 : rotR p 0 = p 7 := rfl
      rw [e0]
      refine ⟨n, HR_fn (M := hcp A (p 7) 42 n) (fun x x1 x2 => ?_) hn (fun y hy => ?_) (HR_hcp (by omega) hn h42), IV_eq (fun y hy => ?_) hI⟩
      · rw [m1 x (by omega), keepM, mst_fn (by omega)]
      · show M' 466 (140 * ((if c = 8 then 7 else c) + 1 - 1 - 0) + y) = f y
        rw [show (if c = 8 then 7 else c) + 1 - 1 - 0 = (if c = 8 then 7 else c) by omega, m2, q3 y hy, uf y hy]
      · show M' 466 (140 * ((if c = 8 then 7 else c) + 1 - 1 - 0) + y) = f y
        rw [show (if c = 8 then 7 else c) + 1 - 1 - 0 = (if c = 8 then 7 else c) by omega, m2, q3 y hy, uf y hy]
    · have j8 : j < 8 := by split at hj <;> omega
      have ej : rotR p j = p (j - 1) := by unfold rotR; rw [if_neg z, if_pos j8]
      have jc : j - 1 < c := by split at hj <;> omega
      obtain ⟨m, b1, b2⟩ := k4 (j - 1) jc
      have pj := pr_b hP.1 (show j - 1 < 8 by omega)
      have dj : p (j - 1) ≠ p 7 := fun e => by have := hP.2 (j - 1) 7 (by omega) (by omega) e; split at hj <;> omega
      have ap := isH_apart (hP.1 (j - 1) (by omega)).1 (hP.1 7 (by omega)).1 dj
      have rowE : ∀ y, y < 140 → M' 466 (140 * ((if c = 8 then 7 else c) + 1 - 1 - j) + y) = M 466 (140 * (c - 1 - (j - 1)) + y) := fun y hy => by
        rw [m2, q4 _ y (by split <;> omega) hy, u6]
        congr 1
        split <;> omega
      rw [ej]
      exact ⟨m, HR_fn (fun x x1 x2 => by rw [m1 x (by omega), keepM, mst_fn (by omega), hcp_out hn (by omega)]; exact hA x (by omega)) b2.2.1 rowE b1, IV_eq rowE b2⟩
theorem keep_fn (hP : rlP p) (hn : n ≤ 12) {x : Nat} (h : x ≠ 124) (h2 : x < 126 ∨ 454 ≤ x) : keepM A p n x = A x := by
  have p7 := pr_b hP.1 (show 7 < 8 by omega)
  rw [keepM, mst_fn h, hcp_out hn (by omega)]
/-- a change, of the class and of the reference -/
theorem rel_ch (h : REL M p) (h1 : HR M 1 n (M 465)) (hI : IV (M 465) n) (hc : rlK M p c) {w : Int32 × MM} {t : MM → Int32 × MM} {M1 : MM} {p1 : Nat → Nat} (eM : M1 = if w.1 = -1 then w.2 else keepM w.2 p n) (eP : p1 = if w.1 = -1 then p else rotR p) (hCH : ∀ N, (∀ y, N 465 y = M 465 y) → CH (hcp M 42 1 n) N c w (t N)) :
    (t M1).2 464 9 = (if w.1 = -1 then 1 else 0) ∧ (w.1 ≠ -1 → (t M1).1 = w.1) ∧ REL (t M1).2 p1 := by
  have hn := hI.2.1
  obtain ⟨hP, -, -, hS, hR, hT, hL⟩ := h
  have Mh : ∀ x, (x < 42 ∨ 83 ≤ x) → hcp M 42 1 n x = M x := fun x hx => hcp_out hn (by omega)
  have fw : ∀ x, (x = 0 ∨ 42 ≤ x) → x ≠ 454 → w.2 x = hcp M 42 1 n x := fun x hx h454 => by
    rcases hCH M (fun _ => rfl) with ⟨u, v, _, e, _⟩ | ⟨_, _, a3, _⟩
    · rw [e]
      show ksR _ u v x = _
      unfold ksR
      rw [mst_fn h454, mst_fn h454, mst_fn h454, mst_fn h454]
    · exact a3 x hx
  by_cases cw : w.1 = -1
  · rw [if_pos cw] at eM eP ⊢
    subst eP
    have M1x : ∀ x, 83 ≤ x → x ≠ 454 → M1 x = M x := fun x hx h4 => by rw [eM, fw x (by omega) h4, Mh x (by omega)]
    rcases hCH M1 (fun y => by rw [M1x 465 (by omega) (by omega)]) with ⟨u, v, hu, e1, e2⟩ | ⟨_, a2, _⟩
    · have e4 : (t M1).2 = rfM M1 u v := by rw [e2]
      rw [e4]
      have e3 : M1 = ksR (hcp M 42 1 n) u v := by rw [eM, e1]
      have k454 : ∀ k, (ksR (hcp M 42 1 n) u v) 454 k = M1 454 k := fun k => by rw [e3]
      have M1y : ∀ x, (x < 42 ∨ 83 ≤ x) → x ≠ 454 → M1 x = M x := fun x hx h4 => by
        rw [e3]
        unfold ksR
        rw [mst_fn h4, mst_fn h4, mst_fn h4, mst_fn h4, Mh x hx]
      have R4 : ∀ x, x ≠ 464 → rfM M1 u v x = M1 x := fun x hx => by
        show mst (mst (mst (mst M1 464 9 1) 464 10 u) 464 11 v) 464 12 _ x = M1 x
        rw [mst_fn hx, mst_fn hx, mst_fn hx, mst_fn hx]
      have R5 : ∀ y, (y ≠ 9 ∧ y ≠ 10 ∧ y ≠ 11 ∧ y ≠ 12) → rfM M1 u v 464 y = M 464 y := fun y hy => by
        rw [rfM_fr (Or.inr hy), M1y 464 (by omega) (by omega)]
      refine ⟨?_, fun z => absurd cw z, hP, ?_, ⟨c, ?_⟩, ?_, ⟨?_, ?_, ?_⟩, ?_, ?_⟩
      · show mst (mst (mst (mst M1 464 9 1) 464 10 u) 464 11 v) 464 12 _ 464 9 = 1
        rw [mst_ne2 (by decide), mst_ne2 (by decide), mst_ne2 (by decide), mst_eq]
      · exact rlH_eq (fun x x1 x2 => by rw [R4 x (by omega), M1y x (by omega) (by omega)]) (fun y _ => by rw [R4 465 (by omega), M1y 465 (by omega) (by omega)]) ⟨n, h1, hI⟩
      · exact rlK_eq hP.1 (fun x x1 x2 => by rw [R4 x (by omega), M1y x (by omega) (by omega)]) (by rw [R4 124 (by omega), M1y 124 (by omega) (by omega)]) (R5 6 (by omega)) (by rw [R4 466 (by omega), M1y 466 (by omega) (by omega)]) hc
      · exact rlS_eq (by rw [R4 0 (by omega), M1y 0 (by omega) (by omega)]) (R5 5 (by omega)) (fun x x1 x2 => by rw [R4 x (by omega), M1y x (by omega) (by omega)]) (by rw [R4 467 (by omega), M1y 467 (by omega) (by omega)]) hS
      · refine RF_eq (M := ksR (hcp M 42 1 n) u v) (N := rfM M1 u v) (fun k _ => by rw [R4 454 (by omega), e3]) (fun _ _ => rfl) (RF_ks hu ?_)
        rw [Mh 454 (by omega), hR.2.1, M1y 464 (by omega) (by omega), if_pos hR.2.2]
      · rw [R4 454 (by omega), e3]
        unfold ksR
        rw [mst_ne2 (by decide), mst_ne2 (by decide), mst_ne2 (by decide), mst_ne2 (by decide), Mh 454 (by omega)]
        exact hR.2.1
      · rw [R5 7 (by omega)]; exact hR.2.2
      · exact rlT_eq (by rw [R4 460 (by omega), M1y 460 (by omega) (by omega)]) (by rw [R4 460 (by omega), M1y 460 (by omega) (by omega)]) (by rw [R4 461 (by omega), M1y 461 (by omega) (by omega)]) (by rw [R4 470 (by omega), M1y 470 (by omega) (by omega)]) (R5 14 (by omega)) (R5 15 (by omega)) hT
      · exact rlL_eq (by rw [R4 462 (by omega), M1y 462 (by omega) (by omega)]) (R5 17 (by omega)) (by rw [R4 463 (by omega), M1y 463 (by omega) (by omega)]) (by rw [R4 471 (by omega), M1y 471 (by omega) (by omega)]) hL
    · exact absurd cw a2
  · rw [if_neg cw] at eM eP ⊢
    subst eP
    have M1f : ∀ x, x ≠ 124 → (x < 126 ∨ 454 ≤ x) → M1 x = w.2 x := fun x a b => by rw [eM]; exact keep_fn hP hn a b
    have row : ∀ y, M1 465 y = M 465 y := fun y => by rw [M1f 465 (by omega) (by omega), fw 465 (by omega) (by omega), Mh 465 (by omega)]
    rcases hCH M1 row with ⟨u, v, _, e1, _⟩ | ⟨a1, a2, a3, a4, n', a5, a6⟩
    · exact absurd (by rw [e1]) cw
    · obtain ⟨M2, e2⟩ : ∃ M2, M2 = (t M1).2 := ⟨_, rfl⟩
      rw [← e2] at a4 a5 a6 ⊢
      have w2 : ∀ x, 83 ≤ x → w.2 x = M x := fun x hx => by rw [a3 x (by omega), Mh x (by omega)]
      have M1g : ∀ x, x ≠ 124 → ((83 ≤ x ∧ x < 126) ∨ 454 ≤ x) → M1 x = M x := fun x a b => by rw [M1f x a (by omega), w2 x (by omega)]
      have Kx : ∀ x, x ≠ 464 → x ≠ 465 → x ≠ 466 → M2 x = M1 x := fun x g1 g2 g3 => funext fun y => (a4 x y g2).trans (kpR_fr g3 (Or.inl g1))
      have K4 : ∀ y, y ≠ 6 → y ≠ 9 → M2 464 y = M 464 y := fun y g1 g2 => by rw [a4 464 y (by decide), kpR_fr (by decide) (Or.inr ⟨g2, g1⟩), M1g 464 (by omega) (by omega)]
      have w0 : w.2 0 = M 0 := by rw [a3 0 (by omega), Mh 0 (by omega)]
      have q := kp_row (N := M1) (a := 465) ⟨by decide, by decide⟩ hc.1 (by rw [M1g 464 (by omega) (by omega)]; exact hR.2.2)
      refine ⟨(a4 464 9 (by decide)).trans q.2.1, fun _ => a1.symm, rotR_P hP, ⟨n', ?_, a6⟩, ⟨(if c = 8 then 7 else c) + 1, ?_⟩, ?_, ?_, ?_, ?_⟩
      · exact HR_fn (fun x x1 x2 => by rw [Kx x (by omega) (by omega) (by omega), M1f x (by omega) (by omega)]) a6.2.1 (fun _ _ => rfl) a5
      · refine rlK_keep (a := 465) (A := w.2) (U := M1) (f := M 465) (n := n) hP hc (fun x hx => w2 x (by omega)) ?_ hn hI ⟨by decide, by decide⟩ (M1g 466 (by omega) (by omega)) (by rw [M1g 464 (by omega) (by omega)]; exact hR.2.2) (fun y _ => row y) (fun x hx => by rw [Kx x (by omega) (by omega) (by omega), eM]) (fun y => a4 466 y (by decide)) (a4 464 6 (by decide))
        exact HR_fn (fun x x1 x2 => a3 x (by omega)) hn (fun _ _ => rfl) (HR_hcp (by omega) hn h1)
      · exact rlS_eq (by rw [Kx 0 (by omega) (by omega) (by omega), M1f 0 (by omega) (by omega), w0]) (K4 5 (by omega) (by omega)) (fun x x1 x2 => by rw [Kx x (by omega) (by omega) (by omega), M1g x (by omega) (by omega)]) (by rw [Kx 467 (by omega) (by omega) (by omega), M1g 467 (by omega) (by omega)]) hS
      · exact rlR_eq (fun k => by rw [Kx 454 (by omega) (by omega) (by omega), M1g 454 (by omega) (by omega)]) (fun y hy => K4 y (by omega) (by omega)) hR
      · exact rlT_eq (by rw [Kx 460 (by omega) (by omega) (by omega), M1g 460 (by omega) (by omega)]) (by rw [Kx 460 (by omega) (by omega) (by omega), M1g 460 (by omega) (by omega)]) (by rw [Kx 461 (by omega) (by omega) (by omega), M1g 461 (by omega) (by omega)]) (by rw [Kx 470 (by omega) (by omega) (by omega), M1g 470 (by omega) (by omega)]) (K4 14 (by omega) (by omega)) (K4 15 (by omega) (by omega)) hT
      · exact rlL_eq (by rw [Kx 462 (by omega) (by omega) (by omega), M1g 462 (by omega) (by omega)]) (K4 17 (by omega) (by omega)) (by rw [Kx 463 (by omega) (by omega) (by omega), M1g 463 (by omega) (by omega)]) (by rw [Kx 471 (by omega) (by omega) (by omega), M1g 471 (by omega) (by omega)]) hL
/-- what a change leaves alone, of the class -/
theorem ch_fr (hP : rlP p) (hn : n ≤ 12) {w : Int32 × MM} {t : MM → Int32 × MM} {M1 : MM} (eM : M1 = if w.1 = -1 then w.2 else keepM w.2 p n) (hCH : CH (hcp M 42 1 n) M c w (t M)) : ∀ x, 455 ≤ x → M1 x = M x := fun x hx => by
  have fw : w.2 x = M x := by
    rcases hCH with ⟨u, v, _, e, _⟩ | ⟨_, _, a3, _⟩
    · rw [e]
      show ksR _ u v x = _
      unfold ksR
      rw [mst_fn (by omega), mst_fn (by omega), mst_fn (by omega), mst_fn (by omega), hcp_out hn (by omega)]
    · rw [a3 x (by omega), hcp_out hn (by omega)]
  rw [eM]
  split
  · exact fw
  · rw [keep_fn hP hn (by omega) (by omega)]; exact fw
theorem rel_flg {b : Nat} (h : HR M b n f) (hI : IV f n) : flg M b n := fun i hi => by
  have e : M (b + 5 + 3 * i) 8 = f (8 + 11 * i + 6) := h.2 i hi 6 (by omega)
  rw [e]
  exact (hI.2.2.2.2 i hi).2.2.2.2.1
/-- the change before last, taken back -/
theorem rel_un (h : REL M p) (hK : rlK M p (c + 1)) (hm : M (p 0) 2 = nI m) (hm12 : m ≤ 12) {M1 : MM} (e1 : M1 = mst (hcp M 1 (p 0) m) 124 1 (mx0 (M 124 1 - 1))) : mx0 (M 124 1 - 1) = nI c ∧ REL (cpR (mst (mst M1 464 9 0) 464 6 (nI c)) 466 (140 * c) 465 0 140) (rotL p) := by
  obtain ⟨hP, -, -, hS, hR, hT, hL⟩ := h
  obtain ⟨k1, k2, k3, k4⟩ := hK
  have p0 := pr_b hP.1 (show 0 < 8 by omega)
  obtain ⟨m', b1, b2⟩ := k4 0 (by omega)
  have em : m' = m := by
    have := (b1.1 0 (by omega)).trans b2.1
    exact (nI_eq (by have := b2.2.1; omega) (by omega)).mp (this.symm.trans hm)
  subst em
  have sc : ∀ c, c < 8 → mx0 (nI (c + 1) - 1) = nI c := by decide +kernel
  have ec : mx0 (M 124 1 - 1) = nI c := by rw [k3]; exact sc c (by omega)
  rw [ec] at e1
  refine ⟨ec, ?_⟩
  obtain ⟨M2, e2⟩ : ∃ M2, M2 = cpR (mst (mst M1 464 9 0) 464 6 (nI c)) 466 (140 * c) 465 0 140 := ⟨_, rfl⟩
  rw [← e2]
  have M1x : ∀ x, (x = 0 ∨ 42 ≤ x) → x ≠ 124 → M1 x = M x := fun x hx h1 => by rw [e1, mst_fn h1, hcp_out hm12 (by omega)]
  have Kx : ∀ x, x ≠ 464 → x ≠ 465 → M2 x = M1 x := fun x g1 g2 => funext fun y => by rw [e2, cpR_ne g2, mst_ne1 g1, mst_ne1 g1]
  have K4 : ∀ y, y ≠ 6 → y ≠ 9 → M2 464 y = M 464 y := fun y g1 g2 => by rw [e2, cpR_ne (by decide), mst_ne2 g1, mst_ne2 g2, M1x 464 (by omega) (by omega)]
  have row : ∀ y, y < 140 → M2 465 y = M 466 (140 * c + y) := fun y hy => by
    rw [e2, cpR, if_pos (by omega), mst_ne1 (by decide), mst_ne1 (by decide), M1x 466 (by omega) (by omega)]
    congr 1
  refine ⟨rotL_P hP, ⟨m', HR_fn (M := hcp M 1 (p 0) m') (fun x x1 x2 => by rw [Kx x (by omega) (by omega), e1, mst_fn (by omega)]) hm12 (fun y hy => row y hy) (HR_hcp (by omega) hm12 b1), IV_eq row b2⟩, ⟨c, by omega, ?_, ?_, fun j hj => ?_⟩, ?_, ?_, ?_, ?_⟩
  · rw [e2, cpR_ne (by decide), mst_eq]
  · rw [Kx 124 (by omega) (by omega), e1, mst_eq]
  · have ej : rotL p j = p (j + 1) := by unfold rotL; rw [if_neg (by omega), if_pos (by omega)]
    obtain ⟨m2, d1, d2⟩ := k4 (j + 1) (by omega)
    have pj := pr_b hP.1 (show j + 1 < 8 by omega)
    have rowE : ∀ y, y < 140 → M2 466 (140 * (c - 1 - j) + y) = M 466 (140 * (c + 1 - 1 - (j + 1)) + y) := fun y hy => by
      rw [Kx 466 (by omega) (by omega), M1x 466 (by omega) (by omega)]
      congr 1
      omega
    rw [ej]
    exact ⟨m2, HR_fn (fun x x1 x2 => by rw [Kx x (by omega) (by omega), M1x x (by omega) (by omega)]) d2.2.1 rowE d1, IV_eq rowE d2⟩
  · exact rlS_eq (by rw [Kx 0 (by omega) (by omega), M1x 0 (by omega) (by omega)]) (K4 5 (by omega) (by omega)) (fun x x1 x2 => by rw [Kx x (by omega) (by omega), M1x x (by omega) (by omega)]) (by rw [Kx 467 (by omega) (by omega), M1x 467 (by omega) (by omega)]) hS
  · exact rlR_eq (fun k => by rw [Kx 454 (by omega) (by omega), M1x 454 (by omega) (by omega)]) (fun y hy => K4 y (by omega) (by omega)) hR
  · exact rlT_eq (by rw [Kx 460 (by omega) (by omega), M1x 460 (by omega) (by omega)]) (by rw [Kx 460 (by omega) (by omega), M1x 460 (by omega) (by omega)]) (by rw [Kx 461 (by omega) (by omega), M1x 461 (by omega) (by omega)]) (by rw [Kx 470 (by omega) (by omega), M1x 470 (by omega) (by omega)]) (K4 14 (by omega) (by omega)) (K4 15 (by omega) (by omega)) hT
  · exact rlL_eq (by rw [Kx 462 (by omega) (by omega), M1x 462 (by omega) (by omega)]) (K4 17 (by omega) (by omega)) (by rw [Kx 463 (by omega) (by omega), M1x 463 (by omega) (by omega)]) (by rw [Kx 471 (by omega) (by omega), M1x 471 (by omega) (by omega)]) hL
theorem rel_sv (h : REL M p) (h1 : HR M 1 n (M 465)) (hI : IV (M 465) n) {M1 : MM} (e1 : M1 = mst (hcp M 83 1 n) 0 9 1) : REL (cpR (mst (mst M1 464 9 0) 464 5 1) 465 0 467 0 140) p := by
  obtain ⟨hP, -, ⟨c, hK⟩, hS, hR, hT, hL⟩ := h
  have hn := hI.2.1
  obtain ⟨M2, e2⟩ : ∃ M2, M2 = cpR (mst (mst M1 464 9 0) 464 5 1) 465 0 467 0 140 := ⟨_, rfl⟩
  rw [← e2]
  have M1x : ∀ x, (x < 83 ∨ 124 ≤ x) → x ≠ 0 → M1 x = M x := fun x hx h1 => by rw [e1, mst_fn h1, hcp_out hn (by omega)]
  have Kx : ∀ x, x ≠ 464 → x ≠ 467 → M2 x = M1 x := fun x g1 g2 => funext fun y => by rw [e2, cpR_ne g2, mst_ne1 g1, mst_ne1 g1]
  have K4 : ∀ y, y ≠ 5 → y ≠ 9 → M2 464 y = M 464 y := fun y g1 g2 => by rw [e2, cpR_ne (by decide), mst_ne2 g1, mst_ne2 g2, M1x 464 (by omega) (by omega)]
  have row : ∀ y, y < 140 → M2 467 y = M 465 y := fun y hy => by
    rw [e2, cpR, if_pos (by omega), mst_ne1 (by decide), mst_ne1 (by decide), M1x 465 (by omega) (by omega)]
    congr 1
    omega
  refine ⟨hP, ⟨n, HR_fn (fun x x1 x2 => by rw [Kx x (by omega) (by omega), M1x x (by omega) (by omega)]) hn (fun y _ => by rw [Kx 465 (by omega) (by omega), M1x 465 (by omega) (by omega)]) h1, IV_eq (fun y _ => by rw [Kx 465 (by omega) (by omega), M1x 465 (by omega) (by omega)]) hI⟩, ⟨c, rlK_eq hP.1 (fun x x1 x2 => by rw [Kx x (by omega) (by omega), M1x x (by omega) (by omega)]) (by rw [Kx 124 (by omega) (by omega), M1x 124 (by omega) (by omega)]) (K4 6 (by omega) (by omega)) (by rw [Kx 466 (by omega) (by omega), M1x 466 (by omega) (by omega)]) hK⟩, Or.inr ⟨?_, ?_, n, ?_, IV_eq row hI⟩, ?_, ?_, ?_⟩
  · rw [Kx 0 (by omega) (by omega), e1, mst_eq]; decide
  · rw [e2, cpR_ne (by decide), mst_eq]; decide
  · exact HR_fn (M := hcp M 83 1 n) (fun x x1 x2 => by rw [Kx x (by omega) (by omega), e1, mst_fn (by omega)]) hn row (HR_hcp (by omega) hn h1)
  · exact rlR_eq (fun k => by rw [Kx 454 (by omega) (by omega), M1x 454 (by omega) (by omega)]) (fun y hy => K4 y (by omega) (by omega)) hR
  · exact rlT_eq (by rw [Kx 460 (by omega) (by omega), M1x 460 (by omega) (by omega)]) (by rw [Kx 460 (by omega) (by omega), M1x 460 (by omega) (by omega)]) (by rw [Kx 461 (by omega) (by omega), M1x 461 (by omega) (by omega)]) (by rw [Kx 470 (by omega) (by omega), M1x 470 (by omega) (by omega)]) (K4 14 (by omega) (by omega)) (K4 15 (by omega) (by omega)) hT
  · exact rlL_eq (by rw [Kx 462 (by omega) (by omega), M1x 462 (by omega) (by omega)]) (K4 17 (by omega) (by omega)) (by rw [Kx 463 (by omega) (by omega), M1x 463 (by omega) (by omega)]) (by rw [Kx 471 (by omega) (by omega), M1x 471 (by omega) (by omega)]) hL
theorem rel_rs (h : REL M p) (h1 : HR M 83 m (M 467)) (hI : IV (M 467) m) {M1 : MM} (e1 : M1 = mst (hcp M 1 83 m) 124 1 0) : REL (mst (cpR (mst M1 464 9 0) 467 0 465 0 140) 464 6 0) p := by
  obtain ⟨hP, -, -, hS, hR, hT, hL⟩ := h
  have hn := hI.2.1
  obtain ⟨M2, e2⟩ : ∃ M2, M2 = mst (cpR (mst M1 464 9 0) 467 0 465 0 140) 464 6 0 := ⟨_, rfl⟩
  rw [← e2]
  have M1x : ∀ x, (x = 0 ∨ 42 ≤ x) → x ≠ 124 → M1 x = M x := fun x hx h1 => by rw [e1, mst_fn h1, hcp_out hn (by omega)]
  have Kx : ∀ x, x ≠ 464 → x ≠ 465 → M2 x = M1 x := fun x g1 g2 => funext fun y => by rw [e2, mst_ne1 g1, cpR_ne g2, mst_ne1 g1]
  have K4 : ∀ y, y ≠ 6 → y ≠ 9 → M2 464 y = M 464 y := fun y g1 g2 => by rw [e2, mst_ne2 g1, cpR_ne (by decide), mst_ne2 g2, M1x 464 (by omega) (by omega)]
  have row : ∀ y, y < 140 → M2 465 y = M 467 y := fun y hy => by
    rw [e2, mst_ne1 (by decide), cpR, if_pos (by omega), mst_ne1 (by decide), M1x 467 (by omega) (by omega)]
    congr 1
    omega
  refine ⟨hP, ⟨m, HR_fn (M := hcp M 1 83 m) (fun x x1 x2 => by rw [Kx x (by omega) (by omega), e1, mst_fn (by omega)]) hn row (HR_hcp (by omega) hn h1), IV_eq row hI⟩, ⟨0, by omega, ?_, ?_, fun j hj => by omega⟩, ?_, ?_, ?_, ?_⟩
  · rw [e2, mst_eq]; rfl
  · rw [Kx 124 (by omega) (by omega), e1, mst_eq]; rfl
  · exact rlS_eq (by rw [Kx 0 (by omega) (by omega), M1x 0 (by omega) (by omega)]) (K4 5 (by omega) (by omega)) (fun x x1 x2 => by rw [Kx x (by omega) (by omega), M1x x (by omega) (by omega)]) (by rw [Kx 467 (by omega) (by omega), M1x 467 (by omega) (by omega)]) hS
  · exact rlR_eq (fun k => by rw [Kx 454 (by omega) (by omega), M1x 454 (by omega) (by omega)]) (fun y hy => K4 y (by omega) (by omega)) hR
  · exact rlT_eq (by rw [Kx 460 (by omega) (by omega), M1x 460 (by omega) (by omega)]) (by rw [Kx 460 (by omega) (by omega), M1x 460 (by omega) (by omega)]) (by rw [Kx 461 (by omega) (by omega), M1x 461 (by omega) (by omega)]) (by rw [Kx 470 (by omega) (by omega), M1x 470 (by omega) (by omega)]) (K4 14 (by omega) (by omega)) (K4 15 (by omega) (by omega)) hT
  · exact rlL_eq (by rw [Kx 462 (by omega) (by omega), M1x 462 (by omega) (by omega)]) (K4 17 (by omega) (by omega)) (by rw [Kx 463 (by omega) (by omega), M1x 463 (by omega) (by omega)]) (by rw [Kx 471 (by omega) (by omega), M1x 471 (by omega) (by omega)]) hL
end P49
