def rowf (a i : Nat) : Nat → Option Nat := fun k => if k < i then some (a + 5 + 3 * k) else none
def rowh (i : Nat) : Nat → Option Nat := fun k => if k < i then some (126 + 41 * k) else none
/-- what the end has at a house -/
def FNH (a : Nat) : Prop := FN0 a = .inr (3, [.ref (a + 1), .ref (a + 2), .int 0, .int 0, .int 0, .int 0, .int 0, .int 0, .int 0, .int 0]) ∧ FN0 (a + 1) = .inl (2, 12, .inr (.inr (.inr (.inr (rowf a 12))))) ∧ (FN0 (a + 2) = .inr (0, [.ref ((a + 2) + 1), .ref ((a + 2) + 2), .int 0, .int 0, .int 0, .int 0, .int 0, .int 0, .int 0]) ∧ FN0 (a + 2 + 1) = .inr (7, [.int 0, .int 0]) ∧ FN0 (a + 2 + 2) = .inr (7, [.int 0, .int 0])) ∧ ∀ i, i < 12 → FN0 (a + 5 + 3 * i) = .inr (0, [.ref ((a + 5 + 3 * i) + 1), .ref ((a + 5 + 3 * i) + 2), .int 0, .int 0, .int 0, .int 0, .int 0, .int 0, .int 0]) ∧ FN0 (a + 5 + 3 * i + 1) = .inr (7, [.int 0, .int 0]) ∧ FN0 (a + 5 + 3 * i + 2) = .inr (7, [.int 0, .int 0])
theorem M0_0 {a : Nat} (h1 : a ≠ 460) (h2 : a ≠ 464) (k : Nat) : M0 a k = 0 := if_neg (by omega)
theorem FN0_fish {a : Nat} (hs : sK a = 0) (h1 : a ≠ 460) (h2 : a ≠ 464) : FN0 a = .inr (0, [.ref (a + 1), .ref (a + 2), .int 0, .int 0, .int 0, .int 0, .int 0, .int 0, .int 0]) := by
  unfold FN0
  rw [hs]
  show Sum.inr (0, [Value.ref (a + 1), Value.ref (a + 2), Value.int (M0 a 2), Value.int (M0 a 3), Value.int (M0 a 4), Value.int (M0 a 5), Value.int (M0 a 6), Value.int (M0 a 7), Value.int (M0 a 8)]) = _
  simp only [M0_0 h1 h2]
theorem FN0_side {a : Nat} (hs : sK a = 7) (h1 : a ≠ 460) (h2 : a ≠ 464) : FN0 a = .inr (7, [.int 0, .int 0]) := by
  unfold FN0
  rw [hs]
  show Sum.inr (7, [Value.int (M0 a 0), Value.int (M0 a 1)]) = _
  simp only [M0_0 h1 h2]
theorem FN0_h {a : Nat} (hs : sK a = 3) (h1 : a ≠ 460) (h2 : a ≠ 464) : FN0 a = .inr (3, [.ref (a + 1), .ref (a + 2), .int 0, .int 0, .int 0, .int 0, .int 0, .int 0, .int 0, .int 0]) := by
  unfold FN0
  rw [hs]
  show Sum.inr (3, [Value.ref (a + 1), Value.ref (a + 2), Value.int (M0 a 2), Value.int (M0 a 3), Value.int (M0 a 4), Value.int (M0 a 5), Value.int (M0 a 6), Value.int (M0 a 7), Value.int (M0 a 8), Value.int (M0 a 9)]) = _
  simp only [M0_0 h1 h2]
theorem FN0_row {a : Nat} (hs : sK (a + 1) = 13) : FN0 (a + 1) = .inl (2, 12, .inr (.inr (.inr (.inr (rowf a 12))))) := by
  unfold FN0
  rw [hs]
  show Sum.inl (2, 12, Sum.inr (Sum.inr (Sum.inr (Sum.inr (fun k => if k < 12 then some (a + 1 + 4 + 3 * k) else none))))) = _
  rfl
theorem isH_hi {a : Nat} (h : isH a) : a + 41 ≤ 454 := by
  unfold isH isHb at h
  simp only [Bool.or_eq_true, Bool.and_eq_true, decide_eq_true_eq, beq_iff_eq] at h
  omega
theorem FNH_of {a : Nat} (h : isH a) : FNH a := by
  have hb := isH_hi h
  have f : ∀ x, x + 3 ≤ 454 → sK x = 0 → FN0 x = .inr (0, [.ref (x + 1), .ref (x + 2), .int 0, .int 0, .int 0, .int 0, .int 0, .int 0, .int 0]) ∧ FN0 (x + 1) = .inr (7, [.int 0, .int 0]) ∧ FN0 (x + 2) = .inr (7, [.int 0, .int 0]) := fun x hx hs => ⟨FN0_fish hs (by omega) (by omega), FN0_side (fish1 hs) (by omega) (by omega), FN0_side (fish2 hs) (by omega) (by omega)⟩
  exact ⟨FN0_h (hs0 h) (by omega) (by omega), FN0_row (hs1 h), f (a + 2) (by omega) (hs2 h), fun i hi => f (a + 5 + 3 * i) (by omega) (hsf h hi)⟩
theorem rowf_s {a i : Nat} : va_up (rowf a i) i (some (a + 5 + 3 * i)) = rowf a (i + 1) := by
  funext k
  unfold va_up rowf
  by_cases h1 : k = i
  · subst h1; rw [if_pos rfl, if_pos (by omega)]
  · rw [if_neg h1]
    by_cases h2 : k < i
    · rw [if_pos h2, if_pos (by omega)]
    · rw [if_neg h2, if_neg (by omega)]
theorem rowh_s {i : Nat} : va_up (rowh i) i (some (126 + 41 * i)) = rowh (i + 1) := by
  funext k
  unfold va_up rowh
  by_cases h1 : k = i
  · subst h1; rw [if_pos rfl, if_pos (by omega)]
  · rw [if_neg h1]
    by_cases h2 : k < i
    · rw [if_pos h2, if_pos (by omega)]
    · rw [if_neg h2, if_neg (by omega)]
theorem rowf_c {a i N : Nat} (h : a + 5 + 3 * i ≤ N) : ∀ k b, rowf a i k = some b → b < N := by
  intro k b e
  unfold rowf at e
  by_cases h2 : k < i
  · rw [if_pos h2] at e; cases e; omega
  · rw [if_neg h2] at e; cases e
theorem rowh_c {i N : Nat} (h : 126 + 41 * i ≤ N) : ∀ k b, rowh i k = some b → b < N := by
  intro k b e
  unfold rowh at e
  by_cases h2 : k < i
  · rw [if_pos h2] at e; cases e; omega
  · rw [if_neg h2] at e; cases e
theorem rowf_0 {a : Nat} : (fun _ => none) = rowf a 0 := by funext k; exact (if_neg (by omega)).symm
theorem rowh_0 : (fun _ => none) = rowh 0 := by funext k; exact (if_neg (by omega)).symm
/-- the house's row of fish, from i on -/
theorem L_X3_init {l : Launch} (hf : l.stackTraces = false) {a : Nat} {E : Nat → vE} (HF : FNH a) (hN : a + 41 ≤ 475) : ∀ (j i N : Nat) (E1 : Nat → vE) (ce sl : Nat), i + j = 12 → N = a + 5 + 3 * i → ce + 3 * j ≤ 40 → sl + 13 * j ≤ 181 → CLO N E1 → (∀ b, b < a → E1 b = E b) → E1 a = .inr (3, [.ref (a + 1), .ref (a + 2), .int 0, .int 0, .int 0, .int 0, .int 0, .int 0, .int 0, .int 0]) → E1 (a + 1) = .inl (2, 12, .inr (.inr (.inr (.inr (rowf a i))))) → (∀ b, a + 2 ≤ b → b < N → E1 b = FN0 b) →
    Q l RX3 cX3_init 2 3 40 181 (GC (a + 1) 40 181 (ZC a 41 E)) 26 (L9 (some (.ref a)) (some (.int (nI i))) none none none none none none none) [] (N, E1) ce sl := by
  intro j
  induction j with
  | zero =>
    intro i N E1 ce sl hi hN1 hce hsl hC hlo hA hR hhi
    have hi9 : i = 12 := by omega
    subst hi9
    subst hN1
    refine R_iload_n (i := 1) dX3_init_26 rfl rfl ?_
    refine R_aload_n (i := 0) dX3_init_27 rfl rfl ?_
    refine R_getN (k := 0) (fs := [.ref (a + 1), .ref (a + 2), .int 0, .int 0, .int 0, .int 0, .int 0, .int 0, .int 0, .int 0]) cok3 (by decide) wf_X3_11 dX3_init_28 hA (by omega) rfl ?_
    refine R_alenN (t := 2) (n := 12) (v := nI 12) (fun _ => rfl) dX3_init_31 hR (by omega) rfl rfl ?_
    refine R_icmp_ge_t (tgt := 54) dX3_init_32 rfl (nI_le (Nat.le_refl 12) (by decide)) ?_
    refine R_cret dX3_init_54 (by omega) (by omega) ⟨by show a + 5 + 3 * 12 = a + 41; omega, hC, hlo, fun b h1 h2 => ?_⟩
    dsimp only
    by_cases e1 : b = a
    · subst e1; exact hA.trans HF.1.symm
    · by_cases e2 : b = a + 1
      · subst e2; exact hR.trans HF.2.1.symm
      · exact hhi b (by omega) (by omega)
  | succ j ih =>
    intro i N E1 ce sl hi hN1 hce hsl hC hlo hA hR hhi
    subst hN1
    refine R_iload_n (i := 1) dX3_init_26 rfl rfl ?_
    refine R_aload_n (i := 0) dX3_init_27 rfl rfl ?_
    refine R_getN (k := 0) (fs := [.ref (a + 1), .ref (a + 2), .int 0, .int 0, .int 0, .int 0, .int 0, .int 0, .int 0, .int 0]) cok3 (by decide) wf_X3_11 dX3_init_28 hA (by omega) rfl ?_
    refine R_alenN (t := 2) (n := 12) (v := nI 12) (fun _ => rfl) dX3_init_31 hR (by omega) rfl rfl ?_
    refine R_icmp_ge_f (tgt := 54) dX3_init_32 rfl (nI_ge (by omega) (by omega)) ?_
    refine R_aload_n (i := 0) dX3_init_35 rfl rfl ?_
    refine R_getN (k := 0) (fs := [.ref (a + 1), .ref (a + 2), .int 0, .int 0, .int 0, .int 0, .int 0, .int 0, .int 0, .int 0]) cok3 (by decide) wf_X3_11 dX3_init_36 hA (by omega) rfl ?_
    refine R_iload_n (i := 1) dX3_init_39 rfl rfl ?_
    refine R_new cok0 kl_X3_9 kn_X0 wi_X0 kd_X0 (fun _ => rfl) dX3_init_40 (GC_ext (n0 := a + 1) (by omega)) hC (cLf9 (cOr (by omega)) trivial trivial trivial trivial trivial trivial trivial trivial) ⟨trivial, cVr (by omega), trivial⟩ (by omega) (by omega) (by omega) ?_
    have hC := CLO_new (x := .inr (0, [.null, .null, .int 0, .int 0, .int 0, .int 0, .int 0, .int 0, .int 0])) hC ⟨trivial, trivial, trivial, trivial, trivial, trivial, trivial, trivial, trivial, trivial⟩
    refine R_dup dX3_init_43 rfl ?_
    obtain ⟨hF0, hF1, hF2⟩ := HF.2.2.2 i (by omega)
    refine R_callJ (As := []) ki_X3_17 (k_X0_init hf hC (by rw [nE_eq rfl]) hF0 hF1 hF2 (by omega)) dX3_init_44 (by omega) (by omega) (by omega) rfl rfl (Nat.le_of_ble_eq_true rfl) (GC_ext (n0 := a + 1) (by omega)) (cLf9 (cOr (by omega)) trivial trivial trivial trivial trivial trivial trivial trivial) ⟨cVr (by omega), trivial, cVr (by omega), trivial⟩ (fun h1 hz => ?_)
    obtain ⟨N2, E2⟩ := h1
    obtain ⟨e2, hC2, hlo2, hhi2⟩ := hz
    dsimp only at e2 hC2 hlo2 hhi2
    subst e2
    have hv : E2 (a + 5 + 3 * i) = .inr (0, [.ref ((a + 5 + 3 * i) + 1), .ref ((a + 5 + 3 * i) + 2), .int 0, .int 0, .int 0, .int 0, .int 0, .int 0, .int 0]) := (hhi2 _ (by omega) (by omega)).trans hF0
    refine R_aastN (t := 2) (n := 12) (ci := 0) (f' := rowf a (i + 1)) (fun _ => rfl) dX3_init_47 (by rw [hlo2 _ (by omega), nE_ne (by omega), hR]) (by omega) hv (by omega) cok0.1 (nI_in12 (by omega) (by omega)) (by rw [nI_cl (by omega)]; exact rowf_s) ?_
    refine R_iinc (i := 1) (v := nI (i + 1)) dX3_init_48 (by decide) rfl (nI_add2 i 1) (by decide) (st1 rfl) ?_
    refine R_goto (tgt := 26) dX3_init_51 rfl ?_
    refine ih (i + 1) _ _ _ _ (by omega) (by omega) (by omega) (by omega) (CLO_set hC2 (rowf_c (by omega))) (fun b hb => ?_) ?_ ?_ (fun b h1 h2 => ?_)
    · rw [nE_ne (by omega), hlo2 _ (by omega), nE_ne (by omega)]; exact hlo b hb
    · rw [nE_ne (by omega), hlo2 _ (by omega), nE_ne (by omega)]; exact hA
    · rw [nE_eq rfl]
    · rw [nE_ne (by omega)]
      by_cases e3 : b < a + 5 + 3 * i
      · rw [hlo2 _ (by omega), nE_ne (by omega)]; exact hhi b h1 e3
      · exact hhi2 b (by omega) (by omega)
theorem k_X3_init {l : Launch} (hf : l.stackTraces = false) {a : Nat} {E : Nat → vE} (hC : CLO (a + 1) E) (hE0 : E a = .inr (3, [.null, .null, .int 0, .int 0, .int 0, .int 0, .int 0, .int 0, .int 0, .int 0])) (HF : FNH a) (hN : a + 41 ≤ 475) : CTR l yX3_init cX3_init 2 3 40 181 [.ref a] (a + 1, E) (ZC a 41 E) := by
  refine CTR.intro (lf := L9 (some (.ref a)) none none none none none none none none) (by decide +kernel) rfl hf (fun _ => Nat.le_of_ble_eq_true rfl) (fun _ => rfl) ?_
  show Q l RX3 cX3_init 2 3 40 181 (GC (a + 1) 40 181 _) 0 _ [] (a + 1, E) 0 0
  obtain ⟨hF2, hF3, hF4⟩ := HF.2.2.1
  refine R_aload_n dX3_init_0 rfl rfl ?_
  refine R_objI wo_X3_3 wo_in wo_co dX3_init_1 (by omega) (Nat.le_of_ble_eq_true rfl) ?_
  refine R_aload_n dX3_init_4 rfl rfl ?_
  refine R_bipush (v := 12) dX3_init_5 (by decide) ?_
  refine R_newq (t := 2) (N' := 12) (fun _ => rfl) kl_X3_9 (Or.inl rfl) (by decide) rfl (by decide) dX3_init_7 (GC_ext (n0 := (a + 1)) (by omega)) hC (cLf9 (cOr (by omega)) trivial trivial trivial trivial trivial trivial trivial trivial) ⟨cVr (by omega), trivial⟩ (by omega) (by omega) (by omega) ?_
  have hC := CLO_new (x := .inl (2, 12, .inr (.inr (.inr (.inr (fun _ => none)))))) hC (fun _ _ e => by cases e)
  refine R_putN (k := 0) (fs := [.null, .null, .int 0, .int 0, .int 0, .int 0, .int 0, .int 0, .int 0, .int 0]) (fs' := [.ref (a + 1), .null, .int 0, .int 0, .int 0, .int 0, .int 0, .int 0, .int 0, .int 0]) cok3 (by decide) wf_X3_11 rfl rfl (fun _ => rfl) (fun _ => rfl) dX3_init_10 (by rw [nE_ne (by omega)]; exact hE0) (by omega) (Nat.le_of_ble_eq_true rfl) GC_init rfl ?_
  have hC := CLO_set (a := a) (x := .inr (3, [.ref (a + 1), .null, .int 0, .int 0, .int 0, .int 0, .int 0, .int 0, .int 0, .int 0])) hC ⟨cVr (by omega), trivial, trivial, trivial, trivial, trivial, trivial, trivial, trivial, trivial, trivial⟩
  refine R_aload_n dX3_init_13 rfl rfl ?_
  refine R_new cok0 kl_X3_9 kn_X0 wi_X0 kd_X0 (fun _ => rfl) dX3_init_14 (GC_ext (n0 := (a + 1)) (by omega)) hC (cLf9 (cOr (by omega)) trivial trivial trivial trivial trivial trivial trivial trivial) ⟨cVr (by omega), trivial⟩ (by omega) (by omega) (by omega) ?_
  have hC := CLO_new (x := .inr (0, [.null, .null, .int 0, .int 0, .int 0, .int 0, .int 0, .int 0, .int 0])) hC ⟨trivial, trivial, trivial, trivial, trivial, trivial, trivial, trivial, trivial, trivial⟩
  refine R_dup dX3_init_17 rfl ?_
  refine R_callJ (As := []) ki_X3_17 (k_X0_init hf hC (by rw [nE_eq (by omega)]) hF2 hF3 hF4 (by omega)) dX3_init_18 (by omega) (by omega) (by omega) rfl rfl (Nat.le_of_ble_eq_true rfl) (GC_ext (n0 := (a + 1)) (by omega)) (cLf9 (cOr (by omega)) trivial trivial trivial trivial trivial trivial trivial trivial) ⟨cVr (by omega), cVr (by omega), trivial⟩ (fun h1 hz => ?_)
  obtain ⟨N1, E1⟩ := h1
  obtain ⟨e1, hC1, hlo1, hhi1⟩ := hz
  dsimp only at e1 hC1 hlo1 hhi1
  subst e1
  have hC : CLO (a + 5) E1 := hC1
  refine R_putN (k := 1) (fs := [.ref (a + 1), .null, .int 0, .int 0, .int 0, .int 0, .int 0, .int 0, .int 0, .int 0]) (fs' := [.ref (a + 1), .ref (a + 2), .int 0, .int 0, .int 0, .int 0, .int 0, .int 0, .int 0, .int 0]) cok3 (by decide) wf_X3_18 rfl rfl (fun _ => rfl) (fun _ => rfl) dX3_init_21 (by rw [hlo1 _ (by omega), nE_ne (by omega), nE_eq (by omega)]) (by omega) (Nat.le_of_ble_eq_true rfl) GC_init rfl ?_
  have hC := CLO_set (a := a) (x := .inr (3, [.ref (a + 1), .ref (a + 2), .int 0, .int 0, .int 0, .int 0, .int 0, .int 0, .int 0, .int 0])) hC ⟨cVr (by omega), cVr (by omega), trivial, trivial, trivial, trivial, trivial, trivial, trivial, trivial, trivial⟩
  refine R_iconst (v := 0) dX3_init_24 (by decide) ?_
  refine R_istore_n dX3_init_25 rfl (by decide) (st1 rfl) ?_
  refine L_X3_init hf HF hN 12 0 _ _ _ _ rfl rfl (by omega) (by omega) hC (fun b hb => ?_) ?_ ?_ (fun b h1 h2 => ?_)
  · rw [nE_ne (by omega), hlo1 _ (by omega), nE_ne (by omega), nE_ne (by omega), nE_ne (by omega)]
  · rw [nE_eq (by omega)]
  · rw [nE_ne (by omega), hlo1 _ (by omega), nE_ne (by omega), nE_ne (by omega), nE_eq (by omega), rowf_0 (a := a)]
  · have hb : a + 2 ≤ b ∧ b < a + 5 := by omega
    rw [nE_ne (by omega)]
    exact hhi1 b (by omega) (by omega)
