theorem isH_k {i : Nat} (h : i < 8) : isH (126 + 41 * i) := by
  have : ∀ i, i < 8 → isHb (126 + 41 * i) = true := by decide
  exact this i h
/-- the history's row of houses, from i on -/
theorem L_X2_init {l : Launch} (hf : l.stackTraces = false) {E : Nat → vE} : ∀ (j i N : Nat) (E1 : Nat → vE) (ce sl : Nat), i + j = 8 → N = 126 + 41 * i → ce + 41 * j ≤ 329 → sl + 191 * j ≤ 1536 → CLO N E1 → (∀ b, b < 124 → E1 b = E b) → E1 124 = .inr (2, [.ref 125, .int 0]) → E1 125 = .inl (3, 8, .inr (.inr (.inr (.inr (rowh i))))) → (∀ b, 126 ≤ b → b < N → E1 b = FN0 b) →
    Q l RX2 cX2_init 2 4 329 1536 (GC 125 329 1536 (ZC 124 330 E)) 15 (L9 (some (.ref 124)) (some (.int (nI i))) none none none none none none none) [] (N, E1) ce sl := by
  intro j
  induction j with
  | zero =>
    intro i N E1 ce sl hi hN1 hce hsl hC hlo hA hR hhi
    have hi9 : i = 8 := by omega
    subst hi9
    subst hN1
    refine R_iload_n (i := 1) dX2_init_15 rfl rfl ?_
    refine R_aload_n (i := 0) dX2_init_16 rfl rfl ?_
    refine R_getN (k := 0) (fs := [.ref 125, .int 0]) cok2 (by decide) wf_X2_11 dX2_init_17 hA (by omega) rfl ?_
    refine R_alenN (t := 3) (n := 8) (v := nI 8) (fun _ => rfl) dX2_init_20 hR (by omega) rfl rfl ?_
    refine R_icmp_ge_t (tgt := 43) dX2_init_21 rfl (nI_le (Nat.le_refl 8) (by decide)) ?_
    refine R_cret dX2_init_43 (by omega) (by omega) ⟨rfl, hC, hlo, fun b h1 h2 => ?_⟩
    dsimp only
    by_cases e1 : b = 124
    · subst e1; exact hA.trans rfl
    · by_cases e2 : b = 125
      · subst e2; exact hR.trans rfl
      · exact hhi b (by omega) (by omega)
  | succ j ih =>
    intro i N E1 ce sl hi hN1 hce hsl hC hlo hA hR hhi
    subst hN1
    refine R_iload_n (i := 1) dX2_init_15 rfl rfl ?_
    refine R_aload_n (i := 0) dX2_init_16 rfl rfl ?_
    refine R_getN (k := 0) (fs := [.ref 125, .int 0]) cok2 (by decide) wf_X2_11 dX2_init_17 hA (by omega) rfl ?_
    refine R_alenN (t := 3) (n := 8) (v := nI 8) (fun _ => rfl) dX2_init_20 hR (by omega) rfl rfl ?_
    refine R_icmp_ge_f (tgt := 43) dX2_init_21 rfl (nI_ge (by omega) (by omega)) ?_
    refine R_aload_n (i := 0) dX2_init_24 rfl rfl ?_
    refine R_getN (k := 0) (fs := [.ref 125, .int 0]) cok2 (by decide) wf_X2_11 dX2_init_25 hA (by omega) rfl ?_
    refine R_iload_n (i := 1) dX2_init_28 rfl rfl ?_
    refine R_new cok3 kl_X2_9 kn_X3 wi_X3 kd_X3 (fun _ => rfl) dX2_init_29 (GC_ext (n0 := 125) (by omega)) hC (cLf9 (cOr (by omega)) trivial trivial trivial trivial trivial trivial trivial trivial) ⟨trivial, cVr (by omega), trivial⟩ (by omega) (by omega) (by omega) ?_
    have hC := CLO_new (x := .inr (3, [.null, .null, .int 0, .int 0, .int 0, .int 0, .int 0, .int 0, .int 0, .int 0])) hC ⟨trivial, trivial, trivial, trivial, trivial, trivial, trivial, trivial, trivial, trivial, trivial⟩
    refine R_dup dX2_init_32 rfl ?_
    have HF := FNH_of (isH_k (i := i) (by omega))
    refine R_callI (As := []) ki_X2_17 (k_X3_init hf hC (by rw [nE_eq rfl]) HF (by omega)) dX2_init_33 (by omega) (by omega) (by omega) rfl rfl (Nat.le_of_ble_eq_true rfl) (GC_ext (n0 := 125) (by omega)) (cLf9 (cOr (by omega)) trivial trivial trivial trivial trivial trivial trivial trivial) ⟨cVr (by omega), trivial, cVr (by omega), trivial⟩ (fun h1 hz => ?_)
    obtain ⟨N2, E2⟩ := h1
    obtain ⟨e2, hC2, hlo2, hhi2⟩ := hz
    dsimp only at e2 hC2 hlo2 hhi2
    subst e2
    have hv := (hhi2 (126 + 41 * i) (by omega) (by omega)).trans HF.1
    refine R_aastN (t := 3) (n := 8) (ci := 3) (f' := rowh (i + 1)) (fun _ => rfl) dX2_init_36 (by rw [hlo2 _ (by omega), nE_ne (by omega), hR]) (by omega) hv (by omega) cok3.1 (nI_in12 (by omega) (by omega)) (by rw [nI_cl (by omega)]; exact rowh_s) ?_
    refine R_iinc (i := 1) (v := nI (i + 1)) dX2_init_37 (by decide) rfl (nI_add2 i 1) (by decide) (st1 rfl) ?_
    refine R_goto (tgt := 15) dX2_init_40 rfl ?_
    refine ih (i + 1) _ _ _ _ (by omega) (by omega) (by omega) (by omega) (CLO_set hC2 (rowh_c (by omega))) (fun b hb => ?_) ?_ ?_ (fun b h1 h2 => ?_)
    · rw [nE_ne (by omega), hlo2 _ (by omega), nE_ne (by omega)]; exact hlo b hb
    · rw [nE_ne (by omega), hlo2 _ (by omega), nE_ne (by omega)]; exact hA
    · rw [nE_eq rfl]
    · rw [nE_ne (by omega)]
      by_cases e3 : b < 126 + 41 * i
      · rw [hlo2 _ (by omega), nE_ne (by omega)]; exact hhi b h1 e3
      · exact hhi2 b (by omega) (by omega)
theorem k_X2_init {l : Launch} (hf : l.stackTraces = false) {E : Nat → vE} (hC : CLO 125 E) (hE124 : E 124 = .inr (2, [.null, .int 0])) : CTR l yX2_init cX2_init 2 4 329 1536 [.ref 124] (125, E) (ZC 124 330 E) := by
  refine CTR.intro (lf := L9 (some (.ref 124)) none none none none none none none none) (by decide +kernel) rfl hf (fun _ => Nat.le_of_ble_eq_true rfl) (fun _ => rfl) ?_
  show Q l RX2 cX2_init 2 4 329 1536 (GC 125 329 1536 _) 0 _ [] (125, E) 0 0
  refine R_aload_n dX2_init_0 rfl rfl ?_
  refine R_objI wo_X2_3 wo_in wo_co dX2_init_1 (by omega) (Nat.le_of_ble_eq_true rfl) ?_
  refine R_aload_n dX2_init_4 rfl rfl ?_
  refine R_bipush (v := 8) dX2_init_5 (by decide) ?_
  refine R_newq (t := 3) (N' := 8) (fun _ => rfl) kl_X2_9 (Or.inr rfl) (by decide) rfl (by decide) dX2_init_7 (GC_ext (n0 := (125)) (by omega)) hC (cLf9 (cOr (by omega)) trivial trivial trivial trivial trivial trivial trivial trivial) ⟨cVr (by omega), trivial⟩ (by omega) (by omega) (by omega) ?_
  have hC := CLO_new (x := .inl (3, 8, .inr (.inr (.inr (.inr (fun _ => none)))))) hC (fun _ _ e => by cases e)
  refine R_putN (k := 0) (fs := [.null, .int 0]) (fs' := [.ref (125), .int 0]) cok2 (by decide) wf_X2_11 rfl rfl (fun _ => rfl) (fun _ => rfl) dX2_init_10 (by rw [nE_ne (by omega)]; exact hE124) (by omega) (Nat.le_of_ble_eq_true rfl) GC_init rfl ?_
  have hC := CLO_set (a := (124)) (x := .inr (2, [.ref (125), .int 0])) hC ⟨cVr (by omega), trivial, trivial⟩
  refine R_iconst (v := 0) dX2_init_13 (by decide) ?_
  refine R_istore_n dX2_init_14 rfl (by decide) (st1 rfl) ?_
  refine L_X2_init hf 8 0 _ _ _ _ rfl rfl (by omega) (by omega) hC (fun b hb => ?_) ?_ ?_ (fun b h1 h2 => by omega)
  · rw [nE_ne (by omega), nE_ne (by omega)]
  · rw [nE_eq (by omega)]
  · rw [nE_ne (by omega), nE_eq (by omega), rowh_0]
theorem k_X5_init {l : Launch} (hf : l.stackTraces = false) {E : Nat → vE} (hC : CLO 455 E) (hE454 : E 454 = .inr (5, [.int 0, .int 0, .int 0, .int 0, .int 0])) : CTR l yX5_init cX5_init 1 1 0 0 [.ref (454)] ((455), E) (ZC (454) 1 E) := by
  refine CTR.intro (lf := L9 (some (.ref (454))) none none none none none none none none) (by decide +kernel) rfl hf (fun _ => Nat.le_of_ble_eq_true rfl) (fun _ => rfl) ?_
  show Q l RX5 cX5_init 1 1 0 0 (GC (455) 0 0 _) 0 _ [] ((455), E) 0 0
  refine R_aload_n dX5_init_0 rfl rfl ?_
  refine R_objI wo_X5_3 wo_in wo_co dX5_init_1 (by omega) (Nat.le_of_ble_eq_true rfl) ?_
  refine R_cret dX5_init_4 (by omega) (by omega) ⟨rfl, hC, fun b hb => ?_, fun b h1 h2 => ?_⟩
  · dsimp only
  · dsimp only
    have hb : b = (454) := by omega
    subst hb
    exact hE454
theorem k_X8_init {l : Launch} (hf : l.stackTraces = false) {E : Nat → vE} (hC : CLO 456 E) (hE455 : E 455 = .inr (8, [.null, .null])) : CTR l yX8_init cX8_init 3 1 0 0 [.ref (455), .ref (1), .ref (454)] ((456), E) (ZC (455) 1 E) := by
  refine CTR.intro (lf := L9 (some (.ref (455))) (some (.ref (1))) (some (.ref (454))) none none none none none none) (by decide +kernel) rfl hf (fun _ => Nat.le_of_ble_eq_true rfl) (fun _ => rfl) ?_
  show Q l RX8 cX8_init 3 1 0 0 (GC (456) 0 0 _) 0 _ [] ((456), E) 0 0
  refine R_aload_n dX8_init_0 rfl rfl ?_
  refine R_objI wo_X8_3 wo_in wo_co dX8_init_1 (by omega) (Nat.le_of_ble_eq_true rfl) ?_
  refine R_aload_n dX8_init_4 rfl rfl ?_
  refine R_aload_n dX8_init_5 rfl rfl ?_
  refine R_putN (k := 0) (fs := [.null, .null]) (fs' := [.ref (1), .null]) cok8 (by decide) wf_X8_9 rfl rfl (fun _ => rfl) (fun _ => rfl) dX8_init_6 (by exact hE455) (by omega) (Nat.le_of_ble_eq_true rfl) GC_init rfl ?_
  have hC := CLO_set (a := (455)) (x := .inr (8, [.ref (1), .null])) hC ⟨cVr (by omega), trivial, trivial⟩
  refine R_aload_n dX8_init_9 rfl rfl ?_
  refine R_aload_n dX8_init_10 rfl rfl ?_
  refine R_putN (k := 1) (fs := [.ref (1), .null]) (fs' := [.ref (1), .ref (454)]) cok8 (by decide) wf_X8_15 rfl rfl (fun _ => rfl) (fun _ => rfl) dX8_init_11 (by rw [nE_eq (by omega)]) (by omega) (Nat.le_of_ble_eq_true rfl) GC_init rfl ?_
  have hC := CLO_set (a := (455)) (x := .inr (8, [.ref (1), .ref (454)])) hC ⟨cVr (by omega), cVr (by omega), trivial⟩
  refine R_cret dX8_init_14 (by omega) (by omega) ⟨rfl, hC, fun b hb => ?_, fun b h1 h2 => ?_⟩
  · dsimp only
    rw [nE_ne (by omega), nE_ne (by omega)]
  · dsimp only
    have hb : b = (455) := by omega
    subst hb
    rw [nE_eq (by omega)]
    rfl
theorem k_X1_init {l : Launch} (hf : l.stackTraces = false) {E : Nat → vE} (hC : CLO 457 E) (hE456 : E 456 = .inr (1, [.null, .null])) : CTR l yX1_init cX1_init 2 3 3 13 [.ref (456), .ref (1)] ((457), E) (ZC (456) 4 E) := by
  refine CTR.intro (lf := L9 (some (.ref (456))) (some (.ref (1))) none none none none none none none) (by decide +kernel) rfl hf (fun _ => Nat.le_of_ble_eq_true rfl) (fun _ => rfl) ?_
  show Q l RX1 cX1_init 2 3 3 13 (GC (457) 3 13 _) 0 _ [] ((457), E) 0 0
  refine R_aload_n dX1_init_0 rfl rfl ?_
  refine R_objI wo_X1_3 wo_in wo_co dX1_init_1 (by omega) (Nat.le_of_ble_eq_true rfl) ?_
  refine R_aload_n dX1_init_4 rfl rfl ?_
  refine R_new cok0 kl_X1_9 kn_X0 wi_X0 kd_X0 (fun _ => rfl) dX1_init_5 (GC_ext (n0 := (457)) (by omega)) hC (cLf9 (cOr (by omega)) (cOr (by omega)) trivial trivial trivial trivial trivial trivial trivial) ⟨cVr (by omega), trivial⟩ (by omega) (by omega) (by omega) ?_
  have hC := CLO_new (x := .inr (0, [.null, .null, .int 0, .int 0, .int 0, .int 0, .int 0, .int 0, .int 0])) hC ⟨trivial, trivial, trivial, trivial, trivial, trivial, trivial, trivial, trivial, trivial⟩
  refine R_dup dX1_init_8 rfl ?_
  refine R_callJ (As := []) ki_X1_11 (k_X0_init hf hC (by rw [nE_eq (by omega)]) (by rfl) (by rfl) (by rfl) (by omega)) dX1_init_9 (by omega) (by omega) (by omega) rfl rfl (Nat.le_of_ble_eq_true rfl) (GC_ext (n0 := (457)) (by omega)) (cLf9 (cOr (by omega)) (cOr (by omega)) trivial trivial trivial trivial trivial trivial trivial) ⟨cVr (by omega), cVr (by omega), trivial⟩ (fun h1 hz => ?_)
  obtain ⟨N1, E1⟩ := h1
  obtain ⟨e1, hC1, hlo1, hhi1⟩ := hz
  dsimp only at e1 hC1 hlo1 hhi1
  subst e1
  have hC : CLO (460) E1 := hC1
  refine R_putN (k := 1) (fs := [.null, .null]) (fs' := [.null, .ref (457)]) cok1 (by decide) wf_X1_12 rfl rfl (fun _ => rfl) (fun _ => rfl) dX1_init_12 (by rw [hlo1 _ (by omega), nE_ne (by omega)]; exact hE456) (by omega) (Nat.le_of_ble_eq_true rfl) GC_init rfl ?_
  have hC := CLO_set (a := (456)) (x := .inr (1, [.null, .ref (457)])) hC ⟨trivial, cVr (by omega), trivial⟩
  refine R_aload_n dX1_init_15 rfl rfl ?_
  refine R_aload_n dX1_init_16 rfl rfl ?_
  refine R_putN (k := 0) (fs := [.null, .ref (457)]) (fs' := [.ref (1), .ref (457)]) cok1 (by decide) wf_X1_18 rfl rfl (fun _ => rfl) (fun _ => rfl) dX1_init_17 (by rw [nE_eq (by omega)]) (by omega) (Nat.le_of_ble_eq_true rfl) GC_init rfl ?_
  have hC := CLO_set (a := (456)) (x := .inr (1, [.ref (1), .ref (457)])) hC ⟨cVr (by omega), cVr (by omega), trivial⟩
  refine R_cret dX1_init_20 (by omega) (by omega) ⟨rfl, hC, fun b hb => ?_, fun b h1 h2 => ?_⟩
  · dsimp only
    rw [nE_ne (by omega), nE_ne (by omega), hlo1 _ (by omega), nE_ne (by omega)]
  · dsimp only
    rcases (show b = (456) ∨ ((457) ≤ b ∧ b < (460)) by omega) with rfl | ⟨h3, h4⟩
    · skip
      rw [nE_eq (by omega)]
      rfl
    · rw [nE_ne (by omega), nE_ne (by omega)]
      exact hhi1 b (by omega) (by omega)
theorem k_X6_init {l : Launch} (hf : l.stackTraces = false) {E : Nat → vE} (hC : CLO 461 E) (hE460 : E 460 = .inr (6, [.null, .int 0, .int 0, .int 0, .int 0, .int 0, .int 0, .int 0, .int 0])) : CTR l yX6_init cX6_init 1 1 1 60 [.ref (460)] ((461), E) (ZC (460) 2 E) := by
  refine CTR.intro (lf := L9 (some (.ref (460))) none none none none none none none none) (by decide +kernel) rfl hf (fun _ => Nat.le_of_ble_eq_true rfl) (fun _ => rfl) ?_
  show Q l RX6 cX6_init 1 1 1 60 (GC (461) 1 60 _) 0 _ [] ((461), E) 0 0
  refine R_aload_n dX6_init_0 rfl rfl ?_
  refine R_objI wo_X6_3 wo_in wo_co dX6_init_1 (by omega) (Nat.le_of_ble_eq_true rfl) ?_
  refine R_aload_n dX6_init_4 rfl rfl ?_
  refine R_bipush (v := 60) dX6_init_5 (by decide) ?_
  refine R_newa (t := 0) (N' := 60) (a0 := (60, .inl (fun _ => 0))) (fun _ => rfl) rfl kc_char (fun _ => rfl) (fun _ => rfl) (by decide) rfl (by decide) dX6_init_7 (GC_ext (n0 := (461)) (by omega)) hC (cLf9 (cOr (by omega)) trivial trivial trivial trivial trivial trivial trivial trivial) ⟨cVr (by omega), trivial⟩ (by omega) (by omega) (by omega) ?_
  have hC := CLO_new (x := .inl (0, (60, .inl (fun _ => 0)))) hC trivial
  refine R_putN (k := 0) (fs := [.null, .int 0, .int 0, .int 0, .int 0, .int 0, .int 0, .int 0, .int 0]) (fs' := [.ref (461), .int 0, .int 0, .int 0, .int 0, .int 0, .int 0, .int 0, .int 0]) cok6 (by decide) wf_X6_9 rfl rfl (fun _ => rfl) (fun _ => rfl) dX6_init_9 (by rw [nE_ne (by omega)]; exact hE460) (by omega) (Nat.le_of_ble_eq_true rfl) GC_init rfl ?_
  have hC := CLO_set (a := (460)) (x := .inr (6, [.ref (461), .int 0, .int 0, .int 0, .int 0, .int 0, .int 0, .int 0, .int 0])) hC ⟨cVr (by omega), trivial, trivial, trivial, trivial, trivial, trivial, trivial, trivial, trivial⟩
  refine R_aload_n dX6_init_12 rfl rfl ?_
  refine R_iconst (v := (-1)) dX6_init_13 (by decide) ?_
  refine R_putI (k := 2) (fs := [.ref (461), .int 0, .int 0, .int 0, .int 0, .int 0, .int 0, .int 0, .int 0]) (fs' := [.ref (461), .int 0, .int (-1), .int 0, .int 0, .int 0, .int 0, .int 0, .int 0]) cok6 (by decide) wf_X6_15 rfl rfl rfl dX6_init_14 (by rw [nE_eq (by omega)]) (by omega) (Nat.le_of_ble_eq_true rfl) rfl ?_
  have hC := CLO_set (a := (460)) (x := .inr (6, [.ref (461), .int 0, .int (-1), .int 0, .int 0, .int 0, .int 0, .int 0, .int 0])) hC ⟨cVr (by omega), trivial, trivial, trivial, trivial, trivial, trivial, trivial, trivial, trivial⟩
  refine R_cret dX6_init_17 (by omega) (by omega) ⟨rfl, hC, fun b hb => ?_, fun b h1 h2 => ?_⟩
  · dsimp only
    rw [nE_ne (by omega), nE_ne (by omega), nE_ne (by omega)]
  · dsimp only
    rcases (show b = (460) ∨ b = (461) by omega) with rfl | rfl
    · skip
      rw [nE_eq (by omega)]
      rfl
    · skip
      rw [nE_ne (by omega), nE_ne (by omega), nE_eq (by omega)]
      rfl
theorem k_X4_init {l : Launch} (hf : l.stackTraces = false) {E : Nat → vE} (hC : CLO 463 E) (hE462 : E 462 = .inr (4, [.null, .int 0])) : CTR l yX4_init cX4_init 1 1 1 14 [.ref (462)] ((463), E) (ZC (462) 2 E) := by
  refine CTR.intro (lf := L9 (some (.ref (462))) none none none none none none none none) (by decide +kernel) rfl hf (fun _ => Nat.le_of_ble_eq_true rfl) (fun _ => rfl) ?_
  show Q l RX4 cX4_init 1 1 1 14 (GC (463) 1 14 _) 0 _ [] ((463), E) 0 0
  refine R_aload_n dX4_init_0 rfl rfl ?_
  refine R_objI wo_X4_3 wo_in wo_co dX4_init_1 (by omega) (Nat.le_of_ble_eq_true rfl) ?_
  refine R_aload_n dX4_init_4 rfl rfl ?_
  refine R_bipush (v := 14) dX4_init_5 (by decide) ?_
  refine R_newa (t := 0) (N' := 14) (a0 := (14, .inl (fun _ => 0))) (fun _ => rfl) rfl kc_char (fun _ => rfl) (fun _ => rfl) (by decide) rfl (by decide) dX4_init_7 (GC_ext (n0 := (463)) (by omega)) hC (cLf9 (cOr (by omega)) trivial trivial trivial trivial trivial trivial trivial trivial) ⟨cVr (by omega), trivial⟩ (by omega) (by omega) (by omega) ?_
  have hC := CLO_new (x := .inl (0, (14, .inl (fun _ => 0)))) hC trivial
  refine R_putN (k := 0) (fs := [.null, .int 0]) (fs' := [.ref (463), .int 0]) cok4 (by decide) wf_X4_9 rfl rfl (fun _ => rfl) (fun _ => rfl) dX4_init_9 (by rw [nE_ne (by omega)]; exact hE462) (by omega) (Nat.le_of_ble_eq_true rfl) GC_init rfl ?_
  have hC := CLO_set (a := (462)) (x := .inr (4, [.ref (463), .int 0])) hC ⟨cVr (by omega), trivial, trivial⟩
  refine R_cret dX4_init_12 (by omega) (by omega) ⟨rfl, hC, fun b hb => ?_, fun b h1 h2 => ?_⟩
  · dsimp only
    rw [nE_ne (by omega), nE_ne (by omega)]
  · dsimp only
    rcases (show b = (462) ∨ b = (463) by omega) with rfl | rfl
    · skip
      rw [nE_eq (by omega)]
      rfl
    · skip
      rw [nE_ne (by omega), nE_eq (by omega)]
      rfl
theorem k_X10_init {l : Launch} (hf : l.stackTraces = false) {E : Nat → vE} (hC : CLO 465 E) (hE464 : E 464 = .inr (10, [.null, .null, .null, .null, .null, .int 0, .int 0, .int 0, .int 0, .int 0, .int 0, .int 0, .int 0, .null, .int 0, .int 0, .null, .int 0, .int 0, .null, .int 0])) : CTR l yX10_init cX10_init 1 1 8 1898 [.ref (464)] ((465), E) (ZC (464) 9 E) := by
  refine CTR.intro (lf := L9 (some (.ref (464))) none none none none none none none none) (by decide +kernel) rfl hf (fun _ => Nat.le_of_ble_eq_true rfl) (fun _ => rfl) ?_
  show Q l RX10 cX10_init 1 1 8 1898 (GC (465) 8 1898 _) 0 _ [] ((465), E) 0 0
  refine R_aload_n dX10_init_0 rfl rfl ?_
  refine R_objI wo_X10_1 wo_in wo_co dX10_init_1 (by omega) (Nat.le_of_ble_eq_true rfl) ?_
  refine R_aload_n dX10_init_4 rfl rfl ?_
  refine R_sipush (v := 140) dX10_init_5 (by decide) ?_
  refine R_newa (t := 1) (N' := 140) (a0 := (140, .inl (fun _ => 0))) (fun _ => rfl) rfl kc_int (fun _ => rfl) (fun _ => rfl) (by decide) rfl (by decide) dX10_init_8 (GC_ext (n0 := (465)) (by omega)) hC (cLf9 (cOr (by omega)) trivial trivial trivial trivial trivial trivial trivial trivial) ⟨cVr (by omega), trivial⟩ (by omega) (by omega) (by omega) ?_
  have hC := CLO_new (x := .inl (1, (140, .inl (fun _ => 0)))) hC trivial
  refine R_putN (k := 0) (fs := [.null, .null, .null, .null, .null, .int 0, .int 0, .int 0, .int 0, .int 0, .int 0, .int 0, .int 0, .null, .int 0, .int 0, .null, .int 0, .int 0, .null, .int 0]) (fs' := [.ref (465), .null, .null, .null, .null, .int 0, .int 0, .int 0, .int 0, .int 0, .int 0, .int 0, .int 0, .null, .int 0, .int 0, .null, .int 0, .int 0, .null, .int 0]) cok10 (by decide) wf_X10_7 rfl rfl (fun _ => rfl) (fun _ => rfl) dX10_init_10 (by rw [nE_ne (by omega)]; exact hE464) (by omega) (Nat.le_of_ble_eq_true rfl) GC_init rfl ?_
  have hC := CLO_set (a := (464)) (x := .inr (10, [.ref (465), .null, .null, .null, .null, .int 0, .int 0, .int 0, .int 0, .int 0, .int 0, .int 0, .int 0, .null, .int 0, .int 0, .null, .int 0, .int 0, .null, .int 0])) hC ⟨cVr (by omega), trivial, trivial, trivial, trivial, trivial, trivial, trivial, trivial, trivial, trivial, trivial, trivial, trivial, trivial, trivial, trivial, trivial, trivial, trivial, trivial, trivial⟩
  refine R_aload_n dX10_init_13 rfl rfl ?_
  refine R_sipush (v := 1120) dX10_init_14 (by decide) ?_
  refine R_newa (t := 1) (N' := 1120) (a0 := (1120, .inl (fun _ => 0))) (fun _ => rfl) rfl kc_int (fun _ => rfl) (fun _ => rfl) (by decide) rfl (by decide) dX10_init_17 (GC_ext (n0 := (465)) (by omega)) hC (cLf9 (cOr (by omega)) trivial trivial trivial trivial trivial trivial trivial trivial) ⟨cVr (by omega), trivial⟩ (by omega) (by omega) (by omega) ?_
  have hC := CLO_new (x := .inl (1, (1120, .inl (fun _ => 0)))) hC trivial
  refine R_putN (k := 1) (fs := [.ref (465), .null, .null, .null, .null, .int 0, .int 0, .int 0, .int 0, .int 0, .int 0, .int 0, .int 0, .null, .int 0, .int 0, .null, .int 0, .int 0, .null, .int 0]) (fs' := [.ref (465), .ref (466), .null, .null, .null, .int 0, .int 0, .int 0, .int 0, .int 0, .int 0, .int 0, .int 0, .null, .int 0, .int 0, .null, .int 0, .int 0, .null, .int 0]) cok10 (by decide) wf_X10_13 rfl rfl (fun _ => rfl) (fun _ => rfl) dX10_init_19 (by rw [nE_ne (by omega), nE_eq (by omega)]) (by omega) (Nat.le_of_ble_eq_true rfl) GC_init rfl ?_
  have hC := CLO_set (a := (464)) (x := .inr (10, [.ref (465), .ref (466), .null, .null, .null, .int 0, .int 0, .int 0, .int 0, .int 0, .int 0, .int 0, .int 0, .null, .int 0, .int 0, .null, .int 0, .int 0, .null, .int 0])) hC ⟨cVr (by omega), cVr (by omega), trivial, trivial, trivial, trivial, trivial, trivial, trivial, trivial, trivial, trivial, trivial, trivial, trivial, trivial, trivial, trivial, trivial, trivial, trivial, trivial⟩
  refine R_aload_n dX10_init_22 rfl rfl ?_
  refine R_sipush (v := 140) dX10_init_23 (by decide) ?_
  refine R_newa (t := 1) (N' := 140) (a0 := (140, .inl (fun _ => 0))) (fun _ => rfl) rfl kc_int (fun _ => rfl) (fun _ => rfl) (by decide) rfl (by decide) dX10_init_26 (GC_ext (n0 := (465)) (by omega)) hC (cLf9 (cOr (by omega)) trivial trivial trivial trivial trivial trivial trivial trivial) ⟨cVr (by omega), trivial⟩ (by omega) (by omega) (by omega) ?_
  have hC := CLO_new (x := .inl (1, (140, .inl (fun _ => 0)))) hC trivial
  refine R_putN (k := 2) (fs := [.ref (465), .ref (466), .null, .null, .null, .int 0, .int 0, .int 0, .int 0, .int 0, .int 0, .int 0, .int 0, .null, .int 0, .int 0, .null, .int 0, .int 0, .null, .int 0]) (fs' := [.ref (465), .ref (466), .ref (467), .null, .null, .int 0, .int 0, .int 0, .int 0, .int 0, .int 0, .int 0, .int 0, .null, .int 0, .int 0, .null, .int 0, .int 0, .null, .int 0]) cok10 (by decide) wf_X10_16 rfl rfl (fun _ => rfl) (fun _ => rfl) dX10_init_28 (by rw [nE_ne (by omega), nE_eq (by omega)]) (by omega) (Nat.le_of_ble_eq_true rfl) GC_init rfl ?_
  have hC := CLO_set (a := (464)) (x := .inr (10, [.ref (465), .ref (466), .ref (467), .null, .null, .int 0, .int 0, .int 0, .int 0, .int 0, .int 0, .int 0, .int 0, .null, .int 0, .int 0, .null, .int 0, .int 0, .null, .int 0])) hC ⟨cVr (by omega), cVr (by omega), cVr (by omega), trivial, trivial, trivial, trivial, trivial, trivial, trivial, trivial, trivial, trivial, trivial, trivial, trivial, trivial, trivial, trivial, trivial, trivial, trivial⟩
  refine R_aload_n dX10_init_31 rfl rfl ?_
  refine R_sipush (v := 140) dX10_init_32 (by decide) ?_
  refine R_newa (t := 1) (N' := 140) (a0 := (140, .inl (fun _ => 0))) (fun _ => rfl) rfl kc_int (fun _ => rfl) (fun _ => rfl) (by decide) rfl (by decide) dX10_init_35 (GC_ext (n0 := (465)) (by omega)) hC (cLf9 (cOr (by omega)) trivial trivial trivial trivial trivial trivial trivial trivial) ⟨cVr (by omega), trivial⟩ (by omega) (by omega) (by omega) ?_
  have hC := CLO_new (x := .inl (1, (140, .inl (fun _ => 0)))) hC trivial
  refine R_putN (k := 3) (fs := [.ref (465), .ref (466), .ref (467), .null, .null, .int 0, .int 0, .int 0, .int 0, .int 0, .int 0, .int 0, .int 0, .null, .int 0, .int 0, .null, .int 0, .int 0, .null, .int 0]) (fs' := [.ref (465), .ref (466), .ref (467), .ref (468), .null, .int 0, .int 0, .int 0, .int 0, .int 0, .int 0, .int 0, .int 0, .null, .int 0, .int 0, .null, .int 0, .int 0, .null, .int 0]) cok10 (by decide) wf_X10_19 rfl rfl (fun _ => rfl) (fun _ => rfl) dX10_init_37 (by rw [nE_ne (by omega), nE_eq (by omega)]) (by omega) (Nat.le_of_ble_eq_true rfl) GC_init rfl ?_
  have hC := CLO_set (a := (464)) (x := .inr (10, [.ref (465), .ref (466), .ref (467), .ref (468), .null, .int 0, .int 0, .int 0, .int 0, .int 0, .int 0, .int 0, .int 0, .null, .int 0, .int 0, .null, .int 0, .int 0, .null, .int 0])) hC ⟨cVr (by omega), cVr (by omega), cVr (by omega), cVr (by omega), trivial, trivial, trivial, trivial, trivial, trivial, trivial, trivial, trivial, trivial, trivial, trivial, trivial, trivial, trivial, trivial, trivial, trivial⟩
  refine R_aload_n dX10_init_40 rfl rfl ?_
  refine R_sipush (v := 140) dX10_init_41 (by decide) ?_
  refine R_newa (t := 1) (N' := 140) (a0 := (140, .inl (fun _ => 0))) (fun _ => rfl) rfl kc_int (fun _ => rfl) (fun _ => rfl) (by decide) rfl (by decide) dX10_init_44 (GC_ext (n0 := (465)) (by omega)) hC (cLf9 (cOr (by omega)) trivial trivial trivial trivial trivial trivial trivial trivial) ⟨cVr (by omega), trivial⟩ (by omega) (by omega) (by omega) ?_
  have hC := CLO_new (x := .inl (1, (140, .inl (fun _ => 0)))) hC trivial
  refine R_putN (k := 4) (fs := [.ref (465), .ref (466), .ref (467), .ref (468), .null, .int 0, .int 0, .int 0, .int 0, .int 0, .int 0, .int 0, .int 0, .null, .int 0, .int 0, .null, .int 0, .int 0, .null, .int 0]) (fs' := [.ref (465), .ref (466), .ref (467), .ref (468), .ref (469), .int 0, .int 0, .int 0, .int 0, .int 0, .int 0, .int 0, .int 0, .null, .int 0, .int 0, .null, .int 0, .int 0, .null, .int 0]) cok10 (by decide) wf_X10_22 rfl rfl (fun _ => rfl) (fun _ => rfl) dX10_init_46 (by rw [nE_ne (by omega), nE_eq (by omega)]) (by omega) (Nat.le_of_ble_eq_true rfl) GC_init rfl ?_
  have hC := CLO_set (a := (464)) (x := .inr (10, [.ref (465), .ref (466), .ref (467), .ref (468), .ref (469), .int 0, .int 0, .int 0, .int 0, .int 0, .int 0, .int 0, .int 0, .null, .int 0, .int 0, .null, .int 0, .int 0, .null, .int 0])) hC ⟨cVr (by omega), cVr (by omega), cVr (by omega), cVr (by omega), cVr (by omega), trivial, trivial, trivial, trivial, trivial, trivial, trivial, trivial, trivial, trivial, trivial, trivial, trivial, trivial, trivial, trivial, trivial⟩
  refine R_aload_n dX10_init_49 rfl rfl ?_
  refine R_bipush (v := 60) dX10_init_50 (by decide) ?_
  refine R_newa (t := 1) (N' := 60) (a0 := (60, .inl (fun _ => 0))) (fun _ => rfl) rfl kc_int (fun _ => rfl) (fun _ => rfl) (by decide) rfl (by decide) dX10_init_52 (GC_ext (n0 := (465)) (by omega)) hC (cLf9 (cOr (by omega)) trivial trivial trivial trivial trivial trivial trivial trivial) ⟨cVr (by omega), trivial⟩ (by omega) (by omega) (by omega) ?_
  have hC := CLO_new (x := .inl (1, (60, .inl (fun _ => 0)))) hC trivial
  refine R_putN (k := 13) (fs := [.ref (465), .ref (466), .ref (467), .ref (468), .ref (469), .int 0, .int 0, .int 0, .int 0, .int 0, .int 0, .int 0, .int 0, .null, .int 0, .int 0, .null, .int 0, .int 0, .null, .int 0]) (fs' := [.ref (465), .ref (466), .ref (467), .ref (468), .ref (469), .int 0, .int 0, .int 0, .int 0, .int 0, .int 0, .int 0, .int 0, .ref (470), .int 0, .int 0, .null, .int 0, .int 0, .null, .int 0]) cok10 (by decide) wf_X10_25 rfl rfl (fun _ => rfl) (fun _ => rfl) dX10_init_54 (by rw [nE_ne (by omega), nE_eq (by omega)]) (by omega) (Nat.le_of_ble_eq_true rfl) GC_init rfl ?_
  have hC := CLO_set (a := (464)) (x := .inr (10, [.ref (465), .ref (466), .ref (467), .ref (468), .ref (469), .int 0, .int 0, .int 0, .int 0, .int 0, .int 0, .int 0, .int 0, .ref (470), .int 0, .int 0, .null, .int 0, .int 0, .null, .int 0])) hC ⟨cVr (by omega), cVr (by omega), cVr (by omega), cVr (by omega), cVr (by omega), trivial, trivial, trivial, trivial, trivial, trivial, trivial, trivial, cVr (by omega), trivial, trivial, trivial, trivial, trivial, trivial, trivial, trivial⟩
  refine R_aload_n dX10_init_57 rfl rfl ?_
  refine R_iconst (v := (-1)) dX10_init_58 (by decide) ?_
  refine R_putI (k := 15) (fs := [.ref (465), .ref (466), .ref (467), .ref (468), .ref (469), .int 0, .int 0, .int 0, .int 0, .int 0, .int 0, .int 0, .int 0, .ref (470), .int 0, .int 0, .null, .int 0, .int 0, .null, .int 0]) (fs' := [.ref (465), .ref (466), .ref (467), .ref (468), .ref (469), .int 0, .int 0, .int 0, .int 0, .int 0, .int 0, .int 0, .int 0, .ref (470), .int 0, .int (-1), .null, .int 0, .int 0, .null, .int 0]) cok10 (by decide) wf_X10_28 rfl rfl rfl dX10_init_59 (by rw [nE_eq (by omega)]) (by omega) (Nat.le_of_ble_eq_true rfl) rfl ?_
  have hC := CLO_set (a := (464)) (x := .inr (10, [.ref (465), .ref (466), .ref (467), .ref (468), .ref (469), .int 0, .int 0, .int 0, .int 0, .int 0, .int 0, .int 0, .int 0, .ref (470), .int 0, .int (-1), .null, .int 0, .int 0, .null, .int 0])) hC ⟨cVr (by omega), cVr (by omega), cVr (by omega), cVr (by omega), cVr (by omega), trivial, trivial, trivial, trivial, trivial, trivial, trivial, trivial, cVr (by omega), trivial, trivial, trivial, trivial, trivial, trivial, trivial, trivial⟩
  refine R_aload_n dX10_init_62 rfl rfl ?_
  refine R_bipush (v := 30) dX10_init_63 (by decide) ?_
  refine R_newa (t := 0) (N' := 30) (a0 := (30, .inl (fun _ => 0))) (fun _ => rfl) rfl kc_char (fun _ => rfl) (fun _ => rfl) (by decide) rfl (by decide) dX10_init_65 (GC_ext (n0 := (465)) (by omega)) hC (cLf9 (cOr (by omega)) trivial trivial trivial trivial trivial trivial trivial trivial) ⟨cVr (by omega), trivial⟩ (by omega) (by omega) (by omega) ?_
  have hC := CLO_new (x := .inl (0, (30, .inl (fun _ => 0)))) hC trivial
  refine R_putN (k := 16) (fs := [.ref (465), .ref (466), .ref (467), .ref (468), .ref (469), .int 0, .int 0, .int 0, .int 0, .int 0, .int 0, .int 0, .int 0, .ref (470), .int 0, .int (-1), .null, .int 0, .int 0, .null, .int 0]) (fs' := [.ref (465), .ref (466), .ref (467), .ref (468), .ref (469), .int 0, .int 0, .int 0, .int 0, .int 0, .int 0, .int 0, .int 0, .ref (470), .int 0, .int (-1), .ref (471), .int 0, .int 0, .null, .int 0]) cok10 (by decide) wf_X10_32 rfl rfl (fun _ => rfl) (fun _ => rfl) dX10_init_67 (by rw [nE_ne (by omega), nE_eq (by omega)]) (by omega) (Nat.le_of_ble_eq_true rfl) GC_init rfl ?_
  have hC := CLO_set (a := (464)) (x := .inr (10, [.ref (465), .ref (466), .ref (467), .ref (468), .ref (469), .int 0, .int 0, .int 0, .int 0, .int 0, .int 0, .int 0, .int 0, .ref (470), .int 0, .int (-1), .ref (471), .int 0, .int 0, .null, .int 0])) hC ⟨cVr (by omega), cVr (by omega), cVr (by omega), cVr (by omega), cVr (by omega), trivial, trivial, trivial, trivial, trivial, trivial, trivial, trivial, cVr (by omega), trivial, trivial, cVr (by omega), trivial, trivial, trivial, trivial, trivial⟩
  refine R_aload_n dX10_init_70 rfl rfl ?_
  refine R_sipush (v := 128) dX10_init_71 (by decide) ?_
  refine R_newa (t := 1) (N' := 128) (a0 := (128, .inl (fun _ => 0))) (fun _ => rfl) rfl kc_int (fun _ => rfl) (fun _ => rfl) (by decide) rfl (by decide) dX10_init_74 (GC_ext (n0 := (465)) (by omega)) hC (cLf9 (cOr (by omega)) trivial trivial trivial trivial trivial trivial trivial trivial) ⟨cVr (by omega), trivial⟩ (by omega) (by omega) (by omega) ?_
  have hC := CLO_new (x := .inl (1, (128, .inl (fun _ => 0)))) hC trivial
  refine R_putN (k := 19) (fs := [.ref (465), .ref (466), .ref (467), .ref (468), .ref (469), .int 0, .int 0, .int 0, .int 0, .int 0, .int 0, .int 0, .int 0, .ref (470), .int 0, .int (-1), .ref (471), .int 0, .int 0, .null, .int 0]) (fs' := [.ref (465), .ref (466), .ref (467), .ref (468), .ref (469), .int 0, .int 0, .int 0, .int 0, .int 0, .int 0, .int 0, .int 0, .ref (470), .int 0, .int (-1), .ref (471), .int 0, .int 0, .ref (472), .int 0]) cok10 (by decide) wf_X10_36 rfl rfl (fun _ => rfl) (fun _ => rfl) dX10_init_76 (by rw [nE_ne (by omega), nE_eq (by omega)]) (by omega) (Nat.le_of_ble_eq_true rfl) GC_init rfl ?_
  have hC := CLO_set (a := (464)) (x := .inr (10, [.ref (465), .ref (466), .ref (467), .ref (468), .ref (469), .int 0, .int 0, .int 0, .int 0, .int 0, .int 0, .int 0, .int 0, .ref (470), .int 0, .int (-1), .ref (471), .int 0, .int 0, .ref (472), .int 0])) hC ⟨cVr (by omega), cVr (by omega), cVr (by omega), cVr (by omega), cVr (by omega), trivial, trivial, trivial, trivial, trivial, trivial, trivial, trivial, cVr (by omega), trivial, trivial, cVr (by omega), trivial, trivial, cVr (by omega), trivial, trivial⟩
  refine R_cret dX10_init_79 (by omega) (by omega) ⟨rfl, hC, fun b hb => ?_, fun b h1 h2 => ?_⟩
  · dsimp only
    rw [nE_ne (by omega), nE_ne (by omega), nE_ne (by omega), nE_ne (by omega), nE_ne (by omega), nE_ne (by omega), nE_ne (by omega), nE_ne (by omega), nE_ne (by omega), nE_ne (by omega), nE_ne (by omega), nE_ne (by omega), nE_ne (by omega), nE_ne (by omega), nE_ne (by omega), nE_ne (by omega), nE_ne (by omega)]
  · dsimp only
    rcases (show b = (464) ∨ b = (465) ∨ b = (466) ∨ b = (467) ∨ b = (468) ∨ b = (469) ∨ b = (470) ∨ b = (471) ∨ b = (472) by omega) with rfl | rfl | rfl | rfl | rfl | rfl | rfl | rfl | rfl
    · skip
      rw [nE_eq (by omega)]
      rfl
    · skip
      rw [nE_ne (by omega), nE_ne (by omega), nE_ne (by omega), nE_ne (by omega), nE_ne (by omega), nE_ne (by omega), nE_ne (by omega), nE_ne (by omega), nE_ne (by omega), nE_ne (by omega), nE_ne (by omega), nE_ne (by omega), nE_ne (by omega), nE_ne (by omega), nE_ne (by omega), nE_ne (by omega), nE_eq (by omega)]
      rfl
    · skip
      rw [nE_ne (by omega), nE_ne (by omega), nE_ne (by omega), nE_ne (by omega), nE_ne (by omega), nE_ne (by omega), nE_ne (by omega), nE_ne (by omega), nE_ne (by omega), nE_ne (by omega), nE_ne (by omega), nE_ne (by omega), nE_ne (by omega), nE_ne (by omega), nE_eq (by omega)]
      rfl
    · skip
      rw [nE_ne (by omega), nE_ne (by omega), nE_ne (by omega), nE_ne (by omega), nE_ne (by omega), nE_ne (by omega), nE_ne (by omega), nE_ne (by omega), nE_ne (by omega), nE_ne (by omega), nE_ne (by omega), nE_ne (by omega), nE_eq (by omega)]
      rfl
    · skip
      rw [nE_ne (by omega), nE_ne (by omega), nE_ne (by omega), nE_ne (by omega), nE_ne (by omega), nE_ne (by omega), nE_ne (by omega), nE_ne (by omega), nE_ne (by omega), nE_ne (by omega), nE_eq (by omega)]
      rfl
    · skip
      rw [nE_ne (by omega), nE_ne (by omega), nE_ne (by omega), nE_ne (by omega), nE_ne (by omega), nE_ne (by omega), nE_ne (by omega), nE_ne (by omega), nE_eq (by omega)]
      rfl
    · skip
      rw [nE_ne (by omega), nE_ne (by omega), nE_ne (by omega), nE_ne (by omega), nE_ne (by omega), nE_ne (by omega), nE_eq (by omega)]
      rfl
    · skip
      rw [nE_ne (by omega), nE_ne (by omega), nE_ne (by omega), nE_eq (by omega)]
      rfl
    · skip
      rw [nE_ne (by omega), nE_eq (by omega)]
      rfl
theorem k_X9_init {l : Launch} (hf : l.stackTraces = false) {E : Nat → vE} (hC : CLO 1 E) (hE0 : E 0 = .inr (9, [.null, .null, .null, .null, .null, .null, .null, .null, .null, .int 0])) : CTR l yX9_init cX9_init 1 5 463 2218 [.ref (0)] ((1), E) (ZC (0) 464 E) := by
  refine CTR.intro (lf := L9 (some (.ref (0))) none none none none none none none none) (by decide +kernel) rfl hf (fun _ => Nat.le_of_ble_eq_true rfl) (fun _ => rfl) ?_
  show Q l RX9 cX9_init 1 5 463 2218 (GC (1) 463 2218 _) 0 _ [] ((1), E) 0 0
  refine R_aload_n dX9_init_0 rfl rfl ?_
  refine R_objI wo_X9_3 wo_in wo_co dX9_init_1 (by omega) (Nat.le_of_ble_eq_true rfl) ?_
  refine R_aload_n dX9_init_4 rfl rfl ?_
  refine R_new cok3 kl_X9_9 kn_X3 wi_X3 kd_X3 (fun _ => rfl) dX9_init_5 (GC_ext (n0 := (1)) (by omega)) hC (cLf9 (cOr (by omega)) trivial trivial trivial trivial trivial trivial trivial trivial) ⟨cVr (by omega), trivial⟩ (by omega) (by omega) (by omega) ?_
  have hC := CLO_new (x := .inr (3, [.null, .null, .int 0, .int 0, .int 0, .int 0, .int 0, .int 0, .int 0, .int 0])) hC ⟨trivial, trivial, trivial, trivial, trivial, trivial, trivial, trivial, trivial, trivial, trivial⟩
  refine R_dup dX9_init_8 rfl ?_
  refine R_callI (As := []) ki_X9_11 (k_X3_init hf hC (by rw [nE_eq (by omega)]) (FNH_of (a := (1)) (by rfl)) (by omega)) dX9_init_9 (by omega) (by omega) (by omega) rfl rfl (Nat.le_of_ble_eq_true rfl) (GC_ext (n0 := (1)) (by omega)) (cLf9 (cOr (by omega)) trivial trivial trivial trivial trivial trivial trivial trivial) ⟨cVr (by omega), cVr (by omega), trivial⟩ (fun h1 hz => ?_)
  obtain ⟨N1, E1⟩ := h1
  obtain ⟨e1, hC1, hlo1, hhi1⟩ := hz
  dsimp only at e1 hC1 hlo1 hhi1
  subst e1
  have hC : CLO (42) E1 := hC1
  refine R_putN (k := 0) (fs := [.null, .null, .null, .null, .null, .null, .null, .null, .null, .int 0]) (fs' := [.ref (1), .null, .null, .null, .null, .null, .null, .null, .null, .int 0]) cok9 (by decide) wf_X9_12 rfl rfl (fun _ => rfl) (fun _ => rfl) dX9_init_12 (by rw [hlo1 _ (by omega), nE_ne (by omega)]; exact hE0) (by omega) (Nat.le_of_ble_eq_true rfl) GC_init rfl ?_
  have hC := CLO_set (a := (0)) (x := .inr (9, [.ref (1), .null, .null, .null, .null, .null, .null, .null, .null, .int 0])) hC ⟨cVr (by omega), trivial, trivial, trivial, trivial, trivial, trivial, trivial, trivial, trivial, trivial⟩
  refine R_aload_n dX9_init_15 rfl rfl ?_
  refine R_new cok3 kl_X9_9 kn_X3 wi_X3 kd_X3 (fun _ => rfl) dX9_init_16 (GC_ext (n0 := (1)) (by omega)) hC (cLf9 (cOr (by omega)) trivial trivial trivial trivial trivial trivial trivial trivial) ⟨cVr (by omega), trivial⟩ (by omega) (by omega) (by omega) ?_
  have hC := CLO_new (x := .inr (3, [.null, .null, .int 0, .int 0, .int 0, .int 0, .int 0, .int 0, .int 0, .int 0])) hC ⟨trivial, trivial, trivial, trivial, trivial, trivial, trivial, trivial, trivial, trivial, trivial⟩
  refine R_dup dX9_init_19 rfl ?_
  refine R_callI (As := []) ki_X9_11 (k_X3_init hf hC (by rw [nE_eq (by omega)]) (FNH_of (a := (42)) (by rfl)) (by omega)) dX9_init_20 (by omega) (by omega) (by omega) rfl rfl (Nat.le_of_ble_eq_true rfl) (GC_ext (n0 := (1)) (by omega)) (cLf9 (cOr (by omega)) trivial trivial trivial trivial trivial trivial trivial trivial) ⟨cVr (by omega), cVr (by omega), trivial⟩ (fun h1 hz => ?_)
  obtain ⟨N2, E2⟩ := h1
  obtain ⟨e2, hC2, hlo2, hhi2⟩ := hz
  dsimp only at e2 hC2 hlo2 hhi2
  subst e2
  have hC : CLO (83) E2 := hC2
  refine R_putN (k := 1) (fs := [.ref (1), .null, .null, .null, .null, .null, .null, .null, .null, .int 0]) (fs' := [.ref (1), .ref (42), .null, .null, .null, .null, .null, .null, .null, .int 0]) cok9 (by decide) wf_X9_16 rfl rfl (fun _ => rfl) (fun _ => rfl) dX9_init_23 (by rw [hlo2 _ (by omega), nE_ne (by omega), nE_eq (by omega)]) (by omega) (Nat.le_of_ble_eq_true rfl) GC_init rfl ?_
  have hC := CLO_set (a := (0)) (x := .inr (9, [.ref (1), .ref (42), .null, .null, .null, .null, .null, .null, .null, .int 0])) hC ⟨cVr (by omega), cVr (by omega), trivial, trivial, trivial, trivial, trivial, trivial, trivial, trivial, trivial⟩
  refine R_aload_n dX9_init_26 rfl rfl ?_
  refine R_new cok3 kl_X9_9 kn_X3 wi_X3 kd_X3 (fun _ => rfl) dX9_init_27 (GC_ext (n0 := (1)) (by omega)) hC (cLf9 (cOr (by omega)) trivial trivial trivial trivial trivial trivial trivial trivial) ⟨cVr (by omega), trivial⟩ (by omega) (by omega) (by omega) ?_
  have hC := CLO_new (x := .inr (3, [.null, .null, .int 0, .int 0, .int 0, .int 0, .int 0, .int 0, .int 0, .int 0])) hC ⟨trivial, trivial, trivial, trivial, trivial, trivial, trivial, trivial, trivial, trivial, trivial⟩
  refine R_dup dX9_init_30 rfl ?_
  refine R_callI (As := []) ki_X9_11 (k_X3_init hf hC (by rw [nE_eq (by omega)]) (FNH_of (a := (83)) (by rfl)) (by omega)) dX9_init_31 (by omega) (by omega) (by omega) rfl rfl (Nat.le_of_ble_eq_true rfl) (GC_ext (n0 := (1)) (by omega)) (cLf9 (cOr (by omega)) trivial trivial trivial trivial trivial trivial trivial trivial) ⟨cVr (by omega), cVr (by omega), trivial⟩ (fun h1 hz => ?_)
  obtain ⟨N3, E3⟩ := h1
  obtain ⟨e3, hC3, hlo3, hhi3⟩ := hz
  dsimp only at e3 hC3 hlo3 hhi3
  subst e3
  have hC : CLO (124) E3 := hC3
  refine R_putN (k := 2) (fs := [.ref (1), .ref (42), .null, .null, .null, .null, .null, .null, .null, .int 0]) (fs' := [.ref (1), .ref (42), .ref (83), .null, .null, .null, .null, .null, .null, .int 0]) cok9 (by decide) wf_X9_19 rfl rfl (fun _ => rfl) (fun _ => rfl) dX9_init_34 (by rw [hlo3 _ (by omega), nE_ne (by omega), nE_eq (by omega)]) (by omega) (Nat.le_of_ble_eq_true rfl) GC_init rfl ?_
  have hC := CLO_set (a := (0)) (x := .inr (9, [.ref (1), .ref (42), .ref (83), .null, .null, .null, .null, .null, .null, .int 0])) hC ⟨cVr (by omega), cVr (by omega), cVr (by omega), trivial, trivial, trivial, trivial, trivial, trivial, trivial, trivial⟩
  refine R_aload_n dX9_init_37 rfl rfl ?_
  refine R_new cok2 kl_X9_22 kn_X2 wi_X2 kd_X2 (fun _ => rfl) dX9_init_38 (GC_ext (n0 := (1)) (by omega)) hC (cLf9 (cOr (by omega)) trivial trivial trivial trivial trivial trivial trivial trivial) ⟨cVr (by omega), trivial⟩ (by omega) (by omega) (by omega) ?_
  have hC := CLO_new (x := .inr (2, [.null, .int 0])) hC ⟨trivial, trivial, trivial⟩
  refine R_dup dX9_init_41 rfl ?_
  refine R_callI (As := []) ki_X9_24 (k_X2_init hf hC (by rw [nE_eq (by omega)])) dX9_init_42 (by omega) (by omega) (by omega) rfl rfl (Nat.le_of_ble_eq_true rfl) (GC_ext (n0 := (1)) (by omega)) (cLf9 (cOr (by omega)) trivial trivial trivial trivial trivial trivial trivial trivial) ⟨cVr (by omega), cVr (by omega), trivial⟩ (fun h1 hz => ?_)
  obtain ⟨N4, E4⟩ := h1
  obtain ⟨e4, hC4, hlo4, hhi4⟩ := hz
  dsimp only at e4 hC4 hlo4 hhi4
  subst e4
  have hC : CLO (454) E4 := hC4
  refine R_putN (k := 3) (fs := [.ref (1), .ref (42), .ref (83), .null, .null, .null, .null, .null, .null, .int 0]) (fs' := [.ref (1), .ref (42), .ref (83), .ref (124), .null, .null, .null, .null, .null, .int 0]) cok9 (by decide) wf_X9_25 rfl rfl (fun _ => rfl) (fun _ => rfl) dX9_init_45 (by rw [hlo4 _ (by omega), nE_ne (by omega), nE_eq (by omega)]) (by omega) (Nat.le_of_ble_eq_true rfl) GC_init rfl ?_
  have hC := CLO_set (a := (0)) (x := .inr (9, [.ref (1), .ref (42), .ref (83), .ref (124), .null, .null, .null, .null, .null, .int 0])) hC ⟨cVr (by omega), cVr (by omega), cVr (by omega), cVr (by omega), trivial, trivial, trivial, trivial, trivial, trivial, trivial⟩
  refine R_aload_n dX9_init_48 rfl rfl ?_
  refine R_new cok5 kl_X9_29 kn_X5 wi_X5 kd_X5 (fun _ => rfl) dX9_init_49 (GC_ext (n0 := (1)) (by omega)) hC (cLf9 (cOr (by omega)) trivial trivial trivial trivial trivial trivial trivial trivial) ⟨cVr (by omega), trivial⟩ (by omega) (by omega) (by omega) ?_
  have hC := CLO_new (x := .inr (5, [.int 0, .int 0, .int 0, .int 0, .int 0])) hC ⟨trivial, trivial, trivial, trivial, trivial, trivial⟩
  refine R_dup dX9_init_52 rfl ?_
  refine R_callJ (As := []) ki_X9_31 (k_X5_init hf hC (by rw [nE_eq (by omega)])) dX9_init_53 (by omega) (by omega) (by omega) rfl rfl (Nat.le_of_ble_eq_true rfl) (GC_ext (n0 := (1)) (by omega)) (cLf9 (cOr (by omega)) trivial trivial trivial trivial trivial trivial trivial trivial) ⟨cVr (by omega), cVr (by omega), trivial⟩ (fun h1 hz => ?_)
  obtain ⟨N5, E5⟩ := h1
  obtain ⟨e5, hC5, hlo5, hhi5⟩ := hz
  dsimp only at e5 hC5 hlo5 hhi5
  subst e5
  have hC : CLO (455) E5 := hC5
  refine R_putN (k := 4) (fs := [.ref (1), .ref (42), .ref (83), .ref (124), .null, .null, .null, .null, .null, .int 0]) (fs' := [.ref (1), .ref (42), .ref (83), .ref (124), .ref (454), .null, .null, .null, .null, .int 0]) cok9 (by decide) wf_X9_32 rfl rfl (fun _ => rfl) (fun _ => rfl) dX9_init_56 (by rw [hlo5 _ (by omega), nE_ne (by omega), nE_eq (by omega)]) (by omega) (Nat.le_of_ble_eq_true rfl) GC_init rfl ?_
  have hC := CLO_set (a := (0)) (x := .inr (9, [.ref (1), .ref (42), .ref (83), .ref (124), .ref (454), .null, .null, .null, .null, .int 0])) hC ⟨cVr (by omega), cVr (by omega), cVr (by omega), cVr (by omega), cVr (by omega), trivial, trivial, trivial, trivial, trivial, trivial⟩
  refine R_aload_n dX9_init_59 rfl rfl ?_
  refine R_new cok8 kl_X9_36 kn_X8 wi_X8 kd_X8 (fun _ => rfl) dX9_init_60 (GC_ext (n0 := (1)) (by omega)) hC (cLf9 (cOr (by omega)) trivial trivial trivial trivial trivial trivial trivial trivial) ⟨cVr (by omega), trivial⟩ (by omega) (by omega) (by omega) ?_
  have hC := CLO_new (x := .inr (8, [.null, .null])) hC ⟨trivial, trivial, trivial⟩
  refine R_dup dX9_init_63 rfl ?_
  refine R_aload_n dX9_init_64 rfl rfl ?_
  refine R_getN (k := 0) (fs := [.ref (1), .ref (42), .ref (83), .ref (124), .ref (454), .null, .null, .null, .null, .int 0]) cok9 (by decide) wf_X9_12 dX9_init_65 (by rw [nE_ne (by omega), nE_eq (by omega)]) (by omega) rfl ?_
  refine R_aload_n dX9_init_68 rfl rfl ?_
  refine R_getN (k := 4) (fs := [.ref (1), .ref (42), .ref (83), .ref (124), .ref (454), .null, .null, .null, .null, .int 0]) cok9 (by decide) wf_X9_32 dX9_init_69 (by rw [nE_ne (by omega), nE_eq (by omega)]) (by omega) rfl ?_
  refine R_callI (As := [.ref (1), .ref (454)]) ki_X9_38 (k_X8_init hf hC (by rw [nE_eq (by omega)])) dX9_init_72 (by omega) (by omega) (by omega) rfl rfl (Nat.le_of_ble_eq_true rfl) (GC_ext (n0 := (1)) (by omega)) (cLf9 (cOr (by omega)) trivial trivial trivial trivial trivial trivial trivial trivial) ⟨cVr (by omega), cVr (by omega), trivial⟩ (fun h1 hz => ?_)
  obtain ⟨N6, E6⟩ := h1
  obtain ⟨e6, hC6, hlo6, hhi6⟩ := hz
  dsimp only at e6 hC6 hlo6 hhi6
  subst e6
  have hC : CLO (456) E6 := hC6
  refine R_putN (k := 5) (fs := [.ref (1), .ref (42), .ref (83), .ref (124), .ref (454), .null, .null, .null, .null, .int 0]) (fs' := [.ref (1), .ref (42), .ref (83), .ref (124), .ref (454), .ref (455), .null, .null, .null, .int 0]) cok9 (by decide) wf_X9_41 rfl rfl (fun _ => rfl) (fun _ => rfl) dX9_init_75 (by rw [hlo6 _ (by omega), nE_ne (by omega), nE_eq (by omega)]) (by omega) (Nat.le_of_ble_eq_true rfl) GC_init rfl ?_
  have hC := CLO_set (a := (0)) (x := .inr (9, [.ref (1), .ref (42), .ref (83), .ref (124), .ref (454), .ref (455), .null, .null, .null, .int 0])) hC ⟨cVr (by omega), cVr (by omega), cVr (by omega), cVr (by omega), cVr (by omega), cVr (by omega), trivial, trivial, trivial, trivial, trivial⟩
  refine R_aload_n dX9_init_78 rfl rfl ?_
  refine R_new cok1 kl_X9_45 kn_X1 wi_X1 kd_X1 (fun _ => rfl) dX9_init_79 (GC_ext (n0 := (1)) (by omega)) hC (cLf9 (cOr (by omega)) trivial trivial trivial trivial trivial trivial trivial trivial) ⟨cVr (by omega), trivial⟩ (by omega) (by omega) (by omega) ?_
  have hC := CLO_new (x := .inr (1, [.null, .null])) hC ⟨trivial, trivial, trivial⟩
  refine R_dup dX9_init_82 rfl ?_
  refine R_aload_n dX9_init_83 rfl rfl ?_
  refine R_getN (k := 0) (fs := [.ref (1), .ref (42), .ref (83), .ref (124), .ref (454), .ref (455), .null, .null, .null, .int 0]) cok9 (by decide) wf_X9_12 dX9_init_84 (by rw [nE_ne (by omega), nE_eq (by omega)]) (by omega) rfl ?_
  refine R_callI (As := [.ref (1)]) ki_X9_47 (k_X1_init hf hC (by rw [nE_eq (by omega)])) dX9_init_87 (by omega) (by omega) (by omega) rfl rfl (Nat.le_of_ble_eq_true rfl) (GC_ext (n0 := (1)) (by omega)) (cLf9 (cOr (by omega)) trivial trivial trivial trivial trivial trivial trivial trivial) ⟨cVr (by omega), cVr (by omega), trivial⟩ (fun h1 hz => ?_)
  obtain ⟨N7, E7⟩ := h1
  obtain ⟨e7, hC7, hlo7, hhi7⟩ := hz
  dsimp only at e7 hC7 hlo7 hhi7
  subst e7
  have hC : CLO (460) E7 := hC7
  refine R_putN (k := 6) (fs := [.ref (1), .ref (42), .ref (83), .ref (124), .ref (454), .ref (455), .null, .null, .null, .int 0]) (fs' := [.ref (1), .ref (42), .ref (83), .ref (124), .ref (454), .ref (455), .ref (456), .null, .null, .int 0]) cok9 (by decide) wf_X9_50 rfl rfl (fun _ => rfl) (fun _ => rfl) dX9_init_90 (by rw [hlo7 _ (by omega), nE_ne (by omega), nE_eq (by omega)]) (by omega) (Nat.le_of_ble_eq_true rfl) GC_init rfl ?_
  have hC := CLO_set (a := (0)) (x := .inr (9, [.ref (1), .ref (42), .ref (83), .ref (124), .ref (454), .ref (455), .ref (456), .null, .null, .int 0])) hC ⟨cVr (by omega), cVr (by omega), cVr (by omega), cVr (by omega), cVr (by omega), cVr (by omega), cVr (by omega), trivial, trivial, trivial, trivial⟩
  refine R_aload_n dX9_init_93 rfl rfl ?_
  refine R_new cok6 kl_X9_54 kn_X6 wi_X6 kd_X6 (fun _ => rfl) dX9_init_94 (GC_ext (n0 := (1)) (by omega)) hC (cLf9 (cOr (by omega)) trivial trivial trivial trivial trivial trivial trivial trivial) ⟨cVr (by omega), trivial⟩ (by omega) (by omega) (by omega) ?_
  have hC := CLO_new (x := .inr (6, [.null, .int 0, .int 0, .int 0, .int 0, .int 0, .int 0, .int 0, .int 0])) hC ⟨trivial, trivial, trivial, trivial, trivial, trivial, trivial, trivial, trivial, trivial⟩
  refine R_dup dX9_init_97 rfl ?_
  refine R_callJ (As := []) ki_X9_56 (k_X6_init hf hC (by rw [nE_eq (by omega)])) dX9_init_98 (by omega) (by omega) (by omega) rfl rfl (Nat.le_of_ble_eq_true rfl) (GC_ext (n0 := (1)) (by omega)) (cLf9 (cOr (by omega)) trivial trivial trivial trivial trivial trivial trivial trivial) ⟨cVr (by omega), cVr (by omega), trivial⟩ (fun h1 hz => ?_)
  obtain ⟨N8, E8⟩ := h1
  obtain ⟨e8, hC8, hlo8, hhi8⟩ := hz
  dsimp only at e8 hC8 hlo8 hhi8
  subst e8
  have hC : CLO (462) E8 := hC8
  refine R_putN (k := 7) (fs := [.ref (1), .ref (42), .ref (83), .ref (124), .ref (454), .ref (455), .ref (456), .null, .null, .int 0]) (fs' := [.ref (1), .ref (42), .ref (83), .ref (124), .ref (454), .ref (455), .ref (456), .ref (460), .null, .int 0]) cok9 (by decide) wf_X9_57 rfl rfl (fun _ => rfl) (fun _ => rfl) dX9_init_101 (by rw [hlo8 _ (by omega), nE_ne (by omega), nE_eq (by omega)]) (by omega) (Nat.le_of_ble_eq_true rfl) GC_init rfl ?_
  have hC := CLO_set (a := (0)) (x := .inr (9, [.ref (1), .ref (42), .ref (83), .ref (124), .ref (454), .ref (455), .ref (456), .ref (460), .null, .int 0])) hC ⟨cVr (by omega), cVr (by omega), cVr (by omega), cVr (by omega), cVr (by omega), cVr (by omega), cVr (by omega), cVr (by omega), trivial, trivial, trivial⟩
  refine R_aload_n dX9_init_104 rfl rfl ?_
  refine R_new cok4 kl_X9_61 kn_X4 wi_X4 kd_X4 (fun _ => rfl) dX9_init_105 (GC_ext (n0 := (1)) (by omega)) hC (cLf9 (cOr (by omega)) trivial trivial trivial trivial trivial trivial trivial trivial) ⟨cVr (by omega), trivial⟩ (by omega) (by omega) (by omega) ?_
  have hC := CLO_new (x := .inr (4, [.null, .int 0])) hC ⟨trivial, trivial, trivial⟩
  refine R_dup dX9_init_108 rfl ?_
  refine R_callJ (As := []) ki_X9_63 (k_X4_init hf hC (by rw [nE_eq (by omega)])) dX9_init_109 (by omega) (by omega) (by omega) rfl rfl (Nat.le_of_ble_eq_true rfl) (GC_ext (n0 := (1)) (by omega)) (cLf9 (cOr (by omega)) trivial trivial trivial trivial trivial trivial trivial trivial) ⟨cVr (by omega), cVr (by omega), trivial⟩ (fun h1 hz => ?_)
  obtain ⟨N9, E9⟩ := h1
  obtain ⟨e9, hC9, hlo9, hhi9⟩ := hz
  dsimp only at e9 hC9 hlo9 hhi9
  subst e9
  have hC : CLO (464) E9 := hC9
  refine R_putN (k := 8) (fs := [.ref (1), .ref (42), .ref (83), .ref (124), .ref (454), .ref (455), .ref (456), .ref (460), .null, .int 0]) (fs' := [.ref (1), .ref (42), .ref (83), .ref (124), .ref (454), .ref (455), .ref (456), .ref (460), .ref (462), .int 0]) cok9 (by decide) wf_X9_64 rfl rfl (fun _ => rfl) (fun _ => rfl) dX9_init_112 (by rw [hlo9 _ (by omega), nE_ne (by omega), nE_eq (by omega)]) (by omega) (Nat.le_of_ble_eq_true rfl) GC_init rfl ?_
  have hC := CLO_set (a := (0)) (x := .inr (9, [.ref (1), .ref (42), .ref (83), .ref (124), .ref (454), .ref (455), .ref (456), .ref (460), .ref (462), .int 0])) hC ⟨cVr (by omega), cVr (by omega), cVr (by omega), cVr (by omega), cVr (by omega), cVr (by omega), cVr (by omega), cVr (by omega), cVr (by omega), trivial, trivial⟩
  refine R_cret dX9_init_115 (by omega) (by omega) ⟨rfl, hC, fun b hb => ?_, fun b h1 h2 => ?_⟩
  · dsimp only
    rw [nE_ne (by omega), hlo9 _ (by omega), nE_ne (by omega), nE_ne (by omega), hlo8 _ (by omega), nE_ne (by omega), nE_ne (by omega), hlo7 _ (by omega), nE_ne (by omega), nE_ne (by omega), hlo6 _ (by omega), nE_ne (by omega), nE_ne (by omega), hlo5 _ (by omega), nE_ne (by omega), nE_ne (by omega), hlo4 _ (by omega), nE_ne (by omega), nE_ne (by omega), hlo3 _ (by omega), nE_ne (by omega), nE_ne (by omega), hlo2 _ (by omega), nE_ne (by omega), nE_ne (by omega), hlo1 _ (by omega), nE_ne (by omega)]
  · dsimp only
    rcases (show b = (0) ∨ ((1) ≤ b ∧ b < (42)) ∨ ((42) ≤ b ∧ b < (83)) ∨ ((83) ≤ b ∧ b < (124)) ∨ ((124) ≤ b ∧ b < (454)) ∨ ((454) ≤ b ∧ b < (455)) ∨ ((455) ≤ b ∧ b < (456)) ∨ ((456) ≤ b ∧ b < (460)) ∨ ((460) ≤ b ∧ b < (462)) ∨ ((462) ≤ b ∧ b < (464)) by omega) with rfl | ⟨h3, h4⟩ | ⟨h3, h4⟩ | ⟨h3, h4⟩ | ⟨h3, h4⟩ | ⟨h3, h4⟩ | ⟨h3, h4⟩ | ⟨h3, h4⟩ | ⟨h3, h4⟩ | ⟨h3, h4⟩
    · skip
      rw [nE_eq (by omega)]
      rfl
    · rw [nE_ne (by omega), hlo9 _ (by omega), nE_ne (by omega), nE_ne (by omega), hlo8 _ (by omega), nE_ne (by omega), nE_ne (by omega), hlo7 _ (by omega), nE_ne (by omega), nE_ne (by omega), hlo6 _ (by omega), nE_ne (by omega), nE_ne (by omega), hlo5 _ (by omega), nE_ne (by omega), nE_ne (by omega), hlo4 _ (by omega), nE_ne (by omega), nE_ne (by omega), hlo3 _ (by omega), nE_ne (by omega), nE_ne (by omega), hlo2 _ (by omega), nE_ne (by omega), nE_ne (by omega)]
      exact hhi1 b (by omega) (by omega)
    · rw [nE_ne (by omega), hlo9 _ (by omega), nE_ne (by omega), nE_ne (by omega), hlo8 _ (by omega), nE_ne (by omega), nE_ne (by omega), hlo7 _ (by omega), nE_ne (by omega), nE_ne (by omega), hlo6 _ (by omega), nE_ne (by omega), nE_ne (by omega), hlo5 _ (by omega), nE_ne (by omega), nE_ne (by omega), hlo4 _ (by omega), nE_ne (by omega), nE_ne (by omega), hlo3 _ (by omega), nE_ne (by omega), nE_ne (by omega)]
      exact hhi2 b (by omega) (by omega)
    · rw [nE_ne (by omega), hlo9 _ (by omega), nE_ne (by omega), nE_ne (by omega), hlo8 _ (by omega), nE_ne (by omega), nE_ne (by omega), hlo7 _ (by omega), nE_ne (by omega), nE_ne (by omega), hlo6 _ (by omega), nE_ne (by omega), nE_ne (by omega), hlo5 _ (by omega), nE_ne (by omega), nE_ne (by omega), hlo4 _ (by omega), nE_ne (by omega), nE_ne (by omega)]
      exact hhi3 b (by omega) (by omega)
    · rw [nE_ne (by omega), hlo9 _ (by omega), nE_ne (by omega), nE_ne (by omega), hlo8 _ (by omega), nE_ne (by omega), nE_ne (by omega), hlo7 _ (by omega), nE_ne (by omega), nE_ne (by omega), hlo6 _ (by omega), nE_ne (by omega), nE_ne (by omega), hlo5 _ (by omega), nE_ne (by omega), nE_ne (by omega)]
      exact hhi4 b (by omega) (by omega)
    · rw [nE_ne (by omega), hlo9 _ (by omega), nE_ne (by omega), nE_ne (by omega), hlo8 _ (by omega), nE_ne (by omega), nE_ne (by omega), hlo7 _ (by omega), nE_ne (by omega), nE_ne (by omega), hlo6 _ (by omega), nE_ne (by omega), nE_ne (by omega)]
      exact hhi5 b (by omega) (by omega)
    · rw [nE_ne (by omega), hlo9 _ (by omega), nE_ne (by omega), nE_ne (by omega), hlo8 _ (by omega), nE_ne (by omega), nE_ne (by omega), hlo7 _ (by omega), nE_ne (by omega), nE_ne (by omega)]
      exact hhi6 b (by omega) (by omega)
    · rw [nE_ne (by omega), hlo9 _ (by omega), nE_ne (by omega), nE_ne (by omega), hlo8 _ (by omega), nE_ne (by omega), nE_ne (by omega)]
      exact hhi7 b (by omega) (by omega)
    · rw [nE_ne (by omega), hlo9 _ (by omega), nE_ne (by omega), nE_ne (by omega)]
      exact hhi8 b (by omega) (by omega)
    · rw [nE_ne (by omega)]
      exact hhi9 b (by omega) (by omega)
