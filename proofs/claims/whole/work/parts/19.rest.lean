def rkS (M : MM) (p : Int32) (n i : Nat) : MM := itN (fun i M' => lnA M' i (letterO M' 1 p (nI i) n)) (mst M 462 1 0) i
theorem rkS_fr {M : MM} {p : Int32} {n x : Nat} (h1 : x ≠ 462) (h2 : x ≠ 463) : ∀ i, rkS M p n i x = M x
  | 0 => mst_fn h1
  | i + 1 => by
    show lnA (rkS M p n i) i _ x = M x
    rw [lnA, mst_fn h1, mst_fn h2]
    exact rkS_fr h1 h2 i
theorem rkS_len {M : MM} {p : Int32} {n : Nat} : ∀ i, rkS M p n i 462 1 = nI i
  | 0 => by
    show mst M 462 1 0 462 1 = nI 0
    rw [mst_eq, nI_0]
  | i + 1 => by
    show lnA (rkS M p n i) i (letterO (rkS M p n i) 1 p (nI i) n) 462 1 = _
    rw [lnA, mst_eq]
def liL (M : MM) (a : Nat) : List Int32 := dgs (M a 2) ++ ([42] ++ (dgs (M a 3) ++ (sdL (M (a + 1) 0) (M (a + 1) 1) (if M a 7 = 0 then 1 else 0) ++ sdL (M (a + 2) 0) (M (a + 2) 1) (if M a 7 = 1 then 1 else 0))))
/-- a fish as it is written: numbers of one figure, one side down -/
def oneF (M : MM) (a : Nat) : Prop := ¬ 9 < M a 2 ∧ ¬ 9 < M a 3 ∧ ¬ 9 < M (a + 1) 1 ∧ ¬ 9 < M (a + 2) 1 ∧ (M a 7 = 0 ∨ M a 7 = 1)
theorem sd_len (p q y : Int32) (h : ¬ 9 < q) : (sdL p q y).length = 3 + (dgs p).length + (if y = 0 then 0 else 1) := by
  unfold sdL
  have : (dgs q).length = 1 := by rw [dgs, if_neg h]; rfl
  simp only [List.length_append, List.length_cons, List.length_nil, this]
  split <;> simp <;> omega
section P19
variable {M : MM} {r : MR}
theorem L_X9_rack {l : Launch} (hf : l.stackTraces = false) {n : Nat} (hn : n ≤ 12) (hc : M 1 2 = nI n) {p : Int32} : ∀ (j i : Nat), i + j = 10 → Qc_X9_rack l (VI (nI 10) (hp (rkS M p n 10) r)) 14 (L9 (some (.ref 0)) (some (.int p)) (some (.int (nI i))) none none none none none none) [] (hp (rkS M p n i) r) 1 6 := by
  intro j
  induction j with
  | zero =>
    intro i hi
    have hin : 10 = i := by omega
    subst hin
    refine R_iload_n dX9_rack_14 rfl rfl ?_
    refine R_bipush (v := 10) dX9_rack_15 (by decide) ?_
    refine R_icmp_ge_t (tgt := 42) dX9_rack_17 rfl (nI_le (a := 10) (by omega) (by omega)) ?_
    refine R_aload_n dX9_rack_42 rfl rfl ?_
    refine G_get cok9 8 wf_X9_64 dX9_rack_43 (by first | exact rfl | exact hsf isH1 (by omega) | assumption) ⟨(Nat.le_of_ble_eq_true rfl), (Nat.le_of_ble_eq_true rfl)⟩ rfl ?_
    refine G_get cok4 1 wf_X9_263 dX9_rack_46 (by first | exact rfl | exact hsf isH1 (by omega) | assumption) ⟨(Nat.le_of_ble_eq_true rfl), (Nat.le_of_ble_eq_true rfl)⟩ rfl ?_
    refine R_iret dX9_rack_49 rfl (Nat.le_of_ble_eq_true rfl) (Nat.le_of_ble_eq_true rfl) ?_
    rw [rkS_len]
    exact ⟨rfl, rfl⟩
  | succ j ih =>
    intro i hi
    have hi1 : i < 10 := by omega
    refine R_iload_n dX9_rack_14 rfl rfl ?_
    refine R_bipush (v := 10) dX9_rack_15 (by decide) ?_
    refine R_icmp_ge_f (tgt := 42) dX9_rack_17 rfl (nI_ge (b := 10) (by omega) (by omega)) ?_
    refine R_aload_n dX9_rack_20 rfl rfl ?_
    refine G_get cok9 8 wf_X9_64 dX9_rack_21 (by first | exact rfl | exact hsf isH1 (by omega) | assumption) ⟨(Nat.le_of_ble_eq_true rfl), (Nat.le_of_ble_eq_true rfl)⟩ rfl ?_
    refine R_aload_n dX9_rack_24 rfl rfl ?_
    refine G_get cok9 0 wf_X9_12 dX9_rack_25 (by first | exact rfl | exact hsf isH1 (by omega) | assumption) ⟨(Nat.le_of_ble_eq_true rfl), (Nat.le_of_ble_eq_true rfl)⟩ rfl ?_
    refine R_iload_n dX9_rack_28 rfl rfl ?_
    refine R_iload_n dX9_rack_29 rfl rfl ?_
    refine G_cV2 cw_X9_258 (s_X3_letterOn hf isH1 hn (by rw [rkS_fr (by decide) (by decide)]; exact hc)) dX9_rack_30 (rcv cok3 (by first | exact rfl | exact hsf isH1 (by omega) | assumption) (Nat.le_of_ble_eq_true rfl)) ⟨(Nat.le_of_ble_eq_true rfl), (Nat.le_of_ble_eq_true rfl), (Nat.le_of_ble_eq_true rfl), (Nat.le_of_ble_eq_true rfl)⟩ ?_
    refine G_cV1v cw_X9_262 (s_X4_add hf (rkS_len i) (by omega)) dX9_rack_33 (rcv cok4 (by first | exact rfl | exact hsf isH1 (by omega) | assumption) (Nat.le_of_ble_eq_true rfl)) ⟨(Nat.le_of_ble_eq_true rfl), (Nat.le_of_ble_eq_true rfl), (Nat.le_of_ble_eq_true rfl), (Nat.le_of_ble_eq_true rfl)⟩ ?_
    first | refine R_iincN dX9_rack_36 (by decide) rfl (by decide) (st2 rfl) ?_ | refine R_iinc1 dX9_rack_36 (by decide) rfl (by decide) (st2 rfl) ?_
    refine R_goto (tgt := 14) dX9_rack_39 rfl ?_
    have h9 := ih (i + 1) (by omega)
    exact h9
theorem s_X9_rack {l : Launch} (hf : l.stackTraces = false) {n : Nat} (hn : n ≤ 12) (hc : M 1 2 = nI n) {p : Int32} : V_X9_rack l [.ref 0, .int p] (hp M r) (if inR p 4 = false then ZE IOB (hp M r) else VI (nI 10) (hp (rkS M p n 10) r)) := by
  refine VM.intro (lf := L9 (some (.ref 0)) (some (.int p)) none none none none none none none) (by decide +kernel) hf (fun _ => (Nat.le_of_ble_eq_true rfl)) (fun _ => rfl) ?_
  refine R_aload_n dX9_rack_0 rfl rfl ?_
  refine R_iload_n dX9_rack_1 rfl rfl ?_
  have hs_h9 := s_X9_needRack (M := M) (r := r) hf (x := p)
  by_cases h9 : inR p 4 = false
  · rw [if_pos h9] at hs_h9 ⊢
    exact G_xV1 cw_X9_159 hs_h9 dX9_rack_2 (rcv cok9 rfl (Nat.le_of_ble_eq_true rfl)) ⟨(Nat.le_of_ble_eq_true rfl), (Nat.le_of_ble_eq_true rfl), (Nat.le_of_ble_eq_true rfl), (Nat.le_of_ble_eq_true rfl)⟩ ⟨rfl, rfl⟩
  rw [if_neg h9] at hs_h9 ⊢
  refine G_tV1v cw_X9_159 hs_h9 dX9_rack_2 (rcv cok9 rfl (Nat.le_of_ble_eq_true rfl)) ⟨(Nat.le_of_ble_eq_true rfl), (Nat.le_of_ble_eq_true rfl), (Nat.le_of_ble_eq_true rfl), (Nat.le_of_ble_eq_true rfl)⟩ ?_
  refine R_aload_n dX9_rack_5 rfl rfl ?_
  refine G_get cok9 8 wf_X9_64 dX9_rack_6 (by first | exact rfl | exact hsf isH1 (by omega) | assumption) ⟨(Nat.le_of_ble_eq_true rfl), (Nat.le_of_ble_eq_true rfl)⟩ rfl ?_
  refine G_cV0v cw_X9_257 (s_X4_empty hf) dX9_rack_9 (rcv cok4 (by first | exact rfl | exact hsf isH1 (by omega) | assumption) (Nat.le_of_ble_eq_true rfl)) ⟨(Nat.le_of_ble_eq_true rfl), (Nat.le_of_ble_eq_true rfl), (Nat.le_of_ble_eq_true rfl), (Nat.le_of_ble_eq_true rfl)⟩ ?_
  refine R_iconst (v := 0) dX9_rack_12 (by decide) ?_
  refine R_istore_n dX9_rack_13 rfl (by decide) (st2 rfl) ?_
  exact L_X9_rack hf hn hc 10 0 (by omega)
theorem s_X9_line {l : Launch} (hf : l.stackTraces = false) {n : Nat} (hn : n ≤ 12) (hc : M 1 2 = nI n) (h1 : ∀ k, k < n → oneF M (6 + 3 * k)) {x : Int32} : V_X9_line l [.ref 0, .int x] (hp M r) (if hasB M 1 x = false then ZE IOB (hp M r) else VI (nI (liL M (fx x)).length) (hp (lnL (mst M 462 1 0) 0 (liL M (fx x))) r)) := by
  refine VM.intro (lf := L9 (some (.ref 0)) (some (.int x)) none none none none none none none) (by decide +kernel) hf (fun _ => (Nat.le_of_ble_eq_true rfl)) (fun _ => rfl) ?_
  refine R_aload_n dX9_line_0 rfl rfl ?_
  refine R_iload_n dX9_line_1 rfl rfl ?_
  have hs_h9 := s_X9_needFish (M := M) (r := r) hf (x := x)
  by_cases h9 : hasB M 1 x = false
  · rw [if_pos h9] at hs_h9 ⊢
    exact G_xV1 cw_X9_113 hs_h9 dX9_line_2 (rcv cok9 rfl (Nat.le_of_ble_eq_true rfl)) ⟨(Nat.le_of_ble_eq_true rfl), (Nat.le_of_ble_eq_true rfl), (Nat.le_of_ble_eq_true rfl), (Nat.le_of_ble_eq_true rfl)⟩ ⟨rfl, rfl⟩
  rw [if_neg h9] at hs_h9 ⊢
  refine G_tV1v cw_X9_113 hs_h9 dX9_line_2 (rcv cok9 rfl (Nat.le_of_ble_eq_true rfl)) ⟨(Nat.le_of_ble_eq_true rfl), (Nat.le_of_ble_eq_true rfl), (Nat.le_of_ble_eq_true rfl), (Nat.le_of_ble_eq_true rfl)⟩ ?_
  obtain ⟨k, hk, rfl, ex, ek⟩ := fx_k hc hn h9
  refine R_aload_n dX9_line_5 rfl rfl ?_
  refine G_get cok9 0 wf_X9_12 dX9_line_6 (by first | exact rfl | exact hsf isH1 (by omega) | assumption) ⟨(Nat.le_of_ble_eq_true rfl), (Nat.le_of_ble_eq_true rfl)⟩ rfl ?_
  refine R_iload_n dX9_line_9 rfl rfl ?_
  refine G_cV1 cw_X9_120 (s_X3_fishAt hf isH1 (by omega)) dX9_line_10 (rcv cok3 (by first | exact rfl | exact hsf isH1 (by omega) | assumption) (Nat.le_of_ble_eq_true rfl)) ⟨(Nat.le_of_ble_eq_true rfl), (Nat.le_of_ble_eq_true rfl), (Nat.le_of_ble_eq_true rfl), (Nat.le_of_ble_eq_true rfl)⟩ ?_
  refine R_astore_n dX9_line_13 rfl (by decide) (st2 rfl) ?_
  refine R_aload_n dX9_line_14 rfl rfl ?_
  refine G_get cok9 8 wf_X9_64 dX9_line_15 (by first | exact rfl | exact hsf isH1 (by omega) | assumption) ⟨(Nat.le_of_ble_eq_true rfl), (Nat.le_of_ble_eq_true rfl)⟩ rfl ?_
  refine G_cV0v cw_X9_257 (s_X4_empty hf) dX9_line_18 (rcv cok4 (by first | exact rfl | exact hsf isH1 (by omega) | assumption) (Nat.le_of_ble_eq_true rfl)) ⟨(Nat.le_of_ble_eq_true rfl), (Nat.le_of_ble_eq_true rfl), (Nat.le_of_ble_eq_true rfl), (Nat.le_of_ble_eq_true rfl)⟩ ?_
  rw [ex]
  have hka := hsf isH1 (i := k) (by omega)
  have e6 : 1 + 5 + 3 * k = 6 + 3 * k := by omega
  rw [e6]
  obtain ⟨a, ea⟩ : ∃ a, a = 6 + 3 * k := ⟨_, rfl⟩
  rw [e6, ← ea] at hka
  obtain ⟨o1, o2, o3, o4, o5⟩ := h1 k hk
  rw [← ea] at o1 o2 o3 o4 o5 ⊢
  have n1 : a ≠ 462 := by omega
  have n2 : a ≠ 463 := by omega
  have n3 : a + 1 ≠ 462 := by omega
  have n4 : a + 1 ≠ 463 := by omega
  have n5 : a + 2 ≠ 462 := by omega
  have n6 : a + 2 ≠ 463 := by omega
  have hk1 := fish1 hka
  have hk2 := fish2 hka
  have d1 : (dgs (M a 2)).length = 1 := by rw [dgs, if_neg o1]; rfl
  have d2 : (dgs (M a 3)).length = 1 := by rw [dgs, if_neg o2]; rfl
  have g1 := dgs_len (M (a + 1) 0)
  have g2 := dgs_len (M (a + 2) 0)
  obtain ⟨N0, e_N0⟩ : ∃ z, z = mst M 462 1 0 := ⟨_, rfl⟩
  have hm_N0 : N0 462 1 = nI (0) := by rw [e_N0]; first | exact mst_eq _ _ _ _ | exact lnL_len _ _ _ hm_N0
  have f_N0 : ∀ z, z ≠ 462 → z ≠ 463 → ∀ j, N0 z j = M z j := fun z z1 z2 j => by rw [e_N0]; first | (rw [mst_ne1 z1]; done) | (rw [lnL_fr z1 z2, f_N0 z z1 z2]; done) | (rw [lnA, mst_ne1 z1, mst_ne1 z2, f_N0 z z1 z2]; done)
  obtain ⟨N1, e_N1⟩ : ∃ z, z = lnL N0 0 (dgs (M a 2)) := ⟨_, rfl⟩
  have hm_N1 : N1 462 1 = nI (0 + (dgs (M a 2)).length) := by rw [e_N1]; first | exact mst_eq _ _ _ _ | exact lnL_len _ _ _ hm_N0
  have f_N1 : ∀ z, z ≠ 462 → z ≠ 463 → ∀ j, N1 z j = M z j := fun z z1 z2 j => by rw [e_N1]; first | (rw [mst_ne1 z1]; done) | (rw [lnL_fr z1 z2, f_N0 z z1 z2]; done) | (rw [lnA, mst_ne1 z1, mst_ne1 z2, f_N0 z z1 z2]; done)
  obtain ⟨N2, e_N2⟩ : ∃ z, z = lnA N1 (0 + (dgs (M a 2)).length) 42 := ⟨_, rfl⟩
  have hm_N2 : N2 462 1 = nI (0 + (dgs (M a 2)).length + 1) := by rw [e_N2]; first | exact mst_eq _ _ _ _ | exact lnL_len _ _ _ hm_N1
  have f_N2 : ∀ z, z ≠ 462 → z ≠ 463 → ∀ j, N2 z j = M z j := fun z z1 z2 j => by rw [e_N2]; first | (rw [mst_ne1 z1]; done) | (rw [lnL_fr z1 z2, f_N1 z z1 z2]; done) | (rw [lnA, mst_ne1 z1, mst_ne1 z2, f_N1 z z1 z2]; done)
  obtain ⟨N3, e_N3⟩ : ∃ z, z = lnL N2 (0 + (dgs (M a 2)).length + 1) (dgs (M a 3)) := ⟨_, rfl⟩
  have hm_N3 : N3 462 1 = nI (0 + (dgs (M a 2)).length + 1 + (dgs (M a 3)).length) := by rw [e_N3]; first | exact mst_eq _ _ _ _ | exact lnL_len _ _ _ hm_N2
  have f_N3 : ∀ z, z ≠ 462 → z ≠ 463 → ∀ j, N3 z j = M z j := fun z z1 z2 j => by rw [e_N3]; first | (rw [mst_ne1 z1]; done) | (rw [lnL_fr z1 z2, f_N2 z z1 z2]; done) | (rw [lnA, mst_ne1 z1, mst_ne1 z2, f_N2 z z1 z2]; done)
  rw [← e_N0]
  refine R_aload_n dX9_line_21 rfl rfl ?_
  refine G_get cok9 8 wf_X9_64 dX9_line_22 (by first | exact rfl | assumption) ⟨(Nat.le_of_ble_eq_true rfl), (Nat.le_of_ble_eq_true rfl)⟩ rfl ?_
  refine R_aload_n dX9_line_25 rfl rfl ?_
  refine G_get cok0 2 wf_X9_264 dX9_line_26 (by first | exact rfl | assumption) ⟨(Nat.le_of_ble_eq_true rfl), (Nat.le_of_ble_eq_true rfl)⟩ rfl ?_
  refine R_topE (f_N0 a n1 n2 2) ?_
  refine G_cV1v cw_X9_267 (s_X4_addNumber hf hm_N0 (by omega)) dX9_line_29 (rcv cok4 (by first | exact rfl | assumption) (Nat.le_of_ble_eq_true rfl)) ⟨(Nat.le_of_ble_eq_true rfl), (Nat.le_of_ble_eq_true rfl), (Nat.le_of_ble_eq_true rfl), (Nat.le_of_ble_eq_true rfl)⟩ ?_
  rw [← e_N1]
  refine R_aload_n dX9_line_32 rfl rfl ?_
  refine G_get cok9 8 wf_X9_64 dX9_line_33 (by first | exact rfl | assumption) ⟨(Nat.le_of_ble_eq_true rfl), (Nat.le_of_ble_eq_true rfl)⟩ rfl ?_
  refine R_bipush (v := 42) dX9_line_36 (by decide) ?_
  refine G_cV1v cw_X9_262 (s_X4_add hf hm_N1 (by omega)) dX9_line_38 (rcv cok4 (by first | exact rfl | assumption) (Nat.le_of_ble_eq_true rfl)) ⟨(Nat.le_of_ble_eq_true rfl), (Nat.le_of_ble_eq_true rfl), (Nat.le_of_ble_eq_true rfl), (Nat.le_of_ble_eq_true rfl)⟩ ?_
  rw [← e_N2]
  refine R_aload_n dX9_line_41 rfl rfl ?_
  refine G_get cok9 8 wf_X9_64 dX9_line_42 (by first | exact rfl | assumption) ⟨(Nat.le_of_ble_eq_true rfl), (Nat.le_of_ble_eq_true rfl)⟩ rfl ?_
  refine R_aload_n dX9_line_45 rfl rfl ?_
  refine G_get cok0 3 wf_X9_270 dX9_line_46 (by first | exact rfl | assumption) ⟨(Nat.le_of_ble_eq_true rfl), (Nat.le_of_ble_eq_true rfl)⟩ rfl ?_
  refine R_topE (f_N2 a n1 n2 3) ?_
  refine G_cV1v cw_X9_267 (s_X4_addNumber hf hm_N2 (by omega)) dX9_line_49 (rcv cok4 (by first | exact rfl | assumption) (Nat.le_of_ble_eq_true rfl)) ⟨(Nat.le_of_ble_eq_true rfl), (Nat.le_of_ble_eq_true rfl), (Nat.le_of_ble_eq_true rfl), (Nat.le_of_ble_eq_true rfl)⟩ ?_
  rw [← e_N3]
  refine R_iconst (v := 0) dX9_line_52 (by decide) ?_
  refine R_istore_n dX9_line_53 rfl (by decide) (st3 rfl) ?_
  rcases o5 with h7 | h7
  · have q1 := sd_len (M (a + 1) 0) (M (a + 1) 1) 1 o3
    have q2 := sd_len (M (a + 2) 0) (M (a + 2) 1) 0 o4
    simp only [show ((0 : Int32) = 0) = True from by simp, show ((1 : Int32) = 0) = False from by simp, if_true, if_false] at q1 q2
    obtain ⟨N4, e_N4⟩ : ∃ z, z = lnL N3 (0 + (dgs (M a 2)).length + 1 + (dgs (M a 3)).length) (sdL (M (a + 1) 0) (M (a + 1) 1) 1) := ⟨_, rfl⟩
    have hm_N4 : N4 462 1 = nI (0 + (dgs (M a 2)).length + 1 + (dgs (M a 3)).length + (sdL (M (a + 1) 0) (M (a + 1) 1) 1).length) := by rw [e_N4]; first | exact mst_eq _ _ _ _ | exact lnL_len _ _ _ hm_N3
    have f_N4 : ∀ z, z ≠ 462 → z ≠ 463 → ∀ j, N4 z j = M z j := fun z z1 z2 j => by rw [e_N4]; first | (rw [mst_ne1 z1]; done) | (rw [lnL_fr z1 z2, f_N3 z z1 z2]; done) | (rw [lnA, mst_ne1 z1, mst_ne1 z2, f_N3 z z1 z2]; done)
    obtain ⟨N5, e_N5⟩ : ∃ z, z = lnL N4 (0 + (dgs (M a 2)).length + 1 + (dgs (M a 3)).length + (sdL (M (a + 1) 0) (M (a + 1) 1) 1).length) (sdL (M (a + 2) 0) (M (a + 2) 1) 0) := ⟨_, rfl⟩
    have hm_N5 : N5 462 1 = nI (0 + (dgs (M a 2)).length + 1 + (dgs (M a 3)).length + (sdL (M (a + 1) 0) (M (a + 1) 1) 1).length + (sdL (M (a + 2) 0) (M (a + 2) 1) 0).length) := by rw [e_N5]; first | exact mst_eq _ _ _ _ | exact lnL_len _ _ _ hm_N4
    have f_N5 : ∀ z, z ≠ 462 → z ≠ 463 → ∀ j, N5 z j = M z j := fun z z1 z2 j => by rw [e_N5]; first | (rw [mst_ne1 z1]; done) | (rw [lnL_fr z1 z2, f_N4 z z1 z2]; done) | (rw [lnA, mst_ne1 z1, mst_ne1 z2, f_N4 z z1 z2]; done)
    refine R_iload_n dX9_line_54 rfl rfl ?_
    refine R_iconst (v := 2) dX9_line_55 (by decide) ?_
    refine R_icmp_ge_f (tgt := 90) dX9_line_56 rfl (by decide) ?_
    refine R_aload_n dX9_line_59 rfl rfl ?_
    refine G_get cok9 8 wf_X9_64 dX9_line_60 (by first | exact rfl | assumption) ⟨(Nat.le_of_ble_eq_true rfl), (Nat.le_of_ble_eq_true rfl)⟩ rfl ?_
    refine R_aload_n dX9_line_63 rfl rfl ?_
    refine R_iload_n dX9_line_64 rfl rfl ?_
    refine G_cV1 cw_X9_129 (show VD l _ _ _ _ _ _ _ (some (.ref (a + 1))) _ from s_X0_side hf hka) dX9_line_65 (rcv cok0 (by first | exact rfl | assumption) (Nat.le_of_ble_eq_true rfl)) ⟨(Nat.le_of_ble_eq_true rfl), (Nat.le_of_ble_eq_true rfl), (Nat.le_of_ble_eq_true rfl), (Nat.le_of_ble_eq_true rfl)⟩ ?_
    refine R_aload_n dX9_line_68 rfl rfl ?_
    refine G_get cok0 7 wf_X9_273 dX9_line_69 (by first | exact rfl | assumption) ⟨(Nat.le_of_ble_eq_true rfl), (Nat.le_of_ble_eq_true rfl)⟩ rfl ?_
    refine R_iload_n dX9_line_72 rfl rfl ?_
    refine R_icmp_ne_f (tgt := 80) dX9_line_73 rfl (by rw [f_N3 a n1 n2, h7]) ?_
    refine R_iconst (v := 1) dX9_line_76 (by decide) ?_
    refine R_goto (tgt := 81) dX9_line_77 rfl ?_
    have z0 := s_X4_addSide (M := N3) (r := r) hf (s := a + 1) (y := 1) (by assumption) hm_N3 (by rw [f_N3 _ (by assumption) (by assumption), f_N3 _ (by assumption) (by assumption)]; omega)
    rw [f_N3 _ (by assumption) (by assumption), f_N3 _ (by assumption) (by assumption), ← e_N4] at z0
    refine G_cV2v cw_X9_276 z0 dX9_line_81 (rcv cok4 (by first | exact rfl | assumption) (Nat.le_of_ble_eq_true rfl)) ⟨(Nat.le_of_ble_eq_true rfl), (Nat.le_of_ble_eq_true rfl), (Nat.le_of_ble_eq_true rfl), (Nat.le_of_ble_eq_true rfl)⟩ ?_
    refine R_iinc (v := 1) dX9_line_84 (by decide) rfl (by decide) (by decide) (st3 rfl) ?_
    refine R_goto (tgt := 54) dX9_line_87 rfl ?_
    refine R_iload_n dX9_line_54 rfl rfl ?_
    refine R_iconst (v := 2) dX9_line_55 (by decide) ?_
    refine R_icmp_ge_f (tgt := 90) dX9_line_56 rfl (by decide) ?_
    refine R_aload_n dX9_line_59 rfl rfl ?_
    refine G_get cok9 8 wf_X9_64 dX9_line_60 (by first | exact rfl | assumption) ⟨(Nat.le_of_ble_eq_true rfl), (Nat.le_of_ble_eq_true rfl)⟩ rfl ?_
    refine R_aload_n dX9_line_63 rfl rfl ?_
    refine R_iload_n dX9_line_64 rfl rfl ?_
    refine G_cV1 cw_X9_129 (show VD l _ _ _ _ _ _ _ (some (.ref (a + 2))) _ from s_X0_side hf hka) dX9_line_65 (rcv cok0 (by first | exact rfl | assumption) (Nat.le_of_ble_eq_true rfl)) ⟨(Nat.le_of_ble_eq_true rfl), (Nat.le_of_ble_eq_true rfl), (Nat.le_of_ble_eq_true rfl), (Nat.le_of_ble_eq_true rfl)⟩ ?_
    refine R_aload_n dX9_line_68 rfl rfl ?_
    refine G_get cok0 7 wf_X9_273 dX9_line_69 (by first | exact rfl | assumption) ⟨(Nat.le_of_ble_eq_true rfl), (Nat.le_of_ble_eq_true rfl)⟩ rfl ?_
    refine R_iload_n dX9_line_72 rfl rfl ?_
    refine R_icmp_ne_t (tgt := 80) dX9_line_73 rfl (by rw [f_N4 a n1 n2, h7]; decide) ?_
    refine R_iconst (v := 0) dX9_line_80 (by decide) ?_
    have z1 := s_X4_addSide (M := N4) (r := r) hf (s := a + 2) (y := 0) (by assumption) hm_N4 (by rw [f_N4 _ (by assumption) (by assumption), f_N4 _ (by assumption) (by assumption)]; omega)
    rw [f_N4 _ (by assumption) (by assumption), f_N4 _ (by assumption) (by assumption), ← e_N5] at z1
    refine G_cV2v cw_X9_276 z1 dX9_line_81 (rcv cok4 (by first | exact rfl | assumption) (Nat.le_of_ble_eq_true rfl)) ⟨(Nat.le_of_ble_eq_true rfl), (Nat.le_of_ble_eq_true rfl), (Nat.le_of_ble_eq_true rfl), (Nat.le_of_ble_eq_true rfl)⟩ ?_
    refine R_iinc (v := 2) dX9_line_84 (by decide) rfl (by decide) (by decide) (st3 rfl) ?_
    refine R_goto (tgt := 54) dX9_line_87 rfl ?_
    refine R_iload_n dX9_line_54 rfl rfl ?_
    refine R_iconst (v := 2) dX9_line_55 (by decide) ?_
    refine R_icmp_ge_t (tgt := 90) dX9_line_56 rfl (by decide) ?_
    refine R_aload_n dX9_line_90 rfl rfl ?_
    refine G_get cok9 8 wf_X9_64 dX9_line_91 (by first | exact rfl | assumption) ⟨(Nat.le_of_ble_eq_true rfl), (Nat.le_of_ble_eq_true rfl)⟩ rfl ?_
    refine G_get cok4 1 wf_X9_263 dX9_line_94 (by first | exact rfl | assumption) ⟨(Nat.le_of_ble_eq_true rfl), (Nat.le_of_ble_eq_true rfl)⟩ rfl ?_
    refine R_iret dX9_line_97 rfl (Nat.le_of_ble_eq_true rfl) (Nat.le_of_ble_eq_true rfl) ?_
    have eL : liL M a = dgs (M a 2) ++ ([42] ++ (dgs (M a 3) ++ (sdL (M (a + 1) 0) (M (a + 1) 1) 1 ++ sdL (M (a + 2) 0) (M (a + 2) 1) 0))) := by rw [liL, h7]; rfl
    have eN : lnL N0 0 (liL M a) = N5 := by rw [eL, lnL_app, lnL_app, lnL_app, lnL_app, e_N5, e_N4, e_N3, e_N2, e_N1]; rfl
    rw [eN]
    refine ⟨?_, rfl⟩
    rw [hm_N5, eL]
    simp only [List.length_append, List.length_cons, List.length_nil]
    congr 4
    omega
  · have q1 := sd_len (M (a + 1) 0) (M (a + 1) 1) 0 o3
    have q2 := sd_len (M (a + 2) 0) (M (a + 2) 1) 1 o4
    simp only [show ((0 : Int32) = 0) = True from by simp, show ((1 : Int32) = 0) = False from by simp, if_true, if_false] at q1 q2
    obtain ⟨N4, e_N4⟩ : ∃ z, z = lnL N3 (0 + (dgs (M a 2)).length + 1 + (dgs (M a 3)).length) (sdL (M (a + 1) 0) (M (a + 1) 1) 0) := ⟨_, rfl⟩
    have hm_N4 : N4 462 1 = nI (0 + (dgs (M a 2)).length + 1 + (dgs (M a 3)).length + (sdL (M (a + 1) 0) (M (a + 1) 1) 0).length) := by rw [e_N4]; first | exact mst_eq _ _ _ _ | exact lnL_len _ _ _ hm_N3
    have f_N4 : ∀ z, z ≠ 462 → z ≠ 463 → ∀ j, N4 z j = M z j := fun z z1 z2 j => by rw [e_N4]; first | (rw [mst_ne1 z1]; done) | (rw [lnL_fr z1 z2, f_N3 z z1 z2]; done) | (rw [lnA, mst_ne1 z1, mst_ne1 z2, f_N3 z z1 z2]; done)
    obtain ⟨N5, e_N5⟩ : ∃ z, z = lnL N4 (0 + (dgs (M a 2)).length + 1 + (dgs (M a 3)).length + (sdL (M (a + 1) 0) (M (a + 1) 1) 0).length) (sdL (M (a + 2) 0) (M (a + 2) 1) 1) := ⟨_, rfl⟩
    have hm_N5 : N5 462 1 = nI (0 + (dgs (M a 2)).length + 1 + (dgs (M a 3)).length + (sdL (M (a + 1) 0) (M (a + 1) 1) 0).length + (sdL (M (a + 2) 0) (M (a + 2) 1) 1).length) := by rw [e_N5]; first | exact mst_eq _ _ _ _ | exact lnL_len _ _ _ hm_N4
    have f_N5 : ∀ z, z ≠ 462 → z ≠ 463 → ∀ j, N5 z j = M z j := fun z z1 z2 j => by rw [e_N5]; first | (rw [mst_ne1 z1]; done) | (rw [lnL_fr z1 z2, f_N4 z z1 z2]; done) | (rw [lnA, mst_ne1 z1, mst_ne1 z2, f_N4 z z1 z2]; done)
    refine R_iload_n dX9_line_54 rfl rfl ?_
    refine R_iconst (v := 2) dX9_line_55 (by decide) ?_
    refine R_icmp_ge_f (tgt := 90) dX9_line_56 rfl (by decide) ?_
    refine R_aload_n dX9_line_59 rfl rfl ?_
    refine G_get cok9 8 wf_X9_64 dX9_line_60 (by first | exact rfl | assumption) ⟨(Nat.le_of_ble_eq_true rfl), (Nat.le_of_ble_eq_true rfl)⟩ rfl ?_
    refine R_aload_n dX9_line_63 rfl rfl ?_
    refine R_iload_n dX9_line_64 rfl rfl ?_
    refine G_cV1 cw_X9_129 (show VD l _ _ _ _ _ _ _ (some (.ref (a + 1))) _ from s_X0_side hf hka) dX9_line_65 (rcv cok0 (by first | exact rfl | assumption) (Nat.le_of_ble_eq_true rfl)) ⟨(Nat.le_of_ble_eq_true rfl), (Nat.le_of_ble_eq_true rfl), (Nat.le_of_ble_eq_true rfl), (Nat.le_of_ble_eq_true rfl)⟩ ?_
    refine R_aload_n dX9_line_68 rfl rfl ?_
    refine G_get cok0 7 wf_X9_273 dX9_line_69 (by first | exact rfl | assumption) ⟨(Nat.le_of_ble_eq_true rfl), (Nat.le_of_ble_eq_true rfl)⟩ rfl ?_
    refine R_iload_n dX9_line_72 rfl rfl ?_
    refine R_icmp_ne_t (tgt := 80) dX9_line_73 rfl (by rw [f_N3 a n1 n2, h7]; decide) ?_
    refine R_iconst (v := 0) dX9_line_80 (by decide) ?_
    have z0 := s_X4_addSide (M := N3) (r := r) hf (s := a + 1) (y := 0) (by assumption) hm_N3 (by rw [f_N3 _ (by assumption) (by assumption), f_N3 _ (by assumption) (by assumption)]; omega)
    rw [f_N3 _ (by assumption) (by assumption), f_N3 _ (by assumption) (by assumption), ← e_N4] at z0
    refine G_cV2v cw_X9_276 z0 dX9_line_81 (rcv cok4 (by first | exact rfl | assumption) (Nat.le_of_ble_eq_true rfl)) ⟨(Nat.le_of_ble_eq_true rfl), (Nat.le_of_ble_eq_true rfl), (Nat.le_of_ble_eq_true rfl), (Nat.le_of_ble_eq_true rfl)⟩ ?_
    refine R_iinc (v := 1) dX9_line_84 (by decide) rfl (by decide) (by decide) (st3 rfl) ?_
    refine R_goto (tgt := 54) dX9_line_87 rfl ?_
    refine R_iload_n dX9_line_54 rfl rfl ?_
    refine R_iconst (v := 2) dX9_line_55 (by decide) ?_
    refine R_icmp_ge_f (tgt := 90) dX9_line_56 rfl (by decide) ?_
    refine R_aload_n dX9_line_59 rfl rfl ?_
    refine G_get cok9 8 wf_X9_64 dX9_line_60 (by first | exact rfl | assumption) ⟨(Nat.le_of_ble_eq_true rfl), (Nat.le_of_ble_eq_true rfl)⟩ rfl ?_
    refine R_aload_n dX9_line_63 rfl rfl ?_
    refine R_iload_n dX9_line_64 rfl rfl ?_
    refine G_cV1 cw_X9_129 (show VD l _ _ _ _ _ _ _ (some (.ref (a + 2))) _ from s_X0_side hf hka) dX9_line_65 (rcv cok0 (by first | exact rfl | assumption) (Nat.le_of_ble_eq_true rfl)) ⟨(Nat.le_of_ble_eq_true rfl), (Nat.le_of_ble_eq_true rfl), (Nat.le_of_ble_eq_true rfl), (Nat.le_of_ble_eq_true rfl)⟩ ?_
    refine R_aload_n dX9_line_68 rfl rfl ?_
    refine G_get cok0 7 wf_X9_273 dX9_line_69 (by first | exact rfl | assumption) ⟨(Nat.le_of_ble_eq_true rfl), (Nat.le_of_ble_eq_true rfl)⟩ rfl ?_
    refine R_iload_n dX9_line_72 rfl rfl ?_
    refine R_icmp_ne_f (tgt := 80) dX9_line_73 rfl (by rw [f_N4 a n1 n2, h7]) ?_
    refine R_iconst (v := 1) dX9_line_76 (by decide) ?_
    refine R_goto (tgt := 81) dX9_line_77 rfl ?_
    have z1 := s_X4_addSide (M := N4) (r := r) hf (s := a + 2) (y := 1) (by assumption) hm_N4 (by rw [f_N4 _ (by assumption) (by assumption), f_N4 _ (by assumption) (by assumption)]; omega)
    rw [f_N4 _ (by assumption) (by assumption), f_N4 _ (by assumption) (by assumption), ← e_N5] at z1
    refine G_cV2v cw_X9_276 z1 dX9_line_81 (rcv cok4 (by first | exact rfl | assumption) (Nat.le_of_ble_eq_true rfl)) ⟨(Nat.le_of_ble_eq_true rfl), (Nat.le_of_ble_eq_true rfl), (Nat.le_of_ble_eq_true rfl), (Nat.le_of_ble_eq_true rfl)⟩ ?_
    refine R_iinc (v := 2) dX9_line_84 (by decide) rfl (by decide) (by decide) (st3 rfl) ?_
    refine R_goto (tgt := 54) dX9_line_87 rfl ?_
    refine R_iload_n dX9_line_54 rfl rfl ?_
    refine R_iconst (v := 2) dX9_line_55 (by decide) ?_
    refine R_icmp_ge_t (tgt := 90) dX9_line_56 rfl (by decide) ?_
    refine R_aload_n dX9_line_90 rfl rfl ?_
    refine G_get cok9 8 wf_X9_64 dX9_line_91 (by first | exact rfl | assumption) ⟨(Nat.le_of_ble_eq_true rfl), (Nat.le_of_ble_eq_true rfl)⟩ rfl ?_
    refine G_get cok4 1 wf_X9_263 dX9_line_94 (by first | exact rfl | assumption) ⟨(Nat.le_of_ble_eq_true rfl), (Nat.le_of_ble_eq_true rfl)⟩ rfl ?_
    refine R_iret dX9_line_97 rfl (Nat.le_of_ble_eq_true rfl) (Nat.le_of_ble_eq_true rfl) ?_
    have eL : liL M a = dgs (M a 2) ++ ([42] ++ (dgs (M a 3) ++ (sdL (M (a + 1) 0) (M (a + 1) 1) 0 ++ sdL (M (a + 2) 0) (M (a + 2) 1) 1))) := by rw [liL, h7]; rfl
    have eN : lnL N0 0 (liL M a) = N5 := by rw [eL, lnL_app, lnL_app, lnL_app, lnL_app, e_N5, e_N4, e_N3, e_N2, e_N1]; rfl
    rw [eN]
    refine ⟨?_, rfl⟩
    rw [hm_N5, eL]
    simp only [List.length_append, List.length_cons, List.length_nil]
    congr 4
    omega
theorem s_X9_character {l : Launch} (hf : l.stackTraces = false) {n : Nat} (hn : n ≤ 12) (hc : M 1 2 = nI n) {m : Nat} (hm : M 462 1 = nI m) (h14 : m ≤ 14) (hC : ∀ k, isC (M 463 k)) {x : Int32} : V_X9_character l [.ref 0, .int x] (hp M r) (if x < 0 ∨ ¬ x < nI m then ZE IOB (hp M r) else VI (M 463 x.toNatClampNeg) (hp M r)) := by
  refine VM.intro (lf := L9 (some (.ref 0)) (some (.int x)) none none none none none none none) (by decide +kernel) hf (fun _ => (Nat.le_of_ble_eq_true rfl)) (fun _ => rfl) ?_
  refine R_iload_n dX9_character_0 rfl rfl ?_
  refine R_if_lt (tgt := 15) dX9_character_1 rfl (fun c1 => ?_) (fun c1 => ?_)
  · refine R_throw tw_X9_149_151 dX9_character_15 dX9_character_18 dX9_character_19 dX9_character_22 (Nat.le_of_ble_eq_true rfl) (Nat.le_of_ble_eq_true rfl) (Nat.le_of_ble_eq_true rfl) (Nat.le_of_ble_eq_true rfl) ?_
    rw [if_pos (by first | exact Or.inl (by assumption) | exact Or.inr (by assumption))]
    exact ⟨rfl, rfl⟩
  · refine R_iload_n dX9_character_4 rfl rfl ?_
    refine R_aload_n dX9_character_5 rfl rfl ?_
    refine G_get cok9 8 wf_X9_64 dX9_character_6 (by first | exact rfl | exact hsf isH1 (by omega) | assumption) ⟨(Nat.le_of_ble_eq_true rfl), (Nat.le_of_ble_eq_true rfl)⟩ rfl ?_
    refine G_get cok4 1 wf_X9_263 dX9_character_9 (by first | exact rfl | exact hsf isH1 (by omega) | assumption) ⟨(Nat.le_of_ble_eq_true rfl), (Nat.le_of_ble_eq_true rfl)⟩ rfl ?_
    rw [hm]
    refine R_icmp_lt (tgt := 23) dX9_character_12 rfl (fun c2 => ?_) (fun c2 => ?_)
    · have hx : inR x (nI m) = true := by simp_all [-Int32.not_lt, inR]
      obtain ⟨k, hk, rfl⟩ := inR_k rfl (by omega) hx
      refine R_aload_n dX9_character_23 rfl rfl ?_
      refine G_get cok9 8 wf_X9_64 dX9_character_24 (by first | exact rfl | exact hsf isH1 (by omega) | assumption) ⟨(Nat.le_of_ble_eq_true rfl), (Nat.le_of_ble_eq_true rfl)⟩ rfl ?_
      refine R_iload_n dX9_character_27 rfl rfl ?_
      refine G_cV1 cw_X9_280 (s_X4_signAt hf (by omega) (hC _)) dX9_character_28 (rcv cok4 (by first | exact rfl | exact hsf isH1 (by omega) | assumption) (Nat.le_of_ble_eq_true rfl)) ⟨(Nat.le_of_ble_eq_true rfl), (Nat.le_of_ble_eq_true rfl), (Nat.le_of_ble_eq_true rfl), (Nat.le_of_ble_eq_true rfl)⟩ ?_
      refine R_iret dX9_character_31 (hC _) (Nat.le_of_ble_eq_true rfl) (Nat.le_of_ble_eq_true rfl) ?_
      rw [if_neg (by first | exact not_or.mpr ⟨by assumption, by assumption⟩ | exact not_or.mpr ⟨by assumption, fun z => z (by assumption)⟩), nI_cl (by omega)]
      exact ⟨rfl, rfl⟩
    · refine R_throw tw_X9_149_151 dX9_character_15 dX9_character_18 dX9_character_19 dX9_character_22 (Nat.le_of_ble_eq_true rfl) (Nat.le_of_ble_eq_true rfl) (Nat.le_of_ble_eq_true rfl) (Nat.le_of_ble_eq_true rfl) ?_
      rw [if_pos (by first | exact Or.inl (by assumption) | exact Or.inr (by assumption))]
      exact ⟨rfl, rfl⟩
theorem s_X9_undo_0 {l : Launch} (hf : l.stackTraces = false) (h0 : M 124 1 = 0) : V_X9_undo l [.ref 0] (hp M r) (ZE ISE (hp M r)) := by
  refine VM.intro (lf := L9 (some (.ref 0)) none none none none none none none none) (by decide +kernel) hf (fun _ => (Nat.le_of_ble_eq_true rfl)) (fun _ => rfl) ?_
  refine R_aload_n dX9_undo_0 rfl rfl ?_
  refine G_get cok9 3 wf_X9_25 dX9_undo_1 (by first | exact rfl | exact hsf isH1 (by omega) | assumption) ⟨(Nat.le_of_ble_eq_true rfl), (Nat.le_of_ble_eq_true rfl)⟩ rfl ?_
  refine G_get cok2 1 wf_X9_318 dX9_undo_4 (by first | exact rfl | exact hsf isH1 (by omega) | assumption) ⟨(Nat.le_of_ble_eq_true rfl), (Nat.le_of_ble_eq_true rfl)⟩ rfl ?_
  refine R_if_ne_f (tgt := 18) dX9_undo_7 rfl h0 ?_
  refine R_throw tw_X9_211_213 dX9_undo_10 dX9_undo_13 dX9_undo_14 dX9_undo_17 (Nat.le_of_ble_eq_true rfl) (Nat.le_of_ble_eq_true rfl) (Nat.le_of_ble_eq_true rfl) (Nat.le_of_ble_eq_true rfl) ?_
  exact ⟨rfl, rfl⟩
theorem s_X9_undo {l : Launch} (hf : l.stackTraces = false) {n : Nat} (hP : prm r.1) (hn : n ≤ 12) (hc : M (r.1 0) 2 = nI n) (hz : flg M (r.1 0) n) (h0 : ¬ M 124 1 = 0) : V_X9_undo l [.ref 0] (hp M r) (VI (mx0 (M 124 1 - 1)) (hp (mst (hcp M 1 (r.1 0) n) 124 1 (mx0 (M 124 1 - 1))) (rotL r.1, r.2))) := by
  refine VM.intro (lf := L9 (some (.ref 0)) none none none none none none none none) (by decide +kernel) hf (fun _ => (Nat.le_of_ble_eq_true rfl)) (fun _ => rfl) ?_
  refine R_aload_n dX9_undo_0 rfl rfl ?_
  refine G_get cok9 3 wf_X9_25 dX9_undo_1 (by first | exact rfl | exact hsf isH1 (by omega) | assumption) ⟨(Nat.le_of_ble_eq_true rfl), (Nat.le_of_ble_eq_true rfl)⟩ rfl ?_
  refine G_get cok2 1 wf_X9_318 dX9_undo_4 (by first | exact rfl | exact hsf isH1 (by omega) | assumption) ⟨(Nat.le_of_ble_eq_true rfl), (Nat.le_of_ble_eq_true rfl)⟩ rfl ?_
  refine R_if_ne_t (tgt := 18) dX9_undo_7 rfl h0 ?_
  refine R_aload_n dX9_undo_18 rfl rfl ?_
  refine G_get cok9 3 wf_X9_25 dX9_undo_19 (by first | exact rfl | exact hsf isH1 (by omega) | assumption) ⟨(Nat.le_of_ble_eq_true rfl), (Nat.le_of_ble_eq_true rfl)⟩ rfl ?_
  refine R_aload_n dX9_undo_22 rfl rfl ?_
  refine G_get cok9 0 wf_X9_12 dX9_undo_23 (by first | exact rfl | exact hsf isH1 (by omega) | assumption) ⟨(Nat.le_of_ble_eq_true rfl), (Nat.le_of_ble_eq_true rfl)⟩ rfl ?_
  refine G_cV1v cw_X9_319 (s_X2_takeBack hf (fun k hk => (hP k hk).1) (by have := (hP 0 (by omega)).2; omega) hn hc hz) dX9_undo_26 (rcv cok2 (by first | exact rfl | exact hsf isH1 (by omega) | assumption) (Nat.le_of_ble_eq_true rfl)) ⟨(Nat.le_of_ble_eq_true rfl), (Nat.le_of_ble_eq_true rfl), (Nat.le_of_ble_eq_true rfl), (Nat.le_of_ble_eq_true rfl)⟩ ?_
  refine R_aload_n dX9_undo_29 rfl rfl ?_
  refine G_get cok9 3 wf_X9_25 dX9_undo_30 (by first | exact rfl | exact hsf isH1 (by omega) | assumption) ⟨(Nat.le_of_ble_eq_true rfl), (Nat.le_of_ble_eq_true rfl)⟩ rfl ?_
  refine G_get cok2 1 wf_X9_318 dX9_undo_33 (by first | exact rfl | exact hsf isH1 (by omega) | assumption) ⟨(Nat.le_of_ble_eq_true rfl), (Nat.le_of_ble_eq_true rfl)⟩ rfl ?_
  refine R_iret dX9_undo_36 rfl (Nat.le_of_ble_eq_true rfl) (Nat.le_of_ble_eq_true rfl) ?_
  rw [mst_eq]
  exact ⟨rfl, rfl⟩
theorem s_X9_save {l : Launch} (hf : l.stackTraces = false) {n : Nat} (hn : n ≤ 12) (hc : M 1 2 = nI n) (hz : flg M 1 n) : V_X9_save l [.ref 0] (hp M r) (VI (nI n) (hp (mst (hcp M 83 1 n) 0 9 1) r)) := by
  refine VM.intro (lf := L9 (some (.ref 0)) none none none none none none none none) (by decide +kernel) hf (fun _ => (Nat.le_of_ble_eq_true rfl)) (fun _ => rfl) ?_
  refine R_aload_n dX9_save_0 rfl rfl ?_
  refine G_get cok9 2 wf_X9_19 dX9_save_1 (by first | exact rfl | exact hsf isH1 (by omega) | assumption) ⟨(Nat.le_of_ble_eq_true rfl), (Nat.le_of_ble_eq_true rfl)⟩ rfl ?_
  refine R_aload_n dX9_save_4 rfl rfl ?_
  refine G_get cok9 0 wf_X9_12 dX9_save_5 (by first | exact rfl | exact hsf isH1 (by omega) | assumption) ⟨(Nat.le_of_ble_eq_true rfl), (Nat.le_of_ble_eq_true rfl)⟩ rfl ?_
  refine G_cV1v cw_X9_68 (s_X3_copyFrom hf isH83 isH1 (by decide) hn hc hz) dX9_save_8 (rcv cok3 (by first | exact rfl | exact hsf isH1 (by omega) | assumption) (Nat.le_of_ble_eq_true rfl)) ⟨(Nat.le_of_ble_eq_true rfl), (Nat.le_of_ble_eq_true rfl), (Nat.le_of_ble_eq_true rfl), (Nat.le_of_ble_eq_true rfl)⟩ ?_
  refine R_aload_n dX9_save_11 rfl rfl ?_
  refine R_iconst (v := 1) dX9_save_12 (by decide) ?_
  refine G_put cok9 9 wf_X9_322 dX9_save_13 (by first | exact rfl | exact hsf isH1 (by omega) | assumption) rfl ⟨(Nat.le_of_ble_eq_true rfl), rfl, (Nat.le_of_ble_eq_true rfl)⟩ ⟨rfl, rfl⟩ ?_
  refine R_aload_n dX9_save_16 rfl rfl ?_
  refine G_get cok9 0 wf_X9_12 dX9_save_17 (by first | exact rfl | exact hsf isH1 (by omega) | assumption) ⟨(Nat.le_of_ble_eq_true rfl), (Nat.le_of_ble_eq_true rfl)⟩ rfl ?_
  refine G_get cok3 2 wf_X9_202 dX9_save_20 (by first | exact rfl | exact hsf isH1 (by omega) | assumption) ⟨(Nat.le_of_ble_eq_true rfl), (Nat.le_of_ble_eq_true rfl)⟩ rfl ?_
  refine R_iret dX9_save_23 rfl (Nat.le_of_ble_eq_true rfl) (Nat.le_of_ble_eq_true rfl) ?_
  rw [mst_ne1 (by decide), hcp_out hn (Or.inl (by omega)), hc]
  exact ⟨rfl, rfl⟩
theorem s_X9_restore_0 {l : Launch} (hf : l.stackTraces = false) (h0 : M 0 9 = 0) : V_X9_restore l [.ref 0] (hp M r) (ZE ISE (hp M r)) := by
  refine VM.intro (lf := L9 (some (.ref 0)) none none none none none none none none) (by decide +kernel) hf (fun _ => (Nat.le_of_ble_eq_true rfl)) (fun _ => rfl) ?_
  refine R_aload_n dX9_restore_0 rfl rfl ?_
  refine G_get cok9 9 wf_X9_322 dX9_restore_1 (by first | exact rfl | exact hsf isH1 (by omega) | assumption) ⟨(Nat.le_of_ble_eq_true rfl), (Nat.le_of_ble_eq_true rfl)⟩ rfl ?_
  refine R_if_ne_f (tgt := 15) dX9_restore_4 rfl h0 ?_
  refine R_throw tw_X9_211_213 dX9_restore_7 dX9_restore_10 dX9_restore_11 dX9_restore_14 (Nat.le_of_ble_eq_true rfl) (Nat.le_of_ble_eq_true rfl) (Nat.le_of_ble_eq_true rfl) (Nat.le_of_ble_eq_true rfl) ?_
  exact ⟨rfl, rfl⟩
theorem s_X9_restore {l : Launch} (hf : l.stackTraces = false) {n : Nat} (hn : n ≤ 12) (hc : M 83 2 = nI n) (hz : flg M 83 n) (h0 : ¬ M 0 9 = 0) : V_X9_restore l [.ref 0] (hp M r) (VI (nI n) (hp (mst (hcp M 1 83 n) 124 1 0) r)) := by
  refine VM.intro (lf := L9 (some (.ref 0)) none none none none none none none none) (by decide +kernel) hf (fun _ => (Nat.le_of_ble_eq_true rfl)) (fun _ => rfl) ?_
  refine R_aload_n dX9_restore_0 rfl rfl ?_
  refine G_get cok9 9 wf_X9_322 dX9_restore_1 (by first | exact rfl | exact hsf isH1 (by omega) | assumption) ⟨(Nat.le_of_ble_eq_true rfl), (Nat.le_of_ble_eq_true rfl)⟩ rfl ?_
  refine R_if_ne_t (tgt := 15) dX9_restore_4 rfl h0 ?_
  refine R_aload_n dX9_restore_15 rfl rfl ?_
  refine G_get cok9 0 wf_X9_12 dX9_restore_16 (by first | exact rfl | exact hsf isH1 (by omega) | assumption) ⟨(Nat.le_of_ble_eq_true rfl), (Nat.le_of_ble_eq_true rfl)⟩ rfl ?_
  refine R_aload_n dX9_restore_19 rfl rfl ?_
  refine G_get cok9 2 wf_X9_19 dX9_restore_20 (by first | exact rfl | exact hsf isH1 (by omega) | assumption) ⟨(Nat.le_of_ble_eq_true rfl), (Nat.le_of_ble_eq_true rfl)⟩ rfl ?_
  refine G_cV1v cw_X9_68 (s_X3_copyFrom hf isH1 isH83 (by decide) hn hc hz) dX9_restore_23 (rcv cok3 (by first | exact rfl | exact hsf isH1 (by omega) | assumption) (Nat.le_of_ble_eq_true rfl)) ⟨(Nat.le_of_ble_eq_true rfl), (Nat.le_of_ble_eq_true rfl), (Nat.le_of_ble_eq_true rfl), (Nat.le_of_ble_eq_true rfl)⟩ ?_
  refine R_aload_n dX9_restore_26 rfl rfl ?_
  refine G_get cok9 3 wf_X9_25 dX9_restore_27 (by first | exact rfl | exact hsf isH1 (by omega) | assumption) ⟨(Nat.le_of_ble_eq_true rfl), (Nat.le_of_ble_eq_true rfl)⟩ rfl ?_
  refine G_cV0v cw_X9_325 (s_X2_forget hf) dX9_restore_30 (rcv cok2 (by first | exact rfl | exact hsf isH1 (by omega) | assumption) (Nat.le_of_ble_eq_true rfl)) ⟨(Nat.le_of_ble_eq_true rfl), (Nat.le_of_ble_eq_true rfl), (Nat.le_of_ble_eq_true rfl), (Nat.le_of_ble_eq_true rfl)⟩ ?_
  refine R_aload_n dX9_restore_33 rfl rfl ?_
  refine G_get cok9 0 wf_X9_12 dX9_restore_34 (by first | exact rfl | exact hsf isH1 (by omega) | assumption) ⟨(Nat.le_of_ble_eq_true rfl), (Nat.le_of_ble_eq_true rfl)⟩ rfl ?_
  refine G_get cok3 2 wf_X9_202 dX9_restore_37 (by first | exact rfl | exact hsf isH1 (by omega) | assumption) ⟨(Nat.le_of_ble_eq_true rfl), (Nat.le_of_ble_eq_true rfl)⟩ rfl ?_
  refine R_iret dX9_restore_40 rfl (Nat.le_of_ble_eq_true rfl) (Nat.le_of_ble_eq_true rfl) ?_
  rw [mst_ne1 (by decide), hcp_self hn, hc]
  exact ⟨rfl, rfl⟩
end P19
