theorem zb_nar (b : Bool) : narrow .boolean (.int (zb b)) = .int (zb b) := by cases b <;> decide
theorem h24 {m : Int32} (h : ¬ (m < 0 ∨ 24 < m)) : ∃ k, k ≤ 24 ∧ m = nI k := by
  obtain ⟨h1, h2⟩ := not_or.mp h
  have g1 : ¬ m.toInt < 0 := fun q => h1 (Int32.lt_iff_toInt_lt.mpr q)
  have g2 : ¬ 24 < m.toInt := fun q => h2 (Int32.lt_iff_toInt_lt.mpr q)
  refine ⟨m.toInt.toNat, by omega, Int32.toInt_inj.mp ?_⟩
  rw [nI_toInt (by omega)]
  omega
section P18
variable {M : MM} {r : MR}
theorem s_X9_needFish {l : Launch} (hf : l.stackTraces = false) {x : Int32} : V_X9_needFish l [.ref 0, .int x] (hp M r) (if hasB M 1 x = false then ZE IOB (hp M r) else VR none (hp M r)) := by
  refine VM.intro (lf := L9 (some (.ref 0)) (some (.int x)) none none none none none none none) (by decide +kernel) hf (fun _ => (Nat.le_of_ble_eq_true rfl)) (fun _ => rfl) ?_
  refine R_aload_n dX9_needFish_0 rfl rfl ?_
  refine G_get cok9 0 wf_X9_12 dX9_needFish_1 (by first | exact rfl | exact hsf isH1 (by omega) | assumption) ⟨(Nat.le_of_ble_eq_true rfl), (Nat.le_of_ble_eq_true rfl)⟩ rfl ?_
  refine R_iload_n dX9_needFish_4 rfl rfl ?_
  refine G_cV1 cw_X9_328 (s_X3_has hf isH1) dX9_needFish_5 (rcv cok3 (by first | exact rfl | exact hsf isH1 (by omega) | assumption) (Nat.le_of_ble_eq_true rfl)) ⟨(Nat.le_of_ble_eq_true rfl), (Nat.le_of_ble_eq_true rfl), (Nat.le_of_ble_eq_true rfl), (Nat.le_of_ble_eq_true rfl)⟩ ?_
  refine R_if_ne (tgt := 19) dX9_needFish_8 rfl (fun c1 => ?_) (fun c1 => ?_)
  · refine R_vret dX9_needFish_19 (Nat.le_of_ble_eq_true rfl) (Nat.le_of_ble_eq_true rfl) ?_
    rw [if_neg (by simpa [zb_n0] using c1)]
    exact ⟨rfl, rfl⟩
  · refine R_throw tw_X9_149_151 dX9_needFish_11 dX9_needFish_14 dX9_needFish_15 dX9_needFish_18 (Nat.le_of_ble_eq_true rfl) (Nat.le_of_ble_eq_true rfl) (Nat.le_of_ble_eq_true rfl) (Nat.le_of_ble_eq_true rfl) ?_
    rw [if_pos (by simpa [zb_0] using c1)]
    exact ⟨rfl, rfl⟩
theorem s_X9_needRack {l : Launch} (hf : l.stackTraces = false) {x : Int32} : V_X9_needRack l [.ref 0, .int x] (hp M r) (if inR x 4 = false then ZE IOB (hp M r) else VR none (hp M r)) := by
  refine VM.intro (lf := L9 (some (.ref 0)) (some (.int x)) none none none none none none none) (by decide +kernel) hf (fun _ => (Nat.le_of_ble_eq_true rfl)) (fun _ => rfl) ?_
  refine R_iload_n dX9_needRack_0 rfl rfl ?_
  refine G_cS1 cw_X9_142 (s_X9_isRack hf) dX9_needRack_1 ⟨(Nat.le_of_ble_eq_true rfl), (Nat.le_of_ble_eq_true rfl), (Nat.le_of_ble_eq_true rfl), (Nat.le_of_ble_eq_true rfl)⟩ ?_
  refine R_if_ne (tgt := 15) dX9_needRack_4 rfl (fun c1 => ?_) (fun c1 => ?_)
  · refine R_vret dX9_needRack_15 (Nat.le_of_ble_eq_true rfl) (Nat.le_of_ble_eq_true rfl) ?_
    rw [if_neg (by simpa [zb_n0] using c1)]
    exact ⟨rfl, rfl⟩
  · refine R_throw tw_X9_149_151 dX9_needRack_7 dX9_needRack_10 dX9_needRack_11 dX9_needRack_14 (Nat.le_of_ble_eq_true rfl) (Nat.le_of_ble_eq_true rfl) (Nat.le_of_ble_eq_true rfl) (Nat.le_of_ble_eq_true rfl) ?_
    rw [if_pos (by simpa [zb_0] using c1)]
    exact ⟨rfl, rfl⟩
theorem s_X9_needForecastHours {l : Launch} (hf : l.stackTraces = false) {x : Int32} : V_X9_needForecastHours l [.ref 0, .int x] (hp M r) (if x < 0 ∨ 24 < x then ZE IAE (hp M r) else VR none (hp M r)) := by
  refine VM.intro (lf := L9 (some (.ref 0)) (some (.int x)) none none none none none none none) (by decide +kernel) hf (fun _ => (Nat.le_of_ble_eq_true rfl)) (fun _ => rfl) ?_
  refine R_iload_n dX9_needForecastHours_0 rfl rfl ?_
  refine R_if_lt (tgt := 10) dX9_needForecastHours_1 rfl (fun c1 => ?_) (fun c1 => ?_)
  · refine R_throw tw_X9_117_119 dX9_needForecastHours_10 dX9_needForecastHours_13 dX9_needForecastHours_14 dX9_needForecastHours_17 (Nat.le_of_ble_eq_true rfl) (Nat.le_of_ble_eq_true rfl) (Nat.le_of_ble_eq_true rfl) (Nat.le_of_ble_eq_true rfl) ?_
    rw [if_pos (by first | exact Or.inl (by assumption) | exact Or.inr (by assumption))]
    exact ⟨rfl, rfl⟩
  · refine R_iload_n dX9_needForecastHours_4 rfl rfl ?_
    refine R_bipush (v := 24) dX9_needForecastHours_5 (by decide) ?_
    refine R_icmp_leN (tgt := 18) dX9_needForecastHours_7 rfl (fun c2 => ?_) (fun c2 => ?_)
    · refine R_vret dX9_needForecastHours_18 (Nat.le_of_ble_eq_true rfl) (Nat.le_of_ble_eq_true rfl) ?_
      rw [if_neg (not_or.mpr ⟨by assumption, by assumption⟩)]
      exact ⟨rfl, rfl⟩
    · refine R_throw tw_X9_117_119 dX9_needForecastHours_10 dX9_needForecastHours_13 dX9_needForecastHours_14 dX9_needForecastHours_17 (Nat.le_of_ble_eq_true rfl) (Nat.le_of_ble_eq_true rfl) (Nat.le_of_ble_eq_true rfl) (Nat.le_of_ble_eq_true rfl) ?_
      rw [if_pos (by first | exact Or.inl (by assumption) | exact Or.inr (by assumption))]
      exact ⟨rfl, rfl⟩
theorem s_X9_found {l : Launch} (hf : l.stackTraces = false) {x : Int32} : V_X9_found l [.ref 0, .int x] (hp M r) (if x < 0 then ZE NSE (hp M r) else VI x (hp M r)) := by
  refine VM.intro (lf := L9 (some (.ref 0)) (some (.int x)) none none none none none none none) (by decide +kernel) hf (fun _ => (Nat.le_of_ble_eq_true rfl)) (fun _ => rfl) ?_
  refine R_iload_n dX9_found_0 rfl rfl ?_
  refine R_if_geN (tgt := 12) dX9_found_1 rfl (fun c1 => ?_) (fun c1 => ?_)
  · refine R_iload_n dX9_found_12 rfl rfl ?_
    refine R_iret dX9_found_13 rfl (Nat.le_of_ble_eq_true rfl) (Nat.le_of_ble_eq_true rfl) ?_
    rw [if_neg (by assumption)]
    exact ⟨rfl, rfl⟩
  · refine R_throw tw_X9_171_173 dX9_found_4 dX9_found_7 dX9_found_8 dX9_found_11 (Nat.le_of_ble_eq_true rfl) (Nat.le_of_ble_eq_true rfl) (Nat.le_of_ble_eq_true rfl) (Nat.le_of_ble_eq_true rfl) ?_
    rw [if_pos (by assumption)]
    exact ⟨rfl, rfl⟩
theorem s_X9_fishOf {l : Launch} (hf : l.stackTraces = false) {n : Nat} (hn : n ≤ 12) (hc : M 1 2 = nI n) {x q : Int32} : V_X9_fishOf l [.ref 0, .int x, .int q] (hp M r) (if hasB M 1 x = false then ZE IOB (hp M r) else if q < 0 ∨ ¬ q < 9 then ZE IAE (hp M r) else VI (fNum M (fx x) q) (hp M r)) := by
  refine VM.intro (lf := L9 (some (.ref 0)) (some (.int x)) (some (.int q)) none none none none none none) (by decide +kernel) hf (fun _ => (Nat.le_of_ble_eq_true rfl)) (fun _ => rfl) ?_
  refine R_aload_n dX9_fishOf_0 rfl rfl ?_
  refine R_iload_n dX9_fishOf_1 rfl rfl ?_
  have hs_h9 := s_X9_needFish (M := M) (r := r) hf (x := x)
  by_cases h9 : hasB M 1 x = false
  · rw [if_pos h9] at hs_h9 ⊢
    exact G_xV1 cw_X9_113 hs_h9 dX9_fishOf_2 (rcv cok9 rfl (Nat.le_of_ble_eq_true rfl)) ⟨(Nat.le_of_ble_eq_true rfl), (Nat.le_of_ble_eq_true rfl), (Nat.le_of_ble_eq_true rfl), (Nat.le_of_ble_eq_true rfl)⟩ ⟨rfl, rfl⟩
  rw [if_neg h9] at hs_h9 ⊢
  refine G_tV1v cw_X9_113 hs_h9 dX9_fishOf_2 (rcv cok9 rfl (Nat.le_of_ble_eq_true rfl)) ⟨(Nat.le_of_ble_eq_true rfl), (Nat.le_of_ble_eq_true rfl), (Nat.le_of_ble_eq_true rfl), (Nat.le_of_ble_eq_true rfl)⟩ ?_
  obtain ⟨k, hk, rfl, ex, ek⟩ := fx_k hc hn h9
  refine R_iload_n dX9_fishOf_5 rfl rfl ?_
  refine R_if_lt (tgt := 15) dX9_fishOf_6 rfl (fun c1 => ?_) (fun c1 => ?_)
  · refine R_throw tw_X9_117_119 dX9_fishOf_15 dX9_fishOf_18 dX9_fishOf_19 dX9_fishOf_22 (Nat.le_of_ble_eq_true rfl) (Nat.le_of_ble_eq_true rfl) (Nat.le_of_ble_eq_true rfl) (Nat.le_of_ble_eq_true rfl) ?_
    rw [if_pos (by first | exact Or.inl (by assumption) | exact Or.inr (by assumption))]
    exact ⟨rfl, rfl⟩
  · refine R_iload_n dX9_fishOf_9 rfl rfl ?_
    refine R_bipush (v := 9) dX9_fishOf_10 (by decide) ?_
    refine R_icmp_lt (tgt := 23) dX9_fishOf_12 rfl (fun c2 => ?_) (fun c2 => ?_)
    · refine R_aload_n dX9_fishOf_23 rfl rfl ?_
      refine G_get cok9 0 wf_X9_12 dX9_fishOf_24 (by first | exact rfl | exact hsf isH1 (by omega) | assumption) ⟨(Nat.le_of_ble_eq_true rfl), (Nat.le_of_ble_eq_true rfl)⟩ rfl ?_
      refine R_iload_n dX9_fishOf_27 rfl rfl ?_
      refine G_cV1 cw_X9_120 (s_X3_fishAt hf isH1 (by omega)) dX9_fishOf_28 (rcv cok3 (by first | exact rfl | exact hsf isH1 (by omega) | assumption) (Nat.le_of_ble_eq_true rfl)) ⟨(Nat.le_of_ble_eq_true rfl), (Nat.le_of_ble_eq_true rfl), (Nat.le_of_ble_eq_true rfl), (Nat.le_of_ble_eq_true rfl)⟩ ?_
      refine R_iload_n dX9_fishOf_31 rfl rfl ?_
      refine G_cV1 cw_X9_124 (s_X0_number hf (hsf isH1 (by omega))) dX9_fishOf_32 (rcv cok0 (by first | exact rfl | exact hsf isH1 (by omega) | assumption) (Nat.le_of_ble_eq_true rfl)) ⟨(Nat.le_of_ble_eq_true rfl), (Nat.le_of_ble_eq_true rfl), (Nat.le_of_ble_eq_true rfl), (Nat.le_of_ble_eq_true rfl)⟩ ?_
      refine R_iret dX9_fishOf_35 rfl (Nat.le_of_ble_eq_true rfl) (Nat.le_of_ble_eq_true rfl) ?_
      rw [if_neg (by first | exact not_or.mpr ⟨by assumption, by assumption⟩ | exact not_or.mpr ⟨by assumption, fun z => z (by assumption)⟩)]
      rw [ex]
      exact ⟨rfl, rfl⟩
    · refine R_throw tw_X9_117_119 dX9_fishOf_15 dX9_fishOf_18 dX9_fishOf_19 dX9_fishOf_22 (Nat.le_of_ble_eq_true rfl) (Nat.le_of_ble_eq_true rfl) (Nat.le_of_ble_eq_true rfl) (Nat.le_of_ble_eq_true rfl) ?_
      rw [if_pos (by first | exact Or.inl (by assumption) | exact Or.inr (by assumption))]
      exact ⟨rfl, rfl⟩
theorem s_X9_sideOf {l : Launch} (hf : l.stackTraces = false) {n : Nat} (hn : n ≤ 12) (hc : M 1 2 = nI n) {x q y : Int32} : V_X9_sideOf l [.ref 0, .int x, .int q, .int y] (hp M r) (if hasB M 1 x = false then ZE IOB (hp M r) else if q < 0 ∨ ¬ q < 2 then ZE IAE (hp M r) else VI (if y = 0 then M (if q = 0 then fx x + 1 else fx x + 2) 0 else M (if q = 0 then fx x + 1 else fx x + 2) 1) (hp M r)) := by
  refine VM.intro (lf := L9 (some (.ref 0)) (some (.int x)) (some (.int q)) (some (.int y)) none none none none none) (by decide +kernel) hf (fun _ => (Nat.le_of_ble_eq_true rfl)) (fun _ => rfl) ?_
  refine R_aload_n dX9_sideOf_0 rfl rfl ?_
  refine R_iload_n dX9_sideOf_1 rfl rfl ?_
  have hs_h9 := s_X9_needFish (M := M) (r := r) hf (x := x)
  by_cases h9 : hasB M 1 x = false
  · rw [if_pos h9] at hs_h9 ⊢
    exact G_xV1 cw_X9_113 hs_h9 dX9_sideOf_2 (rcv cok9 rfl (Nat.le_of_ble_eq_true rfl)) ⟨(Nat.le_of_ble_eq_true rfl), (Nat.le_of_ble_eq_true rfl), (Nat.le_of_ble_eq_true rfl), (Nat.le_of_ble_eq_true rfl)⟩ ⟨rfl, rfl⟩
  rw [if_neg h9] at hs_h9 ⊢
  refine G_tV1v cw_X9_113 hs_h9 dX9_sideOf_2 (rcv cok9 rfl (Nat.le_of_ble_eq_true rfl)) ⟨(Nat.le_of_ble_eq_true rfl), (Nat.le_of_ble_eq_true rfl), (Nat.le_of_ble_eq_true rfl), (Nat.le_of_ble_eq_true rfl)⟩ ?_
  obtain ⟨k, hk, rfl, ex, ek⟩ := fx_k hc hn h9
  refine R_iload_n dX9_sideOf_5 rfl rfl ?_
  refine R_if_lt (tgt := 14) dX9_sideOf_6 rfl (fun c1 => ?_) (fun c1 => ?_)
  · refine R_throw tw_X9_117_119 dX9_sideOf_14 dX9_sideOf_17 dX9_sideOf_18 dX9_sideOf_21 (Nat.le_of_ble_eq_true rfl) (Nat.le_of_ble_eq_true rfl) (Nat.le_of_ble_eq_true rfl) (Nat.le_of_ble_eq_true rfl) ?_
    rw [if_pos (by first | exact Or.inl (by assumption) | exact Or.inr (by assumption))]
    exact ⟨rfl, rfl⟩
  · refine R_iload_n dX9_sideOf_9 rfl rfl ?_
    refine R_iconst (v := 2) dX9_sideOf_10 (by decide) ?_
    refine R_icmp_lt (tgt := 22) dX9_sideOf_11 rfl (fun c2 => ?_) (fun c2 => ?_)
    · refine R_aload_n dX9_sideOf_22 rfl rfl ?_
      refine G_get cok9 0 wf_X9_12 dX9_sideOf_23 (by first | exact rfl | assumption | exact hsf isH1 (by omega) | (split <;> first | exact fish1 (hsf isH1 (by omega)) | exact fish2 (hsf isH1 (by omega)))) ⟨(Nat.le_of_ble_eq_true rfl), (Nat.le_of_ble_eq_true rfl)⟩ rfl ?_
      refine R_iload_n dX9_sideOf_26 rfl rfl ?_
      refine G_cV1 cw_X9_120 (s_X3_fishAt hf isH1 (by omega)) dX9_sideOf_27 (rcv cok3 (by first | exact rfl | assumption | exact hsf isH1 (by omega) | (split <;> first | exact fish1 (hsf isH1 (by omega)) | exact fish2 (hsf isH1 (by omega)))) (Nat.le_of_ble_eq_true rfl)) ⟨(Nat.le_of_ble_eq_true rfl), (Nat.le_of_ble_eq_true rfl), (Nat.le_of_ble_eq_true rfl), (Nat.le_of_ble_eq_true rfl)⟩ ?_
      refine R_iload_n dX9_sideOf_30 rfl rfl ?_
      refine G_cV1 cw_X9_129 (s_X0_side hf (hsf isH1 (by omega))) dX9_sideOf_31 (rcv cok0 (by first | exact rfl | assumption | exact hsf isH1 (by omega) | (split <;> first | exact fish1 (hsf isH1 (by omega)) | exact fish2 (hsf isH1 (by omega)))) (Nat.le_of_ble_eq_true rfl)) ⟨(Nat.le_of_ble_eq_true rfl), (Nat.le_of_ble_eq_true rfl), (Nat.le_of_ble_eq_true rfl), (Nat.le_of_ble_eq_true rfl)⟩ ?_
      refine R_astore dX9_sideOf_34 (by decide) (st4 rfl) ?_
      refine R_iload_n dX9_sideOf_36 rfl rfl ?_
      refine R_if_eq (tgt := 48) dX9_sideOf_37 rfl (fun c3 => ?_) (fun c3 => ?_)
      · refine R_aload dX9_sideOf_48 (by decide) rfl ?_
        refine G_get cok7 0 wf_X9_139 dX9_sideOf_50 (by first | exact rfl | assumption | exact hsf isH1 (by omega) | (split <;> first | exact fish1 (hsf isH1 (by omega)) | exact fish2 (hsf isH1 (by omega)))) ⟨(Nat.le_of_ble_eq_true rfl), (Nat.le_of_ble_eq_true rfl)⟩ rfl ?_
        refine R_iret dX9_sideOf_53 rfl (Nat.le_of_ble_eq_true rfl) (Nat.le_of_ble_eq_true rfl) ?_
        rw [if_neg (by first | exact not_or.mpr ⟨by assumption, by assumption⟩ | exact not_or.mpr ⟨by assumption, fun z => z (by assumption)⟩)]
        rw [ex]
        first | rw [if_pos (by assumption : y = 0)] | rw [if_neg (by assumption : ¬ y = 0)]
        exact ⟨rfl, rfl⟩
      · refine R_aload dX9_sideOf_40 (by decide) rfl ?_
        refine G_get cok7 1 wf_X9_133 dX9_sideOf_42 (by first | exact rfl | assumption | exact hsf isH1 (by omega) | (split <;> first | exact fish1 (hsf isH1 (by omega)) | exact fish2 (hsf isH1 (by omega)))) ⟨(Nat.le_of_ble_eq_true rfl), (Nat.le_of_ble_eq_true rfl)⟩ rfl ?_
        refine R_goto (tgt := 53) dX9_sideOf_45 rfl ?_
        refine R_iret dX9_sideOf_53 rfl (Nat.le_of_ble_eq_true rfl) (Nat.le_of_ble_eq_true rfl) ?_
        rw [if_neg (by first | exact not_or.mpr ⟨by assumption, by assumption⟩ | exact not_or.mpr ⟨by assumption, fun z => z (by assumption)⟩)]
        rw [ex]
        first | rw [if_pos (by assumption : y = 0)] | rw [if_neg (by assumption : ¬ y = 0)]
        exact ⟨rfl, rfl⟩
    · refine R_throw tw_X9_117_119 dX9_sideOf_14 dX9_sideOf_17 dX9_sideOf_18 dX9_sideOf_21 (Nat.le_of_ble_eq_true rfl) (Nat.le_of_ble_eq_true rfl) (Nat.le_of_ble_eq_true rfl) (Nat.le_of_ble_eq_true rfl) ?_
      rw [if_pos (by first | exact Or.inl (by assumption) | exact Or.inr (by assumption))]
      exact ⟨rfl, rfl⟩
theorem s_X9_at {l : Launch} (hf : l.stackTraces = false) {n : Nat} (hn : n ≤ 12) (hc : M 1 2 = nI n) {p q : Int32} : V_X9_at l [.ref 0, .int p, .int q] (hp M r) (if inR p 4 = false ∨ inR q 10 = false then ZE IOB (hp M r) else if onHook M 1 p q n < 0 then ZE NSE (hp M r) else VI (onHook M 1 p q n) (hp M r)) := by
  refine VM.intro (lf := L9 (some (.ref 0)) (some (.int p)) (some (.int q)) none none none none none none) (by decide +kernel) hf (fun _ => (Nat.le_of_ble_eq_true rfl)) (fun _ => rfl) ?_
  refine R_iload_n dX9_at_0 rfl rfl ?_
  refine G_cS1 cw_X9_142 (s_X9_isRack hf) dX9_at_1 ⟨(Nat.le_of_ble_eq_true rfl), (Nat.le_of_ble_eq_true rfl), (Nat.le_of_ble_eq_true rfl), (Nat.le_of_ble_eq_true rfl)⟩ ?_
  refine R_if_eq (tgt := 14) dX9_at_4 rfl (fun c1 => ?_) (fun c1 => ?_)
  · refine R_throw tw_X9_149_151 dX9_at_14 dX9_at_17 dX9_at_18 dX9_at_21 (Nat.le_of_ble_eq_true rfl) (Nat.le_of_ble_eq_true rfl) (Nat.le_of_ble_eq_true rfl) (Nat.le_of_ble_eq_true rfl) ?_
    rw [if_pos (by first | exact Or.inl (by simpa [zb_0] using (by assumption : zb (inR p 4) = 0)) | exact Or.inr (by simpa [zb_0] using (by assumption : zb (inR q 10) = 0)))]
    exact ⟨rfl, rfl⟩
  · refine R_iload_n dX9_at_7 rfl rfl ?_
    refine G_cS1 cw_X9_146 (s_X9_isHook hf) dX9_at_8 ⟨(Nat.le_of_ble_eq_true rfl), (Nat.le_of_ble_eq_true rfl), (Nat.le_of_ble_eq_true rfl), (Nat.le_of_ble_eq_true rfl)⟩ ?_
    refine R_if_ne (tgt := 22) dX9_at_11 rfl (fun c2 => ?_) (fun c2 => ?_)
    · rw [if_neg (not_or.mpr ⟨by simpa [zb_n0] using (by assumption : ¬ zb (inR p 4) = 0), by simpa [zb_n0] using (by assumption : ¬ zb (inR q 10) = 0)⟩)]
      refine R_aload_n dX9_at_22 rfl rfl ?_
      refine R_aload_n dX9_at_23 rfl rfl ?_
      refine G_get cok9 0 wf_X9_12 dX9_at_24 (by first | exact rfl | exact hsf isH1 (by omega) | assumption) ⟨(Nat.le_of_ble_eq_true rfl), (Nat.le_of_ble_eq_true rfl)⟩ rfl ?_
      refine R_iload_n dX9_at_27 rfl rfl ?_
      refine R_iload_n dX9_at_28 rfl rfl ?_
      refine G_cV2 cw_X9_152 (s_X3_fishOn hf isH1 hn hc) dX9_at_29 (rcv cok3 (by first | exact rfl | exact hsf isH1 (by omega) | assumption) (Nat.le_of_ble_eq_true rfl)) ⟨(Nat.le_of_ble_eq_true rfl), (Nat.le_of_ble_eq_true rfl), (Nat.le_of_ble_eq_true rfl), (Nat.le_of_ble_eq_true rfl)⟩ ?_
      have hs_h8 := s_X9_found (M := M) (r := r) hf (x := onHook M 1 p q n)
      by_cases h8 : onHook M 1 p q n < 0
      · rw [if_pos h8] at hs_h8 ⊢
        exact G_xV1 cw_X9_156 hs_h8 dX9_at_32 (rcv cok9 rfl (Nat.le_of_ble_eq_true rfl)) ⟨(Nat.le_of_ble_eq_true rfl), (Nat.le_of_ble_eq_true rfl), (Nat.le_of_ble_eq_true rfl), (Nat.le_of_ble_eq_true rfl)⟩ ⟨rfl, rfl⟩
      rw [if_neg h8] at hs_h8 ⊢
      refine G_tV1 cw_X9_156 hs_h8 dX9_at_32 (rcv cok9 rfl (Nat.le_of_ble_eq_true rfl)) ⟨(Nat.le_of_ble_eq_true rfl), (Nat.le_of_ble_eq_true rfl), (Nat.le_of_ble_eq_true rfl), (Nat.le_of_ble_eq_true rfl)⟩ ?_
      refine R_iret dX9_at_35 rfl (Nat.le_of_ble_eq_true rfl) (Nat.le_of_ble_eq_true rfl) ?_
      exact ⟨rfl, rfl⟩
    · refine R_throw tw_X9_149_151 dX9_at_14 dX9_at_17 dX9_at_18 dX9_at_21 (Nat.le_of_ble_eq_true rfl) (Nat.le_of_ble_eq_true rfl) (Nat.le_of_ble_eq_true rfl) (Nat.le_of_ble_eq_true rfl) ?_
      rw [if_pos (by first | exact Or.inl (by simpa [zb_0] using (by assumption : zb (inR p 4) = 0)) | exact Or.inr (by simpa [zb_0] using (by assumption : zb (inR q 10) = 0)))]
      exact ⟨rfl, rfl⟩
theorem s_X9_heat {l : Launch} (hf : l.stackTraces = false) {n : Nat} (hn : n ≤ 12) (hc : M 1 2 = nI n) {p : Int32} : V_X9_heat l [.ref 0, .int p] (hp M r) (if inR p 4 = false then ZE IOB (hp M r) else VI (mx0 (M 1 3 - p)) (hp M r)) := by
  refine VM.intro (lf := L9 (some (.ref 0)) (some (.int p)) none none none none none none none) (by decide +kernel) hf (fun _ => (Nat.le_of_ble_eq_true rfl)) (fun _ => rfl) ?_
  refine R_aload_n dX9_heat_0 rfl rfl ?_
  refine R_iload_n dX9_heat_1 rfl rfl ?_
  have hs_h9 := s_X9_needRack (M := M) (r := r) hf (x := p)
  by_cases h9 : inR p 4 = false
  · rw [if_pos h9] at hs_h9 ⊢
    exact G_xV1 cw_X9_159 hs_h9 dX9_heat_2 (rcv cok9 rfl (Nat.le_of_ble_eq_true rfl)) ⟨(Nat.le_of_ble_eq_true rfl), (Nat.le_of_ble_eq_true rfl), (Nat.le_of_ble_eq_true rfl), (Nat.le_of_ble_eq_true rfl)⟩ ⟨rfl, rfl⟩
  rw [if_neg h9] at hs_h9 ⊢
  refine G_tV1v cw_X9_159 hs_h9 dX9_heat_2 (rcv cok9 rfl (Nat.le_of_ble_eq_true rfl)) ⟨(Nat.le_of_ble_eq_true rfl), (Nat.le_of_ble_eq_true rfl), (Nat.le_of_ble_eq_true rfl), (Nat.le_of_ble_eq_true rfl)⟩ ?_
  refine R_aload_n dX9_heat_5 rfl rfl ?_
  refine G_get cok9 0 wf_X9_12 dX9_heat_6 (by first | exact rfl | exact hsf isH1 (by omega) | assumption) ⟨(Nat.le_of_ble_eq_true rfl), (Nat.le_of_ble_eq_true rfl)⟩ rfl ?_
  refine G_get cok3 3 wf_X9_162 dX9_heat_9 (by first | exact rfl | exact hsf isH1 (by omega) | assumption) ⟨(Nat.le_of_ble_eq_true rfl), (Nat.le_of_ble_eq_true rfl)⟩ rfl ?_
  refine R_iload_n dX9_heat_12 rfl rfl ?_
  refine G_cS2 cw_X9_165 (s_X9_heatBy hf) dX9_heat_13 ⟨(Nat.le_of_ble_eq_true rfl), (Nat.le_of_ble_eq_true rfl), (Nat.le_of_ble_eq_true rfl), (Nat.le_of_ble_eq_true rfl)⟩ ?_
  refine R_iret dX9_heat_16 rfl (Nat.le_of_ble_eq_true rfl) (Nat.le_of_ble_eq_true rfl) ?_
  exact ⟨rfl, rfl⟩
theorem s_X9_nearest {l : Launch} (hf : l.stackTraces = false) {n : Nat} (hn : n ≤ 12) (hc : M 1 2 = nI n) {x : Int32} : V_X9_nearest l [.ref 0, .int x] (hp M r) (if hasB M 1 x = false then ZE IOB (hp M r) else if (if zb (M (fx x) 4 == 2) = 0 then 10 else nearO M 1 (M (fx x) 5) (M (fx x) 6) x n) = 10 then ZE NSE (hp M r) else VI (if zb (M (fx x) 4 == 2) = 0 then 10 else nearO M 1 (M (fx x) 5) (M (fx x) 6) x n) (hp M r)) := by
  refine VM.intro (lf := L9 (some (.ref 0)) (some (.int x)) none none none none none none none) (by decide +kernel) hf (fun _ => (Nat.le_of_ble_eq_true rfl)) (fun _ => rfl) ?_
  refine R_aload_n dX9_nearest_0 rfl rfl ?_
  refine R_iload_n dX9_nearest_1 rfl rfl ?_
  have hs_h9 := s_X9_needFish (M := M) (r := r) hf (x := x)
  by_cases h9 : hasB M 1 x = false
  · rw [if_pos h9] at hs_h9 ⊢
    exact G_xV1 cw_X9_113 hs_h9 dX9_nearest_2 (rcv cok9 rfl (Nat.le_of_ble_eq_true rfl)) ⟨(Nat.le_of_ble_eq_true rfl), (Nat.le_of_ble_eq_true rfl), (Nat.le_of_ble_eq_true rfl), (Nat.le_of_ble_eq_true rfl)⟩ ⟨rfl, rfl⟩
  rw [if_neg h9] at hs_h9 ⊢
  refine G_tV1v cw_X9_113 hs_h9 dX9_nearest_2 (rcv cok9 rfl (Nat.le_of_ble_eq_true rfl)) ⟨(Nat.le_of_ble_eq_true rfl), (Nat.le_of_ble_eq_true rfl), (Nat.le_of_ble_eq_true rfl), (Nat.le_of_ble_eq_true rfl)⟩ ?_
  obtain ⟨k, hk, rfl, ex, ek⟩ := fx_k hc hn h9
  rw [ex]
  refine R_aload_n dX9_nearest_5 rfl rfl ?_
  refine G_get cok9 0 wf_X9_12 dX9_nearest_6 (by first | exact rfl | exact hsf isH1 (by omega) | assumption) ⟨(Nat.le_of_ble_eq_true rfl), (Nat.le_of_ble_eq_true rfl)⟩ rfl ?_
  refine R_iload_n dX9_nearest_9 rfl rfl ?_
  refine G_cV1 cw_X9_168 (s_X3_nearestTo hf isH1 hn hc hk) dX9_nearest_10 (rcv cok3 (by first | exact rfl | exact hsf isH1 (by omega) | assumption) (Nat.le_of_ble_eq_true rfl)) ⟨(Nat.le_of_ble_eq_true rfl), (Nat.le_of_ble_eq_true rfl), (Nat.le_of_ble_eq_true rfl), (Nat.le_of_ble_eq_true rfl)⟩ ?_
  refine R_istore_n dX9_nearest_13 rfl (by decide) (st2 rfl) ?_
  refine R_iload_n dX9_nearest_14 rfl rfl ?_
  refine R_bipush (v := 10) dX9_nearest_15 (by decide) ?_
  refine R_icmp_ne (tgt := 28) dX9_nearest_17 rfl (fun c1 => ?_) (fun c1 => ?_)
  · refine R_iload_n dX9_nearest_28 rfl rfl ?_
    refine R_iret dX9_nearest_29 rfl (Nat.le_of_ble_eq_true rfl) (Nat.le_of_ble_eq_true rfl) ?_
    rw [if_neg c1]
    exact ⟨rfl, rfl⟩
  · refine R_throw tw_X9_171_173 dX9_nearest_20 dX9_nearest_23 dX9_nearest_24 dX9_nearest_27 (Nat.le_of_ble_eq_true rfl) (Nat.le_of_ble_eq_true rfl) (Nat.le_of_ble_eq_true rfl) (Nat.le_of_ble_eq_true rfl) ?_
    rw [if_pos c1]
    exact ⟨rfl, rfl⟩
theorem s_X9_isCrowded {l : Launch} (hf : l.stackTraces = false) {n : Nat} (hn : n ≤ 12) (hc : M 1 2 = nI n) {x : Int32} : V_X9_isCrowded l [.ref 0, .int x] (hp M r) (if hasB M 1 x = false then ZE IOB (hp M r) else VI (zb (tooNear M 1 x.toNatClampNeg n)) (hp M r)) := by
  refine VM.intro (lf := L9 (some (.ref 0)) (some (.int x)) none none none none none none none) (by decide +kernel) hf (fun _ => (Nat.le_of_ble_eq_true rfl)) (fun _ => rfl) ?_
  refine R_aload_n dX9_isCrowded_0 rfl rfl ?_
  refine R_iload_n dX9_isCrowded_1 rfl rfl ?_
  have hs_h9 := s_X9_needFish (M := M) (r := r) hf (x := x)
  by_cases h9 : hasB M 1 x = false
  · rw [if_pos h9] at hs_h9 ⊢
    exact G_xV1 cw_X9_113 hs_h9 dX9_isCrowded_2 (rcv cok9 rfl (Nat.le_of_ble_eq_true rfl)) ⟨(Nat.le_of_ble_eq_true rfl), (Nat.le_of_ble_eq_true rfl), (Nat.le_of_ble_eq_true rfl), (Nat.le_of_ble_eq_true rfl)⟩ ⟨rfl, rfl⟩
  rw [if_neg h9] at hs_h9 ⊢
  refine G_tV1v cw_X9_113 hs_h9 dX9_isCrowded_2 (rcv cok9 rfl (Nat.le_of_ble_eq_true rfl)) ⟨(Nat.le_of_ble_eq_true rfl), (Nat.le_of_ble_eq_true rfl), (Nat.le_of_ble_eq_true rfl), (Nat.le_of_ble_eq_true rfl)⟩ ?_
  obtain ⟨k, hk, rfl, ex, ek⟩ := fx_k hc hn h9
  refine R_aload_n dX9_isCrowded_5 rfl rfl ?_
  refine G_get cok9 0 wf_X9_12 dX9_isCrowded_6 (by first | exact rfl | exact hsf isH1 (by omega) | assumption) ⟨(Nat.le_of_ble_eq_true rfl), (Nat.le_of_ble_eq_true rfl)⟩ rfl ?_
  refine R_iload_n dX9_isCrowded_9 rfl rfl ?_
  refine G_cV1 cw_X9_174 (s_X3_hangsTooNear hf isH1 hn hc hk) dX9_isCrowded_10 (rcv cok3 (by first | exact rfl | exact hsf isH1 (by omega) | assumption) (Nat.le_of_ble_eq_true rfl)) ⟨(Nat.le_of_ble_eq_true rfl), (Nat.le_of_ble_eq_true rfl), (Nat.le_of_ble_eq_true rfl), (Nat.le_of_ble_eq_true rfl)⟩ ?_
  refine R_iret dX9_isCrowded_13 (zb_nar _) (Nat.le_of_ble_eq_true rfl) (Nat.le_of_ble_eq_true rfl) ?_
  rw [ek]
  exact ⟨rfl, rfl⟩
theorem s_X9_isDone {l : Launch} (hf : l.stackTraces = false) {n : Nat} (hn : n ≤ 12) (hc : M 1 2 = nI n) {x : Int32} : V_X9_isDone l [.ref 0, .int x] (hp M r) (if hasB M 1 x = false then ZE IOB (hp M r) else VI (zb (fReady M (fx x))) (hp M r)) := by
  refine VM.intro (lf := L9 (some (.ref 0)) (some (.int x)) none none none none none none none) (by decide +kernel) hf (fun _ => (Nat.le_of_ble_eq_true rfl)) (fun _ => rfl) ?_
  refine R_aload_n dX9_isDone_0 rfl rfl ?_
  refine R_iload_n dX9_isDone_1 rfl rfl ?_
  have hs_h9 := s_X9_needFish (M := M) (r := r) hf (x := x)
  by_cases h9 : hasB M 1 x = false
  · rw [if_pos h9] at hs_h9 ⊢
    exact G_xV1 cw_X9_113 hs_h9 dX9_isDone_2 (rcv cok9 rfl (Nat.le_of_ble_eq_true rfl)) ⟨(Nat.le_of_ble_eq_true rfl), (Nat.le_of_ble_eq_true rfl), (Nat.le_of_ble_eq_true rfl), (Nat.le_of_ble_eq_true rfl)⟩ ⟨rfl, rfl⟩
  rw [if_neg h9] at hs_h9 ⊢
  refine G_tV1v cw_X9_113 hs_h9 dX9_isDone_2 (rcv cok9 rfl (Nat.le_of_ble_eq_true rfl)) ⟨(Nat.le_of_ble_eq_true rfl), (Nat.le_of_ble_eq_true rfl), (Nat.le_of_ble_eq_true rfl), (Nat.le_of_ble_eq_true rfl)⟩ ?_
  obtain ⟨k, hk, rfl, ex, ek⟩ := fx_k hc hn h9
  refine R_aload_n dX9_isDone_5 rfl rfl ?_
  refine G_get cok9 0 wf_X9_12 dX9_isDone_6 (by first | exact rfl | exact hsf isH1 (by omega) | assumption) ⟨(Nat.le_of_ble_eq_true rfl), (Nat.le_of_ble_eq_true rfl)⟩ rfl ?_
  refine R_iload_n dX9_isDone_9 rfl rfl ?_
  refine G_cV1 cw_X9_120 (s_X3_fishAt hf isH1 (by omega)) dX9_isDone_10 (rcv cok3 (by first | exact rfl | exact hsf isH1 (by omega) | assumption) (Nat.le_of_ble_eq_true rfl)) ⟨(Nat.le_of_ble_eq_true rfl), (Nat.le_of_ble_eq_true rfl), (Nat.le_of_ble_eq_true rfl), (Nat.le_of_ble_eq_true rfl)⟩ ?_
  refine G_cV0 cw_X9_177 (s_X0_isReady hf (hsf isH1 (by omega))) dX9_isDone_13 (rcv cok0 (by first | exact rfl | exact hsf isH1 (by omega) | assumption) (Nat.le_of_ble_eq_true rfl)) ⟨(Nat.le_of_ble_eq_true rfl), (Nat.le_of_ble_eq_true rfl), (Nat.le_of_ble_eq_true rfl), (Nat.le_of_ble_eq_true rfl)⟩ ?_
  refine R_iret dX9_isDone_16 (zb_nar _) (Nat.le_of_ble_eq_true rfl) (Nat.le_of_ble_eq_true rfl) ?_
  rw [ex]
  exact ⟨rfl, rfl⟩
theorem s_X9_wouldChar {l : Launch} (hf : l.stackTraces = false) {n : Nat} (hn : n ≤ 12) (hc : M 1 2 = nI n) (hz : flg M 1 n) {x m : Int32} : V_X9_wouldChar l [.ref 0, .int x, .int m] (hp M r) (if hasB M 1 x = false then ZE IOB (hp M r) else if m < 0 ∨ 24 < m then ZE IAE (hp M r) else VI ((tryF (zb (tooNear M 1 x.toNatClampNeg n)) (fcp M 457 (fx x)) m.toNatClampNeg) (dside (tryF (zb (tooNear M 1 x.toNatClampNeg n)) (fcp M 457 (fx x)) m.toNatClampNeg) 457) 1) (hp (tryF (zb (tooNear M 1 x.toNatClampNeg n)) (fcp M 457 (fx x)) m.toNatClampNeg) r)) := by
  refine VM.intro (lf := L9 (some (.ref 0)) (some (.int x)) (some (.int m)) none none none none none none) (by decide +kernel) hf (fun _ => (Nat.le_of_ble_eq_true rfl)) (fun _ => rfl) ?_
  refine R_aload_n dX9_wouldChar_0 rfl rfl ?_
  refine R_iload_n dX9_wouldChar_1 rfl rfl ?_
  have hs_h9 := s_X9_needFish (M := M) (r := r) hf (x := x)
  by_cases h9 : hasB M 1 x = false
  · rw [if_pos h9] at hs_h9 ⊢
    exact G_xV1 cw_X9_113 hs_h9 dX9_wouldChar_2 (rcv cok9 rfl (Nat.le_of_ble_eq_true rfl)) ⟨(Nat.le_of_ble_eq_true rfl), (Nat.le_of_ble_eq_true rfl), (Nat.le_of_ble_eq_true rfl), (Nat.le_of_ble_eq_true rfl)⟩ ⟨rfl, rfl⟩
  rw [if_neg h9] at hs_h9 ⊢
  refine G_tV1v cw_X9_113 hs_h9 dX9_wouldChar_2 (rcv cok9 rfl (Nat.le_of_ble_eq_true rfl)) ⟨(Nat.le_of_ble_eq_true rfl), (Nat.le_of_ble_eq_true rfl), (Nat.le_of_ble_eq_true rfl), (Nat.le_of_ble_eq_true rfl)⟩ ?_
  obtain ⟨k, hk, rfl, ex, ek⟩ := fx_k hc hn h9
  refine R_aload_n dX9_wouldChar_5 rfl rfl ?_
  refine R_iload_n dX9_wouldChar_6 rfl rfl ?_
  have hs_h7 := s_X9_needForecastHours (M := M) (r := r) hf (x := m)
  by_cases h7 : m < 0 ∨ 24 < m
  · rw [if_pos h7] at hs_h7 ⊢
    exact G_xV1 cw_X9_181 hs_h7 dX9_wouldChar_7 (rcv cok9 rfl (Nat.le_of_ble_eq_true rfl)) ⟨(Nat.le_of_ble_eq_true rfl), (Nat.le_of_ble_eq_true rfl), (Nat.le_of_ble_eq_true rfl), (Nat.le_of_ble_eq_true rfl)⟩ ⟨rfl, rfl⟩
  rw [if_neg h7] at hs_h7 ⊢
  refine G_tV1v cw_X9_181 hs_h7 dX9_wouldChar_7 (rcv cok9 rfl (Nat.le_of_ble_eq_true rfl)) ⟨(Nat.le_of_ble_eq_true rfl), (Nat.le_of_ble_eq_true rfl), (Nat.le_of_ble_eq_true rfl), (Nat.le_of_ble_eq_true rfl)⟩ ?_
  obtain ⟨m9, hm9, rfl⟩ := h24 h7
  rw [ex, ek, nI_cl (by omega)]
  refine R_aload_n dX9_wouldChar_10 rfl rfl ?_
  refine G_get cok9 6 wf_X9_50 dX9_wouldChar_11 (by first | exact rfl | exact hsf isH1 (by omega) | assumption) ⟨(Nat.le_of_ble_eq_true rfl), (Nat.le_of_ble_eq_true rfl)⟩ rfl ?_
  refine R_iload_n dX9_wouldChar_14 rfl rfl ?_
  refine R_iload_n dX9_wouldChar_15 rfl rfl ?_
  refine G_cV2 cw_X9_184 (s_X1_charHourByHour hf hn hc hk (hz k hk) (m := m9) (by omega)) dX9_wouldChar_16 (rcv cok1 (by first | exact rfl | exact hsf isH1 (by omega) | assumption) (Nat.le_of_ble_eq_true rfl)) ⟨(Nat.le_of_ble_eq_true rfl), (Nat.le_of_ble_eq_true rfl), (Nat.le_of_ble_eq_true rfl), (Nat.le_of_ble_eq_true rfl)⟩ ?_
  refine R_iret dX9_wouldChar_19 rfl (Nat.le_of_ble_eq_true rfl) (Nat.le_of_ble_eq_true rfl) ?_
  exact ⟨rfl, rfl⟩
theorem s_X9_wouldCharAgain {l : Launch} (hf : l.stackTraces = false) {n : Nat} (hn : n ≤ 12) (hc : M 1 2 = nI n) {x m : Int32} : V_X9_wouldCharAgain l [.ref 0, .int x, .int m] (hp M r) (if hasB M 1 x = false then ZE IOB (hp M r) else if m < 0 ∨ 24 < m then ZE IAE (hp M r) else VI (charA M x.toNatClampNeg m) (hp M r)) := by
  refine VM.intro (lf := L9 (some (.ref 0)) (some (.int x)) (some (.int m)) none none none none none none) (by decide +kernel) hf (fun _ => (Nat.le_of_ble_eq_true rfl)) (fun _ => rfl) ?_
  refine R_aload_n dX9_wouldCharAgain_0 rfl rfl ?_
  refine R_iload_n dX9_wouldCharAgain_1 rfl rfl ?_
  have hs_h9 := s_X9_needFish (M := M) (r := r) hf (x := x)
  by_cases h9 : hasB M 1 x = false
  · rw [if_pos h9] at hs_h9 ⊢
    exact G_xV1 cw_X9_113 hs_h9 dX9_wouldCharAgain_2 (rcv cok9 rfl (Nat.le_of_ble_eq_true rfl)) ⟨(Nat.le_of_ble_eq_true rfl), (Nat.le_of_ble_eq_true rfl), (Nat.le_of_ble_eq_true rfl), (Nat.le_of_ble_eq_true rfl)⟩ ⟨rfl, rfl⟩
  rw [if_neg h9] at hs_h9 ⊢
  refine G_tV1v cw_X9_113 hs_h9 dX9_wouldCharAgain_2 (rcv cok9 rfl (Nat.le_of_ble_eq_true rfl)) ⟨(Nat.le_of_ble_eq_true rfl), (Nat.le_of_ble_eq_true rfl), (Nat.le_of_ble_eq_true rfl), (Nat.le_of_ble_eq_true rfl)⟩ ?_
  obtain ⟨k, hk, rfl, ex, ek⟩ := fx_k hc hn h9
  refine R_aload_n dX9_wouldCharAgain_5 rfl rfl ?_
  refine R_iload_n dX9_wouldCharAgain_6 rfl rfl ?_
  have hs_h7 := s_X9_needForecastHours (M := M) (r := r) hf (x := m)
  by_cases h7 : m < 0 ∨ 24 < m
  · rw [if_pos h7] at hs_h7 ⊢
    exact G_xV1 cw_X9_181 hs_h7 dX9_wouldCharAgain_7 (rcv cok9 rfl (Nat.le_of_ble_eq_true rfl)) ⟨(Nat.le_of_ble_eq_true rfl), (Nat.le_of_ble_eq_true rfl), (Nat.le_of_ble_eq_true rfl), (Nat.le_of_ble_eq_true rfl)⟩ ⟨rfl, rfl⟩
  rw [if_neg h7] at hs_h7 ⊢
  refine G_tV1v cw_X9_181 hs_h7 dX9_wouldCharAgain_7 (rcv cok9 rfl (Nat.le_of_ble_eq_true rfl)) ⟨(Nat.le_of_ble_eq_true rfl), (Nat.le_of_ble_eq_true rfl), (Nat.le_of_ble_eq_true rfl), (Nat.le_of_ble_eq_true rfl)⟩ ?_
  obtain ⟨m9, hm9, rfl⟩ := h24 h7
  rw [ek]
  refine R_aload_n dX9_wouldCharAgain_10 rfl rfl ?_
  refine G_get cok9 6 wf_X9_50 dX9_wouldCharAgain_11 (by first | exact rfl | exact hsf isH1 (by omega) | assumption) ⟨(Nat.le_of_ble_eq_true rfl), (Nat.le_of_ble_eq_true rfl)⟩ rfl ?_
  refine R_iload_n dX9_wouldCharAgain_14 rfl rfl ?_
  refine R_iload_n dX9_wouldCharAgain_15 rfl rfl ?_
  refine G_cV2 cw_X9_187 (s_X1_charAtOnce hf hn hc hk) dX9_wouldCharAgain_16 (rcv cok1 (by first | exact rfl | exact hsf isH1 (by omega) | assumption) (Nat.le_of_ble_eq_true rfl)) ⟨(Nat.le_of_ble_eq_true rfl), (Nat.le_of_ble_eq_true rfl), (Nat.le_of_ble_eq_true rfl), (Nat.le_of_ble_eq_true rfl)⟩ ?_
  refine R_iret dX9_wouldCharAgain_19 rfl (Nat.le_of_ble_eq_true rfl) (Nat.le_of_ble_eq_true rfl) ?_
  exact ⟨rfl, rfl⟩
theorem s_X9_burnsIn {l : Launch} (hf : l.stackTraces = false) {n : Nat} (hn : n ≤ 12) (hc : M 1 2 = nI n) (hz : flg M 1 n) {x : Int32} : V_X9_burnsIn l [.ref 0, .int x] (hp M r) (if hasB M 1 x = false then ZE IOB (hp M r) else if (burnU (zb (tooNear M 1 x.toNatClampNeg n)) 13 0 (fcp M 457 (fx x))).1 < 0 then ZE NSE (hp (burnU (zb (tooNear M 1 x.toNatClampNeg n)) 13 0 (fcp M 457 (fx x))).2 r) else VI (burnU (zb (tooNear M 1 x.toNatClampNeg n)) 13 0 (fcp M 457 (fx x))).1 (hp (burnU (zb (tooNear M 1 x.toNatClampNeg n)) 13 0 (fcp M 457 (fx x))).2 r)) := by
  refine VM.intro (lf := L9 (some (.ref 0)) (some (.int x)) none none none none none none none) (by decide +kernel) hf (fun _ => (Nat.le_of_ble_eq_true rfl)) (fun _ => rfl) ?_
  refine R_aload_n dX9_burnsIn_0 rfl rfl ?_
  refine R_iload_n dX9_burnsIn_1 rfl rfl ?_
  have hs_h9 := s_X9_needFish (M := M) (r := r) hf (x := x)
  by_cases h9 : hasB M 1 x = false
  · rw [if_pos h9] at hs_h9 ⊢
    exact G_xV1 cw_X9_113 hs_h9 dX9_burnsIn_2 (rcv cok9 rfl (Nat.le_of_ble_eq_true rfl)) ⟨(Nat.le_of_ble_eq_true rfl), (Nat.le_of_ble_eq_true rfl), (Nat.le_of_ble_eq_true rfl), (Nat.le_of_ble_eq_true rfl)⟩ ⟨rfl, rfl⟩
  rw [if_neg h9] at hs_h9 ⊢
  refine G_tV1v cw_X9_113 hs_h9 dX9_burnsIn_2 (rcv cok9 rfl (Nat.le_of_ble_eq_true rfl)) ⟨(Nat.le_of_ble_eq_true rfl), (Nat.le_of_ble_eq_true rfl), (Nat.le_of_ble_eq_true rfl), (Nat.le_of_ble_eq_true rfl)⟩ ?_
  obtain ⟨k, hk, rfl, ex, ek⟩ := fx_k hc hn h9
  refine R_aload_n dX9_burnsIn_5 rfl rfl ?_
  refine R_aload_n dX9_burnsIn_6 rfl rfl ?_
  refine G_get cok9 6 wf_X9_50 dX9_burnsIn_7 (by first | exact rfl | exact hsf isH1 (by omega) | assumption) ⟨(Nat.le_of_ble_eq_true rfl), (Nat.le_of_ble_eq_true rfl)⟩ rfl ?_
  refine R_iload_n dX9_burnsIn_10 rfl rfl ?_
  rw [ex, ek]
  refine G_cV1 cw_X9_190 (s_X1_hoursUntilBurnt hf hn hc hk (hz k hk)) dX9_burnsIn_11 (rcv cok1 (by first | exact rfl | exact hsf isH1 (by omega) | assumption) (Nat.le_of_ble_eq_true rfl)) ⟨(Nat.le_of_ble_eq_true rfl), (Nat.le_of_ble_eq_true rfl), (Nat.le_of_ble_eq_true rfl), (Nat.le_of_ble_eq_true rfl)⟩ ?_
  have hs_h8 := s_X9_found (M := (burnU (zb (tooNear M 1 k n)) 13 0 (fcp M 457 (6 + 3 * k))).2) (r := r) hf (x := (burnU (zb (tooNear M 1 k n)) 13 0 (fcp M 457 (6 + 3 * k))).1)
  by_cases h8 : (burnU (zb (tooNear M 1 k n)) 13 0 (fcp M 457 (6 + 3 * k))).1 < 0
  · rw [if_pos h8] at hs_h8 ⊢
    exact G_xV1 cw_X9_156 hs_h8 dX9_burnsIn_14 (rcv cok9 rfl (Nat.le_of_ble_eq_true rfl)) ⟨(Nat.le_of_ble_eq_true rfl), (Nat.le_of_ble_eq_true rfl), (Nat.le_of_ble_eq_true rfl), (Nat.le_of_ble_eq_true rfl)⟩ ⟨rfl, rfl⟩
  rw [if_neg h8] at hs_h8 ⊢
  refine G_tV1 cw_X9_156 hs_h8 dX9_burnsIn_14 (rcv cok9 rfl (Nat.le_of_ble_eq_true rfl)) ⟨(Nat.le_of_ble_eq_true rfl), (Nat.le_of_ble_eq_true rfl), (Nat.le_of_ble_eq_true rfl), (Nat.le_of_ble_eq_true rfl)⟩ ?_
  refine R_iret dX9_burnsIn_17 rfl (Nat.le_of_ble_eq_true rfl) (Nat.le_of_ble_eq_true rfl) ?_
  exact ⟨rfl, rfl⟩
theorem s_X9_doneIn {l : Launch} (hf : l.stackTraces = false) {n : Nat} (hn : n ≤ 12) (hc : M 1 2 = nI n) (hz : flg M 1 n) {x : Int32} : V_X9_doneIn l [.ref 0, .int x] (hp M r) (if hasB M 1 x = false then ZE IOB (hp M r) else if (readU (zb (tooNear M 1 x.toNatClampNeg n)) 13 0 (fcp M 457 (fx x))).1 < 0 then ZE NSE (hp (readU (zb (tooNear M 1 x.toNatClampNeg n)) 13 0 (fcp M 457 (fx x))).2 r) else VI (readU (zb (tooNear M 1 x.toNatClampNeg n)) 13 0 (fcp M 457 (fx x))).1 (hp (readU (zb (tooNear M 1 x.toNatClampNeg n)) 13 0 (fcp M 457 (fx x))).2 r)) := by
  refine VM.intro (lf := L9 (some (.ref 0)) (some (.int x)) none none none none none none none) (by decide +kernel) hf (fun _ => (Nat.le_of_ble_eq_true rfl)) (fun _ => rfl) ?_
  refine R_aload_n dX9_doneIn_0 rfl rfl ?_
  refine R_iload_n dX9_doneIn_1 rfl rfl ?_
  have hs_h9 := s_X9_needFish (M := M) (r := r) hf (x := x)
  by_cases h9 : hasB M 1 x = false
  · rw [if_pos h9] at hs_h9 ⊢
    exact G_xV1 cw_X9_113 hs_h9 dX9_doneIn_2 (rcv cok9 rfl (Nat.le_of_ble_eq_true rfl)) ⟨(Nat.le_of_ble_eq_true rfl), (Nat.le_of_ble_eq_true rfl), (Nat.le_of_ble_eq_true rfl), (Nat.le_of_ble_eq_true rfl)⟩ ⟨rfl, rfl⟩
  rw [if_neg h9] at hs_h9 ⊢
  refine G_tV1v cw_X9_113 hs_h9 dX9_doneIn_2 (rcv cok9 rfl (Nat.le_of_ble_eq_true rfl)) ⟨(Nat.le_of_ble_eq_true rfl), (Nat.le_of_ble_eq_true rfl), (Nat.le_of_ble_eq_true rfl), (Nat.le_of_ble_eq_true rfl)⟩ ?_
  obtain ⟨k, hk, rfl, ex, ek⟩ := fx_k hc hn h9
  refine R_aload_n dX9_doneIn_5 rfl rfl ?_
  refine R_aload_n dX9_doneIn_6 rfl rfl ?_
  refine G_get cok9 6 wf_X9_50 dX9_doneIn_7 (by first | exact rfl | exact hsf isH1 (by omega) | assumption) ⟨(Nat.le_of_ble_eq_true rfl), (Nat.le_of_ble_eq_true rfl)⟩ rfl ?_
  refine R_iload_n dX9_doneIn_10 rfl rfl ?_
  rw [ex, ek]
  refine G_cV1 cw_X9_193 (s_X1_hoursUntilReady hf hn hc hk (hz k hk)) dX9_doneIn_11 (rcv cok1 (by first | exact rfl | exact hsf isH1 (by omega) | assumption) (Nat.le_of_ble_eq_true rfl)) ⟨(Nat.le_of_ble_eq_true rfl), (Nat.le_of_ble_eq_true rfl), (Nat.le_of_ble_eq_true rfl), (Nat.le_of_ble_eq_true rfl)⟩ ?_
  have hs_h8 := s_X9_found (M := (readU (zb (tooNear M 1 k n)) 13 0 (fcp M 457 (6 + 3 * k))).2) (r := r) hf (x := (readU (zb (tooNear M 1 k n)) 13 0 (fcp M 457 (6 + 3 * k))).1)
  by_cases h8 : (readU (zb (tooNear M 1 k n)) 13 0 (fcp M 457 (6 + 3 * k))).1 < 0
  · rw [if_pos h8] at hs_h8 ⊢
    exact G_xV1 cw_X9_156 hs_h8 dX9_doneIn_14 (rcv cok9 rfl (Nat.le_of_ble_eq_true rfl)) ⟨(Nat.le_of_ble_eq_true rfl), (Nat.le_of_ble_eq_true rfl), (Nat.le_of_ble_eq_true rfl), (Nat.le_of_ble_eq_true rfl)⟩ ⟨rfl, rfl⟩
  rw [if_neg h8] at hs_h8 ⊢
  refine G_tV1 cw_X9_156 hs_h8 dX9_doneIn_14 (rcv cok9 rfl (Nat.le_of_ble_eq_true rfl)) ⟨(Nat.le_of_ble_eq_true rfl), (Nat.le_of_ble_eq_true rfl), (Nat.le_of_ble_eq_true rfl), (Nat.le_of_ble_eq_true rfl)⟩ ?_
  refine R_iret dX9_doneIn_17 rfl (Nat.le_of_ble_eq_true rfl) (Nat.le_of_ble_eq_true rfl) ?_
  exact ⟨rfl, rfl⟩
theorem s_X9_hottest {l : Launch} (hf : l.stackTraces = false) {n : Nat} (hn : n ≤ 12) (hc : M 1 2 = nI n) (hz : flg M 1 n) : V_X9_hottest l [.ref 0] (hp M r) (if (firF M n n).1 < 0 then ZE NSE (hp (firF M n n).2.2 r) else VI (firF M n n).1 (hp (firF M n n).2.2 r)) := by
  refine VM.intro (lf := L9 (some (.ref 0)) none none none none none none none none) (by decide +kernel) hf (fun _ => (Nat.le_of_ble_eq_true rfl)) (fun _ => rfl) ?_
  refine R_aload_n dX9_hottest_0 rfl rfl ?_
  refine R_aload_n dX9_hottest_1 rfl rfl ?_
  refine G_get cok9 6 wf_X9_50 dX9_hottest_2 (by first | exact rfl | exact hsf isH1 (by omega) | assumption) ⟨(Nat.le_of_ble_eq_true rfl), (Nat.le_of_ble_eq_true rfl)⟩ rfl ?_
  refine G_cV0 cw_X9_196 (s_X1_firstToBurn hf hn hc hz) dX9_hottest_5 (rcv cok1 (by first | exact rfl | exact hsf isH1 (by omega) | assumption) (Nat.le_of_ble_eq_true rfl)) ⟨(Nat.le_of_ble_eq_true rfl), (Nat.le_of_ble_eq_true rfl), (Nat.le_of_ble_eq_true rfl), (Nat.le_of_ble_eq_true rfl)⟩ ?_
  have hs_h8 := s_X9_found (M := (firF M n n).2.2) (r := r) hf (x := (firF M n n).1)
  by_cases h8 : (firF M n n).1 < 0
  · rw [if_pos h8] at hs_h8 ⊢
    exact G_xV1 cw_X9_156 hs_h8 dX9_hottest_8 (rcv cok9 rfl (Nat.le_of_ble_eq_true rfl)) ⟨(Nat.le_of_ble_eq_true rfl), (Nat.le_of_ble_eq_true rfl), (Nat.le_of_ble_eq_true rfl), (Nat.le_of_ble_eq_true rfl)⟩ ⟨rfl, rfl⟩
  rw [if_neg h8] at hs_h8 ⊢
  refine G_tV1 cw_X9_156 hs_h8 dX9_hottest_8 (rcv cok9 rfl (Nat.le_of_ble_eq_true rfl)) ⟨(Nat.le_of_ble_eq_true rfl), (Nat.le_of_ble_eq_true rfl), (Nat.le_of_ble_eq_true rfl), (Nat.le_of_ble_eq_true rfl)⟩ ?_
  refine R_iret dX9_hottest_11 rfl (Nat.le_of_ble_eq_true rfl) (Nat.le_of_ble_eq_true rfl) ?_
  exact ⟨rfl, rfl⟩
theorem s_X9_bestHook {l : Launch} (hf : l.stackTraces = false) {n : Nat} (hn : n ≤ 12) (hc : M 1 2 = nI n) {x p : Int32} : V_X9_bestHook l [.ref 0, .int x, .int p] (hp M r) (if hasB M 1 x = false then ZE IOB (hp M r) else if inR p 4 = false then ZE IOB (hp M r) else if (farH M 1 x p n 10).1 < 0 then ZE NSE (hp M r) else VI (farH M 1 x p n 10).1 (hp M r)) := by
  refine VM.intro (lf := L9 (some (.ref 0)) (some (.int x)) (some (.int p)) none none none none none none) (by decide +kernel) hf (fun _ => (Nat.le_of_ble_eq_true rfl)) (fun _ => rfl) ?_
  refine R_aload_n dX9_bestHook_0 rfl rfl ?_
  refine R_iload_n dX9_bestHook_1 rfl rfl ?_
  have hs_h9 := s_X9_needFish (M := M) (r := r) hf (x := x)
  by_cases h9 : hasB M 1 x = false
  · rw [if_pos h9] at hs_h9 ⊢
    exact G_xV1 cw_X9_113 hs_h9 dX9_bestHook_2 (rcv cok9 rfl (Nat.le_of_ble_eq_true rfl)) ⟨(Nat.le_of_ble_eq_true rfl), (Nat.le_of_ble_eq_true rfl), (Nat.le_of_ble_eq_true rfl), (Nat.le_of_ble_eq_true rfl)⟩ ⟨rfl, rfl⟩
  rw [if_neg h9] at hs_h9 ⊢
  refine G_tV1v cw_X9_113 hs_h9 dX9_bestHook_2 (rcv cok9 rfl (Nat.le_of_ble_eq_true rfl)) ⟨(Nat.le_of_ble_eq_true rfl), (Nat.le_of_ble_eq_true rfl), (Nat.le_of_ble_eq_true rfl), (Nat.le_of_ble_eq_true rfl)⟩ ?_
  obtain ⟨k, hk, rfl, ex, ek⟩ := fx_k hc hn h9
  refine R_aload_n dX9_bestHook_5 rfl rfl ?_
  refine R_iload_n dX9_bestHook_6 rfl rfl ?_
  have hs_h7 := s_X9_needRack (M := M) (r := r) hf (x := p)
  by_cases h7 : inR p 4 = false
  · rw [if_pos h7] at hs_h7 ⊢
    exact G_xV1 cw_X9_159 hs_h7 dX9_bestHook_7 (rcv cok9 rfl (Nat.le_of_ble_eq_true rfl)) ⟨(Nat.le_of_ble_eq_true rfl), (Nat.le_of_ble_eq_true rfl), (Nat.le_of_ble_eq_true rfl), (Nat.le_of_ble_eq_true rfl)⟩ ⟨rfl, rfl⟩
  rw [if_neg h7] at hs_h7 ⊢
  refine G_tV1v cw_X9_159 hs_h7 dX9_bestHook_7 (rcv cok9 rfl (Nat.le_of_ble_eq_true rfl)) ⟨(Nat.le_of_ble_eq_true rfl), (Nat.le_of_ble_eq_true rfl), (Nat.le_of_ble_eq_true rfl), (Nat.le_of_ble_eq_true rfl)⟩ ?_
  refine R_aload_n dX9_bestHook_10 rfl rfl ?_
  refine R_aload_n dX9_bestHook_11 rfl rfl ?_
  refine G_get cok9 0 wf_X9_12 dX9_bestHook_12 (by first | exact rfl | exact hsf isH1 (by omega) | assumption) ⟨(Nat.le_of_ble_eq_true rfl), (Nat.le_of_ble_eq_true rfl)⟩ rfl ?_
  refine R_iload_n dX9_bestHook_15 rfl rfl ?_
  refine R_iload_n dX9_bestHook_16 rfl rfl ?_
  refine G_cV2 cw_X9_199 (s_X3_farthestHook hf isH1 hn hc) dX9_bestHook_17 (rcv cok3 (by first | exact rfl | exact hsf isH1 (by omega) | assumption) (Nat.le_of_ble_eq_true rfl)) ⟨(Nat.le_of_ble_eq_true rfl), (Nat.le_of_ble_eq_true rfl), (Nat.le_of_ble_eq_true rfl), (Nat.le_of_ble_eq_true rfl)⟩ ?_
  have hs_h8 := s_X9_found (M := M) (r := r) hf (x := (farH M 1 (nI k) p n 10).1)
  by_cases h8 : (farH M 1 (nI k) p n 10).1 < 0
  · rw [if_pos h8] at hs_h8 ⊢
    exact G_xV1 cw_X9_156 hs_h8 dX9_bestHook_20 (rcv cok9 rfl (Nat.le_of_ble_eq_true rfl)) ⟨(Nat.le_of_ble_eq_true rfl), (Nat.le_of_ble_eq_true rfl), (Nat.le_of_ble_eq_true rfl), (Nat.le_of_ble_eq_true rfl)⟩ ⟨rfl, rfl⟩
  rw [if_neg h8] at hs_h8 ⊢
  refine G_tV1 cw_X9_156 hs_h8 dX9_bestHook_20 (rcv cok9 rfl (Nat.le_of_ble_eq_true rfl)) ⟨(Nat.le_of_ble_eq_true rfl), (Nat.le_of_ble_eq_true rfl), (Nat.le_of_ble_eq_true rfl), (Nat.le_of_ble_eq_true rfl)⟩ ?_
  refine R_iret dX9_bestHook_23 rfl (Nat.le_of_ble_eq_true rfl) (Nat.le_of_ble_eq_true rfl) ?_
  exact ⟨rfl, rfl⟩
theorem L_X9_crowded {l : Launch} (hf : l.stackTraces = false) {n : Nat} (hn : n ≤ 12) (hc : M 1 2 = nI n) : ∀ (j i : Nat), i + j = n → Q_X9_crowded l (VI (itN (fun i s => s + (if zb (tooNear M 1 i n) = 0 then 0 else 1)) 0 n) (hp M r)) 4 (L9 (some (.ref 0)) (some (.int (itN (fun i s => s + (if zb (tooNear M 1 i n) = 0 then 0 else 1)) 0 i))) (some (.int (nI i))) none none none none none none) [] (hp (M) r) := by
  intro j
  induction j with
  | zero =>
    intro i hi
    have hin : n = i := by omega
    subst hin
    refine R_iload_n dX9_crowded_4 rfl rfl ?_
    refine R_aload_n dX9_crowded_5 rfl rfl ?_
    refine G_get cok9 0 wf_X9_12 dX9_crowded_6 (by first | exact rfl | exact hsf isH1 (by omega) | assumption) ⟨(Nat.le_of_ble_eq_true rfl), (Nat.le_of_ble_eq_true rfl)⟩ rfl ?_
    refine G_get cok3 2 wf_X9_202 dX9_crowded_9 (by first | exact rfl | exact hsf isH1 (by omega) | assumption) ⟨(Nat.le_of_ble_eq_true rfl), (Nat.le_of_ble_eq_true rfl)⟩ rfl ?_
    refine R_icmp_ge_t (tgt := 40) dX9_crowded_12 rfl (by rw [hc]; exact nI_le (by omega) (by omega)) ?_
    refine R_iload_n dX9_crowded_40 rfl rfl ?_
    refine R_iret dX9_crowded_41 rfl (Nat.le_of_ble_eq_true rfl) (Nat.le_of_ble_eq_true rfl) ?_
    exact ⟨rfl, rfl⟩
  | succ j ih =>
    intro i hi
    have hi1 : i < n := by omega
    refine R_iload_n dX9_crowded_4 rfl rfl ?_
    refine R_aload_n dX9_crowded_5 rfl rfl ?_
    refine G_get cok9 0 wf_X9_12 dX9_crowded_6 (by first | exact rfl | exact hsf isH1 (by omega) | assumption) ⟨(Nat.le_of_ble_eq_true rfl), (Nat.le_of_ble_eq_true rfl)⟩ rfl ?_
    refine G_get cok3 2 wf_X9_202 dX9_crowded_9 (by first | exact rfl | exact hsf isH1 (by omega) | assumption) ⟨(Nat.le_of_ble_eq_true rfl), (Nat.le_of_ble_eq_true rfl)⟩ rfl ?_
    refine R_icmp_ge_f (tgt := 40) dX9_crowded_12 rfl (by rw [hc]; exact nI_ge (by omega) (by omega)) ?_
    refine R_iload_n dX9_crowded_15 rfl rfl ?_
    refine R_aload_n dX9_crowded_16 rfl rfl ?_
    refine G_get cok9 0 wf_X9_12 dX9_crowded_17 (by first | exact rfl | exact hsf isH1 (by omega) | assumption) ⟨(Nat.le_of_ble_eq_true rfl), (Nat.le_of_ble_eq_true rfl)⟩ rfl ?_
    refine R_iload_n dX9_crowded_20 rfl rfl ?_
    refine G_cV1 cw_X9_174 (s_X3_hangsTooNear hf isH1 hn hc hi1) dX9_crowded_21 (rcv cok3 (by first | exact rfl | exact hsf isH1 (by omega) | assumption) (Nat.le_of_ble_eq_true rfl)) ⟨(Nat.le_of_ble_eq_true rfl), (Nat.le_of_ble_eq_true rfl), (Nat.le_of_ble_eq_true rfl), (Nat.le_of_ble_eq_true rfl)⟩ ?_
    refine R_if_eq (tgt := 31) dX9_crowded_24 rfl (fun c1 => ?_) (fun c1 => ?_)
    · refine R_iconst (v := 0) dX9_crowded_31 (by decide) ?_
      refine R_iadd dX9_crowded_32 ?_
      refine R_istore_n dX9_crowded_33 rfl (by decide) (st1 rfl) ?_
      first | refine R_iincN dX9_crowded_34 (by decide) rfl (by decide) (st2 rfl) ?_ | refine R_iinc1 dX9_crowded_34 (by decide) rfl (by decide) (st2 rfl) ?_
      refine R_goto (tgt := 4) dX9_crowded_37 rfl ?_
      have h9 := ih (i + 1) (by omega)
      simp only [itN] at h9
      repeat' split at h9
      all_goals first | exact h9 | (exfalso; contradiction)
    · refine R_iconst (v := 1) dX9_crowded_27 (by decide) ?_
      refine R_goto (tgt := 32) dX9_crowded_28 rfl ?_
      refine R_iadd dX9_crowded_32 ?_
      refine R_istore_n dX9_crowded_33 rfl (by decide) (st1 rfl) ?_
      first | refine R_iincN dX9_crowded_34 (by decide) rfl (by decide) (st2 rfl) ?_ | refine R_iinc1 dX9_crowded_34 (by decide) rfl (by decide) (st2 rfl) ?_
      refine R_goto (tgt := 4) dX9_crowded_37 rfl ?_
      have h9 := ih (i + 1) (by omega)
      simp only [itN] at h9
      repeat' split at h9
      all_goals first | exact h9 | (exfalso; contradiction)
theorem s_X9_crowded {l : Launch} (hf : l.stackTraces = false) {n : Nat} (hn : n ≤ 12) (hc : M 1 2 = nI n) : V_X9_crowded l [.ref 0] (hp M r) (VI (itN (fun i s => s + (if zb (tooNear M 1 i n) = 0 then 0 else 1)) 0 n) (hp M r)) := by
  refine VM.intro (lf := L9 (some (.ref 0)) none none none none none none none none) (by decide +kernel) hf (fun _ => (Nat.le_of_ble_eq_true rfl)) (fun _ => rfl) ?_
  refine R_iconst (v := 0) dX9_crowded_0 (by decide) ?_
  refine R_istore_n dX9_crowded_1 rfl (by decide) (st1 rfl) ?_
  refine R_iconst (v := 0) dX9_crowded_2 (by decide) ?_
  refine R_istore_n dX9_crowded_3 rfl (by decide) (st2 rfl) ?_
  exact L_X9_crowded hf hn hc n 0 (by omega)
theorem s_X9_ranked {l : Launch} (hf : l.stackTraces = false) {n : Nat} (hn : n ≤ 12) (hc : M 1 2 = nI n) {me pl : Int32} : V_X9_ranked l [.ref 0, .int me, .int pl] (hp M r) (if me < 0 ∨ ¬ me < 5 then ZE IAE (hp M r) else if findN (fun i => placeO M 1 me (nI i) (fMea M (1 + 5 + 3 * i) me) n == pl) n 0 < 0 then ZE NSE (hp M r) else VI (findN (fun i => placeO M 1 me (nI i) (fMea M (1 + 5 + 3 * i) me) n == pl) n 0) (hp M r)) := by
  refine VM.intro (lf := L9 (some (.ref 0)) (some (.int me)) (some (.int pl)) none none none none none none) (by decide +kernel) hf (fun _ => (Nat.le_of_ble_eq_true rfl)) (fun _ => rfl) ?_
  refine R_iload_n dX9_ranked_0 rfl rfl ?_
  refine R_if_lt (tgt := 9) dX9_ranked_1 rfl (fun c1 => ?_) (fun c1 => ?_)
  · refine R_throw tw_X9_117_119 dX9_ranked_9 dX9_ranked_12 dX9_ranked_13 dX9_ranked_16 (Nat.le_of_ble_eq_true rfl) (Nat.le_of_ble_eq_true rfl) (Nat.le_of_ble_eq_true rfl) (Nat.le_of_ble_eq_true rfl) ?_
    rw [if_pos (by first | exact Or.inl (by assumption) | exact Or.inr (by assumption))]
    exact ⟨rfl, rfl⟩
  · refine R_iload_n dX9_ranked_4 rfl rfl ?_
    refine R_iconst (v := 5) dX9_ranked_5 (by decide) ?_
    refine R_icmp_lt (tgt := 17) dX9_ranked_6 rfl (fun c2 => ?_) (fun c2 => ?_)
    · rw [if_neg (by first | exact not_or.mpr ⟨by assumption, by assumption⟩ | exact not_or.mpr ⟨by assumption, fun z => z (by assumption)⟩)]
      refine R_aload_n dX9_ranked_17 rfl rfl ?_
      refine R_aload_n dX9_ranked_18 rfl rfl ?_
      refine G_get cok9 0 wf_X9_12 dX9_ranked_19 (by first | exact rfl | exact hsf isH1 (by omega) | assumption) ⟨(Nat.le_of_ble_eq_true rfl), (Nat.le_of_ble_eq_true rfl)⟩ rfl ?_
      refine R_iload_n dX9_ranked_22 rfl rfl ?_
      refine R_iload_n dX9_ranked_23 rfl rfl ?_
      refine G_cV2 cw_X9_205 (s_X3_fishAtPlace hf isH1 hn hc) dX9_ranked_24 (rcv cok3 (by first | exact rfl | exact hsf isH1 (by omega) | assumption) (Nat.le_of_ble_eq_true rfl)) ⟨(Nat.le_of_ble_eq_true rfl), (Nat.le_of_ble_eq_true rfl), (Nat.le_of_ble_eq_true rfl), (Nat.le_of_ble_eq_true rfl)⟩ ?_
      have hs_h8 := s_X9_found (M := M) (r := r) hf (x := (findN (fun i => placeO M 1 me (nI i) (fMea M (1 + 5 + 3 * i) me) n == pl) n 0))
      by_cases h8 : (findN (fun i => placeO M 1 me (nI i) (fMea M (1 + 5 + 3 * i) me) n == pl) n 0) < 0
      · rw [if_pos h8] at hs_h8 ⊢
        exact G_xV1 cw_X9_156 hs_h8 dX9_ranked_27 (rcv cok9 rfl (Nat.le_of_ble_eq_true rfl)) ⟨(Nat.le_of_ble_eq_true rfl), (Nat.le_of_ble_eq_true rfl), (Nat.le_of_ble_eq_true rfl), (Nat.le_of_ble_eq_true rfl)⟩ ⟨rfl, rfl⟩
      rw [if_neg h8] at hs_h8 ⊢
      refine G_tV1 cw_X9_156 hs_h8 dX9_ranked_27 (rcv cok9 rfl (Nat.le_of_ble_eq_true rfl)) ⟨(Nat.le_of_ble_eq_true rfl), (Nat.le_of_ble_eq_true rfl), (Nat.le_of_ble_eq_true rfl), (Nat.le_of_ble_eq_true rfl)⟩ ?_
      refine R_iret dX9_ranked_30 rfl (Nat.le_of_ble_eq_true rfl) (Nat.le_of_ble_eq_true rfl) ?_
      exact ⟨rfl, rfl⟩
    · refine R_throw tw_X9_117_119 dX9_ranked_9 dX9_ranked_12 dX9_ranked_13 dX9_ranked_16 (Nat.le_of_ble_eq_true rfl) (Nat.le_of_ble_eq_true rfl) (Nat.le_of_ble_eq_true rfl) (Nat.le_of_ble_eq_true rfl) ?_
      rw [if_pos (by first | exact Or.inl (by assumption) | exact Or.inr (by assumption))]
      exact ⟨rfl, rfl⟩
theorem s_X9_append {l : Launch} (hf : l.stackTraces = false) {n : Nat} (hn : n ≤ 12) (hc : M 1 2 = nI n) {L : Nat} (hL : M 460 1 = nI L) (hL60 : L ≤ 60) {c : Int32} : V_X9_append l [.ref 0, .int c] (hp M r) (if L = 60 then ZE ISE (hp M r) else VI (nI (L + 1)) (hp (mst (mst M 461 L (vp_nar .char c)) 460 1 (nI (L + 1))) r)) := by
  refine VM.intro (lf := L9 (some (.ref 0)) (some (.int c)) none none none none none none none) (by decide +kernel) hf (fun _ => (Nat.le_of_ble_eq_true rfl)) (fun _ => rfl) ?_
  refine R_aload_n dX9_append_0 rfl rfl ?_
  refine G_get cok9 7 wf_X9_57 dX9_append_1 (by first | exact rfl | exact hsf isH1 (by omega) | assumption) ⟨(Nat.le_of_ble_eq_true rfl), (Nat.le_of_ble_eq_true rfl)⟩ rfl ?_
  refine G_get cok6 1 wf_X9_208 dX9_append_4 (by first | exact rfl | exact hsf isH1 (by omega) | assumption) ⟨(Nat.le_of_ble_eq_true rfl), (Nat.le_of_ble_eq_true rfl)⟩ rfl ?_
  refine R_bipush (v := 60) dX9_append_7 (by decide) ?_
  refine R_icmp_lt (tgt := 20) dX9_append_9 rfl (fun c1 => ?_) (fun c1 => ?_)
  · have hl60 : L < 60 := (nI_ltI (b := 60) (by omega) (by omega)).mp (by rw [← hL]; assumption)
    refine R_aload_n dX9_append_20 rfl rfl ?_
    refine G_get cok9 7 wf_X9_57 dX9_append_21 (by first | exact rfl | exact hsf isH1 (by omega) | assumption) ⟨(Nat.le_of_ble_eq_true rfl), (Nat.le_of_ble_eq_true rfl)⟩ rfl ?_
    refine R_iload_n dX9_append_24 rfl rfl ?_
    refine G_cV1v cw_X9_214 (s_X6_add hf hL (by have := hl60; omega)) dX9_append_25 (rcv cok6 (by first | exact rfl | exact hsf isH1 (by omega) | assumption) (Nat.le_of_ble_eq_true rfl)) ⟨(Nat.le_of_ble_eq_true rfl), (Nat.le_of_ble_eq_true rfl), (Nat.le_of_ble_eq_true rfl), (Nat.le_of_ble_eq_true rfl)⟩ ?_
    refine R_aload_n dX9_append_28 rfl rfl ?_
    refine G_get cok9 7 wf_X9_57 dX9_append_29 (by first | exact rfl | exact hsf isH1 (by omega) | assumption) ⟨(Nat.le_of_ble_eq_true rfl), (Nat.le_of_ble_eq_true rfl)⟩ rfl ?_
    refine G_get cok6 1 wf_X9_208 dX9_append_32 (by first | exact rfl | exact hsf isH1 (by omega) | assumption) ⟨(Nat.le_of_ble_eq_true rfl), (Nat.le_of_ble_eq_true rfl)⟩ rfl ?_
    refine R_iret dX9_append_35 rfl (Nat.le_of_ble_eq_true rfl) (Nat.le_of_ble_eq_true rfl) ?_
    rw [if_neg (by omega), mst_eq]
    exact ⟨rfl, rfl⟩
  · refine R_throw tw_X9_211_213 dX9_append_12 dX9_append_15 dX9_append_16 dX9_append_19 (Nat.le_of_ble_eq_true rfl) (Nat.le_of_ble_eq_true rfl) (Nat.le_of_ble_eq_true rfl) (Nat.le_of_ble_eq_true rfl) ?_
    rw [if_pos (by have q : ¬ L < 60 := fun z => c1 (by rw [hL]; exact nI_lt (b := 60) z (by omega)); omega)]
    exact ⟨rfl, rfl⟩
theorem s_X9_faultPosition {l : Launch} (hf : l.stackTraces = false) {n : Nat} (hn : n ≤ 12) (hc : M 1 2 = nI n) : V_X9_faultPosition l [.ref 0] (hp M r) (VI (M 460 2) (hp M r)) := by
  refine VM.intro (lf := L9 (some (.ref 0)) none none none none none none none none) (by decide +kernel) hf (fun _ => (Nat.le_of_ble_eq_true rfl)) (fun _ => rfl) ?_
  refine R_aload_n dX9_faultPosition_0 rfl rfl ?_
  refine G_get cok9 7 wf_X9_57 dX9_faultPosition_1 (by first | exact rfl | exact hsf isH1 (by omega) | assumption) ⟨(Nat.le_of_ble_eq_true rfl), (Nat.le_of_ble_eq_true rfl)⟩ rfl ?_
  refine G_get cok6 2 wf_X9_221 dX9_faultPosition_4 (by first | exact rfl | exact hsf isH1 (by omega) | assumption) ⟨(Nat.le_of_ble_eq_true rfl), (Nat.le_of_ble_eq_true rfl)⟩ rfl ?_
  refine R_iret dX9_faultPosition_7 rfl (Nat.le_of_ble_eq_true rfl) (Nat.le_of_ble_eq_true rfl) ?_
  exact ⟨rfl, rfl⟩
theorem s_X9_reason {l : Launch} (hf : l.stackTraces = false) {n : Nat} (hn : n ≤ 12) (hc : M 1 2 = nI n) {q : Int32} : V_X9_reason l [.ref 0, .int q] (hp M r) (if q < 0 ∨ ¬ q < 3 then ZE IAE (hp M r) else if M 454 0 = 0 then ZE NSE (hp M r) else VI (if q = 0 then M 454 2 else if q = 1 then M 454 3 else M 454 4) (hp M r)) := by
  refine VM.intro (lf := L9 (some (.ref 0)) (some (.int q)) none none none none none none none) (by decide +kernel) hf (fun _ => (Nat.le_of_ble_eq_true rfl)) (fun _ => rfl) ?_
  refine R_iload_n dX9_reason_0 rfl rfl ?_
  refine R_if_lt (tgt := 9) dX9_reason_1 rfl (fun c1 => ?_) (fun c1 => ?_)
  · refine R_throw tw_X9_117_119 dX9_reason_9 dX9_reason_12 dX9_reason_13 dX9_reason_16 (Nat.le_of_ble_eq_true rfl) (Nat.le_of_ble_eq_true rfl) (Nat.le_of_ble_eq_true rfl) (Nat.le_of_ble_eq_true rfl) ?_
    rw [if_pos (by first | exact Or.inl (by assumption) | exact Or.inr (by assumption))]
    exact ⟨rfl, rfl⟩
  · refine R_iload_n dX9_reason_4 rfl rfl ?_
    refine R_iconst (v := 3) dX9_reason_5 (by decide) ?_
    refine R_icmp_lt (tgt := 17) dX9_reason_6 rfl (fun c2 => ?_) (fun c2 => ?_)
    · refine R_aload_n dX9_reason_17 rfl rfl ?_
      refine G_get cok9 4 wf_X9_32 dX9_reason_18 (by first | exact rfl | exact hsf isH1 (by omega) | assumption) ⟨(Nat.le_of_ble_eq_true rfl), (Nat.le_of_ble_eq_true rfl)⟩ rfl ?_
      refine G_get cok5 0 wf_X9_252 dX9_reason_21 (by first | exact rfl | exact hsf isH1 (by omega) | assumption) ⟨(Nat.le_of_ble_eq_true rfl), (Nat.le_of_ble_eq_true rfl)⟩ rfl ?_
      refine R_if_ne (tgt := 35) dX9_reason_24 rfl (fun c3 => ?_) (fun c3 => ?_)
      · refine R_aload_n dX9_reason_35 rfl rfl ?_
        refine G_get cok9 4 wf_X9_32 dX9_reason_36 (by first | exact rfl | exact hsf isH1 (by omega) | assumption) ⟨(Nat.le_of_ble_eq_true rfl), (Nat.le_of_ble_eq_true rfl)⟩ rfl ?_
        refine R_iload_n dX9_reason_39 rfl rfl ?_
        refine G_cV1 cw_X9_256 (s_X5_number hf) dX9_reason_40 (rcv cok5 (by first | exact rfl | exact hsf isH1 (by omega) | assumption) (Nat.le_of_ble_eq_true rfl)) ⟨(Nat.le_of_ble_eq_true rfl), (Nat.le_of_ble_eq_true rfl), (Nat.le_of_ble_eq_true rfl), (Nat.le_of_ble_eq_true rfl)⟩ ?_
        refine R_iret dX9_reason_43 rfl (Nat.le_of_ble_eq_true rfl) (Nat.le_of_ble_eq_true rfl) ?_
        rw [if_neg (by first | exact not_or.mpr ⟨by assumption, by assumption⟩ | exact not_or.mpr ⟨by assumption, fun z => z (by assumption)⟩), if_neg (by assumption)]
        exact ⟨rfl, rfl⟩
      · refine R_throw tw_X9_171_173 dX9_reason_27 dX9_reason_30 dX9_reason_31 dX9_reason_34 (Nat.le_of_ble_eq_true rfl) (Nat.le_of_ble_eq_true rfl) (Nat.le_of_ble_eq_true rfl) (Nat.le_of_ble_eq_true rfl) ?_
        rw [if_neg (by first | exact not_or.mpr ⟨by assumption, by assumption⟩ | exact not_or.mpr ⟨by assumption, fun z => z (by assumption)⟩), if_pos (by assumption)]
        exact ⟨rfl, rfl⟩
    · refine R_throw tw_X9_117_119 dX9_reason_9 dX9_reason_12 dX9_reason_13 dX9_reason_16 (Nat.le_of_ble_eq_true rfl) (Nat.le_of_ble_eq_true rfl) (Nat.le_of_ble_eq_true rfl) (Nat.le_of_ble_eq_true rfl) ?_
      rw [if_pos (by first | exact Or.inl (by assumption) | exact Or.inr (by assumption))]
      exact ⟨rfl, rfl⟩
def acc (M : MM) (n : Nat) (q : Int32) : Int32 := if q = 0 then M 1 2 else if q = 1 then itN (fun i s => s + (if M (1 + 5 + 3 * i) 4 = 1 then 1 else 0)) 0 n else if q = 2 then itN (fun i s => s + (if M (1 + 5 + 3 * i) 4 = 2 then 1 else 0)) 0 n else if q = 3 then M 1 3 else if q = 4 then M 1 4 else if q = 5 then M 1 5 else if q = 6 then M 1 6 else if q = 7 then M 1 7 else if q = 8 then M 1 8 else if q = 9 then M 1 9 else if q = 10 then M 124 1 else M 460 1
theorem s_X9_account {l : Launch} (hf : l.stackTraces = false) {n : Nat} (hn : n ≤ 12) (hc : M 1 2 = nI n) {q : Int32} : V_X9_account l [.ref 0, .int q] (hp M r) (if q < 0 ∨ ¬ q < 12 then ZE IAE (hp M r) else VI (acc M n q) (hp M r)) := by
  refine VM.intro (lf := L9 (some (.ref 0)) (some (.int q)) none none none none none none none) (by decide +kernel) hf (fun _ => (Nat.le_of_ble_eq_true rfl)) (fun _ => rfl) ?_
  refine R_iload_n dX9_account_0 rfl rfl ?_
  by_cases e0 : q = 0
  · refine R_topE e0 ?_
    refine R_tableIn (tgt := 64) dX9_account_1 (by decide) (by decide) rfl rfl ?_
    refine R_aload_n dX9_account_64 rfl rfl ?_
    refine G_get cok9 0 wf_X9_12 dX9_account_65 (by first | exact rfl | exact hsf isH1 (by omega) | assumption) ⟨(Nat.le_of_ble_eq_true rfl), (Nat.le_of_ble_eq_true rfl)⟩ rfl ?_
    refine G_get cok3 2 wf_X9_202 dX9_account_68 (by first | exact rfl | exact hsf isH1 (by omega) | assumption) ⟨(Nat.le_of_ble_eq_true rfl), (Nat.le_of_ble_eq_true rfl)⟩ rfl ?_
    refine R_iret dX9_account_71 rfl (Nat.le_of_ble_eq_true rfl) (Nat.le_of_ble_eq_true rfl) ?_
    have hq : ¬ (q < 0 ∨ ¬ q < 12) := by simp only [*]; decide
    rw [if_neg hq]
    refine ⟨?_, rfl⟩
    simp [acc, *]
  · by_cases e1 : q = 1
    · refine R_topE e1 ?_
      refine R_tableIn (tgt := 72) dX9_account_1 (by decide) (by decide) rfl rfl ?_
      refine R_aload_n dX9_account_72 rfl rfl ?_
      refine G_get cok9 0 wf_X9_12 dX9_account_73 (by first | exact rfl | exact hsf isH1 (by omega) | assumption) ⟨(Nat.le_of_ble_eq_true rfl), (Nat.le_of_ble_eq_true rfl)⟩ rfl ?_
      refine R_iconst (v := 1) dX9_account_76 (by decide) ?_
      refine G_cV1 cw_X9_297 (s_X3_countIn hf isH1 hn hc) dX9_account_77 (rcv cok3 (by first | exact rfl | exact hsf isH1 (by omega) | assumption) (Nat.le_of_ble_eq_true rfl)) ⟨(Nat.le_of_ble_eq_true rfl), (Nat.le_of_ble_eq_true rfl), (Nat.le_of_ble_eq_true rfl), (Nat.le_of_ble_eq_true rfl)⟩ ?_
      refine R_iret dX9_account_80 rfl (Nat.le_of_ble_eq_true rfl) (Nat.le_of_ble_eq_true rfl) ?_
      have hq : ¬ (q < 0 ∨ ¬ q < 12) := by simp only [*]; decide
      rw [if_neg hq]
      refine ⟨?_, rfl⟩
      simp [acc, *]
    · by_cases e2 : q = 2
      · refine R_topE e2 ?_
        refine R_tableIn (tgt := 81) dX9_account_1 (by decide) (by decide) rfl rfl ?_
        refine R_aload_n dX9_account_81 rfl rfl ?_
        refine G_get cok9 0 wf_X9_12 dX9_account_82 (by first | exact rfl | exact hsf isH1 (by omega) | assumption) ⟨(Nat.le_of_ble_eq_true rfl), (Nat.le_of_ble_eq_true rfl)⟩ rfl ?_
        refine R_iconst (v := 2) dX9_account_85 (by decide) ?_
        refine G_cV1 cw_X9_297 (s_X3_countIn hf isH1 hn hc) dX9_account_86 (rcv cok3 (by first | exact rfl | exact hsf isH1 (by omega) | assumption) (Nat.le_of_ble_eq_true rfl)) ⟨(Nat.le_of_ble_eq_true rfl), (Nat.le_of_ble_eq_true rfl), (Nat.le_of_ble_eq_true rfl), (Nat.le_of_ble_eq_true rfl)⟩ ?_
        refine R_iret dX9_account_89 rfl (Nat.le_of_ble_eq_true rfl) (Nat.le_of_ble_eq_true rfl) ?_
        have hq : ¬ (q < 0 ∨ ¬ q < 12) := by simp only [*]; decide
        rw [if_neg hq]
        refine ⟨?_, rfl⟩
        simp [acc, *]
      · by_cases e3 : q = 3
        · refine R_topE e3 ?_
          refine R_tableIn (tgt := 90) dX9_account_1 (by decide) (by decide) rfl rfl ?_
          refine R_aload_n dX9_account_90 rfl rfl ?_
          refine G_get cok9 0 wf_X9_12 dX9_account_91 (by first | exact rfl | exact hsf isH1 (by omega) | assumption) ⟨(Nat.le_of_ble_eq_true rfl), (Nat.le_of_ble_eq_true rfl)⟩ rfl ?_
          refine G_get cok3 3 wf_X9_162 dX9_account_94 (by first | exact rfl | exact hsf isH1 (by omega) | assumption) ⟨(Nat.le_of_ble_eq_true rfl), (Nat.le_of_ble_eq_true rfl)⟩ rfl ?_
          refine R_iret dX9_account_97 rfl (Nat.le_of_ble_eq_true rfl) (Nat.le_of_ble_eq_true rfl) ?_
          have hq : ¬ (q < 0 ∨ ¬ q < 12) := by simp only [*]; decide
          rw [if_neg hq]
          refine ⟨?_, rfl⟩
          simp [acc, *]
        · by_cases e4 : q = 4
          · refine R_topE e4 ?_
            refine R_tableIn (tgt := 98) dX9_account_1 (by decide) (by decide) rfl rfl ?_
            refine R_aload_n dX9_account_98 rfl rfl ?_
            refine G_get cok9 0 wf_X9_12 dX9_account_99 (by first | exact rfl | exact hsf isH1 (by omega) | assumption) ⟨(Nat.le_of_ble_eq_true rfl), (Nat.le_of_ble_eq_true rfl)⟩ rfl ?_
            refine G_get cok3 4 wf_X9_300 dX9_account_102 (by first | exact rfl | exact hsf isH1 (by omega) | assumption) ⟨(Nat.le_of_ble_eq_true rfl), (Nat.le_of_ble_eq_true rfl)⟩ rfl ?_
            refine R_iret dX9_account_105 rfl (Nat.le_of_ble_eq_true rfl) (Nat.le_of_ble_eq_true rfl) ?_
            have hq : ¬ (q < 0 ∨ ¬ q < 12) := by simp only [*]; decide
            rw [if_neg hq]
            refine ⟨?_, rfl⟩
            simp [acc, *]
          · by_cases e5 : q = 5
            · refine R_topE e5 ?_
              refine R_tableIn (tgt := 106) dX9_account_1 (by decide) (by decide) rfl rfl ?_
              refine R_aload_n dX9_account_106 rfl rfl ?_
              refine G_get cok9 0 wf_X9_12 dX9_account_107 (by first | exact rfl | exact hsf isH1 (by omega) | assumption) ⟨(Nat.le_of_ble_eq_true rfl), (Nat.le_of_ble_eq_true rfl)⟩ rfl ?_
              refine G_get cok3 5 wf_X9_303 dX9_account_110 (by first | exact rfl | exact hsf isH1 (by omega) | assumption) ⟨(Nat.le_of_ble_eq_true rfl), (Nat.le_of_ble_eq_true rfl)⟩ rfl ?_
              refine R_iret dX9_account_113 rfl (Nat.le_of_ble_eq_true rfl) (Nat.le_of_ble_eq_true rfl) ?_
              have hq : ¬ (q < 0 ∨ ¬ q < 12) := by simp only [*]; decide
              rw [if_neg hq]
              refine ⟨?_, rfl⟩
              simp [acc, *]
            · by_cases e6 : q = 6
              · refine R_topE e6 ?_
                refine R_tableIn (tgt := 114) dX9_account_1 (by decide) (by decide) rfl rfl ?_
                refine R_aload_n dX9_account_114 rfl rfl ?_
                refine G_get cok9 0 wf_X9_12 dX9_account_115 (by first | exact rfl | exact hsf isH1 (by omega) | assumption) ⟨(Nat.le_of_ble_eq_true rfl), (Nat.le_of_ble_eq_true rfl)⟩ rfl ?_
                refine G_get cok3 6 wf_X9_306 dX9_account_118 (by first | exact rfl | exact hsf isH1 (by omega) | assumption) ⟨(Nat.le_of_ble_eq_true rfl), (Nat.le_of_ble_eq_true rfl)⟩ rfl ?_
                refine R_iret dX9_account_121 rfl (Nat.le_of_ble_eq_true rfl) (Nat.le_of_ble_eq_true rfl) ?_
                have hq : ¬ (q < 0 ∨ ¬ q < 12) := by simp only [*]; decide
                rw [if_neg hq]
                refine ⟨?_, rfl⟩
                simp [acc, *]
              · by_cases e7 : q = 7
                · refine R_topE e7 ?_
                  refine R_tableIn (tgt := 122) dX9_account_1 (by decide) (by decide) rfl rfl ?_
                  refine R_aload_n dX9_account_122 rfl rfl ?_
                  refine G_get cok9 0 wf_X9_12 dX9_account_123 (by first | exact rfl | exact hsf isH1 (by omega) | assumption) ⟨(Nat.le_of_ble_eq_true rfl), (Nat.le_of_ble_eq_true rfl)⟩ rfl ?_
                  refine G_get cok3 7 wf_X9_309 dX9_account_126 (by first | exact rfl | exact hsf isH1 (by omega) | assumption) ⟨(Nat.le_of_ble_eq_true rfl), (Nat.le_of_ble_eq_true rfl)⟩ rfl ?_
                  refine R_iret dX9_account_129 rfl (Nat.le_of_ble_eq_true rfl) (Nat.le_of_ble_eq_true rfl) ?_
                  have hq : ¬ (q < 0 ∨ ¬ q < 12) := by simp only [*]; decide
                  rw [if_neg hq]
                  refine ⟨?_, rfl⟩
                  simp [acc, *]
                · by_cases e8 : q = 8
                  · refine R_topE e8 ?_
                    refine R_tableIn (tgt := 130) dX9_account_1 (by decide) (by decide) rfl rfl ?_
                    refine R_aload_n dX9_account_130 rfl rfl ?_
                    refine G_get cok9 0 wf_X9_12 dX9_account_131 (by first | exact rfl | exact hsf isH1 (by omega) | assumption) ⟨(Nat.le_of_ble_eq_true rfl), (Nat.le_of_ble_eq_true rfl)⟩ rfl ?_
                    refine G_get cok3 8 wf_X9_312 dX9_account_134 (by first | exact rfl | exact hsf isH1 (by omega) | assumption) ⟨(Nat.le_of_ble_eq_true rfl), (Nat.le_of_ble_eq_true rfl)⟩ rfl ?_
                    refine R_iret dX9_account_137 rfl (Nat.le_of_ble_eq_true rfl) (Nat.le_of_ble_eq_true rfl) ?_
                    have hq : ¬ (q < 0 ∨ ¬ q < 12) := by simp only [*]; decide
                    rw [if_neg hq]
                    refine ⟨?_, rfl⟩
                    simp [acc, *]
                  · by_cases e9 : q = 9
                    · refine R_topE e9 ?_
                      refine R_tableIn (tgt := 138) dX9_account_1 (by decide) (by decide) rfl rfl ?_
                      refine R_aload_n dX9_account_138 rfl rfl ?_
                      refine G_get cok9 0 wf_X9_12 dX9_account_139 (by first | exact rfl | exact hsf isH1 (by omega) | assumption) ⟨(Nat.le_of_ble_eq_true rfl), (Nat.le_of_ble_eq_true rfl)⟩ rfl ?_
                      refine G_get cok3 9 wf_X9_315 dX9_account_142 (by first | exact rfl | exact hsf isH1 (by omega) | assumption) ⟨(Nat.le_of_ble_eq_true rfl), (Nat.le_of_ble_eq_true rfl)⟩ rfl ?_
                      refine R_iret dX9_account_145 rfl (Nat.le_of_ble_eq_true rfl) (Nat.le_of_ble_eq_true rfl) ?_
                      have hq : ¬ (q < 0 ∨ ¬ q < 12) := by simp only [*]; decide
                      rw [if_neg hq]
                      refine ⟨?_, rfl⟩
                      simp [acc, *]
                    · by_cases e10 : q = 10
                      · refine R_topE e10 ?_
                        refine R_tableIn (tgt := 146) dX9_account_1 (by decide) (by decide) rfl rfl ?_
                        refine R_aload_n dX9_account_146 rfl rfl ?_
                        refine G_get cok9 3 wf_X9_25 dX9_account_147 (by first | exact rfl | exact hsf isH1 (by omega) | assumption) ⟨(Nat.le_of_ble_eq_true rfl), (Nat.le_of_ble_eq_true rfl)⟩ rfl ?_
                        refine G_get cok2 1 wf_X9_318 dX9_account_150 (by first | exact rfl | exact hsf isH1 (by omega) | assumption) ⟨(Nat.le_of_ble_eq_true rfl), (Nat.le_of_ble_eq_true rfl)⟩ rfl ?_
                        refine R_iret dX9_account_153 rfl (Nat.le_of_ble_eq_true rfl) (Nat.le_of_ble_eq_true rfl) ?_
                        have hq : ¬ (q < 0 ∨ ¬ q < 12) := by simp only [*]; decide
                        rw [if_neg hq]
                        refine ⟨?_, rfl⟩
                        simp [acc, *]
                      · by_cases e11 : q = 11
                        · refine R_topE e11 ?_
                          refine R_tableIn (tgt := 154) dX9_account_1 (by decide) (by decide) rfl rfl ?_
                          refine R_aload_n dX9_account_154 rfl rfl ?_
                          refine G_get cok9 7 wf_X9_57 dX9_account_155 (by first | exact rfl | exact hsf isH1 (by omega) | assumption) ⟨(Nat.le_of_ble_eq_true rfl), (Nat.le_of_ble_eq_true rfl)⟩ rfl ?_
                          refine G_get cok6 1 wf_X9_208 dX9_account_158 (by first | exact rfl | exact hsf isH1 (by omega) | assumption) ⟨(Nat.le_of_ble_eq_true rfl), (Nat.le_of_ble_eq_true rfl)⟩ rfl ?_
                          refine R_iret dX9_account_161 rfl (Nat.le_of_ble_eq_true rfl) (Nat.le_of_ble_eq_true rfl) ?_
                          have hq : ¬ (q < 0 ∨ ¬ q < 12) := by simp only [*]; decide
                          rw [if_neg hq]
                          refine ⟨?_, rfl⟩
                          simp [acc, *]
                        · have t0 : (q).toInt ≠ 0 := fun e => e0 (Int32.toInt_inj.mp (by rw [e]; rfl))
                          have t1 : (q).toInt ≠ 1 := fun e => e1 (Int32.toInt_inj.mp (by rw [e]; rfl))
                          have t2 : (q).toInt ≠ 2 := fun e => e2 (Int32.toInt_inj.mp (by rw [e]; rfl))
                          have t3 : (q).toInt ≠ 3 := fun e => e3 (Int32.toInt_inj.mp (by rw [e]; rfl))
                          have t4 : (q).toInt ≠ 4 := fun e => e4 (Int32.toInt_inj.mp (by rw [e]; rfl))
                          have t5 : (q).toInt ≠ 5 := fun e => e5 (Int32.toInt_inj.mp (by rw [e]; rfl))
                          have t6 : (q).toInt ≠ 6 := fun e => e6 (Int32.toInt_inj.mp (by rw [e]; rfl))
                          have t7 : (q).toInt ≠ 7 := fun e => e7 (Int32.toInt_inj.mp (by rw [e]; rfl))
                          have t8 : (q).toInt ≠ 8 := fun e => e8 (Int32.toInt_inj.mp (by rw [e]; rfl))
                          have t9 : (q).toInt ≠ 9 := fun e => e9 (Int32.toInt_inj.mp (by rw [e]; rfl))
                          have t10 : (q).toInt ≠ 10 := fun e => e10 (Int32.toInt_inj.mp (by rw [e]; rfl))
                          have t11 : (q).toInt ≠ 11 := fun e => e11 (Int32.toInt_inj.mp (by rw [e]; rfl))
                          refine R_tableOut (tgt := 162) dX9_account_1 (by omega) rfl ?_
                          refine R_throw tw_X9_117_119 dX9_account_162 dX9_account_165 dX9_account_166 dX9_account_169 (Nat.le_of_ble_eq_true rfl) (Nat.le_of_ble_eq_true rfl) (Nat.le_of_ble_eq_true rfl) (Nat.le_of_ble_eq_true rfl) ?_
                          rw [if_pos (by rw [Int32.lt_iff_toInt_lt, Int32.lt_iff_toInt_lt, show (0 : Int32).toInt = 0 from rfl, show (12 : Int32).toInt = 12 from rfl]; omega)]
                          exact ⟨rfl, rfl⟩
end P18
