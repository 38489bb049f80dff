theorem nI_12 : ∀ k, k < 12 → nI k = 0 ∨ nI k = 1 ∨ nI k = 2 ∨ nI k = 3 ∨ nI k = 4 ∨ nI k = 5 ∨ nI k = 6 ∨ nI k = 7 ∨ nI k = 8 ∨ nI k = 9 ∨ nI k = 10 ∨ nI k = 11 := by decide +kernel
theorem inB_q {x : Int32} {n : Nat} (hn : n ≤ 60) (h : ¬ zb (inB x 0 (nI n - 1)) = 0) : ∃ k, k < n ∧ x = nI k := by
  have h1 : inB x 0 (nI n - 1) = true := by simpa [zb_n0] using h
  simp only [inB, Bool.and_eq_true, Bool.not_eq_true', decide_eq_false_iff_not] at h1
  have h2 := Int32.not_lt.mp h1.1
  have h3 := Int32.not_lt.mp h1.2
  rw [Int32.le_iff_toInt_le] at h2 h3
  have e0 : (0 : Int32).toInt = 0 := rfl
  have e1 : ∀ m, m < 61 → (nI m - 1).toInt = (m : Int) - 1 := by decide +kernel
  rw [e1 n (by omega)] at h3
  refine ⟨x.toInt.toNat, by omega, ?_⟩
  apply Int32.toInt_inj.mp
  rw [nI_toInt (by omega)]
  omega
section P27
variable {M : MM} {r : MR}
def aBe (M : MM) (n : Nat) (x p : Int32) : Int32 × MM := if zb (inB x 0 (nI n - 1)) = 0 then (0, mst M 464 9 1) else if zb (inB p 0 3) = 0 then (0, mst M 464 9 1) else (if (rBest (mst M 464 9 0) x p n 10).1 < 0 then 0 else (rBest (mst M 464 9 0) x p n 10).1, if (rBest (mst M 464 9 0) x p n 10).1 < 0 then mst (mst M 464 9 0) 464 9 2 else mst (mst M 464 9 0) 464 9 0)
theorem s_X10_bestHook {l : Launch} (hf : l.stackTraces = false) {n : Nat} (hn : n ≤ 12) (hg : M 465 0 = nI n) {x p : Int32} : V_X10_bestHook l [.ref 464, .int x, .int p] (hp M r) (VI (aBe M n x p).1 (hp (aBe M n x p).2 r)) := by
  refine VM.intro (lf := L9 (some (.ref 464)) (some (.int x)) (some (.int p)) none none none none none none) (by decide +kernel) hf (fun _ => (Nat.le_of_ble_eq_true rfl)) (fun _ => rfl) ?_
  refine R_aload_n dX10_bestHook_0 rfl rfl ?_
  refine R_aload_n dX10_bestHook_1 rfl rfl ?_
  refine R_iload_n dX10_bestHook_2 rfl rfl ?_
  refine G_cV1 cw_X10_121 (s_X10_isFish hf hn hg) dX10_bestHook_3 (rcv cok10 (by first | exact rfl | assumption) (Nat.le_of_ble_eq_true rfl)) ⟨(Nat.le_of_ble_eq_true rfl), (Nat.le_of_ble_eq_true rfl), (Nat.le_of_ble_eq_true rfl), (Nat.le_of_ble_eq_true rfl)⟩ ?_
  refine R_if_eq (tgt := 22) dX10_bestHook_6 rfl (fun c1 => ?_) (fun c1 => ?_)
  · refine R_iconst (v := 1) dX10_bestHook_22 (by decide) ?_
    refine G_cV1 cw_X10_156 (s_X10_fails hf) dX10_bestHook_23 (rcv cok10 (by first | exact rfl | assumption) (Nat.le_of_ble_eq_true rfl)) ⟨(Nat.le_of_ble_eq_true rfl), (Nat.le_of_ble_eq_true rfl), (Nat.le_of_ble_eq_true rfl), (Nat.le_of_ble_eq_true rfl)⟩ ?_
    refine R_if_eq_f (tgt := 31) dX10_bestHook_26 rfl (by decide) ?_
    refine R_iconst (v := 0) dX10_bestHook_29 (by decide) ?_
    refine R_iret dX10_bestHook_30 rfl (Nat.le_of_ble_eq_true rfl) (Nat.le_of_ble_eq_true rfl) ?_
    first | rw [aBe, ek, if_pos c1] | rw [aBe, if_pos c1] | rw [aBe]
    first | exact ⟨rfl, rfl⟩ | skip
  · refine R_iload_n dX10_bestHook_9 rfl rfl ?_
    refine R_iconst (v := 0) dX10_bestHook_10 (by decide) ?_
    refine R_iconst (v := 3) dX10_bestHook_11 (by decide) ?_
    refine G_cS3 cw_X10_65 (s_X10_in hf) dX10_bestHook_12 ⟨(Nat.le_of_ble_eq_true rfl), (Nat.le_of_ble_eq_true rfl), (Nat.le_of_ble_eq_true rfl), (Nat.le_of_ble_eq_true rfl)⟩ ?_
    refine R_if_eq (tgt := 22) dX10_bestHook_15 rfl (fun c2 => ?_) (fun c2 => ?_)
    · refine R_iconst (v := 1) dX10_bestHook_22 (by decide) ?_
      refine G_cV1 cw_X10_156 (s_X10_fails hf) dX10_bestHook_23 (rcv cok10 (by first | exact rfl | assumption) (Nat.le_of_ble_eq_true rfl)) ⟨(Nat.le_of_ble_eq_true rfl), (Nat.le_of_ble_eq_true rfl), (Nat.le_of_ble_eq_true rfl), (Nat.le_of_ble_eq_true rfl)⟩ ?_
      refine R_if_eq_f (tgt := 31) dX10_bestHook_26 rfl (by decide) ?_
      refine R_iconst (v := 0) dX10_bestHook_29 (by decide) ?_
      refine R_iret dX10_bestHook_30 rfl (Nat.le_of_ble_eq_true rfl) (Nat.le_of_ble_eq_true rfl) ?_
      first | rw [aBe, ek, if_neg c1, if_pos c2] | rw [aBe, if_neg c1, if_pos c2] | rw [aBe]
      first | exact ⟨rfl, rfl⟩ | skip
    · refine R_iconst (v := 0) dX10_bestHook_18 (by decide) ?_
      refine R_goto (tgt := 23) dX10_bestHook_19 rfl ?_
      refine G_cV1 cw_X10_156 (s_X10_fails hf) dX10_bestHook_23 (rcv cok10 (by first | exact rfl | assumption) (Nat.le_of_ble_eq_true rfl)) ⟨(Nat.le_of_ble_eq_true rfl), (Nat.le_of_ble_eq_true rfl), (Nat.le_of_ble_eq_true rfl), (Nat.le_of_ble_eq_true rfl)⟩ ?_
      refine R_if_eq_t (tgt := 31) dX10_bestHook_26 rfl (by decide) ?_
      refine R_iconst (v := (-1)) dX10_bestHook_31 (by decide) ?_
      refine R_istore_n dX10_bestHook_32 rfl (by decide) (st3 rfl) ?_
      refine R_iconst (v := 0) dX10_bestHook_33 (by decide) ?_
      refine R_istore dX10_bestHook_34 (by decide) (st4 rfl) ?_
      refine R_iconst (v := 0) dX10_bestHook_36 (by decide) ?_
      refine R_istore dX10_bestHook_37 (by decide) (st5 rfl) ?_
      rw [aBe, if_neg c1, if_neg c2]
      have h9 := L_X10_bestHook (M := mst M 464 9 0) (r := r) hf hn hg (x := x) (p := p) rfl 10 0 (by omega)
      exact h9
def aRe (M : MM) (n : Nat) (q : Int32) : Int32 × MM := if zb (inB q 0 2) = 0 then (0, mst M 464 9 1) else if M 464 10 = 0 then (0, mst M 464 9 2) else if q = 0 then (M 464 10, mst M 464 9 0) else if q = 1 then (M 464 11, mst M 464 9 0) else (M 464 12, mst M 464 9 0)
theorem s_X10_reason {l : Launch} (hf : l.stackTraces = false) {n : Nat} {q : Int32} : V_X10_reason l [.ref 464, .int q] (hp M r) (VI (aRe M n q).1 (hp (aRe M n q).2 r)) := by
  refine VM.intro (lf := L9 (some (.ref 464)) (some (.int q)) none none none none none none none) (by decide +kernel) hf (fun _ => (Nat.le_of_ble_eq_true rfl)) (fun _ => rfl) ?_
  refine R_aload_n dX10_reason_0 rfl rfl ?_
  refine R_iload_n dX10_reason_1 rfl rfl ?_
  refine R_iconst (v := 0) dX10_reason_2 (by decide) ?_
  refine R_iconst (v := 2) dX10_reason_3 (by decide) ?_
  refine G_cS3 cw_X10_65 (s_X10_in hf) dX10_reason_4 ⟨(Nat.le_of_ble_eq_true rfl), (Nat.le_of_ble_eq_true rfl), (Nat.le_of_ble_eq_true rfl), (Nat.le_of_ble_eq_true rfl)⟩ ?_
  refine R_if_ne (tgt := 14) dX10_reason_7 rfl (fun c1 => ?_) (fun c1 => ?_)
  · refine R_aload_n dX10_reason_14 rfl rfl ?_
    refine G_get cok10 10 wf_X10_42 dX10_reason_15 (by first | exact rfl | assumption) ⟨(Nat.le_of_ble_eq_true rfl), (Nat.le_of_ble_eq_true rfl)⟩ rfl ?_
    refine R_if_ne (tgt := 25) dX10_reason_18 rfl (fun c2 => ?_) (fun c2 => ?_)
    · refine R_iconst (v := 0) dX10_reason_25 (by decide) ?_
      refine G_cV1 cw_X10_156 (s_X10_fails hf) dX10_reason_26 (rcv cok10 (by first | exact rfl | assumption) (Nat.le_of_ble_eq_true rfl)) ⟨(Nat.le_of_ble_eq_true rfl), (Nat.le_of_ble_eq_true rfl), (Nat.le_of_ble_eq_true rfl), (Nat.le_of_ble_eq_true rfl)⟩ ?_
      refine R_if_eq_t (tgt := 36) dX10_reason_29 rfl (by decide) ?_
      refine R_iload_n dX10_reason_36 rfl rfl ?_
      refine R_if_ne (tgt := 47) dX10_reason_37 rfl (fun c3 => ?_) (fun c3 => ?_)
      · refine R_iload_n dX10_reason_47 rfl rfl ?_
        refine R_iconst (v := 1) dX10_reason_48 (by decide) ?_
        refine R_icmp_ne (tgt := 59) dX10_reason_49 rfl (fun c4 => ?_) (fun c4 => ?_)
        · refine R_aload_n dX10_reason_59 rfl rfl ?_
          refine G_get cok10 12 wf_X10_55 dX10_reason_60 (by first | exact rfl | assumption) ⟨(Nat.le_of_ble_eq_true rfl), (Nat.le_of_ble_eq_true rfl)⟩ rfl ?_
          refine R_iret dX10_reason_63 rfl (Nat.le_of_ble_eq_true rfl) (Nat.le_of_ble_eq_true rfl) ?_
          first | rw [aRe, ek, if_neg c1, if_neg c2, if_neg c3, if_neg c4] | rw [aRe, if_neg c1, if_neg c2, if_neg c3, if_neg c4] | rw [aRe]
          first | exact ⟨rfl, rfl⟩ | skip
        · refine R_aload_n dX10_reason_52 rfl rfl ?_
          refine G_get cok10 11 wf_X10_45 dX10_reason_53 (by first | exact rfl | assumption) ⟨(Nat.le_of_ble_eq_true rfl), (Nat.le_of_ble_eq_true rfl)⟩ rfl ?_
          refine R_goto (tgt := 63) dX10_reason_56 rfl ?_
          refine R_iret dX10_reason_63 rfl (Nat.le_of_ble_eq_true rfl) (Nat.le_of_ble_eq_true rfl) ?_
          first | rw [aRe, ek, if_neg c1, if_neg c2, if_neg c3, if_pos c4] | rw [aRe, if_neg c1, if_neg c2, if_neg c3, if_pos c4] | rw [aRe]
          first | exact ⟨rfl, rfl⟩ | skip
      · refine R_aload_n dX10_reason_40 rfl rfl ?_
        refine G_get cok10 10 wf_X10_42 dX10_reason_41 (by first | exact rfl | assumption) ⟨(Nat.le_of_ble_eq_true rfl), (Nat.le_of_ble_eq_true rfl)⟩ rfl ?_
        refine R_goto (tgt := 63) dX10_reason_44 rfl ?_
        refine R_iret dX10_reason_63 rfl (Nat.le_of_ble_eq_true rfl) (Nat.le_of_ble_eq_true rfl) ?_
        first | rw [aRe, ek, if_neg c1, if_neg c2, if_pos c3] | rw [aRe, if_neg c1, if_neg c2, if_pos c3] | rw [aRe]
        first | exact ⟨rfl, rfl⟩ | skip
    · refine R_iconst (v := 2) dX10_reason_21 (by decide) ?_
      refine R_goto (tgt := 26) dX10_reason_22 rfl ?_
      refine G_cV1 cw_X10_156 (s_X10_fails hf) dX10_reason_26 (rcv cok10 (by first | exact rfl | assumption) (Nat.le_of_ble_eq_true rfl)) ⟨(Nat.le_of_ble_eq_true rfl), (Nat.le_of_ble_eq_true rfl), (Nat.le_of_ble_eq_true rfl), (Nat.le_of_ble_eq_true rfl)⟩ ?_
      refine R_if_eq_f (tgt := 36) dX10_reason_29 rfl (by decide) ?_
      refine R_iconst (v := 0) dX10_reason_32 (by decide) ?_
      refine R_goto (tgt := 63) dX10_reason_33 rfl ?_
      refine R_iret dX10_reason_63 rfl (Nat.le_of_ble_eq_true rfl) (Nat.le_of_ble_eq_true rfl) ?_
      first | rw [aRe, ek, if_neg c1, if_pos c2] | rw [aRe, if_neg c1, if_pos c2] | rw [aRe]
      first | exact ⟨rfl, rfl⟩ | skip
  · refine R_iconst (v := 1) dX10_reason_10 (by decide) ?_
    refine R_goto (tgt := 26) dX10_reason_11 rfl ?_
    refine G_cV1 cw_X10_156 (s_X10_fails hf) dX10_reason_26 (rcv cok10 (by first | exact rfl | assumption) (Nat.le_of_ble_eq_true rfl)) ⟨(Nat.le_of_ble_eq_true rfl), (Nat.le_of_ble_eq_true rfl), (Nat.le_of_ble_eq_true rfl), (Nat.le_of_ble_eq_true rfl)⟩ ?_
    refine R_if_eq_f (tgt := 36) dX10_reason_29 rfl (by decide) ?_
    refine R_iconst (v := 0) dX10_reason_32 (by decide) ?_
    refine R_goto (tgt := 63) dX10_reason_33 rfl ?_
    refine R_iret dX10_reason_63 rfl (Nat.le_of_ble_eq_true rfl) (Nat.le_of_ble_eq_true rfl) ?_
    first | rw [aRe, ek, if_pos c1] | rw [aRe, if_pos c1] | rw [aRe]
    first | exact ⟨rfl, rfl⟩ | skip
theorem s_X10_faultPosition {l : Launch} (hf : l.stackTraces = false)  : V_X10_faultPosition l [.ref 464] (hp M r) (VI (M 464 15) (hp (mst M 464 9 0) r)) := by
  refine VM.intro (lf := L9 (some (.ref 464)) none none none none none none none none) (by decide +kernel) hf (fun _ => (Nat.le_of_ble_eq_true rfl)) (fun _ => rfl) ?_
  refine R_aload_n dX10_faultPosition_0 rfl rfl ?_
  refine R_iconst (v := 0) dX10_faultPosition_1 (by decide) ?_
  refine G_put cok10 9 wf_X10_39 dX10_faultPosition_2 (by first | exact rfl | assumption) rfl ⟨(Nat.le_of_ble_eq_true rfl), rfl, (Nat.le_of_ble_eq_true rfl)⟩ ⟨rfl, rfl⟩ ?_
  refine R_aload_n dX10_faultPosition_5 rfl rfl ?_
  refine G_get cok10 15 wf_X10_28 dX10_faultPosition_6 (by first | exact rfl | assumption) ⟨(Nat.le_of_ble_eq_true rfl), (Nat.le_of_ble_eq_true rfl)⟩ rfl ?_
  refine R_iret dX10_faultPosition_9 rfl (Nat.le_of_ble_eq_true rfl) (Nat.le_of_ble_eq_true rfl) ?_
  exact ⟨rfl, rfl⟩
def aAp (M : MM) (n : Nat) (y : Int32) : Int32 × MM := if M 464 14 = 60 then (0, mst M 464 9 1) else (nI (n + 1), mst (mst (mst M 464 9 0) 470 n y) 464 14 (nI (n + 1)))
theorem s_X10_append {l : Launch} (hf : l.stackTraces = false) {n : Nat} (hL : M 464 14 = nI n) (hL60 : n ≤ 60) {y : Int32} : V_X10_append l [.ref 464, .int y] (hp M r) (VI (aAp M n y).1 (hp (aAp M n y).2 r)) := by
  refine VM.intro (lf := L9 (some (.ref 464)) (some (.int y)) none none none none none none none) (by decide +kernel) hf (fun _ => (Nat.le_of_ble_eq_true rfl)) (fun _ => rfl) ?_
  refine R_aload_n dX10_append_0 rfl rfl ?_
  refine R_aload_n dX10_append_1 rfl rfl ?_
  refine G_get cok10 14 wf_X10_168 dX10_append_2 (by first | exact rfl | assumption) ⟨(Nat.le_of_ble_eq_true rfl), (Nat.le_of_ble_eq_true rfl)⟩ rfl ?_
  refine R_bipush (v := 60) dX10_append_5 (by decide) ?_
  refine R_icmp_ne (tgt := 14) dX10_append_7 rfl (fun c1 => ?_) (fun c1 => ?_)
  · refine R_iconst (v := 0) dX10_append_14 (by decide) ?_
    refine G_cV1 cw_X10_156 (s_X10_fails hf) dX10_append_15 (rcv cok10 (by first | exact rfl | assumption) (Nat.le_of_ble_eq_true rfl)) ⟨(Nat.le_of_ble_eq_true rfl), (Nat.le_of_ble_eq_true rfl), (Nat.le_of_ble_eq_true rfl), (Nat.le_of_ble_eq_true rfl)⟩ ?_
    refine R_if_eq_t (tgt := 23) dX10_append_18 rfl (by decide) ?_
    refine R_aload_n dX10_append_23 rfl rfl ?_
    refine G_get cok10 13 wf_X10_25 dX10_append_24 (by first | exact rfl | assumption) ⟨(Nat.le_of_ble_eq_true rfl), (Nat.le_of_ble_eq_true rfl)⟩ rfl ?_
    refine R_aload_n dX10_append_27 rfl rfl ?_
    refine G_get cok10 14 wf_X10_168 dX10_append_28 (by first | exact rfl | assumption) ⟨(Nat.le_of_ble_eq_true rfl), (Nat.le_of_ble_eq_true rfl)⟩ rfl ?_
    have hn60 : n < 60 := by
      by_cases h : n = 60
      · subst h; exact absurd (show M 464 14 = 60 from hL) c1
      · omega
    rw [show (mst M 464 9 0) 464 14 = nI n from hL]
    refine R_iload_n dX10_append_31 rfl rfl ?_
    refine G_iast dX10_append_32 (by first | exact rfl | assumption) (show vp_in (nI n) 60 from nI_in12 hn60 (by omega)) ?_
    refine R_aload_n dX10_append_33 rfl rfl ?_
    refine R_dup dX10_append_34 rfl ?_
    refine G_get cok10 14 wf_X10_168 dX10_append_35 (by first | exact rfl | assumption) ⟨(Nat.le_of_ble_eq_true rfl), (Nat.le_of_ble_eq_true rfl)⟩ rfl ?_
    refine R_iconst (v := 1) dX10_append_38 (by decide) ?_
    refine R_iadd dX10_append_39 ?_
    refine G_put cok10 14 wf_X10_168 dX10_append_40 (by first | exact rfl | assumption) rfl ⟨(Nat.le_of_ble_eq_true rfl), rfl, (Nat.le_of_ble_eq_true rfl)⟩ ⟨rfl, rfl⟩ ?_
    refine R_aload_n dX10_append_43 rfl rfl ?_
    refine G_get cok10 14 wf_X10_168 dX10_append_44 (by first | exact rfl | assumption) ⟨(Nat.le_of_ble_eq_true rfl), (Nat.le_of_ble_eq_true rfl)⟩ rfl ?_
    refine R_iret dX10_append_47 rfl (Nat.le_of_ble_eq_true rfl) (Nat.le_of_ble_eq_true rfl) ?_
    first | (rw [aAp, if_pos c1]; exact ⟨rfl, rfl⟩) | (rw [aAp, if_neg c1, nI_cl (by omega)]; rw [show mst (mst M 464 9 0) 470 n y 464 14 = nI n from hL, nI_1, mst_eq]; exact ⟨rfl, rfl⟩)
  · refine R_iconst (v := 1) dX10_append_10 (by decide) ?_
    refine R_goto (tgt := 15) dX10_append_11 rfl ?_
    refine G_cV1 cw_X10_156 (s_X10_fails hf) dX10_append_15 (rcv cok10 (by first | exact rfl | assumption) (Nat.le_of_ble_eq_true rfl)) ⟨(Nat.le_of_ble_eq_true rfl), (Nat.le_of_ble_eq_true rfl), (Nat.le_of_ble_eq_true rfl), (Nat.le_of_ble_eq_true rfl)⟩ ?_
    refine R_if_eq_f (tgt := 23) dX10_append_18 rfl (by decide) ?_
    refine R_iconst (v := 0) dX10_append_21 (by decide) ?_
    refine R_iret dX10_append_22 rfl (Nat.le_of_ble_eq_true rfl) (Nat.le_of_ble_eq_true rfl) ?_
    first | (rw [aAp, if_pos c1]; exact ⟨rfl, rfl⟩) | (rw [aAp, if_neg c1, nI_cl (by omega)]; rw [show mst (mst M 464 9 0) 470 n y 464 14 = nI n from hL, nI_1, mst_eq]; exact ⟨rfl, rfl⟩)
theorem s_X10_save {l : Launch} (hf : l.stackTraces = false) {n : Nat} (hg : M 465 0 = nI n) : V_X10_save l [.ref 464] (hp M r) (VI (nI n) (hp (cpR (mst (mst M 464 9 0) 464 5 1) 465 0 467 0 140) r)) := by
  refine VM.intro (lf := L9 (some (.ref 464)) none none none none none none none none) (by decide +kernel) hf (fun _ => (Nat.le_of_ble_eq_true rfl)) (fun _ => rfl) ?_
  refine R_aload_n dX10_save_0 rfl rfl ?_
  refine R_iconst (v := 0) dX10_save_1 (by decide) ?_
  refine G_put cok10 9 wf_X10_39 dX10_save_2 (by first | exact rfl | assumption) rfl ⟨(Nat.le_of_ble_eq_true rfl), rfl, (Nat.le_of_ble_eq_true rfl)⟩ ⟨rfl, rfl⟩ ?_
  refine R_aload_n dX10_save_5 rfl rfl ?_
  refine R_iconst (v := 1) dX10_save_6 (by decide) ?_
  refine G_put cok10 5 wf_X10_250 dX10_save_7 (by first | exact rfl | assumption) rfl ⟨(Nat.le_of_ble_eq_true rfl), rfl, (Nat.le_of_ble_eq_true rfl)⟩ ⟨rfl, rfl⟩ ?_
  refine R_aload_n dX10_save_10 rfl rfl ?_
  refine G_get cok10 0 wf_X10_7 dX10_save_11 (by first | exact rfl | assumption) ⟨(Nat.le_of_ble_eq_true rfl), (Nat.le_of_ble_eq_true rfl)⟩ rfl ?_
  refine R_iconst (v := 0) dX10_save_14 (by decide) ?_
  refine R_aload_n dX10_save_15 rfl rfl ?_
  refine G_get cok10 2 wf_X10_16 dX10_save_16 (by first | exact rfl | assumption) ⟨(Nat.le_of_ble_eq_true rfl), (Nat.le_of_ble_eq_true rfl)⟩ rfl ?_
  refine R_iconst (v := 0) dX10_save_19 (by decide) ?_
  refine G_cS4v cw_X10_61 (s_X10_copies hf (p := 0) (q := 0) rfl rfl (by decide) (by decide) (by decide) (by decide) (by decide)) dX10_save_20 ⟨(Nat.le_of_ble_eq_true rfl), (Nat.le_of_ble_eq_true rfl), (Nat.le_of_ble_eq_true rfl), (Nat.le_of_ble_eq_true rfl)⟩ ?_
  refine R_aload_n dX10_save_23 rfl rfl ?_
  refine G_get cok10 0 wf_X10_7 dX10_save_24 (by first | exact rfl | assumption) ⟨(Nat.le_of_ble_eq_true rfl), (Nat.le_of_ble_eq_true rfl)⟩ rfl ?_
  refine R_iconst (v := 0) dX10_save_27 (by decide) ?_
  refine G_iald dX10_save_28 (by first | exact rfl | assumption) (show vp_in (nI 0) 140 from nI_in12 (by omega) (by omega)) ?_
  refine R_topE (hg : _ = nI n) ?_
  refine R_iret dX10_save_29 rfl (Nat.le_of_ble_eq_true rfl) (Nat.le_of_ble_eq_true rfl) ?_
  exact ⟨rfl, rfl⟩
def aRs (M : MM) (n : Nat) : Int32 × MM := if M 464 5 = 0 then (0, mst M 464 9 1) else (M 467 0, mst (cpR (mst M 464 9 0) 467 0 465 0 140) 464 6 0)
theorem s_X10_restore {l : Launch} (hf : l.stackTraces = false) {n : Nat} : V_X10_restore l [.ref 464] (hp M r) (VI (aRs M n).1 (hp (aRs M n).2 r)) := by
  refine VM.intro (lf := L9 (some (.ref 464)) none none none none none none none none) (by decide +kernel) hf (fun _ => (Nat.le_of_ble_eq_true rfl)) (fun _ => rfl) ?_
  refine R_aload_n dX10_restore_0 rfl rfl ?_
  refine R_aload_n dX10_restore_1 rfl rfl ?_
  refine G_get cok10 5 wf_X10_250 dX10_restore_2 (by first | exact rfl | assumption) ⟨(Nat.le_of_ble_eq_true rfl), (Nat.le_of_ble_eq_true rfl)⟩ rfl ?_
  refine R_if_eq (tgt := 12) dX10_restore_5 rfl (fun c1 => ?_) (fun c1 => ?_)
  · refine R_iconst (v := 1) dX10_restore_12 (by decide) ?_
    refine G_cV1 cw_X10_156 (s_X10_fails hf) dX10_restore_13 (rcv cok10 (by first | exact rfl | assumption) (Nat.le_of_ble_eq_true rfl)) ⟨(Nat.le_of_ble_eq_true rfl), (Nat.le_of_ble_eq_true rfl), (Nat.le_of_ble_eq_true rfl), (Nat.le_of_ble_eq_true rfl)⟩ ?_
    refine R_if_eq_f (tgt := 21) dX10_restore_16 rfl (by decide) ?_
    refine R_iconst (v := 0) dX10_restore_19 (by decide) ?_
    refine R_iret dX10_restore_20 rfl (Nat.le_of_ble_eq_true rfl) (Nat.le_of_ble_eq_true rfl) ?_
    first | rw [aRs, ek, if_pos c1] | rw [aRs, if_pos c1] | rw [aRs]
    first | exact ⟨rfl, rfl⟩ | skip
  · refine R_iconst (v := 0) dX10_restore_8 (by decide) ?_
    refine R_goto (tgt := 13) dX10_restore_9 rfl ?_
    refine G_cV1 cw_X10_156 (s_X10_fails hf) dX10_restore_13 (rcv cok10 (by first | exact rfl | assumption) (Nat.le_of_ble_eq_true rfl)) ⟨(Nat.le_of_ble_eq_true rfl), (Nat.le_of_ble_eq_true rfl), (Nat.le_of_ble_eq_true rfl), (Nat.le_of_ble_eq_true rfl)⟩ ?_
    refine R_if_eq_t (tgt := 21) dX10_restore_16 rfl (by decide) ?_
    refine R_aload_n dX10_restore_21 rfl rfl ?_
    refine G_get cok10 2 wf_X10_16 dX10_restore_22 (by first | exact rfl | assumption) ⟨(Nat.le_of_ble_eq_true rfl), (Nat.le_of_ble_eq_true rfl)⟩ rfl ?_
    refine R_iconst (v := 0) dX10_restore_25 (by decide) ?_
    refine R_aload_n dX10_restore_26 rfl rfl ?_
    refine G_get cok10 0 wf_X10_7 dX10_restore_27 (by first | exact rfl | assumption) ⟨(Nat.le_of_ble_eq_true rfl), (Nat.le_of_ble_eq_true rfl)⟩ rfl ?_
    refine R_iconst (v := 0) dX10_restore_30 (by decide) ?_
    refine G_cS4v cw_X10_61 (s_X10_copies hf (p := 0) (q := 0) rfl rfl (by decide) (by decide) (by decide) (by decide) (by decide)) dX10_restore_31 ⟨(Nat.le_of_ble_eq_true rfl), (Nat.le_of_ble_eq_true rfl), (Nat.le_of_ble_eq_true rfl), (Nat.le_of_ble_eq_true rfl)⟩ ?_
    refine R_aload_n dX10_restore_34 rfl rfl ?_
    refine R_iconst (v := 0) dX10_restore_35 (by decide) ?_
    refine G_put cok10 6 wf_X10_58 dX10_restore_36 (by first | exact rfl | assumption) rfl ⟨(Nat.le_of_ble_eq_true rfl), rfl, (Nat.le_of_ble_eq_true rfl)⟩ ⟨rfl, rfl⟩ ?_
    refine R_aload_n dX10_restore_39 rfl rfl ?_
    refine G_get cok10 0 wf_X10_7 dX10_restore_40 (by first | exact rfl | assumption) ⟨(Nat.le_of_ble_eq_true rfl), (Nat.le_of_ble_eq_true rfl)⟩ rfl ?_
    refine R_iconst (v := 0) dX10_restore_43 (by decide) ?_
    refine G_iald dX10_restore_44 (by first | exact rfl | assumption) (show vp_in (nI 0) 140 from nI_in12 (by omega) (by omega)) ?_
    refine R_iret dX10_restore_45 rfl (Nat.le_of_ble_eq_true rfl) (Nat.le_of_ble_eq_true rfl) ?_
    first | rw [aRs, ek, if_neg c1] | rw [aRs, if_neg c1] | rw [aRs]
    first | exact ⟨rfl, rfl⟩ | skip
def aUn (M : MM) (n : Nat) : Int32 × MM := if M 464 6 = 0 then (0, mst M 464 9 1) else (nI (n - 1), cpR (mst (mst M 464 9 0) 464 6 (nI (n - 1))) 466 (140 * (n - 1)) 465 0 140)
theorem s_X10_undo {l : Launch} (hf : l.stackTraces = false) {n : Nat} (h6 : M 464 6 = nI n) (hn : n ≤ 8) : V_X10_undo l [.ref 464] (hp M r) (VI (aUn M n).1 (hp (aUn M n).2 r)) := by
  refine VM.intro (lf := L9 (some (.ref 464)) none none none none none none none none) (by decide +kernel) hf (fun _ => (Nat.le_of_ble_eq_true rfl)) (fun _ => rfl) ?_
  refine R_aload_n dX10_undo_0 rfl rfl ?_
  refine R_aload_n dX10_undo_1 rfl rfl ?_
  refine G_get cok10 6 wf_X10_58 dX10_undo_2 (by first | exact rfl | assumption) ⟨(Nat.le_of_ble_eq_true rfl), (Nat.le_of_ble_eq_true rfl)⟩ rfl ?_
  refine R_if_ne (tgt := 12) dX10_undo_5 rfl (fun c1 => ?_) (fun c1 => ?_)
  · refine R_iconst (v := 0) dX10_undo_12 (by decide) ?_
    refine G_cV1 cw_X10_156 (s_X10_fails hf) dX10_undo_13 (rcv cok10 (by first | exact rfl | assumption) (Nat.le_of_ble_eq_true rfl)) ⟨(Nat.le_of_ble_eq_true rfl), (Nat.le_of_ble_eq_true rfl), (Nat.le_of_ble_eq_true rfl), (Nat.le_of_ble_eq_true rfl)⟩ ?_
    refine R_if_eq_t (tgt := 21) dX10_undo_16 rfl (by decide) ?_
    refine R_aload_n dX10_undo_21 rfl rfl ?_
    refine R_dup dX10_undo_22 rfl ?_
    refine G_get cok10 6 wf_X10_58 dX10_undo_23 (by first | exact rfl | assumption) ⟨(Nat.le_of_ble_eq_true rfl), (Nat.le_of_ble_eq_true rfl)⟩ rfl ?_
    have hn0 : 0 < n := by
      by_cases h : n = 0
      · subst h; exact absurd (show M 464 6 = 0 from h6) c1
      · omega
    refine R_topE (h6 : _ = nI n) ?_
    refine R_iconst (v := 1) dX10_undo_26 (by decide) ?_
    refine R_isub dX10_undo_27 ?_
    refine R_topE (nI_sub1 hn0) ?_
    refine G_put cok10 6 wf_X10_58 dX10_undo_28 (by first | exact rfl | assumption) rfl ⟨(Nat.le_of_ble_eq_true rfl), rfl, (Nat.le_of_ble_eq_true rfl)⟩ ⟨rfl, rfl⟩ ?_
    refine R_aload_n dX10_undo_31 rfl rfl ?_
    refine G_get cok10 1 wf_X10_13 dX10_undo_32 (by first | exact rfl | assumption) ⟨(Nat.le_of_ble_eq_true rfl), (Nat.le_of_ble_eq_true rfl)⟩ rfl ?_
    refine R_sipush (v := 140) dX10_undo_35 (by decide) ?_
    refine R_aload_n dX10_undo_38 rfl rfl ?_
    refine G_get cok10 6 wf_X10_58 dX10_undo_39 (by first | exact rfl | assumption) ⟨(Nat.le_of_ble_eq_true rfl), (Nat.le_of_ble_eq_true rfl)⟩ rfl ?_
    refine R_topE (mst_eq _ _ _ _ : _ = nI (n - 1)) ?_
    refine R_imul dX10_undo_42 ?_
    refine R_topE (show 140 * nI (n - 1) = nI (140 * (n - 1)) from nI_mul2 140 _) ?_
    refine R_aload_n dX10_undo_43 rfl rfl ?_
    refine G_get cok10 0 wf_X10_7 dX10_undo_44 (by first | exact rfl | assumption) ⟨(Nat.le_of_ble_eq_true rfl), (Nat.le_of_ble_eq_true rfl)⟩ rfl ?_
    refine R_iconst (v := 0) dX10_undo_47 (by decide) ?_
    refine G_cS4v cw_X10_61 (s_X10_copies hf (p := 140 * (n - 1)) (q := 0) rfl rfl (by decide) (by show 140 * (n - 1) + 140 ≤ 1120; omega) (by decide) (by decide) (by decide)) dX10_undo_48 ⟨(Nat.le_of_ble_eq_true rfl), (Nat.le_of_ble_eq_true rfl), (Nat.le_of_ble_eq_true rfl), (Nat.le_of_ble_eq_true rfl)⟩ ?_
    refine R_aload_n dX10_undo_51 rfl rfl ?_
    refine G_get cok10 6 wf_X10_58 dX10_undo_52 (by first | exact rfl | assumption) ⟨(Nat.le_of_ble_eq_true rfl), (Nat.le_of_ble_eq_true rfl)⟩ rfl ?_
    refine R_iret dX10_undo_55 rfl (Nat.le_of_ble_eq_true rfl) (Nat.le_of_ble_eq_true rfl) ?_
    first | rw [aUn, ek, if_neg c1] | rw [aUn, if_neg c1] | rw [aUn]
    first | exact ⟨rfl, rfl⟩ | skip
  · refine R_iconst (v := 1) dX10_undo_8 (by decide) ?_
    refine R_goto (tgt := 13) dX10_undo_9 rfl ?_
    refine G_cV1 cw_X10_156 (s_X10_fails hf) dX10_undo_13 (rcv cok10 (by first | exact rfl | assumption) (Nat.le_of_ble_eq_true rfl)) ⟨(Nat.le_of_ble_eq_true rfl), (Nat.le_of_ble_eq_true rfl), (Nat.le_of_ble_eq_true rfl), (Nat.le_of_ble_eq_true rfl)⟩ ?_
    refine R_if_eq_f (tgt := 21) dX10_undo_16 rfl (by decide) ?_
    refine R_iconst (v := 0) dX10_undo_19 (by decide) ?_
    refine R_iret dX10_undo_20 rfl (Nat.le_of_ble_eq_true rfl) (Nat.le_of_ble_eq_true rfl) ?_
    first | rw [aUn, ek, if_pos c1] | rw [aUn, if_pos c1] | rw [aUn]
    first | exact ⟨rfl, rfl⟩ | skip
def aCh (M : MM) (n : Nat) (q : Int32) : Int32 × MM := if zb (inB q 0 (nI n - 1)) = 0 then (32, mst M 464 9 1) else (M 471 q.toNatClampNeg, mst M 464 9 0)
theorem s_X10_character {l : Launch} (hf : l.stackTraces = false) {n : Nat} (hs : M 464 17 = nI n) (hn : n ≤ 30) (hC : ∀ k, isC (M 471 k)) {q : Int32} : V_X10_character l [.ref 464, .int q] (hp M r) (VI (aCh M n q).1 (hp (aCh M n q).2 r)) := by
  refine VM.intro (lf := L9 (some (.ref 464)) (some (.int q)) none none none none none none none) (by decide +kernel) hf (fun _ => (Nat.le_of_ble_eq_true rfl)) (fun _ => rfl) ?_
  refine R_aload_n dX10_character_0 rfl rfl ?_
  refine R_iload_n dX10_character_1 rfl rfl ?_
  refine R_iconst (v := 0) dX10_character_2 (by decide) ?_
  refine R_aload_n dX10_character_3 rfl rfl ?_
  refine G_get cok10 17 wf_X10_235 dX10_character_4 (by first | exact rfl | assumption) ⟨(Nat.le_of_ble_eq_true rfl), (Nat.le_of_ble_eq_true rfl)⟩ rfl ?_
  refine R_topE (hs : _ = nI n) ?_
  refine R_iconst (v := 1) dX10_character_7 (by decide) ?_
  refine R_isub dX10_character_8 ?_
  refine G_cS3 cw_X10_65 (s_X10_in hf) dX10_character_9 ⟨(Nat.le_of_ble_eq_true rfl), (Nat.le_of_ble_eq_true rfl), (Nat.le_of_ble_eq_true rfl), (Nat.le_of_ble_eq_true rfl)⟩ ?_
  refine R_if_eq (tgt := 19) dX10_character_12 rfl (fun c1 => ?_) (fun c1 => ?_)
  · refine R_iconst (v := 1) dX10_character_19 (by decide) ?_
    refine G_cV1 cw_X10_156 (s_X10_fails hf) dX10_character_20 (rcv cok10 (by first | exact rfl | assumption) (Nat.le_of_ble_eq_true rfl)) ⟨(Nat.le_of_ble_eq_true rfl), (Nat.le_of_ble_eq_true rfl), (Nat.le_of_ble_eq_true rfl), (Nat.le_of_ble_eq_true rfl)⟩ ?_
    refine R_if_eq_f (tgt := 31) dX10_character_23 rfl (by decide) ?_
    refine R_bipush (v := 32) dX10_character_26 (by decide) ?_
    refine R_goto (tgt := 37) dX10_character_28 rfl ?_
    refine R_iret dX10_character_37 (by first | rfl | exact hC _) (Nat.le_of_ble_eq_true rfl) (Nat.le_of_ble_eq_true rfl) ?_
    first | rw [aCh, ek, if_pos c1] | rw [aCh, if_pos c1] | rw [aCh]
    first | exact ⟨rfl, rfl⟩ | skip
  · refine R_iconst (v := 0) dX10_character_15 (by decide) ?_
    refine R_goto (tgt := 20) dX10_character_16 rfl ?_
    refine G_cV1 cw_X10_156 (s_X10_fails hf) dX10_character_20 (rcv cok10 (by first | exact rfl | assumption) (Nat.le_of_ble_eq_true rfl)) ⟨(Nat.le_of_ble_eq_true rfl), (Nat.le_of_ble_eq_true rfl), (Nat.le_of_ble_eq_true rfl), (Nat.le_of_ble_eq_true rfl)⟩ ?_
    refine R_if_eq_t (tgt := 31) dX10_character_23 rfl (by decide) ?_
    refine R_aload_n dX10_character_31 rfl rfl ?_
    refine G_get cok10 16 wf_X10_32 dX10_character_32 (by first | exact rfl | assumption) ⟨(Nat.le_of_ble_eq_true rfl), (Nat.le_of_ble_eq_true rfl)⟩ rfl ?_
    refine R_iload_n dX10_character_35 rfl rfl ?_
    obtain ⟨k, hk, rfl⟩ := inB_q (n := n) (x := q) (by omega) c1
    refine G_cald dX10_character_36 (by first | exact rfl | assumption) (show vp_in (nI k) 30 from nI_in12 (by omega) (by omega)) ?_
    refine R_iret dX10_character_37 (by first | rfl | exact hC _) (Nat.le_of_ble_eq_true rfl) (Nat.le_of_ble_eq_true rfl) ?_
    first | rw [aCh, ek, if_neg c1] | rw [aCh, if_neg c1] | rw [aCh]
    first | exact ⟨rfl, rfl⟩ | skip
def aAc (M : MM) (n : Nat) (q : Int32) : Int32 × MM := if zb (inB q 0 11) = 0 then (0, mst M 464 9 1) else if q = 0 then (nI n, mst M 464 9 0) else if q = 1 then (rMany (mst M 464 9 0) 1 n, mst M 464 9 0) else if q = 2 then (rMany (mst M 464 9 0) 2 n, mst M 464 9 0) else if q = 3 then (M 465 1, mst M 464 9 0) else if q = 4 then (M 465 2, mst M 464 9 0) else if q = 10 then (M 464 6, mst M 464 9 0) else if q = 11 then (M 464 14, mst M 464 9 0) else (M 465 (3 + q - 5).toNatClampNeg, mst M 464 9 0)
theorem s_X10_account {l : Launch} (hf : l.stackTraces = false) {n : Nat} (hn : n ≤ 12) (hg : M 465 0 = nI n) {q : Int32} : V_X10_account l [.ref 464, .int q] (hp M r) (VI (aAc M n q).1 (hp (aAc M n q).2 r)) := by
  refine VM.intro (lf := L9 (some (.ref 464)) (some (.int q)) none none none none none none none) (by decide +kernel) hf (fun _ => (Nat.le_of_ble_eq_true rfl)) (fun _ => rfl) ?_
  refine R_aload_n dX10_account_0 rfl rfl ?_
  refine R_iload_n dX10_account_1 rfl rfl ?_
  refine R_iconst (v := 0) dX10_account_2 (by decide) ?_
  refine R_bipush (v := 11) dX10_account_3 (by decide) ?_
  refine G_cS3 cw_X10_65 (s_X10_in hf) dX10_account_5 ⟨(Nat.le_of_ble_eq_true rfl), (Nat.le_of_ble_eq_true rfl), (Nat.le_of_ble_eq_true rfl), (Nat.le_of_ble_eq_true rfl)⟩ ?_
  refine R_if_eq (tgt := 15) dX10_account_8 rfl (fun c1 => ?_) (fun c1 => ?_)
  · refine R_iconst (v := 1) dX10_account_15 (by decide) ?_
    refine G_cV1 cw_X10_156 (s_X10_fails hf) dX10_account_16 (rcv cok10 (by first | exact rfl | assumption) (Nat.le_of_ble_eq_true rfl)) ⟨(Nat.le_of_ble_eq_true rfl), (Nat.le_of_ble_eq_true rfl), (Nat.le_of_ble_eq_true rfl), (Nat.le_of_ble_eq_true rfl)⟩ ?_
    refine R_if_eq_f (tgt := 24) dX10_account_19 rfl (by decide) ?_
    refine R_iconst (v := 0) dX10_account_22 (by decide) ?_
    refine R_iret dX10_account_23 rfl (Nat.le_of_ble_eq_true rfl) (Nat.le_of_ble_eq_true rfl) ?_
    refine ⟨?_, congrArg (fun z => hp z r) ?_⟩
    all_goals (unfold aAc; try rw [← ej9]); all_goals (simp only [*]; rfl)
  · refine R_iconst (v := 0) dX10_account_11 (by decide) ?_
    refine R_goto (tgt := 16) dX10_account_12 rfl ?_
    refine G_cV1 cw_X10_156 (s_X10_fails hf) dX10_account_16 (rcv cok10 (by first | exact rfl | assumption) (Nat.le_of_ble_eq_true rfl)) ⟨(Nat.le_of_ble_eq_true rfl), (Nat.le_of_ble_eq_true rfl), (Nat.le_of_ble_eq_true rfl), (Nat.le_of_ble_eq_true rfl)⟩ ?_
    refine R_if_eq_t (tgt := 24) dX10_account_19 rfl (by decide) ?_
    refine R_iload_n dX10_account_24 rfl rfl ?_
    by_cases e0 : q = 0
    · refine R_topE e0 ?_
      refine R_tableIn (tgt := 88) dX10_account_25 (by decide) (by decide) rfl rfl ?_
      refine R_aload_n dX10_account_88 rfl rfl ?_
      refine G_get cok10 0 wf_X10_7 dX10_account_89 (by first | exact rfl | assumption) ⟨(Nat.le_of_ble_eq_true rfl), (Nat.le_of_ble_eq_true rfl)⟩ rfl ?_
      refine R_iconst (v := 0) dX10_account_92 (by decide) ?_
      refine G_iald dX10_account_93 (by first | exact rfl | assumption) (show vp_in (nI 0) 140 from nI_in12 (by omega) (by omega)) ?_
      refine R_topE (hg : _ = nI n) ?_
      refine R_iret dX10_account_94 rfl (Nat.le_of_ble_eq_true rfl) (Nat.le_of_ble_eq_true rfl) ?_
      refine ⟨?_, congrArg (fun z => hp z r) ?_⟩
      all_goals (unfold aAc; try rw [← ej9]); all_goals (simp only [*]; rfl)
    · by_cases e1 : q = 1
      · refine R_topE e1 ?_
        refine R_tableIn (tgt := 95) dX10_account_25 (by decide) (by decide) rfl rfl ?_
        refine R_aload_n dX10_account_95 rfl rfl ?_
        refine R_iconst (v := 1) dX10_account_96 (by decide) ?_
        refine G_cV1 cw_X10_124 (s_X10_many (M := mst M 464 9 0) hf hn hg) dX10_account_97 (rcv cok10 (by first | exact rfl | assumption) (Nat.le_of_ble_eq_true rfl)) ⟨(Nat.le_of_ble_eq_true rfl), (Nat.le_of_ble_eq_true rfl), (Nat.le_of_ble_eq_true rfl), (Nat.le_of_ble_eq_true rfl)⟩ ?_
        refine R_iret dX10_account_100 rfl (Nat.le_of_ble_eq_true rfl) (Nat.le_of_ble_eq_true rfl) ?_
        refine ⟨?_, congrArg (fun z => hp z r) ?_⟩
        all_goals (unfold aAc; try rw [← ej9]); all_goals (simp only [*]; rfl)
      · by_cases e2 : q = 2
        · refine R_topE e2 ?_
          refine R_tableIn (tgt := 101) dX10_account_25 (by decide) (by decide) rfl rfl ?_
          refine R_aload_n dX10_account_101 rfl rfl ?_
          refine R_iconst (v := 2) dX10_account_102 (by decide) ?_
          refine G_cV1 cw_X10_124 (s_X10_many (M := mst M 464 9 0) hf hn hg) dX10_account_103 (rcv cok10 (by first | exact rfl | assumption) (Nat.le_of_ble_eq_true rfl)) ⟨(Nat.le_of_ble_eq_true rfl), (Nat.le_of_ble_eq_true rfl), (Nat.le_of_ble_eq_true rfl), (Nat.le_of_ble_eq_true rfl)⟩ ?_
          refine R_iret dX10_account_106 rfl (Nat.le_of_ble_eq_true rfl) (Nat.le_of_ble_eq_true rfl) ?_
          refine ⟨?_, congrArg (fun z => hp z r) ?_⟩
          all_goals (unfold aAc; try rw [← ej9]); all_goals (simp only [*]; rfl)
        · by_cases e3 : q = 3
          · refine R_topE e3 ?_
            refine R_tableIn (tgt := 107) dX10_account_25 (by decide) (by decide) rfl rfl ?_
            refine R_aload_n dX10_account_107 rfl rfl ?_
            refine G_get cok10 0 wf_X10_7 dX10_account_108 (by first | exact rfl | assumption) ⟨(Nat.le_of_ble_eq_true rfl), (Nat.le_of_ble_eq_true rfl)⟩ rfl ?_
            refine R_iconst (v := 1) dX10_account_111 (by decide) ?_
            refine G_iald dX10_account_112 (by first | exact rfl | assumption) (show vp_in (nI 1) 140 from nI_in12 (by omega) (by omega)) ?_
            refine R_topE (show _ = M 465 1 from rfl) ?_
            refine R_iret dX10_account_113 rfl (Nat.le_of_ble_eq_true rfl) (Nat.le_of_ble_eq_true rfl) ?_
            refine ⟨?_, congrArg (fun z => hp z r) ?_⟩
            all_goals (unfold aAc; try rw [← ej9]); all_goals (simp only [*]; rfl)
          · by_cases e4 : q = 4
            · refine R_topE e4 ?_
              refine R_tableIn (tgt := 114) dX10_account_25 (by decide) (by decide) rfl rfl ?_
              refine R_aload_n dX10_account_114 rfl rfl ?_
              refine G_get cok10 0 wf_X10_7 dX10_account_115 (by first | exact rfl | assumption) ⟨(Nat.le_of_ble_eq_true rfl), (Nat.le_of_ble_eq_true rfl)⟩ rfl ?_
              refine R_iconst (v := 2) dX10_account_118 (by decide) ?_
              refine G_iald dX10_account_119 (by first | exact rfl | assumption) (show vp_in (nI 2) 140 from nI_in12 (by omega) (by omega)) ?_
              refine R_topE (show _ = M 465 2 from rfl) ?_
              refine R_iret dX10_account_120 rfl (Nat.le_of_ble_eq_true rfl) (Nat.le_of_ble_eq_true rfl) ?_
              refine ⟨?_, congrArg (fun z => hp z r) ?_⟩
              all_goals (unfold aAc; try rw [← ej9]); all_goals (simp only [*]; rfl)
            · by_cases e5 : q = 5
              · refine R_topE e5 ?_
                refine R_tableIn (tgt := 131) dX10_account_25 (by decide) (by decide) rfl rfl ?_
                refine R_aload_n dX10_account_131 rfl rfl ?_
                refine G_get cok10 0 wf_X10_7 dX10_account_132 (by first | exact rfl | assumption) ⟨(Nat.le_of_ble_eq_true rfl), (Nat.le_of_ble_eq_true rfl)⟩ rfl ?_
                refine R_iconst (v := 3) dX10_account_135 (by decide) ?_
                refine R_iload_n dX10_account_136 rfl rfl ?_
                refine R_iadd dX10_account_137 ?_
                refine R_iconst (v := 5) dX10_account_138 (by decide) ?_
                refine R_isub dX10_account_139 ?_
                obtain ⟨j9, hj9, ej9⟩ : ∃ j, j < 8 ∧ (3 : Int32) + q - 5 = nI j := by
                  first | exact ⟨3, by omega, by rw [e5]; decide⟩ | exact ⟨4, by omega, by rw [e6]; decide⟩ | exact ⟨5, by omega, by rw [e7]; decide⟩ | exact ⟨6, by omega, by rw [e8]; decide⟩ | exact ⟨7, by omega, by rw [e9]; decide⟩ | (exfalso; obtain ⟨k, hk, rfl⟩ := inB_8 (b := 11) (by omega) c1; rcases nI_12 k hk with h | h | h | h | h | h | h | h | h | h | h | h <;> contradiction)
                rw [ej9]
                refine G_iald dX10_account_140 (by first | exact rfl | assumption) (show vp_in (nI j9) 140 from nI_in12 (by omega) (by omega)) ?_
                refine R_iret dX10_account_141 rfl (Nat.le_of_ble_eq_true rfl) (Nat.le_of_ble_eq_true rfl) ?_
                refine ⟨?_, congrArg (fun z => hp z r) ?_⟩
                all_goals (unfold aAc; try rw [← ej9]); all_goals (simp only [*]; rfl)
              · by_cases e6 : q = 6
                · refine R_topE e6 ?_
                  refine R_tableIn (tgt := 131) dX10_account_25 (by decide) (by decide) rfl rfl ?_
                  refine R_aload_n dX10_account_131 rfl rfl ?_
                  refine G_get cok10 0 wf_X10_7 dX10_account_132 (by first | exact rfl | assumption) ⟨(Nat.le_of_ble_eq_true rfl), (Nat.le_of_ble_eq_true rfl)⟩ rfl ?_
                  refine R_iconst (v := 3) dX10_account_135 (by decide) ?_
                  refine R_iload_n dX10_account_136 rfl rfl ?_
                  refine R_iadd dX10_account_137 ?_
                  refine R_iconst (v := 5) dX10_account_138 (by decide) ?_
                  refine R_isub dX10_account_139 ?_
                  obtain ⟨j9, hj9, ej9⟩ : ∃ j, j < 8 ∧ (3 : Int32) + q - 5 = nI j := by
                    first | exact ⟨3, by omega, by rw [e5]; decide⟩ | exact ⟨4, by omega, by rw [e6]; decide⟩ | exact ⟨5, by omega, by rw [e7]; decide⟩ | exact ⟨6, by omega, by rw [e8]; decide⟩ | exact ⟨7, by omega, by rw [e9]; decide⟩ | (exfalso; obtain ⟨k, hk, rfl⟩ := inB_8 (b := 11) (by omega) c1; rcases nI_12 k hk with h | h | h | h | h | h | h | h | h | h | h | h <;> contradiction)
                  rw [ej9]
                  refine G_iald dX10_account_140 (by first | exact rfl | assumption) (show vp_in (nI j9) 140 from nI_in12 (by omega) (by omega)) ?_
                  refine R_iret dX10_account_141 rfl (Nat.le_of_ble_eq_true rfl) (Nat.le_of_ble_eq_true rfl) ?_
                  refine ⟨?_, congrArg (fun z => hp z r) ?_⟩
                  all_goals (unfold aAc; try rw [← ej9]); all_goals (simp only [*]; rfl)
                · by_cases e7 : q = 7
                  · refine R_topE e7 ?_
                    refine R_tableIn (tgt := 131) dX10_account_25 (by decide) (by decide) rfl rfl ?_
                    refine R_aload_n dX10_account_131 rfl rfl ?_
                    refine G_get cok10 0 wf_X10_7 dX10_account_132 (by first | exact rfl | assumption) ⟨(Nat.le_of_ble_eq_true rfl), (Nat.le_of_ble_eq_true rfl)⟩ rfl ?_
                    refine R_iconst (v := 3) dX10_account_135 (by decide) ?_
                    refine R_iload_n dX10_account_136 rfl rfl ?_
                    refine R_iadd dX10_account_137 ?_
                    refine R_iconst (v := 5) dX10_account_138 (by decide) ?_
                    refine R_isub dX10_account_139 ?_
                    obtain ⟨j9, hj9, ej9⟩ : ∃ j, j < 8 ∧ (3 : Int32) + q - 5 = nI j := by
                      first | exact ⟨3, by omega, by rw [e5]; decide⟩ | exact ⟨4, by omega, by rw [e6]; decide⟩ | exact ⟨5, by omega, by rw [e7]; decide⟩ | exact ⟨6, by omega, by rw [e8]; decide⟩ | exact ⟨7, by omega, by rw [e9]; decide⟩ | (exfalso; obtain ⟨k, hk, rfl⟩ := inB_8 (b := 11) (by omega) c1; rcases nI_12 k hk with h | h | h | h | h | h | h | h | h | h | h | h <;> contradiction)
                    rw [ej9]
                    refine G_iald dX10_account_140 (by first | exact rfl | assumption) (show vp_in (nI j9) 140 from nI_in12 (by omega) (by omega)) ?_
                    refine R_iret dX10_account_141 rfl (Nat.le_of_ble_eq_true rfl) (Nat.le_of_ble_eq_true rfl) ?_
                    refine ⟨?_, congrArg (fun z => hp z r) ?_⟩
                    all_goals (unfold aAc; try rw [← ej9]); all_goals (simp only [*]; rfl)
                  · by_cases e8 : q = 8
                    · refine R_topE e8 ?_
                      refine R_tableIn (tgt := 131) dX10_account_25 (by decide) (by decide) rfl rfl ?_
                      refine R_aload_n dX10_account_131 rfl rfl ?_
                      refine G_get cok10 0 wf_X10_7 dX10_account_132 (by first | exact rfl | assumption) ⟨(Nat.le_of_ble_eq_true rfl), (Nat.le_of_ble_eq_true rfl)⟩ rfl ?_
                      refine R_iconst (v := 3) dX10_account_135 (by decide) ?_
                      refine R_iload_n dX10_account_136 rfl rfl ?_
                      refine R_iadd dX10_account_137 ?_
                      refine R_iconst (v := 5) dX10_account_138 (by decide) ?_
                      refine R_isub dX10_account_139 ?_
                      obtain ⟨j9, hj9, ej9⟩ : ∃ j, j < 8 ∧ (3 : Int32) + q - 5 = nI j := by
                        first | exact ⟨3, by omega, by rw [e5]; decide⟩ | exact ⟨4, by omega, by rw [e6]; decide⟩ | exact ⟨5, by omega, by rw [e7]; decide⟩ | exact ⟨6, by omega, by rw [e8]; decide⟩ | exact ⟨7, by omega, by rw [e9]; decide⟩ | (exfalso; obtain ⟨k, hk, rfl⟩ := inB_8 (b := 11) (by omega) c1; rcases nI_12 k hk with h | h | h | h | h | h | h | h | h | h | h | h <;> contradiction)
                      rw [ej9]
                      refine G_iald dX10_account_140 (by first | exact rfl | assumption) (show vp_in (nI j9) 140 from nI_in12 (by omega) (by omega)) ?_
                      refine R_iret dX10_account_141 rfl (Nat.le_of_ble_eq_true rfl) (Nat.le_of_ble_eq_true rfl) ?_
                      refine ⟨?_, congrArg (fun z => hp z r) ?_⟩
                      all_goals (unfold aAc; try rw [← ej9]); all_goals (simp only [*]; rfl)
                    · by_cases e9 : q = 9
                      · refine R_topE e9 ?_
                        refine R_tableIn (tgt := 131) dX10_account_25 (by decide) (by decide) rfl rfl ?_
                        refine R_aload_n dX10_account_131 rfl rfl ?_
                        refine G_get cok10 0 wf_X10_7 dX10_account_132 (by first | exact rfl | assumption) ⟨(Nat.le_of_ble_eq_true rfl), (Nat.le_of_ble_eq_true rfl)⟩ rfl ?_
                        refine R_iconst (v := 3) dX10_account_135 (by decide) ?_
                        refine R_iload_n dX10_account_136 rfl rfl ?_
                        refine R_iadd dX10_account_137 ?_
                        refine R_iconst (v := 5) dX10_account_138 (by decide) ?_
                        refine R_isub dX10_account_139 ?_
                        obtain ⟨j9, hj9, ej9⟩ : ∃ j, j < 8 ∧ (3 : Int32) + q - 5 = nI j := by
                          first | exact ⟨3, by omega, by rw [e5]; decide⟩ | exact ⟨4, by omega, by rw [e6]; decide⟩ | exact ⟨5, by omega, by rw [e7]; decide⟩ | exact ⟨6, by omega, by rw [e8]; decide⟩ | exact ⟨7, by omega, by rw [e9]; decide⟩ | (exfalso; obtain ⟨k, hk, rfl⟩ := inB_8 (b := 11) (by omega) c1; rcases nI_12 k hk with h | h | h | h | h | h | h | h | h | h | h | h <;> contradiction)
                        rw [ej9]
                        refine G_iald dX10_account_140 (by first | exact rfl | assumption) (show vp_in (nI j9) 140 from nI_in12 (by omega) (by omega)) ?_
                        refine R_iret dX10_account_141 rfl (Nat.le_of_ble_eq_true rfl) (Nat.le_of_ble_eq_true rfl) ?_
                        refine ⟨?_, congrArg (fun z => hp z r) ?_⟩
                        all_goals (unfold aAc; try rw [← ej9]); all_goals (simp only [*]; rfl)
                      · by_cases e10 : q = 10
                        · refine R_topE e10 ?_
                          refine R_tableIn (tgt := 121) dX10_account_25 (by decide) (by decide) rfl rfl ?_
                          refine R_aload_n dX10_account_121 rfl rfl ?_
                          refine G_get cok10 6 wf_X10_58 dX10_account_122 (by first | exact rfl | assumption) ⟨(Nat.le_of_ble_eq_true rfl), (Nat.le_of_ble_eq_true rfl)⟩ rfl ?_
                          refine R_iret dX10_account_125 rfl (Nat.le_of_ble_eq_true rfl) (Nat.le_of_ble_eq_true rfl) ?_
                          refine ⟨?_, congrArg (fun z => hp z r) ?_⟩
                          all_goals (unfold aAc; try rw [← ej9]); all_goals (simp only [*]; rfl)
                        · by_cases e11 : q = 11
                          · refine R_topE e11 ?_
                            refine R_tableIn (tgt := 126) dX10_account_25 (by decide) (by decide) rfl rfl ?_
                            refine R_aload_n dX10_account_126 rfl rfl ?_
                            refine G_get cok10 14 wf_X10_168 dX10_account_127 (by first | exact rfl | assumption) ⟨(Nat.le_of_ble_eq_true rfl), (Nat.le_of_ble_eq_true rfl)⟩ rfl ?_
                            refine R_iret dX10_account_130 rfl (Nat.le_of_ble_eq_true rfl) (Nat.le_of_ble_eq_true rfl) ?_
                            refine ⟨?_, congrArg (fun z => hp z r) ?_⟩
                            all_goals (unfold aAc; try rw [← ej9]); all_goals (simp only [*]; rfl)
                          · have t0 : (q).toInt ≠ 0 := fun e => e0 (Int32.toInt_inj.mp (by rw [e]; rfl))
                            have t1 : (q).toInt ≠ 1 := fun e => e1 (Int32.toInt_inj.mp (by rw [e]; rfl))
                            have t2 : (q).toInt ≠ 2 := fun e => e2 (Int32.toInt_inj.mp (by rw [e]; rfl))
                            have t3 : (q).toInt ≠ 3 := fun e => e3 (Int32.toInt_inj.mp (by rw [e]; rfl))
                            have t4 : (q).toInt ≠ 4 := fun e => e4 (Int32.toInt_inj.mp (by rw [e]; rfl))
                            have t5 : (q).toInt ≠ 5 := fun e => e5 (Int32.toInt_inj.mp (by rw [e]; rfl))
                            have t6 : (q).toInt ≠ 6 := fun e => e6 (Int32.toInt_inj.mp (by rw [e]; rfl))
                            have t7 : (q).toInt ≠ 7 := fun e => e7 (Int32.toInt_inj.mp (by rw [e]; rfl))
                            have t8 : (q).toInt ≠ 8 := fun e => e8 (Int32.toInt_inj.mp (by rw [e]; rfl))
                            have t9 : (q).toInt ≠ 9 := fun e => e9 (Int32.toInt_inj.mp (by rw [e]; rfl))
                            have t10 : (q).toInt ≠ 10 := fun e => e10 (Int32.toInt_inj.mp (by rw [e]; rfl))
                            have t11 : (q).toInt ≠ 11 := fun e => e11 (Int32.toInt_inj.mp (by rw [e]; rfl))
                            refine R_tableOut (tgt := 131) dX10_account_25 (by omega) rfl ?_
                            refine R_aload_n dX10_account_131 rfl rfl ?_
                            refine G_get cok10 0 wf_X10_7 dX10_account_132 (by first | exact rfl | assumption) ⟨(Nat.le_of_ble_eq_true rfl), (Nat.le_of_ble_eq_true rfl)⟩ rfl ?_
                            refine R_iconst (v := 3) dX10_account_135 (by decide) ?_
                            refine R_iload_n dX10_account_136 rfl rfl ?_
                            refine R_iadd dX10_account_137 ?_
                            refine R_iconst (v := 5) dX10_account_138 (by decide) ?_
                            refine R_isub dX10_account_139 ?_
                            obtain ⟨j9, hj9, ej9⟩ : ∃ j, j < 8 ∧ (3 : Int32) + q - 5 = nI j := by
                              first | exact ⟨3, by omega, by rw [e5]; decide⟩ | exact ⟨4, by omega, by rw [e6]; decide⟩ | exact ⟨5, by omega, by rw [e7]; decide⟩ | exact ⟨6, by omega, by rw [e8]; decide⟩ | exact ⟨7, by omega, by rw [e9]; decide⟩ | (exfalso; obtain ⟨k, hk, rfl⟩ := inB_8 (b := 11) (by omega) c1; rcases nI_12 k hk with h | h | h | h | h | h | h | h | h | h | h | h <;> contradiction)
                            rw [ej9]
                            refine G_iald dX10_account_140 (by first | exact rfl | assumption) (show vp_in (nI j9) 140 from nI_in12 (by omega) (by omega)) ?_
                            refine R_iret dX10_account_141 rfl (Nat.le_of_ble_eq_true rfl) (Nat.le_of_ble_eq_true rfl) ?_
                            refine ⟨?_, congrArg (fun z => hp z r) ?_⟩
                            all_goals (unfold aAc; try rw [← ej9]); all_goals (simp only [*]; rfl)
end P27
