theorem inB_8 {x : Int32} {b : Nat} (hb : b < 100) (h : ¬ zb (inB x 0 (nI b)) = 0) : ∃ k, k < b + 1 ∧ x = nI k := by
  have h1 : inB x 0 (nI b) = true := by simpa [zb_n0] using h
  simp only [inB, Bool.and_eq_true, Bool.not_eq_true', decide_eq_false_iff_not] at h1
  have h2 := Int32.not_lt.mp h1.1
  have h3 := Int32.not_lt.mp h1.2
  rw [Int32.le_iff_toInt_le] at h2 h3
  have e0 : (0 : Int32).toInt = 0 := rfl
  rw [nI_toInt (by omega)] at h3
  refine ⟨x.toInt.toNat, by omega, ?_⟩
  apply Int32.toInt_inj.mp
  rw [nI_toInt (by omega)]
  omega
section P26
variable {M : MM} {r : MR}
def aFi (M : MM) (n : Nat) (x q : Int32) : Int32 × MM := if zb (inB x 0 (nI n - 1)) = 0 then (0, mst M 464 9 1) else if zb (inB q 0 8) = 0 then (0, mst M 464 9 2) else if q = 7 then (2 + oF M x.toNatClampNeg 1 / 3, mst M 464 9 0) else if q = 8 then (1 + oF M x.toNatClampNeg 0 / 3, mst M 464 9 0) else (oF M x.toNatClampNeg q.toNatClampNeg, mst M 464 9 0)
theorem s_X10_fishOf {l : Launch} (hf : l.stackTraces = false) {n : Nat} (hn : n ≤ 12) (hg : M 465 0 = nI n) {x q : Int32} : V_X10_fishOf l [.ref 464, .int x, .int q] (hp M r) (VI (aFi M n x q).1 (hp (aFi M n x q).2 r)) := by
  refine VM.intro (lf := L9 (some (.ref 464)) (some (.int x)) (some (.int q)) none none none none none none) (by decide +kernel) hf (fun _ => (Nat.le_of_ble_eq_true rfl)) (fun _ => rfl) ?_
  refine R_aload_n dX10_fishOf_0 rfl rfl ?_
  refine R_aload_n dX10_fishOf_1 rfl rfl ?_
  refine R_iload_n dX10_fishOf_2 rfl rfl ?_
  refine G_cV1 cw_X10_121 (s_X10_isFish hf hn hg) dX10_fishOf_3 (rcv cok10 (by first | exact rfl | assumption) (Nat.le_of_ble_eq_true rfl)) ⟨(Nat.le_of_ble_eq_true rfl), (Nat.le_of_ble_eq_true rfl), (Nat.le_of_ble_eq_true rfl), (Nat.le_of_ble_eq_true rfl)⟩ ?_
  refine R_if_ne (tgt := 13) dX10_fishOf_6 rfl (fun c1 => ?_) (fun c1 => ?_)
  · obtain ⟨k, hk, rfl⟩ := inB_k hn (by assumption)
    have ek : (nI k).toNatClampNeg = k := nI_cl (by omega)
    have hk12 : k < 12 := by omega
    refine R_iload_n dX10_fishOf_13 rfl rfl ?_
    refine R_iconst (v := 0) dX10_fishOf_14 (by decide) ?_
    refine R_bipush (v := 8) dX10_fishOf_15 (by decide) ?_
    refine G_cS3 cw_X10_65 (s_X10_in hf) dX10_fishOf_17 ⟨(Nat.le_of_ble_eq_true rfl), (Nat.le_of_ble_eq_true rfl), (Nat.le_of_ble_eq_true rfl), (Nat.le_of_ble_eq_true rfl)⟩ ?_
    refine R_if_eq (tgt := 27) dX10_fishOf_20 rfl (fun c2 => ?_) (fun c2 => ?_)
    · refine R_iconst (v := 2) dX10_fishOf_27 (by decide) ?_
      refine G_cV1 cw_X10_156 (s_X10_fails hf) dX10_fishOf_28 (rcv cok10 (by first | exact rfl | assumption) (Nat.le_of_ble_eq_true rfl)) ⟨(Nat.le_of_ble_eq_true rfl), (Nat.le_of_ble_eq_true rfl), (Nat.le_of_ble_eq_true rfl), (Nat.le_of_ble_eq_true rfl)⟩ ?_
      refine R_if_eq_f (tgt := 36) dX10_fishOf_31 rfl (by decide) ?_
      refine R_iconst (v := 0) dX10_fishOf_34 (by decide) ?_
      refine R_iret dX10_fishOf_35 rfl (Nat.le_of_ble_eq_true rfl) (Nat.le_of_ble_eq_true rfl) ?_
      first | rw [aFi, ek, if_neg c1, if_pos c2] | rw [aFi, if_neg c1, if_pos c2]
      first | exact ⟨rfl, rfl⟩ | (rw [ew9]; exact ⟨rfl, rfl⟩)
    · refine R_iconst (v := 0) dX10_fishOf_23 (by decide) ?_
      refine R_goto (tgt := 28) dX10_fishOf_24 rfl ?_
      refine G_cV1 cw_X10_156 (s_X10_fails hf) dX10_fishOf_28 (rcv cok10 (by first | exact rfl | assumption) (Nat.le_of_ble_eq_true rfl)) ⟨(Nat.le_of_ble_eq_true rfl), (Nat.le_of_ble_eq_true rfl), (Nat.le_of_ble_eq_true rfl), (Nat.le_of_ble_eq_true rfl)⟩ ?_
      refine R_if_eq_t (tgt := 36) dX10_fishOf_31 rfl (by decide) ?_
      refine R_iload_n dX10_fishOf_36 rfl rfl ?_
      refine R_bipush (v := 7) dX10_fishOf_37 (by decide) ?_
      refine R_icmp_ne (tgt := 50) dX10_fishOf_39 rfl (fun c3 => ?_) (fun c3 => ?_)
      · refine R_iload_n dX10_fishOf_50 rfl rfl ?_
        refine R_bipush (v := 8) dX10_fishOf_51 (by decide) ?_
        refine R_icmp_ne (tgt := 64) dX10_fishOf_53 rfl (fun c4 => ?_) (fun c4 => ?_)
        · obtain ⟨w9, hw9, hv9⟩ : ∃ w, w < 11 ∧ q = nI w := by
            obtain ⟨w, h1, h2⟩ := inB_8 (b := 8) (by omega) (by assumption)
            exact ⟨w, by omega, h2⟩
          have ew9 : q.toNatClampNeg = w9 := by rw [hv9]; exact nI_cl (by omega)
          refine R_aload_n dX10_fishOf_64 rfl rfl ?_
          refine R_iload_n dX10_fishOf_65 rfl rfl ?_
          refine R_iload_n dX10_fishOf_66 rfl rfl ?_
          refine G_cV2 cw_X10_69 (s_X10_of hf hk12 hw9 hv9) dX10_fishOf_67 (rcv cok10 (by first | exact rfl | assumption) (Nat.le_of_ble_eq_true rfl)) ⟨(Nat.le_of_ble_eq_true rfl), (Nat.le_of_ble_eq_true rfl), (Nat.le_of_ble_eq_true rfl), (Nat.le_of_ble_eq_true rfl)⟩ ?_
          refine R_iret dX10_fishOf_70 rfl (Nat.le_of_ble_eq_true rfl) (Nat.le_of_ble_eq_true rfl) ?_
          first | rw [aFi, ek, if_neg c1, if_neg c2, if_neg c3, if_neg c4] | rw [aFi, if_neg c1, if_neg c2, if_neg c3, if_neg c4]
          first | exact ⟨rfl, rfl⟩ | (rw [ew9]; exact ⟨rfl, rfl⟩)
        · refine R_aload_n dX10_fishOf_56 rfl rfl ?_
          refine R_iload_n dX10_fishOf_57 rfl rfl ?_
          refine G_cV1 cw_X10_87 (s_X10_needs hf hk12) dX10_fishOf_58 (rcv cok10 (by first | exact rfl | assumption) (Nat.le_of_ble_eq_true rfl)) ⟨(Nat.le_of_ble_eq_true rfl), (Nat.le_of_ble_eq_true rfl), (Nat.le_of_ble_eq_true rfl), (Nat.le_of_ble_eq_true rfl)⟩ ?_
          refine R_goto (tgt := 70) dX10_fishOf_61 rfl ?_
          refine R_iret dX10_fishOf_70 rfl (Nat.le_of_ble_eq_true rfl) (Nat.le_of_ble_eq_true rfl) ?_
          first | rw [aFi, ek, if_neg c1, if_neg c2, if_neg c3, if_pos c4] | rw [aFi, if_neg c1, if_neg c2, if_neg c3, if_pos c4]
          first | exact ⟨rfl, rfl⟩ | (rw [ew9]; exact ⟨rfl, rfl⟩)
      · refine R_aload_n dX10_fishOf_42 rfl rfl ?_
        refine R_iload_n dX10_fishOf_43 rfl rfl ?_
        refine G_cV1 cw_X10_107 (s_X10_bears hf hk12) dX10_fishOf_44 (rcv cok10 (by first | exact rfl | assumption) (Nat.le_of_ble_eq_true rfl)) ⟨(Nat.le_of_ble_eq_true rfl), (Nat.le_of_ble_eq_true rfl), (Nat.le_of_ble_eq_true rfl), (Nat.le_of_ble_eq_true rfl)⟩ ?_
        refine R_goto (tgt := 70) dX10_fishOf_47 rfl ?_
        refine R_iret dX10_fishOf_70 rfl (Nat.le_of_ble_eq_true rfl) (Nat.le_of_ble_eq_true rfl) ?_
        first | rw [aFi, ek, if_neg c1, if_neg c2, if_pos c3] | rw [aFi, if_neg c1, if_neg c2, if_pos c3]
        first | exact ⟨rfl, rfl⟩ | (rw [ew9]; exact ⟨rfl, rfl⟩)
  · refine R_iconst (v := 1) dX10_fishOf_9 (by decide) ?_
    refine R_goto (tgt := 28) dX10_fishOf_10 rfl ?_
    refine G_cV1 cw_X10_156 (s_X10_fails hf) dX10_fishOf_28 (rcv cok10 (by first | exact rfl | assumption) (Nat.le_of_ble_eq_true rfl)) ⟨(Nat.le_of_ble_eq_true rfl), (Nat.le_of_ble_eq_true rfl), (Nat.le_of_ble_eq_true rfl), (Nat.le_of_ble_eq_true rfl)⟩ ?_
    refine R_if_eq_f (tgt := 36) dX10_fishOf_31 rfl (by decide) ?_
    refine R_iconst (v := 0) dX10_fishOf_34 (by decide) ?_
    refine R_iret dX10_fishOf_35 rfl (Nat.le_of_ble_eq_true rfl) (Nat.le_of_ble_eq_true rfl) ?_
    first | rw [aFi, ek, if_pos c1] | rw [aFi, if_pos c1]
    first | exact ⟨rfl, rfl⟩ | (rw [ew9]; exact ⟨rfl, rfl⟩)
def aHe (M : MM) (n : Nat) (p : Int32) : Int32 × MM := if zb (inB p 0 3) = 0 then (0, mst M 464 9 1) else (rHeat M p, mst M 464 9 0)
theorem s_X10_heat {l : Launch} (hf : l.stackTraces = false) {n : Nat} (hn : n ≤ 12) (hg : M 465 0 = nI n) {p : Int32} : V_X10_heat l [.ref 464, .int p] (hp M r) (VI (aHe M n p).1 (hp (aHe M n p).2 r)) := by
  refine VM.intro (lf := L9 (some (.ref 464)) (some (.int p)) none none none none none none none) (by decide +kernel) hf (fun _ => (Nat.le_of_ble_eq_true rfl)) (fun _ => rfl) ?_
  refine R_aload_n dX10_heat_0 rfl rfl ?_
  refine R_iload_n dX10_heat_1 rfl rfl ?_
  refine R_iconst (v := 0) dX10_heat_2 (by decide) ?_
  refine R_iconst (v := 3) dX10_heat_3 (by decide) ?_
  refine G_cS3 cw_X10_65 (s_X10_in hf) dX10_heat_4 ⟨(Nat.le_of_ble_eq_true rfl), (Nat.le_of_ble_eq_true rfl), (Nat.le_of_ble_eq_true rfl), (Nat.le_of_ble_eq_true rfl)⟩ ?_
  refine R_if_eq (tgt := 14) dX10_heat_7 rfl (fun c1 => ?_) (fun c1 => ?_)
  · refine R_iconst (v := 1) dX10_heat_14 (by decide) ?_
    refine G_cV1 cw_X10_156 (s_X10_fails hf) dX10_heat_15 (rcv cok10 (by first | exact rfl | assumption) (Nat.le_of_ble_eq_true rfl)) ⟨(Nat.le_of_ble_eq_true rfl), (Nat.le_of_ble_eq_true rfl), (Nat.le_of_ble_eq_true rfl), (Nat.le_of_ble_eq_true rfl)⟩ ?_
    refine R_if_eq_f (tgt := 25) dX10_heat_18 rfl (by decide) ?_
    refine R_iconst (v := 0) dX10_heat_21 (by decide) ?_
    refine R_goto (tgt := 30) dX10_heat_22 rfl ?_
    refine R_iret dX10_heat_30 rfl (Nat.le_of_ble_eq_true rfl) (Nat.le_of_ble_eq_true rfl) ?_
    first | rw [aHe, ek, if_pos c1] | rw [aHe, if_pos c1] | rw [aHe]
    first | exact ⟨rfl, rfl⟩ | skip
  · refine R_iconst (v := 0) dX10_heat_10 (by decide) ?_
    refine R_goto (tgt := 15) dX10_heat_11 rfl ?_
    refine G_cV1 cw_X10_156 (s_X10_fails hf) dX10_heat_15 (rcv cok10 (by first | exact rfl | assumption) (Nat.le_of_ble_eq_true rfl)) ⟨(Nat.le_of_ble_eq_true rfl), (Nat.le_of_ble_eq_true rfl), (Nat.le_of_ble_eq_true rfl), (Nat.le_of_ble_eq_true rfl)⟩ ?_
    refine R_if_eq_t (tgt := 25) dX10_heat_18 rfl (by decide) ?_
    refine R_aload_n dX10_heat_25 rfl rfl ?_
    refine R_iload_n dX10_heat_26 rfl rfl ?_
    refine G_cV1 cw_X10_97 (s_X10_heatOf hf) dX10_heat_27 (rcv cok10 (by first | exact rfl | assumption) (Nat.le_of_ble_eq_true rfl)) ⟨(Nat.le_of_ble_eq_true rfl), (Nat.le_of_ble_eq_true rfl), (Nat.le_of_ble_eq_true rfl), (Nat.le_of_ble_eq_true rfl)⟩ ?_
    refine R_iret dX10_heat_30 rfl (Nat.le_of_ble_eq_true rfl) (Nat.le_of_ble_eq_true rfl) ?_
    first | rw [aHe, ek, if_neg c1] | rw [aHe, if_neg c1] | rw [aHe]
    first | exact ⟨rfl, rfl⟩ | skip
def aAt (M : MM) (n : Nat) (p q : Int32) : Int32 × MM := if zb (inB p 0 3 && inB q 0 9) = 0 then (0, mst M 464 9 1) else if rOn M p q n < 0 then (0, mst M 464 9 2) else (rOn M p q n, mst M 464 9 0)
theorem s_X10_at {l : Launch} (hf : l.stackTraces = false) {n : Nat} (hn : n ≤ 12) (hg : M 465 0 = nI n) {p q : Int32} : V_X10_at l [.ref 464, .int p, .int q] (hp M r) (VI (aAt M n p q).1 (hp (aAt M n p q).2 r)) := by
  refine VM.intro (lf := L9 (some (.ref 464)) (some (.int p)) (some (.int q)) none none none none none none) (by decide +kernel) hf (fun _ => (Nat.le_of_ble_eq_true rfl)) (fun _ => rfl) ?_
  refine R_aload_n dX10_at_0 rfl rfl ?_
  refine R_iload_n dX10_at_1 rfl rfl ?_
  refine R_iload_n dX10_at_2 rfl rfl ?_
  refine G_cS2 cw_X10_127 (s_X10_isHook hf) dX10_at_3 ⟨(Nat.le_of_ble_eq_true rfl), (Nat.le_of_ble_eq_true rfl), (Nat.le_of_ble_eq_true rfl), (Nat.le_of_ble_eq_true rfl)⟩ ?_
  refine R_if_eq (tgt := 13) dX10_at_6 rfl (fun c1 => ?_) (fun c1 => ?_)
  · refine R_iconst (v := 1) dX10_at_13 (by decide) ?_
    refine G_cV1 cw_X10_156 (s_X10_fails hf) dX10_at_14 (rcv cok10 (by first | exact rfl | assumption) (Nat.le_of_ble_eq_true rfl)) ⟨(Nat.le_of_ble_eq_true rfl), (Nat.le_of_ble_eq_true rfl), (Nat.le_of_ble_eq_true rfl), (Nat.le_of_ble_eq_true rfl)⟩ ?_
    refine R_if_eq_f (tgt := 22) dX10_at_17 rfl (by decide) ?_
    refine R_iconst (v := 0) dX10_at_20 (by decide) ?_
    refine R_iret dX10_at_21 rfl (Nat.le_of_ble_eq_true rfl) (Nat.le_of_ble_eq_true rfl) ?_
    first | rw [aAt, ek, if_pos c1] | rw [aAt, if_pos c1] | rw [aAt]
    first | exact ⟨rfl, rfl⟩ | skip
  · refine R_iconst (v := 0) dX10_at_9 (by decide) ?_
    refine R_goto (tgt := 14) dX10_at_10 rfl ?_
    refine G_cV1 cw_X10_156 (s_X10_fails hf) dX10_at_14 (rcv cok10 (by first | exact rfl | assumption) (Nat.le_of_ble_eq_true rfl)) ⟨(Nat.le_of_ble_eq_true rfl), (Nat.le_of_ble_eq_true rfl), (Nat.le_of_ble_eq_true rfl), (Nat.le_of_ble_eq_true rfl)⟩ ?_
    refine R_if_eq_t (tgt := 22) dX10_at_17 rfl (by decide) ?_
    refine R_aload_n dX10_at_22 rfl rfl ?_
    refine R_aload_n dX10_at_23 rfl rfl ?_
    refine R_iload_n dX10_at_24 rfl rfl ?_
    refine R_iload_n dX10_at_25 rfl rfl ?_
    refine G_cV2 cw_X10_131 (show VD l _ _ _ _ _ _ _ (some (.int (rOn M p q n))) _ from s_X10_onHook hf hn (by first | exact hg | simpa [mst] using hg)) dX10_at_26 (rcv cok10 (by first | exact rfl | assumption) (Nat.le_of_ble_eq_true rfl)) ⟨(Nat.le_of_ble_eq_true rfl), (Nat.le_of_ble_eq_true rfl), (Nat.le_of_ble_eq_true rfl), (Nat.le_of_ble_eq_true rfl)⟩ ?_
    refine R_if_geN (tgt := 36) dX10_at_29 rfl (fun c2 => ?_) (fun c2 => ?_)
    · refine R_iconst (v := 0) dX10_at_36 (by decide) ?_
      refine G_cV1 cw_X10_156 (s_X10_fails hf) dX10_at_37 (rcv cok10 (by first | exact rfl | assumption) (Nat.le_of_ble_eq_true rfl)) ⟨(Nat.le_of_ble_eq_true rfl), (Nat.le_of_ble_eq_true rfl), (Nat.le_of_ble_eq_true rfl), (Nat.le_of_ble_eq_true rfl)⟩ ?_
      rw [mst_mst]
      refine R_if_eq_t (tgt := 47) dX10_at_40 rfl (by decide) ?_
      refine R_aload_n dX10_at_47 rfl rfl ?_
      refine R_iload_n dX10_at_48 rfl rfl ?_
      refine R_iload_n dX10_at_49 rfl rfl ?_
      refine G_cV2 cw_X10_131 (show VD l _ _ _ _ _ _ _ (some (.int (rOn M p q n))) _ from s_X10_onHook hf hn (by first | exact hg | simpa [mst] using hg)) dX10_at_50 (rcv cok10 (by first | exact rfl | assumption) (Nat.le_of_ble_eq_true rfl)) ⟨(Nat.le_of_ble_eq_true rfl), (Nat.le_of_ble_eq_true rfl), (Nat.le_of_ble_eq_true rfl), (Nat.le_of_ble_eq_true rfl)⟩ ?_
      refine R_iret dX10_at_53 rfl (Nat.le_of_ble_eq_true rfl) (Nat.le_of_ble_eq_true rfl) ?_
      first | rw [aAt, ek, if_neg c1, if_neg c2] | rw [aAt, if_neg c1, if_neg c2] | rw [aAt]
      first | exact ⟨rfl, rfl⟩ | skip
    · refine R_iconst (v := 2) dX10_at_32 (by decide) ?_
      refine R_goto (tgt := 37) dX10_at_33 rfl ?_
      refine G_cV1 cw_X10_156 (s_X10_fails hf) dX10_at_37 (rcv cok10 (by first | exact rfl | assumption) (Nat.le_of_ble_eq_true rfl)) ⟨(Nat.le_of_ble_eq_true rfl), (Nat.le_of_ble_eq_true rfl), (Nat.le_of_ble_eq_true rfl), (Nat.le_of_ble_eq_true rfl)⟩ ?_
      rw [mst_mst]
      refine R_if_eq_f (tgt := 47) dX10_at_40 rfl (by decide) ?_
      refine R_iconst (v := 0) dX10_at_43 (by decide) ?_
      refine R_goto (tgt := 53) dX10_at_44 rfl ?_
      refine R_iret dX10_at_53 rfl (Nat.le_of_ble_eq_true rfl) (Nat.le_of_ble_eq_true rfl) ?_
      first | rw [aAt, ek, if_neg c1, if_pos c2] | rw [aAt, if_neg c1, if_pos c2] | rw [aAt]
      first | exact ⟨rfl, rfl⟩ | skip
def aDo (M : MM) (n : Nat) (x : Int32) : Int32 × MM := if zb (inB x 0 (nI n - 1)) = 0 then (0, mst M 464 9 1) else (zb (rReady M x.toNatClampNeg), mst M 464 9 0)
theorem s_X10_isDone {l : Launch} (hf : l.stackTraces = false) {n : Nat} (hn : n ≤ 12) (hg : M 465 0 = nI n) {x : Int32} : V_X10_isDone l [.ref 464, .int x] (hp M r) (VI (aDo M n x).1 (hp (aDo M n x).2 r)) := by
  refine VM.intro (lf := L9 (some (.ref 464)) (some (.int x)) none none none none none none none) (by decide +kernel) hf (fun _ => (Nat.le_of_ble_eq_true rfl)) (fun _ => rfl) ?_
  refine R_aload_n dX10_isDone_0 rfl rfl ?_
  refine R_aload_n dX10_isDone_1 rfl rfl ?_
  refine R_iload_n dX10_isDone_2 rfl rfl ?_
  refine G_cV1 cw_X10_121 (s_X10_isFish hf hn hg) dX10_isDone_3 (rcv cok10 (by first | exact rfl | assumption) (Nat.le_of_ble_eq_true rfl)) ⟨(Nat.le_of_ble_eq_true rfl), (Nat.le_of_ble_eq_true rfl), (Nat.le_of_ble_eq_true rfl), (Nat.le_of_ble_eq_true rfl)⟩ ?_
  refine R_if_eq (tgt := 13) dX10_isDone_6 rfl (fun c1 => ?_) (fun c1 => ?_)
  · refine R_iconst (v := 1) dX10_isDone_13 (by decide) ?_
    refine G_cV1 cw_X10_156 (s_X10_fails hf) dX10_isDone_14 (rcv cok10 (by first | exact rfl | assumption) (Nat.le_of_ble_eq_true rfl)) ⟨(Nat.le_of_ble_eq_true rfl), (Nat.le_of_ble_eq_true rfl), (Nat.le_of_ble_eq_true rfl), (Nat.le_of_ble_eq_true rfl)⟩ ?_
    refine R_if_ne_t (tgt := 32) dX10_isDone_17 rfl (by decide) ?_
    refine R_iconst (v := 0) dX10_isDone_32 (by decide) ?_
    refine R_iret dX10_isDone_33 (by first | rfl | decide) (Nat.le_of_ble_eq_true rfl) (Nat.le_of_ble_eq_true rfl) ?_
    first | rw [aDo, ek, if_neg c1] | rw [aDo, if_pos c1]
    first | exact ⟨rfl, rfl⟩ | (refine ⟨?_, rfl⟩; simp_all [zb])
  · refine R_iconst (v := 0) dX10_isDone_9 (by decide) ?_
    refine R_goto (tgt := 14) dX10_isDone_10 rfl ?_
    refine G_cV1 cw_X10_156 (s_X10_fails hf) dX10_isDone_14 (rcv cok10 (by first | exact rfl | assumption) (Nat.le_of_ble_eq_true rfl)) ⟨(Nat.le_of_ble_eq_true rfl), (Nat.le_of_ble_eq_true rfl), (Nat.le_of_ble_eq_true rfl), (Nat.le_of_ble_eq_true rfl)⟩ ?_
    refine R_if_ne_f (tgt := 32) dX10_isDone_17 rfl (by decide) ?_
    obtain ⟨k, hk, rfl⟩ := inB_k hn (by assumption)
    have ek : (nI k).toNatClampNeg = k := nI_cl (by omega)
    have hk12 : k < 12 := by omega
    refine R_aload_n dX10_isDone_20 rfl rfl ?_
    refine R_iload_n dX10_isDone_21 rfl rfl ?_
    refine G_cV1 cw_X10_147 (show VD l _ _ _ _ _ _ _ (some (.int (zb (rReady M k)))) _ from s_X10_isReady hf hk12) dX10_isDone_22 (rcv cok10 (by first | exact rfl | assumption) (Nat.le_of_ble_eq_true rfl)) ⟨(Nat.le_of_ble_eq_true rfl), (Nat.le_of_ble_eq_true rfl), (Nat.le_of_ble_eq_true rfl), (Nat.le_of_ble_eq_true rfl)⟩ ?_
    refine R_if_eq (tgt := 32) dX10_isDone_25 rfl (fun c2 => ?_) (fun c2 => ?_)
    · refine R_iconst (v := 0) dX10_isDone_32 (by decide) ?_
      refine R_iret dX10_isDone_33 (by first | rfl | decide) (Nat.le_of_ble_eq_true rfl) (Nat.le_of_ble_eq_true rfl) ?_
      first | rw [aDo, ek, if_neg c1] | rw [aDo, if_pos c1]
      first | exact ⟨rfl, rfl⟩ | (refine ⟨?_, rfl⟩; simp_all [zb])
    · refine R_iconst (v := 1) dX10_isDone_28 (by decide) ?_
      refine R_goto (tgt := 33) dX10_isDone_29 rfl ?_
      refine R_iret dX10_isDone_33 (by first | rfl | decide) (Nat.le_of_ble_eq_true rfl) (Nat.le_of_ble_eq_true rfl) ?_
      first | rw [aDo, ek, if_neg c1] | rw [aDo, if_pos c1]
      first | exact ⟨rfl, rfl⟩ | (refine ⟨?_, rfl⟩; simp_all [zb])
def aCr (M : MM) (n : Nat) (x : Int32) : Int32 × MM := if zb (inB x 0 (nI n - 1)) = 0 then (0, mst M 464 9 1) else (zb (rNear (mst M 464 9 0) x.toNatClampNeg n), mst M 464 9 0)
theorem s_X10_isCrowded {l : Launch} (hf : l.stackTraces = false) {n : Nat} (hn : n ≤ 12) (hg : M 465 0 = nI n) {x : Int32} : V_X10_isCrowded l [.ref 464, .int x] (hp M r) (VI (aCr M n x).1 (hp (aCr M n x).2 r)) := by
  refine VM.intro (lf := L9 (some (.ref 464)) (some (.int x)) none none none none none none none) (by decide +kernel) hf (fun _ => (Nat.le_of_ble_eq_true rfl)) (fun _ => rfl) ?_
  refine R_aload_n dX10_isCrowded_0 rfl rfl ?_
  refine R_aload_n dX10_isCrowded_1 rfl rfl ?_
  refine R_iload_n dX10_isCrowded_2 rfl rfl ?_
  refine G_cV1 cw_X10_121 (s_X10_isFish hf hn hg) dX10_isCrowded_3 (rcv cok10 (by first | exact rfl | assumption) (Nat.le_of_ble_eq_true rfl)) ⟨(Nat.le_of_ble_eq_true rfl), (Nat.le_of_ble_eq_true rfl), (Nat.le_of_ble_eq_true rfl), (Nat.le_of_ble_eq_true rfl)⟩ ?_
  refine R_if_eq (tgt := 13) dX10_isCrowded_6 rfl (fun c1 => ?_) (fun c1 => ?_)
  · refine R_iconst (v := 1) dX10_isCrowded_13 (by decide) ?_
    refine G_cV1 cw_X10_156 (s_X10_fails hf) dX10_isCrowded_14 (rcv cok10 (by first | exact rfl | assumption) (Nat.le_of_ble_eq_true rfl)) ⟨(Nat.le_of_ble_eq_true rfl), (Nat.le_of_ble_eq_true rfl), (Nat.le_of_ble_eq_true rfl), (Nat.le_of_ble_eq_true rfl)⟩ ?_
    refine R_if_ne_t (tgt := 32) dX10_isCrowded_17 rfl (by decide) ?_
    refine R_iconst (v := 0) dX10_isCrowded_32 (by decide) ?_
    refine R_iret dX10_isCrowded_33 (by first | rfl | decide) (Nat.le_of_ble_eq_true rfl) (Nat.le_of_ble_eq_true rfl) ?_
    first | rw [aCr, ek, if_neg c1] | rw [aCr, if_pos c1]
    first | exact ⟨rfl, rfl⟩ | (refine ⟨?_, rfl⟩; simp_all [zb])
  · refine R_iconst (v := 0) dX10_isCrowded_9 (by decide) ?_
    refine R_goto (tgt := 14) dX10_isCrowded_10 rfl ?_
    refine G_cV1 cw_X10_156 (s_X10_fails hf) dX10_isCrowded_14 (rcv cok10 (by first | exact rfl | assumption) (Nat.le_of_ble_eq_true rfl)) ⟨(Nat.le_of_ble_eq_true rfl), (Nat.le_of_ble_eq_true rfl), (Nat.le_of_ble_eq_true rfl), (Nat.le_of_ble_eq_true rfl)⟩ ?_
    refine R_if_ne_f (tgt := 32) dX10_isCrowded_17 rfl (by decide) ?_
    obtain ⟨k, hk, rfl⟩ := inB_k hn (by assumption)
    have ek : (nI k).toNatClampNeg = k := nI_cl (by omega)
    have hk12 : k < 12 := by omega
    refine R_aload_n dX10_isCrowded_20 rfl rfl ?_
    refine R_iload_n dX10_isCrowded_21 rfl rfl ?_
    refine G_cV1 cw_X10_100 (s_X10_isNear (M := mst M 464 9 0) hf hn hg hk12) dX10_isCrowded_22 (rcv cok10 (by first | exact rfl | assumption) (Nat.le_of_ble_eq_true rfl)) ⟨(Nat.le_of_ble_eq_true rfl), (Nat.le_of_ble_eq_true rfl), (Nat.le_of_ble_eq_true rfl), (Nat.le_of_ble_eq_true rfl)⟩ ?_
    refine R_if_eq (tgt := 32) dX10_isCrowded_25 rfl (fun c2 => ?_) (fun c2 => ?_)
    · refine R_iconst (v := 0) dX10_isCrowded_32 (by decide) ?_
      refine R_iret dX10_isCrowded_33 (by first | rfl | decide) (Nat.le_of_ble_eq_true rfl) (Nat.le_of_ble_eq_true rfl) ?_
      first | rw [aCr, ek, if_neg c1] | rw [aCr, if_pos c1]
      first | exact ⟨rfl, rfl⟩ | (refine ⟨?_, rfl⟩; simp_all [zb])
    · refine R_iconst (v := 1) dX10_isCrowded_28 (by decide) ?_
      refine R_goto (tgt := 33) dX10_isCrowded_29 rfl ?_
      refine R_iret dX10_isCrowded_33 (by first | rfl | decide) (Nat.le_of_ble_eq_true rfl) (Nat.le_of_ble_eq_true rfl) ?_
      first | rw [aCr, ek, if_neg c1] | rw [aCr, if_pos c1]
      first | exact ⟨rfl, rfl⟩ | (refine ⟨?_, rfl⟩; simp_all [zb])
def aSi (M : MM) (n : Nat) (x q y : Int32) : Int32 × MM := if zb (inB x 0 (nI n - 1)) = 0 then (0, mst M 464 9 1) else if zb (inB q 0 1) = 0 then (0, mst M 464 9 2) else if y = 0 then (oF M x.toNatClampNeg (7 + q.toNatClampNeg), mst M 464 9 0) else (oF M x.toNatClampNeg (9 + q.toNatClampNeg), mst M 464 9 0)
theorem s_X10_sideOf {l : Launch} (hf : l.stackTraces = false) {n : Nat} (hn : n ≤ 12) (hg : M 465 0 = nI n) {x q y : Int32} : V_X10_sideOf l [.ref 464, .int x, .int q, .int y] (hp M r) (VI (aSi M n x q y).1 (hp (aSi M n x q y).2 r)) := by
  refine VM.intro (lf := L9 (some (.ref 464)) (some (.int x)) (some (.int q)) (some (.int y)) none none none none none) (by decide +kernel) hf (fun _ => (Nat.le_of_ble_eq_true rfl)) (fun _ => rfl) ?_
  refine R_aload_n dX10_sideOf_0 rfl rfl ?_
  refine R_aload_n dX10_sideOf_1 rfl rfl ?_
  refine R_iload_n dX10_sideOf_2 rfl rfl ?_
  refine G_cV1 cw_X10_121 (s_X10_isFish hf hn hg) dX10_sideOf_3 (rcv cok10 (by first | exact rfl | assumption) (Nat.le_of_ble_eq_true rfl)) ⟨(Nat.le_of_ble_eq_true rfl), (Nat.le_of_ble_eq_true rfl), (Nat.le_of_ble_eq_true rfl), (Nat.le_of_ble_eq_true rfl)⟩ ?_
  refine R_if_ne (tgt := 13) dX10_sideOf_6 rfl (fun c1 => ?_) (fun c1 => ?_)
  · obtain ⟨k, hk, rfl⟩ := inB_k hn (by assumption)
    have ek : (nI k).toNatClampNeg = k := nI_cl (by omega)
    have hk12 : k < 12 := by omega
    refine R_iload_n dX10_sideOf_13 rfl rfl ?_
    refine R_iconst (v := 0) dX10_sideOf_14 (by decide) ?_
    refine R_iconst (v := 1) dX10_sideOf_15 (by decide) ?_
    refine G_cS3 cw_X10_65 (s_X10_in hf) dX10_sideOf_16 ⟨(Nat.le_of_ble_eq_true rfl), (Nat.le_of_ble_eq_true rfl), (Nat.le_of_ble_eq_true rfl), (Nat.le_of_ble_eq_true rfl)⟩ ?_
    refine R_if_eq (tgt := 26) dX10_sideOf_19 rfl (fun c2 => ?_) (fun c2 => ?_)
    · refine R_iconst (v := 2) dX10_sideOf_26 (by decide) ?_
      refine G_cV1 cw_X10_156 (s_X10_fails hf) dX10_sideOf_27 (rcv cok10 (by first | exact rfl | assumption) (Nat.le_of_ble_eq_true rfl)) ⟨(Nat.le_of_ble_eq_true rfl), (Nat.le_of_ble_eq_true rfl), (Nat.le_of_ble_eq_true rfl), (Nat.le_of_ble_eq_true rfl)⟩ ?_
      refine R_if_eq_f (tgt := 35) dX10_sideOf_30 rfl (by decide) ?_
      refine R_iconst (v := 0) dX10_sideOf_33 (by decide) ?_
      refine R_iret dX10_sideOf_34 rfl (Nat.le_of_ble_eq_true rfl) (Nat.le_of_ble_eq_true rfl) ?_
      first | rw [aSi, ek, if_neg c1, if_pos c2, ew9] | rw [aSi, ek, if_neg c1, if_pos c2] | rw [aSi, if_neg c1, if_pos c2]
      exact ⟨rfl, rfl⟩
    · refine R_iconst (v := 0) dX10_sideOf_22 (by decide) ?_
      refine R_goto (tgt := 27) dX10_sideOf_23 rfl ?_
      refine G_cV1 cw_X10_156 (s_X10_fails hf) dX10_sideOf_27 (rcv cok10 (by first | exact rfl | assumption) (Nat.le_of_ble_eq_true rfl)) ⟨(Nat.le_of_ble_eq_true rfl), (Nat.le_of_ble_eq_true rfl), (Nat.le_of_ble_eq_true rfl), (Nat.le_of_ble_eq_true rfl)⟩ ?_
      refine R_if_eq_t (tgt := 35) dX10_sideOf_30 rfl (by decide) ?_
      obtain ⟨w9, hw9, hv9⟩ := inB_8 (b := 1) (by omega) (by assumption)
      have ew9 : q.toNatClampNeg = w9 := by rw [hv9]; exact nI_cl (by omega)
      refine R_aload_n dX10_sideOf_35 rfl rfl ?_
      refine R_iload_n dX10_sideOf_36 rfl rfl ?_
      refine R_iload_n dX10_sideOf_37 rfl rfl ?_
      refine R_if_eq (tgt := 46) dX10_sideOf_38 rfl (fun c3 => ?_) (fun c3 => ?_)
      · refine R_bipush (v := 7) dX10_sideOf_46 (by decide) ?_
        refine R_iload_n dX10_sideOf_48 rfl rfl ?_
        refine R_iadd dX10_sideOf_49 ?_
        first | refine G_cV2 cw_X10_69 (s_X10_of hf (w := 7 + w9) hk12 (by omega) (show (7 : Int32) + q = _ by rw [hv9]; exact nI_add2 7 w9)) dX10_sideOf_50 (rcv cok10 rfl (Nat.le_of_ble_eq_true rfl)) ⟨(Nat.le_of_ble_eq_true rfl), (Nat.le_of_ble_eq_true rfl), (Nat.le_of_ble_eq_true rfl), (Nat.le_of_ble_eq_true rfl)⟩ ?_ | refine G_cV2 cw_X10_69 (s_X10_of hf (w := 9 + w9) hk12 (by omega) (show (9 : Int32) + q = _ by rw [hv9]; exact nI_add2 9 w9)) dX10_sideOf_50 (rcv cok10 rfl (Nat.le_of_ble_eq_true rfl)) ⟨(Nat.le_of_ble_eq_true rfl), (Nat.le_of_ble_eq_true rfl), (Nat.le_of_ble_eq_true rfl), (Nat.le_of_ble_eq_true rfl)⟩ ?_
        refine R_iret dX10_sideOf_53 rfl (Nat.le_of_ble_eq_true rfl) (Nat.le_of_ble_eq_true rfl) ?_
        first | rw [aSi, ek, if_neg c1, if_neg c2, if_pos c3, ew9] | rw [aSi, ek, if_neg c1, if_neg c2, if_pos c3] | rw [aSi, if_neg c1, if_neg c2, if_pos c3]
        exact ⟨rfl, rfl⟩
      · refine R_bipush (v := 9) dX10_sideOf_41 (by decide) ?_
        refine R_goto (tgt := 48) dX10_sideOf_43 rfl ?_
        refine R_iload_n dX10_sideOf_48 rfl rfl ?_
        refine R_iadd dX10_sideOf_49 ?_
        first | refine G_cV2 cw_X10_69 (s_X10_of hf (w := 7 + w9) hk12 (by omega) (show (7 : Int32) + q = _ by rw [hv9]; exact nI_add2 7 w9)) dX10_sideOf_50 (rcv cok10 rfl (Nat.le_of_ble_eq_true rfl)) ⟨(Nat.le_of_ble_eq_true rfl), (Nat.le_of_ble_eq_true rfl), (Nat.le_of_ble_eq_true rfl), (Nat.le_of_ble_eq_true rfl)⟩ ?_ | refine G_cV2 cw_X10_69 (s_X10_of hf (w := 9 + w9) hk12 (by omega) (show (9 : Int32) + q = _ by rw [hv9]; exact nI_add2 9 w9)) dX10_sideOf_50 (rcv cok10 rfl (Nat.le_of_ble_eq_true rfl)) ⟨(Nat.le_of_ble_eq_true rfl), (Nat.le_of_ble_eq_true rfl), (Nat.le_of_ble_eq_true rfl), (Nat.le_of_ble_eq_true rfl)⟩ ?_
        refine R_iret dX10_sideOf_53 rfl (Nat.le_of_ble_eq_true rfl) (Nat.le_of_ble_eq_true rfl) ?_
        first | rw [aSi, ek, if_neg c1, if_neg c2, if_neg c3, ew9] | rw [aSi, ek, if_neg c1, if_neg c2, if_neg c3] | rw [aSi, if_neg c1, if_neg c2, if_neg c3]
        exact ⟨rfl, rfl⟩
  · refine R_iconst (v := 1) dX10_sideOf_9 (by decide) ?_
    refine R_goto (tgt := 27) dX10_sideOf_10 rfl ?_
    refine G_cV1 cw_X10_156 (s_X10_fails hf) dX10_sideOf_27 (rcv cok10 (by first | exact rfl | assumption) (Nat.le_of_ble_eq_true rfl)) ⟨(Nat.le_of_ble_eq_true rfl), (Nat.le_of_ble_eq_true rfl), (Nat.le_of_ble_eq_true rfl), (Nat.le_of_ble_eq_true rfl)⟩ ?_
    refine R_if_eq_f (tgt := 35) dX10_sideOf_30 rfl (by decide) ?_
    refine R_iconst (v := 0) dX10_sideOf_33 (by decide) ?_
    refine R_iret dX10_sideOf_34 rfl (Nat.le_of_ble_eq_true rfl) (Nat.le_of_ble_eq_true rfl) ?_
    first | rw [aSi, ek, if_pos c1, ew9] | rw [aSi, ek, if_pos c1] | rw [aSi, if_pos c1]
    exact ⟨rfl, rfl⟩
def aNe (M : MM) (n : Nat) (x : Int32) : Int32 × MM := if zb (inB x 0 (nI n - 1)) = 0 then (0, mst M 464 9 1) else if zb (rHang (mst M 464 9 0) x.toNatClampNeg) = 0 then (0, mst M 464 9 2) else if rFar (mst M 464 9 0) x (oF (mst M 464 9 0) x.toNatClampNeg 3) (oF (mst M 464 9 0) x.toNatClampNeg 4) n = 99 then (0, mst M 464 9 2) else (rFar (mst M 464 9 0) x (oF (mst M 464 9 0) x.toNatClampNeg 3) (oF (mst M 464 9 0) x.toNatClampNeg 4) n, mst M 464 9 0)
theorem s_X10_nearest {l : Launch} (hf : l.stackTraces = false) {n : Nat} (hn : n ≤ 12) (hg : M 465 0 = nI n) {x : Int32} : V_X10_nearest l [.ref 464, .int x] (hp M r) (VI (aNe M n x).1 (hp (aNe M n x).2 r)) := by
  refine VM.intro (lf := L9 (some (.ref 464)) (some (.int x)) none none none none none none none) (by decide +kernel) hf (fun _ => (Nat.le_of_ble_eq_true rfl)) (fun _ => rfl) ?_
  refine R_aload_n dX10_nearest_0 rfl rfl ?_
  refine R_aload_n dX10_nearest_1 rfl rfl ?_
  refine R_iload_n dX10_nearest_2 rfl rfl ?_
  refine G_cV1 cw_X10_121 (s_X10_isFish hf hn hg) dX10_nearest_3 (rcv cok10 (by first | exact rfl | assumption) (Nat.le_of_ble_eq_true rfl)) ⟨(Nat.le_of_ble_eq_true rfl), (Nat.le_of_ble_eq_true rfl), (Nat.le_of_ble_eq_true rfl), (Nat.le_of_ble_eq_true rfl)⟩ ?_
  refine R_if_eq (tgt := 13) dX10_nearest_6 rfl (fun c1 => ?_) (fun c1 => ?_)
  · refine R_iconst (v := 1) dX10_nearest_13 (by decide) ?_
    refine G_cV1 cw_X10_156 (s_X10_fails hf) dX10_nearest_14 (rcv cok10 (by first | exact rfl | assumption) (Nat.le_of_ble_eq_true rfl)) ⟨(Nat.le_of_ble_eq_true rfl), (Nat.le_of_ble_eq_true rfl), (Nat.le_of_ble_eq_true rfl), (Nat.le_of_ble_eq_true rfl)⟩ ?_
    refine R_if_eq_f (tgt := 22) dX10_nearest_17 rfl (by decide) ?_
    refine R_iconst (v := 0) dX10_nearest_20 (by decide) ?_
    refine R_iret dX10_nearest_21 rfl (Nat.le_of_ble_eq_true rfl) (Nat.le_of_ble_eq_true rfl) ?_
    first | rw [aNe, ek, if_pos c1] | rw [aNe, if_pos c1] | rw [aNe, ek, if_neg c1, if_pos c2]
    first | exact ⟨rfl, rfl⟩ | (exfalso; revert c3; decide)
  · refine R_iconst (v := 0) dX10_nearest_9 (by decide) ?_
    refine R_goto (tgt := 14) dX10_nearest_10 rfl ?_
    refine G_cV1 cw_X10_156 (s_X10_fails hf) dX10_nearest_14 (rcv cok10 (by first | exact rfl | assumption) (Nat.le_of_ble_eq_true rfl)) ⟨(Nat.le_of_ble_eq_true rfl), (Nat.le_of_ble_eq_true rfl), (Nat.le_of_ble_eq_true rfl), (Nat.le_of_ble_eq_true rfl)⟩ ?_
    refine R_if_eq_t (tgt := 22) dX10_nearest_17 rfl (by decide) ?_
    obtain ⟨k, hk, rfl⟩ := inB_k hn (by assumption)
    have ek : (nI k).toNatClampNeg = k := nI_cl (by omega)
    have hk12 : k < 12 := by omega
    refine R_aload_n dX10_nearest_22 rfl rfl ?_
    refine R_iload_n dX10_nearest_23 rfl rfl ?_
    refine G_cV1 cw_X10_73 (s_X10_hangs hf hk12) dX10_nearest_24 (rcv cok10 (by first | exact rfl | assumption) (Nat.le_of_ble_eq_true rfl)) ⟨(Nat.le_of_ble_eq_true rfl), (Nat.le_of_ble_eq_true rfl), (Nat.le_of_ble_eq_true rfl), (Nat.le_of_ble_eq_true rfl)⟩ ?_
    refine R_if_eq (tgt := 50) dX10_nearest_27 rfl (fun c2 => ?_) (fun c2 => ?_)
    · refine R_bipush (v := 99) dX10_nearest_50 (by decide) ?_
      refine R_istore_n dX10_nearest_52 rfl (by decide) (st2 rfl) ?_
      refine R_aload_n dX10_nearest_53 rfl rfl ?_
      refine R_iload_n dX10_nearest_54 rfl rfl ?_
      refine R_bipush (v := 99) dX10_nearest_55 (by decide) ?_
      refine R_icmp_ne (tgt := 64) dX10_nearest_57 rfl (fun c3 => ?_) (fun c3 => ?_)
      · refine R_iconst (v := 0) dX10_nearest_64 (by decide) ?_
        refine G_cV1 cw_X10_156 (s_X10_fails hf) dX10_nearest_65 (rcv cok10 (by first | exact rfl | assumption) (Nat.le_of_ble_eq_true rfl)) ⟨(Nat.le_of_ble_eq_true rfl), (Nat.le_of_ble_eq_true rfl), (Nat.le_of_ble_eq_true rfl), (Nat.le_of_ble_eq_true rfl)⟩ ?_
        rw [mst_mst]
        refine R_if_eq_t (tgt := 75) dX10_nearest_68 rfl (by decide) ?_
        refine R_iload_n dX10_nearest_75 rfl rfl ?_
        refine R_iret dX10_nearest_76 rfl (Nat.le_of_ble_eq_true rfl) (Nat.le_of_ble_eq_true rfl) ?_
        first | rw [aNe, ek, if_neg c1, if_pos c2, if_neg c3] | rw [aNe, if_neg c1, if_pos c2, if_neg c3] | rw [aNe, ek, if_neg c1, if_pos c2]
        first | exact ⟨rfl, rfl⟩ | (exfalso; revert c3; decide)
      · refine R_iconst (v := 2) dX10_nearest_60 (by decide) ?_
        refine R_goto (tgt := 65) dX10_nearest_61 rfl ?_
        refine G_cV1 cw_X10_156 (s_X10_fails hf) dX10_nearest_65 (rcv cok10 (by first | exact rfl | assumption) (Nat.le_of_ble_eq_true rfl)) ⟨(Nat.le_of_ble_eq_true rfl), (Nat.le_of_ble_eq_true rfl), (Nat.le_of_ble_eq_true rfl), (Nat.le_of_ble_eq_true rfl)⟩ ?_
        rw [mst_mst]
        refine R_if_eq_f (tgt := 75) dX10_nearest_68 rfl (by decide) ?_
        refine R_iconst (v := 0) dX10_nearest_71 (by decide) ?_
        refine R_goto (tgt := 76) dX10_nearest_72 rfl ?_
        refine R_iret dX10_nearest_76 rfl (Nat.le_of_ble_eq_true rfl) (Nat.le_of_ble_eq_true rfl) ?_
        first | rw [aNe, ek, if_neg c1, if_pos c2, if_pos c3] | rw [aNe, if_neg c1, if_pos c2, if_pos c3] | rw [aNe, ek, if_neg c1, if_pos c2]
        first | exact ⟨rfl, rfl⟩ | (exfalso; revert c3; decide)
    · refine R_aload_n dX10_nearest_30 rfl rfl ?_
      refine R_iload_n dX10_nearest_31 rfl rfl ?_
      refine R_aload_n dX10_nearest_32 rfl rfl ?_
      refine R_iload_n dX10_nearest_33 rfl rfl ?_
      refine R_iconst (v := 3) dX10_nearest_34 (by decide) ?_
      refine G_cV2 cw_X10_69 (s_X10_of hf (k := k) (w := 3) (by omega) (by decide) (by decide)) dX10_nearest_35 (rcv cok10 (by first | exact rfl | assumption) (Nat.le_of_ble_eq_true rfl)) ⟨(Nat.le_of_ble_eq_true rfl), (Nat.le_of_ble_eq_true rfl), (Nat.le_of_ble_eq_true rfl), (Nat.le_of_ble_eq_true rfl)⟩ ?_
      refine R_aload_n dX10_nearest_38 rfl rfl ?_
      refine R_iload_n dX10_nearest_39 rfl rfl ?_
      refine R_iconst (v := 4) dX10_nearest_40 (by decide) ?_
      refine G_cV2 cw_X10_69 (s_X10_of hf (k := k) (w := 4) (by omega) (by decide) (by decide)) dX10_nearest_41 (rcv cok10 (by first | exact rfl | assumption) (Nat.le_of_ble_eq_true rfl)) ⟨(Nat.le_of_ble_eq_true rfl), (Nat.le_of_ble_eq_true rfl), (Nat.le_of_ble_eq_true rfl), (Nat.le_of_ble_eq_true rfl)⟩ ?_
      refine G_cV3 cw_X10_83 (s_X10_far (M := mst M 464 9 0) hf hn hg) dX10_nearest_44 (rcv cok10 (by first | exact rfl | assumption) (Nat.le_of_ble_eq_true rfl)) ⟨(Nat.le_of_ble_eq_true rfl), (Nat.le_of_ble_eq_true rfl), (Nat.le_of_ble_eq_true rfl), (Nat.le_of_ble_eq_true rfl)⟩ ?_
      refine R_goto (tgt := 52) dX10_nearest_47 rfl ?_
      refine R_istore_n dX10_nearest_52 rfl (by decide) (st2 rfl) ?_
      refine R_aload_n dX10_nearest_53 rfl rfl ?_
      refine R_iload_n dX10_nearest_54 rfl rfl ?_
      refine R_bipush (v := 99) dX10_nearest_55 (by decide) ?_
      refine R_icmp_ne (tgt := 64) dX10_nearest_57 rfl (fun c4 => ?_) (fun c4 => ?_)
      · refine R_iconst (v := 0) dX10_nearest_64 (by decide) ?_
        refine G_cV1 cw_X10_156 (s_X10_fails hf) dX10_nearest_65 (rcv cok10 (by first | exact rfl | assumption) (Nat.le_of_ble_eq_true rfl)) ⟨(Nat.le_of_ble_eq_true rfl), (Nat.le_of_ble_eq_true rfl), (Nat.le_of_ble_eq_true rfl), (Nat.le_of_ble_eq_true rfl)⟩ ?_
        rw [mst_mst]
        refine R_if_eq_t (tgt := 75) dX10_nearest_68 rfl (by decide) ?_
        refine R_iload_n dX10_nearest_75 rfl rfl ?_
        refine R_iret dX10_nearest_76 rfl (Nat.le_of_ble_eq_true rfl) (Nat.le_of_ble_eq_true rfl) ?_
        first | rw [aNe, ek, if_neg c1, if_neg c2, if_neg c4] | rw [aNe, if_neg c1, if_neg c2, if_neg c4] | rw [aNe, ek, if_neg c1, if_pos c2]
        first | exact ⟨rfl, rfl⟩ | (exfalso; revert c3; decide)
      · refine R_iconst (v := 2) dX10_nearest_60 (by decide) ?_
        refine R_goto (tgt := 65) dX10_nearest_61 rfl ?_
        refine G_cV1 cw_X10_156 (s_X10_fails hf) dX10_nearest_65 (rcv cok10 (by first | exact rfl | assumption) (Nat.le_of_ble_eq_true rfl)) ⟨(Nat.le_of_ble_eq_true rfl), (Nat.le_of_ble_eq_true rfl), (Nat.le_of_ble_eq_true rfl), (Nat.le_of_ble_eq_true rfl)⟩ ?_
        rw [mst_mst]
        refine R_if_eq_f (tgt := 75) dX10_nearest_68 rfl (by decide) ?_
        refine R_iconst (v := 0) dX10_nearest_71 (by decide) ?_
        refine R_goto (tgt := 76) dX10_nearest_72 rfl ?_
        refine R_iret dX10_nearest_76 rfl (Nat.le_of_ble_eq_true rfl) (Nat.le_of_ble_eq_true rfl) ?_
        first | rw [aNe, ek, if_neg c1, if_neg c2, if_pos c4] | rw [aNe, if_neg c1, if_neg c2, if_pos c4] | rw [aNe, ek, if_neg c1, if_pos c2]
        first | exact ⟨rfl, rfl⟩ | (exfalso; revert c3; decide)
def rBest (M : MM) (x p : Int32) (n : Nat) (m : Nat) : Int32 × Int32 := itN (fun i s => if s.2 < rFar M x p (nI i) n then (nI i, rFar M x p (nI i) n) else s) (-1, 0) m
theorem L_X10_bestHook {l : Launch} (hf : l.stackTraces = false) {n : Nat} (hn : n ≤ 12) (hg : M 465 0 = nI n) {x p : Int32} {m2 : Nat} (e2 : m2 = 10) : ∀ (j i : Nat), i + j = m2 → Q_X10_bestHook l (VI (if (rBest M x p n m2).1 < 0 then 0 else (rBest M x p n m2).1) (hp (if (rBest M x p n m2).1 < 0 then mst M 464 9 2 else mst M 464 9 0) r)) 39 (L9 (some (.ref 464)) (some (.int x)) (some (.int p)) (some (.int (rBest M x p n i).1)) (some (.int (rBest M x p n i).2)) (some (.int (nI i))) none none none) [] (hp (M) r) := by
  intro j
  induction j with
  | zero =>
    intro i hi
    have hin : m2 = i := by omega
    subst hin
    refine R_iload dX10_bestHook_39 (by decide) rfl ?_
    refine R_bipush (v := 10) dX10_bestHook_41 (by decide) ?_
    refine R_icmp_ge_t (tgt := 79) dX10_bestHook_43 rfl (by rw [e2]; decide) ?_
    refine R_aload_n dX10_bestHook_79 rfl rfl ?_
    refine R_iload_n dX10_bestHook_80 rfl rfl ?_
    refine R_if_geN (tgt := 88) dX10_bestHook_81 rfl (fun c1 => ?_) (fun c1 => ?_)
    · refine R_iconst (v := 0) dX10_bestHook_88 (by decide) ?_
      refine G_cV1 cw_X10_156 (s_X10_fails hf) dX10_bestHook_89 (rcv cok10 (by first | exact rfl | assumption) (Nat.le_of_ble_eq_true rfl)) ⟨(Nat.le_of_ble_eq_true rfl), (Nat.le_of_ble_eq_true rfl), (Nat.le_of_ble_eq_true rfl), (Nat.le_of_ble_eq_true rfl)⟩ ?_
      refine R_if_eq_t (tgt := 99) dX10_bestHook_92 rfl (by decide) ?_
      refine R_iload_n dX10_bestHook_99 rfl rfl ?_
      refine R_iret dX10_bestHook_100 rfl (Nat.le_of_ble_eq_true rfl) (Nat.le_of_ble_eq_true rfl) ?_
      first | rw [if_pos c1, if_pos c1] | rw [if_neg c1, if_neg c1]
      exact ⟨rfl, rfl⟩
    · refine R_iconst (v := 2) dX10_bestHook_84 (by decide) ?_
      refine R_goto (tgt := 89) dX10_bestHook_85 rfl ?_
      refine G_cV1 cw_X10_156 (s_X10_fails hf) dX10_bestHook_89 (rcv cok10 (by first | exact rfl | assumption) (Nat.le_of_ble_eq_true rfl)) ⟨(Nat.le_of_ble_eq_true rfl), (Nat.le_of_ble_eq_true rfl), (Nat.le_of_ble_eq_true rfl), (Nat.le_of_ble_eq_true rfl)⟩ ?_
      refine R_if_eq_f (tgt := 99) dX10_bestHook_92 rfl (by decide) ?_
      refine R_iconst (v := 0) dX10_bestHook_95 (by decide) ?_
      refine R_goto (tgt := 100) dX10_bestHook_96 rfl ?_
      refine R_iret dX10_bestHook_100 rfl (Nat.le_of_ble_eq_true rfl) (Nat.le_of_ble_eq_true rfl) ?_
      first | rw [if_pos c1, if_pos c1] | rw [if_neg c1, if_neg c1]
      exact ⟨rfl, rfl⟩
  | succ j ih =>
    intro i hi
    have hi1 : i < m2 := by omega
    refine R_iload dX10_bestHook_39 (by decide) rfl ?_
    refine R_bipush (v := 10) dX10_bestHook_41 (by decide) ?_
    refine R_icmp_ge_f (tgt := 79) dX10_bestHook_43 rfl (nI_ge (b := 10) (by omega) (by omega)) ?_
    refine R_aload_n dX10_bestHook_46 rfl rfl ?_
    refine R_iload_n dX10_bestHook_47 rfl rfl ?_
    refine R_iload_n dX10_bestHook_48 rfl rfl ?_
    refine R_iload dX10_bestHook_49 (by decide) rfl ?_
    refine G_cV3 cw_X10_83 (s_X10_far hf hn hg) dX10_bestHook_51 (rcv cok10 (by first | exact rfl | assumption) (Nat.le_of_ble_eq_true rfl)) ⟨(Nat.le_of_ble_eq_true rfl), (Nat.le_of_ble_eq_true rfl), (Nat.le_of_ble_eq_true rfl), (Nat.le_of_ble_eq_true rfl)⟩ ?_
    refine R_istore dX10_bestHook_54 (by decide) (st6 rfl) ?_
    refine R_iload dX10_bestHook_56 (by decide) rfl ?_
    refine R_iload dX10_bestHook_58 (by decide) rfl ?_
    refine R_icmp_gt (tgt := 66) dX10_bestHook_60 rfl (fun c1 => ?_) (fun c1 => ?_)
    · refine R_iload dX10_bestHook_66 (by decide) rfl ?_
      refine R_istore dX10_bestHook_68 (by decide) (st4 rfl) ?_
      refine R_iload dX10_bestHook_70 (by decide) rfl ?_
      refine R_istore_n dX10_bestHook_72 rfl (by decide) (st3 rfl) ?_
      first | refine R_iincN dX10_bestHook_73 (by decide) rfl (by decide) (st5 rfl) ?_ | refine R_iinc1 dX10_bestHook_73 (by decide) rfl (by decide) (st5 rfl) ?_
      refine R_goto (tgt := 39) dX10_bestHook_76 rfl ?_
      have h9 := ih (i + 1) (by omega)
      rw [show rBest M x p n (i + 1) = (if (rBest M x p n i).2 < rFar M x p (nI i) n then (nI i, rFar M x p (nI i) n) else rBest M x p n i) from rfl] at h9
      first | (rw [if_pos c1] at h9; refine R_weak dr6 ?_; exact h9) | (rw [if_neg c1] at h9; refine R_weak dr6 ?_; exact h9)
    · refine R_goto (tgt := 73) dX10_bestHook_63 rfl ?_
      first | refine R_iincN dX10_bestHook_73 (by decide) rfl (by decide) (st5 rfl) ?_ | refine R_iinc1 dX10_bestHook_73 (by decide) rfl (by decide) (st5 rfl) ?_
      refine R_goto (tgt := 39) dX10_bestHook_76 rfl ?_
      have h9 := ih (i + 1) (by omega)
      rw [show rBest M x p n (i + 1) = (if (rBest M x p n i).2 < rFar M x p (nI i) n then (nI i, rFar M x p (nI i) n) else rBest M x p n i) from rfl] at h9
      first | (rw [if_pos c1] at h9; refine R_weak dr6 ?_; exact h9) | (rw [if_neg c1] at h9; refine R_weak dr6 ?_; exact h9)
theorem mst_464 {M : MM} {x y : Int32} : mst (mst M 464 9 x) 464 9 y = mst M 464 9 y := mst_mst
theorem L_X10_crowded {l : Launch} (hf : l.stackTraces = false) {n : Nat} (hn : n ≤ 12) (hg : M 465 0 = nI n) : ∀ (j i : Nat), i + j = n → Q_X10_crowded l (VI (itN (fun i s => s + (if zb (rNear M i n) = 0 then 0 else 1)) 0 n) (hp M r)) 9 (L9 (some (.ref 464)) (some (.int (itN (fun i s => s + (if zb (rNear M i n) = 0 then 0 else 1)) 0 i))) (some (.int (nI i))) none none none none none none) [] (hp (M) r) := by
  intro j
  induction j with
  | zero =>
    intro i hi
    have hin : n = i := by omega
    subst hin
    refine R_iload_n dX10_crowded_9 rfl rfl ?_
    refine R_aload_n dX10_crowded_10 rfl rfl ?_
    refine G_get cok10 0 wf_X10_7 dX10_crowded_11 (by first | exact rfl | assumption) ⟨(Nat.le_of_ble_eq_true rfl), (Nat.le_of_ble_eq_true rfl)⟩ rfl ?_
    refine R_iconst (v := 0) dX10_crowded_14 (by decide) ?_
    refine G_iald dX10_crowded_15 (by first | exact rfl | assumption) (show vp_in (nI 0) 140 from nI_in12 (by omega) (by omega)) ?_
    refine R_topE (show M 465 _ = nI n from hg) ?_
    refine R_icmp_ge_t (tgt := 41) dX10_crowded_16 rfl (nI_le (by omega) (by omega)) ?_
    refine R_iload_n dX10_crowded_41 rfl rfl ?_
    refine R_iret dX10_crowded_42 rfl (Nat.le_of_ble_eq_true rfl) (Nat.le_of_ble_eq_true rfl) ?_
    exact ⟨rfl, rfl⟩
  | succ j ih =>
    intro i hi
    have hi1 : i < n := by omega
    refine R_iload_n dX10_crowded_9 rfl rfl ?_
    refine R_aload_n dX10_crowded_10 rfl rfl ?_
    refine G_get cok10 0 wf_X10_7 dX10_crowded_11 (by first | exact rfl | assumption) ⟨(Nat.le_of_ble_eq_true rfl), (Nat.le_of_ble_eq_true rfl)⟩ rfl ?_
    refine R_iconst (v := 0) dX10_crowded_14 (by decide) ?_
    refine G_iald dX10_crowded_15 (by first | exact rfl | assumption) (show vp_in (nI 0) 140 from nI_in12 (by omega) (by omega)) ?_
    refine R_topE (show M 465 _ = nI n from hg) ?_
    refine R_icmp_ge_f (tgt := 41) dX10_crowded_16 rfl (nI_ge (by omega) (by omega)) ?_
    refine R_iload_n dX10_crowded_19 rfl rfl ?_
    refine R_aload_n dX10_crowded_20 rfl rfl ?_
    refine R_iload_n dX10_crowded_21 rfl rfl ?_
    refine G_cV1 cw_X10_100 (s_X10_isNear hf hn hg (by omega)) dX10_crowded_22 (rcv cok10 (by first | exact rfl | assumption) (Nat.le_of_ble_eq_true rfl)) ⟨(Nat.le_of_ble_eq_true rfl), (Nat.le_of_ble_eq_true rfl), (Nat.le_of_ble_eq_true rfl), (Nat.le_of_ble_eq_true rfl)⟩ ?_
    refine R_if_eq (tgt := 32) dX10_crowded_25 rfl (fun c1 => ?_) (fun c1 => ?_)
    · refine R_iconst (v := 0) dX10_crowded_32 (by decide) ?_
      refine R_iadd dX10_crowded_33 ?_
      refine R_istore_n dX10_crowded_34 rfl (by decide) (st1 rfl) ?_
      first | refine R_iincN dX10_crowded_35 (by decide) rfl (by decide) (st2 rfl) ?_ | refine R_iinc1 dX10_crowded_35 (by decide) rfl (by decide) (st2 rfl) ?_
      refine R_goto (tgt := 9) dX10_crowded_38 rfl ?_
      have h9 := ih (i + 1) (by omega)
      simp only [itN] at h9
      repeat' split at h9
      all_goals first | exact h9 | (exfalso; contradiction)
    · refine R_iconst (v := 1) dX10_crowded_28 (by decide) ?_
      refine R_goto (tgt := 33) dX10_crowded_29 rfl ?_
      refine R_iadd dX10_crowded_33 ?_
      refine R_istore_n dX10_crowded_34 rfl (by decide) (st1 rfl) ?_
      first | refine R_iincN dX10_crowded_35 (by decide) rfl (by decide) (st2 rfl) ?_ | refine R_iinc1 dX10_crowded_35 (by decide) rfl (by decide) (st2 rfl) ?_
      refine R_goto (tgt := 9) dX10_crowded_38 rfl ?_
      have h9 := ih (i + 1) (by omega)
      simp only [itN] at h9
      repeat' split at h9
      all_goals first | exact h9 | (exfalso; contradiction)
abbrev rCrC (M : MM) (n : Nat) : Int32 := itN (fun i s => s + (if zb (rNear M i n) = 0 then 0 else 1)) 0 n
theorem s_X10_crowded {l : Launch} (hf : l.stackTraces = false) {n : Nat} (hn : n ≤ 12) (hg : M 465 0 = nI n) : V_X10_crowded l [.ref 464] (hp M r) (VI (rCrC (mst M 464 9 0) n) (hp (mst M 464 9 0) r)) := by
  refine VM.intro (lf := L9 (some (.ref 464)) none none none none none none none none) (by decide +kernel) hf (fun _ => (Nat.le_of_ble_eq_true rfl)) (fun _ => rfl) ?_
  refine R_aload_n dX10_crowded_0 rfl rfl ?_
  refine R_iconst (v := 0) dX10_crowded_1 (by decide) ?_
  refine G_put cok10 9 wf_X10_39 dX10_crowded_2 (by first | exact rfl | assumption) rfl ⟨(Nat.le_of_ble_eq_true rfl), rfl, (Nat.le_of_ble_eq_true rfl)⟩ ⟨rfl, rfl⟩ ?_
  refine R_iconst (v := 0) dX10_crowded_5 (by decide) ?_
  refine R_istore_n dX10_crowded_6 rfl (by decide) (st1 rfl) ?_
  refine R_iconst (v := 0) dX10_crowded_7 (by decide) ?_
  refine R_istore_n dX10_crowded_8 rfl (by decide) (st2 rfl) ?_
  exact L_X10_crowded (M := mst M 464 9 0) hf hn hg n 0 (by omega)
end P26
