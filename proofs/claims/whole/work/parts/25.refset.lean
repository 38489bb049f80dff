abbrev rfM (M : MM) (x y : Int32) : MM := mst (mst (mst (mst M 464 9 1) 464 10 x) 464 11 y) 464 12 (if M 464 7 = 0 then 0 else M 464 8)
abbrev rMany (M : MM) (v : Int32) (n : Nat) : Int32 := itN (fun i s => s + (if oF M i 2 = v then 1 else 0)) 0 n
abbrev rOnR (M : MM) (p : Int32) (n : Nat) : Int32 := itN (fun i s => s + (if zb (rHang M i) = 0 then 0 else if oF M i 3 = p then 1 else 0)) 0 n
abbrev rBuC (M : MM) (n : Nat) : Int32 := itN (fun i s => s + (if zb (rBurnt M i) = 0 then 0 else 1)) 0 n
theorem inB_k {x : Int32} {n : Nat} (hn : n ≤ 12) (h : ¬ zb (inB x 0 (nI n - 1)) = 0) : ∃ k, k < n ∧ x = nI k := by
  have h1 : inB x 0 (nI n - 1) = true := by simpa [zb_n0] using h
  simp only [inB, Bool.and_eq_true, Bool.not_eq_true', decide_eq_false_iff_not] at h1
  have h2 := Int32.not_lt.mp h1.1
  have h3 := Int32.not_lt.mp h1.2
  rw [Int32.le_iff_toInt_le] at h2 h3
  have e0 : (0 : Int32).toInt = 0 := rfl
  have e1 : ∀ m, m < 13 → (nI m - 1).toInt = (m : Int) - 1 := by decide +kernel
  rw [e1 n (by omega)] at h3
  refine ⟨x.toInt.toNat, by omega, ?_⟩
  apply Int32.toInt_inj.mp
  rw [nI_toInt (by omega)]
  omega
section P25
variable {M : MM} {r : MR}
def tBri (M : MM) (n c : Nat) (x : Int32) : Int32 × MM := if zb (inB x 0 (nI n - 1)) = 0 then (0, rfM M 3 (nI n)) else if 0 < oF M x.toNatClampNeg 2 then (0, rfM M 4 (oF M x.toNatClampNeg 2)) else (rMany (mst (kpR M 465 c) 465 (8 + 11 * x.toNatClampNeg + 2) 1) 1 n, mst (kpR M 465 c) 465 (8 + 11 * x.toNatClampNeg + 2) 1)
theorem s_X10_brine {l : Launch} (hf : l.stackTraces = false) {n : Nat} (hn : n ≤ 12) (hg : M 465 0 = nI n) {c : Nat} (hc : c ≤ 8) (h6 : M 464 6 = nI c) {x : Int32} : V_X10_brine l [.ref 464, .int x] (hp M r) (VI (tBri M n c x).1 (hp (tBri M n c x).2 r)) := by
  refine VM.intro (lf := L9 (some (.ref 464)) (some (.int x)) none none none none none none none) (by decide +kernel) hf (fun _ => (Nat.le_of_ble_eq_true rfl)) (fun _ => rfl) ?_
  refine R_aload_n dX10_brine_0 rfl rfl ?_
  refine R_iload_n dX10_brine_1 rfl rfl ?_
  refine G_cV1 cw_X10_121 (s_X10_isFish hf hn hg) dX10_brine_2 (rcv cok10 (by first | exact rfl | assumption) (Nat.le_of_ble_eq_true rfl)) ⟨(Nat.le_of_ble_eq_true rfl), (Nat.le_of_ble_eq_true rfl), (Nat.le_of_ble_eq_true rfl), (Nat.le_of_ble_eq_true rfl)⟩ ?_
  refine R_if_ne (tgt := 20) dX10_brine_5 rfl (fun c1 => ?_) (fun c1 => ?_)
  · obtain ⟨k, hk, rfl⟩ := inB_k hn (by assumption)
    have ek : (nI k).toNatClampNeg = k := nI_cl (by omega)
    have hk12 : k < 12 := by omega
    refine R_aload_n dX10_brine_20 rfl rfl ?_
    refine R_iload_n dX10_brine_21 rfl rfl ?_
    refine R_iconst (v := 2) dX10_brine_22 (by decide) ?_
    refine G_cV2 cw_X10_69 (s_X10_of hf (k := k) (w := 2) (by omega) (by decide) (by decide)) dX10_brine_23 (rcv cok10 (by first | exact rfl | assumption) (Nat.le_of_ble_eq_true rfl)) ⟨(Nat.le_of_ble_eq_true rfl), (Nat.le_of_ble_eq_true rfl), (Nat.le_of_ble_eq_true rfl), (Nat.le_of_ble_eq_true rfl)⟩ ?_
    refine R_if_leN (tgt := 41) dX10_brine_26 rfl (fun c2 => ?_) (fun c2 => ?_)
    · refine R_aload_n dX10_brine_41 rfl rfl ?_
      refine R_aload_n dX10_brine_42 rfl rfl ?_
      refine G_get cok10 0 wf_X10_7 dX10_brine_43 (by first | exact rfl | assumption) ⟨(Nat.le_of_ble_eq_true rfl), (Nat.le_of_ble_eq_true rfl)⟩ rfl ?_
      refine G_cV1v cw_X10_117 (s_X10_keeps hf (a := 465) rfl rfl (by decide) hc h6) dX10_brine_46 (rcv cok10 (by first | exact rfl | assumption) (Nat.le_of_ble_eq_true rfl)) ⟨(Nat.le_of_ble_eq_true rfl), (Nat.le_of_ble_eq_true rfl), (Nat.le_of_ble_eq_true rfl), (Nat.le_of_ble_eq_true rfl)⟩ ?_
      have fK : ∀ y, kpR M 465 c 465 y = M 465 y := fun y => kpR_fr (by decide) (Or.inl (by decide))
      have hgK : kpR M 465 c 465 0 = nI n := (fK 0).trans hg
      refine R_aload_n dX10_brine_49 rfl rfl ?_
      refine R_iload_n dX10_brine_50 rfl rfl ?_
      refine R_iconst (v := 2) dX10_brine_51 (by decide) ?_
      refine R_iconst (v := 1) dX10_brine_52 (by decide) ?_
      refine G_cV3v cw_X10_103 (s_X10_lays hf (k := k) (w := 2) (by omega) (by omega) (by decide)) dX10_brine_53 (rcv cok10 (by first | exact rfl | assumption) (Nat.le_of_ble_eq_true rfl)) ⟨(Nat.le_of_ble_eq_true rfl), (Nat.le_of_ble_eq_true rfl), (Nat.le_of_ble_eq_true rfl), (Nat.le_of_ble_eq_true rfl)⟩ ?_
      refine R_aload_n dX10_brine_56 rfl rfl ?_
      refine R_iconst (v := 1) dX10_brine_57 (by decide) ?_
      refine G_cV1 cw_X10_124 (s_X10_many hf hn ((mst_ne2 (by omega)).trans hgK)) dX10_brine_58 (rcv cok10 (by first | exact rfl | assumption) (Nat.le_of_ble_eq_true rfl)) ⟨(Nat.le_of_ble_eq_true rfl), (Nat.le_of_ble_eq_true rfl), (Nat.le_of_ble_eq_true rfl), (Nat.le_of_ble_eq_true rfl)⟩ ?_
      refine R_iret dX10_brine_61 rfl (Nat.le_of_ble_eq_true rfl) (Nat.le_of_ble_eq_true rfl) ?_
      first | rw [tBri, ek, if_neg c1, if_neg c2] | rw [tBri, if_neg c1, if_neg c2]
      first | exact ⟨rfl, rfl⟩ | skip
    · refine R_aload_n dX10_brine_29 rfl rfl ?_
      refine R_iconst (v := 4) dX10_brine_30 (by decide) ?_
      refine R_aload_n dX10_brine_31 rfl rfl ?_
      refine R_iload_n dX10_brine_32 rfl rfl ?_
      refine R_iconst (v := 2) dX10_brine_33 (by decide) ?_
      refine G_cV2 cw_X10_69 (s_X10_of hf (k := k) (w := 2) (by omega) (by decide) (by decide)) dX10_brine_34 (rcv cok10 (by first | exact rfl | assumption) (Nat.le_of_ble_eq_true rfl)) ⟨(Nat.le_of_ble_eq_true rfl), (Nat.le_of_ble_eq_true rfl), (Nat.le_of_ble_eq_true rfl), (Nat.le_of_ble_eq_true rfl)⟩ ?_
      refine G_cV2 cw_X10_114 (show VD l _ _ _ _ _ _ _ (some (.int 0)) (hp (rfM M _ _) r) from s_X10_refuses hf) dX10_brine_37 (rcv cok10 (by first | exact rfl | assumption) (Nat.le_of_ble_eq_true rfl)) ⟨(Nat.le_of_ble_eq_true rfl), (Nat.le_of_ble_eq_true rfl), (Nat.le_of_ble_eq_true rfl), (Nat.le_of_ble_eq_true rfl)⟩ ?_
      refine R_iret dX10_brine_40 rfl (Nat.le_of_ble_eq_true rfl) (Nat.le_of_ble_eq_true rfl) ?_
      first | rw [tBri, ek, if_neg c1, if_pos c2] | rw [tBri, if_neg c1, if_pos c2]
      first | exact ⟨rfl, rfl⟩ | skip
  · refine R_aload_n dX10_brine_8 rfl rfl ?_
    refine R_iconst (v := 3) dX10_brine_9 (by decide) ?_
    refine R_aload_n dX10_brine_10 rfl rfl ?_
    refine G_get cok10 0 wf_X10_7 dX10_brine_11 (by first | exact rfl | assumption) ⟨(Nat.le_of_ble_eq_true rfl), (Nat.le_of_ble_eq_true rfl)⟩ rfl ?_
    refine R_iconst (v := 0) dX10_brine_14 (by decide) ?_
    refine G_iald dX10_brine_15 (by first | exact rfl | assumption) (show vp_in (nI 0) 140 from nI_in12 (by omega) (by omega)) ?_
    refine R_topE (show M 465 _ = nI n from hg) ?_
    refine G_cV2 cw_X10_114 (show VD l _ _ _ _ _ _ _ (some (.int 0)) (hp (rfM M _ _) r) from s_X10_refuses hf) dX10_brine_16 (rcv cok10 (by first | exact rfl | assumption) (Nat.le_of_ble_eq_true rfl)) ⟨(Nat.le_of_ble_eq_true rfl), (Nat.le_of_ble_eq_true rfl), (Nat.le_of_ble_eq_true rfl), (Nat.le_of_ble_eq_true rfl)⟩ ?_
    refine R_iret dX10_brine_19 rfl (Nat.le_of_ble_eq_true rfl) (Nat.le_of_ble_eq_true rfl) ?_
    first | rw [tBri, ek, if_pos c1] | rw [tBri, if_pos c1]
    first | exact ⟨rfl, rfl⟩ | skip
def tOut (M : MM) (n c : Nat) (x : Int32) : Int32 × MM := if zb (inB x 0 (nI n - 1)) = 0 then (0, rfM M 3 (nI n)) else if oF M x.toNatClampNeg 2 = 0 then (0, rfM M 5 x) else (oF (mst (mst (mst (mst (kpR M 465 c) 465 (8 + 11 * x.toNatClampNeg + 2) 0) 465 (8 + 11 * x.toNatClampNeg + 3) (-1)) 465 (8 + 11 * x.toNatClampNeg + 4) (-1)) 465 (8 + 11 * x.toNatClampNeg + 6) 0) x.toNatClampNeg 1, mst (mst (mst (mst (kpR M 465 c) 465 (8 + 11 * x.toNatClampNeg + 2) 0) 465 (8 + 11 * x.toNatClampNeg + 3) (-1)) 465 (8 + 11 * x.toNatClampNeg + 4) (-1)) 465 (8 + 11 * x.toNatClampNeg + 6) 0)
theorem s_X10_out {l : Launch} (hf : l.stackTraces = false) {n : Nat} (hn : n ≤ 12) (hg : M 465 0 = nI n) {c : Nat} (hc : c ≤ 8) (h6 : M 464 6 = nI c) {x : Int32} : V_X10_out l [.ref 464, .int x] (hp M r) (VI (tOut M n c x).1 (hp (tOut M n c x).2 r)) := by
  refine VM.intro (lf := L9 (some (.ref 464)) (some (.int x)) none none none none none none none) (by decide +kernel) hf (fun _ => (Nat.le_of_ble_eq_true rfl)) (fun _ => rfl) ?_
  refine R_aload_n dX10_out_0 rfl rfl ?_
  refine R_iload_n dX10_out_1 rfl rfl ?_
  refine G_cV1 cw_X10_121 (s_X10_isFish hf hn hg) dX10_out_2 (rcv cok10 (by first | exact rfl | assumption) (Nat.le_of_ble_eq_true rfl)) ⟨(Nat.le_of_ble_eq_true rfl), (Nat.le_of_ble_eq_true rfl), (Nat.le_of_ble_eq_true rfl), (Nat.le_of_ble_eq_true rfl)⟩ ?_
  refine R_if_ne (tgt := 20) dX10_out_5 rfl (fun c1 => ?_) (fun c1 => ?_)
  · obtain ⟨k, hk, rfl⟩ := inB_k hn (by assumption)
    have ek : (nI k).toNatClampNeg = k := nI_cl (by omega)
    have hk12 : k < 12 := by omega
    refine R_aload_n dX10_out_20 rfl rfl ?_
    refine R_iload_n dX10_out_21 rfl rfl ?_
    refine R_iconst (v := 2) dX10_out_22 (by decide) ?_
    refine G_cV2 cw_X10_69 (s_X10_of hf (k := k) (w := 2) (by omega) (by decide) (by decide)) dX10_out_23 (rcv cok10 (by first | exact rfl | assumption) (Nat.le_of_ble_eq_true rfl)) ⟨(Nat.le_of_ble_eq_true rfl), (Nat.le_of_ble_eq_true rfl), (Nat.le_of_ble_eq_true rfl), (Nat.le_of_ble_eq_true rfl)⟩ ?_
    refine R_if_ne (tgt := 36) dX10_out_26 rfl (fun c2 => ?_) (fun c2 => ?_)
    · refine R_aload_n dX10_out_36 rfl rfl ?_
      refine R_aload_n dX10_out_37 rfl rfl ?_
      refine G_get cok10 0 wf_X10_7 dX10_out_38 (by first | exact rfl | assumption) ⟨(Nat.le_of_ble_eq_true rfl), (Nat.le_of_ble_eq_true rfl)⟩ rfl ?_
      refine G_cV1v cw_X10_117 (s_X10_keeps hf (a := 465) rfl rfl (by decide) hc h6) dX10_out_41 (rcv cok10 (by first | exact rfl | assumption) (Nat.le_of_ble_eq_true rfl)) ⟨(Nat.le_of_ble_eq_true rfl), (Nat.le_of_ble_eq_true rfl), (Nat.le_of_ble_eq_true rfl), (Nat.le_of_ble_eq_true rfl)⟩ ?_
      refine R_aload_n dX10_out_44 rfl rfl ?_
      refine R_iload_n dX10_out_45 rfl rfl ?_
      refine R_iconst (v := 2) dX10_out_46 (by decide) ?_
      refine R_iconst (v := 0) dX10_out_47 (by decide) ?_
      refine G_cV3v cw_X10_103 (s_X10_lays hf (k := k) (w := 2) (by omega) (by omega) (by decide)) dX10_out_48 (rcv cok10 (by first | exact rfl | assumption) (Nat.le_of_ble_eq_true rfl)) ⟨(Nat.le_of_ble_eq_true rfl), (Nat.le_of_ble_eq_true rfl), (Nat.le_of_ble_eq_true rfl), (Nat.le_of_ble_eq_true rfl)⟩ ?_
      refine R_aload_n dX10_out_51 rfl rfl ?_
      refine R_iload_n dX10_out_52 rfl rfl ?_
      refine R_iconst (v := 3) dX10_out_53 (by decide) ?_
      refine R_iconst (v := (-1)) dX10_out_54 (by decide) ?_
      refine G_cV3v cw_X10_103 (s_X10_lays hf (k := k) (w := 3) (by omega) (by omega) (by decide)) dX10_out_55 (rcv cok10 (by first | exact rfl | assumption) (Nat.le_of_ble_eq_true rfl)) ⟨(Nat.le_of_ble_eq_true rfl), (Nat.le_of_ble_eq_true rfl), (Nat.le_of_ble_eq_true rfl), (Nat.le_of_ble_eq_true rfl)⟩ ?_
      refine R_aload_n dX10_out_58 rfl rfl ?_
      refine R_iload_n dX10_out_59 rfl rfl ?_
      refine R_iconst (v := 4) dX10_out_60 (by decide) ?_
      refine R_iconst (v := (-1)) dX10_out_61 (by decide) ?_
      refine G_cV3v cw_X10_103 (s_X10_lays hf (k := k) (w := 4) (by omega) (by omega) (by decide)) dX10_out_62 (rcv cok10 (by first | exact rfl | assumption) (Nat.le_of_ble_eq_true rfl)) ⟨(Nat.le_of_ble_eq_true rfl), (Nat.le_of_ble_eq_true rfl), (Nat.le_of_ble_eq_true rfl), (Nat.le_of_ble_eq_true rfl)⟩ ?_
      refine R_aload_n dX10_out_65 rfl rfl ?_
      refine R_iload_n dX10_out_66 rfl rfl ?_
      refine R_bipush (v := 6) dX10_out_67 (by decide) ?_
      refine R_iconst (v := 0) dX10_out_69 (by decide) ?_
      refine G_cV3v cw_X10_103 (s_X10_lays hf (k := k) (w := 6) (by omega) (by omega) (by decide)) dX10_out_70 (rcv cok10 (by first | exact rfl | assumption) (Nat.le_of_ble_eq_true rfl)) ⟨(Nat.le_of_ble_eq_true rfl), (Nat.le_of_ble_eq_true rfl), (Nat.le_of_ble_eq_true rfl), (Nat.le_of_ble_eq_true rfl)⟩ ?_
      refine R_aload_n dX10_out_73 rfl rfl ?_
      refine R_iload_n dX10_out_74 rfl rfl ?_
      refine R_iconst (v := 1) dX10_out_75 (by decide) ?_
      refine G_cV2 cw_X10_69 (s_X10_of hf (k := k) (w := 1) (by omega) (by decide) (by decide)) dX10_out_76 (rcv cok10 (by first | exact rfl | assumption) (Nat.le_of_ble_eq_true rfl)) ⟨(Nat.le_of_ble_eq_true rfl), (Nat.le_of_ble_eq_true rfl), (Nat.le_of_ble_eq_true rfl), (Nat.le_of_ble_eq_true rfl)⟩ ?_
      refine R_iret dX10_out_79 rfl (Nat.le_of_ble_eq_true rfl) (Nat.le_of_ble_eq_true rfl) ?_
      first | rw [tOut, ek, if_neg c1, if_neg c2] | rw [tOut, if_neg c1, if_neg c2]
      first | exact ⟨rfl, rfl⟩ | skip
    · refine R_aload_n dX10_out_29 rfl rfl ?_
      refine R_iconst (v := 5) dX10_out_30 (by decide) ?_
      refine R_iload_n dX10_out_31 rfl rfl ?_
      refine G_cV2 cw_X10_114 (show VD l _ _ _ _ _ _ _ (some (.int 0)) (hp (rfM M _ _) r) from s_X10_refuses hf) dX10_out_32 (rcv cok10 (by first | exact rfl | assumption) (Nat.le_of_ble_eq_true rfl)) ⟨(Nat.le_of_ble_eq_true rfl), (Nat.le_of_ble_eq_true rfl), (Nat.le_of_ble_eq_true rfl), (Nat.le_of_ble_eq_true rfl)⟩ ?_
      refine R_iret dX10_out_35 rfl (Nat.le_of_ble_eq_true rfl) (Nat.le_of_ble_eq_true rfl) ?_
      first | rw [tOut, ek, if_neg c1, if_pos c2] | rw [tOut, if_neg c1, if_pos c2]
      first | exact ⟨rfl, rfl⟩ | skip
  · refine R_aload_n dX10_out_8 rfl rfl ?_
    refine R_iconst (v := 3) dX10_out_9 (by decide) ?_
    refine R_aload_n dX10_out_10 rfl rfl ?_
    refine G_get cok10 0 wf_X10_7 dX10_out_11 (by first | exact rfl | assumption) ⟨(Nat.le_of_ble_eq_true rfl), (Nat.le_of_ble_eq_true rfl)⟩ rfl ?_
    refine R_iconst (v := 0) dX10_out_14 (by decide) ?_
    refine G_iald dX10_out_15 (by first | exact rfl | assumption) (show vp_in (nI 0) 140 from nI_in12 (by omega) (by omega)) ?_
    refine R_topE (show M 465 _ = nI n from hg) ?_
    refine G_cV2 cw_X10_114 (show VD l _ _ _ _ _ _ _ (some (.int 0)) (hp (rfM M _ _) r) from s_X10_refuses hf) dX10_out_16 (rcv cok10 (by first | exact rfl | assumption) (Nat.le_of_ble_eq_true rfl)) ⟨(Nat.le_of_ble_eq_true rfl), (Nat.le_of_ble_eq_true rfl), (Nat.le_of_ble_eq_true rfl), (Nat.le_of_ble_eq_true rfl)⟩ ?_
    refine R_iret dX10_out_19 rfl (Nat.le_of_ble_eq_true rfl) (Nat.le_of_ble_eq_true rfl) ?_
    first | rw [tOut, ek, if_pos c1] | rw [tOut, if_pos c1]
    first | exact ⟨rfl, rfl⟩ | skip
def tTur (M : MM) (n c : Nat) (x : Int32) : Int32 × MM := if zb (inB x 0 (nI n - 1)) = 0 then (0, rfM M 3 (nI n)) else if zb (rHang M x.toNatClampNeg) = 0 then (0, rfM M 7 (oF M x.toNatClampNeg 2)) else (oF (rTu (kpR M 465 c) x.toNatClampNeg) x.toNatClampNeg 5, rTu (kpR M 465 c) x.toNatClampNeg)
theorem s_X10_turn {l : Launch} (hf : l.stackTraces = false) {n : Nat} (hn : n ≤ 12) (hg : M 465 0 = nI n) {c : Nat} (hc : c ≤ 8) (h6 : M 464 6 = nI c) {x : Int32} : V_X10_turn l [.ref 464, .int x] (hp M r) (VI (tTur M n c x).1 (hp (tTur M n c x).2 r)) := by
  refine VM.intro (lf := L9 (some (.ref 464)) (some (.int x)) none none none none none none none) (by decide +kernel) hf (fun _ => (Nat.le_of_ble_eq_true rfl)) (fun _ => rfl) ?_
  refine R_aload_n dX10_turn_0 rfl rfl ?_
  refine R_iload_n dX10_turn_1 rfl rfl ?_
  refine G_cV1 cw_X10_121 (s_X10_isFish hf hn hg) dX10_turn_2 (rcv cok10 (by first | exact rfl | assumption) (Nat.le_of_ble_eq_true rfl)) ⟨(Nat.le_of_ble_eq_true rfl), (Nat.le_of_ble_eq_true rfl), (Nat.le_of_ble_eq_true rfl), (Nat.le_of_ble_eq_true rfl)⟩ ?_
  refine R_if_ne (tgt := 20) dX10_turn_5 rfl (fun c1 => ?_) (fun c1 => ?_)
  · obtain ⟨k, hk, rfl⟩ := inB_k hn (by assumption)
    have ek : (nI k).toNatClampNeg = k := nI_cl (by omega)
    have hk12 : k < 12 := by omega
    refine R_aload_n dX10_turn_20 rfl rfl ?_
    refine R_iload_n dX10_turn_21 rfl rfl ?_
    refine G_cV1 cw_X10_73 (s_X10_hangs hf hk12) dX10_turn_22 (rcv cok10 (by first | exact rfl | assumption) (Nat.le_of_ble_eq_true rfl)) ⟨(Nat.le_of_ble_eq_true rfl), (Nat.le_of_ble_eq_true rfl), (Nat.le_of_ble_eq_true rfl), (Nat.le_of_ble_eq_true rfl)⟩ ?_
    refine R_if_ne (tgt := 41) dX10_turn_25 rfl (fun c2 => ?_) (fun c2 => ?_)
    · refine R_aload_n dX10_turn_41 rfl rfl ?_
      refine R_aload_n dX10_turn_42 rfl rfl ?_
      refine G_get cok10 0 wf_X10_7 dX10_turn_43 (by first | exact rfl | assumption) ⟨(Nat.le_of_ble_eq_true rfl), (Nat.le_of_ble_eq_true rfl)⟩ rfl ?_
      refine G_cV1v cw_X10_117 (s_X10_keeps hf (a := 465) rfl rfl (by decide) hc h6) dX10_turn_46 (rcv cok10 (by first | exact rfl | assumption) (Nat.le_of_ble_eq_true rfl)) ⟨(Nat.le_of_ble_eq_true rfl), (Nat.le_of_ble_eq_true rfl), (Nat.le_of_ble_eq_true rfl), (Nat.le_of_ble_eq_true rfl)⟩ ?_
      refine R_aload_n dX10_turn_49 rfl rfl ?_
      refine R_iload_n dX10_turn_50 rfl rfl ?_
      refine G_cV1v cw_X10_137 (s_X10_turns hf hk12) dX10_turn_51 (rcv cok10 (by first | exact rfl | assumption) (Nat.le_of_ble_eq_true rfl)) ⟨(Nat.le_of_ble_eq_true rfl), (Nat.le_of_ble_eq_true rfl), (Nat.le_of_ble_eq_true rfl), (Nat.le_of_ble_eq_true rfl)⟩ ?_
      refine R_aload_n dX10_turn_54 rfl rfl ?_
      refine R_iload_n dX10_turn_55 rfl rfl ?_
      refine R_iconst (v := 5) dX10_turn_56 (by decide) ?_
      refine G_cV2 cw_X10_69 (s_X10_of hf (k := k) (w := 5) (by omega) (by decide) (by decide)) dX10_turn_57 (rcv cok10 (by first | exact rfl | assumption) (Nat.le_of_ble_eq_true rfl)) ⟨(Nat.le_of_ble_eq_true rfl), (Nat.le_of_ble_eq_true rfl), (Nat.le_of_ble_eq_true rfl), (Nat.le_of_ble_eq_true rfl)⟩ ?_
      refine R_iret dX10_turn_60 rfl (Nat.le_of_ble_eq_true rfl) (Nat.le_of_ble_eq_true rfl) ?_
      first | rw [tTur, ek, if_neg c1, if_neg c2] | rw [tTur, if_neg c1, if_neg c2]
      first | exact ⟨rfl, rfl⟩ | skip
    · refine R_aload_n dX10_turn_28 rfl rfl ?_
      refine R_bipush (v := 7) dX10_turn_29 (by decide) ?_
      refine R_aload_n dX10_turn_31 rfl rfl ?_
      refine R_iload_n dX10_turn_32 rfl rfl ?_
      refine R_iconst (v := 2) dX10_turn_33 (by decide) ?_
      refine G_cV2 cw_X10_69 (s_X10_of hf (k := k) (w := 2) (by omega) (by decide) (by decide)) dX10_turn_34 (rcv cok10 (by first | exact rfl | assumption) (Nat.le_of_ble_eq_true rfl)) ⟨(Nat.le_of_ble_eq_true rfl), (Nat.le_of_ble_eq_true rfl), (Nat.le_of_ble_eq_true rfl), (Nat.le_of_ble_eq_true rfl)⟩ ?_
      refine G_cV2 cw_X10_114 (show VD l _ _ _ _ _ _ _ (some (.int 0)) (hp (rfM M _ _) r) from s_X10_refuses hf) dX10_turn_37 (rcv cok10 (by first | exact rfl | assumption) (Nat.le_of_ble_eq_true rfl)) ⟨(Nat.le_of_ble_eq_true rfl), (Nat.le_of_ble_eq_true rfl), (Nat.le_of_ble_eq_true rfl), (Nat.le_of_ble_eq_true rfl)⟩ ?_
      refine R_iret dX10_turn_40 rfl (Nat.le_of_ble_eq_true rfl) (Nat.le_of_ble_eq_true rfl) ?_
      first | rw [tTur, ek, if_neg c1, if_pos c2] | rw [tTur, if_neg c1, if_pos c2]
      first | exact ⟨rfl, rfl⟩ | skip
  · refine R_aload_n dX10_turn_8 rfl rfl ?_
    refine R_iconst (v := 3) dX10_turn_9 (by decide) ?_
    refine R_aload_n dX10_turn_10 rfl rfl ?_
    refine G_get cok10 0 wf_X10_7 dX10_turn_11 (by first | exact rfl | assumption) ⟨(Nat.le_of_ble_eq_true rfl), (Nat.le_of_ble_eq_true rfl)⟩ rfl ?_
    refine R_iconst (v := 0) dX10_turn_14 (by decide) ?_
    refine G_iald dX10_turn_15 (by first | exact rfl | assumption) (show vp_in (nI 0) 140 from nI_in12 (by omega) (by omega)) ?_
    refine R_topE (show M 465 _ = nI n from hg) ?_
    refine G_cV2 cw_X10_114 (show VD l _ _ _ _ _ _ _ (some (.int 0)) (hp (rfM M _ _) r) from s_X10_refuses hf) dX10_turn_16 (rcv cok10 (by first | exact rfl | assumption) (Nat.le_of_ble_eq_true rfl)) ⟨(Nat.le_of_ble_eq_true rfl), (Nat.le_of_ble_eq_true rfl), (Nat.le_of_ble_eq_true rfl), (Nat.le_of_ble_eq_true rfl)⟩ ?_
    refine R_iret dX10_turn_19 rfl (Nat.le_of_ble_eq_true rfl) (Nat.le_of_ble_eq_true rfl) ?_
    first | rw [tTur, ek, if_pos c1] | rw [tTur, if_pos c1]
    first | exact ⟨rfl, rfl⟩ | skip
def tLog (M : MM) (n c : Nat) (v : Int32) : Int32 × MM := if zb (inB v 1 12) = 0 then (0, rfM M 1 0) else if 12 < M 465 1 + v then (0, rfM M 2 12) else ((mst (kpR M 465 c) 465 1 (kpR M 465 c 465 1 + v)) 465 1, mst (kpR M 465 c) 465 1 (kpR M 465 c 465 1 + v))
theorem s_X10_logs {l : Launch} (hf : l.stackTraces = false) {n : Nat} (hn : n ≤ 12) (hg : M 465 0 = nI n) {c : Nat} (hc : c ≤ 8) (h6 : M 464 6 = nI c) {v : Int32} : V_X10_logs l [.ref 464, .int v] (hp M r) (VI (tLog M n c v).1 (hp (tLog M n c v).2 r)) := by
  refine VM.intro (lf := L9 (some (.ref 464)) (some (.int v)) none none none none none none none) (by decide +kernel) hf (fun _ => (Nat.le_of_ble_eq_true rfl)) (fun _ => rfl) ?_
  refine R_iload_n dX10_logs_0 rfl rfl ?_
  refine R_iconst (v := 1) dX10_logs_1 (by decide) ?_
  refine R_bipush (v := 12) dX10_logs_2 (by decide) ?_
  refine G_cS3 cw_X10_65 (s_X10_in hf) dX10_logs_4 ⟨(Nat.le_of_ble_eq_true rfl), (Nat.le_of_ble_eq_true rfl), (Nat.le_of_ble_eq_true rfl), (Nat.le_of_ble_eq_true rfl)⟩ ?_
  refine R_if_ne (tgt := 17) dX10_logs_7 rfl (fun c1 => ?_) (fun c1 => ?_)
  · refine R_aload_n dX10_logs_17 rfl rfl ?_
    refine G_get cok10 0 wf_X10_7 dX10_logs_18 (by first | exact rfl | assumption) ⟨(Nat.le_of_ble_eq_true rfl), (Nat.le_of_ble_eq_true rfl)⟩ rfl ?_
    refine R_iconst (v := 1) dX10_logs_21 (by decide) ?_
    refine G_iald dX10_logs_22 (by first | exact rfl | assumption) (show vp_in (nI 1) 140 from nI_in12 (by omega) (by omega)) ?_
    refine R_topE (show M 465 _ = M 465 1 from rfl) ?_
    refine R_iload_n dX10_logs_23 rfl rfl ?_
    refine R_iadd dX10_logs_24 ?_
    refine R_bipush (v := 12) dX10_logs_25 (by decide) ?_
    refine R_icmp_leN (tgt := 38) dX10_logs_27 rfl (fun c2 => ?_) (fun c2 => ?_)
    · refine R_aload_n dX10_logs_38 rfl rfl ?_
      refine R_aload_n dX10_logs_39 rfl rfl ?_
      refine G_get cok10 0 wf_X10_7 dX10_logs_40 (by first | exact rfl | assumption) ⟨(Nat.le_of_ble_eq_true rfl), (Nat.le_of_ble_eq_true rfl)⟩ rfl ?_
      refine G_cV1v cw_X10_117 (s_X10_keeps hf (a := 465) rfl rfl (by decide) hc h6) dX10_logs_43 (rcv cok10 (by first | exact rfl | assumption) (Nat.le_of_ble_eq_true rfl)) ⟨(Nat.le_of_ble_eq_true rfl), (Nat.le_of_ble_eq_true rfl), (Nat.le_of_ble_eq_true rfl), (Nat.le_of_ble_eq_true rfl)⟩ ?_
      refine R_aload_n dX10_logs_46 rfl rfl ?_
      refine G_get cok10 0 wf_X10_7 dX10_logs_47 (by first | exact rfl | assumption) ⟨(Nat.le_of_ble_eq_true rfl), (Nat.le_of_ble_eq_true rfl)⟩ rfl ?_
      refine R_iconst (v := 1) dX10_logs_50 (by decide) ?_
      refine R_dup2 dX10_logs_51 rfl rfl ?_
      refine G_iald dX10_logs_52 (by first | exact rfl | assumption) (show vp_in (nI 1) 140 from nI_in12 (by omega) (by omega)) ?_
      refine R_topE (show kpR M 465 c 465 _ = kpR M 465 c 465 1 from rfl) ?_
      refine R_iload_n dX10_logs_53 rfl rfl ?_
      refine R_iadd dX10_logs_54 ?_
      refine G_iast dX10_logs_55 (by first | exact rfl | assumption) (show vp_in (nI 1) 140 from nI_in12 (by omega) (by omega)) ?_
      rw [show (1 : Int32).toNatClampNeg = 1 from rfl]
      refine R_aload_n dX10_logs_56 rfl rfl ?_
      refine G_get cok10 0 wf_X10_7 dX10_logs_57 (by first | exact rfl | assumption) ⟨(Nat.le_of_ble_eq_true rfl), (Nat.le_of_ble_eq_true rfl)⟩ rfl ?_
      refine R_iconst (v := 1) dX10_logs_60 (by decide) ?_
      refine G_iald dX10_logs_61 (by first | exact rfl | assumption) (show vp_in (nI 1) 140 from nI_in12 (by omega) (by omega)) ?_
      refine R_topE (show mst (kpR M 465 c) 465 1 (kpR M 465 c 465 1 + v) 465 _ = mst (kpR M 465 c) 465 1 (kpR M 465 c 465 1 + v) 465 1 from rfl) ?_
      refine R_iret dX10_logs_62 rfl (Nat.le_of_ble_eq_true rfl) (Nat.le_of_ble_eq_true rfl) ?_
      rw [tLog, if_neg c1, if_neg c2]
      first | exact ⟨rfl, rfl⟩ | skip
    · refine R_aload_n dX10_logs_30 rfl rfl ?_
      refine R_iconst (v := 2) dX10_logs_31 (by decide) ?_
      refine R_bipush (v := 12) dX10_logs_32 (by decide) ?_
      refine G_cV2 cw_X10_114 (show VD l _ _ _ _ _ _ _ (some (.int 0)) (hp (rfM M _ _) r) from s_X10_refuses hf) dX10_logs_34 (rcv cok10 (by first | exact rfl | assumption) (Nat.le_of_ble_eq_true rfl)) ⟨(Nat.le_of_ble_eq_true rfl), (Nat.le_of_ble_eq_true rfl), (Nat.le_of_ble_eq_true rfl), (Nat.le_of_ble_eq_true rfl)⟩ ?_
      refine R_iret dX10_logs_37 rfl (Nat.le_of_ble_eq_true rfl) (Nat.le_of_ble_eq_true rfl) ?_
      rw [tLog, if_neg c1, if_pos c2]
      first | exact ⟨rfl, rfl⟩ | skip
  · refine R_aload_n dX10_logs_10 rfl rfl ?_
    refine R_iconst (v := 1) dX10_logs_11 (by decide) ?_
    refine R_iconst (v := 0) dX10_logs_12 (by decide) ?_
    refine G_cV2 cw_X10_114 (show VD l _ _ _ _ _ _ _ (some (.int 0)) (hp (rfM M _ _) r) from s_X10_refuses hf) dX10_logs_13 (rcv cok10 (by first | exact rfl | assumption) (Nat.le_of_ble_eq_true rfl)) ⟨(Nat.le_of_ble_eq_true rfl), (Nat.le_of_ble_eq_true rfl), (Nat.le_of_ble_eq_true rfl), (Nat.le_of_ble_eq_true rfl)⟩ ?_
    refine R_iret dX10_logs_16 rfl (Nat.le_of_ble_eq_true rfl) (Nat.le_of_ble_eq_true rfl) ?_
    rw [tLog, if_pos c1]
    first | exact ⟨rfl, rfl⟩ | skip
def tWoo (M : MM) (n c : Nat) (v : Int32) : Int32 × MM := if zb (inB v 0 3) = 0 then (0, rfM M 1 0) else if M 465 2 = v then (0, rfM M 9 v) else (M 465 2, mst (kpR M 465 c) 465 2 v)
theorem s_X10_wood {l : Launch} (hf : l.stackTraces = false) {n : Nat} (hn : n ≤ 12) (hg : M 465 0 = nI n) {c : Nat} (hc : c ≤ 8) (h6 : M 464 6 = nI c) {v : Int32} : V_X10_wood l [.ref 464, .int v] (hp M r) (VI (tWoo M n c v).1 (hp (tWoo M n c v).2 r)) := by
  refine VM.intro (lf := L9 (some (.ref 464)) (some (.int v)) none none none none none none none) (by decide +kernel) hf (fun _ => (Nat.le_of_ble_eq_true rfl)) (fun _ => rfl) ?_
  refine R_iload_n dX10_wood_0 rfl rfl ?_
  refine R_iconst (v := 0) dX10_wood_1 (by decide) ?_
  refine R_iconst (v := 3) dX10_wood_2 (by decide) ?_
  refine G_cS3 cw_X10_65 (s_X10_in hf) dX10_wood_3 ⟨(Nat.le_of_ble_eq_true rfl), (Nat.le_of_ble_eq_true rfl), (Nat.le_of_ble_eq_true rfl), (Nat.le_of_ble_eq_true rfl)⟩ ?_
  refine R_if_ne (tgt := 16) dX10_wood_6 rfl (fun c1 => ?_) (fun c1 => ?_)
  · refine R_aload_n dX10_wood_16 rfl rfl ?_
    refine G_get cok10 0 wf_X10_7 dX10_wood_17 (by first | exact rfl | assumption) ⟨(Nat.le_of_ble_eq_true rfl), (Nat.le_of_ble_eq_true rfl)⟩ rfl ?_
    refine R_iconst (v := 2) dX10_wood_20 (by decide) ?_
    refine G_iald dX10_wood_21 (by first | exact rfl | assumption) (show vp_in (nI 2) 140 from nI_in12 (by omega) (by omega)) ?_
    refine R_topE (show M 465 _ = M 465 2 from rfl) ?_
    refine R_istore_n dX10_wood_22 rfl (by decide) (st2 rfl) ?_
    refine R_iload_n dX10_wood_23 rfl rfl ?_
    refine R_iload_n dX10_wood_24 rfl rfl ?_
    refine R_icmp_ne (tgt := 36) dX10_wood_25 rfl (fun c2 => ?_) (fun c2 => ?_)
    · refine R_aload_n dX10_wood_36 rfl rfl ?_
      refine R_aload_n dX10_wood_37 rfl rfl ?_
      refine G_get cok10 0 wf_X10_7 dX10_wood_38 (by first | exact rfl | assumption) ⟨(Nat.le_of_ble_eq_true rfl), (Nat.le_of_ble_eq_true rfl)⟩ rfl ?_
      refine G_cV1v cw_X10_117 (s_X10_keeps hf (a := 465) rfl rfl (by decide) hc h6) dX10_wood_41 (rcv cok10 (by first | exact rfl | assumption) (Nat.le_of_ble_eq_true rfl)) ⟨(Nat.le_of_ble_eq_true rfl), (Nat.le_of_ble_eq_true rfl), (Nat.le_of_ble_eq_true rfl), (Nat.le_of_ble_eq_true rfl)⟩ ?_
      refine R_aload_n dX10_wood_44 rfl rfl ?_
      refine G_get cok10 0 wf_X10_7 dX10_wood_45 (by first | exact rfl | assumption) ⟨(Nat.le_of_ble_eq_true rfl), (Nat.le_of_ble_eq_true rfl)⟩ rfl ?_
      refine R_iconst (v := 2) dX10_wood_48 (by decide) ?_
      refine R_iload_n dX10_wood_49 rfl rfl ?_
      refine G_iast dX10_wood_50 (by first | exact rfl | assumption) (show vp_in (nI 2) 140 from nI_in12 (by omega) (by omega)) ?_
      rw [show (2 : Int32).toNatClampNeg = 2 from rfl]
      refine R_iload_n dX10_wood_51 rfl rfl ?_
      refine R_iret dX10_wood_52 rfl (Nat.le_of_ble_eq_true rfl) (Nat.le_of_ble_eq_true rfl) ?_
      rw [tWoo, if_neg c1, if_neg c2]
      first | exact ⟨rfl, rfl⟩ | skip
    · refine R_aload_n dX10_wood_28 rfl rfl ?_
      refine R_bipush (v := 9) dX10_wood_29 (by decide) ?_
      refine R_iload_n dX10_wood_31 rfl rfl ?_
      refine G_cV2 cw_X10_114 (show VD l _ _ _ _ _ _ _ (some (.int 0)) (hp (rfM M _ _) r) from s_X10_refuses hf) dX10_wood_32 (rcv cok10 (by first | exact rfl | assumption) (Nat.le_of_ble_eq_true rfl)) ⟨(Nat.le_of_ble_eq_true rfl), (Nat.le_of_ble_eq_true rfl), (Nat.le_of_ble_eq_true rfl), (Nat.le_of_ble_eq_true rfl)⟩ ?_
      refine R_iret dX10_wood_35 rfl (Nat.le_of_ble_eq_true rfl) (Nat.le_of_ble_eq_true rfl) ?_
      rw [tWoo, if_neg c1, if_pos c2]
      first | exact ⟨rfl, rfl⟩ | skip
  · refine R_aload_n dX10_wood_9 rfl rfl ?_
    refine R_iconst (v := 1) dX10_wood_10 (by decide) ?_
    refine R_iconst (v := 0) dX10_wood_11 (by decide) ?_
    refine G_cV2 cw_X10_114 (show VD l _ _ _ _ _ _ _ (some (.int 0)) (hp (rfM M _ _) r) from s_X10_refuses hf) dX10_wood_12 (rcv cok10 (by first | exact rfl | assumption) (Nat.le_of_ble_eq_true rfl)) ⟨(Nat.le_of_ble_eq_true rfl), (Nat.le_of_ble_eq_true rfl), (Nat.le_of_ble_eq_true rfl), (Nat.le_of_ble_eq_true rfl)⟩ ?_
    refine R_iret dX10_wood_15 rfl (Nat.le_of_ble_eq_true rfl) (Nat.le_of_ble_eq_true rfl) ?_
    rw [tWoo, if_pos c1]
    first | exact ⟨rfl, rfl⟩ | skip
def tHan (M : MM) (n c : Nat) (x p q : Int32) : Int32 × MM := if zb (inB p 0 3 && inB q 0 9) = 0 then (0, rfM M 1 0) else if zb (inB x 0 (nI n - 1)) = 0 then (0, rfM M 3 (nI n)) else if 0 < oF M x.toNatClampNeg 2 then (0, rfM M 4 (oF M x.toNatClampNeg 2)) else if rOn M p q n < 0 then (rOnR (mst (mst (mst (kpR M 465 c) 465 (8 + 11 * x.toNatClampNeg + 2) 2) 465 (8 + 11 * x.toNatClampNeg + 3) p) 465 (8 + 11 * x.toNatClampNeg + 4) q) p n, mst (mst (mst (kpR M 465 c) 465 (8 + 11 * x.toNatClampNeg + 2) 2) 465 (8 + 11 * x.toNatClampNeg + 3) p) 465 (8 + 11 * x.toNatClampNeg + 4) q) else (0, rfM M 6 (rOn M p q n))
theorem s_X10_hang {l : Launch} (hf : l.stackTraces = false) {n : Nat} (hn : n ≤ 12) (hg : M 465 0 = nI n) {c : Nat} (hc : c ≤ 8) (h6 : M 464 6 = nI c) {x p q : Int32} : V_X10_hang l [.ref 464, .int x, .int p, .int q] (hp M r) (VI (tHan M n c x p q).1 (hp (tHan M n c x p q).2 r)) := by
  refine VM.intro (lf := L9 (some (.ref 464)) (some (.int x)) (some (.int p)) (some (.int q)) none none none none none) (by decide +kernel) hf (fun _ => (Nat.le_of_ble_eq_true rfl)) (fun _ => rfl) ?_
  refine R_iload_n dX10_hang_0 rfl rfl ?_
  refine R_iload_n dX10_hang_1 rfl rfl ?_
  refine G_cS2 cw_X10_127 (s_X10_isHook hf) dX10_hang_2 ⟨(Nat.le_of_ble_eq_true rfl), (Nat.le_of_ble_eq_true rfl), (Nat.le_of_ble_eq_true rfl), (Nat.le_of_ble_eq_true rfl)⟩ ?_
  refine R_if_ne (tgt := 15) dX10_hang_5 rfl (fun c1 => ?_) (fun c1 => ?_)
  · refine R_aload_n dX10_hang_15 rfl rfl ?_
    refine R_iload_n dX10_hang_16 rfl rfl ?_
    refine G_cV1 cw_X10_121 (s_X10_isFish hf hn hg) dX10_hang_17 (rcv cok10 (by first | exact rfl | assumption) (Nat.le_of_ble_eq_true rfl)) ⟨(Nat.le_of_ble_eq_true rfl), (Nat.le_of_ble_eq_true rfl), (Nat.le_of_ble_eq_true rfl), (Nat.le_of_ble_eq_true rfl)⟩ ?_
    refine R_if_ne (tgt := 35) dX10_hang_20 rfl (fun c2 => ?_) (fun c2 => ?_)
    · obtain ⟨k, hk, rfl⟩ := inB_k hn (by assumption)
      have ek : (nI k).toNatClampNeg = k := nI_cl (by omega)
      have hk12 : k < 12 := by omega
      refine R_aload_n dX10_hang_35 rfl rfl ?_
      refine R_iload_n dX10_hang_36 rfl rfl ?_
      refine R_iconst (v := 2) dX10_hang_37 (by decide) ?_
      refine G_cV2 cw_X10_69 (s_X10_of hf (k := k) (w := 2) (by omega) (by decide) (by decide)) dX10_hang_38 (rcv cok10 (by first | exact rfl | assumption) (Nat.le_of_ble_eq_true rfl)) ⟨(Nat.le_of_ble_eq_true rfl), (Nat.le_of_ble_eq_true rfl), (Nat.le_of_ble_eq_true rfl), (Nat.le_of_ble_eq_true rfl)⟩ ?_
      refine R_if_leN (tgt := 56) dX10_hang_41 rfl (fun c3 => ?_) (fun c3 => ?_)
      · refine R_aload_n dX10_hang_56 rfl rfl ?_
        refine R_iload_n dX10_hang_57 rfl rfl ?_
        refine R_iload_n dX10_hang_58 rfl rfl ?_
        refine G_cV2 cw_X10_131 (s_X10_onHook hf hn hg) dX10_hang_59 (rcv cok10 (by first | exact rfl | assumption) (Nat.le_of_ble_eq_true rfl)) ⟨(Nat.le_of_ble_eq_true rfl), (Nat.le_of_ble_eq_true rfl), (Nat.le_of_ble_eq_true rfl), (Nat.le_of_ble_eq_true rfl)⟩ ?_
        refine R_if_lt (tgt := 78) dX10_hang_62 rfl (fun c4 => ?_) (fun c4 => ?_)
        · refine R_aload_n dX10_hang_78 rfl rfl ?_
          refine R_aload_n dX10_hang_79 rfl rfl ?_
          refine G_get cok10 0 wf_X10_7 dX10_hang_80 (by first | exact rfl | assumption) ⟨(Nat.le_of_ble_eq_true rfl), (Nat.le_of_ble_eq_true rfl)⟩ rfl ?_
          refine G_cV1v cw_X10_117 (s_X10_keeps hf (a := 465) rfl rfl (by decide) hc h6) dX10_hang_83 (rcv cok10 (by first | exact rfl | assumption) (Nat.le_of_ble_eq_true rfl)) ⟨(Nat.le_of_ble_eq_true rfl), (Nat.le_of_ble_eq_true rfl), (Nat.le_of_ble_eq_true rfl), (Nat.le_of_ble_eq_true rfl)⟩ ?_
          have fK : ∀ y, kpR M 465 c 465 y = M 465 y := fun y => kpR_fr (by decide) (Or.inl (by decide))
          have hgK : kpR M 465 c 465 0 = nI n := (fK 0).trans hg
          refine R_aload_n dX10_hang_86 rfl rfl ?_
          refine R_iload_n dX10_hang_87 rfl rfl ?_
          refine R_iconst (v := 2) dX10_hang_88 (by decide) ?_
          refine R_iconst (v := 2) dX10_hang_89 (by decide) ?_
          refine G_cV3v cw_X10_103 (s_X10_lays hf (k := k) (w := 2) (by omega) (by omega) (by decide)) dX10_hang_90 (rcv cok10 (by first | exact rfl | assumption) (Nat.le_of_ble_eq_true rfl)) ⟨(Nat.le_of_ble_eq_true rfl), (Nat.le_of_ble_eq_true rfl), (Nat.le_of_ble_eq_true rfl), (Nat.le_of_ble_eq_true rfl)⟩ ?_
          refine R_aload_n dX10_hang_93 rfl rfl ?_
          refine R_iload_n dX10_hang_94 rfl rfl ?_
          refine R_iconst (v := 3) dX10_hang_95 (by decide) ?_
          refine R_iload_n dX10_hang_96 rfl rfl ?_
          refine G_cV3v cw_X10_103 (s_X10_lays hf (k := k) (w := 3) (by omega) (by omega) (by decide)) dX10_hang_97 (rcv cok10 (by first | exact rfl | assumption) (Nat.le_of_ble_eq_true rfl)) ⟨(Nat.le_of_ble_eq_true rfl), (Nat.le_of_ble_eq_true rfl), (Nat.le_of_ble_eq_true rfl), (Nat.le_of_ble_eq_true rfl)⟩ ?_
          refine R_aload_n dX10_hang_100 rfl rfl ?_
          refine R_iload_n dX10_hang_101 rfl rfl ?_
          refine R_iconst (v := 4) dX10_hang_102 (by decide) ?_
          refine R_iload_n dX10_hang_103 rfl rfl ?_
          refine G_cV3v cw_X10_103 (s_X10_lays hf (k := k) (w := 4) (by omega) (by omega) (by decide)) dX10_hang_104 (rcv cok10 (by first | exact rfl | assumption) (Nat.le_of_ble_eq_true rfl)) ⟨(Nat.le_of_ble_eq_true rfl), (Nat.le_of_ble_eq_true rfl), (Nat.le_of_ble_eq_true rfl), (Nat.le_of_ble_eq_true rfl)⟩ ?_
          refine R_aload_n dX10_hang_107 rfl rfl ?_
          refine R_iload_n dX10_hang_108 rfl rfl ?_
          refine G_cV1 cw_X10_134 (s_X10_onRack hf hn ((mst_ne2 (by omega)).trans ((mst_ne2 (by omega)).trans ((mst_ne2 (by omega)).trans hgK)))) dX10_hang_109 (rcv cok10 (by first | exact rfl | assumption) (Nat.le_of_ble_eq_true rfl)) ⟨(Nat.le_of_ble_eq_true rfl), (Nat.le_of_ble_eq_true rfl), (Nat.le_of_ble_eq_true rfl), (Nat.le_of_ble_eq_true rfl)⟩ ?_
          refine R_iret dX10_hang_112 rfl (Nat.le_of_ble_eq_true rfl) (Nat.le_of_ble_eq_true rfl) ?_
          first | rw [tHan, ek, if_neg c1, if_neg c2, if_neg c3, if_pos c4] | rw [tHan, if_neg c1, if_neg c2, if_neg c3, if_pos c4]
          first | exact ⟨rfl, rfl⟩ | skip
        · refine R_aload_n dX10_hang_65 rfl rfl ?_
          refine R_bipush (v := 6) dX10_hang_66 (by decide) ?_
          refine R_aload_n dX10_hang_68 rfl rfl ?_
          refine R_iload_n dX10_hang_69 rfl rfl ?_
          refine R_iload_n dX10_hang_70 rfl rfl ?_
          refine G_cV2 cw_X10_131 (s_X10_onHook hf hn hg) dX10_hang_71 (rcv cok10 (by first | exact rfl | assumption) (Nat.le_of_ble_eq_true rfl)) ⟨(Nat.le_of_ble_eq_true rfl), (Nat.le_of_ble_eq_true rfl), (Nat.le_of_ble_eq_true rfl), (Nat.le_of_ble_eq_true rfl)⟩ ?_
          refine G_cV2 cw_X10_114 (show VD l _ _ _ _ _ _ _ (some (.int 0)) (hp (rfM M _ _) r) from s_X10_refuses hf) dX10_hang_74 (rcv cok10 (by first | exact rfl | assumption) (Nat.le_of_ble_eq_true rfl)) ⟨(Nat.le_of_ble_eq_true rfl), (Nat.le_of_ble_eq_true rfl), (Nat.le_of_ble_eq_true rfl), (Nat.le_of_ble_eq_true rfl)⟩ ?_
          refine R_iret dX10_hang_77 rfl (Nat.le_of_ble_eq_true rfl) (Nat.le_of_ble_eq_true rfl) ?_
          first | rw [tHan, ek, if_neg c1, if_neg c2, if_neg c3, if_neg c4] | rw [tHan, if_neg c1, if_neg c2, if_neg c3, if_neg c4]
          first | exact ⟨rfl, rfl⟩ | skip
      · refine R_aload_n dX10_hang_44 rfl rfl ?_
        refine R_iconst (v := 4) dX10_hang_45 (by decide) ?_
        refine R_aload_n dX10_hang_46 rfl rfl ?_
        refine R_iload_n dX10_hang_47 rfl rfl ?_
        refine R_iconst (v := 2) dX10_hang_48 (by decide) ?_
        refine G_cV2 cw_X10_69 (s_X10_of hf (k := k) (w := 2) (by omega) (by decide) (by decide)) dX10_hang_49 (rcv cok10 (by first | exact rfl | assumption) (Nat.le_of_ble_eq_true rfl)) ⟨(Nat.le_of_ble_eq_true rfl), (Nat.le_of_ble_eq_true rfl), (Nat.le_of_ble_eq_true rfl), (Nat.le_of_ble_eq_true rfl)⟩ ?_
        refine G_cV2 cw_X10_114 (show VD l _ _ _ _ _ _ _ (some (.int 0)) (hp (rfM M _ _) r) from s_X10_refuses hf) dX10_hang_52 (rcv cok10 (by first | exact rfl | assumption) (Nat.le_of_ble_eq_true rfl)) ⟨(Nat.le_of_ble_eq_true rfl), (Nat.le_of_ble_eq_true rfl), (Nat.le_of_ble_eq_true rfl), (Nat.le_of_ble_eq_true rfl)⟩ ?_
        refine R_iret dX10_hang_55 rfl (Nat.le_of_ble_eq_true rfl) (Nat.le_of_ble_eq_true rfl) ?_
        first | rw [tHan, ek, if_neg c1, if_neg c2, if_pos c3] | rw [tHan, if_neg c1, if_neg c2, if_pos c3]
        first | exact ⟨rfl, rfl⟩ | skip
    · refine R_aload_n dX10_hang_23 rfl rfl ?_
      refine R_iconst (v := 3) dX10_hang_24 (by decide) ?_
      refine R_aload_n dX10_hang_25 rfl rfl ?_
      refine G_get cok10 0 wf_X10_7 dX10_hang_26 (by first | exact rfl | assumption) ⟨(Nat.le_of_ble_eq_true rfl), (Nat.le_of_ble_eq_true rfl)⟩ rfl ?_
      refine R_iconst (v := 0) dX10_hang_29 (by decide) ?_
      refine G_iald dX10_hang_30 (by first | exact rfl | assumption) (show vp_in (nI 0) 140 from nI_in12 (by omega) (by omega)) ?_
      refine R_topE (show M 465 _ = nI n from hg) ?_
      refine G_cV2 cw_X10_114 (show VD l _ _ _ _ _ _ _ (some (.int 0)) (hp (rfM M _ _) r) from s_X10_refuses hf) dX10_hang_31 (rcv cok10 (by first | exact rfl | assumption) (Nat.le_of_ble_eq_true rfl)) ⟨(Nat.le_of_ble_eq_true rfl), (Nat.le_of_ble_eq_true rfl), (Nat.le_of_ble_eq_true rfl), (Nat.le_of_ble_eq_true rfl)⟩ ?_
      refine R_iret dX10_hang_34 rfl (Nat.le_of_ble_eq_true rfl) (Nat.le_of_ble_eq_true rfl) ?_
      first | rw [tHan, ek, if_neg c1, if_pos c2] | rw [tHan, if_neg c1, if_pos c2]
      first | exact ⟨rfl, rfl⟩ | skip
  · refine R_aload_n dX10_hang_8 rfl rfl ?_
    refine R_iconst (v := 1) dX10_hang_9 (by decide) ?_
    refine R_iconst (v := 0) dX10_hang_10 (by decide) ?_
    refine G_cV2 cw_X10_114 (show VD l _ _ _ _ _ _ _ (some (.int 0)) (hp (rfM M _ _) r) from s_X10_refuses hf) dX10_hang_11 (rcv cok10 (by first | exact rfl | assumption) (Nat.le_of_ble_eq_true rfl)) ⟨(Nat.le_of_ble_eq_true rfl), (Nat.le_of_ble_eq_true rfl), (Nat.le_of_ble_eq_true rfl), (Nat.le_of_ble_eq_true rfl)⟩ ?_
    refine R_iret dX10_hang_14 rfl (Nat.le_of_ble_eq_true rfl) (Nat.le_of_ble_eq_true rfl) ?_
    first | rw [tHan, ek, if_pos c1] | rw [tHan, if_pos c1]
    first | exact ⟨rfl, rfl⟩ | skip
def raR (M : MM) (p : Int32) (i : Nat) : MM := itN (fun i M' => if zb (rHang M' i) = 0 then M' else if oF M' i 3 = p then rTu M' i else M') M i
theorem raR_fr {M : MM} {p : Int32} {x y : Nat} (h : x ≠ 465 ∨ y < 8 ∨ ((y - 8) % 11 ≠ 5 ∧ (y - 8) % 11 ≠ 6)) : ∀ i, raR M p i x y = M x y
  | 0 => rfl
  | i + 1 => by
    show (if zb (rHang (raR M p i) i) = 0 then raR M p i else if oF (raR M p i) i 3 = p then rTu (raR M p i) i else raR M p i) x y = _
    split
    · exact raR_fr h i
    · split
      · rw [rTu, mst_ne (by omega), mst_ne (by omega)]; exact raR_fr h i
      · exact raR_fr h i
theorem L_X10_turnAll {l : Launch} (hf : l.stackTraces = false) {n : Nat} (hn : n ≤ 12) (hg : M 465 0 = nI n) {p x : Int32} : ∀ (j i : Nat), i + j = n → Q_X10_turnAll l (VI x (hp (raR M p n) r)) 44 (L9 (some (.ref 464)) (some (.int p)) (some (.int x)) (some (.int (nI i))) none none none none none) [] (hp (raR M p i) r) := by
  intro j
  induction j with
  | zero =>
    intro i hi
    have hin : n = i := by omega
    subst hin
    refine R_iload_n dX10_turnAll_44 rfl rfl ?_
    refine R_aload_n dX10_turnAll_45 rfl rfl ?_
    refine G_get cok10 0 wf_X10_7 dX10_turnAll_46 (by first | exact rfl | assumption) ⟨(Nat.le_of_ble_eq_true rfl), (Nat.le_of_ble_eq_true rfl)⟩ rfl ?_
    refine R_iconst (v := 0) dX10_turnAll_49 (by decide) ?_
    refine G_iald dX10_turnAll_50 (by first | exact rfl | assumption) (show vp_in (nI 0) 140 from nI_in12 (by omega) (by omega)) ?_
    refine R_topE (show raR M p _ 465 _ = nI n from (raR_fr (y := 0) (by omega) _).trans hg) ?_
    refine R_icmp_ge_t (tgt := 83) dX10_turnAll_51 rfl (nI_le (by omega) (by omega)) ?_
    refine R_iload_n dX10_turnAll_83 rfl rfl ?_
    refine R_iret dX10_turnAll_84 rfl (Nat.le_of_ble_eq_true rfl) (Nat.le_of_ble_eq_true rfl) ?_
    exact ⟨rfl, rfl⟩
  | succ j ih =>
    intro i hi
    have hi1 : i < n := by omega
    refine R_iload_n dX10_turnAll_44 rfl rfl ?_
    refine R_aload_n dX10_turnAll_45 rfl rfl ?_
    refine G_get cok10 0 wf_X10_7 dX10_turnAll_46 (by first | exact rfl | assumption) ⟨(Nat.le_of_ble_eq_true rfl), (Nat.le_of_ble_eq_true rfl)⟩ rfl ?_
    refine R_iconst (v := 0) dX10_turnAll_49 (by decide) ?_
    refine G_iald dX10_turnAll_50 (by first | exact rfl | assumption) (show vp_in (nI 0) 140 from nI_in12 (by omega) (by omega)) ?_
    refine R_topE (show raR M p _ 465 _ = nI n from (raR_fr (y := 0) (by omega) _).trans hg) ?_
    refine R_icmp_ge_f (tgt := 83) dX10_turnAll_51 rfl (nI_ge (by omega) (by omega)) ?_
    refine R_aload_n dX10_turnAll_54 rfl rfl ?_
    refine R_iload_n dX10_turnAll_55 rfl rfl ?_
    refine G_cV1 cw_X10_73 (s_X10_hangs hf (by omega)) dX10_turnAll_56 (rcv cok10 (by first | exact rfl | assumption) (Nat.le_of_ble_eq_true rfl)) ⟨(Nat.le_of_ble_eq_true rfl), (Nat.le_of_ble_eq_true rfl), (Nat.le_of_ble_eq_true rfl), (Nat.le_of_ble_eq_true rfl)⟩ ?_
    refine R_if_eq (tgt := 77) dX10_turnAll_59 rfl (fun c1 => ?_) (fun c1 => ?_)
    · first | refine R_iincN dX10_turnAll_77 (by decide) rfl (by decide) (st3 rfl) ?_ | refine R_iinc1 dX10_turnAll_77 (by decide) rfl (by decide) (st3 rfl) ?_
      refine R_goto (tgt := 44) dX10_turnAll_80 rfl ?_
      have h9 := ih (i + 1) (by omega)
      rw [show raR M p (i + 1) = (if zb (rHang (raR M p i) i) = 0 then raR M p i else if oF (raR M p i) i 3 = p then rTu (raR M p i) i else raR M p i) from rfl] at h9
      first | (rw [if_pos c1] at h9; exact h9) | (rw [if_neg c1, if_pos c2] at h9; exact h9) | (rw [if_neg c1, if_neg c2] at h9; exact h9)
    · refine R_aload_n dX10_turnAll_62 rfl rfl ?_
      refine R_iload_n dX10_turnAll_63 rfl rfl ?_
      refine R_iconst (v := 3) dX10_turnAll_64 (by decide) ?_
      refine G_cV2 cw_X10_69 (s_X10_of hf (k := i) (w := 3) (by omega) (by decide) (by decide)) dX10_turnAll_65 (rcv cok10 (by first | exact rfl | assumption) (Nat.le_of_ble_eq_true rfl)) ⟨(Nat.le_of_ble_eq_true rfl), (Nat.le_of_ble_eq_true rfl), (Nat.le_of_ble_eq_true rfl), (Nat.le_of_ble_eq_true rfl)⟩ ?_
      refine R_iload_n dX10_turnAll_68 rfl rfl ?_
      refine R_icmp_ne (tgt := 77) dX10_turnAll_69 rfl (fun c2 => ?_) (fun c2 => ?_)
      · first | refine R_iincN dX10_turnAll_77 (by decide) rfl (by decide) (st3 rfl) ?_ | refine R_iinc1 dX10_turnAll_77 (by decide) rfl (by decide) (st3 rfl) ?_
        refine R_goto (tgt := 44) dX10_turnAll_80 rfl ?_
        have h9 := ih (i + 1) (by omega)
        rw [show raR M p (i + 1) = (if zb (rHang (raR M p i) i) = 0 then raR M p i else if oF (raR M p i) i 3 = p then rTu (raR M p i) i else raR M p i) from rfl] at h9
        first | (rw [if_pos c1] at h9; exact h9) | (rw [if_neg c1, if_pos c2] at h9; exact h9) | (rw [if_neg c1, if_neg c2] at h9; exact h9)
      · refine R_aload_n dX10_turnAll_72 rfl rfl ?_
        refine R_iload_n dX10_turnAll_73 rfl rfl ?_
        refine G_cV1v cw_X10_137 (s_X10_turns hf (by omega)) dX10_turnAll_74 (rcv cok10 (by first | exact rfl | assumption) (Nat.le_of_ble_eq_true rfl)) ⟨(Nat.le_of_ble_eq_true rfl), (Nat.le_of_ble_eq_true rfl), (Nat.le_of_ble_eq_true rfl), (Nat.le_of_ble_eq_true rfl)⟩ ?_
        first | refine R_iincN dX10_turnAll_77 (by decide) rfl (by decide) (st3 rfl) ?_ | refine R_iinc1 dX10_turnAll_77 (by decide) rfl (by decide) (st3 rfl) ?_
        refine R_goto (tgt := 44) dX10_turnAll_80 rfl ?_
        have h9 := ih (i + 1) (by omega)
        rw [show raR M p (i + 1) = (if zb (rHang (raR M p i) i) = 0 then raR M p i else if oF (raR M p i) i 3 = p then rTu (raR M p i) i else raR M p i) from rfl] at h9
        first | (rw [if_pos c1] at h9; exact h9) | (rw [if_neg c1, if_pos c2] at h9; exact h9) | (rw [if_neg c1, if_neg c2] at h9; exact h9)
def tTrk (M : MM) (n c : Nat) (p : Int32) : Int32 × MM := if zb (inB p 0 3) = 0 then (0, rfM M 1 0) else if rOnR M p n = 0 then (0, rfM M 8 0) else (rOnR M p n, raR (kpR M 465 c) p n)
theorem s_X10_turnAll {l : Launch} (hf : l.stackTraces = false) {n : Nat} (hn : n ≤ 12) (hg : M 465 0 = nI n) {c : Nat} (hc : c ≤ 8) (h6 : M 464 6 = nI c) {p : Int32} : V_X10_turnAll l [.ref 464, .int p] (hp M r) (VI (tTrk M n c p).1 (hp (tTrk M n c p).2 r)) := by
  refine VM.intro (lf := L9 (some (.ref 464)) (some (.int p)) none none none none none none none) (by decide +kernel) hf (fun _ => (Nat.le_of_ble_eq_true rfl)) (fun _ => rfl) ?_
  refine R_iload_n dX10_turnAll_0 rfl rfl ?_
  refine R_iconst (v := 0) dX10_turnAll_1 (by decide) ?_
  refine R_iconst (v := 3) dX10_turnAll_2 (by decide) ?_
  refine G_cS3 cw_X10_65 (s_X10_in hf) dX10_turnAll_3 ⟨(Nat.le_of_ble_eq_true rfl), (Nat.le_of_ble_eq_true rfl), (Nat.le_of_ble_eq_true rfl), (Nat.le_of_ble_eq_true rfl)⟩ ?_
  refine R_if_ne (tgt := 16) dX10_turnAll_6 rfl (fun c1 => ?_) (fun c1 => ?_)
  · refine R_aload_n dX10_turnAll_16 rfl rfl ?_
    refine R_iload_n dX10_turnAll_17 rfl rfl ?_
    refine G_cV1 cw_X10_134 (s_X10_onRack hf hn hg) dX10_turnAll_18 (rcv cok10 (by first | exact rfl | assumption) (Nat.le_of_ble_eq_true rfl)) ⟨(Nat.le_of_ble_eq_true rfl), (Nat.le_of_ble_eq_true rfl), (Nat.le_of_ble_eq_true rfl), (Nat.le_of_ble_eq_true rfl)⟩ ?_
    refine R_istore_n dX10_turnAll_21 rfl (by decide) (st2 rfl) ?_
    refine R_iload_n dX10_turnAll_22 rfl rfl ?_
    refine R_if_ne (tgt := 34) dX10_turnAll_23 rfl (fun c2 => ?_) (fun c2 => ?_)
    · refine R_aload_n dX10_turnAll_34 rfl rfl ?_
      refine R_aload_n dX10_turnAll_35 rfl rfl ?_
      refine G_get cok10 0 wf_X10_7 dX10_turnAll_36 (by first | exact rfl | assumption) ⟨(Nat.le_of_ble_eq_true rfl), (Nat.le_of_ble_eq_true rfl)⟩ rfl ?_
      refine G_cV1v cw_X10_117 (s_X10_keeps hf (a := 465) rfl rfl (by decide) hc h6) dX10_turnAll_39 (rcv cok10 (by first | exact rfl | assumption) (Nat.le_of_ble_eq_true rfl)) ⟨(Nat.le_of_ble_eq_true rfl), (Nat.le_of_ble_eq_true rfl), (Nat.le_of_ble_eq_true rfl), (Nat.le_of_ble_eq_true rfl)⟩ ?_
      have fK : ∀ y, kpR M 465 c 465 y = M 465 y := fun y => kpR_fr (by decide) (Or.inl (by decide))
      have hgK : kpR M 465 c 465 0 = nI n := (fK 0).trans hg
      refine R_iconst (v := 0) dX10_turnAll_42 (by decide) ?_
      refine R_istore_n dX10_turnAll_43 rfl (by decide) (st3 rfl) ?_
      rw [tTrk, if_neg c1, if_neg c2]
      have h9 := L_X10_turnAll (r := r) (p := p) (x := rOnR M p n) hf hn hgK n 0 (by omega)
      rw [nI_0] at h9
      exact h9
    · refine R_aload_n dX10_turnAll_26 rfl rfl ?_
      refine R_bipush (v := 8) dX10_turnAll_27 (by decide) ?_
      refine R_iconst (v := 0) dX10_turnAll_29 (by decide) ?_
      refine G_cV2 cw_X10_114 (show VD l _ _ _ _ _ _ _ (some (.int 0)) (hp (rfM M _ _) r) from s_X10_refuses hf) dX10_turnAll_30 (rcv cok10 (by first | exact rfl | assumption) (Nat.le_of_ble_eq_true rfl)) ⟨(Nat.le_of_ble_eq_true rfl), (Nat.le_of_ble_eq_true rfl), (Nat.le_of_ble_eq_true rfl), (Nat.le_of_ble_eq_true rfl)⟩ ?_
      refine R_iret dX10_turnAll_33 rfl (Nat.le_of_ble_eq_true rfl) (Nat.le_of_ble_eq_true rfl) ?_
      rw [tTrk, if_neg c1, if_pos c2]
      first | exact ⟨rfl, rfl⟩ | skip
  · refine R_aload_n dX10_turnAll_9 rfl rfl ?_
    refine R_iconst (v := 1) dX10_turnAll_10 (by decide) ?_
    refine R_iconst (v := 0) dX10_turnAll_11 (by decide) ?_
    refine G_cV2 cw_X10_114 (show VD l _ _ _ _ _ _ _ (some (.int 0)) (hp (rfM M _ _) r) from s_X10_refuses hf) dX10_turnAll_12 (rcv cok10 (by first | exact rfl | assumption) (Nat.le_of_ble_eq_true rfl)) ⟨(Nat.le_of_ble_eq_true rfl), (Nat.le_of_ble_eq_true rfl), (Nat.le_of_ble_eq_true rfl), (Nat.le_of_ble_eq_true rfl)⟩ ?_
    refine R_iret dX10_turnAll_15 rfl (Nat.le_of_ble_eq_true rfl) (Nat.le_of_ble_eq_true rfl) ?_
    rw [tTrk, if_pos c1]
    first | exact ⟨rfl, rfl⟩ | skip
def dyS (i : Nat) (s : Int32 × MM) : Int32 × MM := if oF s.2 i 2 = 1 then (s.1 + oF (mst s.2 465 (8 + 11 * i + 1) (mn2 (oF s.2 i 1 + 2) 9)) i 1, mst s.2 465 (8 + 11 * i + 1) (mn2 (oF s.2 i 1 + 2) 9)) else s
def dyR (M : MM) (i : Nat) : Int32 × MM := itN dyS (0, M) i
theorem dyR_fr {M : MM} {x y : Nat} (h : x ≠ 465 ∨ y < 8 ∨ (y - 8) % 11 ≠ 1) : ∀ i, (dyR M i).2 x y = M x y
  | 0 => rfl
  | i + 1 => by
    show (dyS i (dyR M i)).2 x y = _
    unfold dyS
    split
    · show mst _ _ _ _ x y = _
      rw [mst_ne (by omega)]; exact dyR_fr h i
    · exact dyR_fr h i
theorem E_X10_day {l : Launch} (hf : l.stackTraces = false) {x y : Int32} : Q_X10_day l (VI x (hp (mst M 465 4 (M 465 4 + 1)) r)) 85 (L9 (some (.ref 464)) (some (.int x)) (some (.int y)) none none none none none none) [] (hp M r) := by
  refine R_aload_n dX10_day_85 rfl rfl ?_
  refine G_get cok10 0 wf_X10_7 dX10_day_86 (by first | exact rfl | assumption) ⟨(Nat.le_of_ble_eq_true rfl), (Nat.le_of_ble_eq_true rfl)⟩ rfl ?_
  refine R_iconst (v := 4) dX10_day_89 (by decide) ?_
  refine R_dup2 dX10_day_90 rfl rfl ?_
  refine G_iald dX10_day_91 (by first | exact rfl | assumption) (show vp_in (nI 4) 140 from nI_in12 (by omega) (by omega)) ?_
  refine R_topE (show M 465 _ = M 465 4 from rfl) ?_
  refine R_iconst (v := 1) dX10_day_92 (by decide) ?_
  refine R_iadd dX10_day_93 ?_
  refine G_iast dX10_day_94 (by first | exact rfl | assumption) (show vp_in (nI 4) 140 from nI_in12 (by omega) (by omega)) ?_
  rw [show (4 : Int32).toNatClampNeg = 4 from rfl]
  refine R_iload_n dX10_day_95 rfl rfl ?_
  refine R_iret dX10_day_96 rfl (Nat.le_of_ble_eq_true rfl) (Nat.le_of_ble_eq_true rfl) ?_
  exact ⟨rfl, rfl⟩
theorem L_X10_day {l : Launch} (hf : l.stackTraces = false) {n : Nat} (hn : n ≤ 12) (hg : M 465 0 = nI n) : ∀ (j i : Nat), i + j = n → Q_X10_day l (VI (dyR M n).1 (hp (mst (dyR M n).2 465 4 ((dyR M n).2 465 4 + 1)) r)) 28 (L9 (some (.ref 464)) (some (.int (dyR M i).1)) (some (.int (nI i))) none none none none none none) [] (hp (dyR M i).2 r) := by
  intro j
  induction j with
  | zero =>
    intro i hi
    obtain rfl : n = i := by omega
    refine R_iload_n dX10_day_28 rfl rfl ?_
    refine R_aload_n dX10_day_29 rfl rfl ?_
    refine G_get cok10 0 wf_X10_7 dX10_day_30 (by first | exact rfl | assumption) ⟨(Nat.le_of_ble_eq_true rfl), (Nat.le_of_ble_eq_true rfl)⟩ rfl ?_
    refine R_iconst (v := 0) dX10_day_33 (by decide) ?_
    refine G_iald dX10_day_34 (by first | exact rfl | assumption) (show vp_in (nI 0) 140 from nI_in12 (by omega) (by omega)) ?_
    refine R_topE (show (dyR M _).2 465 _ = nI n from (dyR_fr (y := 0) (by omega) _).trans hg) ?_
    refine R_icmp_ge_t (tgt := 85) dX10_day_35 rfl (nI_le (by omega) (by omega)) ?_
    exact E_X10_day hf
  | succ j ih =>
    intro i hi
    have hi1 : i < n := by omega
    refine R_iload_n dX10_day_28 rfl rfl ?_
    refine R_aload_n dX10_day_29 rfl rfl ?_
    refine G_get cok10 0 wf_X10_7 dX10_day_30 (by first | exact rfl | assumption) ⟨(Nat.le_of_ble_eq_true rfl), (Nat.le_of_ble_eq_true rfl)⟩ rfl ?_
    refine R_iconst (v := 0) dX10_day_33 (by decide) ?_
    refine G_iald dX10_day_34 (by first | exact rfl | assumption) (show vp_in (nI 0) 140 from nI_in12 (by omega) (by omega)) ?_
    refine R_topE (show (dyR M _).2 465 _ = nI n from (dyR_fr (y := 0) (by omega) _).trans hg) ?_
    refine R_icmp_ge_f (tgt := 85) dX10_day_35 rfl (nI_ge (by omega) (by omega)) ?_
    refine R_aload_n dX10_day_38 rfl rfl ?_
    refine R_iload_n dX10_day_39 rfl rfl ?_
    refine R_iconst (v := 2) dX10_day_40 (by decide) ?_
    refine G_cV2 cw_X10_69 (s_X10_of hf (k := i) (w := 2) (by omega) (by decide) (by decide)) dX10_day_41 (rcv cok10 (by first | exact rfl | assumption) (Nat.le_of_ble_eq_true rfl)) ⟨(Nat.le_of_ble_eq_true rfl), (Nat.le_of_ble_eq_true rfl), (Nat.le_of_ble_eq_true rfl), (Nat.le_of_ble_eq_true rfl)⟩ ?_
    refine R_iconst (v := 1) dX10_day_44 (by decide) ?_
    refine R_icmp_eq (tgt := 51) dX10_day_45 rfl (fun c1 => ?_) (fun c1 => ?_)
    · refine R_aload_n dX10_day_51 rfl rfl ?_
      refine R_iload_n dX10_day_52 rfl rfl ?_
      refine R_iconst (v := 1) dX10_day_53 (by decide) ?_
      refine R_aload_n dX10_day_54 rfl rfl ?_
      refine R_iload_n dX10_day_55 rfl rfl ?_
      refine R_iconst (v := 1) dX10_day_56 (by decide) ?_
      refine G_cV2 cw_X10_69 (s_X10_of hf (k := i) (w := 1) (by omega) (by decide) (by decide)) dX10_day_57 (rcv cok10 (by first | exact rfl | assumption) (Nat.le_of_ble_eq_true rfl)) ⟨(Nat.le_of_ble_eq_true rfl), (Nat.le_of_ble_eq_true rfl), (Nat.le_of_ble_eq_true rfl), (Nat.le_of_ble_eq_true rfl)⟩ ?_
      refine R_iconst (v := 2) dX10_day_60 (by decide) ?_
      refine R_iadd dX10_day_61 ?_
      refine R_bipush (v := 9) dX10_day_62 (by decide) ?_
      refine G_cS2 cw_X10_80 (s_X10_atMost hf) dX10_day_64 ⟨(Nat.le_of_ble_eq_true rfl), (Nat.le_of_ble_eq_true rfl), (Nat.le_of_ble_eq_true rfl), (Nat.le_of_ble_eq_true rfl)⟩ ?_
      refine G_cV3v cw_X10_103 (s_X10_lays hf (k := i) (w := 1) (by omega) (by omega) (by decide)) dX10_day_67 (rcv cok10 (by first | exact rfl | assumption) (Nat.le_of_ble_eq_true rfl)) ⟨(Nat.le_of_ble_eq_true rfl), (Nat.le_of_ble_eq_true rfl), (Nat.le_of_ble_eq_true rfl), (Nat.le_of_ble_eq_true rfl)⟩ ?_
      refine R_iload_n dX10_day_70 rfl rfl ?_
      refine R_aload_n dX10_day_71 rfl rfl ?_
      refine R_iload_n dX10_day_72 rfl rfl ?_
      refine R_iconst (v := 1) dX10_day_73 (by decide) ?_
      refine G_cV2 cw_X10_69 (s_X10_of hf (k := i) (w := 1) (by omega) (by decide) (by decide)) dX10_day_74 (rcv cok10 (by first | exact rfl | assumption) (Nat.le_of_ble_eq_true rfl)) ⟨(Nat.le_of_ble_eq_true rfl), (Nat.le_of_ble_eq_true rfl), (Nat.le_of_ble_eq_true rfl), (Nat.le_of_ble_eq_true rfl)⟩ ?_
      refine R_iadd dX10_day_77 ?_
      refine R_istore_n dX10_day_78 rfl (by decide) (st1 rfl) ?_
      first | refine R_iincN dX10_day_79 (by decide) rfl (by decide) (st2 rfl) ?_ | refine R_iinc1 dX10_day_79 (by decide) rfl (by decide) (st2 rfl) ?_
      refine R_goto (tgt := 28) dX10_day_82 rfl ?_
      have h9 := ih (i + 1) (by omega)
      rw [show dyR M (i + 1) = dyS i (dyR M i) from rfl, dyS] at h9
      first | (rw [if_pos c1] at h9; exact h9) | (rw [if_neg c1] at h9; exact h9)
    · refine R_goto (tgt := 79) dX10_day_48 rfl ?_
      first | refine R_iincN dX10_day_79 (by decide) rfl (by decide) (st2 rfl) ?_ | refine R_iinc1 dX10_day_79 (by decide) rfl (by decide) (st2 rfl) ?_
      refine R_goto (tgt := 28) dX10_day_82 rfl ?_
      have h9 := ih (i + 1) (by omega)
      rw [show dyR M (i + 1) = dyS i (dyR M i) from rfl, dyS] at h9
      first | (rw [if_pos c1] at h9; exact h9) | (rw [if_neg c1] at h9; exact h9)
def tDay (M : MM) (n c : Nat) : Int32 × MM := if rMany M 1 n = 0 then (0, rfM M 8 0) else ((dyR (kpR M 465 c) n).1, mst (dyR (kpR M 465 c) n).2 465 4 ((dyR (kpR M 465 c) n).2 465 4 + 1))
theorem s_X10_day {l : Launch} (hf : l.stackTraces = false) {n : Nat} (hn : n ≤ 12) (hg : M 465 0 = nI n) {c : Nat} (hc : c ≤ 8) (h6 : M 464 6 = nI c) : V_X10_day l [.ref 464] (hp M r) (VI (tDay M n c).1 (hp (tDay M n c).2 r)) := by
  refine VM.intro (lf := L9 (some (.ref 464)) none none none none none none none none) (by decide +kernel) hf (fun _ => (Nat.le_of_ble_eq_true rfl)) (fun _ => rfl) ?_
  refine R_aload_n dX10_day_0 rfl rfl ?_
  refine R_iconst (v := 1) dX10_day_1 (by decide) ?_
  refine G_cV1 cw_X10_124 (s_X10_many hf hn hg) dX10_day_2 (rcv cok10 (by first | exact rfl | assumption) (Nat.le_of_ble_eq_true rfl)) ⟨(Nat.le_of_ble_eq_true rfl), (Nat.le_of_ble_eq_true rfl), (Nat.le_of_ble_eq_true rfl), (Nat.le_of_ble_eq_true rfl)⟩ ?_
  refine R_if_ne (tgt := 16) dX10_day_5 rfl (fun c1 => ?_) (fun c1 => ?_)
  · refine R_aload_n dX10_day_16 rfl rfl ?_
    refine R_aload_n dX10_day_17 rfl rfl ?_
    refine G_get cok10 0 wf_X10_7 dX10_day_18 (by first | exact rfl | assumption) ⟨(Nat.le_of_ble_eq_true rfl), (Nat.le_of_ble_eq_true rfl)⟩ rfl ?_
    refine G_cV1v cw_X10_117 (s_X10_keeps hf (a := 465) rfl rfl (by decide) hc h6) dX10_day_21 (rcv cok10 (by first | exact rfl | assumption) (Nat.le_of_ble_eq_true rfl)) ⟨(Nat.le_of_ble_eq_true rfl), (Nat.le_of_ble_eq_true rfl), (Nat.le_of_ble_eq_true rfl), (Nat.le_of_ble_eq_true rfl)⟩ ?_
    have fK : ∀ y, kpR M 465 c 465 y = M 465 y := fun y => kpR_fr (by decide) (Or.inl (by decide))
    have hgK : kpR M 465 c 465 0 = nI n := (fK 0).trans hg
    refine R_iconst (v := 0) dX10_day_24 (by decide) ?_
    refine R_istore_n dX10_day_25 rfl (by decide) (st1 rfl) ?_
    refine R_iconst (v := 0) dX10_day_26 (by decide) ?_
    refine R_istore_n dX10_day_27 rfl (by decide) (st2 rfl) ?_
    rw [tDay, if_neg c1]
    have h9 := L_X10_day (r := r) hf hn hgK n 0 (by omega)
    rw [nI_0] at h9
    exact h9
  · refine R_aload_n dX10_day_8 rfl rfl ?_
    refine R_bipush (v := 8) dX10_day_9 (by decide) ?_
    refine R_iconst (v := 0) dX10_day_11 (by decide) ?_
    refine G_cV2 cw_X10_114 (show VD l _ _ _ _ _ _ _ (some (.int 0)) (hp (rfM M _ _) r) from s_X10_refuses hf) dX10_day_12 (rcv cok10 (by first | exact rfl | assumption) (Nat.le_of_ble_eq_true rfl)) ⟨(Nat.le_of_ble_eq_true rfl), (Nat.le_of_ble_eq_true rfl), (Nat.le_of_ble_eq_true rfl), (Nat.le_of_ble_eq_true rfl)⟩ ?_
    refine R_iret dX10_day_15 rfl (Nat.le_of_ble_eq_true rfl) (Nat.le_of_ble_eq_true rfl) ?_
    rw [tDay, if_pos c1]
    first | exact ⟨rfl, rfl⟩ | skip
theorem rHt_fr {M : MM} {x y : Nat} (h : x ≠ 465 ∨ (y ≠ 1 ∧ y ≠ 3)) : rHt M x y = M x y := by
  rw [rHt, mst_ne (by omega), rHt1]
  split
  · rw [mst_ne (by omega)]
  · rfl
theorem rHour_fr {M : MM} {n x y : Nat} (hd5 : dwn M n) (h : x ≠ 465 ∨ y = 0 ∨ y = 2 ∨ (4 ≤ y ∧ y < 8) ∨ (8 ≤ y ∧ (y - 8) % 11 < 6)) : rHour M n x y = M x y := by
  rw [rHour, rHt_fr (by omega)]
  exact rHr_fr hd5 (by omega) n (Nat.le_refl _)
theorem dwn_hour {M : MM} {n : Nat} (hd5 : dwn M n) : dwn (rHour M n) n := fun k hk => by
  obtain ⟨d, h1, h2⟩ := hd5 k hk
  exact ⟨d, h1, (rHour_fr hd5 (by omega)).trans h2⟩
def hsR (M : MM) (n i : Nat) : MM := itN (fun _ M' => rHour M' n) M i
theorem hsR_ok {M : MM} {n : Nat} (hd5 : dwn M n) : ∀ i, dwn (hsR M n i) n ∧ ∀ x y, (x ≠ 465 ∨ y = 0 ∨ y = 2 ∨ (4 ≤ y ∧ y < 8) ∨ (8 ≤ y ∧ (y - 8) % 11 < 6)) → hsR M n i x y = M x y
  | 0 => ⟨hd5, fun _ _ _ => rfl⟩
  | i + 1 => by
    obtain ⟨h1, h2⟩ := hsR_ok hd5 i
    exact ⟨dwn_hour h1, fun x y h => (rHour_fr h1 h).trans (h2 x y h)⟩
theorem inB_h {x : Int32} (h : ¬ zb (inB x 1 24) = 0) : ∃ k, k < 25 ∧ x = nI k := by
  have h1 : inB x 1 24 = true := by simpa [zb_n0] using h
  simp only [inB, Bool.and_eq_true, Bool.not_eq_true', decide_eq_false_iff_not] at h1
  have h2 := Int32.not_lt.mp h1.1
  have h3 := Int32.not_lt.mp h1.2
  rw [Int32.le_iff_toInt_le] at h2 h3
  have e0 : (1 : Int32).toInt = 1 := rfl
  have e1 : (24 : Int32).toInt = 24 := rfl
  refine ⟨x.toInt.toNat, by omega, ?_⟩
  apply Int32.toInt_inj.mp
  rw [nI_toInt (by omega)]
  omega
theorem L_X10_hours {l : Launch} (hf : l.stackTraces = false) {n : Nat} (hn : n ≤ 12) (hg : M 465 0 = nI n) (hd5 : dwn M n) {v : Nat} (hv : v < 2000) : ∀ (j i : Nat), i + j = v → Q_X10_hours l (VI (rBuC (hsR M n v) n) (hp (hsR M n v) r)) 27 (L9 (some (.ref 464)) (some (.int (nI v))) (some (.int (nI i))) none none none none none none) [] (hp (hsR M n i) r) := by
  intro j
  induction j with
  | zero =>
    intro i hi
    have hin : v = i := by omega
    subst hin
    have hg2 : hsR M n v 465 0 = nI n := ((hsR_ok hd5 v).2 _ _ (by omega)).trans hg
    refine R_iload_n dX10_hours_27 rfl rfl ?_
    refine R_iload_n dX10_hours_28 rfl rfl ?_
    refine R_icmp_ge_t (tgt := 42) dX10_hours_29 rfl (nI_le (by omega) (by omega)) ?_
    refine R_aload_n dX10_hours_42 rfl rfl ?_
    refine G_cV0 cw_X10_143 (s_X10_burnt hf hn hg2) dX10_hours_43 (rcv cok10 (by first | exact rfl | assumption) (Nat.le_of_ble_eq_true rfl)) ⟨(Nat.le_of_ble_eq_true rfl), (Nat.le_of_ble_eq_true rfl), (Nat.le_of_ble_eq_true rfl), (Nat.le_of_ble_eq_true rfl)⟩ ?_
    refine R_iret dX10_hours_46 rfl (Nat.le_of_ble_eq_true rfl) (Nat.le_of_ble_eq_true rfl) ?_
    exact ⟨rfl, rfl⟩
  | succ j ih =>
    intro i hi
    have hi1 : i < v := by omega
    have hg2 : hsR M n i 465 0 = nI n := ((hsR_ok hd5 i).2 _ _ (by omega)).trans hg
    refine R_iload_n dX10_hours_27 rfl rfl ?_
    refine R_iload_n dX10_hours_28 rfl rfl ?_
    refine R_icmp_ge_f (tgt := 42) dX10_hours_29 rfl (nI_ge (by omega) (by omega)) ?_
    refine R_aload_n dX10_hours_32 rfl rfl ?_
    refine G_cV0v cw_X10_140 (s_X10_hour hf hn hg2 (hsR_ok hd5 i).1) dX10_hours_33 (rcv cok10 (by first | exact rfl | assumption) (Nat.le_of_ble_eq_true rfl)) ⟨(Nat.le_of_ble_eq_true rfl), (Nat.le_of_ble_eq_true rfl), (Nat.le_of_ble_eq_true rfl), (Nat.le_of_ble_eq_true rfl)⟩ ?_
    first | refine R_iincN dX10_hours_36 (by decide) rfl (by decide) (st2 rfl) ?_ | refine R_iinc1 dX10_hours_36 (by decide) rfl (by decide) (st2 rfl) ?_
    refine R_goto (tgt := 27) dX10_hours_39 rfl ?_
    have h9 := ih (i + 1) (by omega)
    exact h9
def tHrs (M : MM) (n c : Nat) (v : Int32) : Int32 × MM := if zb (inB v 1 24) = 0 then (0, rfM M 1 0) else (rBuC (hsR (kpR M 465 c) n v.toNatClampNeg) n, hsR (kpR M 465 c) n v.toNatClampNeg)
theorem s_X10_hours {l : Launch} (hf : l.stackTraces = false) {n : Nat} (hn : n ≤ 12) (hg : M 465 0 = nI n) {c : Nat} (hc : c ≤ 8) (h6 : M 464 6 = nI c) (hd5 : dwn M n) {v : Int32} : V_X10_hours l [.ref 464, .int v] (hp M r) (VI (tHrs M n c v).1 (hp (tHrs M n c v).2 r)) := by
  refine VM.intro (lf := L9 (some (.ref 464)) (some (.int v)) none none none none none none none) (by decide +kernel) hf (fun _ => (Nat.le_of_ble_eq_true rfl)) (fun _ => rfl) ?_
  refine R_iload_n dX10_hours_0 rfl rfl ?_
  refine R_iconst (v := 1) dX10_hours_1 (by decide) ?_
  refine R_bipush (v := 24) dX10_hours_2 (by decide) ?_
  refine G_cS3 cw_X10_65 (s_X10_in hf) dX10_hours_4 ⟨(Nat.le_of_ble_eq_true rfl), (Nat.le_of_ble_eq_true rfl), (Nat.le_of_ble_eq_true rfl), (Nat.le_of_ble_eq_true rfl)⟩ ?_
  refine R_if_ne (tgt := 17) dX10_hours_7 rfl (fun c1 => ?_) (fun c1 => ?_)
  · refine R_aload_n dX10_hours_17 rfl rfl ?_
    refine R_aload_n dX10_hours_18 rfl rfl ?_
    refine G_get cok10 0 wf_X10_7 dX10_hours_19 (by first | exact rfl | assumption) ⟨(Nat.le_of_ble_eq_true rfl), (Nat.le_of_ble_eq_true rfl)⟩ rfl ?_
    refine G_cV1v cw_X10_117 (s_X10_keeps hf (a := 465) rfl rfl (by decide) hc h6) dX10_hours_22 (rcv cok10 (by first | exact rfl | assumption) (Nat.le_of_ble_eq_true rfl)) ⟨(Nat.le_of_ble_eq_true rfl), (Nat.le_of_ble_eq_true rfl), (Nat.le_of_ble_eq_true rfl), (Nat.le_of_ble_eq_true rfl)⟩ ?_
    have fK : ∀ y, kpR M 465 c 465 y = M 465 y := fun y => kpR_fr (by decide) (Or.inl (by decide))
    have hgK : kpR M 465 c 465 0 = nI n := (fK 0).trans hg
    refine R_iconst (v := 0) dX10_hours_25 (by decide) ?_
    refine R_istore_n dX10_hours_26 rfl (by decide) (st2 rfl) ?_
    rw [tHrs, if_neg c1]
    obtain ⟨j, hj, rfl⟩ := inB_h (by assumption)
    have hdK : dwn (kpR M 465 c) n := fun k hk => by obtain ⟨d, h1, h2⟩ := hd5 k hk; exact ⟨d, h1, (fK _).trans h2⟩
    have h9 := L_X10_hours (r := r) hf hn hgK hdK (v := j) (by omega) j 0 (by omega)
    rw [nI_0] at h9
    rw [show (nI j).toNatClampNeg = j from nI_cl (by omega)]
    exact h9
  · refine R_aload_n dX10_hours_10 rfl rfl ?_
    refine R_iconst (v := 1) dX10_hours_11 (by decide) ?_
    refine R_iconst (v := 0) dX10_hours_12 (by decide) ?_
    refine G_cV2 cw_X10_114 (show VD l _ _ _ _ _ _ _ (some (.int 0)) (hp (rfM M _ _) r) from s_X10_refuses hf) dX10_hours_13 (rcv cok10 (by first | exact rfl | assumption) (Nat.le_of_ble_eq_true rfl)) ⟨(Nat.le_of_ble_eq_true rfl), (Nat.le_of_ble_eq_true rfl), (Nat.le_of_ble_eq_true rfl), (Nat.le_of_ble_eq_true rfl)⟩ ?_
    refine R_iret dX10_hours_16 rfl (Nat.le_of_ble_eq_true rfl) (Nat.le_of_ble_eq_true rfl) ?_
    rw [tHrs, if_pos c1]
    first | exact ⟨rfl, rfl⟩ | skip
def tSel (M : MM) (n c : Nat) (x : Int32) : Int32 × MM := if zb (inB x 0 (nI n - 1)) = 0 then (0, rfM M 3 (nI n)) else if zb (rReady M x.toNatClampNeg) = 0 then (if zb (rBurnt M x.toNatClampNeg) = 0 then (0, rfM M 10 (rLack M x.toNatClampNeg)) else (0, rfM M 10 100)) else (rPrice (kpR M 465 c) x.toNatClampNeg, mst (mst (rGo (kpR M 465 c) x.toNatClampNeg n) 465 5 ((rGo (kpR M 465 c) x.toNatClampNeg n) 465 5 + 1)) 465 6 ((mst (rGo (kpR M 465 c) x.toNatClampNeg n) 465 5 ((rGo (kpR M 465 c) x.toNatClampNeg n) 465 5 + 1)) 465 6 + rPrice (kpR M 465 c) x.toNatClampNeg))
theorem s_X10_sell {l : Launch} (hf : l.stackTraces = false) {n : Nat} (hn : n ≤ 12) (hg : M 465 0 = nI n) {c : Nat} (hc : c ≤ 8) (h6 : M 464 6 = nI c) {x : Int32} : V_X10_sell l [.ref 464, .int x] (hp M r) (VI (tSel M n c x).1 (hp (tSel M n c x).2 r)) := by
  refine VM.intro (lf := L9 (some (.ref 464)) (some (.int x)) none none none none none none none) (by decide +kernel) hf (fun _ => (Nat.le_of_ble_eq_true rfl)) (fun _ => rfl) ?_
  refine R_aload_n dX10_sell_0 rfl rfl ?_
  refine R_iload_n dX10_sell_1 rfl rfl ?_
  refine G_cV1 cw_X10_121 (s_X10_isFish hf hn hg) dX10_sell_2 (rcv cok10 (by first | exact rfl | assumption) (Nat.le_of_ble_eq_true rfl)) ⟨(Nat.le_of_ble_eq_true rfl), (Nat.le_of_ble_eq_true rfl), (Nat.le_of_ble_eq_true rfl), (Nat.le_of_ble_eq_true rfl)⟩ ?_
  refine R_if_ne (tgt := 20) dX10_sell_5 rfl (fun c1 => ?_) (fun c1 => ?_)
  · obtain ⟨k, hk, rfl⟩ := inB_k hn (by assumption)
    have ek : (nI k).toNatClampNeg = k := nI_cl (by omega)
    have hk12 : k < 12 := by omega
    refine R_aload_n dX10_sell_20 rfl rfl ?_
    refine R_iload_n dX10_sell_21 rfl rfl ?_
    refine G_cV1 cw_X10_147 (s_X10_isReady hf hk12) dX10_sell_22 (rcv cok10 (by first | exact rfl | assumption) (Nat.le_of_ble_eq_true rfl)) ⟨(Nat.le_of_ble_eq_true rfl), (Nat.le_of_ble_eq_true rfl), (Nat.le_of_ble_eq_true rfl), (Nat.le_of_ble_eq_true rfl)⟩ ?_
    refine R_if_ne (tgt := 53) dX10_sell_25 rfl (fun c2 => ?_) (fun c2 => ?_)
    · refine R_aload_n dX10_sell_53 rfl rfl ?_
      refine R_aload_n dX10_sell_54 rfl rfl ?_
      refine G_get cok10 0 wf_X10_7 dX10_sell_55 (by first | exact rfl | assumption) ⟨(Nat.le_of_ble_eq_true rfl), (Nat.le_of_ble_eq_true rfl)⟩ rfl ?_
      refine G_cV1v cw_X10_117 (s_X10_keeps hf (a := 465) rfl rfl (by decide) hc h6) dX10_sell_58 (rcv cok10 (by first | exact rfl | assumption) (Nat.le_of_ble_eq_true rfl)) ⟨(Nat.le_of_ble_eq_true rfl), (Nat.le_of_ble_eq_true rfl), (Nat.le_of_ble_eq_true rfl), (Nat.le_of_ble_eq_true rfl)⟩ ?_
      have fK : ∀ y, kpR M 465 c 465 y = M 465 y := fun y => kpR_fr (by decide) (Or.inl (by decide))
      have hgK : kpR M 465 c 465 0 = nI n := (fK 0).trans hg
      refine R_aload_n dX10_sell_61 rfl rfl ?_
      refine R_iload_n dX10_sell_62 rfl rfl ?_
      refine G_cV1 cw_X10_150 (s_X10_price hf hk12) dX10_sell_63 (rcv cok10 (by first | exact rfl | assumption) (Nat.le_of_ble_eq_true rfl)) ⟨(Nat.le_of_ble_eq_true rfl), (Nat.le_of_ble_eq_true rfl), (Nat.le_of_ble_eq_true rfl), (Nat.le_of_ble_eq_true rfl)⟩ ?_
      refine R_istore_n dX10_sell_66 rfl (by decide) (st2 rfl) ?_
      refine R_aload_n dX10_sell_67 rfl rfl ?_
      refine R_iload_n dX10_sell_68 rfl rfl ?_
      refine G_cV1v cw_X10_153 (s_X10_goes hf hn hgK hk12 hk) dX10_sell_69 (rcv cok10 (by first | exact rfl | assumption) (Nat.le_of_ble_eq_true rfl)) ⟨(Nat.le_of_ble_eq_true rfl), (Nat.le_of_ble_eq_true rfl), (Nat.le_of_ble_eq_true rfl), (Nat.le_of_ble_eq_true rfl)⟩ ?_
      refine R_aload_n dX10_sell_72 rfl rfl ?_
      refine G_get cok10 0 wf_X10_7 dX10_sell_73 (by first | exact rfl | assumption) ⟨(Nat.le_of_ble_eq_true rfl), (Nat.le_of_ble_eq_true rfl)⟩ rfl ?_
      refine R_iconst (v := 5) dX10_sell_76 (by decide) ?_
      refine R_dup2 dX10_sell_77 rfl rfl ?_
      refine G_iald dX10_sell_78 (by first | exact rfl | assumption) (show vp_in (nI 5) 140 from nI_in12 (by omega) (by omega)) ?_
      refine R_topE (show (rGo (kpR M 465 c) k n) 465 _ = (rGo (kpR M 465 c) k n) 465 5 from rfl) ?_
      refine R_iconst (v := 1) dX10_sell_79 (by decide) ?_
      refine R_iadd dX10_sell_80 ?_
      refine G_iast dX10_sell_81 (by first | exact rfl | assumption) (show vp_in (nI 5) 140 from nI_in12 (by omega) (by omega)) ?_
      rw [show (5 : Int32).toNatClampNeg = 5 from rfl]
      refine R_aload_n dX10_sell_82 rfl rfl ?_
      refine G_get cok10 0 wf_X10_7 dX10_sell_83 (by first | exact rfl | assumption) ⟨(Nat.le_of_ble_eq_true rfl), (Nat.le_of_ble_eq_true rfl)⟩ rfl ?_
      refine R_bipush (v := 6) dX10_sell_86 (by decide) ?_
      refine R_dup2 dX10_sell_88 rfl rfl ?_
      refine G_iald dX10_sell_89 (by first | exact rfl | assumption) (show vp_in (nI 6) 140 from nI_in12 (by omega) (by omega)) ?_
      refine R_topE (show (mst (rGo (kpR M 465 c) k n) 465 5 ((rGo (kpR M 465 c) k n) 465 5 + 1)) 465 _ = (mst (rGo (kpR M 465 c) k n) 465 5 ((rGo (kpR M 465 c) k n) 465 5 + 1)) 465 6 from rfl) ?_
      refine R_iload_n dX10_sell_90 rfl rfl ?_
      refine R_iadd dX10_sell_91 ?_
      refine G_iast dX10_sell_92 (by first | exact rfl | assumption) (show vp_in (nI 6) 140 from nI_in12 (by omega) (by omega)) ?_
      rw [show (6 : Int32).toNatClampNeg = 6 from rfl]
      refine R_iload_n dX10_sell_93 rfl rfl ?_
      refine R_iret dX10_sell_94 rfl (Nat.le_of_ble_eq_true rfl) (Nat.le_of_ble_eq_true rfl) ?_
      first | rw [tSel, ek, if_neg c1, if_neg c2] | rw [tSel, if_neg c1, if_neg c2]
      first | exact ⟨rfl, rfl⟩ | skip
    · refine R_aload_n dX10_sell_28 rfl rfl ?_
      refine R_bipush (v := 10) dX10_sell_29 (by decide) ?_
      refine R_aload_n dX10_sell_31 rfl rfl ?_
      refine R_iload_n dX10_sell_32 rfl rfl ?_
      refine G_cV1 cw_X10_91 (s_X10_isBurnt hf hk12) dX10_sell_33 (rcv cok10 (by first | exact rfl | assumption) (Nat.le_of_ble_eq_true rfl)) ⟨(Nat.le_of_ble_eq_true rfl), (Nat.le_of_ble_eq_true rfl), (Nat.le_of_ble_eq_true rfl), (Nat.le_of_ble_eq_true rfl)⟩ ?_
      refine R_if_eq (tgt := 44) dX10_sell_36 rfl (fun c3 => ?_) (fun c3 => ?_)
      · refine R_aload_n dX10_sell_44 rfl rfl ?_
        refine R_iload_n dX10_sell_45 rfl rfl ?_
        refine G_cV1 cw_X10_94 (s_X10_lacks hf hk12) dX10_sell_46 (rcv cok10 (by first | exact rfl | assumption) (Nat.le_of_ble_eq_true rfl)) ⟨(Nat.le_of_ble_eq_true rfl), (Nat.le_of_ble_eq_true rfl), (Nat.le_of_ble_eq_true rfl), (Nat.le_of_ble_eq_true rfl)⟩ ?_
        refine G_cV2 cw_X10_114 (show VD l _ _ _ _ _ _ _ (some (.int 0)) (hp (rfM M _ _) r) from s_X10_refuses hf) dX10_sell_49 (rcv cok10 (by first | exact rfl | assumption) (Nat.le_of_ble_eq_true rfl)) ⟨(Nat.le_of_ble_eq_true rfl), (Nat.le_of_ble_eq_true rfl), (Nat.le_of_ble_eq_true rfl), (Nat.le_of_ble_eq_true rfl)⟩ ?_
        refine R_iret dX10_sell_52 rfl (Nat.le_of_ble_eq_true rfl) (Nat.le_of_ble_eq_true rfl) ?_
        first | rw [tSel, ek, if_neg c1, if_pos c2, if_pos c3] | rw [tSel, if_neg c1, if_pos c2, if_pos c3]
        first | exact ⟨rfl, rfl⟩ | skip
      · refine R_bipush (v := 100) dX10_sell_39 (by decide) ?_
        refine R_goto (tgt := 49) dX10_sell_41 rfl ?_
        refine G_cV2 cw_X10_114 (show VD l _ _ _ _ _ _ _ (some (.int 0)) (hp (rfM M _ _) r) from s_X10_refuses hf) dX10_sell_49 (rcv cok10 (by first | exact rfl | assumption) (Nat.le_of_ble_eq_true rfl)) ⟨(Nat.le_of_ble_eq_true rfl), (Nat.le_of_ble_eq_true rfl), (Nat.le_of_ble_eq_true rfl), (Nat.le_of_ble_eq_true rfl)⟩ ?_
        refine R_iret dX10_sell_52 rfl (Nat.le_of_ble_eq_true rfl) (Nat.le_of_ble_eq_true rfl) ?_
        first | rw [tSel, ek, if_neg c1, if_pos c2, if_neg c3] | rw [tSel, if_neg c1, if_pos c2, if_neg c3]
        first | exact ⟨rfl, rfl⟩ | skip
  · refine R_aload_n dX10_sell_8 rfl rfl ?_
    refine R_iconst (v := 3) dX10_sell_9 (by decide) ?_
    refine R_aload_n dX10_sell_10 rfl rfl ?_
    refine G_get cok10 0 wf_X10_7 dX10_sell_11 (by first | exact rfl | assumption) ⟨(Nat.le_of_ble_eq_true rfl), (Nat.le_of_ble_eq_true rfl)⟩ rfl ?_
    refine R_iconst (v := 0) dX10_sell_14 (by decide) ?_
    refine G_iald dX10_sell_15 (by first | exact rfl | assumption) (show vp_in (nI 0) 140 from nI_in12 (by omega) (by omega)) ?_
    refine R_topE (show M 465 _ = nI n from hg) ?_
    refine G_cV2 cw_X10_114 (show VD l _ _ _ _ _ _ _ (some (.int 0)) (hp (rfM M _ _) r) from s_X10_refuses hf) dX10_sell_16 (rcv cok10 (by first | exact rfl | assumption) (Nat.le_of_ble_eq_true rfl)) ⟨(Nat.le_of_ble_eq_true rfl), (Nat.le_of_ble_eq_true rfl), (Nat.le_of_ble_eq_true rfl), (Nat.le_of_ble_eq_true rfl)⟩ ?_
    refine R_iret dX10_sell_19 rfl (Nat.le_of_ble_eq_true rfl) (Nat.le_of_ble_eq_true rfl) ?_
    first | rw [tSel, ek, if_pos c1] | rw [tSel, if_pos c1]
    first | exact ⟨rfl, rfl⟩ | skip
def tThr (M : MM) (n c : Nat) (x : Int32) : Int32 × MM := if zb (inB x 0 (nI n - 1)) = 0 then (0, rfM M 3 (nI n)) else (oF (kpR M 465 c) x.toNatClampNeg 0, mst (rGo (kpR M 465 c) x.toNatClampNeg n) 465 7 ((rGo (kpR M 465 c) x.toNatClampNeg n) 465 7 + 1))
theorem s_X10_throwAway {l : Launch} (hf : l.stackTraces = false) {n : Nat} (hn : n ≤ 12) (hg : M 465 0 = nI n) {c : Nat} (hc : c ≤ 8) (h6 : M 464 6 = nI c) {x : Int32} : V_X10_throwAway l [.ref 464, .int x] (hp M r) (VI (tThr M n c x).1 (hp (tThr M n c x).2 r)) := by
  refine VM.intro (lf := L9 (some (.ref 464)) (some (.int x)) none none none none none none none) (by decide +kernel) hf (fun _ => (Nat.le_of_ble_eq_true rfl)) (fun _ => rfl) ?_
  refine R_aload_n dX10_throwAway_0 rfl rfl ?_
  refine R_iload_n dX10_throwAway_1 rfl rfl ?_
  refine G_cV1 cw_X10_121 (s_X10_isFish hf hn hg) dX10_throwAway_2 (rcv cok10 (by first | exact rfl | assumption) (Nat.le_of_ble_eq_true rfl)) ⟨(Nat.le_of_ble_eq_true rfl), (Nat.le_of_ble_eq_true rfl), (Nat.le_of_ble_eq_true rfl), (Nat.le_of_ble_eq_true rfl)⟩ ?_
  refine R_if_ne (tgt := 20) dX10_throwAway_5 rfl (fun c1 => ?_) (fun c1 => ?_)
  · obtain ⟨k, hk, rfl⟩ := inB_k hn (by assumption)
    have ek : (nI k).toNatClampNeg = k := nI_cl (by omega)
    have hk12 : k < 12 := by omega
    refine R_aload_n dX10_throwAway_20 rfl rfl ?_
    refine R_aload_n dX10_throwAway_21 rfl rfl ?_
    refine G_get cok10 0 wf_X10_7 dX10_throwAway_22 (by first | exact rfl | assumption) ⟨(Nat.le_of_ble_eq_true rfl), (Nat.le_of_ble_eq_true rfl)⟩ rfl ?_
    refine G_cV1v cw_X10_117 (s_X10_keeps hf (a := 465) rfl rfl (by decide) hc h6) dX10_throwAway_25 (rcv cok10 (by first | exact rfl | assumption) (Nat.le_of_ble_eq_true rfl)) ⟨(Nat.le_of_ble_eq_true rfl), (Nat.le_of_ble_eq_true rfl), (Nat.le_of_ble_eq_true rfl), (Nat.le_of_ble_eq_true rfl)⟩ ?_
    have fK : ∀ y, kpR M 465 c 465 y = M 465 y := fun y => kpR_fr (by decide) (Or.inl (by decide))
    have hgK : kpR M 465 c 465 0 = nI n := (fK 0).trans hg
    refine R_aload_n dX10_throwAway_28 rfl rfl ?_
    refine R_iload_n dX10_throwAway_29 rfl rfl ?_
    refine R_iconst (v := 0) dX10_throwAway_30 (by decide) ?_
    refine G_cV2 cw_X10_69 (s_X10_of hf (k := k) (w := 0) (by omega) (by decide) (by decide)) dX10_throwAway_31 (rcv cok10 (by first | exact rfl | assumption) (Nat.le_of_ble_eq_true rfl)) ⟨(Nat.le_of_ble_eq_true rfl), (Nat.le_of_ble_eq_true rfl), (Nat.le_of_ble_eq_true rfl), (Nat.le_of_ble_eq_true rfl)⟩ ?_
    refine R_istore_n dX10_throwAway_34 rfl (by decide) (st2 rfl) ?_
    refine R_aload_n dX10_throwAway_35 rfl rfl ?_
    refine R_iload_n dX10_throwAway_36 rfl rfl ?_
    refine G_cV1v cw_X10_153 (s_X10_goes hf hn hgK hk12 hk) dX10_throwAway_37 (rcv cok10 (by first | exact rfl | assumption) (Nat.le_of_ble_eq_true rfl)) ⟨(Nat.le_of_ble_eq_true rfl), (Nat.le_of_ble_eq_true rfl), (Nat.le_of_ble_eq_true rfl), (Nat.le_of_ble_eq_true rfl)⟩ ?_
    refine R_aload_n dX10_throwAway_40 rfl rfl ?_
    refine G_get cok10 0 wf_X10_7 dX10_throwAway_41 (by first | exact rfl | assumption) ⟨(Nat.le_of_ble_eq_true rfl), (Nat.le_of_ble_eq_true rfl)⟩ rfl ?_
    refine R_bipush (v := 7) dX10_throwAway_44 (by decide) ?_
    refine R_dup2 dX10_throwAway_46 rfl rfl ?_
    refine G_iald dX10_throwAway_47 (by first | exact rfl | assumption) (show vp_in (nI 7) 140 from nI_in12 (by omega) (by omega)) ?_
    refine R_topE (show (rGo (kpR M 465 c) k n) 465 _ = (rGo (kpR M 465 c) k n) 465 7 from rfl) ?_
    refine R_iconst (v := 1) dX10_throwAway_48 (by decide) ?_
    refine R_iadd dX10_throwAway_49 ?_
    refine G_iast dX10_throwAway_50 (by first | exact rfl | assumption) (show vp_in (nI 7) 140 from nI_in12 (by omega) (by omega)) ?_
    rw [show (7 : Int32).toNatClampNeg = 7 from rfl]
    refine R_iload_n dX10_throwAway_51 rfl rfl ?_
    refine R_iret dX10_throwAway_52 rfl (Nat.le_of_ble_eq_true rfl) (Nat.le_of_ble_eq_true rfl) ?_
    first | rw [tThr, ek, if_neg c1] | rw [tThr, if_neg c1]
    first | exact ⟨rfl, rfl⟩ | skip
  · refine R_aload_n dX10_throwAway_8 rfl rfl ?_
    refine R_iconst (v := 3) dX10_throwAway_9 (by decide) ?_
    refine R_aload_n dX10_throwAway_10 rfl rfl ?_
    refine G_get cok10 0 wf_X10_7 dX10_throwAway_11 (by first | exact rfl | assumption) ⟨(Nat.le_of_ble_eq_true rfl), (Nat.le_of_ble_eq_true rfl)⟩ rfl ?_
    refine R_iconst (v := 0) dX10_throwAway_14 (by decide) ?_
    refine G_iald dX10_throwAway_15 (by first | exact rfl | assumption) (show vp_in (nI 0) 140 from nI_in12 (by omega) (by omega)) ?_
    refine R_topE (show M 465 _ = nI n from hg) ?_
    refine G_cV2 cw_X10_114 (show VD l _ _ _ _ _ _ _ (some (.int 0)) (hp (rfM M _ _) r) from s_X10_refuses hf) dX10_throwAway_16 (rcv cok10 (by first | exact rfl | assumption) (Nat.le_of_ble_eq_true rfl)) ⟨(Nat.le_of_ble_eq_true rfl), (Nat.le_of_ble_eq_true rfl), (Nat.le_of_ble_eq_true rfl), (Nat.le_of_ble_eq_true rfl)⟩ ?_
    refine R_iret dX10_throwAway_19 rfl (Nat.le_of_ble_eq_true rfl) (Nat.le_of_ble_eq_true rfl) ?_
    first | rw [tThr, ek, if_pos c1] | rw [tThr, if_pos c1]
    first | exact ⟨rfl, rfl⟩ | skip
theorem L_X10_fish {l : Launch} (hf : l.stackTraces = false) {n : Nat} (hn : n < 12) {v : Int32} : ∀ (j i : Nat), i + j = 11 → Q_X10_fish l (VI (nI n) (hp (mst (mst (mst (clR M (8 + 11 * n) 11) 465 (8 + 11 * n + 0) v) 465 (8 + 11 * n + 3) (-1)) 465 (8 + 11 * n + 4) (-1)) r)) 63 (L9 (some (.ref 464)) (some (.int v)) (some (.int (nI n))) (some (.int (nI i))) none none none none none) [] (hp (clR M (8 + 11 * n) i) r) := by
  intro j
  induction j with
  | zero =>
    intro i hi
    obtain rfl : i = 11 := by omega
    refine R_iload_n dX10_fish_63 rfl rfl ?_
    refine R_bipush (v := 11) dX10_fish_64 (by decide) ?_
    refine R_icmp_ge_t (tgt := 82) dX10_fish_66 rfl (by decide) ?_
    refine R_aload_n dX10_fish_82 rfl rfl ?_
    refine R_iload_n dX10_fish_83 rfl rfl ?_
    refine R_iconst (v := 0) dX10_fish_84 (by decide) ?_
    refine R_iload_n dX10_fish_85 rfl rfl ?_
    refine G_cV3v cw_X10_103 (s_X10_lays hf (k := n) (w := 0) (by omega) (by omega) (by decide)) dX10_fish_86 (rcv cok10 (by first | exact rfl | assumption) (Nat.le_of_ble_eq_true rfl)) ⟨(Nat.le_of_ble_eq_true rfl), (Nat.le_of_ble_eq_true rfl), (Nat.le_of_ble_eq_true rfl), (Nat.le_of_ble_eq_true rfl)⟩ ?_
    refine R_aload_n dX10_fish_89 rfl rfl ?_
    refine R_iload_n dX10_fish_90 rfl rfl ?_
    refine R_iconst (v := 3) dX10_fish_91 (by decide) ?_
    refine R_iconst (v := (-1)) dX10_fish_92 (by decide) ?_
    refine G_cV3v cw_X10_103 (s_X10_lays hf (k := n) (w := 3) (by omega) (by omega) (by decide)) dX10_fish_93 (rcv cok10 (by first | exact rfl | assumption) (Nat.le_of_ble_eq_true rfl)) ⟨(Nat.le_of_ble_eq_true rfl), (Nat.le_of_ble_eq_true rfl), (Nat.le_of_ble_eq_true rfl), (Nat.le_of_ble_eq_true rfl)⟩ ?_
    refine R_aload_n dX10_fish_96 rfl rfl ?_
    refine R_iload_n dX10_fish_97 rfl rfl ?_
    refine R_iconst (v := 4) dX10_fish_98 (by decide) ?_
    refine R_iconst (v := (-1)) dX10_fish_99 (by decide) ?_
    refine G_cV3v cw_X10_103 (s_X10_lays hf (k := n) (w := 4) (by omega) (by omega) (by decide)) dX10_fish_100 (rcv cok10 (by first | exact rfl | assumption) (Nat.le_of_ble_eq_true rfl)) ⟨(Nat.le_of_ble_eq_true rfl), (Nat.le_of_ble_eq_true rfl), (Nat.le_of_ble_eq_true rfl), (Nat.le_of_ble_eq_true rfl)⟩ ?_
    refine R_iload_n dX10_fish_103 rfl rfl ?_
    refine R_iret dX10_fish_104 rfl (Nat.le_of_ble_eq_true rfl) (Nat.le_of_ble_eq_true rfl) ?_
    exact ⟨rfl, rfl⟩
  | succ j ih =>
    intro i hi
    have hi1 : i < 11 := by omega
    refine R_iload_n dX10_fish_63 rfl rfl ?_
    refine R_bipush (v := 11) dX10_fish_64 (by decide) ?_
    refine R_icmp_ge_f (tgt := 82) dX10_fish_66 rfl (nI_ge (b := 11) (by omega) (by omega)) ?_
    refine R_aload_n dX10_fish_69 rfl rfl ?_
    refine R_iload_n dX10_fish_70 rfl rfl ?_
    refine R_iload_n dX10_fish_71 rfl rfl ?_
    refine R_iconst (v := 0) dX10_fish_72 (by decide) ?_
    refine G_cV3v cw_X10_103 (s_X10_lays hf (k := n) (w := i) hn hi1 rfl) dX10_fish_73 (rcv cok10 (by first | exact rfl | assumption) (Nat.le_of_ble_eq_true rfl)) ⟨(Nat.le_of_ble_eq_true rfl), (Nat.le_of_ble_eq_true rfl), (Nat.le_of_ble_eq_true rfl), (Nat.le_of_ble_eq_true rfl)⟩ ?_
    rw [clR_s]
    first | refine R_iincN dX10_fish_76 (by decide) rfl (by decide) (st3 rfl) ?_ | refine R_iinc1 dX10_fish_76 (by decide) rfl (by decide) (st3 rfl) ?_
    refine R_goto (tgt := 63) dX10_fish_79 rfl ?_
    exact ih (i + 1) (by omega)
def tFis (M : MM) (n c : Nat) (v : Int32) : Int32 × MM := if zb (inB v 1 9) = 0 then (0, rfM M 1 0) else if nI n = 12 then (0, rfM M 2 12) else (nI n, mst (mst (mst (clR (mst (kpR M 465 c) 465 0 (nI (n + 1))) (8 + 11 * n) 11) 465 (8 + 11 * n + 0) v) 465 (8 + 11 * n + 3) (-1)) 465 (8 + 11 * n + 4) (-1))
theorem s_X10_fish {l : Launch} (hf : l.stackTraces = false) {n : Nat} (hn : n ≤ 12) (hg : M 465 0 = nI n) {c : Nat} (hc : c ≤ 8) (h6 : M 464 6 = nI c) {v : Int32} : V_X10_fish l [.ref 464, .int v] (hp M r) (VI (tFis M n c v).1 (hp (tFis M n c v).2 r)) := by
  refine VM.intro (lf := L9 (some (.ref 464)) (some (.int v)) none none none none none none none) (by decide +kernel) hf (fun _ => (Nat.le_of_ble_eq_true rfl)) (fun _ => rfl) ?_
  refine R_iload_n dX10_fish_0 rfl rfl ?_
  refine R_iconst (v := 1) dX10_fish_1 (by decide) ?_
  refine R_bipush (v := 9) dX10_fish_2 (by decide) ?_
  refine G_cS3 cw_X10_65 (s_X10_in hf) dX10_fish_4 ⟨(Nat.le_of_ble_eq_true rfl), (Nat.le_of_ble_eq_true rfl), (Nat.le_of_ble_eq_true rfl), (Nat.le_of_ble_eq_true rfl)⟩ ?_
  refine R_if_ne (tgt := 17) dX10_fish_7 rfl (fun c1 => ?_) (fun c1 => ?_)
  · refine R_aload_n dX10_fish_17 rfl rfl ?_
    refine G_get cok10 0 wf_X10_7 dX10_fish_18 (by first | exact rfl | assumption) ⟨(Nat.le_of_ble_eq_true rfl), (Nat.le_of_ble_eq_true rfl)⟩ rfl ?_
    refine R_iconst (v := 0) dX10_fish_21 (by decide) ?_
    refine G_iald dX10_fish_22 (by first | exact rfl | assumption) (show vp_in (nI 0) 140 from nI_in12 (by omega) (by omega)) ?_
    refine R_topE (show M 465 _ = nI n from hg) ?_
    refine R_bipush (v := 12) dX10_fish_23 (by decide) ?_
    refine R_icmp_ne (tgt := 36) dX10_fish_25 rfl (fun c2 => ?_) (fun c2 => ?_)
    · refine R_aload_n dX10_fish_36 rfl rfl ?_
      refine R_aload_n dX10_fish_37 rfl rfl ?_
      refine G_get cok10 0 wf_X10_7 dX10_fish_38 (by first | exact rfl | assumption) ⟨(Nat.le_of_ble_eq_true rfl), (Nat.le_of_ble_eq_true rfl)⟩ rfl ?_
      refine G_cV1v cw_X10_117 (s_X10_keeps hf (a := 465) rfl rfl (by decide) hc h6) dX10_fish_41 (rcv cok10 (by first | exact rfl | assumption) (Nat.le_of_ble_eq_true rfl)) ⟨(Nat.le_of_ble_eq_true rfl), (Nat.le_of_ble_eq_true rfl), (Nat.le_of_ble_eq_true rfl), (Nat.le_of_ble_eq_true rfl)⟩ ?_
      have fK : ∀ y, kpR M 465 c 465 y = M 465 y := fun y => kpR_fr (by decide) (Or.inl (by decide))
      have hgK : kpR M 465 c 465 0 = nI n := (fK 0).trans hg
      refine R_aload_n dX10_fish_44 rfl rfl ?_
      refine G_get cok10 0 wf_X10_7 dX10_fish_45 (by first | exact rfl | assumption) ⟨(Nat.le_of_ble_eq_true rfl), (Nat.le_of_ble_eq_true rfl)⟩ rfl ?_
      refine R_iconst (v := 0) dX10_fish_48 (by decide) ?_
      refine G_iald dX10_fish_49 (by first | exact rfl | assumption) (show vp_in (nI 0) 140 from nI_in12 (by omega) (by omega)) ?_
      refine R_topE (show kpR M 465 c 465 _ = nI n from hgK) ?_
      refine R_istore_n dX10_fish_50 rfl (by decide) (st2 rfl) ?_
      refine R_aload_n dX10_fish_51 rfl rfl ?_
      refine G_get cok10 0 wf_X10_7 dX10_fish_52 (by first | exact rfl | assumption) ⟨(Nat.le_of_ble_eq_true rfl), (Nat.le_of_ble_eq_true rfl)⟩ rfl ?_
      refine R_iconst (v := 0) dX10_fish_55 (by decide) ?_
      refine R_dup2 dX10_fish_56 rfl rfl ?_
      refine G_iald dX10_fish_57 (by first | exact rfl | assumption) (show vp_in (nI 0) 140 from nI_in12 (by omega) (by omega)) ?_
      refine R_topE (show kpR M 465 c 465 _ = nI n from hgK) ?_
      refine R_iconst (v := 1) dX10_fish_58 (by decide) ?_
      refine R_iadd dX10_fish_59 ?_
      refine R_topE (nI_1 _) ?_
      refine G_iast dX10_fish_60 (by first | exact rfl | assumption) (show vp_in (nI 0) 140 from nI_in12 (by omega) (by omega)) ?_
      rw [show (0 : Int32).toNatClampNeg = 0 from rfl]
      refine R_iconst (v := 0) dX10_fish_61 (by decide) ?_
      refine R_istore_n dX10_fish_62 rfl (by decide) (st3 rfl) ?_
      have hn12 : n < 12 := by
        by_cases h : n = 12
        · subst h; exact absurd (show nI 12 = 12 from by decide) (by assumption)
        · omega
      rw [tFis, if_neg c1, if_neg c2]
      have h9 := L_X10_fish (M := mst (kpR M 465 c) 465 0 (nI (n + 1))) (r := r) (v := v) hf hn12 11 0 (by omega)
      rw [clR_0, nI_0] at h9
      exact h9
    · refine R_aload_n dX10_fish_28 rfl rfl ?_
      refine R_iconst (v := 2) dX10_fish_29 (by decide) ?_
      refine R_bipush (v := 12) dX10_fish_30 (by decide) ?_
      refine G_cV2 cw_X10_114 (show VD l _ _ _ _ _ _ _ (some (.int 0)) (hp (rfM M _ _) r) from s_X10_refuses hf) dX10_fish_32 (rcv cok10 (by first | exact rfl | assumption) (Nat.le_of_ble_eq_true rfl)) ⟨(Nat.le_of_ble_eq_true rfl), (Nat.le_of_ble_eq_true rfl), (Nat.le_of_ble_eq_true rfl), (Nat.le_of_ble_eq_true rfl)⟩ ?_
      refine R_iret dX10_fish_35 rfl (Nat.le_of_ble_eq_true rfl) (Nat.le_of_ble_eq_true rfl) ?_
      rw [tFis, if_neg c1, if_pos c2]
      first | exact ⟨rfl, rfl⟩ | skip
  · refine R_aload_n dX10_fish_10 rfl rfl ?_
    refine R_iconst (v := 1) dX10_fish_11 (by decide) ?_
    refine R_iconst (v := 0) dX10_fish_12 (by decide) ?_
    refine G_cV2 cw_X10_114 (show VD l _ _ _ _ _ _ _ (some (.int 0)) (hp (rfM M _ _) r) from s_X10_refuses hf) dX10_fish_13 (rcv cok10 (by first | exact rfl | assumption) (Nat.le_of_ble_eq_true rfl)) ⟨(Nat.le_of_ble_eq_true rfl), (Nat.le_of_ble_eq_true rfl), (Nat.le_of_ble_eq_true rfl), (Nat.le_of_ble_eq_true rfl)⟩ ?_
    refine R_iret dX10_fish_16 rfl (Nat.le_of_ble_eq_true rfl) (Nat.le_of_ble_eq_true rfl) ?_
    rw [tFis, if_pos c1]
    first | exact ⟨rfl, rfl⟩ | skip
end P25
