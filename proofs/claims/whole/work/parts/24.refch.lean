/-- 140 numbers of the array a from p on, laid into c from q on: the first j of them -/
def cpR (M : MM) (a p c q j : Nat) : MM := fun x y => if x = c ∧ q ≤ y ∧ y < q + j then M a (p + (y - q)) else M x y
theorem cpR_0 {M : MM} {a p c q : Nat} : cpR M a p c q 0 = M := by
  funext x y
  rw [cpR, if_neg (by omega)]
theorem cpR_s {M : MM} {a p c q j : Nat} (h : a ≠ c) : mst (cpR M a p c q j) c (q + j) (cpR M a p c q j a (p + j)) = cpR M a p c q (j + 1) := by
  funext x y
  by_cases h1 : x = c ∧ y = q + j
  · obtain ⟨rfl, rfl⟩ := h1
    rw [mst_eq, cpR, cpR, if_neg (fun z => h z.1), if_pos ⟨rfl, by omega, by omega⟩]
    congr 1
    omega
  · rw [mst_ne (by omega), cpR, cpR]
    by_cases h2 : x = c ∧ q ≤ y ∧ y < q + j
    · rw [if_pos h2, if_pos (by omega)]
    · rw [if_neg h2, if_neg (by omega)]
theorem cpR_ne {M : MM} {a p c q j x y : Nat} (h : x ≠ c) : cpR M a p c q j x y = M x y := if_neg (fun z => h z.1)
section P24
variable {M : MM} {r : MR}
theorem L_X10_copies {l : Launch} (hf : l.stackTraces = false) {a c p q : Nat} (ha : sK a = 12) (hc : sK c = 12) (hac : a ≠ c) (hp1 : p + 140 ≤ sL a) (hq1 : q + 140 ≤ sL c) (hl1 : sL a ≤ 1120) (hl2 : sL c ≤ 1120) : ∀ (j i : Nat), i + j = 140 → Q_X10_copies l (VR none (hp (cpR M a p c q 140) r)) 3 (L9 (some (.ref a)) (some (.int (nI p))) (some (.ref c)) (some (.int (nI q))) (some (.int (nI i))) none none none none) [] (hp (cpR M a p c q i) r) := by
  intro j
  induction j with
  | zero =>
    intro i hi
    have hin : 140 = i := by omega
    subst hin
    refine R_iload dX10_copies_3 (by decide) rfl ?_
    refine R_sipush (v := 140) dX10_copies_5 (by decide) ?_
    refine R_icmp_ge_t (tgt := 29) dX10_copies_8 rfl (nI_le (a := 140) (by omega) (by omega)) ?_
    refine R_vret dX10_copies_29 (Nat.le_of_ble_eq_true rfl) (Nat.le_of_ble_eq_true rfl) ?_
    exact ⟨rfl, rfl⟩
  | succ j ih =>
    intro i hi
    have hi1 : i < 140 := by omega
    refine R_iload dX10_copies_3 (by decide) rfl ?_
    refine R_sipush (v := 140) dX10_copies_5 (by decide) ?_
    refine R_icmp_ge_f (tgt := 29) dX10_copies_8 rfl (nI_ge (b := 140) (by omega) (by omega)) ?_
    refine R_aload_n dX10_copies_11 rfl rfl ?_
    refine R_iload_n dX10_copies_12 rfl rfl ?_
    refine R_iload dX10_copies_13 (by decide) rfl ?_
    refine R_iadd dX10_copies_15 ?_
    rw [nI_add2]
    refine R_aload_n dX10_copies_16 rfl rfl ?_
    refine R_iload_n dX10_copies_17 rfl rfl ?_
    refine R_iload dX10_copies_18 (by decide) rfl ?_
    refine R_iadd dX10_copies_20 ?_
    rw [nI_add2]
    refine G_iald dX10_copies_21 (by first | exact rfl | assumption) (nI_in (by omega) (by omega)) ?_
    refine G_iast dX10_copies_22 (by first | exact rfl | assumption) (nI_in (by omega) (by omega)) ?_
    rw [nI_cl (by omega), nI_cl (by omega), cpR_s hac]
    first | refine R_iincN dX10_copies_23 (by decide) rfl (by decide) (st4 rfl) ?_ | refine R_iinc1 dX10_copies_23 (by decide) rfl (by decide) (st4 rfl) ?_
    refine R_goto (tgt := 3) dX10_copies_26 rfl ?_
    have h9 := ih (i + 1) (by omega)
    exact h9
theorem s_X10_copies {l : Launch} (hf : l.stackTraces = false) {a c p q : Nat} (ha : sK a = 12) (hc : sK c = 12) (hac : a ≠ c) (hp1 : p + 140 ≤ sL a) (hq1 : q + 140 ≤ sL c) (hl1 : sL a ≤ 1120) (hl2 : sL c ≤ 1120) : V_X10_copies l [.ref a, .int (nI p), .ref c, .int (nI q)] (hp M r) (VR none (hp (cpR M a p c q 140) r)) := by
  refine VM.intro (lf := L9 (some (.ref a)) (some (.int (nI p))) (some (.ref c)) (some (.int (nI q))) none none none none none) (by decide +kernel) hf (fun _ => (Nat.le_of_ble_eq_true rfl)) (fun _ => rfl) ?_
  refine R_iconst (v := 0) dX10_copies_0 (by decide) ?_
  refine R_istore dX10_copies_1 (by decide) (st4 rfl) ?_
  have h9 := L_X10_copies (M := M) (r := r) hf ha hc hac hp1 hq1 hl1 hl2 140 0 (by omega)
  rw [cpR_0, nI_0] at h9
  exact h9
def rTu (M : MM) (k : Nat) : MM := mst (mst M 465 (8 + 11 * k + 5) (1 - oF M k 5)) 465 (8 + 11 * k + 6) 1
theorem s_X10_turns {l : Launch} (hf : l.stackTraces = false) {k : Nat} (hk : k < 12) : V_X10_turns l [.ref 464, .int (nI k)] (hp M r) (VR none (hp (rTu M k) r)) := by
  refine VM.intro (lf := L9 (some (.ref 464)) (some (.int (nI k))) none none none none none none none) (by decide +kernel) hf (fun _ => (Nat.le_of_ble_eq_true rfl)) (fun _ => rfl) ?_
  refine R_aload_n dX10_turns_0 rfl rfl ?_
  refine R_iload_n dX10_turns_1 rfl rfl ?_
  refine R_iconst (v := 5) dX10_turns_2 (by decide) ?_
  refine R_iconst (v := 1) dX10_turns_3 (by decide) ?_
  refine R_aload_n dX10_turns_4 rfl rfl ?_
  refine R_iload_n dX10_turns_5 rfl rfl ?_
  refine R_iconst (v := 5) dX10_turns_6 (by decide) ?_
  refine G_cV2 cw_X10_69 (s_X10_of hf (k := k) (w := 5) (by omega) (by decide) (by decide)) dX10_turns_7 (rcv cok10 (by first | exact rfl | assumption) (Nat.le_of_ble_eq_true rfl)) ⟨(Nat.le_of_ble_eq_true rfl), (Nat.le_of_ble_eq_true rfl), (Nat.le_of_ble_eq_true rfl), (Nat.le_of_ble_eq_true rfl)⟩ ?_
  refine R_isub dX10_turns_10 ?_
  refine G_cV3v cw_X10_103 (s_X10_lays hf (k := k) (w := 5) (by omega) (by omega) (by decide)) dX10_turns_11 (rcv cok10 (by first | exact rfl | assumption) (Nat.le_of_ble_eq_true rfl)) ⟨(Nat.le_of_ble_eq_true rfl), (Nat.le_of_ble_eq_true rfl), (Nat.le_of_ble_eq_true rfl), (Nat.le_of_ble_eq_true rfl)⟩ ?_
  refine R_aload_n dX10_turns_14 rfl rfl ?_
  refine R_iload_n dX10_turns_15 rfl rfl ?_
  refine R_bipush (v := 6) dX10_turns_16 (by decide) ?_
  refine R_iconst (v := 1) dX10_turns_18 (by decide) ?_
  refine G_cV3v cw_X10_103 (s_X10_lays hf (k := k) (w := 6) (by omega) (by omega) (by decide)) dX10_turns_19 (rcv cok10 (by first | exact rfl | assumption) (Nat.le_of_ble_eq_true rfl)) ⟨(Nat.le_of_ble_eq_true rfl), (Nat.le_of_ble_eq_true rfl), (Nat.le_of_ble_eq_true rfl), (Nat.le_of_ble_eq_true rfl)⟩ ?_
  refine R_vret dX10_turns_22 (Nat.le_of_ble_eq_true rfl) (Nat.le_of_ble_eq_true rfl) ?_
  exact ⟨rfl, rfl⟩
def rS1 (M : MM) (k n d : Nat) : MM := mst M 465 (8 + 11 * k + (7 + d)) (mn2 (oF M k (7 + d) + (if zb (rNear M k n) = 0 then rHeat M (oF M k 3) + M 465 2 else (rHeat M (oF M k 3) + M 465 2) / 2)) 40)
def rSmk (M : MM) (k n d : Nat) : MM := if 2 + oF (rS1 M k n d) k 1 / 3 < rHeat M (oF M k 3) then (if oF (rS1 M k n d) k 6 = 0 then mst (rS1 M k n d) 465 (8 + 11 * k + (9 + d)) (mn2 (oF (rS1 M k n d) k (9 + d) + rHeat M (oF M k 3) - (2 + oF (rS1 M k n d) k 1 / 3)) 9) else rS1 M k n d) else rS1 M k n d
theorem B60_X10_smokes {l : Launch} (hf : l.stackTraces = false) {n : Nat} (hn : n ≤ 12) (hg : M 465 0 = nI n) {k : Nat} (hk : k < 12) (hkn : k < n) {d : Nat} (hd : d < 2) (h5 : oF M k 5 = nI d) : Q_X10_smokes l (VR none (hp (rSmk M k n d) r)) 60 (L9 (some (.ref 464)) (some (.int (nI k))) (some (.int (nI d))) (some (.int (rHeat M (oF M k 3)))) (some (.int (rHeat M (oF M k 3) + M 465 2))) none none none none) [.int (if zb (rNear M k n) = 0 then rHeat M (oF M k 3) + M 465 2 else (rHeat M (oF M k 3) + M 465 2) / 2), .int (oF M k (7 + d)), .int (7 + nI d), .int (nI k), .ref 464] (hp M r) := by
  refine R_iadd dX10_smokes_60 ?_
  refine R_bipush (v := 40) dX10_smokes_61 (by decide) ?_
  refine G_cS2 cw_X10_80 (s_X10_atMost hf) dX10_smokes_63 ⟨(Nat.le_of_ble_eq_true rfl), (Nat.le_of_ble_eq_true rfl), (Nat.le_of_ble_eq_true rfl), (Nat.le_of_ble_eq_true rfl)⟩ ?_
  refine G_cV3v cw_X10_103 (s_X10_lays hf (k := k) (w := 7 + d) (by omega) (by omega) (nI_add2 7 d)) dX10_smokes_66 (rcv cok10 (by first | exact rfl | assumption) (Nat.le_of_ble_eq_true rfl)) ⟨(Nat.le_of_ble_eq_true rfl), (Nat.le_of_ble_eq_true rfl), (Nat.le_of_ble_eq_true rfl), (Nat.le_of_ble_eq_true rfl)⟩ ?_
  rw [show mst M 465 (8 + 11 * k + (7 + d)) (mn2 (oF M k (7 + d) + (if zb (rNear M k n) = 0 then rHeat M (oF M k 3) + M 465 2 else (rHeat M (oF M k 3) + M 465 2) / 2)) 40) = rS1 M k n d from rfl]
  refine R_iload_n dX10_smokes_69 rfl rfl ?_
  refine R_aload_n dX10_smokes_70 rfl rfl ?_
  refine R_iload_n dX10_smokes_71 rfl rfl ?_
  refine G_cV1 cw_X10_107 (s_X10_bears hf hk) dX10_smokes_72 (rcv cok10 (by first | exact rfl | assumption) (Nat.le_of_ble_eq_true rfl)) ⟨(Nat.le_of_ble_eq_true rfl), (Nat.le_of_ble_eq_true rfl), (Nat.le_of_ble_eq_true rfl), (Nat.le_of_ble_eq_true rfl)⟩ ?_
  refine R_icmp_leN (tgt := 119) dX10_smokes_75 rfl (fun c1 => ?_) (fun c1 => ?_)
  · refine R_vret dX10_smokes_119 (Nat.le_of_ble_eq_true rfl) (Nat.le_of_ble_eq_true rfl) ?_
    refine ⟨rfl, congrArg (fun z => hp z r) ?_⟩
    simp only [rSmk, *, if_true, if_false]
  · refine R_aload_n dX10_smokes_78 rfl rfl ?_
    refine R_iload_n dX10_smokes_79 rfl rfl ?_
    refine R_bipush (v := 6) dX10_smokes_80 (by decide) ?_
    refine G_cV2 cw_X10_69 (s_X10_of hf (k := k) (w := 6) (by omega) (by decide) (by decide)) dX10_smokes_82 (rcv cok10 (by first | exact rfl | assumption) (Nat.le_of_ble_eq_true rfl)) ⟨(Nat.le_of_ble_eq_true rfl), (Nat.le_of_ble_eq_true rfl), (Nat.le_of_ble_eq_true rfl), (Nat.le_of_ble_eq_true rfl)⟩ ?_
    refine R_if_ne (tgt := 119) dX10_smokes_85 rfl (fun c2 => ?_) (fun c2 => ?_)
    · refine R_vret dX10_smokes_119 (Nat.le_of_ble_eq_true rfl) (Nat.le_of_ble_eq_true rfl) ?_
      refine ⟨rfl, congrArg (fun z => hp z r) ?_⟩
      simp only [rSmk, *, if_true, if_false]
    · refine R_aload_n dX10_smokes_88 rfl rfl ?_
      refine R_iload_n dX10_smokes_89 rfl rfl ?_
      refine R_bipush (v := 9) dX10_smokes_90 (by decide) ?_
      refine R_iload_n dX10_smokes_92 rfl rfl ?_
      refine R_iadd dX10_smokes_93 ?_
      refine R_aload_n dX10_smokes_94 rfl rfl ?_
      refine R_iload_n dX10_smokes_95 rfl rfl ?_
      refine R_bipush (v := 9) dX10_smokes_96 (by decide) ?_
      refine R_iload_n dX10_smokes_98 rfl rfl ?_
      refine R_iadd dX10_smokes_99 ?_
      refine G_cV2 cw_X10_69 (s_X10_of hf (k := k) (w := 9 + d) hk (by omega) (nI_add2 9 d)) dX10_smokes_100 (rcv cok10 (by first | exact rfl | assumption) (Nat.le_of_ble_eq_true rfl)) ⟨(Nat.le_of_ble_eq_true rfl), (Nat.le_of_ble_eq_true rfl), (Nat.le_of_ble_eq_true rfl), (Nat.le_of_ble_eq_true rfl)⟩ ?_
      refine R_iload_n dX10_smokes_103 rfl rfl ?_
      refine R_iadd dX10_smokes_104 ?_
      refine R_aload_n dX10_smokes_105 rfl rfl ?_
      refine R_iload_n dX10_smokes_106 rfl rfl ?_
      refine G_cV1 cw_X10_107 (s_X10_bears hf hk) dX10_smokes_107 (rcv cok10 (by first | exact rfl | assumption) (Nat.le_of_ble_eq_true rfl)) ⟨(Nat.le_of_ble_eq_true rfl), (Nat.le_of_ble_eq_true rfl), (Nat.le_of_ble_eq_true rfl), (Nat.le_of_ble_eq_true rfl)⟩ ?_
      refine R_isub dX10_smokes_110 ?_
      refine R_bipush (v := 9) dX10_smokes_111 (by decide) ?_
      refine G_cS2 cw_X10_80 (s_X10_atMost hf) dX10_smokes_113 ⟨(Nat.le_of_ble_eq_true rfl), (Nat.le_of_ble_eq_true rfl), (Nat.le_of_ble_eq_true rfl), (Nat.le_of_ble_eq_true rfl)⟩ ?_
      refine G_cV3v cw_X10_103 (s_X10_lays hf (k := k) (w := 9 + d) (by omega) (by omega) (nI_add2 9 d)) dX10_smokes_116 (rcv cok10 (by first | exact rfl | assumption) (Nat.le_of_ble_eq_true rfl)) ⟨(Nat.le_of_ble_eq_true rfl), (Nat.le_of_ble_eq_true rfl), (Nat.le_of_ble_eq_true rfl), (Nat.le_of_ble_eq_true rfl)⟩ ?_
      refine R_vret dX10_smokes_119 (Nat.le_of_ble_eq_true rfl) (Nat.le_of_ble_eq_true rfl) ?_
      refine ⟨rfl, congrArg (fun z => hp z r) ?_⟩
      simp only [rSmk, *, if_true, if_false]
theorem s_X10_smokes {l : Launch} (hf : l.stackTraces = false) {n : Nat} (hn : n ≤ 12) (hg : M 465 0 = nI n) {k : Nat} (hk : k < 12) (hkn : k < n) {d : Nat} (hd : d < 2) (h5 : oF M k 5 = nI d) : V_X10_smokes l [.ref 464, .int (nI k)] (hp M r) (VR none (hp (rSmk M k n d) r)) := by
  refine VM.intro (lf := L9 (some (.ref 464)) (some (.int (nI k))) none none none none none none none) (by decide +kernel) hf (fun _ => (Nat.le_of_ble_eq_true rfl)) (fun _ => rfl) ?_
  refine R_aload_n dX10_smokes_0 rfl rfl ?_
  refine R_iload_n dX10_smokes_1 rfl rfl ?_
  refine R_iconst (v := 5) dX10_smokes_2 (by decide) ?_
  refine G_cV2 cw_X10_69 (s_X10_of hf (k := k) (w := 5) (by omega) (by decide) (by decide)) dX10_smokes_3 (rcv cok10 (by first | exact rfl | assumption) (Nat.le_of_ble_eq_true rfl)) ⟨(Nat.le_of_ble_eq_true rfl), (Nat.le_of_ble_eq_true rfl), (Nat.le_of_ble_eq_true rfl), (Nat.le_of_ble_eq_true rfl)⟩ ?_
  refine R_topE h5 ?_
  refine R_istore_n dX10_smokes_6 rfl (by decide) (st2 rfl) ?_
  refine R_aload_n dX10_smokes_7 rfl rfl ?_
  refine R_aload_n dX10_smokes_8 rfl rfl ?_
  refine R_iload_n dX10_smokes_9 rfl rfl ?_
  refine R_iconst (v := 3) dX10_smokes_10 (by decide) ?_
  refine G_cV2 cw_X10_69 (s_X10_of hf (k := k) (w := 3) (by omega) (by decide) (by decide)) dX10_smokes_11 (rcv cok10 (by first | exact rfl | assumption) (Nat.le_of_ble_eq_true rfl)) ⟨(Nat.le_of_ble_eq_true rfl), (Nat.le_of_ble_eq_true rfl), (Nat.le_of_ble_eq_true rfl), (Nat.le_of_ble_eq_true rfl)⟩ ?_
  refine G_cV1 cw_X10_97 (s_X10_heatOf hf) dX10_smokes_14 (rcv cok10 (by first | exact rfl | assumption) (Nat.le_of_ble_eq_true rfl)) ⟨(Nat.le_of_ble_eq_true rfl), (Nat.le_of_ble_eq_true rfl), (Nat.le_of_ble_eq_true rfl), (Nat.le_of_ble_eq_true rfl)⟩ ?_
  refine R_istore_n dX10_smokes_17 rfl (by decide) (st3 rfl) ?_
  refine R_iload_n dX10_smokes_18 rfl rfl ?_
  refine R_aload_n dX10_smokes_19 rfl rfl ?_
  refine G_get cok10 0 wf_X10_7 dX10_smokes_20 (by first | exact rfl | assumption) ⟨(Nat.le_of_ble_eq_true rfl), (Nat.le_of_ble_eq_true rfl)⟩ rfl ?_
  refine R_iconst (v := 2) dX10_smokes_23 (by decide) ?_
  refine G_iald dX10_smokes_24 (by first | exact rfl | assumption) (show vp_in (nI 2) 140 from nI_in12 (by omega) (by omega)) ?_
  refine R_topE (show M 465 _ = M 465 2 from rfl) ?_
  refine R_iadd dX10_smokes_25 ?_
  refine R_istore dX10_smokes_26 (by decide) (st4 rfl) ?_
  refine R_aload_n dX10_smokes_28 rfl rfl ?_
  refine R_iload_n dX10_smokes_29 rfl rfl ?_
  refine R_bipush (v := 7) dX10_smokes_30 (by decide) ?_
  refine R_iload_n dX10_smokes_32 rfl rfl ?_
  refine R_iadd dX10_smokes_33 ?_
  refine R_aload_n dX10_smokes_34 rfl rfl ?_
  refine R_iload_n dX10_smokes_35 rfl rfl ?_
  refine R_bipush (v := 7) dX10_smokes_36 (by decide) ?_
  refine R_iload_n dX10_smokes_38 rfl rfl ?_
  refine R_iadd dX10_smokes_39 ?_
  refine G_cV2 cw_X10_69 (s_X10_of hf (k := k) (w := 7 + d) hk (by omega) (nI_add2 7 d)) dX10_smokes_40 (rcv cok10 (by first | exact rfl | assumption) (Nat.le_of_ble_eq_true rfl)) ⟨(Nat.le_of_ble_eq_true rfl), (Nat.le_of_ble_eq_true rfl), (Nat.le_of_ble_eq_true rfl), (Nat.le_of_ble_eq_true rfl)⟩ ?_
  refine R_aload_n dX10_smokes_43 rfl rfl ?_
  refine R_iload_n dX10_smokes_44 rfl rfl ?_
  refine G_cV1 cw_X10_100 (s_X10_isNear hf hn hg hk) dX10_smokes_45 (rcv cok10 (by first | exact rfl | assumption) (Nat.le_of_ble_eq_true rfl)) ⟨(Nat.le_of_ble_eq_true rfl), (Nat.le_of_ble_eq_true rfl), (Nat.le_of_ble_eq_true rfl), (Nat.le_of_ble_eq_true rfl)⟩ ?_
  refine R_if_eq (tgt := 58) dX10_smokes_48 rfl (fun c1 => ?_) (fun c1 => ?_)
  · refine R_iload dX10_smokes_58 (by decide) rfl ?_
    refine R_topE (y := (if zb (rNear M k n) = 0 then rHeat M (oF M k 3) + M 465 2 else (rHeat M (oF M k 3) + M 465 2) / 2)) (by simp only [*, if_true, if_false]) ?_
    exact B60_X10_smokes hf hn hg hk hkn hd h5
  · refine R_iload dX10_smokes_51 (by decide) rfl ?_
    refine R_iconst (v := 2) dX10_smokes_53 (by decide) ?_
    refine R_idiv dX10_smokes_54 (by decide) ?_
    refine R_goto (tgt := 60) dX10_smokes_55 rfl ?_
    refine R_topE (y := (if zb (rNear M k n) = 0 then rHeat M (oF M k 3) + M 465 2 else (rHeat M (oF M k 3) + M 465 2) / 2)) (by simp only [*, if_true, if_false]) ?_
    exact B60_X10_smokes hf hn hg hk hkn hd h5
theorem rSmk_fr {M : MM} {k n d x y : Nat} (hd : d < 2) (h : x ≠ 465 ∨ y < 8 ∨ (y - 8) % 11 < 6) : rSmk M k n d x y = M x y := by
  have h1 : rS1 M k n d x y = M x y := mst_ne (by omega)
  unfold rSmk
  split
  · split
    · rw [mst_ne (by omega)]; exact h1
    · exact h1
  · exact h1
def rHst (M : MM) (n i : Nat) : MM := mst (if zb (rHang M i) = 0 then M else if 0 < M 465 1 then rSmk M i n (oF M i 5).toNatClampNeg else M) 465 (8 + 11 * i + 6) 0
def rHr (M : MM) (n i : Nat) : MM := itN (fun i M' => rHst M' n i) M i
/-- which side is down -/
def dwn (M : MM) (n : Nat) : Prop := ∀ k, k < n → ∃ d, d < 2 ∧ oF M k 5 = nI d
theorem rHst_fr {M : MM} {n i d x y : Nat} (hd : d < 2) (h5 : oF M i 5 = nI d) (h : x ≠ 465 ∨ y < 8 ∨ (y - 8) % 11 < 6) : rHst M n i x y = M x y := by
  have e : (oF M i 5).toNatClampNeg = d := by rw [h5]; exact nI_cl (by omega)
  rw [rHst, mst_ne (by omega), e]
  split
  · rfl
  · split
    · exact rSmk_fr hd h
    · rfl
theorem rHr_fr {M : MM} {n x y : Nat} (hd5 : dwn M n) (h : x ≠ 465 ∨ y < 8 ∨ (y - 8) % 11 < 6) : ∀ i, i ≤ n → rHr M n i x y = M x y
  | 0, _ => rfl
  | i + 1, hi => by
    obtain ⟨d, hd, h5⟩ := hd5 i (by omega)
    show rHst (rHr M n i) n i x y = _
    rw [rHst_fr hd (by rw [show oF (rHr M n i) i 5 = oF M i 5 from rHr_fr hd5 (by omega) i (by omega)]; exact h5) h]
    exact rHr_fr hd5 h i (by omega)
def rHt1 (M : MM) : MM := if 0 < M 465 1 then mst M 465 1 (M 465 1 - 1) else M
def rHt (M : MM) : MM := mst (rHt1 M) 465 3 (rHt1 M 465 3 + 1)
def rHour (M : MM) (n : Nat) : MM := rHt (rHr M n n)
theorem E67_X10_hour {l : Launch} (hf : l.stackTraces = false) {x : Int32} : Q_X10_hour l (VR none (hp (mst M 465 3 (M 465 3 + 1)) r)) 67 (L9 (some (.ref 464)) (some (.int x)) none none none none none none none) [] (hp M r) := by
  refine R_aload_n dX10_hour_67 rfl rfl ?_
  refine G_get cok10 0 wf_X10_7 dX10_hour_68 (by first | exact rfl | assumption) ⟨(Nat.le_of_ble_eq_true rfl), (Nat.le_of_ble_eq_true rfl)⟩ rfl ?_
  refine R_iconst (v := 3) dX10_hour_71 (by decide) ?_
  refine R_dup2 dX10_hour_72 rfl rfl ?_
  refine G_iald dX10_hour_73 (by first | exact rfl | assumption) (show vp_in (nI 3) 140 from nI_in12 (by omega) (by omega)) ?_
  refine R_topE (show M 465 _ = M 465 3 from rfl) ?_
  refine R_iconst (v := 1) dX10_hour_74 (by decide) ?_
  refine R_iadd dX10_hour_75 ?_
  refine G_iast dX10_hour_76 (by first | exact rfl | assumption) (show vp_in (nI 3) 140 from nI_in12 (by omega) (by omega)) ?_
  rw [show (3 : Int32).toNatClampNeg = 3 from rfl]
  refine R_vret dX10_hour_77 (Nat.le_of_ble_eq_true rfl) (Nat.le_of_ble_eq_true rfl) ?_
  exact ⟨rfl, rfl⟩
theorem E48_X10_hour {l : Launch} (hf : l.stackTraces = false) {x : Int32} : Q_X10_hour l (VR none (hp (rHt M) r)) 48 (L9 (some (.ref 464)) (some (.int x)) none none none none none none none) [] (hp M r) := by
  refine R_aload_n dX10_hour_48 rfl rfl ?_
  refine G_get cok10 0 wf_X10_7 dX10_hour_49 (by first | exact rfl | assumption) ⟨(Nat.le_of_ble_eq_true rfl), (Nat.le_of_ble_eq_true rfl)⟩ rfl ?_
  refine R_iconst (v := 1) dX10_hour_52 (by decide) ?_
  refine G_iald dX10_hour_53 (by first | exact rfl | assumption) (show vp_in (nI 1) 140 from nI_in12 (by omega) (by omega)) ?_
  refine R_topE (show M 465 _ = M 465 1 from rfl) ?_
  refine R_if_leN (tgt := 67) dX10_hour_54 rfl (fun c1 => ?_) (fun c1 => ?_)
  · rw [rHt]
    first | (rw [show rHt1 M = mst M 465 1 (M 465 1 - 1) from if_pos c1]; exact E67_X10_hour hf) | (rw [show rHt1 M = M from if_neg c1]; exact E67_X10_hour hf)
  · refine R_aload_n dX10_hour_57 rfl rfl ?_
    refine G_get cok10 0 wf_X10_7 dX10_hour_58 (by first | exact rfl | assumption) ⟨(Nat.le_of_ble_eq_true rfl), (Nat.le_of_ble_eq_true rfl)⟩ rfl ?_
    refine R_iconst (v := 1) dX10_hour_61 (by decide) ?_
    refine R_dup2 dX10_hour_62 rfl rfl ?_
    refine G_iald dX10_hour_63 (by first | exact rfl | assumption) (show vp_in (nI 1) 140 from nI_in12 (by omega) (by omega)) ?_
    refine R_topE (show M 465 _ = M 465 1 from rfl) ?_
    refine R_iconst (v := 1) dX10_hour_64 (by decide) ?_
    refine R_isub dX10_hour_65 ?_
    refine G_iast dX10_hour_66 (by first | exact rfl | assumption) (show vp_in (nI 1) 140 from nI_in12 (by omega) (by omega)) ?_
    rw [rHt]
    first | (rw [show rHt1 M = mst M 465 1 (M 465 1 - 1) from if_pos c1]; exact E67_X10_hour hf) | (rw [show rHt1 M = M from if_neg c1]; exact E67_X10_hour hf)
theorem L_X10_hour {l : Launch} (hf : l.stackTraces = false) {n : Nat} (hn : n ≤ 12) (hg : M 465 0 = nI n) (hd5 : dwn M n) : ∀ (j i : Nat), i + j = n → Q_X10_hour l (VR none (hp (rHour M n) r)) 2 (L9 (some (.ref 464)) (some (.int (nI i))) none none none none none none none) [] (hp (rHr M n i) r) := by
  intro j
  induction j with
  | zero =>
    intro i hi
    obtain rfl : n = i := by omega
    have hg2 : rHr M n n 465 0 = nI n := (rHr_fr hd5 (by omega) n (by omega)).trans hg
    refine R_iload_n dX10_hour_2 rfl rfl ?_
    refine R_aload_n dX10_hour_3 rfl rfl ?_
    refine G_get cok10 0 wf_X10_7 dX10_hour_4 (by first | exact rfl | assumption) ⟨(Nat.le_of_ble_eq_true rfl), (Nat.le_of_ble_eq_true rfl)⟩ rfl ?_
    refine R_iconst (v := 0) dX10_hour_7 (by decide) ?_
    refine G_iald dX10_hour_8 (by first | exact rfl | assumption) (show vp_in (nI 0) 140 from nI_in12 (by omega) (by omega)) ?_
    refine R_topE (show rHr M n n 465 _ = nI n from hg2) ?_
    refine R_icmp_ge_t (tgt := 48) dX10_hour_9 rfl (nI_le (by omega) (by omega)) ?_
    exact E48_X10_hour hf
  | succ j ih =>
    intro i hi
    have hi1 : i < n := by omega
    have hi12 : i < 12 := by omega
    have hg2 : rHr M n i 465 0 = nI n := (rHr_fr hd5 (by omega) i (by omega)).trans hg
    obtain ⟨d, hd, h5⟩ := hd5 i hi1
    have h5b : oF (rHr M n i) i 5 = nI d := (rHr_fr hd5 (by omega) i (by omega)).trans h5
    have h5c : (oF (rHr M n i) i 5).toNatClampNeg = d := by rw [h5b]; exact nI_cl (by omega)
    refine R_iload_n dX10_hour_2 rfl rfl ?_
    refine R_aload_n dX10_hour_3 rfl rfl ?_
    refine G_get cok10 0 wf_X10_7 dX10_hour_4 (by first | exact rfl | assumption) ⟨(Nat.le_of_ble_eq_true rfl), (Nat.le_of_ble_eq_true rfl)⟩ rfl ?_
    refine R_iconst (v := 0) dX10_hour_7 (by decide) ?_
    refine G_iald dX10_hour_8 (by first | exact rfl | assumption) (show vp_in (nI 0) 140 from nI_in12 (by omega) (by omega)) ?_
    refine R_topE (show rHr M n i 465 _ = nI n from hg2) ?_
    refine R_icmp_ge_f (tgt := 48) dX10_hour_9 rfl (nI_ge (by omega) (by omega)) ?_
    refine R_aload_n dX10_hour_12 rfl rfl ?_
    refine R_iload_n dX10_hour_13 rfl rfl ?_
    refine G_cV1 cw_X10_73 (s_X10_hangs hf hi12) dX10_hour_14 (rcv cok10 (by first | exact rfl | assumption) (Nat.le_of_ble_eq_true rfl)) ⟨(Nat.le_of_ble_eq_true rfl), (Nat.le_of_ble_eq_true rfl), (Nat.le_of_ble_eq_true rfl), (Nat.le_of_ble_eq_true rfl)⟩ ?_
    refine R_if_eq (tgt := 34) dX10_hour_17 rfl (fun c1 => ?_) (fun c1 => ?_)
    · refine R_aload_n dX10_hour_34 rfl rfl ?_
      refine R_iload_n dX10_hour_35 rfl rfl ?_
      refine R_bipush (v := 6) dX10_hour_36 (by decide) ?_
      refine R_iconst (v := 0) dX10_hour_38 (by decide) ?_
      refine G_cV3v cw_X10_103 (s_X10_lays hf (k := i) (w := 6) (by omega) (by omega) (by decide)) dX10_hour_39 (rcv cok10 (by first | exact rfl | assumption) (Nat.le_of_ble_eq_true rfl)) ⟨(Nat.le_of_ble_eq_true rfl), (Nat.le_of_ble_eq_true rfl), (Nat.le_of_ble_eq_true rfl), (Nat.le_of_ble_eq_true rfl)⟩ ?_
      first | refine R_iincN dX10_hour_42 (by decide) rfl (by decide) (st1 rfl) ?_ | refine R_iinc1 dX10_hour_42 (by decide) rfl (by decide) (st1 rfl) ?_
      refine R_goto (tgt := 2) dX10_hour_45 rfl ?_
      have h9 := ih (i + 1) (by omega)
      rw [show rHr M n (i + 1) = rHst (rHr M n i) n i from rfl, rHst] at h9
      first | (rw [if_pos c1] at h9; exact h9) | (rw [if_neg c1, if_neg c2] at h9; exact h9) | (rw [if_neg c1, if_pos c2, h5c] at h9; exact h9)
    · refine R_aload_n dX10_hour_20 rfl rfl ?_
      refine G_get cok10 0 wf_X10_7 dX10_hour_21 (by first | exact rfl | assumption) ⟨(Nat.le_of_ble_eq_true rfl), (Nat.le_of_ble_eq_true rfl)⟩ rfl ?_
      refine R_iconst (v := 1) dX10_hour_24 (by decide) ?_
      refine G_iald dX10_hour_25 (by first | exact rfl | assumption) (show vp_in (nI 1) 140 from nI_in12 (by omega) (by omega)) ?_
      refine R_topE (show rHr M n i 465 _ = rHr M n i 465 1 from rfl) ?_
      refine R_if_leN (tgt := 34) dX10_hour_26 rfl (fun c2 => ?_) (fun c2 => ?_)
      · refine R_aload_n dX10_hour_34 rfl rfl ?_
        refine R_iload_n dX10_hour_35 rfl rfl ?_
        refine R_bipush (v := 6) dX10_hour_36 (by decide) ?_
        refine R_iconst (v := 0) dX10_hour_38 (by decide) ?_
        refine G_cV3v cw_X10_103 (s_X10_lays hf (k := i) (w := 6) (by omega) (by omega) (by decide)) dX10_hour_39 (rcv cok10 (by first | exact rfl | assumption) (Nat.le_of_ble_eq_true rfl)) ⟨(Nat.le_of_ble_eq_true rfl), (Nat.le_of_ble_eq_true rfl), (Nat.le_of_ble_eq_true rfl), (Nat.le_of_ble_eq_true rfl)⟩ ?_
        first | refine R_iincN dX10_hour_42 (by decide) rfl (by decide) (st1 rfl) ?_ | refine R_iinc1 dX10_hour_42 (by decide) rfl (by decide) (st1 rfl) ?_
        refine R_goto (tgt := 2) dX10_hour_45 rfl ?_
        have h9 := ih (i + 1) (by omega)
        rw [show rHr M n (i + 1) = rHst (rHr M n i) n i from rfl, rHst] at h9
        first | (rw [if_pos c1] at h9; exact h9) | (rw [if_neg c1, if_neg c2] at h9; exact h9) | (rw [if_neg c1, if_pos c2, h5c] at h9; exact h9)
      · refine R_aload_n dX10_hour_29 rfl rfl ?_
        refine R_iload_n dX10_hour_30 rfl rfl ?_
        refine G_cV1v cw_X10_110 (s_X10_smokes hf hn hg2 hi12 hi1 hd h5b) dX10_hour_31 (rcv cok10 (by first | exact rfl | assumption) (Nat.le_of_ble_eq_true rfl)) ⟨(Nat.le_of_ble_eq_true rfl), (Nat.le_of_ble_eq_true rfl), (Nat.le_of_ble_eq_true rfl), (Nat.le_of_ble_eq_true rfl)⟩ ?_
        refine R_aload_n dX10_hour_34 rfl rfl ?_
        refine R_iload_n dX10_hour_35 rfl rfl ?_
        refine R_bipush (v := 6) dX10_hour_36 (by decide) ?_
        refine R_iconst (v := 0) dX10_hour_38 (by decide) ?_
        refine G_cV3v cw_X10_103 (s_X10_lays hf (k := i) (w := 6) (by omega) (by omega) (by decide)) dX10_hour_39 (rcv cok10 (by first | exact rfl | assumption) (Nat.le_of_ble_eq_true rfl)) ⟨(Nat.le_of_ble_eq_true rfl), (Nat.le_of_ble_eq_true rfl), (Nat.le_of_ble_eq_true rfl), (Nat.le_of_ble_eq_true rfl)⟩ ?_
        first | refine R_iincN dX10_hour_42 (by decide) rfl (by decide) (st1 rfl) ?_ | refine R_iinc1 dX10_hour_42 (by decide) rfl (by decide) (st1 rfl) ?_
        refine R_goto (tgt := 2) dX10_hour_45 rfl ?_
        have h9 := ih (i + 1) (by omega)
        rw [show rHr M n (i + 1) = rHst (rHr M n i) n i from rfl, rHst] at h9
        first | (rw [if_pos c1] at h9; exact h9) | (rw [if_neg c1, if_neg c2] at h9; exact h9) | (rw [if_neg c1, if_pos c2, h5c] at h9; exact h9)
theorem s_X10_hour {l : Launch} (hf : l.stackTraces = false) {n : Nat} (hn : n ≤ 12) (hg : M 465 0 = nI n) (hd5 : dwn M n) : V_X10_hour l [.ref 464] (hp M r) (VR none (hp (rHour M n) r)) := by
  refine VM.intro (lf := L9 (some (.ref 464)) none none none none none none none none) (by decide +kernel) hf (fun _ => (Nat.le_of_ble_eq_true rfl)) (fun _ => rfl) ?_
  refine R_iconst (v := 0) dX10_hour_0 (by decide) ?_
  refine R_istore_n dX10_hour_1 rfl (by decide) (st1 rfl) ?_
  exact L_X10_hour hf hn hg hd5 n 0 (by omega)
theorem nI_mul2 (a b : Nat) : nI a * nI b = nI (a * b) := by
  show Int32.ofInt a * Int32.ofInt b = Int32.ofInt ((a * b : Nat) : Int)
  rw [← Int32.ofInt_mul]
  rfl
theorem nI_sub1 {n : Nat} (h : 0 < n) : nI n - 1 = nI (n - 1) := by
  obtain ⟨m, rfl⟩ : ∃ m, n = m + 1 := ⟨n - 1, by omega⟩
  rw [← nI_1, Int32.add_sub_cancel, Nat.add_sub_cancel]
theorem nI_8 (k : Nat) : 8 + 11 * nI k = nI (8 + 11 * k) := by
  rw [← nI_add2 8, ← nI_mul2 11]
  rfl
/-- the numbers of the row from p on move up by 11 -/
def gsR (M : MM) (p j : Nat) : MM := fun x y => if x = 465 ∧ p ≤ y ∧ y < p + j then M 465 (y + 11) else M x y
theorem gsR_0 {M : MM} {p : Nat} : gsR M p 0 = M := by
  funext x y
  rw [gsR, if_neg (by omega)]
theorem gsR_s {M : MM} {p j : Nat} : mst (gsR M p j) 465 (p + j) (gsR M p j 465 (p + j + 11)) = gsR M p (j + 1) := by
  funext x y
  by_cases h1 : x = 465 ∧ y = p + j
  · obtain ⟨rfl, rfl⟩ := h1
    rw [mst_eq, gsR, gsR, if_neg (by omega), if_pos (by omega)]
  · rw [mst_ne (by omega), gsR, gsR]
    by_cases h2 : x = 465 ∧ p ≤ y ∧ y < p + j
    · rw [if_pos h2, if_pos (by omega)]
    · rw [if_neg h2, if_neg (by omega)]
def clR (M : MM) (p j : Nat) : MM := fun x y => if x = 465 ∧ p ≤ y ∧ y < p + j then 0 else M x y
theorem clR_0 {M : MM} {p : Nat} : clR M p 0 = M := by
  funext x y
  rw [clR, if_neg (by omega)]
theorem clR_s {M : MM} {p j : Nat} : mst (clR M p j) 465 (p + j) 0 = clR M p (j + 1) := by
  funext x y
  by_cases h1 : x = 465 ∧ y = p + j
  · obtain ⟨rfl, rfl⟩ := h1
    rw [mst_eq, clR, if_pos (by omega)]
  · rw [mst_ne (by omega), clR, clR]
    by_cases h2 : x = 465 ∧ p ≤ y ∧ y < p + j
    · rw [if_pos h2, if_pos (by omega)]
    · rw [if_neg h2, if_neg (by omega)]
/-- the fish k goes -/
def rGo (M : MM) (k n : Nat) : MM := clR (gsR (mst M 465 0 (nI (n - 1))) (8 + 11 * k) (11 * (n - 1 - k))) (8 + 11 * (n - 1)) 11
theorem C_X10_goes {l : Launch} (hf : l.stackTraces = false) {n : Nat} {M : MM} (hn : n < 12) (hg : M 465 0 = nI n) {k : Nat} : ∀ (j i : Nat), i + j = 11 → Q_X10_goes l (VR none (hp (clR M (8 + 11 * n) 11) r)) 57 (L9 (some (.ref 464)) (some (.int (nI k))) (some (.int (nI i))) none none none none none none) [] (hp (clR M (8 + 11 * n) i) r) := by
  intro j
  induction j with
  | zero =>
    intro i hi
    obtain rfl : i = 11 := by omega
    refine R_iload_n dX10_goes_57 rfl rfl ?_
    refine R_bipush (v := 11) dX10_goes_58 (by decide) ?_
    refine R_icmp_ge_t (tgt := 81) dX10_goes_60 rfl (by decide) ?_
    refine R_vret dX10_goes_81 (Nat.le_of_ble_eq_true rfl) (Nat.le_of_ble_eq_true rfl) ?_
    exact ⟨rfl, rfl⟩
  | succ j ih =>
    intro i hi
    have hi1 : i < 11 := by omega
    have hg2 : clR M (8 + 11 * n) i 465 0 = nI n := (if_neg (by omega)).trans hg
    refine R_iload_n dX10_goes_57 rfl rfl ?_
    refine R_bipush (v := 11) dX10_goes_58 (by decide) ?_
    refine R_icmp_ge_f (tgt := 81) dX10_goes_60 rfl (nI_ge (b := 11) (by omega) (by omega)) ?_
    refine R_aload_n dX10_goes_63 rfl rfl ?_
    refine R_aload_n dX10_goes_64 rfl rfl ?_
    refine G_get cok10 0 wf_X10_7 dX10_goes_65 (by first | exact rfl | assumption) ⟨(Nat.le_of_ble_eq_true rfl), (Nat.le_of_ble_eq_true rfl)⟩ rfl ?_
    refine R_iconst (v := 0) dX10_goes_68 (by decide) ?_
    refine G_iald dX10_goes_69 (by first | exact rfl | assumption) (show vp_in (nI 0) 140 from nI_in12 (by omega) (by omega)) ?_
    refine R_topE (show clR M (8 + 11 * n) i 465 _ = nI n from hg2) ?_
    refine R_iload_n dX10_goes_70 rfl rfl ?_
    refine R_iconst (v := 0) dX10_goes_71 (by decide) ?_
    refine G_cV3v cw_X10_103 (s_X10_lays hf (k := n) (w := i) hn hi1 rfl) dX10_goes_72 (rcv cok10 (by first | exact rfl | assumption) (Nat.le_of_ble_eq_true rfl)) ⟨(Nat.le_of_ble_eq_true rfl), (Nat.le_of_ble_eq_true rfl), (Nat.le_of_ble_eq_true rfl), (Nat.le_of_ble_eq_true rfl)⟩ ?_
    rw [clR_s]
    first | refine R_iincN dX10_goes_75 (by decide) rfl (by decide) (st2 rfl) ?_ | refine R_iinc1 dX10_goes_75 (by decide) rfl (by decide) (st2 rfl) ?_
    refine R_goto (tgt := 57) dX10_goes_78 rfl ?_
    exact ih (i + 1) (by omega)
theorem D_X10_goes {l : Launch} (hf : l.stackTraces = false) {n : Nat} {M : MM} (hn : n < 12) (hg : M 465 0 = nI n) {k : Nat} (hkn : k ≤ n) : ∀ (j i : Nat), i + j = 11 * (n - k) → Q_X10_goes l (VR none (hp (clR (gsR M (8 + 11 * k) (11 * (n - k))) (8 + 11 * n) 11) r)) 18 (L9 (some (.ref 464)) (some (.int (nI k))) (some (.int (nI (8 + 11 * k + i)))) none none none none none none) [] (hp (gsR M (8 + 11 * k) i) r) := by
  intro j
  induction j with
  | zero =>
    intro i hi
    obtain rfl : i = 11 * (n - k) := by omega
    have hg2 : gsR M (8 + 11 * k) (11 * (n - k)) 465 0 = nI n := (if_neg (by omega)).trans hg
    refine R_iload_n dX10_goes_18 rfl rfl ?_
    refine R_bipush (v := 8) dX10_goes_19 (by decide) ?_
    refine R_bipush (v := 11) dX10_goes_21 (by decide) ?_
    refine R_aload_n dX10_goes_23 rfl rfl ?_
    refine G_get cok10 0 wf_X10_7 dX10_goes_24 (by first | exact rfl | assumption) ⟨(Nat.le_of_ble_eq_true rfl), (Nat.le_of_ble_eq_true rfl)⟩ rfl ?_
    refine R_iconst (v := 0) dX10_goes_27 (by decide) ?_
    refine G_iald dX10_goes_28 (by first | exact rfl | assumption) (show vp_in (nI 0) 140 from nI_in12 (by omega) (by omega)) ?_
    refine R_topE (show gsR M (8 + 11 * k) (11 * (n - k)) 465 _ = nI n from hg2) ?_
    refine R_imul dX10_goes_29 ?_
    refine R_iadd dX10_goes_30 ?_
    refine R_topE (nI_8 n) ?_
    refine R_icmp_ge_t (tgt := 55) dX10_goes_31 rfl (nI_le (by omega) (by omega)) ?_
    refine R_iconst (v := 0) dX10_goes_55 (by decide) ?_
    refine R_istore_n dX10_goes_56 rfl (by decide) (st2 rfl) ?_
    have h9 := C_X10_goes (r := r) (k := k) hf (M := gsR M (8 + 11 * k) (11 * (n - k))) hn hg2 11 0 (by omega)
    rw [clR_0, nI_0] at h9
    exact h9
  | succ j ih =>
    intro i hi
    have hi1 : 8 + 11 * k + i < 8 + 11 * n := by omega
    have hg2 : gsR M (8 + 11 * k) i 465 0 = nI n := (if_neg (by omega)).trans hg
    refine R_iload_n dX10_goes_18 rfl rfl ?_
    refine R_bipush (v := 8) dX10_goes_19 (by decide) ?_
    refine R_bipush (v := 11) dX10_goes_21 (by decide) ?_
    refine R_aload_n dX10_goes_23 rfl rfl ?_
    refine G_get cok10 0 wf_X10_7 dX10_goes_24 (by first | exact rfl | assumption) ⟨(Nat.le_of_ble_eq_true rfl), (Nat.le_of_ble_eq_true rfl)⟩ rfl ?_
    refine R_iconst (v := 0) dX10_goes_27 (by decide) ?_
    refine G_iald dX10_goes_28 (by first | exact rfl | assumption) (show vp_in (nI 0) 140 from nI_in12 (by omega) (by omega)) ?_
    refine R_topE (show gsR M (8 + 11 * k) i 465 _ = nI n from hg2) ?_
    refine R_imul dX10_goes_29 ?_
    refine R_iadd dX10_goes_30 ?_
    refine R_topE (nI_8 n) ?_
    refine R_icmp_ge_f (tgt := 55) dX10_goes_31 rfl (nI_ge (by omega) (by omega)) ?_
    refine R_aload_n dX10_goes_34 rfl rfl ?_
    refine G_get cok10 0 wf_X10_7 dX10_goes_35 (by first | exact rfl | assumption) ⟨(Nat.le_of_ble_eq_true rfl), (Nat.le_of_ble_eq_true rfl)⟩ rfl ?_
    refine R_iload_n dX10_goes_38 rfl rfl ?_
    refine R_aload_n dX10_goes_39 rfl rfl ?_
    refine G_get cok10 0 wf_X10_7 dX10_goes_40 (by first | exact rfl | assumption) ⟨(Nat.le_of_ble_eq_true rfl), (Nat.le_of_ble_eq_true rfl)⟩ rfl ?_
    refine R_iload_n dX10_goes_43 rfl rfl ?_
    refine R_bipush (v := 11) dX10_goes_44 (by decide) ?_
    refine R_iadd dX10_goes_46 ?_
    refine R_topE (show nI (8 + 11 * k + i) + 11 = nI (8 + 11 * k + i + 11) from nI_add2 _ 11) ?_
    refine G_iald dX10_goes_47 (by first | exact rfl | assumption) (show vp_in (nI (8 + 11 * k + i + 11)) 140 from nI_in12 (by omega) (by omega)) ?_
    refine G_iast dX10_goes_48 (by first | exact rfl | assumption) (show vp_in (nI (8 + 11 * k + i)) 140 from nI_in12 (by omega) (by omega)) ?_
    rw [nI_cl (by omega), nI_cl (by omega), gsR_s]
    first | refine R_iincN dX10_goes_49 (by decide) rfl (by decide) (st2 rfl) ?_ | refine R_iinc1 dX10_goes_49 (by decide) rfl (by decide) (st2 rfl) ?_
    refine R_goto (tgt := 18) dX10_goes_52 rfl ?_
    exact ih (i + 1) (by omega)
theorem s_X10_goes {l : Launch} (hf : l.stackTraces = false) {n : Nat} (hn : n ≤ 12) (hg : M 465 0 = nI n) {k : Nat} (hk : k < 12) (hkn : k < n) : V_X10_goes l [.ref 464, .int (nI k)] (hp M r) (VR none (hp (rGo M k n) r)) := by
  refine VM.intro (lf := L9 (some (.ref 464)) (some (.int (nI k))) none none none none none none none) (by decide +kernel) hf (fun _ => (Nat.le_of_ble_eq_true rfl)) (fun _ => rfl) ?_
  refine R_aload_n dX10_goes_0 rfl rfl ?_
  refine G_get cok10 0 wf_X10_7 dX10_goes_1 (by first | exact rfl | assumption) ⟨(Nat.le_of_ble_eq_true rfl), (Nat.le_of_ble_eq_true rfl)⟩ rfl ?_
  refine R_iconst (v := 0) dX10_goes_4 (by decide) ?_
  refine R_dup2 dX10_goes_5 rfl rfl ?_
  refine G_iald dX10_goes_6 (by first | exact rfl | assumption) (show vp_in (nI 0) 140 from nI_in12 (by omega) (by omega)) ?_
  refine R_topE (show M 465 _ = nI n from hg) ?_
  refine R_iconst (v := 1) dX10_goes_7 (by decide) ?_
  refine R_isub dX10_goes_8 ?_
  refine R_topE (nI_sub1 (by omega)) ?_
  refine G_iast dX10_goes_9 (by first | exact rfl | assumption) (show vp_in (nI 0) 140 from nI_in12 (by omega) (by omega)) ?_
  rw [show (0 : Int32).toNatClampNeg = 0 from rfl]
  refine R_bipush (v := 8) dX10_goes_10 (by decide) ?_
  refine R_bipush (v := 11) dX10_goes_12 (by decide) ?_
  refine R_iload_n dX10_goes_14 rfl rfl ?_
  refine R_imul dX10_goes_15 ?_
  refine R_iadd dX10_goes_16 ?_
  refine R_topE (nI_8 k) ?_
  refine R_istore_n dX10_goes_17 rfl (by decide) (st2 rfl) ?_
  have h9 := D_X10_goes (r := r) hf (n := n - 1) (M := mst M 465 0 (nI (n - 1))) (by omega) (mst_eq _ _ _ _) (k := k) (by omega) (11 * (n - 1 - k)) 0 (by omega)
  rw [gsR_0] at h9
  exact h9
def kpS (M : MM) (j : Nat) : MM := fun x y => if x = 466 ∧ y < j then M 466 (y + 140) else M x y
theorem kpS_0 {M : MM} : kpS M 0 = M := by
  funext x y
  rw [kpS, if_neg (by omega)]
theorem kpS_s {M : MM} {j : Nat} : mst (kpS M j) 466 j (kpS M j 466 (j + 140)) = kpS M (j + 1) := by
  funext x y
  by_cases h1 : x = 466 ∧ y = j
  · obtain ⟨rfl, rfl⟩ := h1
    rw [mst_eq, kpS, kpS, if_neg (by omega), if_pos (by omega)]
  · rw [mst_ne (by omega), kpS, kpS]
    by_cases h2 : x = 466 ∧ y < j
    · rw [if_pos h2, if_pos (by omega)]
    · rw [if_neg h2, if_neg (by omega)]
def kpC (M : MM) (a c : Nat) : MM := mst (cpR M a 0 466 (140 * c) 140) 464 6 (nI (c + 1))
/-- the row a is kept, c rows being kept already -/
def kpR (M : MM) (a c : Nat) : MM := if M 464 7 = 0 then (if c = 8 then kpC (mst (kpS (mst M 464 9 0) 980) 464 6 (nI 7)) a 7 else kpC (mst M 464 9 0) a c) else mst M 464 9 0
theorem kpR_fr {M : MM} {a c x y : Nat} (h : x ≠ 466) (h2 : x ≠ 464 ∨ (y ≠ 9 ∧ y ≠ 6)) : kpR M a c x y = M x y := by
  unfold kpR kpC
  split
  · split
    · rw [mst_ne (by omega), cpR_ne h, mst_ne (by omega), kpS, if_neg (by omega), mst_ne (by omega)]
    · rw [mst_ne (by omega), cpR_ne h, mst_ne (by omega)]
  · rw [mst_ne (by omega)]
theorem B63_X10_keeps {l : Launch} (hf : l.stackTraces = false) {a c : Nat} (ha : sK a = 12) (hl : sL a = 140) (ha6 : a ≠ 466) (hc : c < 8) (h6 : M 464 6 = nI c) {v : Option Value} : Q_X10_keeps l (VR none (hp (kpC M a c) r)) 63 (L9 (some (.ref 464)) (some (.ref a)) v none none none none none none) [] (hp M r) := by
  refine R_aload_n dX10_keeps_63 rfl rfl ?_
  refine R_iconst (v := 0) dX10_keeps_64 (by decide) ?_
  refine R_aload_n dX10_keeps_65 rfl rfl ?_
  refine G_get cok10 1 wf_X10_13 dX10_keeps_66 (by first | exact rfl | assumption) ⟨(Nat.le_of_ble_eq_true rfl), (Nat.le_of_ble_eq_true rfl)⟩ rfl ?_
  refine R_sipush (v := 140) dX10_keeps_69 (by decide) ?_
  refine R_aload_n dX10_keeps_72 rfl rfl ?_
  refine G_get cok10 6 wf_X10_58 dX10_keeps_73 (by first | exact rfl | assumption) ⟨(Nat.le_of_ble_eq_true rfl), (Nat.le_of_ble_eq_true rfl)⟩ rfl ?_
  refine R_topE h6 ?_
  refine R_imul dX10_keeps_76 ?_
  refine R_topE (show 140 * nI c = nI (140 * c) from nI_mul2 140 c) ?_
  refine G_cS4v cw_X10_61 (s_X10_copies hf (p := 0) (q := 140 * c) ha rfl ha6 (by rw [hl]; decide) (by show 140 * c + 140 ≤ 1120; omega) (by rw [hl]; decide) (by decide)) dX10_keeps_77 ⟨(Nat.le_of_ble_eq_true rfl), (Nat.le_of_ble_eq_true rfl), (Nat.le_of_ble_eq_true rfl), (Nat.le_of_ble_eq_true rfl)⟩ ?_
  refine R_aload_n dX10_keeps_80 rfl rfl ?_
  refine R_dup dX10_keeps_81 rfl ?_
  refine G_get cok10 6 wf_X10_58 dX10_keeps_82 (by first | exact rfl | assumption) ⟨(Nat.le_of_ble_eq_true rfl), (Nat.le_of_ble_eq_true rfl)⟩ rfl ?_
  refine R_iconst (v := 1) dX10_keeps_85 (by decide) ?_
  refine R_iadd dX10_keeps_86 ?_
  refine G_put cok10 6 wf_X10_58 dX10_keeps_87 (by first | exact rfl | assumption) rfl ⟨(Nat.le_of_ble_eq_true rfl), rfl, (Nat.le_of_ble_eq_true rfl)⟩ ⟨rfl, rfl⟩ ?_
  refine R_vret dX10_keeps_90 (Nat.le_of_ble_eq_true rfl) (Nat.le_of_ble_eq_true rfl) ?_
  refine ⟨rfl, congrArg (fun z => hp z r) ?_⟩
  rw [kpC, cpR_ne (by decide), h6, nI_1]
theorem L_X10_keeps {l : Launch} (hf : l.stackTraces = false) {a : Nat} (ha : sK a = 12) (hl : sL a = 140) (ha6 : a ≠ 466) (h6 : M 464 6 = nI 8) : ∀ (j i : Nat), i + j = 980 → Q_X10_keeps l (VR none (hp (kpC (mst (kpS M 980) 464 6 (nI 7)) a 7) r)) 24 (L9 (some (.ref 464)) (some (.ref a)) (some (.int (nI i))) none none none none none none) [] (hp (kpS M i) r) := by
  intro j
  induction j with
  | zero =>
    intro i hi
    obtain rfl : i = 980 := by omega
    refine R_iload_n dX10_keeps_24 rfl rfl ?_
    refine R_sipush (v := 980) dX10_keeps_25 (by decide) ?_
    refine R_icmp_ge_t (tgt := 53) dX10_keeps_28 rfl (nI_le (a := 980) (by omega) (by omega)) ?_
    refine R_aload_n dX10_keeps_53 rfl rfl ?_
    refine R_dup dX10_keeps_54 rfl ?_
    refine G_get cok10 6 wf_X10_58 dX10_keeps_55 (by first | exact rfl | assumption) ⟨(Nat.le_of_ble_eq_true rfl), (Nat.le_of_ble_eq_true rfl)⟩ rfl ?_
    refine R_topE (show kpS M 980 464 6 = nI 8 from h6) ?_
    refine R_iconst (v := 1) dX10_keeps_58 (by decide) ?_
    refine R_isub dX10_keeps_59 ?_
    refine R_topE (show nI 8 - 1 = nI 7 from by decide) ?_
    refine G_put cok10 6 wf_X10_58 dX10_keeps_60 (by first | exact rfl | assumption) rfl ⟨(Nat.le_of_ble_eq_true rfl), rfl, (Nat.le_of_ble_eq_true rfl)⟩ ⟨rfl, rfl⟩ ?_
    exact B63_X10_keeps hf ha hl ha6 (by omega) (mst_eq _ _ _ _)
  | succ j ih =>
    intro i hi
    have hi1 : i < 980 := by omega
    refine R_iload_n dX10_keeps_24 rfl rfl ?_
    refine R_sipush (v := 980) dX10_keeps_25 (by decide) ?_
    refine R_icmp_ge_f (tgt := 53) dX10_keeps_28 rfl (nI_ge (b := 980) (by omega) (by omega)) ?_
    refine R_aload_n dX10_keeps_31 rfl rfl ?_
    refine G_get cok10 1 wf_X10_13 dX10_keeps_32 (by first | exact rfl | assumption) ⟨(Nat.le_of_ble_eq_true rfl), (Nat.le_of_ble_eq_true rfl)⟩ rfl ?_
    refine R_iload_n dX10_keeps_35 rfl rfl ?_
    refine R_aload_n dX10_keeps_36 rfl rfl ?_
    refine G_get cok10 1 wf_X10_13 dX10_keeps_37 (by first | exact rfl | assumption) ⟨(Nat.le_of_ble_eq_true rfl), (Nat.le_of_ble_eq_true rfl)⟩ rfl ?_
    refine R_iload_n dX10_keeps_40 rfl rfl ?_
    refine R_sipush (v := 140) dX10_keeps_41 (by decide) ?_
    refine R_iadd dX10_keeps_44 ?_
    refine R_topE (show nI i + 140 = nI (i + 140) from nI_add2 i 140) ?_
    refine G_iald dX10_keeps_45 (by first | exact rfl | assumption) (show vp_in (nI (i + 140)) 1120 from nI_in12 (by omega) (by omega)) ?_
    refine G_iast dX10_keeps_46 (by first | exact rfl | assumption) (show vp_in (nI i) 1120 from nI_in12 (by omega) (by omega)) ?_
    rw [nI_cl (by omega), nI_cl (by omega), kpS_s]
    first | refine R_iincN dX10_keeps_47 (by decide) rfl (by decide) (st2 rfl) ?_ | refine R_iinc1 dX10_keeps_47 (by decide) rfl (by decide) (st2 rfl) ?_
    refine R_goto (tgt := 24) dX10_keeps_50 rfl ?_
    exact ih (i + 1) (by omega)
theorem s_X10_keeps {l : Launch} (hf : l.stackTraces = false) {a c : Nat} (ha : sK a = 12) (hl : sL a = 140) (ha6 : a ≠ 466) (hc : c ≤ 8) (h6 : M 464 6 = nI c) : V_X10_keeps l [.ref 464, .ref a] (hp M r) (VR none (hp (kpR M a c) r)) := by
  refine VM.intro (lf := L9 (some (.ref 464)) (some (.ref a)) none none none none none none none) (by decide +kernel) hf (fun _ => (Nat.le_of_ble_eq_true rfl)) (fun _ => rfl) ?_
  refine R_aload_n dX10_keeps_0 rfl rfl ?_
  refine R_iconst (v := 0) dX10_keeps_1 (by decide) ?_
  refine G_put cok10 9 wf_X10_39 dX10_keeps_2 (by first | exact rfl | assumption) rfl ⟨(Nat.le_of_ble_eq_true rfl), rfl, (Nat.le_of_ble_eq_true rfl)⟩ ⟨rfl, rfl⟩ ?_
  refine R_aload_n dX10_keeps_5 rfl rfl ?_
  refine G_get cok10 7 wf_X10_48 dX10_keeps_6 (by first | exact rfl | assumption) ⟨(Nat.le_of_ble_eq_true rfl), (Nat.le_of_ble_eq_true rfl)⟩ rfl ?_
  refine R_topE (show mst M 464 9 0 464 7 = M 464 7 from mst_ne2 (by decide)) ?_
  refine R_if_eq (tgt := 13) dX10_keeps_9 rfl (fun c1 => ?_) (fun c1 => ?_)
  · refine R_aload_n dX10_keeps_13 rfl rfl ?_
    refine G_get cok10 6 wf_X10_58 dX10_keeps_14 (by first | exact rfl | assumption) ⟨(Nat.le_of_ble_eq_true rfl), (Nat.le_of_ble_eq_true rfl)⟩ rfl ?_
    refine R_topE ((mst_ne2 (by decide)).trans h6 : mst M 464 9 0 464 6 = nI c) ?_
    refine R_bipush (v := 8) dX10_keeps_17 (by decide) ?_
    refine R_icmp_ne (tgt := 63) dX10_keeps_19 rfl (fun c2 => ?_) (fun c2 => ?_)
    · have c8 : ¬ c = 8 := fun z => c2 (by rw [z]; decide)
      rw [kpR, if_pos c1, if_neg c8]
      exact B63_X10_keeps hf ha hl ha6 (by omega) ((mst_ne2 (by decide)).trans h6)
    · refine R_iconst (v := 0) dX10_keeps_22 (by decide) ?_
      refine R_istore_n dX10_keeps_23 rfl (by decide) (st2 rfl) ?_
      obtain rfl : c = 8 := by by_cases h : c = 8; exact h; exact absurd c2 (by intro z; exact h ((nI_eq (b := 8) (by omega) (by omega)).mp z))
      rw [kpR, if_pos c1, if_pos rfl]
      have h9 := L_X10_keeps (M := mst M 464 9 0) (r := r) hf ha hl ha6 ((mst_ne2 (by decide)).trans h6) 980 0 (by omega)
      rw [kpS_0, nI_0] at h9
      exact h9
  · refine R_vret dX10_keeps_12 (Nat.le_of_ble_eq_true rfl) (Nat.le_of_ble_eq_true rfl) ?_
    rw [kpR, if_neg c1]
    exact ⟨rfl, rfl⟩
end P24
