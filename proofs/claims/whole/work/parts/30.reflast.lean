section P30
variable {M : MM} {r : MR}
def aRk (M : MM) (n : Nat) (q v : Int32) : Int32 × MM := if zb (inB q 0 4) = 0 then (0, mst M 464 9 1) else (if rRk (mst M 464 9 0) n q v < 0 then 0 else rRk (mst M 464 9 0) n q v, if rRk (mst M 464 9 0) n q v < 0 then mst (mst M 464 9 0) 464 9 2 else mst M 464 9 0)
theorem s_X10_ranked {l : Launch} (hf : l.stackTraces = false) {n : Nat} (hn : n ≤ 12) (hg : M 465 0 = nI n) {q v : Int32} : V_X10_ranked l [.ref 464, .int q, .int v] (hp M r) (VI (aRk M n q v).1 (hp (aRk M n q v).2 r)) := by
  refine VM.intro (lf := L9 (some (.ref 464)) (some (.int q)) (some (.int v)) none none none none none none) (by decide +kernel) hf (fun _ => (Nat.le_of_ble_eq_true rfl)) (fun _ => rfl) ?_
  refine R_aload_n dX10_ranked_0 rfl rfl ?_
  refine R_iload_n dX10_ranked_1 rfl rfl ?_
  refine R_iconst (v := 0) dX10_ranked_2 (by decide) ?_
  refine R_iconst (v := 4) dX10_ranked_3 (by decide) ?_
  refine G_cS3 cw_X10_65 (s_X10_in hf) dX10_ranked_4 ⟨(Nat.le_of_ble_eq_true rfl), (Nat.le_of_ble_eq_true rfl), (Nat.le_of_ble_eq_true rfl), (Nat.le_of_ble_eq_true rfl)⟩ ?_
  refine R_if_eq (tgt := 14) dX10_ranked_7 rfl (fun c1 => ?_) (fun c1 => ?_)
  · refine R_iconst (v := 1) dX10_ranked_14 (by decide) ?_
    refine G_cV1 cw_X10_156 (s_X10_fails hf) dX10_ranked_15 (rcv cok10 (by first | exact rfl | assumption) (Nat.le_of_ble_eq_true rfl)) ⟨(Nat.le_of_ble_eq_true rfl), (Nat.le_of_ble_eq_true rfl), (Nat.le_of_ble_eq_true rfl), (Nat.le_of_ble_eq_true rfl)⟩ ?_
    refine R_if_eq_f (tgt := 23) dX10_ranked_18 rfl (by decide) ?_
    refine R_iconst (v := 0) dX10_ranked_21 (by decide) ?_
    refine R_iret dX10_ranked_22 rfl (Nat.le_of_ble_eq_true rfl) (Nat.le_of_ble_eq_true rfl) ?_
    first | rw [aRk, ek, if_pos c1] | rw [aRk, if_pos c1] | rw [aRk]
    first | exact ⟨rfl, rfl⟩ | skip
  · refine R_iconst (v := 0) dX10_ranked_10 (by decide) ?_
    refine R_goto (tgt := 15) dX10_ranked_11 rfl ?_
    refine G_cV1 cw_X10_156 (s_X10_fails hf) dX10_ranked_15 (rcv cok10 (by first | exact rfl | assumption) (Nat.le_of_ble_eq_true rfl)) ⟨(Nat.le_of_ble_eq_true rfl), (Nat.le_of_ble_eq_true rfl), (Nat.le_of_ble_eq_true rfl), (Nat.le_of_ble_eq_true rfl)⟩ ?_
    refine R_if_eq_t (tgt := 23) dX10_ranked_18 rfl (by decide) ?_
    refine R_iconst (v := 0) dX10_ranked_23 (by decide) ?_
    refine R_istore_n dX10_ranked_24 rfl (by decide) (st3 rfl) ?_
    rw [aRk, if_neg c1]
    have h9 := L_X10_ranked (M := mst M 464 9 0) (r := r) (q := q) (v := v) hf hn hg n 0 (by omega) none none rfl
    rw [nI_0] at h9
    exact h9
theorem s_X10_burntShare {l : Launch} (hf : l.stackTraces = false) {n : Nat} (hn : n ≤ 12) (hg : M 465 0 = nI n) (hq : n ≠ 0 → n64 (FP.ddiv (FP.i2d (rBuC (mst M 464 9 0) n)) (FP.i2d (nI n))) = true) : V_X10_burntShare l [.ref 464] (hp M r) (if n = 0 then (fun o h2 => o = .inl (some (.double FP.dconst0)) ∧ h2 = hp (mst M 464 9 1) r) else fun o h2 => o = .inl (some (.double (FP.ddiv (FP.i2d (rBuC (mst M 464 9 0) n)) (FP.i2d (nI n))))) ∧ h2 = hp (mst M 464 9 0) r) := by
  refine VM.intro (lf := L9 (some (.ref 464)) none none none none none none none none) (by decide +kernel) hf (fun _ => (Nat.le_of_ble_eq_true rfl)) (fun _ => rfl) ?_
  refine R_aload_n dX10_burntShare_0 rfl rfl ?_
  refine R_aload_n dX10_burntShare_1 rfl rfl ?_
  refine G_get cok10 0 wf_X10_7 dX10_burntShare_2 (by first | exact rfl | assumption) ⟨(Nat.le_of_ble_eq_true rfl), (Nat.le_of_ble_eq_true rfl)⟩ rfl ?_
  refine R_iconst (v := 0) dX10_burntShare_5 (by decide) ?_
  refine G_iald dX10_burntShare_6 (by first | exact rfl | assumption) (show vp_in (nI 0) 140 from nI_in12 (by omega) (by omega)) ?_
  refine R_topE (hg : _ = nI n) ?_
  refine R_if_ne (tgt := 14) dX10_burntShare_7 rfl (fun c1 => ?_) (fun c1 => ?_)
  · refine R_iconst (v := 0) dX10_burntShare_14 (by decide) ?_
    refine G_cV1 cw_X10_156 (s_X10_fails hf) dX10_burntShare_15 (rcv cok10 (by first | exact rfl | assumption) (Nat.le_of_ble_eq_true rfl)) ⟨(Nat.le_of_ble_eq_true rfl), (Nat.le_of_ble_eq_true rfl), (Nat.le_of_ble_eq_true rfl), (Nat.le_of_ble_eq_true rfl)⟩ ?_
    refine R_if_eq_t (tgt := 25) dX10_burntShare_18 rfl (by decide) ?_
    have hn0 : n ≠ 0 := fun z => c1 (by rw [z]; decide)
    refine R_aload_n dX10_burntShare_25 rfl rfl ?_
    refine G_cV0 cw_X10_143 (s_X10_burnt (M := mst M 464 9 0) hf hn hg) dX10_burntShare_26 (rcv cok10 (by first | exact rfl | assumption) (Nat.le_of_ble_eq_true rfl)) ⟨(Nat.le_of_ble_eq_true rfl), (Nat.le_of_ble_eq_true rfl), (Nat.le_of_ble_eq_true rfl), (Nat.le_of_ble_eq_true rfl)⟩ ?_
    refine R_i2d dX10_burntShare_29 ?_
    refine R_aload_n dX10_burntShare_30 rfl rfl ?_
    refine G_get cok10 0 wf_X10_7 dX10_burntShare_31 (by first | exact rfl | assumption) ⟨(Nat.le_of_ble_eq_true rfl), (Nat.le_of_ble_eq_true rfl)⟩ rfl ?_
    refine R_iconst (v := 0) dX10_burntShare_34 (by decide) ?_
    refine G_iald dX10_burntShare_35 (by first | exact rfl | assumption) (show vp_in (nI 0) 140 from nI_in12 (by omega) (by omega)) ?_
    refine R_topE (hg : _ = nI n) ?_
    refine R_i2d dX10_burntShare_36 ?_
    refine R_ddiv dX10_burntShare_37 (n64_ok (hq hn0)) ?_
    refine R_dret dX10_burntShare_38 (Nat.le_of_ble_eq_true rfl) (Nat.le_of_ble_eq_true rfl) ?_
    first | rw [if_neg hn0] | rw [if_pos ((nI_00 hn).mp (by assumption))]
    exact ⟨rfl, rfl⟩
  · refine R_iconst (v := 1) dX10_burntShare_10 (by decide) ?_
    refine R_goto (tgt := 15) dX10_burntShare_11 rfl ?_
    refine G_cV1 cw_X10_156 (s_X10_fails hf) dX10_burntShare_15 (rcv cok10 (by first | exact rfl | assumption) (Nat.le_of_ble_eq_true rfl)) ⟨(Nat.le_of_ble_eq_true rfl), (Nat.le_of_ble_eq_true rfl), (Nat.le_of_ble_eq_true rfl), (Nat.le_of_ble_eq_true rfl)⟩ ?_
    refine R_if_eq_f (tgt := 25) dX10_burntShare_18 rfl (by decide) ?_
    refine R_dconst0 dX10_burntShare_21 ?_
    refine R_goto (tgt := 38) dX10_burntShare_22 rfl ?_
    refine R_dret dX10_burntShare_38 (Nat.le_of_ble_eq_true rfl) (Nat.le_of_ble_eq_true rfl) ?_
    first | rw [if_neg hn0] | rw [if_pos ((nI_00 hn).mp (by assumption))]
    exact ⟨rfl, rfl⟩
abbrev wrS (M : MM) (m : Nat) (x : Int32) : MM := mst (mst M 471 m (vp_nar .char (x.toUInt32 % 65536).toInt32)) 464 17 (nI (m + 1))
theorem s_X10_writes {l : Launch} (hf : l.stackTraces = false) {m : Nat} (hm : M 464 17 = nI m) (h30 : m < 30) {x : Int32} : V_X10_writes l [.ref 464, .int x] (hp M r) (VR none (hp (wrS M m x) r)) := by
  refine VM.intro (lf := L9 (some (.ref 464)) (some (.int x)) none none none none none none none) (by decide +kernel) hf (fun _ => (Nat.le_of_ble_eq_true rfl)) (fun _ => rfl) ?_
  refine R_aload_n dX10_writes_0 rfl rfl ?_
  refine G_get cok10 16 wf_X10_32 dX10_writes_1 (by first | exact rfl | assumption) ⟨(Nat.le_of_ble_eq_true rfl), (Nat.le_of_ble_eq_true rfl)⟩ rfl ?_
  refine R_aload_n dX10_writes_4 rfl rfl ?_
  refine G_get cok10 17 wf_X10_235 dX10_writes_5 (by first | exact rfl | assumption) ⟨(Nat.le_of_ble_eq_true rfl), (Nat.le_of_ble_eq_true rfl)⟩ rfl ?_
  rw [hm]
  refine R_iload_n dX10_writes_8 rfl rfl ?_
  refine R_i2c dX10_writes_9 rfl ?_
  refine G_cast dX10_writes_10 (by first | exact rfl | assumption) (show vp_in (nI m) 30 from nI_in12 h30 (by omega)) ?_
  refine R_aload_n dX10_writes_11 rfl rfl ?_
  refine R_dup dX10_writes_12 rfl ?_
  refine G_get cok10 17 wf_X10_235 dX10_writes_13 (by first | exact rfl | assumption) ⟨(Nat.le_of_ble_eq_true rfl), (Nat.le_of_ble_eq_true rfl)⟩ rfl ?_
  refine R_iconst (v := 1) dX10_writes_16 (by decide) ?_
  refine R_iadd dX10_writes_17 ?_
  refine G_put cok10 17 wf_X10_235 dX10_writes_18 (by first | exact rfl | assumption) rfl ⟨(Nat.le_of_ble_eq_true rfl), rfl, (Nat.le_of_ble_eq_true rfl)⟩ ⟨rfl, rfl⟩ ?_
  refine R_vret dX10_writes_21 (Nat.le_of_ble_eq_true rfl) (Nat.le_of_ble_eq_true rfl) ?_
  refine ⟨rfl, congrArg (fun z => hp z r) ?_⟩
  rw [nI_cl (by omega), wrS, mst_ne1 (by decide), hm, nI_1]
def dgL (x : Int32) : List Int32 := if 9 < x then [48 + x / 10, 48 + (x - x / 10 * 10)] else [48 + (x - x / 10 * 10)]
def wrL (M : MM) (m : Nat) : List Int32 → MM
  | [] => M
  | x :: xs => wrL (wrS M m x) (m + 1) xs
theorem wrL_app {xs ys : List Int32} : ∀ (M : MM) (m : Nat), wrL M m (xs ++ ys) = wrL (wrL M m xs) (m + xs.length) ys := by
  induction xs with
  | nil => intro M m; rfl
  | cons x xs ih =>
    intro M m
    show wrL (wrS M m x) (m + 1) (xs ++ ys) = _
    rw [ih, List.length_cons, Nat.add_assoc, Nat.add_comm 1]
    rfl
theorem wrL_len {xs : List Int32} : ∀ (M : MM) (m : Nat), M 464 17 = nI m → wrL M m xs 464 17 = nI (m + xs.length) := by
  induction xs with
  | nil => intro M m h; exact h
  | cons x xs ih =>
    intro M m h
    show wrL (wrS M m x) (m + 1) xs 464 17 = _
    rw [ih _ _ (mst_eq _ _ _ _), List.length_cons, Nat.add_assoc, Nat.add_comm 1]
theorem wrL_fr {xs : List Int32} {a k : Nat} (h1 : a ≠ 471) (h2 : a ≠ 464 ∨ k ≠ 17) : ∀ (M : MM) (m : Nat), wrL M m xs a k = M a k := by
  induction xs with
  | nil => intro M m; rfl
  | cons x xs ih =>
    intro M m
    show wrL (wrS M m x) (m + 1) xs a k = _
    rw [ih, wrS, mst_ne (by omega), mst_ne (by omega)]
theorem dgL_len (x : Int32) : (dgL x).length = if 9 < x then 2 else 1 := by
  unfold dgL; split <;> rfl
theorem s_X10_writesNumber {l : Launch} (hf : l.stackTraces = false) {m : Nat} (hm : M 464 17 = nI m) (h30 : m + 1 < 30) {x : Int32} : V_X10_writesNumber l [.ref 464, .int x] (hp M r) (VR none (hp (wrL M m (dgL x)) r)) := by
  refine VM.intro (lf := L9 (some (.ref 464)) (some (.int x)) none none none none none none none) (by decide +kernel) hf (fun _ => (Nat.le_of_ble_eq_true rfl)) (fun _ => rfl) ?_
  refine R_iload_n dX10_writesNumber_0 rfl rfl ?_
  refine R_bipush (v := 9) dX10_writesNumber_1 (by decide) ?_
  refine R_icmp_leN (tgt := 17) dX10_writesNumber_3 rfl (fun c1 => ?_) (fun c1 => ?_)
  · refine R_aload_n dX10_writesNumber_17 rfl rfl ?_
    refine R_bipush (v := 48) dX10_writesNumber_18 (by decide) ?_
    refine R_iload_n dX10_writesNumber_20 rfl rfl ?_
    refine R_bipush (v := 10) dX10_writesNumber_21 (by decide) ?_
    refine R_irem dX10_writesNumber_23 (by decide) ?_
    refine R_iadd dX10_writesNumber_24 ?_
    refine G_cV1v cw_X10_238 (s_X10_writes hf hm (by omega)) dX10_writesNumber_25 (rcv cok10 rfl (Nat.le_of_ble_eq_true rfl)) ⟨(Nat.le_of_ble_eq_true rfl), (Nat.le_of_ble_eq_true rfl), (Nat.le_of_ble_eq_true rfl), (Nat.le_of_ble_eq_true rfl)⟩ ?_
    refine R_vret dX10_writesNumber_28 (Nat.le_of_ble_eq_true rfl) (Nat.le_of_ble_eq_true rfl) ?_
    rw [dgL, if_neg c1]
    exact ⟨rfl, rfl⟩
  · refine R_aload_n dX10_writesNumber_6 rfl rfl ?_
    refine R_bipush (v := 48) dX10_writesNumber_7 (by decide) ?_
    refine R_iload_n dX10_writesNumber_9 rfl rfl ?_
    refine R_bipush (v := 10) dX10_writesNumber_10 (by decide) ?_
    refine R_idiv dX10_writesNumber_12 (by decide) ?_
    refine R_iadd dX10_writesNumber_13 ?_
    refine G_cV1v cw_X10_238 (s_X10_writes hf hm (by omega)) dX10_writesNumber_14 (rcv cok10 (by first | exact rfl | assumption) (Nat.le_of_ble_eq_true rfl)) ⟨(Nat.le_of_ble_eq_true rfl), (Nat.le_of_ble_eq_true rfl), (Nat.le_of_ble_eq_true rfl), (Nat.le_of_ble_eq_true rfl)⟩ ?_
    refine R_aload_n dX10_writesNumber_17 rfl rfl ?_
    refine R_bipush (v := 48) dX10_writesNumber_18 (by decide) ?_
    refine R_iload_n dX10_writesNumber_20 rfl rfl ?_
    refine R_bipush (v := 10) dX10_writesNumber_21 (by decide) ?_
    refine R_irem dX10_writesNumber_23 (by decide) ?_
    refine R_iadd dX10_writesNumber_24 ?_
    refine G_cV1v cw_X10_238 (s_X10_writes hf (m := m + 1) (mst_eq (mst M 471 m (vp_nar .char ((48 + x / 10).toUInt32 % 65536).toInt32)) 464 17 (nI (m + 1))) (by omega)) dX10_writesNumber_25 (rcv cok10 rfl (Nat.le_of_ble_eq_true rfl)) ⟨(Nat.le_of_ble_eq_true rfl), (Nat.le_of_ble_eq_true rfl), (Nat.le_of_ble_eq_true rfl), (Nat.le_of_ble_eq_true rfl)⟩ ?_
    refine R_vret dX10_writesNumber_28 (Nat.le_of_ble_eq_true rfl) (Nat.le_of_ble_eq_true rfl) ?_
    rw [dgL, if_pos c1]
    exact ⟨rfl, rfl⟩
def rkV (M : MM) (p q : Int32) (n : Nat) : Int32 := if rOn M p q n < 0 then 46 else if zb (rBurnt M (rOn M p q n).toNatClampNeg) = 0 then 97 + rOn M p q n else 65 + rOn M p q n
def rkW (M : MM) (p : Int32) (n i : Nat) : MM := itN (fun i M' => wrS M' i (rkV M' p (nI i) n)) (mst M 464 17 0) i
theorem rkW_fr {M : MM} {p : Int32} {n a k : Nat} (h1 : a ≠ 471) (h2 : a ≠ 464 ∨ k ≠ 17) : ∀ i, rkW M p n i a k = M a k
  | 0 => mst_ne (by omega)
  | i + 1 => by
    show wrS (rkW M p n i) i _ a k = _
    rw [wrS, mst_ne (by omega), mst_ne (by omega)]
    exact rkW_fr h1 h2 i
theorem rkW_len {M : MM} {p : Int32} {n : Nat} : ∀ i, rkW M p n i 464 17 = nI i
  | 0 => by
    show mst M 464 17 0 464 17 = nI 0
    rw [mst_eq, nI_0]
  | i + 1 => by
    show wrS (rkW M p n i) i (rkV (rkW M p n i) p (nI i) n) 464 17 = _
    rw [wrS, mst_eq]
theorem rOn_k {M : MM} {p q : Int32} {n : Nat} (h : ¬ rOn M p q n < 0) : ∃ k, k < n ∧ rOn M p q n = nI k := by
  rcases findN_spec (fun i => rHang M i && (oF M i 3 == p && oF M i 4 == q)) n 0 with ⟨h1, _⟩ | ⟨k, h1, h2, h3, _⟩
  · exfalso
    apply h
    rw [rOn, h1]
    decide
  · exact ⟨k, by omega, h3⟩
theorem L_X10_rack {l : Launch} (hf : l.stackTraces = false) {n : Nat} (hn : n ≤ 12) (hg : M 465 0 = nI n) {p : Int32} : ∀ (j i : Nat), i + j = 10 → Q_X10_rack l (VI (nI 10) (hp (rkW M p n 10) r)) 30 (L9 (some (.ref 464)) (some (.int p)) (some (.int (nI i))) none none none none none none) [] (hp (rkW M p n i) r) := by
  intro j
  induction j with
  | zero =>
    intro i hi
    obtain rfl : i = 10 := by omega
    refine R_iload_n dX10_rack_30 rfl rfl ?_
    refine R_bipush (v := 10) dX10_rack_31 (by decide) ?_
    refine R_icmp_ge_t (tgt := 79) dX10_rack_33 rfl (by decide) ?_
    refine R_aload_n dX10_rack_79 rfl rfl ?_
    refine G_get cok10 17 wf_X10_235 dX10_rack_80 (by first | exact rfl | assumption) ⟨(Nat.le_of_ble_eq_true rfl), (Nat.le_of_ble_eq_true rfl)⟩ rfl ?_
    refine R_iret dX10_rack_83 rfl (Nat.le_of_ble_eq_true rfl) (Nat.le_of_ble_eq_true rfl) ?_
    rw [rkW_len]
    exact ⟨rfl, rfl⟩
  | succ j ih =>
    intro i hi
    have hi1 : i < 10 := by omega
    have hg2 : rkW M p n i 465 0 = nI n := (rkW_fr (by decide) (by decide) i).trans hg
    have h9 := ih (i + 1) (by omega)
    rw [show rkW M p n (i + 1) = wrS (rkW M p n i) i (rkV (rkW M p n i) p (nI i) n) from rfl, rkV] at h9
    refine R_iload_n dX10_rack_30 rfl rfl ?_
    refine R_bipush (v := 10) dX10_rack_31 (by decide) ?_
    refine R_icmp_ge_f (tgt := 79) dX10_rack_33 rfl (nI_ge (b := 10) (by omega) (by omega)) ?_
    refine R_aload_n dX10_rack_36 rfl rfl ?_
    refine R_iload_n dX10_rack_37 rfl rfl ?_
    refine R_iload_n dX10_rack_38 rfl rfl ?_
    refine G_cV2 cw_X10_131 (s_X10_onHook hf hn hg2) dX10_rack_39 (rcv cok10 (by first | exact rfl | assumption) (Nat.le_of_ble_eq_true rfl)) ⟨(Nat.le_of_ble_eq_true rfl), (Nat.le_of_ble_eq_true rfl), (Nat.le_of_ble_eq_true rfl), (Nat.le_of_ble_eq_true rfl)⟩ ?_
    refine R_istore_n dX10_rack_42 rfl (by decide) (st3 rfl) ?_
    refine R_aload_n dX10_rack_43 rfl rfl ?_
    refine R_iload_n dX10_rack_44 rfl rfl ?_
    refine R_if_geN (tgt := 53) dX10_rack_45 rfl (fun c1 => ?_) (fun c1 => ?_)
    · obtain ⟨k, hk, ek⟩ := rOn_k (by assumption)
      have hk12 : k < 12 := by omega
      rw [ek, show (nI k).toNatClampNeg = k from nI_cl (by omega)] at h9
      rw [ek]
      refine R_aload_n dX10_rack_53 rfl rfl ?_
      refine R_iload_n dX10_rack_54 rfl rfl ?_
      refine G_cV1 cw_X10_91 (s_X10_isBurnt hf hk12) dX10_rack_55 (rcv cok10 (by first | exact rfl | assumption) (Nat.le_of_ble_eq_true rfl)) ⟨(Nat.le_of_ble_eq_true rfl), (Nat.le_of_ble_eq_true rfl), (Nat.le_of_ble_eq_true rfl), (Nat.le_of_ble_eq_true rfl)⟩ ?_
      refine R_if_eq (tgt := 66) dX10_rack_58 rfl (fun c2 => ?_) (fun c2 => ?_)
      · refine R_bipush (v := 97) dX10_rack_66 (by decide) ?_
        refine R_iload_n dX10_rack_68 rfl rfl ?_
        refine R_iadd dX10_rack_69 ?_
        refine G_cV1v cw_X10_238 (s_X10_writes hf (rkW_len i) (by omega)) dX10_rack_70 (rcv cok10 (by first | exact rfl | assumption) (Nat.le_of_ble_eq_true rfl)) ⟨(Nat.le_of_ble_eq_true rfl), (Nat.le_of_ble_eq_true rfl), (Nat.le_of_ble_eq_true rfl), (Nat.le_of_ble_eq_true rfl)⟩ ?_
        first | refine R_iincN dX10_rack_73 (by decide) rfl (by decide) (st2 rfl) ?_ | refine R_iinc1 dX10_rack_73 (by decide) rfl (by decide) (st2 rfl) ?_
        refine R_goto (tgt := 30) dX10_rack_76 rfl ?_
        first | (rw [if_pos (by assumption)] at h9; refine R_weak dr3 ?_; exact h9) | (rw [if_neg (nI_pos (by omega)), if_pos (by assumption)] at h9; refine R_weak dr3 ?_; exact h9) | (rw [if_neg (nI_pos (by omega)), if_neg (by assumption)] at h9; refine R_weak dr3 ?_; exact h9)
      · refine R_bipush (v := 65) dX10_rack_61 (by decide) ?_
        refine R_goto (tgt := 68) dX10_rack_63 rfl ?_
        refine R_iload_n dX10_rack_68 rfl rfl ?_
        refine R_iadd dX10_rack_69 ?_
        refine G_cV1v cw_X10_238 (s_X10_writes hf (rkW_len i) (by omega)) dX10_rack_70 (rcv cok10 (by first | exact rfl | assumption) (Nat.le_of_ble_eq_true rfl)) ⟨(Nat.le_of_ble_eq_true rfl), (Nat.le_of_ble_eq_true rfl), (Nat.le_of_ble_eq_true rfl), (Nat.le_of_ble_eq_true rfl)⟩ ?_
        first | refine R_iincN dX10_rack_73 (by decide) rfl (by decide) (st2 rfl) ?_ | refine R_iinc1 dX10_rack_73 (by decide) rfl (by decide) (st2 rfl) ?_
        refine R_goto (tgt := 30) dX10_rack_76 rfl ?_
        first | (rw [if_pos (by assumption)] at h9; refine R_weak dr3 ?_; exact h9) | (rw [if_neg (nI_pos (by omega)), if_pos (by assumption)] at h9; refine R_weak dr3 ?_; exact h9) | (rw [if_neg (nI_pos (by omega)), if_neg (by assumption)] at h9; refine R_weak dr3 ?_; exact h9)
    · refine R_bipush (v := 46) dX10_rack_48 (by decide) ?_
      refine R_goto (tgt := 70) dX10_rack_50 rfl ?_
      refine G_cV1v cw_X10_238 (s_X10_writes hf (rkW_len i) (by omega)) dX10_rack_70 (rcv cok10 (by first | exact rfl | assumption) (Nat.le_of_ble_eq_true rfl)) ⟨(Nat.le_of_ble_eq_true rfl), (Nat.le_of_ble_eq_true rfl), (Nat.le_of_ble_eq_true rfl), (Nat.le_of_ble_eq_true rfl)⟩ ?_
      first | refine R_iincN dX10_rack_73 (by decide) rfl (by decide) (st2 rfl) ?_ | refine R_iinc1 dX10_rack_73 (by decide) rfl (by decide) (st2 rfl) ?_
      refine R_goto (tgt := 30) dX10_rack_76 rfl ?_
      first | (rw [if_pos (by assumption)] at h9; refine R_weak dr3 ?_; exact h9) | (rw [if_neg (nI_pos (by omega)), if_pos (by assumption)] at h9; refine R_weak dr3 ?_; exact h9) | (rw [if_neg (nI_pos (by omega)), if_neg (by assumption)] at h9; refine R_weak dr3 ?_; exact h9)
def aRa (M : MM) (n : Nat) (p : Int32) : Int32 × MM := if zb (inB p 0 3) = 0 then (0, mst M 464 9 1) else (nI 10, rkW (mst M 464 9 0) p n 10)
theorem s_X10_rack {l : Launch} (hf : l.stackTraces = false) {n : Nat} (hn : n ≤ 12) (hg : M 465 0 = nI n) {p : Int32} : V_X10_rack l [.ref 464, .int p] (hp M r) (VI (aRa M n p).1 (hp (aRa M n p).2 r)) := by
  refine VM.intro (lf := L9 (some (.ref 464)) (some (.int p)) none none none none none none none) (by decide +kernel) hf (fun _ => (Nat.le_of_ble_eq_true rfl)) (fun _ => rfl) ?_
  refine R_aload_n dX10_rack_0 rfl rfl ?_
  refine R_iload_n dX10_rack_1 rfl rfl ?_
  refine R_iconst (v := 0) dX10_rack_2 (by decide) ?_
  refine R_iconst (v := 3) dX10_rack_3 (by decide) ?_
  refine G_cS3 cw_X10_65 (s_X10_in hf) dX10_rack_4 ⟨(Nat.le_of_ble_eq_true rfl), (Nat.le_of_ble_eq_true rfl), (Nat.le_of_ble_eq_true rfl), (Nat.le_of_ble_eq_true rfl)⟩ ?_
  refine R_if_eq (tgt := 14) dX10_rack_7 rfl (fun c1 => ?_) (fun c1 => ?_)
  · refine R_iconst (v := 1) dX10_rack_14 (by decide) ?_
    refine G_cV1 cw_X10_156 (s_X10_fails hf) dX10_rack_15 (rcv cok10 (by first | exact rfl | assumption) (Nat.le_of_ble_eq_true rfl)) ⟨(Nat.le_of_ble_eq_true rfl), (Nat.le_of_ble_eq_true rfl), (Nat.le_of_ble_eq_true rfl), (Nat.le_of_ble_eq_true rfl)⟩ ?_
    refine R_if_eq_f (tgt := 23) dX10_rack_18 rfl (by decide) ?_
    refine R_iconst (v := 0) dX10_rack_21 (by decide) ?_
    refine R_iret dX10_rack_22 rfl (Nat.le_of_ble_eq_true rfl) (Nat.le_of_ble_eq_true rfl) ?_
    first | rw [aRa, ek, if_pos c1] | rw [aRa, if_pos c1] | rw [aRa]
    first | exact ⟨rfl, rfl⟩ | skip
  · refine R_iconst (v := 0) dX10_rack_10 (by decide) ?_
    refine R_goto (tgt := 15) dX10_rack_11 rfl ?_
    refine G_cV1 cw_X10_156 (s_X10_fails hf) dX10_rack_15 (rcv cok10 (by first | exact rfl | assumption) (Nat.le_of_ble_eq_true rfl)) ⟨(Nat.le_of_ble_eq_true rfl), (Nat.le_of_ble_eq_true rfl), (Nat.le_of_ble_eq_true rfl), (Nat.le_of_ble_eq_true rfl)⟩ ?_
    refine R_if_eq_t (tgt := 23) dX10_rack_18 rfl (by decide) ?_
    refine R_aload_n dX10_rack_23 rfl rfl ?_
    refine R_iconst (v := 0) dX10_rack_24 (by decide) ?_
    refine G_put cok10 17 wf_X10_235 dX10_rack_25 (by first | exact rfl | assumption) rfl ⟨(Nat.le_of_ble_eq_true rfl), rfl, (Nat.le_of_ble_eq_true rfl)⟩ ⟨rfl, rfl⟩ ?_
    refine R_iconst (v := 0) dX10_rack_28 (by decide) ?_
    refine R_istore_n dX10_rack_29 rfl (by decide) (st2 rfl) ?_
    rw [aRa, if_neg c1]
    have h9 := L_X10_rack (M := mst M 464 9 0) (r := r) (p := p) hf hn hg 10 0 (by omega)
    rw [nI_0] at h9
    exact h9
end P30
