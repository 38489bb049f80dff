/-- the row laid aside -/
def spM (M : MM) : MM := cpR M 465 0 469 0 140
/-- and laid back -/
def rBk (M : MM) : MM := cpR M 469 0 465 0 140
theorem rSmk_out {M : MM} {k n d x y : Nat} (hk : k < 12) (hd : d < 2) (h : x ≠ 465 ∨ 140 ≤ y) : rSmk M k n d x y = M x y := by
  have h1 : rS1 M k n d x y = M x y := mst_ne (by omega)
  unfold rSmk
  split
  · split
    · rw [mst_ne (by omega)]; exact h1
    · exact h1
  · exact h1
theorem rHr_out {M : MM} {n x y : Nat} (hn : n ≤ 12) (hd5 : dwn M n) (h : x ≠ 465 ∨ 140 ≤ y) : ∀ i, i ≤ n → rHr M n i x y = M x y
  | 0, _ => rfl
  | i + 1, hi => by
    obtain ⟨d, hd, h5⟩ := hd5 i (by omega)
    have e : (oF (rHr M n i) i 5).toNatClampNeg = d := by
      rw [show oF (rHr M n i) i 5 = oF M i 5 from rHr_fr hd5 (by omega) i (by omega), h5]
      exact nI_cl (by omega)
    show rHst (rHr M n i) n i x y = _
    rw [rHst, mst_ne (by omega), e]
    split
    · exact rHr_out hn hd5 h i (by omega)
    · split
      · rw [rSmk_out (by omega) hd h]; exact rHr_out hn hd5 h i (by omega)
      · exact rHr_out hn hd5 h i (by omega)
theorem rHour_out {M : MM} {n x y : Nat} (hn : n ≤ 12) (hd5 : dwn M n) (h : x ≠ 465 ∨ 140 ≤ y) : rHour M n x y = M x y := by
  rw [rHour, rHt_fr (by omega)]
  exact rHr_out hn hd5 h n (Nat.le_refl _)
theorem rHour_1 {M : MM} {n : Nat} (hd5 : dwn M n) : rHour M n 465 1 = if 0 < M 465 1 then M 465 1 - 1 else M 465 1 := by
  have e : rHr M n n 465 1 = M 465 1 := rHr_fr hd5 (by omega) n (Nat.le_refl _)
  rw [rHour, rHt, mst_ne (by omega), rHt1, e]
  split
  · rw [mst_eq]
  · exact e
/-- laid back, the row is as it was -/
theorem rBk_sp {M X : MM} (h : ∀ x y, (x ≠ 465 ∨ 140 ≤ y) → X x y = spM M x y) : rBk X = spM M := by
  funext x y
  by_cases h1 : x = 465 ∧ y < 140
  · obtain ⟨rfl, h2⟩ := h1
    rw [rBk, cpR, if_pos (by omega), h 469 _ (by omega), spM, cpR, if_pos (by omega), cpR_ne (by decide)]
    congr 1
    omega
  · rw [rBk, cpR, if_neg (by omega)]
    exact h x y (by omega)
theorem sp_465 {M : MM} {y : Nat} : spM M 465 y = M 465 y := cpR_ne (by decide)
/-- hours until the fish k is burnt or no log is left -/
def buI (n k : Nat) : Nat → Nat → MM → Nat × MM
  | 0, i, M => (i, M)
  | f + 1, i, M => if zb (rBurnt M k) = 0 then (if 0 < M 465 1 then buI n k f (i + 1) (rHour M n) else (i, M)) else (i, M)
def doI (n k : Nat) : Nat → Nat → MM → Nat × MM
  | 0, i, M => (i, M)
  | f + 1, i, M => if zb (rReady M k) = 0 then (if zb (rHang M k) = 0 then (i, M) else if 0 < M 465 1 then doI n k f (i + 1) (rHour (rTu M k) n) else (i, M)) else (i, M)
theorem dwn_sp {M : MM} {n : Nat} (h : dwn M n) : dwn (spM M) n := fun k hk => by
  obtain ⟨d, h1, h2⟩ := h k hk
  exact ⟨d, h1, sp_465.trans h2⟩
theorem buI_out {n k x y : Nat} (hn : n ≤ 12) (h : x ≠ 465 ∨ 140 ≤ y) : ∀ (f i : Nat) (M : MM), dwn M n → (buI n k f i M).2 x y = M x y
  | 0, _, _, _ => rfl
  | f + 1, i, M, hd5 => by
    unfold buI
    split
    · split
      · rw [buI_out hn h f (i + 1) _ (dwn_hour hd5)]; exact rHour_out hn hd5 h
      · rfl
    · rfl
section P28
variable {M : MM} {r : MR}
theorem L_X10_wouldChar {l : Launch} (hf : l.stackTraces = false) {n : Nat} (hn : n ≤ 12) (hg : M 465 0 = nI n) (hd5 : dwn M n) {k : Nat} (hk : k < n) {v : Nat} (hv : v < 2000) : ∀ (j i : Nat), i + j = v → Q_X10_wouldChar l (VI (oF (hsR M n v) k (9 + (oF (hsR M n v) k 5).toNatClampNeg)) (hp (rBk (hsR M n v)) r)) 51 (L9 (some (.ref 464)) (some (.int (nI k))) (some (.int (nI v))) (some (.int (nI i))) none none none none none) [] (hp (hsR M n i) r) := by
  intro j
  induction j with
  | zero =>
    intro i hi
    have hin : v = i := by omega
    subst hin
    obtain ⟨d, hd, h5⟩ := (hsR_ok hd5 v).1 k hk
    have e5 : (oF (hsR M n v) k 5).toNatClampNeg = d := by rw [h5]; exact nI_cl (by omega)
    rw [e5]
    refine R_iload_n dX10_wouldChar_51 rfl rfl ?_
    refine R_iload_n dX10_wouldChar_52 rfl rfl ?_
    refine R_icmp_ge_t (tgt := 66) dX10_wouldChar_53 rfl (nI_le (by omega) (by omega)) ?_
    refine R_aload_n dX10_wouldChar_66 rfl rfl ?_
    refine R_iload_n dX10_wouldChar_67 rfl rfl ?_
    refine R_bipush (v := 9) dX10_wouldChar_68 (by decide) ?_
    refine R_aload_n dX10_wouldChar_70 rfl rfl ?_
    refine R_iload_n dX10_wouldChar_71 rfl rfl ?_
    refine R_iconst (v := 5) dX10_wouldChar_72 (by decide) ?_
    refine G_cV2 cw_X10_69 (s_X10_of hf (k := k) (w := 5) (by omega) (by omega) (by decide)) dX10_wouldChar_73 (rcv cok10 (by first | exact rfl | assumption) (Nat.le_of_ble_eq_true rfl)) ⟨(Nat.le_of_ble_eq_true rfl), (Nat.le_of_ble_eq_true rfl), (Nat.le_of_ble_eq_true rfl), (Nat.le_of_ble_eq_true rfl)⟩ ?_
    refine R_topE h5 ?_
    refine R_iadd dX10_wouldChar_76 ?_
    refine G_cV2 cw_X10_69 (s_X10_of hf (k := k) (w := 9 + d) (by omega) (by omega) (show (9 : Int32) + nI d = _ from nI_add2 9 d)) dX10_wouldChar_77 (rcv cok10 (by first | exact rfl | assumption) (Nat.le_of_ble_eq_true rfl)) ⟨(Nat.le_of_ble_eq_true rfl), (Nat.le_of_ble_eq_true rfl), (Nat.le_of_ble_eq_true rfl), (Nat.le_of_ble_eq_true rfl)⟩ ?_
    refine R_istore_n dX10_wouldChar_80 rfl (by decide) (st3 rfl) ?_
    refine R_aload_n dX10_wouldChar_81 rfl rfl ?_
    refine G_get cok10 4 wf_X10_22 dX10_wouldChar_82 (by first | exact rfl | assumption) ⟨(Nat.le_of_ble_eq_true rfl), (Nat.le_of_ble_eq_true rfl)⟩ rfl ?_
    refine R_iconst (v := 0) dX10_wouldChar_85 (by decide) ?_
    refine R_aload_n dX10_wouldChar_86 rfl rfl ?_
    refine G_get cok10 0 wf_X10_7 dX10_wouldChar_87 (by first | exact rfl | assumption) ⟨(Nat.le_of_ble_eq_true rfl), (Nat.le_of_ble_eq_true rfl)⟩ rfl ?_
    refine R_iconst (v := 0) dX10_wouldChar_90 (by decide) ?_
    refine G_cS4v cw_X10_61 (show VD l _ _ _ _ _ _ (hp (hsR M n v) r) none (hp (rBk (hsR M n v)) r) from s_X10_copies hf (p := 0) (q := 0) rfl rfl (by decide) (by decide) (by decide) (by decide) (by decide)) dX10_wouldChar_91 ⟨(Nat.le_of_ble_eq_true rfl), (Nat.le_of_ble_eq_true rfl), (Nat.le_of_ble_eq_true rfl), (Nat.le_of_ble_eq_true rfl)⟩ ?_
    refine R_iload_n dX10_wouldChar_94 rfl rfl ?_
    refine R_iret dX10_wouldChar_95 rfl (Nat.le_of_ble_eq_true rfl) (Nat.le_of_ble_eq_true rfl) ?_
    exact ⟨rfl, rfl⟩
  | succ j ih =>
    intro i hi
    have hi1 : i < v := by omega
    have hg2 : hsR M n i 465 0 = nI n := ((hsR_ok hd5 i).2 _ _ (by omega)).trans hg
    refine R_iload_n dX10_wouldChar_51 rfl rfl ?_
    refine R_iload_n dX10_wouldChar_52 rfl rfl ?_
    refine R_icmp_ge_f (tgt := 66) dX10_wouldChar_53 rfl (nI_ge (by omega) (by omega)) ?_
    refine R_aload_n dX10_wouldChar_56 rfl rfl ?_
    refine G_cV0v cw_X10_140 (s_X10_hour hf hn hg2 (hsR_ok hd5 i).1) dX10_wouldChar_57 (rcv cok10 (by first | exact rfl | assumption) (Nat.le_of_ble_eq_true rfl)) ⟨(Nat.le_of_ble_eq_true rfl), (Nat.le_of_ble_eq_true rfl), (Nat.le_of_ble_eq_true rfl), (Nat.le_of_ble_eq_true rfl)⟩ ?_
    first | refine R_iincN dX10_wouldChar_60 (by decide) rfl (by decide) (st3 rfl) ?_ | refine R_iinc1 dX10_wouldChar_60 (by decide) rfl (by decide) (st3 rfl) ?_
    refine R_goto (tgt := 51) dX10_wouldChar_63 rfl ?_
    have h9 := ih (i + 1) (by omega)
    exact h9
def aWc (M : MM) (n : Nat) (x v : Int32) : Int32 × MM := if zb (inB x 0 (nI n - 1)) = 0 then (0, mst M 464 9 1) else if zb (inB v 0 24) = 0 then (0, mst M 464 9 2) else (oF (hsR (spM (mst M 464 9 0)) n v.toNatClampNeg) x.toNatClampNeg (9 + (oF (hsR (spM (mst M 464 9 0)) n v.toNatClampNeg) x.toNatClampNeg 5).toNatClampNeg), rBk (hsR (spM (mst M 464 9 0)) n v.toNatClampNeg))
theorem s_X10_wouldChar {l : Launch} (hf : l.stackTraces = false) {n : Nat} (hn : n ≤ 12) (hg : M 465 0 = nI n) (hd5 : dwn M n) {x v : Int32} : V_X10_wouldChar l [.ref 464, .int x, .int v] (hp M r) (VI (aWc M n x v).1 (hp (aWc M n x v).2 r)) := by
  refine VM.intro (lf := L9 (some (.ref 464)) (some (.int x)) (some (.int v)) none none none none none none) (by decide +kernel) hf (fun _ => (Nat.le_of_ble_eq_true rfl)) (fun _ => rfl) ?_
  refine R_aload_n dX10_wouldChar_0 rfl rfl ?_
  refine R_aload_n dX10_wouldChar_1 rfl rfl ?_
  refine R_iload_n dX10_wouldChar_2 rfl rfl ?_
  refine G_cV1 cw_X10_121 (s_X10_isFish hf hn hg) dX10_wouldChar_3 (rcv cok10 (by first | exact rfl | assumption) (Nat.le_of_ble_eq_true rfl)) ⟨(Nat.le_of_ble_eq_true rfl), (Nat.le_of_ble_eq_true rfl), (Nat.le_of_ble_eq_true rfl), (Nat.le_of_ble_eq_true rfl)⟩ ?_
  refine R_if_ne (tgt := 13) dX10_wouldChar_6 rfl (fun c1 => ?_) (fun c1 => ?_)
  · obtain ⟨k, hk, rfl⟩ := inB_k hn (by assumption)
    have ek : (nI k).toNatClampNeg = k := nI_cl (by omega)
    have hk12 : k < 12 := by omega
    refine R_iload_n dX10_wouldChar_13 rfl rfl ?_
    refine R_iconst (v := 0) dX10_wouldChar_14 (by decide) ?_
    refine R_bipush (v := 24) dX10_wouldChar_15 (by decide) ?_
    refine G_cS3 cw_X10_65 (s_X10_in hf) dX10_wouldChar_17 ⟨(Nat.le_of_ble_eq_true rfl), (Nat.le_of_ble_eq_true rfl), (Nat.le_of_ble_eq_true rfl), (Nat.le_of_ble_eq_true rfl)⟩ ?_
    refine R_if_eq (tgt := 27) dX10_wouldChar_20 rfl (fun c2 => ?_) (fun c2 => ?_)
    · refine R_iconst (v := 2) dX10_wouldChar_27 (by decide) ?_
      refine G_cV1 cw_X10_156 (s_X10_fails hf) dX10_wouldChar_28 (rcv cok10 (by first | exact rfl | assumption) (Nat.le_of_ble_eq_true rfl)) ⟨(Nat.le_of_ble_eq_true rfl), (Nat.le_of_ble_eq_true rfl), (Nat.le_of_ble_eq_true rfl), (Nat.le_of_ble_eq_true rfl)⟩ ?_
      refine R_if_eq_f (tgt := 36) dX10_wouldChar_31 rfl (by decide) ?_
      refine R_iconst (v := 0) dX10_wouldChar_34 (by decide) ?_
      refine R_iret dX10_wouldChar_35 rfl (Nat.le_of_ble_eq_true rfl) (Nat.le_of_ble_eq_true rfl) ?_
      first | rw [aWc, ek, if_neg c1, if_pos c2] | rw [aWc, if_neg c1, if_pos c2] | rw [aWc]
      first | exact ⟨rfl, rfl⟩ | skip
    · refine R_iconst (v := 0) dX10_wouldChar_23 (by decide) ?_
      refine R_goto (tgt := 28) dX10_wouldChar_24 rfl ?_
      refine G_cV1 cw_X10_156 (s_X10_fails hf) dX10_wouldChar_28 (rcv cok10 (by first | exact rfl | assumption) (Nat.le_of_ble_eq_true rfl)) ⟨(Nat.le_of_ble_eq_true rfl), (Nat.le_of_ble_eq_true rfl), (Nat.le_of_ble_eq_true rfl), (Nat.le_of_ble_eq_true rfl)⟩ ?_
      refine R_if_eq_t (tgt := 36) dX10_wouldChar_31 rfl (by decide) ?_
      refine R_aload_n dX10_wouldChar_36 rfl rfl ?_
      refine G_get cok10 0 wf_X10_7 dX10_wouldChar_37 (by first | exact rfl | assumption) ⟨(Nat.le_of_ble_eq_true rfl), (Nat.le_of_ble_eq_true rfl)⟩ rfl ?_
      refine R_iconst (v := 0) dX10_wouldChar_40 (by decide) ?_
      refine R_aload_n dX10_wouldChar_41 rfl rfl ?_
      refine G_get cok10 4 wf_X10_22 dX10_wouldChar_42 (by first | exact rfl | assumption) ⟨(Nat.le_of_ble_eq_true rfl), (Nat.le_of_ble_eq_true rfl)⟩ rfl ?_
      refine R_iconst (v := 0) dX10_wouldChar_45 (by decide) ?_
      refine G_cS4v cw_X10_61 (show VD l _ _ _ _ _ _ (hp (mst M 464 9 0) r) none (hp (spM (mst M 464 9 0)) r) from s_X10_copies hf (p := 0) (q := 0) rfl rfl (by decide) (by decide) (by decide) (by decide) (by decide)) dX10_wouldChar_46 ⟨(Nat.le_of_ble_eq_true rfl), (Nat.le_of_ble_eq_true rfl), (Nat.le_of_ble_eq_true rfl), (Nat.le_of_ble_eq_true rfl)⟩ ?_
      refine R_iconst (v := 0) dX10_wouldChar_49 (by decide) ?_
      refine R_istore_n dX10_wouldChar_50 rfl (by decide) (st3 rfl) ?_
      obtain ⟨j, hj, rfl⟩ := inB_8 (b := 24) (by omega) (by assumption)
      rw [aWc, ek, if_neg c1, if_neg c2, show (nI j).toNatClampNeg = j from nI_cl (by omega)]
      have h9 := L_X10_wouldChar (M := spM (mst M 464 9 0)) (r := r) hf hn (sp_465.trans hg) (dwn_sp hd5) hk (v := j) (by omega) j 0 (by omega)
      rw [nI_0] at h9
      exact h9
  · refine R_iconst (v := 1) dX10_wouldChar_9 (by decide) ?_
    refine R_goto (tgt := 28) dX10_wouldChar_10 rfl ?_
    refine G_cV1 cw_X10_156 (s_X10_fails hf) dX10_wouldChar_28 (rcv cok10 (by first | exact rfl | assumption) (Nat.le_of_ble_eq_true rfl)) ⟨(Nat.le_of_ble_eq_true rfl), (Nat.le_of_ble_eq_true rfl), (Nat.le_of_ble_eq_true rfl), (Nat.le_of_ble_eq_true rfl)⟩ ?_
    refine R_if_eq_f (tgt := 36) dX10_wouldChar_31 rfl (by decide) ?_
    refine R_iconst (v := 0) dX10_wouldChar_34 (by decide) ?_
    refine R_iret dX10_wouldChar_35 rfl (Nat.le_of_ble_eq_true rfl) (Nat.le_of_ble_eq_true rfl) ?_
    first | rw [aWc, ek, if_pos c1] | rw [aWc, if_pos c1] | rw [aWc]
    first | exact ⟨rfl, rfl⟩ | skip
theorem s_X10_wouldCharAgain {l : Launch} (hf : l.stackTraces = false) {n : Nat} (hn : n ≤ 12) (hg : M 465 0 = nI n) (hd5 : dwn M n) {x v : Int32} : V_X10_wouldCharAgain l [.ref 464, .int x, .int v] (hp M r) (VI (aWc M n x v).1 (hp (aWc M n x v).2 r)) := by
  refine VM.intro (lf := L9 (some (.ref 464)) (some (.int x)) (some (.int v)) none none none none none none) (by decide +kernel) hf (fun _ => (Nat.le_of_ble_eq_true rfl)) (fun _ => rfl) ?_
  refine R_aload_n dX10_wouldCharAgain_0 rfl rfl ?_
  refine R_iload_n dX10_wouldCharAgain_1 rfl rfl ?_
  refine R_iload_n dX10_wouldCharAgain_2 rfl rfl ?_
  refine G_cV2 cw_X10_159 (s_X10_wouldChar hf hn hg hd5) dX10_wouldCharAgain_3 (rcv cok10 (by first | exact rfl | assumption) (Nat.le_of_ble_eq_true rfl)) ⟨(Nat.le_of_ble_eq_true rfl), (Nat.le_of_ble_eq_true rfl), (Nat.le_of_ble_eq_true rfl), (Nat.le_of_ble_eq_true rfl)⟩ ?_
  refine R_iret dX10_wouldCharAgain_6 rfl (Nat.le_of_ble_eq_true rfl) (Nat.le_of_ble_eq_true rfl) ?_
  exact ⟨rfl, rfl⟩
theorem L_X10_burns {l : Launch} (hf : l.stackTraces = false) {n : Nat} (hn : n ≤ 12) {k : Nat} (hk : k < 12) : ∀ (j i : Nat) (M : MM) (L : Nat), M 465 0 = nI n → dwn M n → M 465 1 = nI L → L ≤ j → i + j < 100 → Q_X10_burns l (VI (if zb (rBurnt (buI n k j i M).2 k) = 0 then 99 else nI (buI n k j i M).1) (hp (rBk (buI n k j i M).2) r)) 15 (L9 (some (.ref 464)) (some (.int (nI k))) (some (.int (nI i))) none none none none none none) [] (hp M r) := by
  intro j
  induction j with
  | zero =>
    intro i M L hg hd5 hL hLj hi
    obtain rfl : L = 0 := by omega
    have hno : ¬ 0 < M 465 1 := by rw [hL]; decide
    rw [buI]
    have hx : ∀ M X : MM, X = M → X = M := fun _ _ h => h
    refine R_aload_n dX10_burns_15 rfl rfl ?_
    refine R_iload_n dX10_burns_16 rfl rfl ?_
    refine G_cV1 cw_X10_91 (s_X10_isBurnt hf hk) dX10_burns_17 (rcv cok10 (by first | exact rfl | assumption) (Nat.le_of_ble_eq_true rfl)) ⟨(Nat.le_of_ble_eq_true rfl), (Nat.le_of_ble_eq_true rfl), (Nat.le_of_ble_eq_true rfl), (Nat.le_of_ble_eq_true rfl)⟩ ?_
    refine R_if_ne (tgt := 42) dX10_burns_20 rfl (fun c1 => ?_) (fun c1 => ?_)
    · refine R_aload_n dX10_burns_42 rfl rfl ?_
      refine R_iload_n dX10_burns_43 rfl rfl ?_
      refine G_cV1 cw_X10_91 (s_X10_isBurnt hf hk) dX10_burns_44 (rcv cok10 (by first | exact rfl | assumption) (Nat.le_of_ble_eq_true rfl)) ⟨(Nat.le_of_ble_eq_true rfl), (Nat.le_of_ble_eq_true rfl), (Nat.le_of_ble_eq_true rfl), (Nat.le_of_ble_eq_true rfl)⟩ ?_
      refine R_istore_n dX10_burns_47 rfl (by decide) (st3 rfl) ?_
      refine R_aload_n dX10_burns_48 rfl rfl ?_
      refine G_get cok10 4 wf_X10_22 dX10_burns_49 (by first | exact rfl | assumption) ⟨(Nat.le_of_ble_eq_true rfl), (Nat.le_of_ble_eq_true rfl)⟩ rfl ?_
      refine R_iconst (v := 0) dX10_burns_52 (by decide) ?_
      refine R_aload_n dX10_burns_53 rfl rfl ?_
      refine G_get cok10 0 wf_X10_7 dX10_burns_54 (by first | exact rfl | assumption) ⟨(Nat.le_of_ble_eq_true rfl), (Nat.le_of_ble_eq_true rfl)⟩ rfl ?_
      refine R_iconst (v := 0) dX10_burns_57 (by decide) ?_
      refine G_cS4v cw_X10_61 (show VD l _ _ _ _ _ _ (hp (M) r) none (hp (rBk (M)) r) from s_X10_copies hf (p := 0) (q := 0) rfl rfl (by decide) (by decide) (by decide) (by decide) (by decide)) dX10_burns_58 ⟨(Nat.le_of_ble_eq_true rfl), (Nat.le_of_ble_eq_true rfl), (Nat.le_of_ble_eq_true rfl), (Nat.le_of_ble_eq_true rfl)⟩ ?_
      refine R_iload_n dX10_burns_61 rfl rfl ?_
      refine R_if_eq (tgt := 69) dX10_burns_62 rfl (fun c2 => ?_) (fun c2 => ?_)
      · refine R_bipush (v := 99) dX10_burns_69 (by decide) ?_
        refine R_iret dX10_burns_71 rfl (Nat.le_of_ble_eq_true rfl) (Nat.le_of_ble_eq_true rfl) ?_
        first | (rw [if_pos (by assumption)]; exact ⟨rfl, rfl⟩) | (rw [if_neg (by assumption)]; exact ⟨rfl, rfl⟩)
      · refine R_iload_n dX10_burns_65 rfl rfl ?_
        refine R_goto (tgt := 71) dX10_burns_66 rfl ?_
        refine R_iret dX10_burns_71 rfl (Nat.le_of_ble_eq_true rfl) (Nat.le_of_ble_eq_true rfl) ?_
        first | (rw [if_pos (by assumption)]; exact ⟨rfl, rfl⟩) | (rw [if_neg (by assumption)]; exact ⟨rfl, rfl⟩)
    · refine R_aload_n dX10_burns_23 rfl rfl ?_
      refine G_get cok10 0 wf_X10_7 dX10_burns_24 (by first | exact rfl | assumption) ⟨(Nat.le_of_ble_eq_true rfl), (Nat.le_of_ble_eq_true rfl)⟩ rfl ?_
      refine R_iconst (v := 1) dX10_burns_27 (by decide) ?_
      refine G_iald dX10_burns_28 (by first | exact rfl | assumption) (show vp_in (nI 1) 140 from nI_in12 (by omega) (by omega)) ?_
      refine R_topE (show _ = M 465 1 from rfl) ?_
      refine R_if_le_t (tgt := 42) dX10_burns_29 rfl (Int32.not_lt.mp hno) ?_
      refine R_aload_n dX10_burns_42 rfl rfl ?_
      refine R_iload_n dX10_burns_43 rfl rfl ?_
      refine G_cV1 cw_X10_91 (s_X10_isBurnt hf hk) dX10_burns_44 (rcv cok10 (by first | exact rfl | assumption) (Nat.le_of_ble_eq_true rfl)) ⟨(Nat.le_of_ble_eq_true rfl), (Nat.le_of_ble_eq_true rfl), (Nat.le_of_ble_eq_true rfl), (Nat.le_of_ble_eq_true rfl)⟩ ?_
      refine R_istore_n dX10_burns_47 rfl (by decide) (st3 rfl) ?_
      refine R_aload_n dX10_burns_48 rfl rfl ?_
      refine G_get cok10 4 wf_X10_22 dX10_burns_49 (by first | exact rfl | assumption) ⟨(Nat.le_of_ble_eq_true rfl), (Nat.le_of_ble_eq_true rfl)⟩ rfl ?_
      refine R_iconst (v := 0) dX10_burns_52 (by decide) ?_
      refine R_aload_n dX10_burns_53 rfl rfl ?_
      refine G_get cok10 0 wf_X10_7 dX10_burns_54 (by first | exact rfl | assumption) ⟨(Nat.le_of_ble_eq_true rfl), (Nat.le_of_ble_eq_true rfl)⟩ rfl ?_
      refine R_iconst (v := 0) dX10_burns_57 (by decide) ?_
      refine G_cS4v cw_X10_61 (show VD l _ _ _ _ _ _ (hp (M) r) none (hp (rBk (M)) r) from s_X10_copies hf (p := 0) (q := 0) rfl rfl (by decide) (by decide) (by decide) (by decide) (by decide)) dX10_burns_58 ⟨(Nat.le_of_ble_eq_true rfl), (Nat.le_of_ble_eq_true rfl), (Nat.le_of_ble_eq_true rfl), (Nat.le_of_ble_eq_true rfl)⟩ ?_
      refine R_iload_n dX10_burns_61 rfl rfl ?_
      refine R_if_eq (tgt := 69) dX10_burns_62 rfl (fun c3 => ?_) (fun c3 => ?_)
      · refine R_bipush (v := 99) dX10_burns_69 (by decide) ?_
        refine R_iret dX10_burns_71 rfl (Nat.le_of_ble_eq_true rfl) (Nat.le_of_ble_eq_true rfl) ?_
        first | (rw [if_pos (by assumption)]; exact ⟨rfl, rfl⟩) | (rw [if_neg (by assumption)]; exact ⟨rfl, rfl⟩)
      · refine R_iload_n dX10_burns_65 rfl rfl ?_
        refine R_goto (tgt := 71) dX10_burns_66 rfl ?_
        refine R_iret dX10_burns_71 rfl (Nat.le_of_ble_eq_true rfl) (Nat.le_of_ble_eq_true rfl) ?_
        first | (rw [if_pos (by assumption)]; exact ⟨rfl, rfl⟩) | (rw [if_neg (by assumption)]; exact ⟨rfl, rfl⟩)
  | succ j ih =>
    intro i M L hg hd5 hL hLj hi
    refine R_aload_n dX10_burns_15 rfl rfl ?_
    refine R_iload_n dX10_burns_16 rfl rfl ?_
    refine G_cV1 cw_X10_91 (s_X10_isBurnt hf hk) dX10_burns_17 (rcv cok10 (by first | exact rfl | assumption) (Nat.le_of_ble_eq_true rfl)) ⟨(Nat.le_of_ble_eq_true rfl), (Nat.le_of_ble_eq_true rfl), (Nat.le_of_ble_eq_true rfl), (Nat.le_of_ble_eq_true rfl)⟩ ?_
    refine R_if_ne (tgt := 42) dX10_burns_20 rfl (fun c1 => ?_) (fun c1 => ?_)
    · rw [buI, if_neg c1]
      refine R_aload_n dX10_burns_42 rfl rfl ?_
      refine R_iload_n dX10_burns_43 rfl rfl ?_
      refine G_cV1 cw_X10_91 (s_X10_isBurnt hf hk) dX10_burns_44 (rcv cok10 (by first | exact rfl | assumption) (Nat.le_of_ble_eq_true rfl)) ⟨(Nat.le_of_ble_eq_true rfl), (Nat.le_of_ble_eq_true rfl), (Nat.le_of_ble_eq_true rfl), (Nat.le_of_ble_eq_true rfl)⟩ ?_
      refine R_istore_n dX10_burns_47 rfl (by decide) (st3 rfl) ?_
      refine R_aload_n dX10_burns_48 rfl rfl ?_
      refine G_get cok10 4 wf_X10_22 dX10_burns_49 (by first | exact rfl | assumption) ⟨(Nat.le_of_ble_eq_true rfl), (Nat.le_of_ble_eq_true rfl)⟩ rfl ?_
      refine R_iconst (v := 0) dX10_burns_52 (by decide) ?_
      refine R_aload_n dX10_burns_53 rfl rfl ?_
      refine G_get cok10 0 wf_X10_7 dX10_burns_54 (by first | exact rfl | assumption) ⟨(Nat.le_of_ble_eq_true rfl), (Nat.le_of_ble_eq_true rfl)⟩ rfl ?_
      refine R_iconst (v := 0) dX10_burns_57 (by decide) ?_
      refine G_cS4v cw_X10_61 (show VD l _ _ _ _ _ _ (hp (M) r) none (hp (rBk (M)) r) from s_X10_copies hf (p := 0) (q := 0) rfl rfl (by decide) (by decide) (by decide) (by decide) (by decide)) dX10_burns_58 ⟨(Nat.le_of_ble_eq_true rfl), (Nat.le_of_ble_eq_true rfl), (Nat.le_of_ble_eq_true rfl), (Nat.le_of_ble_eq_true rfl)⟩ ?_
      refine R_iload_n dX10_burns_61 rfl rfl ?_
      refine R_if_eq (tgt := 69) dX10_burns_62 rfl (fun c2 => ?_) (fun c2 => ?_)
      · refine R_bipush (v := 99) dX10_burns_69 (by decide) ?_
        refine R_iret dX10_burns_71 rfl (Nat.le_of_ble_eq_true rfl) (Nat.le_of_ble_eq_true rfl) ?_
        first | (rw [if_pos (by assumption)]; exact ⟨rfl, rfl⟩) | (rw [if_neg (by assumption)]; exact ⟨rfl, rfl⟩)
      · refine R_iload_n dX10_burns_65 rfl rfl ?_
        refine R_goto (tgt := 71) dX10_burns_66 rfl ?_
        refine R_iret dX10_burns_71 rfl (Nat.le_of_ble_eq_true rfl) (Nat.le_of_ble_eq_true rfl) ?_
        first | (rw [if_pos (by assumption)]; exact ⟨rfl, rfl⟩) | (rw [if_neg (by assumption)]; exact ⟨rfl, rfl⟩)
    · refine R_aload_n dX10_burns_23 rfl rfl ?_
      refine G_get cok10 0 wf_X10_7 dX10_burns_24 (by first | exact rfl | assumption) ⟨(Nat.le_of_ble_eq_true rfl), (Nat.le_of_ble_eq_true rfl)⟩ rfl ?_
      refine R_iconst (v := 1) dX10_burns_27 (by decide) ?_
      refine G_iald dX10_burns_28 (by first | exact rfl | assumption) (show vp_in (nI 1) 140 from nI_in12 (by omega) (by omega)) ?_
      refine R_topE (show _ = M 465 1 from rfl) ?_
      refine R_if_leN (tgt := 42) dX10_burns_29 rfl (fun c3 => ?_) (fun c3 => ?_)
      · rw [buI, if_pos c1, if_neg c3]
        refine R_aload_n dX10_burns_42 rfl rfl ?_
        refine R_iload_n dX10_burns_43 rfl rfl ?_
        refine G_cV1 cw_X10_91 (s_X10_isBurnt hf hk) dX10_burns_44 (rcv cok10 (by first | exact rfl | assumption) (Nat.le_of_ble_eq_true rfl)) ⟨(Nat.le_of_ble_eq_true rfl), (Nat.le_of_ble_eq_true rfl), (Nat.le_of_ble_eq_true rfl), (Nat.le_of_ble_eq_true rfl)⟩ ?_
        refine R_istore_n dX10_burns_47 rfl (by decide) (st3 rfl) ?_
        refine R_aload_n dX10_burns_48 rfl rfl ?_
        refine G_get cok10 4 wf_X10_22 dX10_burns_49 (by first | exact rfl | assumption) ⟨(Nat.le_of_ble_eq_true rfl), (Nat.le_of_ble_eq_true rfl)⟩ rfl ?_
        refine R_iconst (v := 0) dX10_burns_52 (by decide) ?_
        refine R_aload_n dX10_burns_53 rfl rfl ?_
        refine G_get cok10 0 wf_X10_7 dX10_burns_54 (by first | exact rfl | assumption) ⟨(Nat.le_of_ble_eq_true rfl), (Nat.le_of_ble_eq_true rfl)⟩ rfl ?_
        refine R_iconst (v := 0) dX10_burns_57 (by decide) ?_
        refine G_cS4v cw_X10_61 (show VD l _ _ _ _ _ _ (hp (M) r) none (hp (rBk (M)) r) from s_X10_copies hf (p := 0) (q := 0) rfl rfl (by decide) (by decide) (by decide) (by decide) (by decide)) dX10_burns_58 ⟨(Nat.le_of_ble_eq_true rfl), (Nat.le_of_ble_eq_true rfl), (Nat.le_of_ble_eq_true rfl), (Nat.le_of_ble_eq_true rfl)⟩ ?_
        refine R_iload_n dX10_burns_61 rfl rfl ?_
        refine R_if_eq (tgt := 69) dX10_burns_62 rfl (fun c4 => ?_) (fun c4 => ?_)
        · refine R_bipush (v := 99) dX10_burns_69 (by decide) ?_
          refine R_iret dX10_burns_71 rfl (Nat.le_of_ble_eq_true rfl) (Nat.le_of_ble_eq_true rfl) ?_
          first | (rw [if_pos (by assumption)]; exact ⟨rfl, rfl⟩) | (rw [if_neg (by assumption)]; exact ⟨rfl, rfl⟩)
        · refine R_iload_n dX10_burns_65 rfl rfl ?_
          refine R_goto (tgt := 71) dX10_burns_66 rfl ?_
          refine R_iret dX10_burns_71 rfl (Nat.le_of_ble_eq_true rfl) (Nat.le_of_ble_eq_true rfl) ?_
          first | (rw [if_pos (by assumption)]; exact ⟨rfl, rfl⟩) | (rw [if_neg (by assumption)]; exact ⟨rfl, rfl⟩)
      · refine R_aload_n dX10_burns_32 rfl rfl ?_
        refine G_cV0v cw_X10_140 (s_X10_hour hf hn hg hd5) dX10_burns_33 (rcv cok10 (by first | exact rfl | assumption) (Nat.le_of_ble_eq_true rfl)) ⟨(Nat.le_of_ble_eq_true rfl), (Nat.le_of_ble_eq_true rfl), (Nat.le_of_ble_eq_true rfl), (Nat.le_of_ble_eq_true rfl)⟩ ?_
        first | refine R_iincN dX10_burns_36 (by decide) rfl (by decide) (st2 rfl) ?_ | refine R_iinc1 dX10_burns_36 (by decide) rfl (by decide) (st2 rfl) ?_
        refine R_goto (tgt := 15) dX10_burns_39 rfl ?_
        rw [buI, if_pos c1, if_pos c3]
        have c2g : 0 < M 465 1 := by assumption
        have hL0 : 0 < L := by
          by_cases h : L = 0
          · subst h; rw [hL] at c2g; exact absurd c2g (by decide)
          · omega
        have h1 : rHour M n 465 1 = nI (L - 1) := by rw [rHour_1 hd5, if_pos c2g, hL, nI_sub1 hL0]
        exact ih (i + 1) _ (L - 1) ((rHour_fr hd5 (by omega)).trans hg) (dwn_hour hd5) h1 (by omega) (by omega)
def rBu (M : MM) (n k : Nat) : Int32 := if zb (rBurnt (buI n k 13 0 (spM M)).2 k) = 0 then 99 else nI (buI n k 13 0 (spM M)).1
theorem s_X10_burns {l : Launch} (hf : l.stackTraces = false) {n : Nat} (hn : n ≤ 12) (hg : M 465 0 = nI n) (hd5 : dwn M n) {k : Nat} (hk : k < 12) {L : Nat} (hL : M 465 1 = nI L) (hL12 : L ≤ 12) : V_X10_burns l [.ref 464, .int (nI k)] (hp M r) (VI (rBu M n k) (hp (spM M) r)) := by
  refine VM.intro (lf := L9 (some (.ref 464)) (some (.int (nI k))) none none none none none none none) (by decide +kernel) hf (fun _ => (Nat.le_of_ble_eq_true rfl)) (fun _ => rfl) ?_
  refine R_aload_n dX10_burns_0 rfl rfl ?_
  refine G_get cok10 0 wf_X10_7 dX10_burns_1 (by first | exact rfl | assumption) ⟨(Nat.le_of_ble_eq_true rfl), (Nat.le_of_ble_eq_true rfl)⟩ rfl ?_
  refine R_iconst (v := 0) dX10_burns_4 (by decide) ?_
  refine R_aload_n dX10_burns_5 rfl rfl ?_
  refine G_get cok10 4 wf_X10_22 dX10_burns_6 (by first | exact rfl | assumption) ⟨(Nat.le_of_ble_eq_true rfl), (Nat.le_of_ble_eq_true rfl)⟩ rfl ?_
  refine R_iconst (v := 0) dX10_burns_9 (by decide) ?_
  refine G_cS4v cw_X10_61 (show VD l _ _ _ _ _ _ (hp M r) none (hp (spM M) r) from s_X10_copies hf (p := 0) (q := 0) rfl rfl (by decide) (by decide) (by decide) (by decide) (by decide)) dX10_burns_10 ⟨(Nat.le_of_ble_eq_true rfl), (Nat.le_of_ble_eq_true rfl), (Nat.le_of_ble_eq_true rfl), (Nat.le_of_ble_eq_true rfl)⟩ ?_
  refine R_iconst (v := 0) dX10_burns_13 (by decide) ?_
  refine R_istore_n dX10_burns_14 rfl (by decide) (st2 rfl) ?_
  have h9 := L_X10_burns (r := r) hf hn hk 13 0 (spM M) L (sp_465.trans hg) (dwn_sp hd5) (sp_465.trans hL) (by omega) (by omega)
  rw [nI_0, rBk_sp (M := M) (fun x y h => buI_out hn h 13 0 _ (dwn_sp hd5))] at h9
  exact h9
def aBu (M : MM) (n : Nat) (x : Int32) : Int32 × MM := if zb (inB x 0 (nI n - 1)) = 0 then (0, mst M 464 9 1) else if rBu (mst M 464 9 0) n x.toNatClampNeg = 99 then (0, mst (spM (mst M 464 9 0)) 464 9 2) else (rBu (mst M 464 9 0) n x.toNatClampNeg, mst (spM (mst M 464 9 0)) 464 9 0)
theorem s_X10_burnsIn {l : Launch} (hf : l.stackTraces = false) {n : Nat} (hn : n ≤ 12) (hg : M 465 0 = nI n) (hd5 : dwn M n) {L : Nat} (hL : M 465 1 = nI L) (hL12 : L ≤ 12) {x : Int32} : V_X10_burnsIn l [.ref 464, .int x] (hp M r) (VI (aBu M n x).1 (hp (aBu M n x).2 r)) := by
  refine VM.intro (lf := L9 (some (.ref 464)) (some (.int x)) none none none none none none none) (by decide +kernel) hf (fun _ => (Nat.le_of_ble_eq_true rfl)) (fun _ => rfl) ?_
  refine R_aload_n dX10_burnsIn_0 rfl rfl ?_
  refine R_aload_n dX10_burnsIn_1 rfl rfl ?_
  refine R_iload_n dX10_burnsIn_2 rfl rfl ?_
  refine G_cV1 cw_X10_121 (s_X10_isFish hf hn hg) dX10_burnsIn_3 (rcv cok10 (by first | exact rfl | assumption) (Nat.le_of_ble_eq_true rfl)) ⟨(Nat.le_of_ble_eq_true rfl), (Nat.le_of_ble_eq_true rfl), (Nat.le_of_ble_eq_true rfl), (Nat.le_of_ble_eq_true rfl)⟩ ?_
  refine R_if_eq (tgt := 13) dX10_burnsIn_6 rfl (fun c1 => ?_) (fun c1 => ?_)
  · refine R_iconst (v := 1) dX10_burnsIn_13 (by decide) ?_
    refine G_cV1 cw_X10_156 (s_X10_fails hf) dX10_burnsIn_14 (rcv cok10 (by first | exact rfl | assumption) (Nat.le_of_ble_eq_true rfl)) ⟨(Nat.le_of_ble_eq_true rfl), (Nat.le_of_ble_eq_true rfl), (Nat.le_of_ble_eq_true rfl), (Nat.le_of_ble_eq_true rfl)⟩ ?_
    refine R_if_eq_f (tgt := 22) dX10_burnsIn_17 rfl (by decide) ?_
    refine R_iconst (v := 0) dX10_burnsIn_20 (by decide) ?_
    refine R_iret dX10_burnsIn_21 rfl (Nat.le_of_ble_eq_true rfl) (Nat.le_of_ble_eq_true rfl) ?_
    first | rw [aBu, ek, if_pos c1] | rw [aBu, if_pos c1] | rw [aBu]
    first | exact ⟨rfl, rfl⟩ | skip
  · refine R_iconst (v := 0) dX10_burnsIn_9 (by decide) ?_
    refine R_goto (tgt := 14) dX10_burnsIn_10 rfl ?_
    refine G_cV1 cw_X10_156 (s_X10_fails hf) dX10_burnsIn_14 (rcv cok10 (by first | exact rfl | assumption) (Nat.le_of_ble_eq_true rfl)) ⟨(Nat.le_of_ble_eq_true rfl), (Nat.le_of_ble_eq_true rfl), (Nat.le_of_ble_eq_true rfl), (Nat.le_of_ble_eq_true rfl)⟩ ?_
    refine R_if_eq_t (tgt := 22) dX10_burnsIn_17 rfl (by decide) ?_
    obtain ⟨k, hk, rfl⟩ := inB_k hn (by assumption)
    have ek : (nI k).toNatClampNeg = k := nI_cl (by omega)
    have hk12 : k < 12 := by omega
    refine R_aload_n dX10_burnsIn_22 rfl rfl ?_
    refine R_iload_n dX10_burnsIn_23 rfl rfl ?_
    refine G_cV1 cw_X10_162 (s_X10_burns (M := mst M 464 9 0) hf hn hg hd5 hk12 hL hL12) dX10_burnsIn_24 (rcv cok10 (by first | exact rfl | assumption) (Nat.le_of_ble_eq_true rfl)) ⟨(Nat.le_of_ble_eq_true rfl), (Nat.le_of_ble_eq_true rfl), (Nat.le_of_ble_eq_true rfl), (Nat.le_of_ble_eq_true rfl)⟩ ?_
    refine R_istore_n dX10_burnsIn_27 rfl (by decide) (st2 rfl) ?_
    refine R_aload_n dX10_burnsIn_28 rfl rfl ?_
    refine R_iload_n dX10_burnsIn_29 rfl rfl ?_
    refine R_bipush (v := 99) dX10_burnsIn_30 (by decide) ?_
    refine R_icmp_ne (tgt := 39) dX10_burnsIn_32 rfl (fun c2 => ?_) (fun c2 => ?_)
    · refine R_iconst (v := 0) dX10_burnsIn_39 (by decide) ?_
      refine G_cV1 cw_X10_156 (s_X10_fails hf) dX10_burnsIn_40 (rcv cok10 (by first | exact rfl | assumption) (Nat.le_of_ble_eq_true rfl)) ⟨(Nat.le_of_ble_eq_true rfl), (Nat.le_of_ble_eq_true rfl), (Nat.le_of_ble_eq_true rfl), (Nat.le_of_ble_eq_true rfl)⟩ ?_
      refine R_if_eq_t (tgt := 50) dX10_burnsIn_43 rfl (by decide) ?_
      refine R_iload_n dX10_burnsIn_50 rfl rfl ?_
      refine R_iret dX10_burnsIn_51 rfl (Nat.le_of_ble_eq_true rfl) (Nat.le_of_ble_eq_true rfl) ?_
      first | rw [aBu, ek, if_neg c1, if_neg c2] | rw [aBu, if_neg c1, if_neg c2] | rw [aBu]
      first | exact ⟨rfl, rfl⟩ | skip
    · refine R_iconst (v := 2) dX10_burnsIn_35 (by decide) ?_
      refine R_goto (tgt := 40) dX10_burnsIn_36 rfl ?_
      refine G_cV1 cw_X10_156 (s_X10_fails hf) dX10_burnsIn_40 (rcv cok10 (by first | exact rfl | assumption) (Nat.le_of_ble_eq_true rfl)) ⟨(Nat.le_of_ble_eq_true rfl), (Nat.le_of_ble_eq_true rfl), (Nat.le_of_ble_eq_true rfl), (Nat.le_of_ble_eq_true rfl)⟩ ?_
      refine R_if_eq_f (tgt := 50) dX10_burnsIn_43 rfl (by decide) ?_
      refine R_iconst (v := 0) dX10_burnsIn_46 (by decide) ?_
      refine R_goto (tgt := 51) dX10_burnsIn_47 rfl ?_
      refine R_iret dX10_burnsIn_51 rfl (Nat.le_of_ble_eq_true rfl) (Nat.le_of_ble_eq_true rfl) ?_
      first | rw [aBu, ek, if_neg c1, if_pos c2] | rw [aBu, if_neg c1, if_pos c2] | rw [aBu]
      first | exact ⟨rfl, rfl⟩ | skip
def hoS (n i : Nat) (s : (Int32 × Int32) × MM) : (Int32 × Int32) × MM :=
  if zb (rBurnt s.2 i) = 0 then (if rBu s.2 n i < s.1.2 then ((nI i, rBu s.2 n i), spM s.2) else (s.1, spM s.2)) else (if 99 < s.1.2 then ((nI i, 99), s.2) else s)
def hoR (M : MM) (n i : Nat) : (Int32 × Int32) × MM := itN (hoS n) ((-1, 99), M) i
theorem hoR_fr {M : MM} {n x y : Nat} (h : x ≠ 469) : ∀ i, (hoR M n i).2 x y = M x y
  | 0 => rfl
  | i + 1 => by
    show (hoS n i (hoR M n i)).2 x y = _
    unfold hoS
    split
    · split
      · show spM _ x y = _; rw [spM, cpR_ne h]; exact hoR_fr h i
      · show spM _ x y = _; rw [spM, cpR_ne h]; exact hoR_fr h i
    · split
      · exact hoR_fr h i
      · exact hoR_fr h i
theorem L_X10_hottest {l : Launch} (hf : l.stackTraces = false) {n : Nat} (hn : n ≤ 12) (hg : M 465 0 = nI n) (hd5 : dwn M n) {L : Nat} (hL : M 465 1 = nI L) (hL12 : L ≤ 12) : ∀ (j i : Nat), i + j = n → Q_X10_hottest l (VI (if (hoR M n n).1.1 < 0 then 0 else (hoR M n n).1.1) (hp (if (hoR M n n).1.1 < 0 then mst (hoR M n n).2 464 9 1 else mst (hoR M n n).2 464 9 0) r)) 7 (L9 (some (.ref 464)) (some (.int (hoR M n i).1.1)) (some (.int (hoR M n i).1.2)) (some (.int (nI i))) none none none none none) [] (hp ((hoR M n i).2) r) := by
  intro j
  induction j with
  | zero =>
    intro i hi
    have hin : n = i := by omega
    subst hin
    have hg2 : (hoR M n n).2 465 0 = nI n := (hoR_fr (by decide) n).trans hg
    refine R_iload_n dX10_hottest_7 rfl rfl ?_
    refine R_aload_n dX10_hottest_8 rfl rfl ?_
    refine G_get cok10 0 wf_X10_7 dX10_hottest_9 (by first | exact rfl | assumption) ⟨(Nat.le_of_ble_eq_true rfl), (Nat.le_of_ble_eq_true rfl)⟩ rfl ?_
    refine R_iconst (v := 0) dX10_hottest_12 (by decide) ?_
    refine G_iald dX10_hottest_13 (by first | exact rfl | assumption) (show vp_in (nI 0) 140 from nI_in12 (by omega) (by omega)) ?_
    refine R_topE (hg2 : _ = nI n) ?_
    refine R_icmp_ge_t (tgt := 57) dX10_hottest_14 rfl (nI_le (by omega) (by omega)) ?_
    refine R_aload_n dX10_hottest_57 rfl rfl ?_
    refine R_iload_n dX10_hottest_58 rfl rfl ?_
    refine R_if_geN (tgt := 66) dX10_hottest_59 rfl (fun c1 => ?_) (fun c1 => ?_)
    · refine R_iconst (v := 0) dX10_hottest_66 (by decide) ?_
      refine G_cV1 cw_X10_156 (s_X10_fails hf) dX10_hottest_67 (rcv cok10 (by first | exact rfl | assumption) (Nat.le_of_ble_eq_true rfl)) ⟨(Nat.le_of_ble_eq_true rfl), (Nat.le_of_ble_eq_true rfl), (Nat.le_of_ble_eq_true rfl), (Nat.le_of_ble_eq_true rfl)⟩ ?_
      refine R_if_eq_t (tgt := 77) dX10_hottest_70 rfl (by decide) ?_
      refine R_iload_n dX10_hottest_77 rfl rfl ?_
      refine R_iret dX10_hottest_78 rfl (Nat.le_of_ble_eq_true rfl) (Nat.le_of_ble_eq_true rfl) ?_
      first | (rw [if_pos c1, if_pos c1]; exact ⟨rfl, rfl⟩) | (rw [if_neg c1, if_neg c1]; exact ⟨rfl, rfl⟩)
    · refine R_iconst (v := 1) dX10_hottest_62 (by decide) ?_
      refine R_goto (tgt := 67) dX10_hottest_63 rfl ?_
      refine G_cV1 cw_X10_156 (s_X10_fails hf) dX10_hottest_67 (rcv cok10 (by first | exact rfl | assumption) (Nat.le_of_ble_eq_true rfl)) ⟨(Nat.le_of_ble_eq_true rfl), (Nat.le_of_ble_eq_true rfl), (Nat.le_of_ble_eq_true rfl), (Nat.le_of_ble_eq_true rfl)⟩ ?_
      refine R_if_eq_f (tgt := 77) dX10_hottest_70 rfl (by decide) ?_
      refine R_iconst (v := 0) dX10_hottest_73 (by decide) ?_
      refine R_goto (tgt := 78) dX10_hottest_74 rfl ?_
      refine R_iret dX10_hottest_78 rfl (Nat.le_of_ble_eq_true rfl) (Nat.le_of_ble_eq_true rfl) ?_
      first | (rw [if_pos c1, if_pos c1]; exact ⟨rfl, rfl⟩) | (rw [if_neg c1, if_neg c1]; exact ⟨rfl, rfl⟩)
  | succ j ih =>
    intro i hi
    have hi1 : i < n := by omega
    have hg2 : (hoR M n i).2 465 0 = nI n := (hoR_fr (by decide) i).trans hg
    have hi12 : i < 12 := by omega
    have hd2 : dwn (hoR M n i).2 n := fun k hk => by obtain ⟨d, h1, h2⟩ := hd5 k hk; exact ⟨d, h1, (hoR_fr (by decide) i).trans h2⟩
    refine R_iload_n dX10_hottest_7 rfl rfl ?_
    refine R_aload_n dX10_hottest_8 rfl rfl ?_
    refine G_get cok10 0 wf_X10_7 dX10_hottest_9 (by first | exact rfl | assumption) ⟨(Nat.le_of_ble_eq_true rfl), (Nat.le_of_ble_eq_true rfl)⟩ rfl ?_
    refine R_iconst (v := 0) dX10_hottest_12 (by decide) ?_
    refine G_iald dX10_hottest_13 (by first | exact rfl | assumption) (show vp_in (nI 0) 140 from nI_in12 (by omega) (by omega)) ?_
    refine R_topE (hg2 : _ = nI n) ?_
    refine R_icmp_ge_f (tgt := 57) dX10_hottest_14 rfl (nI_ge (by omega) (by omega)) ?_
    refine R_aload_n dX10_hottest_17 rfl rfl ?_
    refine R_iload_n dX10_hottest_18 rfl rfl ?_
    refine G_cV1 cw_X10_91 (s_X10_isBurnt hf hi12) dX10_hottest_19 (rcv cok10 (by first | exact rfl | assumption) (Nat.le_of_ble_eq_true rfl)) ⟨(Nat.le_of_ble_eq_true rfl), (Nat.le_of_ble_eq_true rfl), (Nat.le_of_ble_eq_true rfl), (Nat.le_of_ble_eq_true rfl)⟩ ?_
    refine R_if_eq (tgt := 30) dX10_hottest_22 rfl (fun c1 => ?_) (fun c1 => ?_)
    · refine R_aload_n dX10_hottest_30 rfl rfl ?_
      refine R_iload_n dX10_hottest_31 rfl rfl ?_
      refine G_cV1 cw_X10_162 (s_X10_burns hf hn hg2 hd2 hi12 ((hoR_fr (by decide) i).trans hL) hL12) dX10_hottest_32 (rcv cok10 (by first | exact rfl | assumption) (Nat.le_of_ble_eq_true rfl)) ⟨(Nat.le_of_ble_eq_true rfl), (Nat.le_of_ble_eq_true rfl), (Nat.le_of_ble_eq_true rfl), (Nat.le_of_ble_eq_true rfl)⟩ ?_
      refine R_istore dX10_hottest_35 (by decide) (st4 rfl) ?_
      refine R_iload dX10_hottest_37 (by decide) rfl ?_
      refine R_iload_n dX10_hottest_39 rfl rfl ?_
      refine R_icmp_lt (tgt := 46) dX10_hottest_40 rfl (fun c2 => ?_) (fun c2 => ?_)
      · refine R_iload dX10_hottest_46 (by decide) rfl ?_
        refine R_istore_n dX10_hottest_48 rfl (by decide) (st2 rfl) ?_
        refine R_iload_n dX10_hottest_49 rfl rfl ?_
        refine R_istore_n dX10_hottest_50 rfl (by decide) (st1 rfl) ?_
        first | refine R_iincN dX10_hottest_51 (by decide) rfl (by decide) (st3 rfl) ?_ | refine R_iinc1 dX10_hottest_51 (by decide) rfl (by decide) (st3 rfl) ?_
        refine R_goto (tgt := 7) dX10_hottest_54 rfl ?_
        have h9 := ih (i + 1) (by omega)
        rw [show hoR M n (i + 1) = hoS n i (hoR M n i) from rfl, hoS] at h9
        rw [if_pos c1, if_pos c2] at h9
        refine R_weak dr4 ?_
        exact h9
      · refine R_goto (tgt := 51) dX10_hottest_43 rfl ?_
        first | refine R_iincN dX10_hottest_51 (by decide) rfl (by decide) (st3 rfl) ?_ | refine R_iinc1 dX10_hottest_51 (by decide) rfl (by decide) (st3 rfl) ?_
        refine R_goto (tgt := 7) dX10_hottest_54 rfl ?_
        have h9 := ih (i + 1) (by omega)
        rw [show hoR M n (i + 1) = hoS n i (hoR M n i) from rfl, hoS] at h9
        rw [if_pos c1, if_neg c2] at h9
        refine R_weak dr4 ?_
        exact h9
    · refine R_bipush (v := 99) dX10_hottest_25 (by decide) ?_
      refine R_goto (tgt := 35) dX10_hottest_27 rfl ?_
      refine R_istore dX10_hottest_35 (by decide) (st4 rfl) ?_
      refine R_iload dX10_hottest_37 (by decide) rfl ?_
      refine R_iload_n dX10_hottest_39 rfl rfl ?_
      refine R_icmp_lt (tgt := 46) dX10_hottest_40 rfl (fun c3 => ?_) (fun c3 => ?_)
      · refine R_iload dX10_hottest_46 (by decide) rfl ?_
        refine R_istore_n dX10_hottest_48 rfl (by decide) (st2 rfl) ?_
        refine R_iload_n dX10_hottest_49 rfl rfl ?_
        refine R_istore_n dX10_hottest_50 rfl (by decide) (st1 rfl) ?_
        first | refine R_iincN dX10_hottest_51 (by decide) rfl (by decide) (st3 rfl) ?_ | refine R_iinc1 dX10_hottest_51 (by decide) rfl (by decide) (st3 rfl) ?_
        refine R_goto (tgt := 7) dX10_hottest_54 rfl ?_
        have h9 := ih (i + 1) (by omega)
        rw [show hoR M n (i + 1) = hoS n i (hoR M n i) from rfl, hoS] at h9
        rw [if_neg c1, if_pos c3] at h9
        refine R_weak dr4 ?_
        exact h9
      · refine R_goto (tgt := 51) dX10_hottest_43 rfl ?_
        first | refine R_iincN dX10_hottest_51 (by decide) rfl (by decide) (st3 rfl) ?_ | refine R_iinc1 dX10_hottest_51 (by decide) rfl (by decide) (st3 rfl) ?_
        refine R_goto (tgt := 7) dX10_hottest_54 rfl ?_
        have h9 := ih (i + 1) (by omega)
        rw [show hoR M n (i + 1) = hoS n i (hoR M n i) from rfl, hoS] at h9
        rw [if_neg c1, if_neg c3] at h9
        refine R_weak dr4 ?_
        exact h9
theorem s_X10_hottest {l : Launch} (hf : l.stackTraces = false) {n : Nat} (hn : n ≤ 12) (hg : M 465 0 = nI n) (hd5 : dwn M n) {L : Nat} (hL : M 465 1 = nI L) (hL12 : L ≤ 12) : V_X10_hottest l [.ref 464] (hp M r) (VI (if (hoR M n n).1.1 < 0 then 0 else (hoR M n n).1.1) (hp (if (hoR M n n).1.1 < 0 then mst (hoR M n n).2 464 9 1 else mst (hoR M n n).2 464 9 0) r)) := by
  refine VM.intro (lf := L9 (some (.ref 464)) none none none none none none none none) (by decide +kernel) hf (fun _ => (Nat.le_of_ble_eq_true rfl)) (fun _ => rfl) ?_
  refine R_iconst (v := (-1)) dX10_hottest_0 (by decide) ?_
  refine R_istore_n dX10_hottest_1 rfl (by decide) (st1 rfl) ?_
  refine R_bipush (v := 99) dX10_hottest_2 (by decide) ?_
  refine R_istore_n dX10_hottest_4 rfl (by decide) (st2 rfl) ?_
  refine R_iconst (v := 0) dX10_hottest_5 (by decide) ?_
  refine R_istore_n dX10_hottest_6 rfl (by decide) (st3 rfl) ?_
  exact L_X10_hottest hf hn hg hd5 hL hL12 n 0 (by omega)
end P28
