theorem rTu_fr {M : MM} {k x y : Nat} (h : x ≠ 465 ∨ y < 8 ∨ ((y - 8) % 11 ≠ 5 ∧ (y - 8) % 11 ≠ 6) ∨ (k < 12 ∧ 140 ≤ y)) : rTu M k x y = M x y := by
  rw [rTu, mst_ne (by omega), mst_ne (by omega)]
theorem dwn_tu {M : MM} {k n : Nat} (h : dwn M n) (hk : k < n) : dwn (rTu M k) n := fun i hi => by
  obtain ⟨d, h1, h2⟩ := h i hi
  by_cases e : i = k
  · subst e
    refine ⟨1 - d, by omega, ?_⟩
    show rTu M i 465 (8 + 11 * i + 5) = _
    rw [rTu, mst_ne2 (by omega), mst_eq, h2]
    have : ∀ d, d < 2 → 1 - nI d = nI (1 - d) := by decide
    exact this d h1
  · refine ⟨d, h1, ?_⟩
    show rTu M k 465 (8 + 11 * i + 5) = _
    rw [rTu, mst_ne2 (by omega), mst_ne2 (by omega)]
    exact h2
theorem doI_out {n k x y : Nat} (hn : n ≤ 12) (hk : k < n) (h : x ≠ 465 ∨ 140 ≤ y) : ∀ (f i : Nat) (M : MM), dwn M n → (doI n k f i M).2 x y = M x y
  | 0, _, _, _ => rfl
  | f + 1, i, M, hd5 => by
    unfold doI
    split
    · split
      · rfl
      · split
        · rw [doI_out hn hk h f (i + 1) _ (dwn_hour (dwn_tu hd5 hk)), rHour_out hn (dwn_tu hd5 hk) h]
          exact rTu_fr (by omega)
        · rfl
    · rfl
section P29
variable {M : MM} {r : MR}
theorem E_X10_doneIn {l : Launch} (hf : l.stackTraces = false) {k i : Nat} (hk : k < 12) : Q_X10_doneIn l (VI (if zb (rReady (((i, M) : Nat × MM)).2 k) = 0 then 0 else nI (((i, M) : Nat × MM)).1) (hp (if zb (rReady (((i, M) : Nat × MM)).2 k) = 0 then mst (rBk (((i, M) : Nat × MM)).2) 464 9 2 else mst (rBk (((i, M) : Nat × MM)).2) 464 9 0) r)) 77 (L9 (some (.ref 464)) (some (.int (nI k))) (some (.int (nI i))) none none none none none none) [] (hp M r) := by
  refine R_aload_n dX10_doneIn_77 rfl rfl ?_
  refine R_iload_n dX10_doneIn_78 rfl rfl ?_
  refine G_cV1 cw_X10_147 (s_X10_isReady hf hk) dX10_doneIn_79 (rcv cok10 (by first | exact rfl | assumption) (Nat.le_of_ble_eq_true rfl)) ⟨(Nat.le_of_ble_eq_true rfl), (Nat.le_of_ble_eq_true rfl), (Nat.le_of_ble_eq_true rfl), (Nat.le_of_ble_eq_true rfl)⟩ ?_
  refine R_istore_n dX10_doneIn_82 rfl (by decide) (st3 rfl) ?_
  refine R_aload_n dX10_doneIn_83 rfl rfl ?_
  refine G_get cok10 4 wf_X10_22 dX10_doneIn_84 (by first | exact rfl | assumption) ⟨(Nat.le_of_ble_eq_true rfl), (Nat.le_of_ble_eq_true rfl)⟩ rfl ?_
  refine R_iconst (v := 0) dX10_doneIn_87 (by decide) ?_
  refine R_aload_n dX10_doneIn_88 rfl rfl ?_
  refine G_get cok10 0 wf_X10_7 dX10_doneIn_89 (by first | exact rfl | assumption) ⟨(Nat.le_of_ble_eq_true rfl), (Nat.le_of_ble_eq_true rfl)⟩ rfl ?_
  refine R_iconst (v := 0) dX10_doneIn_92 (by decide) ?_
  refine G_cS4v cw_X10_61 (show VD l _ _ _ _ _ _ (hp (M) r) none (hp (rBk (M)) r) from s_X10_copies hf (p := 0) (q := 0) rfl rfl (by decide) (by decide) (by decide) (by decide) (by decide)) dX10_doneIn_93 ⟨(Nat.le_of_ble_eq_true rfl), (Nat.le_of_ble_eq_true rfl), (Nat.le_of_ble_eq_true rfl), (Nat.le_of_ble_eq_true rfl)⟩ ?_
  refine R_aload_n dX10_doneIn_96 rfl rfl ?_
  refine R_iload_n dX10_doneIn_97 rfl rfl ?_
  refine R_if_eq (tgt := 105) dX10_doneIn_98 rfl (fun c1 => ?_) (fun c1 => ?_)
  · refine R_iconst (v := 2) dX10_doneIn_105 (by decide) ?_
    refine G_cV1 cw_X10_156 (s_X10_fails hf) dX10_doneIn_106 (rcv cok10 (by first | exact rfl | assumption) (Nat.le_of_ble_eq_true rfl)) ⟨(Nat.le_of_ble_eq_true rfl), (Nat.le_of_ble_eq_true rfl), (Nat.le_of_ble_eq_true rfl), (Nat.le_of_ble_eq_true rfl)⟩ ?_
    refine R_if_eq_f (tgt := 116) dX10_doneIn_109 rfl (by decide) ?_
    refine R_iconst (v := 0) dX10_doneIn_112 (by decide) ?_
    refine R_goto (tgt := 117) dX10_doneIn_113 rfl ?_
    refine R_iret dX10_doneIn_117 rfl (Nat.le_of_ble_eq_true rfl) (Nat.le_of_ble_eq_true rfl) ?_
    show VI (if zb (rReady M k) = 0 then 0 else nI i) (hp (if zb (rReady M k) = 0 then mst (rBk M) 464 9 2 else mst (rBk M) 464 9 0) r) _ _
    rw [if_pos c1, if_pos c1]
    exact ⟨rfl, rfl⟩
  · refine R_iconst (v := 0) dX10_doneIn_101 (by decide) ?_
    refine R_goto (tgt := 106) dX10_doneIn_102 rfl ?_
    refine G_cV1 cw_X10_156 (s_X10_fails hf) dX10_doneIn_106 (rcv cok10 (by first | exact rfl | assumption) (Nat.le_of_ble_eq_true rfl)) ⟨(Nat.le_of_ble_eq_true rfl), (Nat.le_of_ble_eq_true rfl), (Nat.le_of_ble_eq_true rfl), (Nat.le_of_ble_eq_true rfl)⟩ ?_
    refine R_if_eq_t (tgt := 116) dX10_doneIn_109 rfl (by decide) ?_
    refine R_iload_n dX10_doneIn_116 rfl rfl ?_
    refine R_iret dX10_doneIn_117 rfl (Nat.le_of_ble_eq_true rfl) (Nat.le_of_ble_eq_true rfl) ?_
    show VI (if zb (rReady M k) = 0 then 0 else nI i) (hp (if zb (rReady M k) = 0 then mst (rBk M) 464 9 2 else mst (rBk M) 464 9 0) r) _ _
    rw [if_neg c1, if_neg c1]
    exact ⟨rfl, rfl⟩
theorem L_X10_doneIn {l : Launch} (hf : l.stackTraces = false) {n : Nat} (hn : n ≤ 12) {k : Nat} (hkn : k < n) : ∀ (j i : Nat) (M : MM) (L : Nat), M 465 0 = nI n → dwn M n → M 465 1 = nI L → L ≤ j → i + j < 100 → Q_X10_doneIn l (VI (if zb (rReady (doI n k j i M).2 k) = 0 then 0 else nI (doI n k j i M).1) (hp (if zb (rReady (doI n k j i M).2 k) = 0 then mst (rBk (doI n k j i M).2) 464 9 2 else mst (rBk (doI n k j i M).2) 464 9 0) r)) 37 (L9 (some (.ref 464)) (some (.int (nI k))) (some (.int (nI i))) none none none none none none) [] (hp M r) := by
  have hk : k < 12 := by omega
  intro j
  induction j with
  | zero =>
    intro i M L hg hd5 hL hLj hi
    obtain rfl : L = 0 := by omega
    have hno : ¬ 0 < M 465 1 := by rw [hL]; decide
    rw [doI]
    refine R_aload_n dX10_doneIn_37 rfl rfl ?_
    refine R_iload_n dX10_doneIn_38 rfl rfl ?_
    refine G_cV1 cw_X10_147 (s_X10_isReady hf hk) dX10_doneIn_39 (rcv cok10 (by first | exact rfl | assumption) (Nat.le_of_ble_eq_true rfl)) ⟨(Nat.le_of_ble_eq_true rfl), (Nat.le_of_ble_eq_true rfl), (Nat.le_of_ble_eq_true rfl), (Nat.le_of_ble_eq_true rfl)⟩ ?_
    refine R_if_ne (tgt := 77) dX10_doneIn_42 rfl (fun c1 => ?_) (fun c1 => ?_)
    · exact E_X10_doneIn hf hk
    · refine R_aload_n dX10_doneIn_45 rfl rfl ?_
      refine R_iload_n dX10_doneIn_46 rfl rfl ?_
      refine G_cV1 cw_X10_73 (s_X10_hangs hf hk) dX10_doneIn_47 (rcv cok10 (by first | exact rfl | assumption) (Nat.le_of_ble_eq_true rfl)) ⟨(Nat.le_of_ble_eq_true rfl), (Nat.le_of_ble_eq_true rfl), (Nat.le_of_ble_eq_true rfl), (Nat.le_of_ble_eq_true rfl)⟩ ?_
      refine R_if_eq (tgt := 77) dX10_doneIn_50 rfl (fun c2 => ?_) (fun c2 => ?_)
      · exact E_X10_doneIn hf hk
      · refine R_aload_n dX10_doneIn_53 rfl rfl ?_
        refine G_get cok10 0 wf_X10_7 dX10_doneIn_54 (by first | exact rfl | assumption) ⟨(Nat.le_of_ble_eq_true rfl), (Nat.le_of_ble_eq_true rfl)⟩ rfl ?_
        refine R_iconst (v := 1) dX10_doneIn_57 (by decide) ?_
        refine G_iald dX10_doneIn_58 (by first | exact rfl | assumption) (show vp_in (nI 1) 140 from nI_in12 (by omega) (by omega)) ?_
        refine R_topE (show _ = M 465 1 from rfl) ?_
        refine R_if_le_t (tgt := 77) dX10_doneIn_59 rfl (Int32.not_lt.mp hno) ?_
        exact E_X10_doneIn hf hk
  | succ j ih =>
    intro i M L hg hd5 hL hLj hi
    refine R_aload_n dX10_doneIn_37 rfl rfl ?_
    refine R_iload_n dX10_doneIn_38 rfl rfl ?_
    refine G_cV1 cw_X10_147 (s_X10_isReady hf hk) dX10_doneIn_39 (rcv cok10 (by first | exact rfl | assumption) (Nat.le_of_ble_eq_true rfl)) ⟨(Nat.le_of_ble_eq_true rfl), (Nat.le_of_ble_eq_true rfl), (Nat.le_of_ble_eq_true rfl), (Nat.le_of_ble_eq_true rfl)⟩ ?_
    refine R_if_ne (tgt := 77) dX10_doneIn_42 rfl (fun c1 => ?_) (fun c1 => ?_)
    · rw [doI, if_neg c1]
      exact E_X10_doneIn hf hk
    · refine R_aload_n dX10_doneIn_45 rfl rfl ?_
      refine R_iload_n dX10_doneIn_46 rfl rfl ?_
      refine G_cV1 cw_X10_73 (s_X10_hangs hf hk) dX10_doneIn_47 (rcv cok10 (by first | exact rfl | assumption) (Nat.le_of_ble_eq_true rfl)) ⟨(Nat.le_of_ble_eq_true rfl), (Nat.le_of_ble_eq_true rfl), (Nat.le_of_ble_eq_true rfl), (Nat.le_of_ble_eq_true rfl)⟩ ?_
      refine R_if_eq (tgt := 77) dX10_doneIn_50 rfl (fun c2 => ?_) (fun c2 => ?_)
      · rw [doI, if_pos c1, if_pos c2]
        exact E_X10_doneIn hf hk
      · refine R_aload_n dX10_doneIn_53 rfl rfl ?_
        refine G_get cok10 0 wf_X10_7 dX10_doneIn_54 (by first | exact rfl | assumption) ⟨(Nat.le_of_ble_eq_true rfl), (Nat.le_of_ble_eq_true rfl)⟩ rfl ?_
        refine R_iconst (v := 1) dX10_doneIn_57 (by decide) ?_
        refine G_iald dX10_doneIn_58 (by first | exact rfl | assumption) (show vp_in (nI 1) 140 from nI_in12 (by omega) (by omega)) ?_
        refine R_topE (show _ = M 465 1 from rfl) ?_
        refine R_if_leN (tgt := 77) dX10_doneIn_59 rfl (fun c3 => ?_) (fun c3 => ?_)
        · rw [doI, if_pos c1, if_neg c2, if_neg c3]
          exact E_X10_doneIn hf hk
        · refine R_aload_n dX10_doneIn_62 rfl rfl ?_
          refine R_iload_n dX10_doneIn_63 rfl rfl ?_
          refine G_cV1v cw_X10_137 (s_X10_turns hf hk) dX10_doneIn_64 (rcv cok10 (by first | exact rfl | assumption) (Nat.le_of_ble_eq_true rfl)) ⟨(Nat.le_of_ble_eq_true rfl), (Nat.le_of_ble_eq_true rfl), (Nat.le_of_ble_eq_true rfl), (Nat.le_of_ble_eq_true rfl)⟩ ?_
          refine R_aload_n dX10_doneIn_67 rfl rfl ?_
          refine G_cV0v cw_X10_140 (s_X10_hour hf hn ((rTu_fr (by omega)).trans hg) (dwn_tu hd5 hkn)) dX10_doneIn_68 (rcv cok10 (by first | exact rfl | assumption) (Nat.le_of_ble_eq_true rfl)) ⟨(Nat.le_of_ble_eq_true rfl), (Nat.le_of_ble_eq_true rfl), (Nat.le_of_ble_eq_true rfl), (Nat.le_of_ble_eq_true rfl)⟩ ?_
          first | refine R_iincN dX10_doneIn_71 (by decide) rfl (by decide) (st2 rfl) ?_ | refine R_iinc1 dX10_doneIn_71 (by decide) rfl (by decide) (st2 rfl) ?_
          refine R_goto (tgt := 37) dX10_doneIn_74 rfl ?_
          have c2g : 0 < M 465 1 := by assumption
          rw [doI, if_pos c1, if_neg c2, if_pos c3]
          have hL0 : 0 < L := by
            by_cases h : L = 0
            · subst h; rw [hL] at c2g; exact absurd c2g (by decide)
            · omega
          have e1 : rTu M k 465 1 = M 465 1 := rTu_fr (by omega)
          have h1 : rHour (rTu M k) n 465 1 = nI (L - 1) := by rw [rHour_1 (dwn_tu hd5 hkn), e1, if_pos c2g, hL, nI_sub1 hL0]
          exact ih (i + 1) _ (L - 1) ((rHour_fr (dwn_tu hd5 hkn) (by omega)).trans ((rTu_fr (by omega)).trans hg)) (dwn_hour (dwn_tu hd5 hkn)) h1 (by omega) (by omega)
def aDn (M : MM) (n : Nat) (x : Int32) : Int32 × MM := if zb (inB x 0 (nI n - 1)) = 0 then (0, mst M 464 9 1) else if zb (rReady (doI n x.toNatClampNeg 13 0 (spM (mst M 464 9 0))).2 x.toNatClampNeg) = 0 then (0, mst (spM (mst M 464 9 0)) 464 9 2) else (nI (doI n x.toNatClampNeg 13 0 (spM (mst M 464 9 0))).1, mst (spM (mst M 464 9 0)) 464 9 0)
theorem s_X10_doneIn {l : Launch} (hf : l.stackTraces = false) {n : Nat} (hn : n ≤ 12) (hg : M 465 0 = nI n) (hd5 : dwn M n) {L : Nat} (hL : M 465 1 = nI L) (hL12 : L ≤ 12) {x : Int32} : V_X10_doneIn l [.ref 464, .int x] (hp M r) (VI (aDn M n x).1 (hp (aDn M n x).2 r)) := by
  refine VM.intro (lf := L9 (some (.ref 464)) (some (.int x)) none none none none none none none) (by decide +kernel) hf (fun _ => (Nat.le_of_ble_eq_true rfl)) (fun _ => rfl) ?_
  refine R_aload_n dX10_doneIn_0 rfl rfl ?_
  refine R_aload_n dX10_doneIn_1 rfl rfl ?_
  refine R_iload_n dX10_doneIn_2 rfl rfl ?_
  refine G_cV1 cw_X10_121 (s_X10_isFish hf hn hg) dX10_doneIn_3 (rcv cok10 (by first | exact rfl | assumption) (Nat.le_of_ble_eq_true rfl)) ⟨(Nat.le_of_ble_eq_true rfl), (Nat.le_of_ble_eq_true rfl), (Nat.le_of_ble_eq_true rfl), (Nat.le_of_ble_eq_true rfl)⟩ ?_
  refine R_if_eq (tgt := 13) dX10_doneIn_6 rfl (fun c1 => ?_) (fun c1 => ?_)
  · refine R_iconst (v := 1) dX10_doneIn_13 (by decide) ?_
    refine G_cV1 cw_X10_156 (s_X10_fails hf) dX10_doneIn_14 (rcv cok10 (by first | exact rfl | assumption) (Nat.le_of_ble_eq_true rfl)) ⟨(Nat.le_of_ble_eq_true rfl), (Nat.le_of_ble_eq_true rfl), (Nat.le_of_ble_eq_true rfl), (Nat.le_of_ble_eq_true rfl)⟩ ?_
    refine R_if_eq_f (tgt := 22) dX10_doneIn_17 rfl (by decide) ?_
    refine R_iconst (v := 0) dX10_doneIn_20 (by decide) ?_
    refine R_iret dX10_doneIn_21 rfl (Nat.le_of_ble_eq_true rfl) (Nat.le_of_ble_eq_true rfl) ?_
    rw [aDn, if_pos c1]
    exact ⟨rfl, rfl⟩
  · refine R_iconst (v := 0) dX10_doneIn_9 (by decide) ?_
    refine R_goto (tgt := 14) dX10_doneIn_10 rfl ?_
    refine G_cV1 cw_X10_156 (s_X10_fails hf) dX10_doneIn_14 (rcv cok10 (by first | exact rfl | assumption) (Nat.le_of_ble_eq_true rfl)) ⟨(Nat.le_of_ble_eq_true rfl), (Nat.le_of_ble_eq_true rfl), (Nat.le_of_ble_eq_true rfl), (Nat.le_of_ble_eq_true rfl)⟩ ?_
    refine R_if_eq_t (tgt := 22) dX10_doneIn_17 rfl (by decide) ?_
    obtain ⟨k, hk, rfl⟩ := inB_k hn (by assumption)
    have ek : (nI k).toNatClampNeg = k := nI_cl (by omega)
    have hk12 : k < 12 := by omega
    refine R_aload_n dX10_doneIn_22 rfl rfl ?_
    refine G_get cok10 0 wf_X10_7 dX10_doneIn_23 (by first | exact rfl | assumption) ⟨(Nat.le_of_ble_eq_true rfl), (Nat.le_of_ble_eq_true rfl)⟩ rfl ?_
    refine R_iconst (v := 0) dX10_doneIn_26 (by decide) ?_
    refine R_aload_n dX10_doneIn_27 rfl rfl ?_
    refine G_get cok10 4 wf_X10_22 dX10_doneIn_28 (by first | exact rfl | assumption) ⟨(Nat.le_of_ble_eq_true rfl), (Nat.le_of_ble_eq_true rfl)⟩ rfl ?_
    refine R_iconst (v := 0) dX10_doneIn_31 (by decide) ?_
    refine G_cS4v cw_X10_61 (show VD l _ _ _ _ _ _ (hp (mst M 464 9 0) r) none (hp (spM (mst M 464 9 0)) r) from s_X10_copies hf (p := 0) (q := 0) rfl rfl (by decide) (by decide) (by decide) (by decide) (by decide)) dX10_doneIn_32 ⟨(Nat.le_of_ble_eq_true rfl), (Nat.le_of_ble_eq_true rfl), (Nat.le_of_ble_eq_true rfl), (Nat.le_of_ble_eq_true rfl)⟩ ?_
    refine R_iconst (v := 0) dX10_doneIn_35 (by decide) ?_
    refine R_istore_n dX10_doneIn_36 rfl (by decide) (st2 rfl) ?_
    have h9 := L_X10_doneIn (r := r) hf hn hk 13 0 (spM (mst M 464 9 0)) L (sp_465.trans hg) (dwn_sp hd5) (sp_465.trans hL) (by omega) (by omega)
    rw [nI_0, rBk_sp (M := mst M 464 9 0) (fun x y h => doI_out hn hk h 13 0 _ (dwn_sp hd5))] at h9
    rw [aDn, ek, if_neg c1]
    by_cases h7 : zb (rReady (doI n k 13 0 (spM (mst M 464 9 0))).2 k) = 0
    · rw [if_pos h7, if_pos h7] at h9; rw [if_pos h7]; exact h9
    · rw [if_neg h7, if_neg h7] at h9; rw [if_neg h7]; exact h9
def rkC (M : MM) (n i : Nat) (q : Int32) (m : Nat) : Int32 := itN (fun j s => s + (if rMea M i q < rMea M j q then 1 else if rMea M j q = rMea M i q then (if nI j < nI i then 1 else 0) else 0)) 0 m
def rRk (M : MM) (n : Nat) (q v : Int32) : Int32 := findN (fun i => rkC M n i q n == v) n 0
theorem J_X10_ranked {l : Launch} (hf : l.stackTraces = false) {n : Nat} (hn : n ≤ 12) (hg : M 465 0 = nI n) {q v : Int32} {k : Nat} (hk : k < 12) {Z : Option Value ⊕ String → HP → Prop} (K : ∀ x, Q_X10_ranked l Z 106 (L9 (some (.ref 464)) (some (.int q)) (some (.int v)) (some (.int (nI k))) (some (.int (rkC M n k q n))) (some (.int x)) none none none) [] (hp M r)) : ∀ (j i : Nat), i + j = n → Q_X10_ranked l Z 41 (L9 (some (.ref 464)) (some (.int q)) (some (.int v)) (some (.int (nI k))) (some (.int (rkC M n k q i))) (some (.int (nI i))) none none none) [] (hp M r) := by
  intro j
  induction j with
  | zero =>
    intro i hi
    obtain rfl : n = i := by omega
    refine R_iload dX10_ranked_41 (by decide) rfl ?_
    refine R_aload_n dX10_ranked_43 rfl rfl ?_
    refine G_get cok10 0 wf_X10_7 dX10_ranked_44 (by first | exact rfl | assumption) ⟨(Nat.le_of_ble_eq_true rfl), (Nat.le_of_ble_eq_true rfl)⟩ rfl ?_
    refine R_iconst (v := 0) dX10_ranked_47 (by decide) ?_
    refine G_iald dX10_ranked_48 (by first | exact rfl | assumption) (show vp_in (nI 0) 140 from nI_in12 (by omega) (by omega)) ?_
    refine R_topE (show M 465 _ = nI n from hg) ?_
    refine R_icmp_ge_t (tgt := 106) dX10_ranked_49 rfl (nI_le (by omega) (by omega)) ?_
    exact K _
  | succ j ih =>
    intro i hi
    have hi1 : i < n := by omega
    refine R_iload dX10_ranked_41 (by decide) rfl ?_
    refine R_aload_n dX10_ranked_43 rfl rfl ?_
    refine G_get cok10 0 wf_X10_7 dX10_ranked_44 (by first | exact rfl | assumption) ⟨(Nat.le_of_ble_eq_true rfl), (Nat.le_of_ble_eq_true rfl)⟩ rfl ?_
    refine R_iconst (v := 0) dX10_ranked_47 (by decide) ?_
    refine G_iald dX10_ranked_48 (by first | exact rfl | assumption) (show vp_in (nI 0) 140 from nI_in12 (by omega) (by omega)) ?_
    refine R_topE (show M 465 _ = nI n from hg) ?_
    refine R_icmp_ge_f (tgt := 106) dX10_ranked_49 rfl (nI_ge (by omega) (by omega)) ?_
    refine R_iload dX10_ranked_52 (by decide) rfl ?_
    refine R_aload_n dX10_ranked_54 rfl rfl ?_
    refine R_iload dX10_ranked_55 (by decide) rfl ?_
    refine R_iload_n dX10_ranked_57 rfl rfl ?_
    refine G_cV2 cw_X10_165 (s_X10_measured hf (k := i) (by omega)) dX10_ranked_58 (rcv cok10 (by first | exact rfl | assumption) (Nat.le_of_ble_eq_true rfl)) ⟨(Nat.le_of_ble_eq_true rfl), (Nat.le_of_ble_eq_true rfl), (Nat.le_of_ble_eq_true rfl), (Nat.le_of_ble_eq_true rfl)⟩ ?_
    refine R_aload_n dX10_ranked_61 rfl rfl ?_
    refine R_iload_n dX10_ranked_62 rfl rfl ?_
    refine R_iload_n dX10_ranked_63 rfl rfl ?_
    refine G_cV2 cw_X10_165 (s_X10_measured hf hk) dX10_ranked_64 (rcv cok10 (by first | exact rfl | assumption) (Nat.le_of_ble_eq_true rfl)) ⟨(Nat.le_of_ble_eq_true rfl), (Nat.le_of_ble_eq_true rfl), (Nat.le_of_ble_eq_true rfl), (Nat.le_of_ble_eq_true rfl)⟩ ?_
    refine R_icmp_gt (tgt := 92) dX10_ranked_67 rfl (fun c1 => ?_) (fun c1 => ?_)
    · refine R_iconst (v := 1) dX10_ranked_92 (by decide) ?_
      refine R_goto (tgt := 97) dX10_ranked_93 rfl ?_
      refine R_iadd dX10_ranked_97 ?_
      refine R_istore dX10_ranked_98 (by decide) (st4 rfl) ?_
      first | refine R_iincN dX10_ranked_100 (by decide) rfl (by decide) (st5 rfl) ?_ | refine R_iinc1 dX10_ranked_100 (by decide) rfl (by decide) (st5 rfl) ?_
      refine R_goto (tgt := 41) dX10_ranked_103 rfl ?_
      have h9 := ih (i + 1) (by omega)
      rw [show rkC M n k q (i + 1) = rkC M n k q i + (if rMea M k q < rMea M i q then 1 else if rMea M i q = rMea M k q then (if nI i < nI k then 1 else 0) else 0) from rfl] at h9
      rw [if_pos c1] at h9
      exact h9
    · refine R_aload_n dX10_ranked_70 rfl rfl ?_
      refine R_iload dX10_ranked_71 (by decide) rfl ?_
      refine R_iload_n dX10_ranked_73 rfl rfl ?_
      refine G_cV2 cw_X10_165 (s_X10_measured hf (k := i) (by omega)) dX10_ranked_74 (rcv cok10 (by first | exact rfl | assumption) (Nat.le_of_ble_eq_true rfl)) ⟨(Nat.le_of_ble_eq_true rfl), (Nat.le_of_ble_eq_true rfl), (Nat.le_of_ble_eq_true rfl), (Nat.le_of_ble_eq_true rfl)⟩ ?_
      refine R_aload_n dX10_ranked_77 rfl rfl ?_
      refine R_iload_n dX10_ranked_78 rfl rfl ?_
      refine R_iload_n dX10_ranked_79 rfl rfl ?_
      refine G_cV2 cw_X10_165 (s_X10_measured hf hk) dX10_ranked_80 (rcv cok10 (by first | exact rfl | assumption) (Nat.le_of_ble_eq_true rfl)) ⟨(Nat.le_of_ble_eq_true rfl), (Nat.le_of_ble_eq_true rfl), (Nat.le_of_ble_eq_true rfl), (Nat.le_of_ble_eq_true rfl)⟩ ?_
      refine R_icmp_ne (tgt := 96) dX10_ranked_83 rfl (fun c2 => ?_) (fun c2 => ?_)
      · refine R_iconst (v := 0) dX10_ranked_96 (by decide) ?_
        refine R_iadd dX10_ranked_97 ?_
        refine R_istore dX10_ranked_98 (by decide) (st4 rfl) ?_
        first | refine R_iincN dX10_ranked_100 (by decide) rfl (by decide) (st5 rfl) ?_ | refine R_iinc1 dX10_ranked_100 (by decide) rfl (by decide) (st5 rfl) ?_
        refine R_goto (tgt := 41) dX10_ranked_103 rfl ?_
        have h9 := ih (i + 1) (by omega)
        rw [show rkC M n k q (i + 1) = rkC M n k q i + (if rMea M k q < rMea M i q then 1 else if rMea M i q = rMea M k q then (if nI i < nI k then 1 else 0) else 0) from rfl] at h9
        rw [if_neg c1, if_neg c2] at h9
        exact h9
      · refine R_iload dX10_ranked_86 (by decide) rfl ?_
        refine R_iload_n dX10_ranked_88 rfl rfl ?_
        refine R_icmp_geN (tgt := 96) dX10_ranked_89 rfl (fun c3 => ?_) (fun c3 => ?_)
        · refine R_iconst (v := 0) dX10_ranked_96 (by decide) ?_
          refine R_iadd dX10_ranked_97 ?_
          refine R_istore dX10_ranked_98 (by decide) (st4 rfl) ?_
          first | refine R_iincN dX10_ranked_100 (by decide) rfl (by decide) (st5 rfl) ?_ | refine R_iinc1 dX10_ranked_100 (by decide) rfl (by decide) (st5 rfl) ?_
          refine R_goto (tgt := 41) dX10_ranked_103 rfl ?_
          have h9 := ih (i + 1) (by omega)
          rw [show rkC M n k q (i + 1) = rkC M n k q i + (if rMea M k q < rMea M i q then 1 else if rMea M i q = rMea M k q then (if nI i < nI k then 1 else 0) else 0) from rfl] at h9
          rw [if_neg c1, if_pos c2, if_neg c3] at h9
          exact h9
        · refine R_iconst (v := 1) dX10_ranked_92 (by decide) ?_
          refine R_goto (tgt := 97) dX10_ranked_93 rfl ?_
          refine R_iadd dX10_ranked_97 ?_
          refine R_istore dX10_ranked_98 (by decide) (st4 rfl) ?_
          first | refine R_iincN dX10_ranked_100 (by decide) rfl (by decide) (st5 rfl) ?_ | refine R_iinc1 dX10_ranked_100 (by decide) rfl (by decide) (st5 rfl) ?_
          refine R_goto (tgt := 41) dX10_ranked_103 rfl ?_
          have h9 := ih (i + 1) (by omega)
          rw [show rkC M n k q (i + 1) = rkC M n k q i + (if rMea M k q < rMea M i q then 1 else if rMea M i q = rMea M k q then (if nI i < nI k then 1 else 0) else 0) from rfl] at h9
          rw [if_neg c1, if_pos c2, if_pos c3] at h9
          exact h9
theorem L_X10_ranked {l : Launch} (hf : l.stackTraces = false) {n : Nat} (hn : n ≤ 12) (hg : M 465 0 = nI n) {q v : Int32} : ∀ (j i : Nat), i + j = n → ∀ u0 u1 : Option Value, c1 u0 = true → Q_X10_ranked l (VI (if findN (fun i => rkC M n i q n == v) j i < 0 then 0 else findN (fun i => rkC M n i q n == v) j i) (hp (if findN (fun i => rkC M n i q n == v) j i < 0 then mst M 464 9 2 else M) r)) 25 (L9 (some (.ref 464)) (some (.int q)) (some (.int v)) (some (.int (nI i))) none none none none none) [] (hp M r) := by
  intro j
  induction j with
  | zero =>
    intro i hi u0 u1 hu
    obtain rfl : n = i := by omega
    rw [findN, if_pos (by decide), if_pos (by decide)]
    refine R_iload_n dX10_ranked_25 rfl rfl ?_
    refine R_aload_n dX10_ranked_26 rfl rfl ?_
    refine G_get cok10 0 wf_X10_7 dX10_ranked_27 (by first | exact rfl | assumption) ⟨(Nat.le_of_ble_eq_true rfl), (Nat.le_of_ble_eq_true rfl)⟩ rfl ?_
    refine R_iconst (v := 0) dX10_ranked_30 (by decide) ?_
    refine G_iald dX10_ranked_31 (by first | exact rfl | assumption) (show vp_in (nI 0) 140 from nI_in12 (by omega) (by omega)) ?_
    refine R_topE (show M 465 _ = nI n from hg) ?_
    refine R_icmp_ge_t (tgt := 120) dX10_ranked_32 rfl (nI_le (by omega) (by omega)) ?_
    refine R_aload_n dX10_ranked_120 rfl rfl ?_
    refine R_iconst (v := 2) dX10_ranked_121 (by decide) ?_
    refine G_put cok10 9 wf_X10_39 dX10_ranked_122 (by first | exact rfl | assumption) rfl ⟨(Nat.le_of_ble_eq_true rfl), rfl, (Nat.le_of_ble_eq_true rfl)⟩ ⟨rfl, rfl⟩ ?_
    refine R_iconst (v := 0) dX10_ranked_125 (by decide) ?_
    refine R_iret dX10_ranked_126 rfl (Nat.le_of_ble_eq_true rfl) (Nat.le_of_ble_eq_true rfl) ?_
    exact ⟨rfl, rfl⟩
  | succ j ih =>
    intro i hi u0 u1 hu
    have hi1 : i < n := by omega
    have K106 : ∀ x, Q_X10_ranked l (VI (if findN (fun i => rkC M n i q n == v) (j + 1) i < 0 then 0 else findN (fun i => rkC M n i q n == v) (j + 1) i) (hp (if findN (fun i => rkC M n i q n == v) (j + 1) i < 0 then mst M 464 9 2 else M) r)) 106 (L9 (some (.ref 464)) (some (.int q)) (some (.int v)) (some (.int (nI i))) (some (.int (rkC M n i q n))) (some (.int x)) none none none) [] (hp M r) := by
      intro x
      refine R_iload dX10_ranked_106 (by decide) rfl ?_
      refine R_iload_n dX10_ranked_108 rfl rfl ?_
      refine R_icmp_ne (tgt := 114) dX10_ranked_109 rfl (fun c1 => ?_) (fun c1 => ?_)
      · first | refine R_iincN dX10_ranked_114 (by decide) rfl (by decide) (st3 rfl) ?_ | refine R_iinc1 dX10_ranked_114 (by decide) rfl (by decide) (st3 rfl) ?_
        refine R_goto (tgt := 25) dX10_ranked_117 rfl ?_
        have e1 : ¬ (fun i => rkC M n i q n == v) i = true := by simp [c1]
        rw [findN, if_neg e1]
        refine R_weak dr4 (R_weak dr5 ?_)
        exact ih (i + 1) (by omega) none none rfl
      · refine R_iload_n dX10_ranked_112 rfl rfl ?_
        refine R_iret dX10_ranked_113 rfl (Nat.le_of_ble_eq_true rfl) (Nat.le_of_ble_eq_true rfl) ?_
        have e1 : (fun i => rkC M n i q n == v) i = true := by simp [c1]
        rw [findN, if_pos e1, if_neg (nI_pos (by omega)), if_neg (nI_pos (by omega))]
        exact ⟨rfl, rfl⟩
    refine R_iload_n dX10_ranked_25 rfl rfl ?_
    refine R_aload_n dX10_ranked_26 rfl rfl ?_
    refine G_get cok10 0 wf_X10_7 dX10_ranked_27 (by first | exact rfl | assumption) ⟨(Nat.le_of_ble_eq_true rfl), (Nat.le_of_ble_eq_true rfl)⟩ rfl ?_
    refine R_iconst (v := 0) dX10_ranked_30 (by decide) ?_
    refine G_iald dX10_ranked_31 (by first | exact rfl | assumption) (show vp_in (nI 0) 140 from nI_in12 (by omega) (by omega)) ?_
    refine R_topE (show M 465 _ = nI n from hg) ?_
    refine R_icmp_ge_f (tgt := 120) dX10_ranked_32 rfl (nI_ge (by omega) (by omega)) ?_
    refine R_iconst (v := 0) dX10_ranked_35 (by decide) ?_
    refine R_istore dX10_ranked_36 (by decide) (st4 rfl) ?_
    refine R_iconst (v := 0) dX10_ranked_38 (by decide) ?_
    refine R_istore dX10_ranked_39 (by decide) (st5 rfl) ?_
    have h9 := J_X10_ranked (r := r) (v := v) hf hn hg (k := i) (q := q) (by omega) (fun x => K106 x) n 0 (by omega)
    rw [nI_0] at h9
    exact h9
end P29
