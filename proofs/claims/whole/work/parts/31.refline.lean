theorem dgL_le (x : Int32) : (dgL x).length ≤ 2 := by
  rw [dgL_len]; split <;> omega
/-- one side of a line, behind xs -/
def sdX (M : MM) (k i : Nat) (xs : List Int32) : List Int32 := if oF M k 5 = nI i then xs ++ [47] ++ dgL (oF M k (7 + i)) ++ [126] ++ dgL (oF M k (9 + i)) ++ [33] else xs ++ [47] ++ dgL (oF M k (7 + i)) ++ [126] ++ dgL (oF M k (9 + i))
theorem sdX_le {M : MM} {k i : Nat} {xs : List Int32} : (sdX M k i xs).length ≤ xs.length + 7 := by
  have h1 := dgL_le (oF M k (7 + i))
  have h2 := dgL_le (oF M k (9 + i))
  unfold sdX
  split <;> simp only [List.length_append, List.length_cons, List.length_nil] <;> omega
def liX (M : MM) (k : Nat) : List Int32 := sdX M k 1 (sdX M k 0 (dgL (oF M k 0) ++ [42] ++ dgL (oF M k 1)))
section P31
variable {M : MM} {r : MR}
theorem ln9_wr {l : Launch} (hf : l.stackTraces = false) {xs : List Int32} {x : Int32} (h0 : M 464 17 = nI 0) (hl : xs.length < 30) : V_X10_writes l [.ref 464, .int x] (hp (wrL M 0 xs) r) (VR none (hp (wrL M 0 (xs ++ [x])) r)) := by
  have h := s_X10_writes (M := wrL M 0 xs) (r := r) hf (x := x) (m := xs.length) (by rw [wrL_len M 0 h0, Nat.zero_add]) hl
  rw [wrL_app, Nat.zero_add]
  exact h
theorem ln9_wn {l : Launch} (hf : l.stackTraces = false) {xs : List Int32} {x : Int32} (h0 : M 464 17 = nI 0) (hl : xs.length + 1 < 30) : V_X10_writesNumber l [.ref 464, .int x] (hp (wrL M 0 xs) r) (VR none (hp (wrL M 0 (xs ++ dgL x)) r)) := by
  have h := s_X10_writesNumber (M := wrL M 0 xs) (r := r) hf (x := x) (m := xs.length) (by rw [wrL_len M 0 h0, Nat.zero_add]) hl
  rw [wrL_app, Nat.zero_add]
  exact h
theorem ln9_of {xs : List Int32} {k v : Nat} : oF (wrL M 0 xs) k v = oF M k v := wrL_fr (by decide) (Or.inl (by decide)) M 0
theorem B_X10_line {l : Launch} (hf : l.stackTraces = false) (h0 : M 464 17 = nI 0) {k i : Nat} (hk12 : k < 12) (hi : i < 2) {xs : List Int32} (hl : xs.length ≤ 20) {Z : Option Value ⊕ String → HP → Prop} (K : Q_X10_line l Z 55 (L9 (some (.ref 464)) (some (.int (nI k))) (some (.int (nI (i + 1)))) none none none none none none) [] (hp (wrL M 0 (sdX M k i xs)) r)) : Q_X10_line l Z 55 (L9 (some (.ref 464)) (some (.int (nI k))) (some (.int (nI i))) none none none none none none) [] (hp (wrL M 0 xs) r) := by
  have q1 := dgL_le (oF M k (7 + i))
  have q2 := dgL_le (oF M k (9 + i))
  refine R_iload_n dX10_line_55 rfl rfl ?_
  refine R_iconst (v := 2) dX10_line_56 (by decide) ?_
  refine R_icmp_ge_f (tgt := 120) dX10_line_57 rfl (nI_ge (b := 2) (by omega) (by omega)) ?_
  refine R_aload_n dX10_line_60 rfl rfl ?_
  refine R_bipush (v := 47) dX10_line_61 (by decide) ?_
  refine G_cV1v cw_X10_238 (ln9_wr hf h0 (by first | omega | (simp only [List.length_append, List.length_cons, List.length_nil]; omega))) dX10_line_63 (rcv cok10 (by first | exact rfl | assumption) (Nat.le_of_ble_eq_true rfl)) ⟨(Nat.le_of_ble_eq_true rfl), (Nat.le_of_ble_eq_true rfl), (Nat.le_of_ble_eq_true rfl), (Nat.le_of_ble_eq_true rfl)⟩ ?_
  refine R_aload_n dX10_line_66 rfl rfl ?_
  refine R_aload_n dX10_line_67 rfl rfl ?_
  refine R_iload_n dX10_line_68 rfl rfl ?_
  refine R_bipush (v := 7) dX10_line_69 (by decide) ?_
  refine R_iload_n dX10_line_71 rfl rfl ?_
  refine R_iadd dX10_line_72 ?_
  refine G_cV2 cw_X10_69 (s_X10_of hf (k := k) (w := 7 + i) hk12 (by omega) (nI_add2 7 i)) dX10_line_73 (rcv cok10 (by first | exact rfl | assumption) (Nat.le_of_ble_eq_true rfl)) ⟨(Nat.le_of_ble_eq_true rfl), (Nat.le_of_ble_eq_true rfl), (Nat.le_of_ble_eq_true rfl), (Nat.le_of_ble_eq_true rfl)⟩ ?_
  refine R_topE ln9_of ?_
  refine G_cV1v cw_X10_241 (ln9_wn hf h0 (by first | omega | (simp only [List.length_append, List.length_cons, List.length_nil]; omega))) dX10_line_76 (rcv cok10 (by first | exact rfl | assumption) (Nat.le_of_ble_eq_true rfl)) ⟨(Nat.le_of_ble_eq_true rfl), (Nat.le_of_ble_eq_true rfl), (Nat.le_of_ble_eq_true rfl), (Nat.le_of_ble_eq_true rfl)⟩ ?_
  refine R_aload_n dX10_line_79 rfl rfl ?_
  refine R_bipush (v := 126) dX10_line_80 (by decide) ?_
  refine G_cV1v cw_X10_238 (ln9_wr hf h0 (by first | omega | (simp only [List.length_append, List.length_cons, List.length_nil]; omega))) dX10_line_82 (rcv cok10 (by first | exact rfl | assumption) (Nat.le_of_ble_eq_true rfl)) ⟨(Nat.le_of_ble_eq_true rfl), (Nat.le_of_ble_eq_true rfl), (Nat.le_of_ble_eq_true rfl), (Nat.le_of_ble_eq_true rfl)⟩ ?_
  refine R_aload_n dX10_line_85 rfl rfl ?_
  refine R_aload_n dX10_line_86 rfl rfl ?_
  refine R_iload_n dX10_line_87 rfl rfl ?_
  refine R_bipush (v := 9) dX10_line_88 (by decide) ?_
  refine R_iload_n dX10_line_90 rfl rfl ?_
  refine R_iadd dX10_line_91 ?_
  refine G_cV2 cw_X10_69 (s_X10_of hf (k := k) (w := 9 + i) hk12 (by omega) (nI_add2 9 i)) dX10_line_92 (rcv cok10 (by first | exact rfl | assumption) (Nat.le_of_ble_eq_true rfl)) ⟨(Nat.le_of_ble_eq_true rfl), (Nat.le_of_ble_eq_true rfl), (Nat.le_of_ble_eq_true rfl), (Nat.le_of_ble_eq_true rfl)⟩ ?_
  refine R_topE ln9_of ?_
  refine G_cV1v cw_X10_241 (ln9_wn hf h0 (by first | omega | (simp only [List.length_append, List.length_cons, List.length_nil]; omega))) dX10_line_95 (rcv cok10 (by first | exact rfl | assumption) (Nat.le_of_ble_eq_true rfl)) ⟨(Nat.le_of_ble_eq_true rfl), (Nat.le_of_ble_eq_true rfl), (Nat.le_of_ble_eq_true rfl), (Nat.le_of_ble_eq_true rfl)⟩ ?_
  refine R_aload_n dX10_line_98 rfl rfl ?_
  refine R_iload_n dX10_line_99 rfl rfl ?_
  refine R_iconst (v := 5) dX10_line_100 (by decide) ?_
  refine G_cV2 cw_X10_69 (s_X10_of hf (k := k) (w := 5) hk12 (by omega) (by decide)) dX10_line_101 (rcv cok10 (by first | exact rfl | assumption) (Nat.le_of_ble_eq_true rfl)) ⟨(Nat.le_of_ble_eq_true rfl), (Nat.le_of_ble_eq_true rfl), (Nat.le_of_ble_eq_true rfl), (Nat.le_of_ble_eq_true rfl)⟩ ?_
  refine R_topE ln9_of ?_
  refine R_iload_n dX10_line_104 rfl rfl ?_
  refine R_icmp_ne (tgt := 114) dX10_line_105 rfl (fun c1 => ?_) (fun c1 => ?_)
  · first | refine R_iincN dX10_line_114 (by decide) rfl (by decide) (st2 rfl) ?_ | refine R_iinc1 dX10_line_114 (by decide) rfl (by decide) (st2 rfl) ?_
    refine R_goto (tgt := 55) dX10_line_117 rfl ?_
    rw [sdX, if_neg c1] at K
    exact K
  · refine R_aload_n dX10_line_108 rfl rfl ?_
    refine R_bipush (v := 33) dX10_line_109 (by decide) ?_
    refine G_cV1v cw_X10_238 (ln9_wr hf h0 (by first | omega | (simp only [List.length_append, List.length_cons, List.length_nil]; omega))) dX10_line_111 (rcv cok10 (by first | exact rfl | assumption) (Nat.le_of_ble_eq_true rfl)) ⟨(Nat.le_of_ble_eq_true rfl), (Nat.le_of_ble_eq_true rfl), (Nat.le_of_ble_eq_true rfl), (Nat.le_of_ble_eq_true rfl)⟩ ?_
    first | refine R_iincN dX10_line_114 (by decide) rfl (by decide) (st2 rfl) ?_ | refine R_iinc1 dX10_line_114 (by decide) rfl (by decide) (st2 rfl) ?_
    refine R_goto (tgt := 55) dX10_line_117 rfl ?_
    rw [sdX, if_pos c1] at K
    exact K
theorem L_X10_line {l : Launch} (hf : l.stackTraces = false) (h0 : M 464 17 = nI 0) {k : Nat} (hk12 : k < 12) : Q_X10_line l (VI (nI (liX M k).length) (hp (wrL M 0 (liX M k)) r)) 55 (L9 (some (.ref 464)) (some (.int (nI k))) (some (.int (nI 0))) none none none none none none) [] (hp (wrL M 0 (dgL (oF M k 0) ++ [42] ++ dgL (oF M k 1))) r) := by
  have q1 := dgL_le (oF M k 0)
  have q2 := dgL_le (oF M k 1)
  have q3 : (dgL (oF M k 0) ++ [42] ++ dgL (oF M k 1)).length ≤ 5 := by simp only [List.length_append, List.length_cons, List.length_nil]; omega
  have q4 := sdX_le (M := M) (k := k) (i := 0) (xs := dgL (oF M k 0) ++ [42] ++ dgL (oF M k 1))
  refine B_X10_line hf h0 hk12 (by omega) (by omega) ?_
  refine B_X10_line hf h0 hk12 (by omega) (by omega) ?_
  refine R_iload_n dX10_line_55 rfl rfl ?_
  refine R_iconst (v := 2) dX10_line_56 (by decide) ?_
  refine R_icmp_ge_t (tgt := 120) dX10_line_57 rfl (by decide) ?_
  refine R_aload_n dX10_line_120 rfl rfl ?_
  refine G_get cok10 17 wf_X10_235 dX10_line_121 (by first | exact rfl | assumption) ⟨(Nat.le_of_ble_eq_true rfl), (Nat.le_of_ble_eq_true rfl)⟩ rfl ?_
  refine R_iret dX10_line_124 rfl (Nat.le_of_ble_eq_true rfl) (Nat.le_of_ble_eq_true rfl) ?_
  refine ⟨?_, rfl⟩
  rw [show sdX M k 1 (sdX M k 0 (dgL (oF M k 0) ++ [42] ++ dgL (oF M k 1))) = liX M k from rfl, wrL_len M 0 h0, Nat.zero_add]
def aLi (M : MM) (n : Nat) (x : Int32) : Int32 × MM := if zb (inB x 0 (nI n - 1)) = 0 then (0, mst M 464 9 1) else (nI (liX (mst (mst M 464 9 0) 464 17 0) x.toNatClampNeg).length, wrL (mst (mst M 464 9 0) 464 17 0) 0 (liX (mst (mst M 464 9 0) 464 17 0) x.toNatClampNeg))
theorem s_X10_line {l : Launch} (hf : l.stackTraces = false) {n : Nat} (hn : n ≤ 12) (hg : M 465 0 = nI n) {x : Int32} : V_X10_line l [.ref 464, .int x] (hp M r) (VI (aLi M n x).1 (hp (aLi M n x).2 r)) := by
  refine VM.intro (lf := L9 (some (.ref 464)) (some (.int x)) none none none none none none none) (by decide +kernel) hf (fun _ => (Nat.le_of_ble_eq_true rfl)) (fun _ => rfl) ?_
  refine R_aload_n dX10_line_0 rfl rfl ?_
  refine R_aload_n dX10_line_1 rfl rfl ?_
  refine R_iload_n dX10_line_2 rfl rfl ?_
  refine G_cV1 cw_X10_121 (s_X10_isFish hf hn hg) dX10_line_3 (rcv cok10 (by first | exact rfl | assumption) (Nat.le_of_ble_eq_true rfl)) ⟨(Nat.le_of_ble_eq_true rfl), (Nat.le_of_ble_eq_true rfl), (Nat.le_of_ble_eq_true rfl), (Nat.le_of_ble_eq_true rfl)⟩ ?_
  refine R_if_eq (tgt := 13) dX10_line_6 rfl (fun c1 => ?_) (fun c1 => ?_)
  · refine R_iconst (v := 1) dX10_line_13 (by decide) ?_
    refine G_cV1 cw_X10_156 (s_X10_fails hf) dX10_line_14 (rcv cok10 (by first | exact rfl | assumption) (Nat.le_of_ble_eq_true rfl)) ⟨(Nat.le_of_ble_eq_true rfl), (Nat.le_of_ble_eq_true rfl), (Nat.le_of_ble_eq_true rfl), (Nat.le_of_ble_eq_true rfl)⟩ ?_
    refine R_if_eq_f (tgt := 22) dX10_line_17 rfl (by decide) ?_
    refine R_iconst (v := 0) dX10_line_20 (by decide) ?_
    refine R_iret dX10_line_21 rfl (Nat.le_of_ble_eq_true rfl) (Nat.le_of_ble_eq_true rfl) ?_
    first | rw [aLi, ek, if_pos c1] | rw [aLi, if_pos c1] | rw [aLi]
    first | exact ⟨rfl, rfl⟩ | skip
  · refine R_iconst (v := 0) dX10_line_9 (by decide) ?_
    refine R_goto (tgt := 14) dX10_line_10 rfl ?_
    refine G_cV1 cw_X10_156 (s_X10_fails hf) dX10_line_14 (rcv cok10 (by first | exact rfl | assumption) (Nat.le_of_ble_eq_true rfl)) ⟨(Nat.le_of_ble_eq_true rfl), (Nat.le_of_ble_eq_true rfl), (Nat.le_of_ble_eq_true rfl), (Nat.le_of_ble_eq_true rfl)⟩ ?_
    refine R_if_eq_t (tgt := 22) dX10_line_17 rfl (by decide) ?_
    refine R_aload_n dX10_line_22 rfl rfl ?_
    refine R_iconst (v := 0) dX10_line_23 (by decide) ?_
    refine G_put cok10 17 wf_X10_235 dX10_line_24 (by first | exact rfl | assumption) rfl ⟨(Nat.le_of_ble_eq_true rfl), rfl, (Nat.le_of_ble_eq_true rfl)⟩ ⟨rfl, rfl⟩ ?_
    obtain ⟨k, hk, rfl⟩ := inB_k hn (by assumption)
    have ek : (nI k).toNatClampNeg = k := nI_cl (by omega)
    have hk12 : k < 12 := by omega
    refine R_aload_n dX10_line_27 rfl rfl ?_
    have h0 : (mst (mst M 464 9 0) 464 17 0) 464 17 = nI 0 := by rw [mst_eq, nI_0]
    have q1 : ([] ++ dgL (oF (mst (mst M 464 9 0) 464 17 0) k 0)).length ≤ 2 := dgL_le _
    refine R_aload_n dX10_line_28 rfl rfl ?_
    refine R_iload_n dX10_line_29 rfl rfl ?_
    refine R_iconst (v := 0) dX10_line_30 (by decide) ?_
    refine G_cV2 cw_X10_69 (s_X10_of hf (k := k) (w := 0) hk12 (by omega) (by decide)) dX10_line_31 (rcv cok10 (by first | exact rfl | assumption) (Nat.le_of_ble_eq_true rfl)) ⟨(Nat.le_of_ble_eq_true rfl), (Nat.le_of_ble_eq_true rfl), (Nat.le_of_ble_eq_true rfl), (Nat.le_of_ble_eq_true rfl)⟩ ?_
    refine G_cV1v cw_X10_241 (show VD l _ _ _ _ _ _ (hp (wrL (mst (mst M 464 9 0) 464 17 0) 0 []) r) none (hp (wrL (mst (mst M 464 9 0) 464 17 0) 0 ([] ++ dgL (oF (mst (mst M 464 9 0) 464 17 0) k 0))) r) from ln9_wn hf h0 (by decide)) dX10_line_34 (rcv cok10 (by first | exact rfl | assumption) (Nat.le_of_ble_eq_true rfl)) ⟨(Nat.le_of_ble_eq_true rfl), (Nat.le_of_ble_eq_true rfl), (Nat.le_of_ble_eq_true rfl), (Nat.le_of_ble_eq_true rfl)⟩ ?_
    refine R_aload_n dX10_line_37 rfl rfl ?_
    refine R_bipush (v := 42) dX10_line_38 (by decide) ?_
    refine G_cV1v cw_X10_238 (ln9_wr hf h0 (by omega)) dX10_line_40 (rcv cok10 (by first | exact rfl | assumption) (Nat.le_of_ble_eq_true rfl)) ⟨(Nat.le_of_ble_eq_true rfl), (Nat.le_of_ble_eq_true rfl), (Nat.le_of_ble_eq_true rfl), (Nat.le_of_ble_eq_true rfl)⟩ ?_
    refine R_aload_n dX10_line_43 rfl rfl ?_
    refine R_aload_n dX10_line_44 rfl rfl ?_
    refine R_iload_n dX10_line_45 rfl rfl ?_
    refine R_iconst (v := 1) dX10_line_46 (by decide) ?_
    refine G_cV2 cw_X10_69 (s_X10_of hf (k := k) (w := 1) hk12 (by omega) (by decide)) dX10_line_47 (rcv cok10 (by first | exact rfl | assumption) (Nat.le_of_ble_eq_true rfl)) ⟨(Nat.le_of_ble_eq_true rfl), (Nat.le_of_ble_eq_true rfl), (Nat.le_of_ble_eq_true rfl), (Nat.le_of_ble_eq_true rfl)⟩ ?_
    refine R_topE ln9_of ?_
    refine G_cV1v cw_X10_241 (ln9_wn hf h0 (by simp only [List.length_append, List.length_cons, List.length_nil] at q1 ⊢; omega)) dX10_line_50 (rcv cok10 (by first | exact rfl | assumption) (Nat.le_of_ble_eq_true rfl)) ⟨(Nat.le_of_ble_eq_true rfl), (Nat.le_of_ble_eq_true rfl), (Nat.le_of_ble_eq_true rfl), (Nat.le_of_ble_eq_true rfl)⟩ ?_
    refine R_iconst (v := 0) dX10_line_53 (by decide) ?_
    refine R_istore_n dX10_line_54 rfl (by decide) (st2 rfl) ?_
    have h9 := L_X10_line (M := mst (mst M 464 9 0) 464 17 0) (r := r) hf h0 (k := k) hk12
    rw [nI_0] at h9
    rw [aLi, ek, if_neg c1]
    exact h9
end P31
