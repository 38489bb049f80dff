theorem isH_apart {a b : Nat} (ha : isH a) (hb : isH b) (h : a ≠ b) : a + 41 ≤ b ∨ b + 41 ≤ a := by
  unfold isH isHb at ha hb
  simp only [Bool.or_eq_true, Bool.and_eq_true, decide_eq_true_eq, beq_iff_eq] at ha hb
  omega
theorem fcp_ne {M : MM} {a b x : Nat} (h0 : x ≠ a) (h1 : x ≠ a + 1) (h2 : x ≠ a + 2) : fcp M a b x = M x := by
  funext k
  simp [fcp, h0, h1, h2]
theorem fspend_ne {M : MM} {a s x : Nat} {p q : Int32} (h0 : x ≠ a) (h1 : x ≠ s) : fspend M a s p q x = M x := by
  funext k
  unfold fspend
  rw [mst_ne1 h0]
  split
  · rw [mst_ne1 h1, mst_ne1 h1]
  · rw [mst_ne1 h1]
theorem dside_or (M : MM) (a : Nat) : dside M a = a + 1 ∨ dside M a = a + 2 := by
  unfold dside
  split
  · exact Or.inl rfl
  · exact Or.inr rfl
/-- an hour of one fish: x logs ahead, y: whether it is crowded -/
def smk (M : MM) (b a : Nat) (x y : Int32) : MM := if M a 4 = 2 then fspend M a (dside M a) (mx0 (x - M a 5)) (if y = 0 then (if 0 < x then mx0 (x - M a 5) + M b 4 else 0) else (if 0 < x then mx0 (x - M a 5) + M b 4 else 0) / 2) else M
theorem smk_ne {M : MM} {b a z : Nat} {x y : Int32} (h0 : z ≠ a) (h1 : z ≠ a + 1) (h2 : z ≠ a + 2) : smk M b a x y z = M z := by
  unfold smk
  split
  · exact fspend_ne h0 (by rcases dside_or M a with h | h <;> rw [h] <;> assumption)
  · rfl
def hcp0 (M : MM) (a b : Nat) : MM := fun x k => if x = a ∧ 2 ≤ k ∧ k ≤ 9 then M b k else M x k
def hcp (M : MM) (a b n : Nat) : MM := itN (fun i M => fcp M (a + 5 + 3 * i) (b + 5 + 3 * i)) (hcp0 M a b) n
theorem hcp_fr {M : MM} {a b x : Nat} : ∀ (i : Nat), x < a + 5 ∨ a + 5 + 3 * i ≤ x → hcp M a b i x = hcp0 M a b x
  | 0, _ => rfl
  | i + 1, h => by
    show fcp (hcp M a b i) (a + 5 + 3 * i) (b + 5 + 3 * i) x = _
    rw [fcp_ne (by omega) (by omega) (by omega)]
    exact hcp_fr i (by omega)
def hrm (M : MM) (b k t : Nat) : MM := itN (fun i M => fcp M (b + 5 + 3 * (k + i)) (b + 5 + 3 * (k + i + 1))) (mst M b 2 (M b 2 - 1)) t
theorem hrm_fr {M : MM} {b k x : Nat} : ∀ (i : Nat), x < b + 5 + 3 * k ∨ b + 5 + 3 * (k + i) ≤ x → hrm M b k i x = mst M b 2 (M b 2 - 1) x
  | 0, _ => rfl
  | i + 1, h => by
    show fcp (hrm M b k i) (b + 5 + 3 * (k + i)) (b + 5 + 3 * (k + i + 1)) x = _
    rw [fcp_ne (by omega) (by omega) (by omega)]
    exact hrm_fr i (by omega)
/-- an hour of the first i fish -/
def hrF (M : MM) (b n : Nat) (i : Nat) : MM := itN (fun i M => smk M b (b + 5 + 3 * i) (M b 3) (zb (tooNear M b i n))) M i
theorem hrF_fr {M : MM} {b n x : Nat} : ∀ (i : Nat), x < b + 5 ∨ b + 5 + 3 * i ≤ x → hrF M b n i x = M x
  | 0, _ => rfl
  | i + 1, h => by
    show smk (hrF M b n i) b (b + 5 + 3 * i) _ _ x = _
    rw [smk_ne (by omega) (by omega) (by omega)]
    exact hrF_fr i (by omega)
def hour (M : MM) (b n : Nat) : MM := mst (mst (hrF M b n n) b 3 (mx0 (M b 3 - 1))) b 5 (M b 5 + 1)
section P12
variable {M : MM} {r : MR}
theorem s_X3_smokeOne {l : Launch} (hf : l.stackTraces = false) {b a : Nat} {x y : Int32} (hb : isH b) (ha : sK a = 0) : V_X3_smokeOne l [.ref b, .ref a, .int x, .int y] (hp M r) (VR none (hp (smk M b a x y) r)) := by
  have hb0 := hs0 hb
  have hb1 := hs1 hb
  have hb2 := hs2 hb
  refine VM.intro (lf := L9 (some (.ref b)) (some (.ref a)) (some (.int x)) (some (.int y)) none none none none none) (by decide +kernel) hf (fun _ => (Nat.le_of_ble_eq_true rfl)) (fun _ => rfl) ?_
  refine R_aload_n dX3_smokeOne_0 rfl rfl ?_
  refine G_cV0 cw_X3_100 (s_X0_hangs hf ha) dX3_smokeOne_1 (rcv cok0 (by first | assumption | exact rfl | exact hs0 hb | exact hsf hb (by omega) | exact fish1 (hsf hb (by omega)) | exact fish2 (hsf hb (by omega))) (Nat.le_of_ble_eq_true rfl)) ⟨(Nat.le_of_ble_eq_true rfl), (Nat.le_of_ble_eq_true rfl), (Nat.le_of_ble_eq_true rfl), (Nat.le_of_ble_eq_true rfl)⟩ ?_
  refine R_if_ne (tgt := 8) dX3_smokeOne_4 rfl (fun c1 => ?_) (fun c1 => ?_)
  · refine R_iload_n dX3_smokeOne_8 rfl rfl ?_
    refine R_aload_n dX3_smokeOne_9 rfl rfl ?_
    refine G_get cok0 5 wf_X3_62 dX3_smokeOne_10 (by first | assumption | exact rfl | exact hs0 hb | exact hsf hb (by omega) | exact fish1 (hsf hb (by omega)) | exact fish2 (hsf hb (by omega))) ⟨(Nat.le_of_ble_eq_true rfl), (Nat.le_of_ble_eq_true rfl)⟩ rfl ?_
    refine G_cN2 cw_X3_117 (s_X9_heatBy hf) dX3_smokeOne_13 ⟨(Nat.le_of_ble_eq_true rfl), (Nat.le_of_ble_eq_true rfl), (Nat.le_of_ble_eq_true rfl), (Nat.le_of_ble_eq_true rfl)⟩ ?_
    refine R_istore dX3_smokeOne_16 (by decide) (st4 rfl) ?_
    refine R_iload_n dX3_smokeOne_18 rfl rfl ?_
    refine R_if_leN (tgt := 32) dX3_smokeOne_19 rfl (fun c2 => ?_) (fun c2 => ?_)
    · refine R_iconst (v := 0) dX3_smokeOne_32 (by decide) ?_
      refine R_istore dX3_smokeOne_33 (by decide) (st5 rfl) ?_
      refine R_aload_n dX3_smokeOne_35 rfl rfl ?_
      refine R_iload dX3_smokeOne_36 (by decide) rfl ?_
      refine R_iload_n dX3_smokeOne_38 rfl rfl ?_
      refine R_if_eq (tgt := 49) dX3_smokeOne_39 rfl (fun c3 => ?_) (fun c3 => ?_)
      · refine R_iload dX3_smokeOne_49 (by decide) rfl ?_
        refine G_cV2v cw_X3_120 (s_X0_spendHour hf ha) dX3_smokeOne_51 (rcv cok0 (by first | assumption | exact rfl | exact hs0 hb | exact hsf hb (by omega) | exact fish1 (hsf hb (by omega)) | exact fish2 (hsf hb (by omega))) (Nat.le_of_ble_eq_true rfl)) ⟨(Nat.le_of_ble_eq_true rfl), (Nat.le_of_ble_eq_true rfl), (Nat.le_of_ble_eq_true rfl), (Nat.le_of_ble_eq_true rfl)⟩ ?_
        refine R_vret dX3_smokeOne_54 (Nat.le_of_ble_eq_true rfl) (Nat.le_of_ble_eq_true rfl) ?_
        refine ⟨rfl, congrArg (fun z => hp z r) ?_⟩
        simp_all [-Int32.not_lt, smk, zb]
      · refine R_iload dX3_smokeOne_42 (by decide) rfl ?_
        refine R_iconst (v := 2) dX3_smokeOne_44 (by decide) ?_
        refine R_idiv dX3_smokeOne_45 (by decide) ?_
        refine R_goto (tgt := 51) dX3_smokeOne_46 rfl ?_
        refine G_cV2v cw_X3_120 (s_X0_spendHour hf ha) dX3_smokeOne_51 (rcv cok0 (by first | assumption | exact rfl | exact hs0 hb | exact hsf hb (by omega) | exact fish1 (hsf hb (by omega)) | exact fish2 (hsf hb (by omega))) (Nat.le_of_ble_eq_true rfl)) ⟨(Nat.le_of_ble_eq_true rfl), (Nat.le_of_ble_eq_true rfl), (Nat.le_of_ble_eq_true rfl), (Nat.le_of_ble_eq_true rfl)⟩ ?_
        refine R_vret dX3_smokeOne_54 (Nat.le_of_ble_eq_true rfl) (Nat.le_of_ble_eq_true rfl) ?_
        refine ⟨rfl, congrArg (fun z => hp z r) ?_⟩
        simp_all [-Int32.not_lt, smk, zb]
    · refine R_iload dX3_smokeOne_22 (by decide) rfl ?_
      refine R_aload_n dX3_smokeOne_24 rfl rfl ?_
      refine G_get cok3 4 wf_X3_29 dX3_smokeOne_25 (by first | assumption | exact rfl | exact hs0 hb | exact hsf hb (by omega) | exact fish1 (hsf hb (by omega)) | exact fish2 (hsf hb (by omega))) ⟨(Nat.le_of_ble_eq_true rfl), (Nat.le_of_ble_eq_true rfl)⟩ rfl ?_
      refine R_iadd dX3_smokeOne_28 ?_
      refine R_goto (tgt := 33) dX3_smokeOne_29 rfl ?_
      refine R_istore dX3_smokeOne_33 (by decide) (st5 rfl) ?_
      refine R_aload_n dX3_smokeOne_35 rfl rfl ?_
      refine R_iload dX3_smokeOne_36 (by decide) rfl ?_
      refine R_iload_n dX3_smokeOne_38 rfl rfl ?_
      refine R_if_eq (tgt := 49) dX3_smokeOne_39 rfl (fun c4 => ?_) (fun c4 => ?_)
      · refine R_iload dX3_smokeOne_49 (by decide) rfl ?_
        refine G_cV2v cw_X3_120 (s_X0_spendHour hf ha) dX3_smokeOne_51 (rcv cok0 (by first | assumption | exact rfl | exact hs0 hb | exact hsf hb (by omega) | exact fish1 (hsf hb (by omega)) | exact fish2 (hsf hb (by omega))) (Nat.le_of_ble_eq_true rfl)) ⟨(Nat.le_of_ble_eq_true rfl), (Nat.le_of_ble_eq_true rfl), (Nat.le_of_ble_eq_true rfl), (Nat.le_of_ble_eq_true rfl)⟩ ?_
        refine R_vret dX3_smokeOne_54 (Nat.le_of_ble_eq_true rfl) (Nat.le_of_ble_eq_true rfl) ?_
        refine ⟨rfl, congrArg (fun z => hp z r) ?_⟩
        simp_all [-Int32.not_lt, smk, zb]
      · refine R_iload dX3_smokeOne_42 (by decide) rfl ?_
        refine R_iconst (v := 2) dX3_smokeOne_44 (by decide) ?_
        refine R_idiv dX3_smokeOne_45 (by decide) ?_
        refine R_goto (tgt := 51) dX3_smokeOne_46 rfl ?_
        refine G_cV2v cw_X3_120 (s_X0_spendHour hf ha) dX3_smokeOne_51 (rcv cok0 (by first | assumption | exact rfl | exact hs0 hb | exact hsf hb (by omega) | exact fish1 (hsf hb (by omega)) | exact fish2 (hsf hb (by omega))) (Nat.le_of_ble_eq_true rfl)) ⟨(Nat.le_of_ble_eq_true rfl), (Nat.le_of_ble_eq_true rfl), (Nat.le_of_ble_eq_true rfl), (Nat.le_of_ble_eq_true rfl)⟩ ?_
        refine R_vret dX3_smokeOne_54 (Nat.le_of_ble_eq_true rfl) (Nat.le_of_ble_eq_true rfl) ?_
        refine ⟨rfl, congrArg (fun z => hp z r) ?_⟩
        simp_all [-Int32.not_lt, smk, zb]
  · refine R_vret dX3_smokeOne_7 (Nat.le_of_ble_eq_true rfl) (Nat.le_of_ble_eq_true rfl) ?_
    refine ⟨rfl, congrArg (fun z => hp z r) ?_⟩
    simp_all [-Int32.not_lt, smk, zb]
theorem L_X3_copyFrom {l : Launch} (hf : l.stackTraces = false) {a b n : Nat} (ha : isH a) (hb : isH b) (hab : a ≠ b) (hn : n ≤ 12) (hc : M b 2 = nI n) (hz : ∀ i, i < n → M (b + 5 + 3 * i) 8 = 0 ∨ M (b + 5 + 3 * i) 8 = 1) : ∀ (j i : Nat), i + j = n → Q_X3_copyFrom l (VR none (hp (hcp M a b n) r)) 66 (L9 (some (.ref a)) (some (.ref b)) (some (.int (nI i))) none none none none none none) [] (hp (hcp M a b i) r) := by
  intro j
  induction j with
  | zero =>
    intro i hi
    have hin : n = i := by omega
    subst hin
    have hc9 : hcp M a b n a 2 = nI n := by rw [hcp_fr n (by omega)]; simp [hcp0, hc]
    refine R_iload_n dX3_copyFrom_66 rfl rfl ?_
    refine R_aload_n dX3_copyFrom_67 rfl rfl ?_
    refine G_get cok3 2 wf_X3_22 dX3_copyFrom_68 (hs0 ha) ⟨(Nat.le_of_ble_eq_true rfl), (Nat.le_of_ble_eq_true rfl)⟩ rfl ?_
    refine R_icmp_ge_t (tgt := 93) dX3_copyFrom_71 rfl (by rw [hc9]; exact nI_le (by omega) (by omega)) ?_
    refine R_vret dX3_copyFrom_93 (Nat.le_of_ble_eq_true rfl) (Nat.le_of_ble_eq_true rfl) ?_
    exact ⟨rfl, rfl⟩
  | succ j ih =>
    intro i hi
    have hi1 : i < n := by omega
    have hap := isH_apart ha hb hab
    have hc9 : hcp M a b i a 2 = nI n := by rw [hcp_fr i (by omega)]; simp [hcp0, hc]
    refine R_iload_n dX3_copyFrom_66 rfl rfl ?_
    refine R_aload_n dX3_copyFrom_67 rfl rfl ?_
    refine G_get cok3 2 wf_X3_22 dX3_copyFrom_68 (hs0 ha) ⟨(Nat.le_of_ble_eq_true rfl), (Nat.le_of_ble_eq_true rfl)⟩ rfl ?_
    refine R_icmp_ge_f (tgt := 93) dX3_copyFrom_71 rfl (by rw [hc9]; exact nI_ge (by omega) (by omega)) ?_
    refine R_aload_n dX3_copyFrom_74 rfl rfl ?_
    refine R_iload_n dX3_copyFrom_75 rfl rfl ?_
    refine G_cV1 cw_X3_47 (s_X3_fishAt hf ha (by omega)) dX3_copyFrom_76 (rcv cok3 (hs0 ha) (Nat.le_of_ble_eq_true rfl)) ⟨(Nat.le_of_ble_eq_true rfl), (Nat.le_of_ble_eq_true rfl), (Nat.le_of_ble_eq_true rfl), (Nat.le_of_ble_eq_true rfl)⟩ ?_
    refine R_aload_n dX3_copyFrom_79 rfl rfl ?_
    refine R_iload_n dX3_copyFrom_80 rfl rfl ?_
    refine G_cV1 cw_X3_47 (s_X3_fishAt hf hb (by omega)) dX3_copyFrom_81 (rcv cok3 (hs0 hb) (Nat.le_of_ble_eq_true rfl)) ⟨(Nat.le_of_ble_eq_true rfl), (Nat.le_of_ble_eq_true rfl), (Nat.le_of_ble_eq_true rfl), (Nat.le_of_ble_eq_true rfl)⟩ ?_
    refine G_cV1v cw_X3_51 (s_X0_copyFrom hf (hsf ha (by omega)) (hsf hb (by omega)) (by omega) (by rw [hcp_fr i (by omega)]; simpa [hcp0, show b + 5 + 3 * i ≠ a by omega] using hz i (by omega))) dX3_copyFrom_84 (rcv cok0 (hsf ha (by omega)) (Nat.le_of_ble_eq_true rfl)) ⟨(Nat.le_of_ble_eq_true rfl), (Nat.le_of_ble_eq_true rfl), (Nat.le_of_ble_eq_true rfl), (Nat.le_of_ble_eq_true rfl)⟩ ?_
    first | refine R_iincN dX3_copyFrom_87 (by decide) rfl (by decide) (st2 rfl) ?_ | refine R_iinc1 dX3_copyFrom_87 (by decide) rfl (by decide) (st2 rfl) ?_
    refine R_goto (tgt := 66) dX3_copyFrom_90 rfl ?_
    have h9 := ih (i + 1) (by omega)
    exact h9
theorem s_X3_copyFrom {l : Launch} (hf : l.stackTraces = false) {a b n : Nat} (ha : isH a) (hb : isH b) (hab : a ≠ b) (hn : n ≤ 12) (hc : M b 2 = nI n) (hz : ∀ i, i < n → M (b + 5 + 3 * i) 8 = 0 ∨ M (b + 5 + 3 * i) 8 = 1) : V_X3_copyFrom l [.ref a, .ref b] (hp M r) (VR none (hp (hcp M a b n) r)) := by
  have hap := isH_apart ha hb hab
  have nab : ¬ b = a := fun e => hab e.symm
  refine VM.intro (lf := L9 (some (.ref a)) (some (.ref b)) none none none none none none none) (by decide +kernel) hf (fun _ => (Nat.le_of_ble_eq_true rfl)) (fun _ => rfl) ?_
  refine R_aload_n dX3_copyFrom_0 rfl rfl ?_
  refine R_aload_n dX3_copyFrom_1 rfl rfl ?_
  refine G_get cok3 2 wf_X3_22 dX3_copyFrom_2 (by first | exact hs0 ha | exact hs0 hb) ⟨(Nat.le_of_ble_eq_true rfl), (Nat.le_of_ble_eq_true rfl)⟩ rfl ?_
  refine G_put cok3 2 wf_X3_22 dX3_copyFrom_5 (by first | exact hs0 ha | exact hs0 hb) rfl ⟨(Nat.le_of_ble_eq_true rfl), rfl, (Nat.le_of_ble_eq_true rfl)⟩ ⟨rfl, rfl⟩ ?_
  refine R_aload_n dX3_copyFrom_8 rfl rfl ?_
  refine R_aload_n dX3_copyFrom_9 rfl rfl ?_
  refine G_get cok3 3 wf_X3_26 dX3_copyFrom_10 (by first | exact hs0 ha | exact hs0 hb) ⟨(Nat.le_of_ble_eq_true rfl), (Nat.le_of_ble_eq_true rfl)⟩ rfl ?_
  refine G_put cok3 3 wf_X3_26 dX3_copyFrom_13 (by first | exact hs0 ha | exact hs0 hb) rfl ⟨(Nat.le_of_ble_eq_true rfl), rfl, (Nat.le_of_ble_eq_true rfl)⟩ ⟨rfl, rfl⟩ ?_
  refine R_aload_n dX3_copyFrom_16 rfl rfl ?_
  refine R_aload_n dX3_copyFrom_17 rfl rfl ?_
  refine G_get cok3 4 wf_X3_29 dX3_copyFrom_18 (by first | exact hs0 ha | exact hs0 hb) ⟨(Nat.le_of_ble_eq_true rfl), (Nat.le_of_ble_eq_true rfl)⟩ rfl ?_
  refine G_put cok3 4 wf_X3_29 dX3_copyFrom_21 (by first | exact hs0 ha | exact hs0 hb) rfl ⟨(Nat.le_of_ble_eq_true rfl), rfl, (Nat.le_of_ble_eq_true rfl)⟩ ⟨rfl, rfl⟩ ?_
  refine R_aload_n dX3_copyFrom_24 rfl rfl ?_
  refine R_aload_n dX3_copyFrom_25 rfl rfl ?_
  refine G_get cok3 5 wf_X3_32 dX3_copyFrom_26 (by first | exact hs0 ha | exact hs0 hb) ⟨(Nat.le_of_ble_eq_true rfl), (Nat.le_of_ble_eq_true rfl)⟩ rfl ?_
  refine G_put cok3 5 wf_X3_32 dX3_copyFrom_29 (by first | exact hs0 ha | exact hs0 hb) rfl ⟨(Nat.le_of_ble_eq_true rfl), rfl, (Nat.le_of_ble_eq_true rfl)⟩ ⟨rfl, rfl⟩ ?_
  refine R_aload_n dX3_copyFrom_32 rfl rfl ?_
  refine R_aload_n dX3_copyFrom_33 rfl rfl ?_
  refine G_get cok3 6 wf_X3_35 dX3_copyFrom_34 (by first | exact hs0 ha | exact hs0 hb) ⟨(Nat.le_of_ble_eq_true rfl), (Nat.le_of_ble_eq_true rfl)⟩ rfl ?_
  refine G_put cok3 6 wf_X3_35 dX3_copyFrom_37 (by first | exact hs0 ha | exact hs0 hb) rfl ⟨(Nat.le_of_ble_eq_true rfl), rfl, (Nat.le_of_ble_eq_true rfl)⟩ ⟨rfl, rfl⟩ ?_
  refine R_aload_n dX3_copyFrom_40 rfl rfl ?_
  refine R_aload_n dX3_copyFrom_41 rfl rfl ?_
  refine G_get cok3 7 wf_X3_38 dX3_copyFrom_42 (by first | exact hs0 ha | exact hs0 hb) ⟨(Nat.le_of_ble_eq_true rfl), (Nat.le_of_ble_eq_true rfl)⟩ rfl ?_
  refine G_put cok3 7 wf_X3_38 dX3_copyFrom_45 (by first | exact hs0 ha | exact hs0 hb) rfl ⟨(Nat.le_of_ble_eq_true rfl), rfl, (Nat.le_of_ble_eq_true rfl)⟩ ⟨rfl, rfl⟩ ?_
  refine R_aload_n dX3_copyFrom_48 rfl rfl ?_
  refine R_aload_n dX3_copyFrom_49 rfl rfl ?_
  refine G_get cok3 8 wf_X3_41 dX3_copyFrom_50 (by first | exact hs0 ha | exact hs0 hb) ⟨(Nat.le_of_ble_eq_true rfl), (Nat.le_of_ble_eq_true rfl)⟩ rfl ?_
  refine G_put cok3 8 wf_X3_41 dX3_copyFrom_53 (by first | exact hs0 ha | exact hs0 hb) rfl ⟨(Nat.le_of_ble_eq_true rfl), rfl, (Nat.le_of_ble_eq_true rfl)⟩ ⟨rfl, rfl⟩ ?_
  refine R_aload_n dX3_copyFrom_56 rfl rfl ?_
  refine R_aload_n dX3_copyFrom_57 rfl rfl ?_
  refine G_get cok3 9 wf_X3_44 dX3_copyFrom_58 (by first | exact hs0 ha | exact hs0 hb) ⟨(Nat.le_of_ble_eq_true rfl), (Nat.le_of_ble_eq_true rfl)⟩ rfl ?_
  refine G_put cok3 9 wf_X3_44 dX3_copyFrom_61 (by first | exact hs0 ha | exact hs0 hb) rfl ⟨(Nat.le_of_ble_eq_true rfl), rfl, (Nat.le_of_ble_eq_true rfl)⟩ ⟨rfl, rfl⟩ ?_
  refine R_iconst (v := 0) dX3_copyFrom_64 (by decide) ?_
  refine R_istore_n dX3_copyFrom_65 rfl (by decide) (st2 rfl) ?_
  refine R_memE (M' := hcp M a b 0) ?_ (L_X3_copyFrom hf ha hb hab hn hc hz n 0 (by omega))
  show _ = hcp0 M a b
  funext x k
  by_cases hx : x = a
  · subst hx
    match k with
    | 0 => simp [hcp0, mst, nab]
    | 1 => simp [hcp0, mst, nab]
    | 2 => simp [hcp0, mst, nab]
    | 3 => simp [hcp0, mst, nab]
    | 4 => simp [hcp0, mst, nab]
    | 5 => simp [hcp0, mst, nab]
    | 6 => simp [hcp0, mst, nab]
    | 7 => simp [hcp0, mst, nab]
    | 8 => simp [hcp0, mst, nab]
    | 9 => simp [hcp0, mst, nab]
    | k + 10 => simp [hcp0, mst] <;> omega
  · simp [hcp0, mst, hx]
theorem L_X3_removeFish {l : Launch} (hf : l.stackTraces = false) {b n k : Nat} (hb : isH b) (hk : k < n) (hn : n ≤ 12) (hc : M b 2 = nI n) (hz : ∀ i, i < n → M (b + 5 + 3 * i) 8 = 0 ∨ M (b + 5 + 3 * i) 8 = 1) : ∀ (j i : Nat), i + j = n - 1 - k → Q_X3_removeFish l (VR none (hp (hrm M b k (n - 1 - k)) r)) 12 (L9 (some (.ref b)) (some (.int (nI k))) (some (.int (nI (k + i)))) none none none none none none) [] (hp (hrm M b k i) r) := by
  intro j
  induction j with
  | zero =>
    intro i hi
    have hin : n - 1 - k = i := by omega
    subst hin
    have hb0 := hs0 hb
    have hc9 : hrm M b k (n - 1 - k) b 2 = nI (n - 1) := by rw [hrm_fr _ (by omega), mst_eq, hc, show n = (n - 1) + 1 by omega, nI_pred]; rfl
    refine R_iload_n dX3_removeFish_12 rfl rfl ?_
    refine R_aload_n dX3_removeFish_13 rfl rfl ?_
    refine G_get cok3 2 wf_X3_22 dX3_removeFish_14 (by first | assumption | exact hsf hb (by omega)) ⟨(Nat.le_of_ble_eq_true rfl), (Nat.le_of_ble_eq_true rfl)⟩ rfl ?_
    refine R_icmp_ge_t (tgt := 41) dX3_removeFish_17 rfl (by rw [hc9]; exact nI_le (by omega) (by omega)) ?_
    refine R_vret dX3_removeFish_41 (Nat.le_of_ble_eq_true rfl) (Nat.le_of_ble_eq_true rfl) ?_
    exact ⟨rfl, rfl⟩
  | succ j ih =>
    intro i hi
    have hi1 : i < n - 1 - k := by omega
    have hb0 := hs0 hb
    have hc9 : hrm M b k i b 2 = nI (n - 1) := by rw [hrm_fr i (by omega), mst_eq, hc, show n = (n - 1) + 1 by omega, nI_pred]; rfl
    refine R_iload_n dX3_removeFish_12 rfl rfl ?_
    refine R_aload_n dX3_removeFish_13 rfl rfl ?_
    refine G_get cok3 2 wf_X3_22 dX3_removeFish_14 (by first | assumption | exact hsf hb (by omega)) ⟨(Nat.le_of_ble_eq_true rfl), (Nat.le_of_ble_eq_true rfl)⟩ rfl ?_
    refine R_icmp_ge_f (tgt := 41) dX3_removeFish_17 rfl (by rw [hc9]; exact nI_ge (by omega) (by omega)) ?_
    refine R_aload_n dX3_removeFish_20 rfl rfl ?_
    refine R_iload_n dX3_removeFish_21 rfl rfl ?_
    refine G_cV1 cw_X3_47 (s_X3_fishAt hf hb (by omega)) dX3_removeFish_22 (rcv cok3 (by first | assumption | exact hsf hb (by omega)) (Nat.le_of_ble_eq_true rfl)) ⟨(Nat.le_of_ble_eq_true rfl), (Nat.le_of_ble_eq_true rfl), (Nat.le_of_ble_eq_true rfl), (Nat.le_of_ble_eq_true rfl)⟩ ?_
    refine R_aload_n dX3_removeFish_25 rfl rfl ?_
    refine R_iload_n dX3_removeFish_26 rfl rfl ?_
    refine R_iconst (v := 1) dX3_removeFish_27 (by decide) ?_
    refine R_iadd dX3_removeFish_28 ?_
    refine G_cV1 cw_X3_47 (by rw [nI_1]; exact s_X3_fishAt hf hb (k := k + i + 1) (by omega)) dX3_removeFish_29 (rcv cok3 (by first | assumption | exact hsf hb (by omega)) (Nat.le_of_ble_eq_true rfl)) ⟨(Nat.le_of_ble_eq_true rfl), (Nat.le_of_ble_eq_true rfl), (Nat.le_of_ble_eq_true rfl), (Nat.le_of_ble_eq_true rfl)⟩ ?_
    refine G_cV1v cw_X3_51 (s_X0_copyFrom hf (hsf hb (by omega)) (hsf hb (by omega)) (by omega) (by rw [hrm_fr i (by omega), mst_ne1 (by omega)]; exact hz (k + i + 1) (by omega))) dX3_removeFish_32 (rcv cok0 (by first | assumption | exact hsf hb (by omega)) (Nat.le_of_ble_eq_true rfl)) ⟨(Nat.le_of_ble_eq_true rfl), (Nat.le_of_ble_eq_true rfl), (Nat.le_of_ble_eq_true rfl), (Nat.le_of_ble_eq_true rfl)⟩ ?_
    first | refine R_iincN dX3_removeFish_35 (by decide) rfl (by decide) (st2 rfl) ?_ | refine R_iinc1 dX3_removeFish_35 (by decide) rfl (by decide) (st2 rfl) ?_
    refine R_goto (tgt := 12) dX3_removeFish_38 rfl ?_
    have h9 := ih (i + 1) (by omega)
    exact h9
theorem s_X3_removeFish {l : Launch} (hf : l.stackTraces = false) {b n k : Nat} (hb : isH b) (hk : k < n) (hn : n ≤ 12) (hc : M b 2 = nI n) (hz : ∀ i, i < n → M (b + 5 + 3 * i) 8 = 0 ∨ M (b + 5 + 3 * i) 8 = 1) : V_X3_removeFish l [.ref b, .int (nI k)] (hp M r) (VR none (hp (hrm M b k (n - 1 - k)) r)) := by
  have hb0 := hs0 hb
  have hb1 := hs1 hb
  have hb2 := hs2 hb
  refine VM.intro (lf := L9 (some (.ref b)) (some (.int (nI k))) none none none none none none none) (by decide +kernel) hf (fun _ => (Nat.le_of_ble_eq_true rfl)) (fun _ => rfl) ?_
  refine R_aload_n dX3_removeFish_0 rfl rfl ?_
  refine R_dup dX3_removeFish_1 rfl ?_
  refine G_get cok3 2 wf_X3_22 dX3_removeFish_2 (by first | assumption | exact rfl | exact hs0 hb | exact hsf hb (by omega) | exact fish1 (hsf hb (by omega)) | exact fish2 (hsf hb (by omega))) ⟨(Nat.le_of_ble_eq_true rfl), (Nat.le_of_ble_eq_true rfl)⟩ rfl ?_
  refine R_iconst (v := 1) dX3_removeFish_5 (by decide) ?_
  refine R_isub dX3_removeFish_6 ?_
  refine G_put cok3 2 wf_X3_22 dX3_removeFish_7 (by first | assumption | exact rfl | exact hs0 hb | exact hsf hb (by omega) | exact fish1 (hsf hb (by omega)) | exact fish2 (hsf hb (by omega))) rfl ⟨(Nat.le_of_ble_eq_true rfl), rfl, (Nat.le_of_ble_eq_true rfl)⟩ ⟨rfl, rfl⟩ ?_
  refine R_iload_n dX3_removeFish_10 rfl rfl ?_
  refine R_istore_n dX3_removeFish_11 rfl (by decide) (st2 rfl) ?_
  exact L_X3_removeFish hf hb hk hn hc hz (n - 1 - k) 0 (by omega)
theorem s_X3_addFish {l : Launch} (hf : l.stackTraces = false) {b n : Nat} {v : Int32} (hb : isH b) (hn : n < 12) (hc : M b 2 = nI n) : V_X3_addFish l [.ref b, .int v] (hp M r) (VR none (hp (mst (fbeg M (b + 5 + 3 * n) v) b 2 (nI (n + 1))) r)) := by
  have hb0 := hs0 hb
  have hb1 := hs1 hb
  have hb2 := hs2 hb
  refine VM.intro (lf := L9 (some (.ref b)) (some (.int v)) none none none none none none none) (by decide +kernel) hf (fun _ => (Nat.le_of_ble_eq_true rfl)) (fun _ => rfl) ?_
  refine R_aload_n dX3_addFish_0 rfl rfl ?_
  refine R_aload_n dX3_addFish_1 rfl rfl ?_
  refine G_get cok3 2 wf_X3_22 dX3_addFish_2 (by first | assumption | exact rfl | exact hs0 hb | exact hsf hb (by omega) | exact fish1 (hsf hb (by omega)) | exact fish2 (hsf hb (by omega))) ⟨(Nat.le_of_ble_eq_true rfl), (Nat.le_of_ble_eq_true rfl)⟩ rfl ?_
  refine G_cV1 cw_X3_47 (by rw [hc]; exact s_X3_fishAt hf hb (k := n) (by omega)) dX3_addFish_5 (rcv cok3 (by first | assumption | exact rfl | exact hs0 hb | exact hsf hb (by omega) | exact fish1 (hsf hb (by omega)) | exact fish2 (hsf hb (by omega))) (Nat.le_of_ble_eq_true rfl)) ⟨(Nat.le_of_ble_eq_true rfl), (Nat.le_of_ble_eq_true rfl), (Nat.le_of_ble_eq_true rfl), (Nat.le_of_ble_eq_true rfl)⟩ ?_
  refine R_iload_n dX3_addFish_8 rfl rfl ?_
  refine G_cV1v cw_X3_55 (s_X0_begin hf (hsf hb (by omega))) dX3_addFish_9 (rcv cok0 (by first | assumption | exact rfl | exact hs0 hb | exact hsf hb (by omega) | exact fish1 (hsf hb (by omega)) | exact fish2 (hsf hb (by omega))) (Nat.le_of_ble_eq_true rfl)) ⟨(Nat.le_of_ble_eq_true rfl), (Nat.le_of_ble_eq_true rfl), (Nat.le_of_ble_eq_true rfl), (Nat.le_of_ble_eq_true rfl)⟩ ?_
  refine R_aload_n dX3_addFish_12 rfl rfl ?_
  refine R_dup dX3_addFish_13 rfl ?_
  refine G_get cok3 2 wf_X3_22 dX3_addFish_14 (by first | assumption | exact rfl | exact hs0 hb | exact hsf hb (by omega) | exact fish1 (hsf hb (by omega)) | exact fish2 (hsf hb (by omega))) ⟨(Nat.le_of_ble_eq_true rfl), (Nat.le_of_ble_eq_true rfl)⟩ rfl ?_
  refine R_iconst (v := 1) dX3_addFish_17 (by decide) ?_
  refine R_iadd dX3_addFish_18 ?_
  refine G_put cok3 2 wf_X3_22 dX3_addFish_19 (by first | assumption | exact rfl | exact hs0 hb | exact hsf hb (by omega) | exact fish1 (hsf hb (by omega)) | exact fish2 (hsf hb (by omega))) rfl ⟨(Nat.le_of_ble_eq_true rfl), rfl, (Nat.le_of_ble_eq_true rfl)⟩ ⟨rfl, rfl⟩ ?_
  refine R_vret dX3_addFish_22 (Nat.le_of_ble_eq_true rfl) (Nat.le_of_ble_eq_true rfl) ?_
  refine ⟨rfl, congrArg (fun z => hp z r) ?_⟩
  have e9 : fbeg M (b + 5 + 3 * n) v b 2 = nI n := by rw [← hc]; simp [fbeg]; omega
  rw [e9, nI_1]
theorem L_X3_passHour {l : Launch} (hf : l.stackTraces = false) {b n : Nat} (hb : isH b) (hn : n ≤ 12) (hc : M b 2 = nI n) : ∀ (j i : Nat), i + j = n → Q_X3_passHour l (VR none (hp (hour M b n) r)) 2 (L9 (some (.ref b)) (some (.int (nI i))) none none none none none none none) [] (hp (hrF M b n i) r) := by
  intro j
  induction j with
  | zero =>
    intro i hi
    have hin : n = i := by omega
    subst hin
    have hb0 := hs0 hb
    have hc9 : hrF M b n n b 2 = nI n := by rw [hrF_fr n (by omega), hc]
    have e3 : hrF M b n n b 3 = M b 3 := by rw [hrF_fr n (by omega)]
    have e5 : hrF M b n n b 5 = M b 5 := by rw [hrF_fr n (by omega)]
    refine R_iload_n dX3_passHour_2 rfl rfl ?_
    refine R_aload_n dX3_passHour_3 rfl rfl ?_
    refine G_get cok3 2 wf_X3_22 dX3_passHour_4 (by first | assumption | exact rfl | exact hs0 hb | exact hsf hb (by omega) | exact fish1 (hsf hb (by omega)) | exact fish2 (hsf hb (by omega))) ⟨(Nat.le_of_ble_eq_true rfl), (Nat.le_of_ble_eq_true rfl)⟩ rfl ?_
    refine R_icmp_ge_t (tgt := 34) dX3_passHour_7 rfl (by rw [hc9]; exact nI_le (by omega) (by omega)) ?_
    refine R_aload_n dX3_passHour_34 rfl rfl ?_
    refine R_iconst (v := 0) dX3_passHour_35 (by decide) ?_
    refine R_aload_n dX3_passHour_36 rfl rfl ?_
    refine G_get cok3 3 wf_X3_26 dX3_passHour_37 (by first | assumption | exact rfl | exact hs0 hb | exact hsf hb (by omega) | exact fish1 (hsf hb (by omega)) | exact fish2 (hsf hb (by omega))) ⟨(Nat.le_of_ble_eq_true rfl), (Nat.le_of_ble_eq_true rfl)⟩ rfl ?_
    refine R_iconst (v := 1) dX3_passHour_40 (by decide) ?_
    refine R_isub dX3_passHour_41 ?_
    refine R_max wm_X3_132 wm_max dX3_passHour_42 (Nat.le_of_ble_eq_true rfl) (Nat.le_of_ble_eq_true rfl) (Nat.le_of_ble_eq_true rfl) (Nat.le_of_ble_eq_true rfl) ?_
    refine G_put cok3 3 wf_X3_26 dX3_passHour_45 (by first | assumption | exact rfl | exact hs0 hb | exact hsf hb (by omega) | exact fish1 (hsf hb (by omega)) | exact fish2 (hsf hb (by omega))) rfl ⟨(Nat.le_of_ble_eq_true rfl), rfl, (Nat.le_of_ble_eq_true rfl)⟩ ⟨rfl, rfl⟩ ?_
    refine R_aload_n dX3_passHour_48 rfl rfl ?_
    refine R_dup dX3_passHour_49 rfl ?_
    refine G_get cok3 5 wf_X3_32 dX3_passHour_50 (by first | assumption | exact rfl | exact hs0 hb | exact hsf hb (by omega) | exact fish1 (hsf hb (by omega)) | exact fish2 (hsf hb (by omega))) ⟨(Nat.le_of_ble_eq_true rfl), (Nat.le_of_ble_eq_true rfl)⟩ rfl ?_
    refine R_iconst (v := 1) dX3_passHour_53 (by decide) ?_
    refine R_iadd dX3_passHour_54 ?_
    refine G_put cok3 5 wf_X3_32 dX3_passHour_55 (by first | assumption | exact rfl | exact hs0 hb | exact hsf hb (by omega) | exact fish1 (hsf hb (by omega)) | exact fish2 (hsf hb (by omega))) rfl ⟨(Nat.le_of_ble_eq_true rfl), rfl, (Nat.le_of_ble_eq_true rfl)⟩ ⟨rfl, rfl⟩ ?_
    refine R_vret dX3_passHour_58 (Nat.le_of_ble_eq_true rfl) (Nat.le_of_ble_eq_true rfl) ?_
    refine ⟨rfl, congrArg (fun z => hp z r) ?_⟩
    simp only [hour, mst_ne2 (show (5 : Nat) ≠ 3 by decide), e3, e5]
    rfl
  | succ j ih =>
    intro i hi
    have hi1 : i < n := by omega
    have hb0 := hs0 hb
    have hc9 : hrF M b n i b 2 = nI n := by rw [hrF_fr i (by omega), hc]
    refine R_iload_n dX3_passHour_2 rfl rfl ?_
    refine R_aload_n dX3_passHour_3 rfl rfl ?_
    refine G_get cok3 2 wf_X3_22 dX3_passHour_4 (by first | assumption | exact rfl | exact hs0 hb | exact hsf hb (by omega) | exact fish1 (hsf hb (by omega)) | exact fish2 (hsf hb (by omega))) ⟨(Nat.le_of_ble_eq_true rfl), (Nat.le_of_ble_eq_true rfl)⟩ rfl ?_
    refine R_icmp_ge_f (tgt := 34) dX3_passHour_7 rfl (by rw [hc9]; exact nI_ge (by omega) (by omega)) ?_
    refine R_aload_n dX3_passHour_10 rfl rfl ?_
    refine R_aload_n dX3_passHour_11 rfl rfl ?_
    refine R_iload_n dX3_passHour_12 rfl rfl ?_
    refine G_cV1 cw_X3_47 (s_X3_fishAt hf hb (by omega)) dX3_passHour_13 (rcv cok3 (by first | assumption | exact rfl | exact hs0 hb | exact hsf hb (by omega) | exact fish1 (hsf hb (by omega)) | exact fish2 (hsf hb (by omega))) (Nat.le_of_ble_eq_true rfl)) ⟨(Nat.le_of_ble_eq_true rfl), (Nat.le_of_ble_eq_true rfl), (Nat.le_of_ble_eq_true rfl), (Nat.le_of_ble_eq_true rfl)⟩ ?_
    refine R_aload_n dX3_passHour_16 rfl rfl ?_
    refine G_get cok3 3 wf_X3_26 dX3_passHour_17 (by first | assumption | exact rfl | exact hs0 hb | exact hsf hb (by omega) | exact fish1 (hsf hb (by omega)) | exact fish2 (hsf hb (by omega))) ⟨(Nat.le_of_ble_eq_true rfl), (Nat.le_of_ble_eq_true rfl)⟩ rfl ?_
    refine R_aload_n dX3_passHour_20 rfl rfl ?_
    refine R_iload_n dX3_passHour_21 rfl rfl ?_
    refine G_cV1 cw_X3_124 (s_X3_hangsTooNear hf hb hn hc9 hi1) dX3_passHour_22 (rcv cok3 (by first | assumption | exact rfl | exact hs0 hb | exact hsf hb (by omega) | exact fish1 (hsf hb (by omega)) | exact fish2 (hsf hb (by omega))) (Nat.le_of_ble_eq_true rfl)) ⟨(Nat.le_of_ble_eq_true rfl), (Nat.le_of_ble_eq_true rfl), (Nat.le_of_ble_eq_true rfl), (Nat.le_of_ble_eq_true rfl)⟩ ?_
    refine G_cV3v cw_X3_128 (s_X3_smokeOne hf hb (hsf hb (by omega))) dX3_passHour_25 (rcv cok3 (by first | assumption | exact rfl | exact hs0 hb | exact hsf hb (by omega) | exact fish1 (hsf hb (by omega)) | exact fish2 (hsf hb (by omega))) (Nat.le_of_ble_eq_true rfl)) ⟨(Nat.le_of_ble_eq_true rfl), (Nat.le_of_ble_eq_true rfl), (Nat.le_of_ble_eq_true rfl), (Nat.le_of_ble_eq_true rfl)⟩ ?_
    first | refine R_iincN dX3_passHour_28 (by decide) rfl (by decide) (st1 rfl) ?_ | refine R_iinc1 dX3_passHour_28 (by decide) rfl (by decide) (st1 rfl) ?_
    refine R_goto (tgt := 2) dX3_passHour_31 rfl ?_
    have h9 := ih (i + 1) (by omega)
    exact h9
theorem s_X3_passHour {l : Launch} (hf : l.stackTraces = false) {b n : Nat} (hb : isH b) (hn : n ≤ 12) (hc : M b 2 = nI n) : V_X3_passHour l [.ref b] (hp M r) (VR none (hp (hour M b n) r)) := by
  refine VM.intro (lf := L9 (some (.ref b)) none none none none none none none none) (by decide +kernel) hf (fun _ => (Nat.le_of_ble_eq_true rfl)) (fun _ => rfl) ?_
  refine R_iconst (v := 0) dX3_passHour_0 (by decide) ?_
  refine R_istore_n dX3_passHour_1 rfl (by decide) (st1 rfl) ?_
  exact L_X3_passHour hf hb hn hc n 0 (by omega)
end P12
