theorem rfM_fr {M : MM} {u v : Int32} {x y : Nat} (h : x ≠ 464 ∨ (y ≠ 9 ∧ y ≠ 10 ∧ y ≠ 11 ∧ y ≠ 12)) : rfM M u v x y = M x y := (mst_ne (by omega)).trans ((mst_ne (by omega)).trans ((mst_ne (by omega)).trans (mst_ne (by omega))))
theorem clR_fr {M : MM} {p j x y : Nat} (h : x ≠ 465) : clR M p j x y = M x y := if_neg (fun z => h z.1)
theorem gsR_fr {M : MM} {p j x y : Nat} (h : x ≠ 465) : gsR M p j x y = M x y := if_neg (fun z => h z.1)
theorem rTuX_fr {M : MM} {k x y : Nat} (h : x ≠ 465) : rTu M k x y = M x y := (mst_ne1 h).trans (mst_ne1 h)
theorem rGo_fr {M : MM} {k n x y : Nat} (h : x ≠ 465) : rGo M k n x y = M x y := (clR_fr h).trans ((gsR_fr h).trans (mst_ne1 h))
theorem oF_kp {M : MM} {c k w : Nat} : oF (kpR M 465 c) k w = oF M k w := kpR_fr (by decide) (Or.inl (by decide))
theorem dwn_kp {M : MM} {c n : Nat} (h : dwn M n) : dwn (kpR M 465 c) n := fun k hk => by
  obtain ⟨d, h1, h2⟩ := h k hk
  exact ⟨d, h1, oF_kp.trans h2⟩
/-- what a command leaves alone -/
def frA (x y : Nat) : Prop := x ≠ 465 ∧ x ≠ 466 ∧ (x ≠ 464 ∨ (y ≠ 6 ∧ y ≠ 9 ∧ y ≠ 10 ∧ y ≠ 11 ∧ y ≠ 12))
theorem frA_1 {M : MM} {u v : Int32} {x y : Nat} (h : frA x y) : rfM M u v x y = M x y := rfM_fr (by have := h.2.2; omega)
theorem frA_2 {M : MM} {c x y : Nat} (h : frA x y) : kpR M 465 c x y = M x y := kpR_fr h.2.1 (by have := h.2.2; omega)
theorem tFis_fr {M : MM} {n c x y : Nat} {v : Int32} (h : frA x y) : (tFis M n c v).2 x y = M x y := by
  unfold tFis
  repeat' split
  · exact frA_1 h
  · exact frA_1 h
  · exact (mst_ne1 h.1).trans ((mst_ne1 h.1).trans ((mst_ne1 h.1).trans ((clR_fr h.1).trans ((mst_ne1 h.1).trans (frA_2 h)))))
theorem tBri_fr {M : MM} {n c x y : Nat} {v : Int32} (h : frA x y) : (tBri M n c v).2 x y = M x y := by
  unfold tBri
  repeat' split
  · exact frA_1 h
  · exact frA_1 h
  · exact (mst_ne1 h.1).trans (frA_2 h)
theorem tOut_fr {M : MM} {n c x y : Nat} {v : Int32} (h : frA x y) : (tOut M n c v).2 x y = M x y := by
  unfold tOut
  repeat' split
  · exact frA_1 h
  · exact frA_1 h
  · exact (mst_ne1 h.1).trans ((mst_ne1 h.1).trans ((mst_ne1 h.1).trans ((mst_ne1 h.1).trans (frA_2 h))))
theorem tHan_fr {M : MM} {n c x y : Nat} {v p q : Int32} (h : frA x y) : (tHan M n c v p q).2 x y = M x y := by
  unfold tHan
  repeat' split
  · exact frA_1 h
  · exact frA_1 h
  · exact frA_1 h
  · exact (mst_ne1 h.1).trans ((mst_ne1 h.1).trans ((mst_ne1 h.1).trans (frA_2 h)))
  · exact frA_1 h
theorem tTur_fr {M : MM} {n c x y : Nat} {v : Int32} (h : frA x y) : (tTur M n c v).2 x y = M x y := by
  unfold tTur
  repeat' split
  · exact frA_1 h
  · exact frA_1 h
  · exact (rTuX_fr h.1).trans (frA_2 h)
theorem tTrk_fr {M : MM} {n c x y : Nat} {v : Int32} (h : frA x y) : (tTrk M n c v).2 x y = M x y := by
  unfold tTrk
  repeat' split
  · exact frA_1 h
  · exact frA_1 h
  · exact (raR_fr (Or.inl h.1) n).trans (frA_2 h)
theorem tLog_fr {M : MM} {n c x y : Nat} {v : Int32} (h : frA x y) : (tLog M n c v).2 x y = M x y := by
  unfold tLog
  repeat' split
  · exact frA_1 h
  · exact frA_1 h
  · exact (mst_ne1 h.1).trans (frA_2 h)
theorem tWoo_fr {M : MM} {n c x y : Nat} {v : Int32} (h : frA x y) : (tWoo M n c v).2 x y = M x y := by
  unfold tWoo
  repeat' split
  · exact frA_1 h
  · exact frA_1 h
  · exact (mst_ne1 h.1).trans (frA_2 h)
theorem tDay_fr {M : MM} {n c x y : Nat} (h : frA x y) : (tDay M n c).2 x y = M x y := by
  unfold tDay
  repeat' split
  · exact frA_1 h
  · exact (mst_ne1 h.1).trans ((dyR_fr (Or.inl h.1) n).trans (frA_2 h))
theorem tHrs_fr {M : MM} {n c x y : Nat} {v : Int32} (hd : dwn M n) (h : frA x y) : (tHrs M n c v).2 x y = M x y := by
  unfold tHrs
  repeat' split
  · exact frA_1 h
  · exact ((hsR_ok (dwn_kp hd) _).2 x y (Or.inl h.1)).trans (frA_2 h)
theorem tSel_fr {M : MM} {n c x y : Nat} {v : Int32} (h : frA x y) : (tSel M n c v).2 x y = M x y := by
  unfold tSel
  repeat' split
  · exact frA_1 h
  · exact frA_1 h
  · exact frA_1 h
  · exact (mst_ne1 h.1).trans ((mst_ne1 h.1).trans ((rGo_fr h.1).trans (frA_2 h)))
theorem tThr_fr {M : MM} {n c x y : Nat} {v : Int32} (h : frA x y) : (tThr M n c v).2 x y = M x y := by
  unfold tThr
  repeat' split
  · exact frA_1 h
  · exact (mst_ne1 h.1).trans ((rGo_fr h.1).trans (frA_2 h))
theorem tCar_fr {M : MM} {n c q x y : Nat} (hd : dwn M n) (h : frA x y) : (tCar M n c q).2 x y = M x y := by
  unfold tCar
  repeat' split
  · exact tTrk_fr h
  · exact tBri_fr h
  · exact tDay_fr h
  · exact tFis_fr h
  · exact tHan_fr h
  · exact tLog_fr h
  · exact tHrs_fr hd h
  · exact tOut_fr h
  · exact tSel_fr h
  · exact tTur_fr h
  · exact tWoo_fr h
  · exact tThr_fr h
theorem txR_fr {t : Nat → Int32} {L a k : Nat} (h1 : a ≠ 472) (h2 : a ≠ 464 ∨ (k ≠ 18 ∧ k ≠ 20)) : ∀ (j n p : Nat) (M : MM), (txR t L j n p M).2.2 a k = M a k
  | 0, _, _, _ => rfl
  | j + 1, n, p, M => by
    have hc : (chR t M L p (4 * n)).2.2 a k = M a k := chR_fr h1 (by omega)
    unfold txR
    split
    · exact hc
    · split
      · exact (txR_fr h1 h2 j _ _ _).trans ((mst_ne (by omega)).trans ((mst_ne (by omega)).trans hc))
      · exact (mst_ne (by omega)).trans hc
theorem txR_20 {t : Nat → Int32} {L : Nat} : ∀ (j n p : Nat) (M : MM), n + j = 31 → (txR t L j n p M).1 = true → ∃ m, m ≤ 31 ∧ (txR t L j n p M).2.2 464 20 = nI m
  | 0, _, _, _, _, h => by cases h
  | j + 1, n, p, M, hn, h => by
    unfold txR at h ⊢
    split at h
    · cases h
    · rename_i h1
      rw [if_neg h1]
      split at h
      · rename_i h2
        rw [if_pos h2]
        exact txR_20 j (n + 1) _ _ (by omega) h
      · rename_i h2
        rw [if_neg h2]
        exact ⟨n + 1, by omega, (mst_eq _ _ _ _ : mst (chR t M L p (4 * n)).2.2 464 20 (nI (n + 1)) 464 20 = nI (n + 1))⟩
/-- a command of the text, carried out -/
def rcS (M : MM) (i : Nat) : Int32 × MM := tCar M (M 465 0).toNatClampNeg (M 464 6).toNatClampNeg (4 * i)
def rcL : Nat → Nat → Int32 × MM → Int32 × MM
  | 0, _, s => s
  | j + 1, i, s => if (rcS s.2 i).2 464 9 = 0 then rcL j (i + 1) ((rcS s.2 i).1, mst (rcS s.2 i).2 464 8 (nI (i + 1))) else rcS s.2 i
def rcE (s : Int32 × MM) (tm : Nat) : Int32 × MM := if 0 < s.2 464 9 then (if 0 < s.1 then 0 else s.1, mst (cpR (mst s.2 464 7 0) 468 0 465 0 140) 464 9 2) else (nI tm, kpR (mst s.2 464 7 0) 468 (s.2 464 6).toNatClampNeg)
def rcX (t : Nat → Int32) (L : Nat) (M : MM) : Bool × Nat × MM := txR t L 31 0 0 (mst (mst M 464 18 0) 464 20 0)
def rcB (t : Nat → Int32) (L : Nat) (M : MM) : MM := mst (mst (cpR (mst (mst (mst (rcX t L M).2.2 464 15 (-1)) 464 14 0) 464 9 0) 465 0 468 0 140) 464 7 1) 464 8 0
def rcZ (t : Nat → Int32) (L : Nat) (M : MM) : Int32 × MM := if zb (rcX t L M).1 = 0 then (0, mst (mst (mst (rcX t L M).2.2 464 15 ((rcX t L M).2.2 464 18)) 464 14 0) 464 9 1) else rcE (rcL ((rcX t L M).2.2 464 20).toNatClampNeg 0 (0, rcB t L M)) ((rcX t L M).2.2 464 20).toNatClampNeg
section P36
variable {M : MM} {r : MR}
theorem E_X10_commands {l : Launch} (hf : l.stackTraces = false) {tm c : Nat} {x b : Int32} (hc : c ≤ 8) (h6 : M 464 6 = nI c) (h20 : M 464 20 = nI tm) : Q_X10_commands l (VI (rcE (x, M) tm).1 (hp (rcE (x, M) tm).2 r)) 118 (L9 (some (.ref 464)) (some (.int b)) (some (.int x)) none none none none none none) [] (hp M r) := by
  have e6 : (M 464 6).toNatClampNeg = c := by rw [h6]; exact nI_cl (by omega)
  refine R_aload_n dX10_commands_118 rfl rfl ?_
  refine R_iconst (v := 0) dX10_commands_119 (by decide) ?_
  refine G_put cok10 7 wf_X10_48 dX10_commands_120 (by first | exact rfl | assumption) rfl ⟨(Nat.le_of_ble_eq_true rfl), rfl, (Nat.le_of_ble_eq_true rfl)⟩ ⟨rfl, rfl⟩ ?_
  refine R_aload_n dX10_commands_123 rfl rfl ?_
  refine G_get cok10 9 wf_X10_39 dX10_commands_124 (by first | exact rfl | assumption) ⟨(Nat.le_of_ble_eq_true rfl), (Nat.le_of_ble_eq_true rfl)⟩ rfl ?_
  refine R_topE (show (mst M 464 7 0) 464 9 = M 464 9 from rfl) ?_
  refine R_if_leN (tgt := 158) dX10_commands_127 rfl (fun c1 => ?_) (fun c1 => ?_)
  · refine R_aload_n dX10_commands_158 rfl rfl ?_
    refine R_aload_n dX10_commands_159 rfl rfl ?_
    refine G_get cok10 3 wf_X10_19 dX10_commands_160 (by first | exact rfl | assumption) ⟨(Nat.le_of_ble_eq_true rfl), (Nat.le_of_ble_eq_true rfl)⟩ rfl ?_
    refine G_cV1v cw_X10_117 (s_X10_keeps hf (a := 468) (c := c) rfl rfl (by decide) hc ((mst_ne2 (by decide)).trans h6)) dX10_commands_163 (rcv cok10 (by first | exact rfl | assumption) (Nat.le_of_ble_eq_true rfl)) ⟨(Nat.le_of_ble_eq_true rfl), (Nat.le_of_ble_eq_true rfl), (Nat.le_of_ble_eq_true rfl), (Nat.le_of_ble_eq_true rfl)⟩ ?_
    refine R_aload_n dX10_commands_166 rfl rfl ?_
    refine G_get cok10 20 wf_X10_180 dX10_commands_167 (by first | exact rfl | assumption) ⟨(Nat.le_of_ble_eq_true rfl), (Nat.le_of_ble_eq_true rfl)⟩ rfl ?_
    refine R_topE (show kpR (mst M 464 7 0) 468 c 464 20 = nI tm from (kpR_fr (by decide) (Or.inr ⟨by decide, by decide⟩)).trans ((mst_ne2 (by decide)).trans h20)) ?_
    refine R_iret dX10_commands_170 rfl (Nat.le_of_ble_eq_true rfl) (Nat.le_of_ble_eq_true rfl) ?_
    unfold rcE; dsimp only; rw [if_neg c1, e6]
    exact ⟨rfl, rfl⟩
  · refine R_aload_n dX10_commands_130 rfl rfl ?_
    refine G_get cok10 3 wf_X10_19 dX10_commands_131 (by first | exact rfl | assumption) ⟨(Nat.le_of_ble_eq_true rfl), (Nat.le_of_ble_eq_true rfl)⟩ rfl ?_
    refine R_iconst (v := 0) dX10_commands_134 (by decide) ?_
    refine R_aload_n dX10_commands_135 rfl rfl ?_
    refine G_get cok10 0 wf_X10_7 dX10_commands_136 (by first | exact rfl | assumption) ⟨(Nat.le_of_ble_eq_true rfl), (Nat.le_of_ble_eq_true rfl)⟩ rfl ?_
    refine R_iconst (v := 0) dX10_commands_139 (by decide) ?_
    refine G_cS4v cw_X10_61 (s_X10_copies hf (a := 468) (c := 465) (p := 0) (q := 0) rfl rfl (by decide) (by decide) (by decide) (by decide) (by decide)) dX10_commands_140 ⟨(Nat.le_of_ble_eq_true rfl), (Nat.le_of_ble_eq_true rfl), (Nat.le_of_ble_eq_true rfl), (Nat.le_of_ble_eq_true rfl)⟩ ?_
    refine R_aload_n dX10_commands_143 rfl rfl ?_
    refine R_iconst (v := 2) dX10_commands_144 (by decide) ?_
    refine G_put cok10 9 wf_X10_39 dX10_commands_145 (by first | exact rfl | assumption) rfl ⟨(Nat.le_of_ble_eq_true rfl), rfl, (Nat.le_of_ble_eq_true rfl)⟩ ⟨rfl, rfl⟩ ?_
    refine R_iload_n dX10_commands_148 rfl rfl ?_
    refine R_if_leN (tgt := 156) dX10_commands_149 rfl (fun c2 => ?_) (fun c2 => ?_)
    · refine R_iload_n dX10_commands_156 rfl rfl ?_
      refine R_iret dX10_commands_157 rfl (Nat.le_of_ble_eq_true rfl) (Nat.le_of_ble_eq_true rfl) ?_
      unfold rcE; dsimp only; rw [if_pos c1, if_neg c2]
      exact ⟨rfl, rfl⟩
    · refine R_iconst (v := 0) dX10_commands_152 (by decide) ?_
      refine R_goto (tgt := 157) dX10_commands_153 rfl ?_
      refine R_iret dX10_commands_157 rfl (Nat.le_of_ble_eq_true rfl) (Nat.le_of_ble_eq_true rfl) ?_
      unfold rcE; dsimp only; rw [if_pos c1, if_pos c2]
      exact ⟨rfl, rfl⟩
theorem L_X10_commands {l : Launch} (hf : l.stackTraces = false) {tm : Nat} {b : Int32} {J : MM → Prop} (hJ : ∀ M, J M → ∃ n c, n ≤ 12 ∧ M 465 0 = nI n ∧ c ≤ 8 ∧ M 464 6 = nI c ∧ dwn M n) (hS : ∀ M v, J M → J (mst M 464 8 v)) (hW : ∀ M n c q, J M → n ≤ 12 → M 465 0 = nI n → c ≤ 8 → M 464 6 = nI c → q + 3 < 128 → J (tCar M n c q).2) (htm : tm ≤ 31) :
    ∀ (j i : Nat) (x : Int32) (M : MM), i + j = tm → J M → M 464 20 = nI tm → M 464 8 = nI i → M 464 9 = 0 → Q_X10_commands l (VI (rcE (rcL j i (x, M)) tm).1 (hp (rcE (rcL j i (x, M)) tm).2 r)) 69 (L9 (some (.ref 464)) (some (.int b)) (some (.int x)) none none none none none none) [] (hp M r) := by
  intro j
  induction j with
  | zero =>
    intro i x M hij hj h20 h8 h9
    obtain rfl : i = tm := by omega
    obtain ⟨n, c, hn, hg, hc, h6, hd⟩ := hJ M hj
    refine R_aload_n dX10_commands_69 rfl rfl ?_
    refine G_get cok10 8 wf_X10_52 dX10_commands_70 (by first | exact rfl | assumption) ⟨(Nat.le_of_ble_eq_true rfl), (Nat.le_of_ble_eq_true rfl)⟩ rfl ?_
    refine R_aload_n dX10_commands_73 rfl rfl ?_
    refine G_get cok10 20 wf_X10_180 dX10_commands_74 (by first | exact rfl | assumption) ⟨(Nat.le_of_ble_eq_true rfl), (Nat.le_of_ble_eq_true rfl)⟩ rfl ?_
    refine R_icmp_ge_t (tgt := 118) dX10_commands_77 rfl (by rw [h8, h20]; exact nI_le (by omega) (by omega)) ?_
    exact E_X10_commands hf hc h6 h20
  | succ j ih =>
    intro i x M hij hj h20 h8 h9
    obtain ⟨n, c, hn, hg, hc, h6, hd⟩ := hJ M hj
    have ec : (M 464 6).toNatClampNeg = c := by rw [h6]; exact nI_cl (by omega)
    have en : (M 465 0).toNatClampNeg = n := by rw [hg]; exact nI_cl (by omega)
    have es : rcS M i = tCar M n c (4 * i) := by rw [rcS, ec, en]
    have hj2 := hW M n c (4 * i) hj hn hg hc h6 (by omega)
    have f20 : (tCar M n c (4 * i)).2 464 20 = nI tm := (tCar_fr hd ⟨by decide, by decide, by omega⟩).trans h20
    have f8 : (tCar M n c (4 * i)).2 464 8 = nI i := (tCar_fr hd ⟨by decide, by decide, by omega⟩).trans h8
    obtain ⟨n2, c2, hn2, hg2, hc2, h62, hd2⟩ := hJ _ hj2
    refine R_aload_n dX10_commands_69 rfl rfl ?_
    refine G_get cok10 8 wf_X10_52 dX10_commands_70 (by first | exact rfl | assumption) ⟨(Nat.le_of_ble_eq_true rfl), (Nat.le_of_ble_eq_true rfl)⟩ rfl ?_
    refine R_aload_n dX10_commands_73 rfl rfl ?_
    refine G_get cok10 20 wf_X10_180 dX10_commands_74 (by first | exact rfl | assumption) ⟨(Nat.le_of_ble_eq_true rfl), (Nat.le_of_ble_eq_true rfl)⟩ rfl ?_
    refine R_icmp_ge_f (tgt := 118) dX10_commands_77 rfl (by rw [h8, h20]; exact nI_ge (by omega) (by omega)) ?_
    refine R_aload_n dX10_commands_80 rfl rfl ?_
    refine G_get cok10 9 wf_X10_39 dX10_commands_81 (by first | exact rfl | assumption) ⟨(Nat.le_of_ble_eq_true rfl), (Nat.le_of_ble_eq_true rfl)⟩ rfl ?_
    refine R_if_ne_f (tgt := 118) dX10_commands_84 rfl h9 ?_
    refine R_aload_n dX10_commands_87 rfl rfl ?_
    refine R_iconst (v := 4) dX10_commands_88 (by decide) ?_
    refine R_aload_n dX10_commands_89 rfl rfl ?_
    refine G_get cok10 8 wf_X10_52 dX10_commands_90 (by first | exact rfl | assumption) ⟨(Nat.le_of_ble_eq_true rfl), (Nat.le_of_ble_eq_true rfl)⟩ rfl ?_
    refine R_imul dX10_commands_93 ?_
    refine R_topE (show 4 * M 464 8 = nI (4 * i) from by rw [h8]; exact nI_mul2 4 i) ?_
    refine G_cV1 cw_X10_232 (s_X10_carries hf hn hg hc h6 hd (q := 4 * i) (by omega)) dX10_commands_94 (rcv cok10 (by first | exact rfl | assumption) (Nat.le_of_ble_eq_true rfl)) ⟨(Nat.le_of_ble_eq_true rfl), (Nat.le_of_ble_eq_true rfl), (Nat.le_of_ble_eq_true rfl), (Nat.le_of_ble_eq_true rfl)⟩ ?_
    refine R_istore_n dX10_commands_97 rfl (by decide) (st2 rfl) ?_
    refine R_aload_n dX10_commands_98 rfl rfl ?_
    refine G_get cok10 9 wf_X10_39 dX10_commands_99 (by first | exact rfl | assumption) ⟨(Nat.le_of_ble_eq_true rfl), (Nat.le_of_ble_eq_true rfl)⟩ rfl ?_
    by_cases c1 : (tCar M n c (4 * i)).2 464 9 = 0
    · refine R_if_ne_f (tgt := 69) dX10_commands_102 rfl c1 ?_
      refine R_aload_n dX10_commands_105 rfl rfl ?_
      refine R_dup dX10_commands_106 rfl ?_
      refine G_get cok10 8 wf_X10_52 dX10_commands_107 (by first | exact rfl | assumption) ⟨(Nat.le_of_ble_eq_true rfl), (Nat.le_of_ble_eq_true rfl)⟩ rfl ?_
      refine R_iconst (v := 1) dX10_commands_110 (by decide) ?_
      refine R_iadd dX10_commands_111 ?_
      refine R_topE (show (tCar M n c (4 * i)).2 464 8 + 1 = nI (i + 1) from by rw [f8, nI_1]) ?_
      refine G_put cok10 8 wf_X10_52 dX10_commands_112 (by first | exact rfl | assumption) rfl ⟨(Nat.le_of_ble_eq_true rfl), rfl, (Nat.le_of_ble_eq_true rfl)⟩ ⟨rfl, rfl⟩ ?_
      refine R_goto (tgt := 69) dX10_commands_115 rfl ?_
      rw [rcL, es, if_pos c1]
      exact ih (i + 1) _ _ (by omega) (hS _ _ hj2) ((mst_ne2 (by decide)).trans f20) (mst_eq _ _ _ _) ((mst_ne2 (by decide)).trans c1)
    · refine R_if_ne_t (tgt := 69) dX10_commands_102 rfl c1 ?_
      refine R_aload_n dX10_commands_69 rfl rfl ?_
      refine G_get cok10 8 wf_X10_52 dX10_commands_70 (by first | exact rfl | assumption) ⟨(Nat.le_of_ble_eq_true rfl), (Nat.le_of_ble_eq_true rfl)⟩ rfl ?_
      refine R_aload_n dX10_commands_73 rfl rfl ?_
      refine G_get cok10 20 wf_X10_180 dX10_commands_74 (by first | exact rfl | assumption) ⟨(Nat.le_of_ble_eq_true rfl), (Nat.le_of_ble_eq_true rfl)⟩ rfl ?_
      refine R_icmp_ge_f (tgt := 118) dX10_commands_77 rfl (by rw [f8, f20]; exact nI_ge (by omega) (by omega)) ?_
      refine R_aload_n dX10_commands_80 rfl rfl ?_
      refine G_get cok10 9 wf_X10_39 dX10_commands_81 (by first | exact rfl | assumption) ⟨(Nat.le_of_ble_eq_true rfl), (Nat.le_of_ble_eq_true rfl)⟩ rfl ?_
      refine R_if_ne_t (tgt := 118) dX10_commands_84 rfl c1 ?_
      rw [rcL, es, if_neg c1]
      exact E_X10_commands hf hc2 h62 f20
theorem s_X10_commands {l : Launch} (hf : l.stackTraces = false) {t : Nat → Int32} {L : Nat} {J : MM → Prop} (hJ : ∀ M, J M → ∃ n c, n ≤ 12 ∧ M 465 0 = nI n ∧ c ≤ 8 ∧ M 464 6 = nI c ∧ dwn M n) (hS : ∀ M v, J M → J (mst M 464 8 v)) (hW : ∀ M n c q, J M → n ≤ 12 → M 465 0 = nI n → c ≤ 8 → M 464 6 = nI c → q + 3 < 128 → J (tCar M n c q).2) (hj : J (rcB t L M)) (ht : M 470 = t) (hL : M 464 14 = nI L) (hL60 : L ≤ 60) : V_X10_commands l [.ref 464] (hp M r) (VI (rcZ t L M).1 (hp (rcZ t L M).2 r)) := by
  refine VM.intro (lf := L9 (some (.ref 464)) none none none none none none none none) (by decide +kernel) hf (fun _ => (Nat.le_of_ble_eq_true rfl)) (fun _ => rfl) ?_
  refine R_aload_n dX10_commands_0 rfl rfl ?_
  refine G_cV0 cw_X10_229 (s_X10_isText hf ht hL hL60) dX10_commands_1 (rcv cok10 (by first | exact rfl | assumption) (Nat.le_of_ble_eq_true rfl)) ⟨(Nat.le_of_ble_eq_true rfl), (Nat.le_of_ble_eq_true rfl), (Nat.le_of_ble_eq_true rfl), (Nat.le_of_ble_eq_true rfl)⟩ ?_
  refine R_topE (show zb _ = zb (rcX t L M).1 from rfl) ?_
  refine R_istore_n dX10_commands_4 rfl (by decide) (st1 rfl) ?_
  refine R_aload_n dX10_commands_5 rfl rfl ?_
  refine R_iload_n dX10_commands_6 rfl rfl ?_
  refine R_if_eq (tgt := 14) dX10_commands_7 rfl (fun c1 => ?_) (fun c1 => ?_)
  · refine R_aload_n dX10_commands_14 rfl rfl ?_
    refine G_get cok10 18 wf_X10_171 dX10_commands_15 (by first | exact rfl | assumption) ⟨(Nat.le_of_ble_eq_true rfl), (Nat.le_of_ble_eq_true rfl)⟩ rfl ?_
    refine G_put cok10 15 wf_X10_28 dX10_commands_18 (by first | exact rfl | assumption) rfl ⟨(Nat.le_of_ble_eq_true rfl), rfl, (Nat.le_of_ble_eq_true rfl)⟩ ⟨rfl, rfl⟩ ?_
    refine R_aload_n dX10_commands_21 rfl rfl ?_
    refine R_iconst (v := 0) dX10_commands_22 (by decide) ?_
    refine G_put cok10 14 wf_X10_168 dX10_commands_23 (by first | exact rfl | assumption) rfl ⟨(Nat.le_of_ble_eq_true rfl), rfl, (Nat.le_of_ble_eq_true rfl)⟩ ⟨rfl, rfl⟩ ?_
    refine R_aload_n dX10_commands_26 rfl rfl ?_
    refine R_iload_n dX10_commands_27 rfl rfl ?_
    refine R_if_eq_t (tgt := 35) dX10_commands_28 rfl c1 ?_
    refine R_iconst (v := 1) dX10_commands_35 (by decide) ?_
    refine G_cV1 cw_X10_156 (s_X10_fails hf) dX10_commands_36 (rcv cok10 (by first | exact rfl | assumption) (Nat.le_of_ble_eq_true rfl)) ⟨(Nat.le_of_ble_eq_true rfl), (Nat.le_of_ble_eq_true rfl), (Nat.le_of_ble_eq_true rfl), (Nat.le_of_ble_eq_true rfl)⟩ ?_
    refine R_if_eq_f (tgt := 44) dX10_commands_39 rfl (by decide) ?_
    refine R_iconst (v := 0) dX10_commands_42 (by decide) ?_
    refine R_iret dX10_commands_43 rfl (Nat.le_of_ble_eq_true rfl) (Nat.le_of_ble_eq_true rfl) ?_
    unfold rcZ; rw [if_pos c1]
    exact ⟨rfl, rfl⟩
  · refine R_iconst (v := (-1)) dX10_commands_10 (by decide) ?_
    refine R_goto (tgt := 18) dX10_commands_11 rfl ?_
    refine G_put cok10 15 wf_X10_28 dX10_commands_18 (by first | exact rfl | assumption) rfl ⟨(Nat.le_of_ble_eq_true rfl), rfl, (Nat.le_of_ble_eq_true rfl)⟩ ⟨rfl, rfl⟩ ?_
    refine R_aload_n dX10_commands_21 rfl rfl ?_
    refine R_iconst (v := 0) dX10_commands_22 (by decide) ?_
    refine G_put cok10 14 wf_X10_168 dX10_commands_23 (by first | exact rfl | assumption) rfl ⟨(Nat.le_of_ble_eq_true rfl), rfl, (Nat.le_of_ble_eq_true rfl)⟩ ⟨rfl, rfl⟩ ?_
    refine R_aload_n dX10_commands_26 rfl rfl ?_
    refine R_iload_n dX10_commands_27 rfl rfl ?_
    refine R_if_eq_f (tgt := 35) dX10_commands_28 rfl c1 ?_
    refine R_iconst (v := 0) dX10_commands_31 (by decide) ?_
    refine R_goto (tgt := 36) dX10_commands_32 rfl ?_
    refine G_cV1 cw_X10_156 (s_X10_fails hf) dX10_commands_36 (rcv cok10 (by first | exact rfl | assumption) (Nat.le_of_ble_eq_true rfl)) ⟨(Nat.le_of_ble_eq_true rfl), (Nat.le_of_ble_eq_true rfl), (Nat.le_of_ble_eq_true rfl), (Nat.le_of_ble_eq_true rfl)⟩ ?_
    refine R_if_eq_t (tgt := 44) dX10_commands_39 rfl (by decide) ?_
    refine R_aload_n dX10_commands_44 rfl rfl ?_
    refine G_get cok10 0 wf_X10_7 dX10_commands_45 (by first | exact rfl | assumption) ⟨(Nat.le_of_ble_eq_true rfl), (Nat.le_of_ble_eq_true rfl)⟩ rfl ?_
    refine R_iconst (v := 0) dX10_commands_48 (by decide) ?_
    refine R_aload_n dX10_commands_49 rfl rfl ?_
    refine G_get cok10 3 wf_X10_19 dX10_commands_50 (by first | exact rfl | assumption) ⟨(Nat.le_of_ble_eq_true rfl), (Nat.le_of_ble_eq_true rfl)⟩ rfl ?_
    refine R_iconst (v := 0) dX10_commands_53 (by decide) ?_
    refine G_cS4v cw_X10_61 (s_X10_copies hf (a := 465) (c := 468) (p := 0) (q := 0) rfl rfl (by decide) (by decide) (by decide) (by decide) (by decide)) dX10_commands_54 ⟨(Nat.le_of_ble_eq_true rfl), (Nat.le_of_ble_eq_true rfl), (Nat.le_of_ble_eq_true rfl), (Nat.le_of_ble_eq_true rfl)⟩ ?_
    refine R_aload_n dX10_commands_57 rfl rfl ?_
    refine R_iconst (v := 1) dX10_commands_58 (by decide) ?_
    refine G_put cok10 7 wf_X10_48 dX10_commands_59 (by first | exact rfl | assumption) rfl ⟨(Nat.le_of_ble_eq_true rfl), rfl, (Nat.le_of_ble_eq_true rfl)⟩ ⟨rfl, rfl⟩ ?_
    refine R_aload_n dX10_commands_62 rfl rfl ?_
    refine R_iconst (v := 0) dX10_commands_63 (by decide) ?_
    refine G_put cok10 8 wf_X10_52 dX10_commands_64 (by first | exact rfl | assumption) rfl ⟨(Nat.le_of_ble_eq_true rfl), rfl, (Nat.le_of_ble_eq_true rfl)⟩ ⟨rfl, rfl⟩ ?_
    refine R_iconst (v := 0) dX10_commands_67 (by decide) ?_
    refine R_istore_n dX10_commands_68 rfl (by decide) (st2 rfl) ?_
    obtain ⟨tm, htm, e20⟩ := txR_20 (t := t) (L := L) 31 0 0 (mst (mst M 464 18 0) 464 20 0) rfl (show (rcX t L M).1 = true from by by_cases h : (rcX t L M).1 = true; exact h; exact absurd (by rw [Bool.eq_false_iff.mpr h]; rfl) c1)
    have e21 : (rcX t L M).2.2 464 20 = nI tm := e20
    unfold rcZ; rw [if_neg c1, e21, nI_cl (show tm < 2000 by omega)]
    exact L_X10_commands hf hJ hS hW htm tm 0 0 (rcB t L M) (by omega) hj e21 nI_0.symm rfl
end P36
