theorem isH_454 {b : Nat} (h : isH b) : b + 41 ≤ 454 := by
  unfold isH isHb at h
  simp at h
  omega
theorem outW_Car {M : MM} {n : Nat} (hn : n ≤ 12) (hc : M 1 2 = nI n) : outW M (wCar M n).2 := by
  unfold wCar
  repeat' split
  all_goals first | exact outW_Trk hn | exact outW_Bri hc hn | exact outW_Day hn | exact outW_Let hn | exact outW_Han hc hn | exact outW_Log | exact outW_Hrs hn | exact outW_Out hc hn | exact outW_Sel hc hn | exact outW_Tur hc hn | exact outW_Woo | exact outW_Dis hc hn
theorem hkM_ind {t : Nat → Int32} {M M' : MM} {L p : Nat} : (hkM t M L p).1 = (hkM t M' L p).1 ∧ (hkM t M L p).2.1 = (hkM t M' L p).2.1 := by
  unfold hkM
  by_cases h1 : sg t L p = 47
  · by_cases h2 : (rdN t L 1 (p + 1)).1 = -1
    · rw [if_pos h1, if_pos h2, if_pos h1, if_pos h2]; exact ⟨rfl, rfl⟩
    · rw [if_pos h1, if_neg h2, if_pos h1, if_neg h2]; exact ⟨rfl, rfl⟩
  · rw [if_neg h1, if_neg h1]; exact ⟨rfl, rfl⟩
theorem pcM_ind {t : Nat → Int32} {M M' : MM} {L p : Nat} : (pcM t M L p).1 = (pcM t M' L p).1 ∧ (pcM t M L p).2.1 = (pcM t M' L p).2.1 := by
  unfold pcM
  by_cases h1 : kc (sg t L p) = 1
  · rw [if_pos h1, if_pos h1]; exact ⟨rfl, rfl⟩
  rw [if_neg h1, if_neg h1]
  by_cases h2 : kc (sg t L p) = 2
  · rw [if_pos h2, if_pos h2]; exact ⟨rfl, rfl⟩
  rw [if_neg h2, if_neg h2]
  by_cases h3 : kc (sg t L p) = 3
  · rw [if_pos h3, if_pos h3]; exact ⟨rfl, rfl⟩
  rw [if_neg h3, if_neg h3]
  by_cases h4 : kc (sg t L p) = 4
  · rw [if_pos h4, if_pos h4]
    by_cases h5 : (rdN t L 2 (p + 1)).1 = -1
    · rw [if_pos h5, if_pos h5]; exact ⟨rfl, rfl⟩
    · rw [if_neg h5, if_neg h5]; exact hkM_ind
  · rw [if_neg h4, if_neg h4]; exact ⟨rfl, rfl⟩
def mm0 : MM := fun _ _ => 0
/-- the place behind the command at p -/
def pcP (t : Nat → Int32) (L p : Nat) : Nat := (pcM t mm0 L p).2.1
theorem pcP_eq {t : Nat → Int32} {M : MM} {L p : Nat} : (pcM t M L p).2.1 = pcP t L p := pcM_ind.2
/-- where the i-th command behind p begins -/
def pos (t : Nat → Int32) (L : Nat) : Nat → Nat → Nat
  | p, 0 => p
  | p, i + 1 => pos t L (pcP t L p + 1) i
theorem pos_s {t : Nat → Int32} {L : Nat} : ∀ (i p : Nat), pos t L p (i + 1) = pcP t L (pos t L p i) + 1
  | 0, _ => rfl
  | i + 1, p => pos_s i (pcP t L p + 1)
theorem ffM_fr {t : Nat → Int32} {L : Nat} {a k : Nat} (h : a ≠ 460 ∨ k < 3 ∨ 8 < k) : ∀ (f m p : Nat) (M : MM), (ffM t L f m p M).2 a k = M a k
  | 0, _, _, _ => rfl
  | f + 1, m, p, M => by
    have hs : (pcM t M L p).2.2 a k = M a k := pcM_scO a k (by omega)
    unfold ffM
    split
    · exact hs
    · split
      · show mst (pcM t M L p).2.2 460 3 (nI m) a k = M a k
        rw [mst_ne (by omega)]; exact hs
      · split
        · rw [ffM_fr h f, mst_ne (by omega)]; exact hs
        · exact hs
theorem nI_n1 {k : Nat} (h : k < 2000) : nI k ≠ -1 := fun e => nI_pos (n := k) (by omega) (by rw [e]; decide)
theorem ffM_ok {t : Nat → Int32} {L : Nat} (hL : L ≤ 60) : ∀ (f m p : Nat) (M : MM), p ≤ L → (ffM t L f m p M).1 = -1 → ∃ j, j < f ∧ (ffM t L f m p M).2 460 3 = nI (m + j) ∧ (∀ i, i ≤ j → pos t L p i ≤ L ∧ (pcM t mm0 L (pos t L p i)).1 = true) ∧ pos t L p (j + 1) = L + 1
  | 0, m, p, M, hp, h => absurd h (nI_n1 (by omega))
  | f + 1, m, p, M, hp, h => by
    have hle := pcM_le (t := t) (M := M) hp
    have hq : (pcM t M L p).2.1 = pcP t L p := pcP_eq
    unfold ffM at h ⊢
    split at h
    · exact absurd h (nI_n1 (by omega))
    · rename_i h1
      rw [if_neg h1]
      have h1t : (pcM t mm0 L p).1 = true := by rw [(pcM_ind (M' := M)).1]; simpa using h1
      split at h
      · rename_i h2
        rw [if_pos h2]
        refine ⟨0, by omega, (mst_eq _ _ _ _ : mst (pcM t M L p).2.2 460 3 (nI m) 460 3 = nI m), fun i hi => ?_, ?_⟩
        · obtain rfl : i = 0 := by omega
          exact ⟨hp, h1t⟩
        · show pcP t L p + 1 = L + 1
          omega
      · rename_i h2
        rw [if_neg h2]
        split at h
        · rename_i h3
          rw [if_pos h3]
          obtain ⟨j, g1, g2, g3, g4⟩ := ffM_ok hL f (m + 1) _ _ (sg_lt h3 (by decide)) h
          refine ⟨j + 1, by omega, by rw [g2]; congr 1; omega, fun i hi => ?_, ?_⟩
          · match i with
            | 0 => exact ⟨hp, h1t⟩
            | i + 1 =>
              have g := g3 i (by omega)
              rw [hq] at g
              exact g
          · rw [hq] at g4
            exact g4
        · exact absurd h (nI_n1 (by omega))
/-- the i-th command of the text, carried out -/
def stp (t : Nat → Int32) (L i : Nat) (M : MM) : Int32 × MM := wCar (mst (mst (pcM t M L (pos t L 0 i)).2.2 460 4 (nI (pos t L 0 (i + 1)))) 454 1 (nI i)) (M 1 2).toNatClampNeg
def cmR (t : Nat → Int32) (L : Nat) : Nat → Nat → Int32 × MM → Int32 × MM
  | 0, _, s => s
  | j + 1, i, s => if s.1 = -1 then s else cmR t L j (i + 1) (stp t L i s.2)
def cmF (M : MM) : MM := mst (mst M 454 1 0) 460 1 0
def cmE (s : Int32 × MM) (c n0 : Nat) (r : MR) : Option Value ⊕ String → HP → Prop := if s.1 = -1 then ZE UOE (hp (hcp (cmF s.2) 1 42 n0) r) else VI (nI c) (hp (keepM (cmF s.2) r.1 n0) (rotR r.1, r.2))
theorem stp_pre {t : Nat → Int32} {M : MM} {L i p x : Nat} {y z : Int32} (h1 : x ≠ 460) (h2 : x ≠ 454) : (mst (mst (pcM t M L p).2.2 460 i y) 454 1 z) x = M x := by
  rw [mst_fn h2, mst_fn h1]
  funext k
  exact pcM_scO x k (Or.inl h1)
section P20
variable {M : MM} {r : MR}
theorem E_X9_commands {l : Launch} (hf : l.stackTraces = false) {c i n0 : Nat} {x : Int32} (hn : n0 ≤ 12) (hc : M 42 2 = nI n0) (hz : flg M 42 n0) (hP : prm r.1) (h3 : M 460 3 = nI c) : Q_X9_commands l (cmE (x, M) c n0 r) 112 (L9 (some (.ref 0)) (some (.int x)) (some (.int (nI i))) none none none none none none) [] (hp M r) := by
  have hc1 : cmF M 42 2 = nI n0 := by rw [cmF, mst_ne1 (by decide), mst_ne1 (by decide)]; exact hc
  have hz1 : flg (cmF M) 42 n0 := flg_eq (fun x h1 h2 => by rw [cmF, mst_fn (by omega), mst_fn (by omega)]) hn hz
  refine R_aload_n dX9_commands_112 rfl rfl ?_
  refine G_get cok9 4 wf_X9_32 dX9_commands_113 (by first | exact rfl | assumption) ⟨(Nat.le_of_ble_eq_true rfl), (Nat.le_of_ble_eq_true rfl)⟩ rfl ?_
  refine R_iconst (v := 0) dX9_commands_116 (by decide) ?_
  refine G_put cok5 1 wf_X9_239 dX9_commands_117 (by first | exact rfl | assumption) rfl ⟨(Nat.le_of_ble_eq_true rfl), rfl, (Nat.le_of_ble_eq_true rfl)⟩ ⟨rfl, rfl⟩ ?_
  refine R_aload_n dX9_commands_120 rfl rfl ?_
  refine G_get cok9 7 wf_X9_57 dX9_commands_121 (by first | exact rfl | assumption) ⟨(Nat.le_of_ble_eq_true rfl), (Nat.le_of_ble_eq_true rfl)⟩ rfl ?_
  refine G_cV0v cw_X9_224 (s_X6_empty hf) dX9_commands_124 (rcv cok6 (by first | exact rfl | assumption) (Nat.le_of_ble_eq_true rfl)) ⟨(Nat.le_of_ble_eq_true rfl), (Nat.le_of_ble_eq_true rfl), (Nat.le_of_ble_eq_true rfl), (Nat.le_of_ble_eq_true rfl)⟩ ?_
  refine R_iload_n dX9_commands_127 rfl rfl ?_
  refine R_iconst (v := (-1)) dX9_commands_128 (by decide) ?_
  refine R_icmp_ne (tgt := 151) dX9_commands_129 rfl (fun c1 => ?_) (fun c1 => ?_)
  · refine R_aload_n dX9_commands_151 rfl rfl ?_
    refine G_get cok9 3 wf_X9_25 dX9_commands_152 (by first | exact rfl | assumption) ⟨(Nat.le_of_ble_eq_true rfl), (Nat.le_of_ble_eq_true rfl)⟩ rfl ?_
    refine R_aload_n dX9_commands_155 rfl rfl ?_
    refine G_get cok9 1 wf_X9_16 dX9_commands_156 (by first | exact rfl | assumption) ⟨(Nat.le_of_ble_eq_true rfl), (Nat.le_of_ble_eq_true rfl)⟩ rfl ?_
    refine G_cV1v cw_X9_249 (show VD l _ _ _ _ _ _ (hp (cmF M) r) none (hp (keepM (cmF M) r.1 n0) (rotR r.1, r.2)) from s_X2_keep hf (fun k hk => (hP k hk).1) (by have := (hP 7 (by omega)).2; omega) hn hc1 hz1) dX9_commands_159 (rcv cok2 (by first | exact rfl | assumption) (Nat.le_of_ble_eq_true rfl)) ⟨(Nat.le_of_ble_eq_true rfl), (Nat.le_of_ble_eq_true rfl), (Nat.le_of_ble_eq_true rfl), (Nat.le_of_ble_eq_true rfl)⟩ ?_
    refine R_aload_n dX9_commands_162 rfl rfl ?_
    refine G_get cok9 7 wf_X9_57 dX9_commands_163 (by first | exact rfl | assumption) ⟨(Nat.le_of_ble_eq_true rfl), (Nat.le_of_ble_eq_true rfl)⟩ rfl ?_
    refine G_get cok6 3 wf_X9_230 dX9_commands_166 (by first | exact rfl | assumption) ⟨(Nat.le_of_ble_eq_true rfl), (Nat.le_of_ble_eq_true rfl)⟩ rfl ?_
    refine R_iret dX9_commands_169 rfl (Nat.le_of_ble_eq_true rfl) (Nat.le_of_ble_eq_true rfl) ?_
    rw [cmE, if_neg (by assumption)]
    refine ⟨?_, rfl⟩
    have e3 : keepM (cmF M) r.1 n0 460 3 = nI c := by
      rw [keepM, mst_ne1 (by decide), hcp_out hn (by have := isH_454 (hP 7 (by omega)).1; omega), cmF, mst_ne2 (by decide), mst_ne1 (by decide)]
      exact h3
    rw [e3]
  · refine R_aload_n dX9_commands_132 rfl rfl ?_
    refine G_get cok9 0 wf_X9_12 dX9_commands_133 (by first | exact rfl | assumption) ⟨(Nat.le_of_ble_eq_true rfl), (Nat.le_of_ble_eq_true rfl)⟩ rfl ?_
    refine R_aload_n dX9_commands_136 rfl rfl ?_
    refine G_get cok9 1 wf_X9_16 dX9_commands_137 (by first | exact rfl | assumption) ⟨(Nat.le_of_ble_eq_true rfl), (Nat.le_of_ble_eq_true rfl)⟩ rfl ?_
    refine G_cV1v cw_X9_68 (show VD l _ _ _ _ _ _ (hp (cmF M) r) none (hp (hcp (cmF M) 1 42 n0) r) from s_X3_copyFrom hf isH1 isH42 (by decide) hn hc1 hz1) dX9_commands_140 (rcv cok3 (by first | exact rfl | assumption) (Nat.le_of_ble_eq_true rfl)) ⟨(Nat.le_of_ble_eq_true rfl), (Nat.le_of_ble_eq_true rfl), (Nat.le_of_ble_eq_true rfl), (Nat.le_of_ble_eq_true rfl)⟩ ?_
    refine R_throw tw_X9_246_248 dX9_commands_143 dX9_commands_146 dX9_commands_147 dX9_commands_150 (Nat.le_of_ble_eq_true rfl) (Nat.le_of_ble_eq_true rfl) (Nat.le_of_ble_eq_true rfl) (Nat.le_of_ble_eq_true rfl) ?_
    rw [cmE, if_pos (by assumption)]
    exact ⟨rfl, rfl⟩
theorem L_X9_commands {l : Launch} (hf : l.stackTraces = false) {t : Nat → Int32} {L c n0 : Nat} {J : MM → Prop} (hJ : ∀ M, J M → ∃ n, n ≤ 12 ∧ M 1 2 = nI n ∧ flg M 1 n) (hS : ∀ M M', (∀ x, 1 ≤ x → x < 42 → M' x = M x) → J M → J M') (hW : ∀ M n, J M → n ≤ 12 → M 1 2 = nI n → J (wCar M n).2) (hL60 : L ≤ 60) (hC : ∀ k, isC (t k)) (hc60 : c ≤ 60) (hp9 : ∀ i, i < c → pos t L 0 i ≤ L) (hn0 : n0 ≤ 12) (hP : prm r.1) :
    ∀ (j i : Nat) (x : Int32) (M : MM), i + j = c → J M → M 461 = t → M 460 1 = nI L → M 460 3 = nI c → M 460 4 = nI (pos t L 0 i) → M 42 2 = nI n0 → flg M 42 n0 → Q_X9_commands l (cmE (cmR t L j i (x, M)) c n0 r) 55 (L9 (some (.ref 0)) (some (.int x)) (some (.int (nI i))) none none none none none none) [] (hp M r) := by
  intro j
  induction j with
  | zero =>
    intro i x M hij hj ht hL h3 h4 hc hz
    obtain rfl : i = c := by omega
    refine R_iload_n dX9_commands_55 rfl rfl ?_
    refine R_aload_n dX9_commands_56 rfl rfl ?_
    refine G_get cok9 7 wf_X9_57 dX9_commands_57 (by first | exact rfl | assumption) ⟨(Nat.le_of_ble_eq_true rfl), (Nat.le_of_ble_eq_true rfl)⟩ rfl ?_
    refine G_get cok6 3 wf_X9_230 dX9_commands_60 (by first | exact rfl | assumption) ⟨(Nat.le_of_ble_eq_true rfl), (Nat.le_of_ble_eq_true rfl)⟩ rfl ?_
    refine R_icmp_ge_t (tgt := 112) dX9_commands_63 rfl (by rw [h3]; exact nI_le (by omega) (by omega)) ?_
    exact E_X9_commands hf hn0 hc hz hP h3
  | succ j ih =>
    intro i x M hij hj ht hL h3 h4 hc hz
    obtain ⟨n, hn, hc1, hz1⟩ := hJ M hj
    have en : (M 1 2).toNatClampNeg = n := by rw [hc1]; exact nI_cl (by omega)
    have hq : (pcM t M L (pos t L 0 i)).2.1 + 1 = pos t L 0 (i + 1) := by rw [pos_s, pcP_eq]
    obtain ⟨M2, e2⟩ : ∃ M2, M2 = mst (mst (pcM t M L (pos t L 0 i)).2.2 460 4 (nI (pos t L 0 (i + 1)))) 454 1 (nI i) := ⟨_, rfl⟩
    have f2 : ∀ x, x ≠ 460 → x ≠ 454 → M2 x = M x := fun x h1 h2 => by rw [e2]; exact stp_pre h1 h2
    have hj2 : J M2 := hS M M2 (fun x h1 h2 => f2 x (by omega) (by omega)) hj
    have hc2 : M2 1 2 = nI n := by rw [f2 1 (by decide) (by decide)]; exact hc1
    have hz2 : flg M2 1 n := flg_eq (fun x h1 h2 => f2 x (by omega) (by omega)) hn hz1
    have ho := outW_Car hn hc2
    have es : stp t L i M = wCar M2 n := by rw [stp, en, e2]
    refine R_iload_n dX9_commands_55 rfl rfl ?_
    refine R_aload_n dX9_commands_56 rfl rfl ?_
    refine G_get cok9 7 wf_X9_57 dX9_commands_57 (by first | exact rfl | assumption) ⟨(Nat.le_of_ble_eq_true rfl), (Nat.le_of_ble_eq_true rfl)⟩ rfl ?_
    refine G_get cok6 3 wf_X9_230 dX9_commands_60 (by first | exact rfl | assumption) ⟨(Nat.le_of_ble_eq_true rfl), (Nat.le_of_ble_eq_true rfl)⟩ rfl ?_
    refine R_icmp_ge_f (tgt := 112) dX9_commands_63 rfl (by rw [h3]; exact nI_ge (by omega) (by omega)) ?_
    refine R_iload_n dX9_commands_66 rfl rfl ?_
    refine R_iconst (v := (-1)) dX9_commands_67 (by decide) ?_
    refine R_icmp_eq (tgt := 112) dX9_commands_68 rfl (fun c1 => ?_) (fun c1 => ?_)
    · rw [cmR, if_pos (by assumption)]
      exact E_X9_commands hf hn0 hc hz hP h3
    · refine R_aload_n dX9_commands_71 rfl rfl ?_
      refine G_get cok9 7 wf_X9_57 dX9_commands_72 (by first | exact rfl | assumption) ⟨(Nat.le_of_ble_eq_true rfl), (Nat.le_of_ble_eq_true rfl)⟩ rfl ?_
      refine G_cV0 cw_X9_233 (s_X6_readCommand hf ht hL hL60 hC h4 (hp9 i (by omega))) dX9_commands_75 (rcv cok6 (by first | exact rfl | assumption) (Nat.le_of_ble_eq_true rfl)) ⟨(Nat.le_of_ble_eq_true rfl), (Nat.le_of_ble_eq_true rfl), (Nat.le_of_ble_eq_true rfl), (Nat.le_of_ble_eq_true rfl)⟩ ?_
      refine R_pop dX9_commands_78 rfl ?_
      refine R_aload_n dX9_commands_79 rfl rfl ?_
      refine G_get cok9 7 wf_X9_57 dX9_commands_80 (by first | exact rfl | assumption) ⟨(Nat.le_of_ble_eq_true rfl), (Nat.le_of_ble_eq_true rfl)⟩ rfl ?_
      refine G_cV0v cw_X9_236 (s_X6_pass hf (pcM_cu h4)) dX9_commands_83 (rcv cok6 (by first | exact rfl | assumption) (Nat.le_of_ble_eq_true rfl)) ⟨(Nat.le_of_ble_eq_true rfl), (Nat.le_of_ble_eq_true rfl), (Nat.le_of_ble_eq_true rfl), (Nat.le_of_ble_eq_true rfl)⟩ ?_
      rw [hq]
      refine R_aload_n dX9_commands_86 rfl rfl ?_
      refine G_get cok9 4 wf_X9_32 dX9_commands_87 (by first | exact rfl | assumption) ⟨(Nat.le_of_ble_eq_true rfl), (Nat.le_of_ble_eq_true rfl)⟩ rfl ?_
      refine R_iload_n dX9_commands_90 rfl rfl ?_
      refine G_put cok5 1 wf_X9_239 dX9_commands_91 (by first | exact rfl | assumption) rfl ⟨(Nat.le_of_ble_eq_true rfl), rfl, (Nat.le_of_ble_eq_true rfl)⟩ ⟨rfl, rfl⟩ ?_
      rw [← e2]
      refine R_aload_n dX9_commands_94 rfl rfl ?_
      refine G_get cok9 5 wf_X9_41 dX9_commands_95 (by first | exact rfl | assumption) ⟨(Nat.le_of_ble_eq_true rfl), (Nat.le_of_ble_eq_true rfl)⟩ rfl ?_
      refine R_aload_n dX9_commands_98 rfl rfl ?_
      refine G_get cok9 7 wf_X9_57 dX9_commands_99 (by first | exact rfl | assumption) ⟨(Nat.le_of_ble_eq_true rfl), (Nat.le_of_ble_eq_true rfl)⟩ rfl ?_
      refine G_cV1 cw_X9_242 (show VD l _ _ _ _ _ _ (hp M2 r) (some (.int (wCar M2 n).1)) (hp (wCar M2 n).2 r) from s_X8_carryOut hf hn hc2 hz2) dX9_commands_102 (rcv cok8 (by first | exact rfl | assumption) (Nat.le_of_ble_eq_true rfl)) ⟨(Nat.le_of_ble_eq_true rfl), (Nat.le_of_ble_eq_true rfl), (Nat.le_of_ble_eq_true rfl), (Nat.le_of_ble_eq_true rfl)⟩ ?_
      refine R_istore_n dX9_commands_105 rfl (by decide) (st1 rfl) ?_
      first | refine R_iincN dX9_commands_106 (by decide) rfl (by decide) (st2 rfl) ?_ | refine R_iinc1 dX9_commands_106 (by decide) rfl (by decide) (st2 rfl) ?_
      refine R_goto (tgt := 55) dX9_commands_109 rfl ?_
      rw [cmR, if_neg (by assumption), es]
      refine ih (i + 1) (wCar M2 n).1 (wCar M2 n).2 (by omega) (hW M2 n hj2 hn hc2) ?_ ?_ ?_ ?_ ?_ ?_
      · rw [ho 461 (by omega), f2 461 (by decide) (by decide)]; exact ht
      · rw [ho 460 (by omega), e2, mst_ne1 (by decide), mst_ne2 (by decide), pcM_1]; exact hL
      · rw [ho 460 (by omega), e2, mst_ne1 (by decide), mst_ne2 (by decide), pcM_scO 460 3 (by omega)]; exact h3
      · rw [ho 460 (by omega), e2, mst_ne1 (by decide), mst_eq]
      · rw [ho 42 (by omega), f2 42 (by decide) (by decide)]; exact hc
      · exact flg_eq (fun x h1 h2 => by rw [ho x (by omega), f2 x (by omega) (by omega)]) hn0 hz
def cmA (t : Nat → Int32) (L : Nat) (M : MM) : MM := mst (ffM t L 60 1 0 (mst M 460 4 0)).2 460 2 (ffM t L 60 1 0 (mst M 460 4 0)).1
def cmB (t : Nat → Int32) (L n : Nat) (M : MM) : MM := mst (hcp (cmA t L M) 42 1 n) 460 4 0
def cmZ (t : Nat → Int32) (L n : Nat) (M : MM) (r : MR) : Option Value ⊕ String → HP → Prop := if ¬ (cmA t L M) 460 2 = -1 then ZE IAE (hp (mst (cmA t L M) 460 1 0) r) else cmE (cmR t L ((cmA t L M) 460 3).toNatClampNeg 0 (0, cmB t L n M)) ((cmA t L M) 460 3).toNatClampNeg n r
theorem s_X9_commands {l : Launch} (hf : l.stackTraces = false) {t : Nat → Int32} {L n : Nat} {J : MM → Prop} (hJ : ∀ M, J M → ∃ n, n ≤ 12 ∧ M 1 2 = nI n ∧ flg M 1 n) (hS : ∀ M M', (∀ x, 1 ≤ x → x < 42 → M' x = M x) → J M → J M') (hW : ∀ M n, J M → n ≤ 12 → M 1 2 = nI n → J (wCar M n).2) (hj : J M) (hn : n ≤ 12) (hc : M 1 2 = nI n) (hz : flg M 1 n) (hP : prm r.1) (ht : M 461 = t) (hL : M 460 1 = nI L) (hL60 : L ≤ 60) (hC : ∀ k, isC (t k)) : V_X9_commands l [.ref 0] (hp M r) (cmZ t L n M r) := by
  refine VM.intro (lf := L9 (some (.ref 0)) none none none none none none none none) (by decide +kernel) hf (fun _ => (Nat.le_of_ble_eq_true rfl)) (fun _ => rfl) ?_
  have fA : ∀ a k, (a ≠ 460 ∨ k < 2 ∨ 8 < k) → cmA t L M a k = M a k := fun a k h => by rw [cmA, mst_ne (by omega), ffM_fr (by omega), mst_ne (by omega)]
  have gA : ∀ x, x ≠ 460 → cmA t L M x = M x := fun x h => funext fun k => fA x k (Or.inl h)
  refine R_aload_n dX9_commands_0 rfl rfl ?_
  refine G_get cok9 7 wf_X9_57 dX9_commands_1 (by first | exact rfl | assumption) ⟨(Nat.le_of_ble_eq_true rfl), (Nat.le_of_ble_eq_true rfl)⟩ rfl ?_
  refine G_cV0v cw_X9_218 (show VD l _ _ _ _ _ _ (hp M r) none (hp (cmA t L M) r) from s_X6_examine hf ht hL hL60 hC) dX9_commands_4 (rcv cok6 (by first | exact rfl | assumption) (Nat.le_of_ble_eq_true rfl)) ⟨(Nat.le_of_ble_eq_true rfl), (Nat.le_of_ble_eq_true rfl), (Nat.le_of_ble_eq_true rfl), (Nat.le_of_ble_eq_true rfl)⟩ ?_
  refine R_aload_n dX9_commands_7 rfl rfl ?_
  refine G_get cok9 7 wf_X9_57 dX9_commands_8 (by first | exact rfl | assumption) ⟨(Nat.le_of_ble_eq_true rfl), (Nat.le_of_ble_eq_true rfl)⟩ rfl ?_
  refine G_get cok6 2 wf_X9_221 dX9_commands_11 (by first | exact rfl | assumption) ⟨(Nat.le_of_ble_eq_true rfl), (Nat.le_of_ble_eq_true rfl)⟩ rfl ?_
  refine R_iconst (v := (-1)) dX9_commands_14 (by decide) ?_
  refine R_icmp_eq (tgt := 33) dX9_commands_15 rfl (fun c1 => ?_) (fun c1 => ?_)
  · have hcA : cmA t L M 1 2 = nI n := by rw [gA 1 (by decide)]; exact hc
    have hzA : flg (cmA t L M) 1 n := flg_eq (fun x h1 h2 => gA x (by omega)) hn hz
    refine R_aload_n dX9_commands_33 rfl rfl ?_
    refine G_get cok9 1 wf_X9_16 dX9_commands_34 (by first | exact rfl | assumption) ⟨(Nat.le_of_ble_eq_true rfl), (Nat.le_of_ble_eq_true rfl)⟩ rfl ?_
    refine R_aload_n dX9_commands_37 rfl rfl ?_
    refine G_get cok9 0 wf_X9_12 dX9_commands_38 (by first | exact rfl | assumption) ⟨(Nat.le_of_ble_eq_true rfl), (Nat.le_of_ble_eq_true rfl)⟩ rfl ?_
    refine G_cV1v cw_X9_68 (show VD l _ _ _ _ _ _ (hp (cmA t L M) r) none (hp (hcp (cmA t L M) 42 1 n) r) from s_X3_copyFrom hf isH42 isH1 (by decide) hn hcA hzA) dX9_commands_41 (rcv cok3 (by first | exact rfl | assumption) (Nat.le_of_ble_eq_true rfl)) ⟨(Nat.le_of_ble_eq_true rfl), (Nat.le_of_ble_eq_true rfl), (Nat.le_of_ble_eq_true rfl), (Nat.le_of_ble_eq_true rfl)⟩ ?_
    refine R_aload_n dX9_commands_44 rfl rfl ?_
    refine G_get cok9 7 wf_X9_57 dX9_commands_45 (by first | exact rfl | assumption) ⟨(Nat.le_of_ble_eq_true rfl), (Nat.le_of_ble_eq_true rfl)⟩ rfl ?_
    refine G_cV0v cw_X9_227 (s_X6_rewind hf) dX9_commands_48 (rcv cok6 (by first | exact rfl | assumption) (Nat.le_of_ble_eq_true rfl)) ⟨(Nat.le_of_ble_eq_true rfl), (Nat.le_of_ble_eq_true rfl), (Nat.le_of_ble_eq_true rfl), (Nat.le_of_ble_eq_true rfl)⟩ ?_
    refine R_iconst (v := 0) dX9_commands_51 (by decide) ?_
    refine R_istore_n dX9_commands_52 rfl (by decide) (st1 rfl) ?_
    refine R_iconst (v := 0) dX9_commands_53 (by decide) ?_
    refine R_istore_n dX9_commands_54 rfl (by decide) (st2 rfl) ?_
    rw [cmZ, if_neg (fun z => z c1)]
    have e2 : cmA t L M 460 2 = (ffM t L 60 1 0 (mst M 460 4 0)).1 := mst_eq _ _ _ _
    obtain ⟨j, g1, g2, g3, g4⟩ := ffM_ok hL60 60 1 0 (mst M 460 4 0) (Nat.zero_le _) (by rw [← e2]; exact c1)
    have e3 : cmA t L M 460 3 = nI (1 + j) := by rw [cmA, mst_ne2 (by decide)]; exact g2
    have e4 : (nI (1 + j)).toNatClampNeg = 1 + j := nI_cl (by omega)
    have gB : ∀ x, x ≠ 460 → ¬ (42 ≤ x ∧ x < 83) → cmB t L n M x = M x := fun x h1 h2 => by rw [cmB, mst_fn h1, hcp_out hn (by omega)]; exact gA x h1
    have gB2 : ∀ k, k ≠ 4 → cmB t L n M 460 k = cmA t L M 460 k := fun k h => by rw [cmB, mst_ne2 h, hcp_out hn (by omega)]
    rw [e3, e4]
    have z9 := L_X9_commands (r := r) hf (t := t) (L := L) (c := 1 + j) (n0 := n) hJ hS hW hL60 hC (by omega) (fun i hi => (g3 i (by omega)).1) hn hP (1 + j) 0 0 (cmB t L n M) (by omega) (hS M _ (fun x h1 h2 => gB x (by omega) (by omega)) hj) ((gB 461 (by decide) (by omega)).trans ht) (by rw [gB2 1 (by decide), fA 460 1 (by omega)]; exact hL) (by rw [gB2 3 (by decide)]; exact e3) (by rw [cmB, mst_eq]; exact nI_0.symm) (by rw [cmB, mst_ne1 (by decide), hcp_self hn]; exact hcA) (flg_eq (M := hcp (cmA t L M) 42 1 n) (fun x h1 h2 => by rw [cmB, mst_fn (by omega)]) hn (flg_hcp hn (by omega) hzA))
    rw [nI_0] at z9
    exact z9
  · refine R_aload_n dX9_commands_18 rfl rfl ?_
    refine G_get cok9 7 wf_X9_57 dX9_commands_19 (by first | exact rfl | assumption) ⟨(Nat.le_of_ble_eq_true rfl), (Nat.le_of_ble_eq_true rfl)⟩ rfl ?_
    refine G_cV0v cw_X9_224 (s_X6_empty hf) dX9_commands_22 (rcv cok6 (by first | exact rfl | assumption) (Nat.le_of_ble_eq_true rfl)) ⟨(Nat.le_of_ble_eq_true rfl), (Nat.le_of_ble_eq_true rfl), (Nat.le_of_ble_eq_true rfl), (Nat.le_of_ble_eq_true rfl)⟩ ?_
    refine R_throw tw_X9_117_119 dX9_commands_25 dX9_commands_28 dX9_commands_29 dX9_commands_32 (Nat.le_of_ble_eq_true rfl) (Nat.le_of_ble_eq_true rfl) (Nat.le_of_ble_eq_true rfl) (Nat.le_of_ble_eq_true rfl) ?_
    rw [cmZ, if_pos (by assumption)]
    exact ⟨rfl, rfl⟩
end P20
