section P22
theorem v_two : FP.Core.val32 FP.fconst2 = .fin false (2 ^ 23) (-22) := by decide +kernel
theorem v_one : FP.Core.val32 FP.fconst1 = .fin false (2 ^ 23) (-23) := by decide +kernel
theorem v_zero : FP.Core.val32 FP.fconst0 = .fin false 0 (-149) := by decide +kernel
theorem v_big : FP.Core.val32 1258291200 = .fin false (2 ^ 23) 0 := by decide +kernel
theorem fit32 {s : Bool} {c : Nat} {q : Int} (h1 : c < 16777216) (h2 : -149 ≤ q) (h3 : q ≤ 104) (h4 : q = -149 ∨ 8388608 ≤ c) : FP.Core.fits FP.Core.b32 (.fin s c q) := ⟨h1, h2, h3, h4⟩
theorem v_div2 {x : UInt32} {c : Nat} {q : Int} (h : FP.Core.val32 x = .fin false c q) (h1 : 8388608 ≤ c) (h2 : c < 16777216) (h3 : -140 ≤ q) (h4 : q ≤ 104) : FP.Core.val32 (FP.fdiv x FP.fconst2) = .fin false c (q - 1) := by
  rw [show FP.fdiv x FP.fconst2 = FP.Core.fdiv x FP.fconst2 from rfl, FP.Core.val32_fdiv, h, v_two]
  show FP.Core.roundRatio FP.Core.b32 (false != false) c (2 ^ 23) (q - -22) = _
  refine FP.Core.roundRatio_exact FP.Core.good_b32 (by decide) (fit32 h2 (by omega) (by omega) (Or.inr h1)) ?_
  rw [show (q - -22 - (q - 1)).toNat = 23 by omega, show (q - 1 - (q - -22)).toNat = 0 by omega]
  omega
theorem v_mul2 {x : UInt32} {c : Nat} {q : Int} (h : FP.Core.val32 x = .fin false c q) (h1 : 8388608 ≤ c) (h2 : c < 16777216) (h3 : -140 ≤ q) (h4 : q ≤ 100) : FP.Core.val32 (FP.fmul x FP.fconst2) = .fin false c (q + 1) := by
  rw [show FP.fmul x FP.fconst2 = FP.Core.fmul x FP.fconst2 from rfl, FP.Core.val32_fmul, h, v_two]
  show FP.Core.roundRatio FP.Core.b32 (false != false) (c * 2 ^ 23) 1 (q + -22) = _
  refine FP.Core.roundRatio_exact FP.Core.good_b32 (by decide) (fit32 h2 (by omega) (by omega) (Or.inr h1)) ?_
  rw [show (q + -22 - (q + 1)).toNat = 0 by omega, show (q + 1 - (q + -22)).toNat = 23 by omega]
  omega
theorem v_n32 {x : UInt32} {c : Nat} {q : Int} (h : FP.Core.val32 x = .fin false c q) : n32 x = true := by
  have h1 : ¬ FP.Core.fieldE FP.Core.b32 x.toNat = FP.Core.b32.exps - 1 := fun e => by
    unfold FP.Core.val32 FP.Core.decode at h
    rw [if_pos e] at h
    split at h <;> cases h
  have h2 : ¬ x.toNat / 8388608 % 256 = 255 := h1
  refine decide_eq_true (UInt32.le_iff_toNat_le.mpr ?_)
  rw [UInt32.toNat_and]
  show x.toNat &&& 2147483647 ≤ 2139095040
  rw [show 2147483647 = 2 ^ 31 - 1 from rfl, Nat.and_two_pow_sub_one_eq_mod]
  omega
/-- the FP.Core.order of two positive numbers -/
theorem v_cmp {x y : UInt32} {c d : Nat} {q r : Int} (h : FP.Core.val32 x = .fin false c q) (h' : FP.Core.val32 y = .fin false d r) : FP.fcmp x y = some (compare ((FP.Core.inUnits c q (min q r) : Nat) : Int) ((FP.Core.inUnits d r (min q r) : Nat) : Int)) := by
  show FP.Core.order (FP.Core.val32 x) (FP.Core.val32 y) = _
  rw [h, h']
  rfl
theorem cI_lt {a b : Nat} (h : a < b) : compare (a : Int) (b : Int) = .lt := by
  rw [Int.compare_eq_lt]; omega
theorem cI_gt {a b : Nat} (h : b < a) : compare (a : Int) (b : Int) = .gt := by
  rw [Int.compare_eq_gt]; omega
theorem cI_eq {a b : Nat} (h : a = b) : compare (a : Int) (b : Int) = .eq := by
  rw [Int.compare_eq_eq]; omega
theorem c2_lt {x : UInt32} {c : Nat} {q : Int} (h : FP.Core.val32 x = .fin false c q) (h2 : c < 16777216) (h3 : q ≤ -23) : Op.cmpValue (FP.fcmp x FP.fconst2) .l < 0 := by
  rw [v_cmp h v_two, show min q (-22) = q by omega, FP.Core.inUnits, FP.Core.inUnits, show (q - q).toNat = 0 by omega, cI_lt]
  · decide
  · have : 2 ^ 1 ≤ 2 ^ (-22 - q).toNat := Nat.pow_le_pow_right (by decide) (by omega)
    omega
theorem c2_ge {x : UInt32} {c : Nat} {q : Int} (h : FP.Core.val32 x = .fin false c q) (h2 : 8388608 ≤ c) (h3 : -22 ≤ q) : ¬ Op.cmpValue (FP.fcmp x FP.fconst2) .l < 0 := by
  have h1 : 1 ≤ 2 ^ (q - -22).toNat := Nat.one_le_two_pow
  rw [v_cmp h v_two, show min q (-22) = -22 by omega, FP.Core.inUnits, FP.Core.inUnits, show ((-22 : Int) - -22).toNat = 0 by omega]
  have h4 : 8388608 * 1 ≤ c * 2 ^ (q - -22).toNat := Nat.mul_le_mul h2 h1
  by_cases h5 : c * 2 ^ (q - -22).toNat = 8388608
  · rw [cI_eq (by omega)]; decide
  · rw [cI_gt (by omega)]; decide
theorem c1_lt {x : UInt32} {c : Nat} {q : Int} (h : FP.Core.val32 x = .fin false c q) (h2 : c < 16777216) (h3 : q ≤ -24) : Op.cmpValue (FP.fcmp x FP.fconst1) .g < 0 := by
  rw [v_cmp h v_one, show min q (-23) = q by omega, FP.Core.inUnits, FP.Core.inUnits, show (q - q).toNat = 0 by omega, cI_lt]
  · decide
  · have : 2 ^ 1 ≤ 2 ^ (-23 - q).toNat := Nat.pow_le_pow_right (by decide) (by omega)
    omega
theorem c1_ge {x : UInt32} {c : Nat} (h : FP.Core.val32 x = .fin false c (-23)) (h2 : 8388608 ≤ c) : ¬ Op.cmpValue (FP.fcmp x FP.fconst1) .g < 0 := by
  rw [v_cmp h v_one, show min (-23 : Int) (-23) = -23 by omega, FP.Core.inUnits, FP.Core.inUnits, show ((-23 : Int) - -23).toNat = 0 by omega]
  by_cases h5 : c = 8388608
  · rw [cI_eq (by omega)]; decide
  · rw [cI_gt (by omega)]; decide
theorem c0_gt {x : UInt32} {c : Nat} {q : Int} (h : FP.Core.val32 x = .fin false c q) (h2 : 0 < c) (h3 : -149 ≤ q) : 0 < Op.cmpValue (FP.fcmp x FP.fconst0) .g := by
  have h1 : 1 ≤ 2 ^ (q - -149).toNat := Nat.one_le_two_pow
  have h4 : 1 * 1 ≤ c * 2 ^ (q - -149).toNat := Nat.mul_le_mul h2 h1
  rw [v_cmp h v_zero, show min q (-149) = -149 by omega, FP.Core.inUnits, FP.Core.inUnits, cI_gt (by omega)]
  decide
/-- halving: z times -/
theorem fD_up {c : Nat} (h1 : 8388608 ≤ c) (h2 : c < 16777216) : ∀ (z j : Nat) (x : UInt32) (e : Int32), z ≤ j → z ≤ 100 → FP.Core.val32 x = .fin false c ((z : Int) - 23) → okD j x = true ∧ FP.Core.val32 (fD j x e).1 = .fin false c (-23) ∧ (fD j x e).2 = e + nI z
  | 0, 0, x, e, _, _, h => ⟨rfl, h, by rw [fD, nI_0]; simp⟩
  | 0, j + 1, x, e, _, _, h => by
    have hc := c2_lt h h2 (by omega)
    rw [okD, fD, if_pos hc, if_pos hc, nI_0]
    exact ⟨rfl, h, by simp⟩
  | z + 1, 0, x, e, hj, _, h => by omega
  | z + 1, j + 1, x, e, hj, hz, h => by
    have hc := c2_ge h h1 (by omega)
    have hv := v_div2 h h1 h2 (by omega) (by omega)
    rw [show ((z + 1 : Nat) : Int) - 23 - 1 = (z : Int) - 23 by omega] at hv
    rw [okD, fD, if_neg hc, if_neg hc, v_n32 hv]
    obtain ⟨g1, g2, g3⟩ := fD_up h1 h2 z j (FP.fdiv x FP.fconst2) (e + 1) (by omega) (by omega) hv
    refine ⟨by rw [g1]; rfl, g2, ?_⟩
    rw [g3, nI_succ, Int32.add_assoc, Int32.add_comm 1]
theorem fD_dn {c : Nat} (h2 : c < 16777216) {q : Int} (hq : q ≤ -23) : ∀ (j : Nat) (x : UInt32) (e : Int32), FP.Core.val32 x = .fin false c q → okD j x = true ∧ fD j x e = (x, e)
  | 0, x, e, h => ⟨rfl, rfl⟩
  | j + 1, x, e, h => by
    have hc := c2_lt h h2 hq
    rw [okD, fD, if_pos hc, if_pos hc]
    exact ⟨rfl, rfl⟩
theorem fU_up {c : Nat} (h1 : 8388608 ≤ c) (h2 : c < 16777216) : ∀ (z j : Nat) (x : UInt32) (e : Int32), z ≤ j → z ≤ 100 → FP.Core.val32 x = .fin false c (-23 - (z : Int)) → okU j x = true ∧ FP.Core.val32 (fU j x e).1 = .fin false c (-23) ∧ (fU j x e).2 = e - nI z
  | 0, 0, x, e, _, _, h => ⟨rfl, h, by rw [fU, nI_0]; simp⟩
  | 0, j + 1, x, e, _, _, h => by
    have hc := c1_ge (x := x) (c := c) h h1
    rw [okU, fU, if_neg hc, if_neg hc, nI_0]
    exact ⟨rfl, h, by simp⟩
  | z + 1, 0, x, e, hj, _, h => by omega
  | z + 1, j + 1, x, e, hj, hz, h => by
    have hc := c1_lt h h2 (by omega)
    have hv := v_mul2 h h1 h2 (by omega) (by omega)
    rw [show (-23 : Int) - ((z + 1 : Nat) : Int) + 1 = -23 - (z : Int) by omega] at hv
    rw [okU, fU, if_pos hc, if_pos hc, v_n32 hv]
    obtain ⟨g1, g2, g3⟩ := fU_up h1 h2 z j (FP.fmul x FP.fconst2) (e + -1) (by omega) (by omega) hv
    refine ⟨by rw [g1]; rfl, g2, ?_⟩
    rw [g3, nI_succ, Int32.sub_eq_add_neg, Int32.sub_eq_add_neg, Int32.neg_add, Int32.add_assoc, Int32.add_comm (-1), Int32.sub_eq_add_neg]
/-- a small number, rounded: exact -/
theorem v_nat {m : Nat} (h0 : 0 < m) (h1 : m < 16777216) {e : Int} (h2 : -100 ≤ e) (h3 : e ≤ 100) : ∃ k : Nat, k ≤ 23 ∧ 8388608 ≤ m * 2 ^ k ∧ m * 2 ^ k < 16777216 ∧ FP.Core.roundRatio FP.Core.b32 false m 1 e = .fin false (m * 2 ^ k) (e - (k : Int)) := by
  have a1 : 2 ^ m.log2 ≤ m := Nat.log2_self_le (by omega)
  have a2 : m < 2 ^ (m.log2 + 1) := Nat.lt_log2_self
  have a3 : m.log2 ≤ 23 := by
    by_cases h : m.log2 ≤ 23
    · exact h
    · have : 2 ^ 24 ≤ 2 ^ m.log2 := Nat.pow_le_pow_right (by decide) (by omega)
      omega
  have b1 : 2 ^ m.log2 * 2 ^ (23 - m.log2) = 8388608 := by rw [← Nat.pow_add, show m.log2 + (23 - m.log2) = 23 by omega]
  have b2 : 2 ^ (m.log2 + 1) * 2 ^ (23 - m.log2) = 16777216 := by rw [← Nat.pow_add, show m.log2 + 1 + (23 - m.log2) = 24 by omega]
  have c1 : 8388608 ≤ m * 2 ^ (23 - m.log2) := by rw [← b1]; exact Nat.mul_le_mul_right _ a1
  have c2 : m * 2 ^ (23 - m.log2) < 16777216 := by rw [← b2]; exact Nat.mul_lt_mul_of_pos_right a2 (Nat.two_pow_pos _)
  refine ⟨23 - m.log2, by omega, c1, c2, FP.Core.roundRatio_exact FP.Core.good_b32 (by decide) (fit32 c2 (by omega) (by omega) (Or.inr c1)) ?_⟩
  rw [show (e - (e - ((23 - m.log2 : Nat) : Int))).toNat = 23 - m.log2 by omega, show (e - ((23 - m.log2 : Nat) : Int) - e).toNat = 0 by omega]
  omega
/-- what is over of the mantissa -/
theorem v_frac {y : UInt32} {c : Nat} (h : FP.Core.val32 y = .fin false c (-23)) (h1 : 8388608 ≤ c) (h2 : c < 16777216) : n32 (FP.fsub y FP.fconst1) = true ∧ n32 (FP.fmul (FP.fsub y FP.fconst1) 1258291200) = true ∧ FP.f2i (FP.fmul (FP.fsub y FP.fconst1) 1258291200) = nI (c - 8388608) := by
  obtain ⟨m, em⟩ : ∃ m, m = c - 8388608 := ⟨_, rfl⟩
  rw [← em]
  have e1 : FP.Core.val32 (FP.fsub y FP.fconst1) = FP.Core.roundRatio FP.Core.b32 false m 1 (-23) := by
    rw [show FP.fsub y FP.fconst1 = FP.Core.fsub y FP.fconst1 from rfl, FP.Core.val32_fsub, h, v_one]
    have e2 : FP.Core.exactSum (.fin false c (-23)) (FP.Core.negate (.fin false (2 ^ 23) (-23))) = .fin false m (-23) := by
      show FP.Core.Datum.fin (FP.Core.sumSign false true (FP.Core.sumUnits false c (-23) true (2 ^ 23) (-23) (-23))) (FP.Core.sumUnits false c (-23) true (2 ^ 23) (-23) (-23)).natAbs (-23) = _
      have e3 : FP.Core.sumUnits false c (-23) true (2 ^ 23) (-23) (-23) = (m : Int) := by
        show ((c * 1 : Nat) : Int) + -((2 ^ 23 * 1 : Nat) : Int) = _
        omega
      have e9 : FP.Core.sumSign false true (m : Int) = false := by
        unfold FP.Core.sumSign
        split
        · rfl
        · exact decide_eq_false (by omega)
      rw [e3, e9, Int.natAbs_natCast]
    rw [e2]
    rfl
  by_cases hm : m = 0
  · rw [hm] at e1
    have e4 : FP.Core.val32 (FP.fsub y FP.fconst1) = .fin false 0 (-149) := e1
    have e5 : FP.fsub y FP.fconst1 = 0 := by
      rw [← FP.Core.of32_val32 (a := FP.fsub y FP.fconst1) (by rw [e4]; exact fun z => by cases z), e4]
      decide +kernel
    rw [e5, hm]
    refine ⟨?_, ?_, ?_⟩ <;> decide +kernel
  · obtain ⟨k, g0, g1, g2, g3⟩ := v_nat (m := m) (by omega) (by omega) (e := -23) (by omega) (by omega)
    rw [g3] at e1
    have e6 : FP.Core.val32 (FP.fmul (FP.fsub y FP.fconst1) 1258291200) = .fin false (m * 2 ^ k) (-(k : Int)) := by
      rw [show FP.fmul (FP.fsub y FP.fconst1) 1258291200 = FP.Core.fmul (FP.fsub y FP.fconst1) 1258291200 from rfl, FP.Core.val32_fmul, e1, v_big]
      show FP.Core.roundRatio FP.Core.b32 (false != false) (m * 2 ^ k * 2 ^ 23) 1 (-23 - (k : Int) + 0) = _
      refine FP.Core.roundRatio_exact FP.Core.good_b32 (by decide) (fit32 g2 (by omega) (by omega) (Or.inr g1)) ?_
      rw [show (-23 - (k : Int) + 0 - -(k : Int)).toNat = 0 by omega, show (-(k : Int) - (-23 - (k : Int) + 0)).toNat = 23 by omega]
      omega
    refine ⟨v_n32 e1, v_n32 e6, ?_⟩
    show FP.Core.toI (FP.Core.val32 (FP.fmul (FP.fsub y FP.fconst1) 1258291200)) = _
    rw [e6]
    show Int32.ofInt (max (-2 ^ 31) (min (2 ^ 31 - 1) ((m * 2 ^ k * 2 ^ (-(k : Int)).toNat / 2 ^ (- -(k : Int)).toNat : Nat) : Int))) = _
    rw [show (-(k : Int)).toNat = 0 by omega, show (- -(k : Int)).toNat = k by omega, Nat.pow_zero, Nat.mul_one, Nat.mul_div_cancel _ (Nat.two_pow_pos k)]
    rw [show max (-2 ^ 31 : Int) (min (2 ^ 31 - 1) (m : Int)) = (m : Int) by omega]
    rfl
/-- the bits of a number of ordinary size -/
theorem v_bits {x : UInt32} {c : Nat} {q : Int} (h : FP.Core.val32 x = .fin false c q) (h1 : 8388608 ≤ c) (h2 : c < 16777216) (h3 : -149 ≤ q) (h4 : q ≤ 50) : x = UInt32.ofNat (((q + 149).toNat + 1) * 8388608 + (c - 8388608)) := by
  rw [← FP.Core.of32_val32 (a := x) (by rw [h]; exact fun z => by cases z), h]
  show UInt32.ofNat (FP.Core.encode FP.Core.b32 (.fin false c q)) = _
  refine congrArg UInt32.ofNat ?_
  show (if c < 8388608 then FP.Core.assemble FP.Core.b32 false 0 c else FP.Core.assemble FP.Core.b32 false ((q - -149).toNat + 1) (c - 8388608)) = _
  rw [if_neg (by omega)]
  show (0 * 256 + ((q - -149).toNat + 1)) * 8388608 + (c - 8388608) = _
  rw [show q - -149 = q + 149 by omega]
  omega
theorem sh_z : ∀ z, z < 40 → (nI (110 + z)) <<< (23 &&& 31) = nI ((110 + z) * 8388608) := by decide +kernel
theorem nI_add2 (a b : Nat) : nI a + nI b = nI (a + b) := by
  show Int32.ofInt a + Int32.ofInt b = Int32.ofInt ((a + b : Nat) : Int)
  rw [← Int32.ofInt_add]
  rfl
theorem nI_u32 (n : Nat) : nI n = (UInt32.ofNat n).toInt32 := by
  apply Int32.toBitVec_inj.mp
  show BitVec.ofInt 32 (n : Int) = BitVec.ofNat 32 n
  rw [BitVec.ofInt_natCast]
theorem nI_127 : (127 : Int32) = nI 127 := by decide
theorem fB_ok {x : UInt32} {c : Nat} {q : Int} (h : FP.Core.val32 x = .fin false c q) (h1 : 8388608 ≤ c) (h2 : c < 16777216) (h3 : -33 ≤ q) (h4 : q ≤ -10) : okB x = true ∧ fB x = x.toInt32 := by
  have h0 := c0_gt h (by omega) (by omega)
  have hb := v_bits h h1 h2 (by omega) (by omega)
  have key : okD 127 x = true ∧ okU 126 (fD 127 x 127).1 = true ∧ FP.Core.val32 (fU 126 (fD 127 x 127).1 (fD 127 x 127).2).1 = .fin false c (-23) ∧ (fU 126 (fD 127 x 127).1 (fD 127 x 127).2).2 = nI ((q + 150).toNat) := by
    by_cases hq : -23 ≤ q
    · obtain ⟨z, hz⟩ : ∃ z : Nat, q = (z : Int) - 23 := ⟨(q + 23).toNat, by omega⟩
      obtain ⟨a1, a2, a3⟩ := fD_up h1 h2 z 127 x 127 (by omega) (by omega) (by rw [h, hz])
      obtain ⟨b1, b2, b3⟩ := fU_up h1 h2 0 126 (fD 127 x 127).1 (fD 127 x 127).2 (by omega) (by omega) (by rw [a2]; rfl)
      refine ⟨a1, b1, b2, ?_⟩
      rw [b3, a3, nI_0, show (q + 150).toNat = 127 + z by omega, ← nI_add2]
      simp [nI_127]
    · obtain ⟨z, hz⟩ : ∃ z : Nat, q = -23 - (z : Int) := ⟨(-23 - q).toNat, by omega⟩
      obtain ⟨a1, a2⟩ := fD_dn h2 (q := q) (by omega) 127 x 127 h
      obtain ⟨b1, b2, b3⟩ := fU_up h1 h2 z 126 (fD 127 x 127).1 (fD 127 x 127).2 (by omega) (by omega) (by rw [a2, h, hz])
      refine ⟨a1, b1, b2, ?_⟩
      rw [b3, a2]
      have e : nI 127 = nI ((q + 150).toNat) + nI z := by rw [nI_add2]; congr 1; omega
      show (127 : Int32) - nI z = _
      rw [nI_127, e, Int32.add_sub_cancel]
  obtain ⟨k1, k2, k3, k4⟩ := key
  obtain ⟨f1, f2, f3⟩ := v_frac k3 h1 h2
  constructor
  · rw [okB, if_pos h0, k1, k2, okE, f1, f2]; rfl
  · rw [fB, if_pos h0, fE, k4, f3]
    obtain ⟨z, hz, ez⟩ : ∃ z, z < 40 ∧ (q + 150).toNat = 110 + z := ⟨(q + 150).toNat - 110, by omega, by omega⟩
    rw [ez, sh_z z hz, nI_add2, hb, show (q + 149).toNat + 1 = 110 + z by omega]
    exact nI_u32 _
theorem v_int {k : Nat} (h0 : 0 < k) (h1 : k < 16777216) : ∃ a : Nat, a ≤ 23 ∧ 8388608 ≤ k * 2 ^ a ∧ k * 2 ^ a < 16777216 ∧ FP.Core.val32 (FP.i2f (nI k)) = .fin false (k * 2 ^ a) (-(a : Int)) := by
  obtain ⟨a, g0, g1, g2, g3⟩ := v_nat h0 h1 (e := 0) (by omega) (by omega)
  refine ⟨a, g0, g1, g2, ?_⟩
  rw [show FP.i2f (nI k) = FP.Core.i2f (nI k) from rfl, FP.Core.val32_i2f, nI_toInt (by omega)]
  show FP.Core.roundRatio FP.Core.b32 (decide ((k : Int) < 0)) (k : Int).natAbs 1 0 = _
  rw [decide_eq_false (by omega), Int.natAbs_natCast, g3]
  congr 1
  omega
theorem v_quo {k d : Nat} (h0 : 0 < k) (h1 : k < 4000) (g0 : 0 < d) (g1 : d < 30) : ∃ (c : Nat) (q : Int), FP.Core.val32 (FP.fdiv (FP.i2f (nI k)) (FP.i2f (nI d))) = .fin false c q ∧ 8388608 ≤ c ∧ c < 16777216 ∧ -33 ≤ q ∧ q ≤ -10 := by
  obtain ⟨a, a0, a1, a2, a3⟩ := v_int h0 (by omega)
  obtain ⟨b, b0, b1, b2, b3⟩ := v_int g0 (by omega)
  have e1 : FP.Core.val32 (FP.fdiv (FP.i2f (nI k)) (FP.i2f (nI d))) = FP.Core.roundRatio FP.Core.b32 false k d 0 := by
    rw [show FP.fdiv (FP.i2f (nI k)) (FP.i2f (nI d)) = FP.Core.fdiv (FP.i2f (nI k)) (FP.i2f (nI d)) from rfl, FP.Core.val32_fdiv, a3, b3]
    show (if d * 2 ^ b = 0 then _ else FP.Core.roundRatio FP.Core.b32 (false != false) (k * 2 ^ a) (d * 2 ^ b) (-(a : Int) - -(b : Int))) = _
    rw [if_neg (by omega)]
    refine FP.Core.roundRatio_congr (by omega) g0 ?_
    by_cases hab : a ≤ b
    · rw [show (-(a : Int) - -(b : Int) - 0).toNat = b - a by omega, show (0 - (-(a : Int) - -(b : Int))).toNat = 0 by omega]
      have : 2 ^ b = 2 ^ a * 2 ^ (b - a) := by rw [← Nat.pow_add]; congr 1; omega
      rw [this]
      simp only [Nat.pow_zero, Nat.mul_one]
      ac_rfl
    · rw [show (-(a : Int) - -(b : Int) - 0).toNat = 0 by omega, show (0 - (-(a : Int) - -(b : Int))).toNat = a - b by omega]
      have : 2 ^ a = 2 ^ b * 2 ^ (a - b) := by rw [← Nat.pow_add]; congr 1; omega
      rw [this]
      simp only [Nat.pow_zero, Nat.mul_one]
      ac_rfl
  have hl : ∀ m n : Nat, 0 < m → m < 2 ^ n → m.log2 < n := fun m n h h' => (Nat.log2_lt (by omega)).mpr h'
  have l1 := hl k 12 h0 (by omega)
  have l2 := hl d 5 g0 (by omega)
  have l3 : -5 ≤ FP.Core.leading k d ∧ FP.Core.leading k d ≤ 11 := by
    unfold FP.Core.leading
    dsimp only
    split <;> omega
  have hq : FP.Core.quantum FP.Core.b32 k d 0 = FP.Core.leading k d - 23 := by
    show max (-149 : Int) (FP.Core.leading k d + 0 - (24 - 1)) = _
    omega
  have ht := FP.Core.roundRatio_fits FP.Core.good_b32 false k g0 0
  rw [e1]
  have hs : ∃ c q, FP.Core.roundRatio FP.Core.b32 false k d 0 = .fin false c q ∧ -33 ≤ q ∧ q ≤ -10 := by
    unfold FP.Core.roundRatio FP.Core.roundAt FP.Core.settle FP.Core.bound
    rw [if_neg (by omega), hq]
    have hm : FP.Core.b32.qmax = 104 := rfl
    split
    · rw [if_pos (by omega)]; exact ⟨_, _, rfl, by omega, by omega⟩
    · rw [if_pos (by omega)]; exact ⟨_, _, rfl, by omega, by omega⟩
  obtain ⟨c, q, es, q1, q2⟩ := hs
  rw [es] at ht ⊢
  obtain ⟨t1, t2, t3, t4⟩ := ht
  have t4' : q = -149 ∨ 8388608 ≤ c := t4
  have t1' : c < 16777216 := t1
  exact ⟨c, q, rfl, by omega, t1', q1, q2⟩
theorem q_ok {k d : Nat} (h1 : k < 4000) (g0 : 0 < d) (g1 : d < 30) : n32 (FP.fdiv (FP.i2f (nI k)) (FP.i2f (nI d))) = true ∧ okB (FP.fdiv (FP.i2f (nI k)) (FP.i2f (nI d))) = true ∧ fB (FP.fdiv (FP.i2f (nI k)) (FP.i2f (nI d))) = (FP.fdiv (FP.i2f (nI k)) (FP.i2f (nI d))).toInt32 := by
  by_cases h0 : k = 0
  · subst h0
    have hz : ∀ d, d < 30 → 0 < d → FP.fdiv (FP.i2f (nI 0)) (FP.i2f (nI d)) = 0 := by decide +kernel
    rw [hz d g1 g0]
    refine ⟨?_, ?_, ?_⟩ <;> decide +kernel
  · obtain ⟨c, q, e, a1, a2, a3, a4⟩ := v_quo (k := k) (d := d) (by omega) h1 g0 g1
    obtain ⟨b1, b2⟩ := fB_ok e a1 a2 a3 a4
    exact ⟨v_n32 e, b1, b2⟩
theorem b_ok : ∀ b, b < 13 → ∀ n, n < 13 → n ≠ 0 → n64 (FP.ddiv (FP.i2d (nI b)) (FP.i2d (nI n))) = true := by decide +kernel
end P22
