abbrev V_X6_add (l : Launch) (As : List Value) (h : HP) (Z : Option Value ⊕ String → HP → Prop) : Prop := VM l yX6_add cX6_add 2 none 0 0 0 As h Z
abbrev Q_X6_add (l : Launch) (Z : Option Value ⊕ String → HP → Prop) (pc : Nat) (lf : Nat → Option Value) (st : List Value) (h : HP) : Prop := Q l RX6 cX6_add 2 0 0 0 (GM none 0 0 Z) pc lf st h 0 0
abbrev V_X6_empty (l : Launch) (As : List Value) (h : HP) (Z : Option Value ⊕ String → HP → Prop) : Prop := VM l yX6_empty cX6_empty 1 none 0 0 0 As h Z
abbrev Q_X6_empty (l : Launch) (Z : Option Value ⊕ String → HP → Prop) (pc : Nat) (lf : Nat → Option Value) (st : List Value) (h : HP) : Prop := Q l RX6 cX6_empty 1 0 0 0 (GM none 0 0 Z) pc lf st h 0 0
abbrev V_X6_rewind (l : Launch) (As : List Value) (h : HP) (Z : Option Value ⊕ String → HP → Prop) : Prop := VM l yX6_rewind cX6_rewind 1 none 0 0 0 As h Z
abbrev Q_X6_rewind (l : Launch) (Z : Option Value ⊕ String → HP → Prop) (pc : Nat) (lf : Nat → Option Value) (st : List Value) (h : HP) : Prop := Q l RX6 cX6_rewind 1 0 0 0 (GM none 0 0 Z) pc lf st h 0 0
abbrev V_X6_pass (l : Launch) (As : List Value) (h : HP) (Z : Option Value ⊕ String → HP → Prop) : Prop := VM l yX6_pass cX6_pass 1 none 0 0 0 As h Z
abbrev Q_X6_pass (l : Launch) (Z : Option Value ⊕ String → HP → Prop) (pc : Nat) (lf : Nat → Option Value) (st : List Value) (h : HP) : Prop := Q l RX6 cX6_pass 1 0 0 0 (GM none 0 0 Z) pc lf st h 0 0
abbrev V_X6_examine (l : Launch) (As : List Value) (h : HP) (Z : Option Value ⊕ String → HP → Prop) : Prop := VM l yX6_examine cX6_examine 1 none 5 0 0 As h Z
abbrev Q_X6_examine (l : Launch) (Z : Option Value ⊕ String → HP → Prop) (pc : Nat) (lf : Nat → Option Value) (st : List Value) (h : HP) : Prop := Q l RX6 cX6_examine 1 5 0 0 (GM none 0 0 Z) pc lf st h 0 0
abbrev V_X6_findFault (l : Launch) (As : List Value) (h : HP) (Z : Option Value ⊕ String → HP → Prop) : Prop := VM l yX6_findFault cX6_findFault 2 (some .int) 4 0 0 As h Z
abbrev Q_X6_findFault (l : Launch) (Z : Option Value ⊕ String → HP → Prop) (pc : Nat) (lf : Nat → Option Value) (st : List Value) (h : HP) : Prop := Q l RX6 cX6_findFault 2 4 0 0 (GM (some .int) 0 0 Z) pc lf st h 0 0
abbrev V_X6_readCommand (l : Launch) (As : List Value) (h : HP) (Z : Option Value ⊕ String → HP → Prop) : Prop := VM l yX6_readCommand cX6_readCommand 1 (some .boolean) 3 0 0 As h Z
abbrev Q_X6_readCommand (l : Launch) (Z : Option Value ⊕ String → HP → Prop) (pc : Nat) (lf : Nat → Option Value) (st : List Value) (h : HP) : Prop := Q l RX6 cX6_readCommand 1 3 0 0 (GM (some .boolean) 0 0 Z) pc lf st h 0 0
abbrev V_X6_readHook (l : Launch) (As : List Value) (h : HP) (Z : Option Value ⊕ String → HP → Prop) : Prop := VM l yX6_readHook cX6_readHook 1 (some .boolean) 2 0 0 As h Z
abbrev Q_X6_readHook (l : Launch) (Z : Option Value ⊕ String → HP → Prop) (pc : Nat) (lf : Nat → Option Value) (st : List Value) (h : HP) : Prop := Q l RX6 cX6_readHook 1 2 0 0 (GM (some .boolean) 0 0 Z) pc lf st h 0 0
abbrev V_X6_readNumber (l : Launch) (As : List Value) (h : HP) (Z : Option Value ⊕ String → HP → Prop) : Prop := VM l yX6_readNumber cX6_readNumber 4 (some .int) 1 0 0 As h Z
abbrev Q_X6_readNumber (l : Launch) (Z : Option Value ⊕ String → HP → Prop) (pc : Nat) (lf : Nat → Option Value) (st : List Value) (h : HP) : Prop := Q l RX6 cX6_readNumber 4 1 0 0 (GM (some .int) 0 0 Z) pc lf st h 0 0
abbrev V_X6_signNow (l : Launch) (As : List Value) (h : HP) (Z : Option Value ⊕ String → HP → Prop) : Prop := VM l yX6_signNow cX6_signNow 1 (some .char) 0 0 0 As h Z
abbrev Q_X6_signNow (l : Launch) (Z : Option Value ⊕ String → HP → Prop) (pc : Nat) (lf : Nat → Option Value) (st : List Value) (h : HP) : Prop := Q l RX6 cX6_signNow 1 0 0 0 (GM (some .char) 0 0 Z) pc lf st h 0 0
abbrev V_X6_isDigit (l : Launch) (As : List Value) (h : HP) (Z : Option Value ⊕ String → HP → Prop) : Prop := VM l yX6_isDigit cX6_isDigit 1 (some .boolean) 0 0 0 As h Z
abbrev Q_X6_isDigit (l : Launch) (Z : Option Value ⊕ String → HP → Prop) (pc : Nat) (lf : Nat → Option Value) (st : List Value) (h : HP) : Prop := Q l RX6 cX6_isDigit 1 0 0 0 (GM (some .boolean) 0 0 Z) pc lf st h 0 0
theorem mst_mst {M : MM} {a k : Nat} {x y : Int32} : mst (mst M a k x) a k y = mst M a k y := by
  funext b j
  by_cases h : b = a ∧ j = k <;> simp [mst, h]
theorem mst_id {M : MM} {a k : Nat} {x : Int32} (h : M a k = x) : mst M a k x = M := by
  funext b j
  by_cases hh : b = a ∧ j = k
  · obtain ⟨rfl, rfl⟩ := hh
    simp [mst, h]
  · simp [mst, hh]
theorem mst_sw {M : MM} {a k j : Nat} {x y : Int32} (h : k ≠ j) : mst (mst M a k x) a j y = mst (mst M a j y) a k x := by
  funext b i
  by_cases h1 : b = a ∧ i = k
  · obtain ⟨rfl, rfl⟩ := h1
    simp [mst, h]
  · by_cases h2 : b = a ∧ i = j
    · obtain ⟨rfl, rfl⟩ := h2
      simp [mst, Ne.symm h]
    · simp [mst, h1, h2]
/-- the sign at the place p of a text of L signs -/
def sg (t : Nat → Int32) (L p : Nat) : Int32 := if p < L then t p else 0
def dig (x : Int32) : Bool := !decide (x < 48) && !decide (57 < x)
theorem dig0 : dig 0 = false := by decide
theorem sg_lt {t : Nat → Int32} {L p : Nat} {x : Int32} (h : sg t L p = x) (hx : x ≠ 0) : p < L := by
  by_cases hp : p < L
  · exact hp
  · rw [sg, if_neg hp] at h
    exact absurd h.symm hx
theorem dig_lt {t : Nat → Int32} {L p : Nat} (h : dig (sg t L p) = true) : p < L := by
  by_cases hp : p < L
  · exact hp
  · rw [sg, if_neg hp, dig0] at h
    cases h
/-- a number of one or two figures: its value, or -1; the place behind it -/
def rdN (t : Nat → Int32) (L m p : Nat) : Int32 × Nat :=
  if dig (sg t L p) = false then (-1, p) else if m = 1 then (0 * 10 + (sg t L p - 48), p + 1) else if dig (sg t L (p + 1)) = false then (0 * 10 + (sg t L p - 48), p + 1) else ((0 * 10 + (sg t L p - 48)) * 10 + (sg t L (p + 1) - 48), p + 2)
theorem rdN_le {t : Nat → Int32} {L m p : Nat} (h : p ≤ L) : (rdN t L m p).2 ≤ L := by
  unfold rdN
  by_cases h1 : dig (sg t L p) = false
  · rw [if_pos h1]; exact h
  · have h3 := dig_lt (by simpa using h1)
    rw [if_neg h1]
    split
    · exact h3
    · by_cases h2 : dig (sg t L (p + 1)) = false
      · rw [if_pos h2]; exact h3
      · rw [if_neg h2]
        have h4 := dig_lt (t := t) (L := L) (p := p + 1) (by simpa using h2)
        show p + 2 ≤ L
        omega
def kc (k : Int32) : Nat := if k = 100 then 1 else if k = 102 ∨ k = 119 ∨ k = 97 then 2 else if k = 98 ∨ k = 111 ∨ k = 116 ∨ k = 108 ∨ k = 110 ∨ k = 115 ∨ k = 120 then 3 else if k = 104 then 4 else 0
/-- the rack and the hook of a command, behind its fish -/
def hkM (t : Nat → Int32) (M : MM) (L p : Nat) : Bool × Nat × MM :=
  if sg t L p = 47 then
    (if (rdN t L 1 (p + 1)).1 = -1 then (false, (rdN t L 1 (p + 1)).2, mst (mst M 460 4 (nI (rdN t L 1 (p + 1)).2)) 460 7 (rdN t L 1 (p + 1)).1)
    else (!((rdN t L 1 (rdN t L 1 (p + 1)).2).1 == -1), (rdN t L 1 (rdN t L 1 (p + 1)).2).2, mst (mst (mst (mst M 460 4 (nI (rdN t L 1 (p + 1)).2)) 460 7 (rdN t L 1 (p + 1)).1) 460 4 (nI (rdN t L 1 (rdN t L 1 (p + 1)).2).2)) 460 8 (rdN t L 1 (rdN t L 1 (p + 1)).2).1))
  else (false, p, M)
/-- a command read at p: whether it is one; the place behind; the memory -/
def pcM (t : Nat → Int32) (M : MM) (L p : Nat) : Bool × Nat × MM :=
  if kc (sg t L p) = 1 then (true, p + 1, mst (mst M 460 5 (sg t L p)) 460 4 (nI (p + 1)))
  else if kc (sg t L p) = 2 then (!((rdN t L 1 (p + 1)).1 == -1), (rdN t L 1 (p + 1)).2, mst (mst (mst M 460 5 (sg t L p)) 460 4 (nI (rdN t L 1 (p + 1)).2)) 460 6 (rdN t L 1 (p + 1)).1)
  else if kc (sg t L p) = 3 then (!((rdN t L 2 (p + 1)).1 == -1), (rdN t L 2 (p + 1)).2, mst (mst (mst M 460 5 (sg t L p)) 460 4 (nI (rdN t L 2 (p + 1)).2)) 460 6 (rdN t L 2 (p + 1)).1)
  else if kc (sg t L p) = 4 then
    (if (rdN t L 2 (p + 1)).1 = -1 then (false, (rdN t L 2 (p + 1)).2, mst (mst (mst M 460 5 (sg t L p)) 460 4 (nI (rdN t L 2 (p + 1)).2)) 460 6 (rdN t L 2 (p + 1)).1)
    else hkM t (mst (mst (mst M 460 5 (sg t L p)) 460 4 (nI (rdN t L 2 (p + 1)).2)) 460 6 (rdN t L 2 (p + 1)).1) L (rdN t L 2 (p + 1)).2)
  else (false, p, mst M 460 5 (sg t L p))
theorem hkM_le {t : Nat → Int32} {M : MM} {L p : Nat} (h : p ≤ L) : (hkM t M L p).2.1 ≤ L := by
  unfold hkM
  split
  · rename_i h1
    have h2 := sg_lt h1 (by decide)
    split
    · exact rdN_le (by omega)
    · exact rdN_le (rdN_le (by omega))
  · exact h
theorem kc0 : kc 0 = 0 := by decide
theorem kc_lt {t : Nat → Int32} {L p : Nat} (h : kc (sg t L p) ≠ 0) : p < L := by
  by_cases hp : p < L
  · exact hp
  · rw [sg, if_neg hp, kc0] at h
    exact absurd rfl h
theorem pcM_le {t : Nat → Int32} {M : MM} {L p : Nat} (h : p ≤ L) : (pcM t M L p).2.1 ≤ L := by
  unfold pcM
  split
  · rename_i h1
    exact kc_lt (by rw [h1]; decide)
  · split
    · rename_i h1
      exact rdN_le (kc_lt (by rw [h1]; decide))
    · split
      · rename_i h1
        exact rdN_le (kc_lt (by rw [h1]; decide))
      · split
        · rename_i h1
          have h2 := kc_lt (t := t) (L := L) (p := p) (by rw [h1]; decide)
          split
          · exact rdN_le h2
          · exact hkM_le (rdN_le h2)
        · exact h
theorem toInt_u32 {u : UInt32} (h : u.toNat < 65536) : u.toInt32.toInt = (u.toNat : Int) := by
  show u.toBitVec.toInt = (u.toBitVec.toNat : Int)
  have h1 : u.toBitVec.toNat < 65536 := h
  rw [BitVec.toInt_eq_toNat_cond]
  split <;> omega
theorem chr_ok {t : Nat → Int32} {L p : Nat} (hC : ∀ k, isC (t k)) (_ : p ≤ L) : narrow .char (.int (sg t L p)) = .int (sg t L p) ∧ fits .char (.int (sg t L p)) = true := by
  have h1 : isC (sg t L p) := by
    unfold sg
    split
    · exact hC p
    · rfl
  refine ⟨h1, ?_⟩
  have h2 : ((sg t L p).toUInt32 % 65536).toInt32 = sg t L p := by
    have h3 : Value.int ((sg t L p).toUInt32 % 65536).toInt32 = .int (sg t L p) := h1
    injection h3
  have h4 : (sg t L p).toInt = (((sg t L p).toUInt32 % 65536).toNat : Int) := by
    have h5 := congrArg Int32.toInt h2
    rw [← h5]
    have h6 : ((sg t L p).toUInt32 % 65536).toNat < 65536 := by
      rw [UInt32.toNat_mod]
      exact Nat.mod_lt _ (by decide)
    exact toInt_u32 h6
  have h6 : ((sg t L p).toUInt32 % 65536).toNat < 65536 := by
    rw [UInt32.toNat_mod]
    exact Nat.mod_lt _ (by decide)
  have g1 : (0 : Int32) ≤ sg t L p := Int32.le_iff_toInt_le.mpr (by rw [h4]; exact Int.natCast_nonneg _)
  have g2 : sg t L p ≤ (65535 : Int32) := Int32.le_iff_toInt_le.mpr (by rw [h4]; have : (65535 : Int32).toInt = 65535 := rfl; omega)
  simp [fits, g1, g2]
/-- slots 4 to 8 of the script alone -/
def scO (M M' : MM) : Prop := ∀ a k, (a ≠ 460 ∨ k < 4 ∨ 8 < k) → M' a k = M a k
theorem scO_rf {M : MM} : scO M M := fun _ _ _ => rfl
theorem scO_st {M M' : MM} {k : Nat} {x : Int32} (hk : 4 ≤ k ∧ k ≤ 8) (h : scO M M') : scO M (mst M' 460 k x) := fun a j hj => by
  rw [mst_ne (by rcases hj with h1 | h1 | h1 <;> first | exact Or.inl h1 | exact Or.inr (by omega))]
  exact h a j hj
theorem hkM_scO {t : Nat → Int32} {M0 M : MM} {L p : Nat} (h : scO M0 M) : scO M0 (hkM t M L p).2.2 := by
  unfold hkM
  split
  · split
    · exact scO_st (by omega) (scO_st (by omega) h)
    · exact scO_st (by omega) (scO_st (by omega) (scO_st (by omega) (scO_st (by omega) h)))
  · exact h
theorem pcM_scO {t : Nat → Int32} {M : MM} {L p : Nat} : scO M (pcM t M L p).2.2 := by
  unfold pcM
  split
  · exact scO_st (by omega) (scO_st (by omega) scO_rf)
  · split
    · exact scO_st (by omega) (scO_st (by omega) (scO_st (by omega) scO_rf))
    · split
      · exact scO_st (by omega) (scO_st (by omega) (scO_st (by omega) scO_rf))
      · split
        · split
          · exact scO_st (by omega) (scO_st (by omega) (scO_st (by omega) scO_rf))
          · exact hkM_scO (scO_st (by omega) (scO_st (by omega) (scO_st (by omega) scO_rf)))
        · exact scO_st (by omega) scO_rf
theorem hkM_cu {t : Nat → Int32} {M : MM} {L p : Nat} (h : M 460 4 = nI p) : (hkM t M L p).2.2 460 4 = nI (hkM t M L p).2.1 := by
  unfold hkM
  split
  · split <;> simp [mst]
  · exact h
theorem pcM_cu {t : Nat → Int32} {M : MM} {L p : Nat} (h : M 460 4 = nI p) : (pcM t M L p).2.2 460 4 = nI (pcM t M L p).2.1 := by
  unfold pcM
  split
  · simp [mst]
  · split
    · simp [mst]
    · split
      · simp [mst]
      · split
        · split
          · simp [mst]
          · exact hkM_cu (by simp [mst])
        · simpa [mst] using h
/-- the fault of a text from the place p on, the m-th command first -/
def ffM (t : Nat → Int32) (L : Nat) : Nat → Nat → Nat → MM → Int32 × MM
  | 0, _, p, M => (nI p, M)
  | f + 1, m, p, M => if (pcM t M L p).1 = false then (nI (pcM t M L p).2.1, (pcM t M L p).2.2) else if (pcM t M L p).2.1 = L then (-1, mst (pcM t M L p).2.2 460 3 (nI m)) else if sg t L (pcM t M L p).2.1 = 59 then ffM t L f (m + 1) ((pcM t M L p).2.1 + 1) (mst (pcM t M L p).2.2 460 4 (nI ((pcM t M L p).2.1 + 1))) else (nI (pcM t M L p).2.1, (pcM t M L p).2.2)
section P16
variable {M : MM} {r : MR}
theorem s_X6_isDigit {l : Launch} (hf : l.stackTraces = false) {x : Int32} : V_X6_isDigit l [.int x] (hp M r) (VI (zb (dig x)) (hp M r)) := by
  refine VM.intro (lf := L9 (some (.int x)) none none none none none none none none) (by decide +kernel) hf (fun _ => (Nat.le_of_ble_eq_true rfl)) (fun _ => rfl) ?_
  refine R_iload_n dX6_isDigit_0 rfl rfl ?_
  refine R_bipush (v := 48) dX6_isDigit_1 (by decide) ?_
  refine R_icmp_lt (tgt := 16) dX6_isDigit_3 rfl (fun c1 => ?_) (fun c1 => ?_)
  · refine R_iconst (v := 0) dX6_isDigit_16 (by decide) ?_
    refine R_iret dX6_isDigit_17 rfl (Nat.le_of_ble_eq_true rfl) (Nat.le_of_ble_eq_true rfl) ?_
    refine ⟨?_, rfl⟩
    simp_all [-Int32.not_lt, zb, dig]
  · refine R_iload_n dX6_isDigit_6 rfl rfl ?_
    refine R_bipush (v := 57) dX6_isDigit_7 (by decide) ?_
    refine R_icmp_gt (tgt := 16) dX6_isDigit_9 rfl (fun c2 => ?_) (fun c2 => ?_)
    · refine R_iconst (v := 0) dX6_isDigit_16 (by decide) ?_
      refine R_iret dX6_isDigit_17 rfl (Nat.le_of_ble_eq_true rfl) (Nat.le_of_ble_eq_true rfl) ?_
      refine ⟨?_, rfl⟩
      simp_all [-Int32.not_lt, zb, dig]
    · refine R_iconst (v := 1) dX6_isDigit_12 (by decide) ?_
      refine R_goto (tgt := 17) dX6_isDigit_13 rfl ?_
      refine R_iret dX6_isDigit_17 rfl (Nat.le_of_ble_eq_true rfl) (Nat.le_of_ble_eq_true rfl) ?_
      refine ⟨?_, rfl⟩
      simp_all [-Int32.not_lt, zb, dig]
theorem s_X6_empty {l : Launch} (hf : l.stackTraces = false)  : V_X6_empty l [.ref 460] (hp M r) (VR none (hp (mst M 460 1 0) r)) := by
  refine VM.intro (lf := L9 (some (.ref 460)) none none none none none none none none) (by decide +kernel) hf (fun _ => (Nat.le_of_ble_eq_true rfl)) (fun _ => rfl) ?_
  refine R_aload_n dX6_empty_0 rfl rfl ?_
  refine R_iconst (v := 0) dX6_empty_1 (by decide) ?_
  refine G_put cok6 1 wf_X6_19 dX6_empty_2 (by first | exact rfl | assumption) rfl ⟨(Nat.le_of_ble_eq_true rfl), rfl, (Nat.le_of_ble_eq_true rfl)⟩ ⟨rfl, rfl⟩ ?_
  refine R_vret dX6_empty_5 (Nat.le_of_ble_eq_true rfl) (Nat.le_of_ble_eq_true rfl) ?_
  exact ⟨rfl, rfl⟩
theorem s_X6_rewind {l : Launch} (hf : l.stackTraces = false)  : V_X6_rewind l [.ref 460] (hp M r) (VR none (hp (mst M 460 4 0) r)) := by
  refine VM.intro (lf := L9 (some (.ref 460)) none none none none none none none none) (by decide +kernel) hf (fun _ => (Nat.le_of_ble_eq_true rfl)) (fun _ => rfl) ?_
  refine R_aload_n dX6_rewind_0 rfl rfl ?_
  refine R_iconst (v := 0) dX6_rewind_1 (by decide) ?_
  refine G_put cok6 4 wf_X6_22 dX6_rewind_2 (by first | exact rfl | assumption) rfl ⟨(Nat.le_of_ble_eq_true rfl), rfl, (Nat.le_of_ble_eq_true rfl)⟩ ⟨rfl, rfl⟩ ?_
  refine R_vret dX6_rewind_5 (Nat.le_of_ble_eq_true rfl) (Nat.le_of_ble_eq_true rfl) ?_
  exact ⟨rfl, rfl⟩
theorem s_X6_pass {l : Launch} (hf : l.stackTraces = false) {p : Nat} (hcu : M 460 4 = nI p) : V_X6_pass l [.ref 460] (hp M r) (VR none (hp (mst M 460 4 (nI (p + 1))) r)) := by
  refine VM.intro (lf := L9 (some (.ref 460)) none none none none none none none none) (by decide +kernel) hf (fun _ => (Nat.le_of_ble_eq_true rfl)) (fun _ => rfl) ?_
  refine R_aload_n dX6_pass_0 rfl rfl ?_
  refine R_dup dX6_pass_1 rfl ?_
  refine G_get cok6 4 wf_X6_22 dX6_pass_2 (by first | exact rfl | assumption) ⟨(Nat.le_of_ble_eq_true rfl), (Nat.le_of_ble_eq_true rfl)⟩ rfl ?_
  refine R_iconst (v := 1) dX6_pass_5 (by decide) ?_
  refine R_iadd dX6_pass_6 ?_
  refine G_put cok6 4 wf_X6_22 dX6_pass_7 (by first | exact rfl | assumption) rfl ⟨(Nat.le_of_ble_eq_true rfl), rfl, (Nat.le_of_ble_eq_true rfl)⟩ ⟨rfl, rfl⟩ ?_
  refine R_vret dX6_pass_10 (Nat.le_of_ble_eq_true rfl) (Nat.le_of_ble_eq_true rfl) ?_
  rw [hcu, nI_1]
  exact ⟨rfl, rfl⟩
theorem s_X6_add {l : Launch} (hf : l.stackTraces = false) {m : Nat} {c : Int32} (hm : M 460 1 = nI m) (h60 : m < 60) : V_X6_add l [.ref 460, .int c] (hp M r) (VR none (hp (mst (mst M 461 m (vp_nar .char c)) 460 1 (nI (m + 1))) r)) := by
  refine VM.intro (lf := L9 (some (.ref 460)) (some (.int c)) none none none none none none none) (by decide +kernel) hf (fun _ => (Nat.le_of_ble_eq_true rfl)) (fun _ => rfl) ?_
  refine R_aload_n dX6_add_0 rfl rfl ?_
  refine G_get cok6 1 wf_X6_19 dX6_add_1 (by first | exact rfl | assumption) ⟨(Nat.le_of_ble_eq_true rfl), (Nat.le_of_ble_eq_true rfl)⟩ rfl ?_
  refine R_aload_n dX6_add_4 rfl rfl ?_
  refine G_get cok6 0 wf_X6_9 dX6_add_5 (by first | exact rfl | assumption) ⟨(Nat.le_of_ble_eq_true rfl), (Nat.le_of_ble_eq_true rfl)⟩ rfl ?_
  refine G_alen (v := 60) dX6_add_8 (show sK 461 = 11 from rfl) (by decide) (fun _ => rfl) rfl rfl rfl ?_
  refine R_icmp_ge_f (tgt := 32) dX6_add_9 rfl (by rw [hm]; exact nI_ge (b := 60) (by omega) (by omega)) ?_
  refine R_aload_n dX6_add_12 rfl rfl ?_
  refine G_get cok6 0 wf_X6_9 dX6_add_13 (by first | exact rfl | assumption) ⟨(Nat.le_of_ble_eq_true rfl), (Nat.le_of_ble_eq_true rfl)⟩ rfl ?_
  refine R_aload_n dX6_add_16 rfl rfl ?_
  refine G_get cok6 1 wf_X6_19 dX6_add_17 (by first | exact rfl | assumption) ⟨(Nat.le_of_ble_eq_true rfl), (Nat.le_of_ble_eq_true rfl)⟩ rfl ?_
  refine R_iload_n dX6_add_20 rfl rfl ?_
  rw [hm]
  refine G_cast dX6_add_21 (show sK 461 = 11 from rfl) (nI_in12 (n := 60) h60 (by omega)) ?_
  refine R_aload_n dX6_add_22 rfl rfl ?_
  refine R_dup dX6_add_23 rfl ?_
  refine G_get cok6 1 wf_X6_19 dX6_add_24 (by first | exact rfl | assumption) ⟨(Nat.le_of_ble_eq_true rfl), (Nat.le_of_ble_eq_true rfl)⟩ rfl ?_
  refine R_iconst (v := 1) dX6_add_27 (by decide) ?_
  refine R_iadd dX6_add_28 ?_
  refine G_put cok6 1 wf_X6_19 dX6_add_29 (by first | exact rfl | assumption) rfl ⟨(Nat.le_of_ble_eq_true rfl), rfl, (Nat.le_of_ble_eq_true rfl)⟩ ⟨rfl, rfl⟩ ?_
  refine R_vret dX6_add_32 (Nat.le_of_ble_eq_true rfl) (Nat.le_of_ble_eq_true rfl) ?_
  refine ⟨rfl, congrArg (fun z => hp z r) ?_⟩
  rw [nI_cl (by omega), mst_ne1 (by decide), hm, nI_1]
theorem s_X6_signNow {l : Launch} (hf : l.stackTraces = false) {L p : Nat} (hL : M 460 1 = nI L) (hL60 : L ≤ 60) (hC : ∀ k, isC (M 461 k)) (hcu : M 460 4 = nI p) (hp60 : p ≤ L) : V_X6_signNow l [.ref 460] (hp M r) (VI (sg (M 461) L p) (hp M r)) := by
  have hlt : M 460 4 < M 460 1 → p < L := fun q => by rw [hcu, hL] at q; exact (nI_ltI (by omega) (by omega)).mp q
  have hge : ¬ M 460 4 < M 460 1 → ¬ p < L := fun q z => q (by rw [hcu, hL]; exact nI_lt z (by omega))
  refine VM.intro (lf := L9 (some (.ref 460)) none none none none none none none none) (by decide +kernel) hf (fun _ => (Nat.le_of_ble_eq_true rfl)) (fun _ => rfl) ?_
  refine R_aload_n dX6_signNow_0 rfl rfl ?_
  refine G_get cok6 4 wf_X6_22 dX6_signNow_1 (by first | exact rfl | assumption) ⟨(Nat.le_of_ble_eq_true rfl), (Nat.le_of_ble_eq_true rfl)⟩ rfl ?_
  refine R_if_lt_f (tgt := 42) dX6_signNow_4 rfl (by rw [hcu]; exact nI_pos (by omega)) ?_
  refine R_aload_n dX6_signNow_7 rfl rfl ?_
  refine G_get cok6 4 wf_X6_22 dX6_signNow_8 (by first | exact rfl | assumption) ⟨(Nat.le_of_ble_eq_true rfl), (Nat.le_of_ble_eq_true rfl)⟩ rfl ?_
  refine R_aload_n dX6_signNow_11 rfl rfl ?_
  refine G_get cok6 1 wf_X6_19 dX6_signNow_12 (by first | exact rfl | assumption) ⟨(Nat.le_of_ble_eq_true rfl), (Nat.le_of_ble_eq_true rfl)⟩ rfl ?_
  refine R_icmp_geN (tgt := 42) dX6_signNow_15 rfl (fun c1 => ?_) (fun c1 => ?_)
  · refine R_iconst (v := 0) dX6_signNow_42 (by decide) ?_
    refine R_iret dX6_signNow_43 (by first | rfl | (rw [nI_cl (by omega)]; exact hC _)) (Nat.le_of_ble_eq_true rfl) (Nat.le_of_ble_eq_true rfl) ?_
    refine ⟨?_, rfl⟩
    first | rw [sg, if_pos (hlt (by assumption)), nI_cl (by omega)] | rw [sg, if_neg (hge (by assumption))]
  · refine R_aload_n dX6_signNow_18 rfl rfl ?_
    refine G_get cok6 4 wf_X6_22 dX6_signNow_19 (by first | exact rfl | assumption) ⟨(Nat.le_of_ble_eq_true rfl), (Nat.le_of_ble_eq_true rfl)⟩ rfl ?_
    refine R_aload_n dX6_signNow_22 rfl rfl ?_
    refine G_get cok6 0 wf_X6_9 dX6_signNow_23 (by first | exact rfl | assumption) ⟨(Nat.le_of_ble_eq_true rfl), (Nat.le_of_ble_eq_true rfl)⟩ rfl ?_
    refine G_alen (v := 60) dX6_signNow_26 (show sK 461 = 11 from rfl) (by decide) (fun _ => rfl) rfl rfl rfl ?_
    refine R_icmp_ge_f (tgt := 42) dX6_signNow_27 rfl (by rw [hcu]; exact nI_ge (b := 60) (by have := hlt (by assumption); omega) (by omega)) ?_
    refine R_aload_n dX6_signNow_30 rfl rfl ?_
    refine G_get cok6 0 wf_X6_9 dX6_signNow_31 (by first | exact rfl | assumption) ⟨(Nat.le_of_ble_eq_true rfl), (Nat.le_of_ble_eq_true rfl)⟩ rfl ?_
    refine R_aload_n dX6_signNow_34 rfl rfl ?_
    refine G_get cok6 4 wf_X6_22 dX6_signNow_35 (by first | exact rfl | assumption) ⟨(Nat.le_of_ble_eq_true rfl), (Nat.le_of_ble_eq_true rfl)⟩ rfl ?_
    rw [hcu]
    refine G_cald dX6_signNow_38 (show sK 461 = 11 from rfl) (nI_in12 (n := 60) (by have := hlt (by assumption); omega) (by omega)) ?_
    refine R_goto (tgt := 43) dX6_signNow_39 rfl ?_
    refine R_iret dX6_signNow_43 (by first | rfl | (rw [nI_cl (by omega)]; exact hC _)) (Nat.le_of_ble_eq_true rfl) (Nat.le_of_ble_eq_true rfl) ?_
    refine ⟨?_, rfl⟩
    first | rw [sg, if_pos (hlt (by assumption)), nI_cl (by omega)] | rw [sg, if_neg (hge (by assumption))]
theorem s_X6_readNumber {l : Launch} (hf : l.stackTraces = false) {L p : Nat} (hL : M 460 1 = nI L) (hL60 : L ≤ 60) (hC : ∀ k, isC (M 461 k)) (hcu : M 460 4 = nI p) (hp60 : p ≤ L) {m : Nat} (hm : m = 1 ∨ m = 2) : V_X6_readNumber l [.ref 460, .int (nI m)] (hp M r) (VI (rdN (M 461) L m p).1 (hp (mst M 460 4 (nI (rdN (M 461) L m p).2)) r)) := by
  have t1 : ∀ x, (mst M 460 4 x) 461 = M 461 := fun x => mst_fn (by decide)
  by_cases h0 : dig (sg (M 461) L p) = false
  · refine VM.intro (lf := L9 (some (.ref 460)) (some (.int (nI m))) none none none none none none none) (by decide +kernel) hf (fun _ => (Nat.le_of_ble_eq_true rfl)) (fun _ => rfl) ?_
    refine R_aload_n dX6_readNumber_0 rfl rfl ?_
    refine G_cV0 cw_X6_39 (s_X6_signNow hf (p := p) (by simpa [mst] using hL) hL60 (by simpa [mst_fn] using hC) (by first | exact hcu | simp [mst]) (by omega)) dX6_readNumber_1 (rcv cok6 (by first | exact rfl | assumption) (Nat.le_of_ble_eq_true rfl)) ⟨(Nat.le_of_ble_eq_true rfl), (Nat.le_of_ble_eq_true rfl), (Nat.le_of_ble_eq_true rfl), (Nat.le_of_ble_eq_true rfl)⟩ ?_
    refine G_cS1 cw_X6_66 (s_X6_isDigit hf) dX6_readNumber_4 ⟨(Nat.le_of_ble_eq_true rfl), (Nat.le_of_ble_eq_true rfl), (Nat.le_of_ble_eq_true rfl), (Nat.le_of_ble_eq_true rfl)⟩ ?_
    refine R_if_ne_f (tgt := 12) dX6_readNumber_7 rfl (by rw [h0]; decide) ?_
    refine R_iconst (v := (-1)) dX6_readNumber_10 (by decide) ?_
    refine R_iret dX6_readNumber_11 rfl (Nat.le_of_ble_eq_true rfl) (Nat.le_of_ble_eq_true rfl) ?_
    have e9 : rdN (M 461) L m p = (-1, p) := by rw [rdN, if_pos h0]
    rw [e9]
    exact ⟨rfl, congrArg (fun z => hp z r) (mst_id hcu).symm⟩
  · have h0t : dig (sg (M 461) L p) = true := by simpa using h0
    have hp1 := dig_lt h0t
    have z0 : ¬ zb (dig (sg (M 461) L p)) = 0 := by rw [h0t]; decide
    rcases hm with rfl | rfl
    · refine VM.intro (lf := L9 (some (.ref 460)) (some (.int (nI 1))) none none none none none none none) (by decide +kernel) hf (fun _ => (Nat.le_of_ble_eq_true rfl)) (fun _ => rfl) ?_
      refine R_aload_n dX6_readNumber_0 rfl rfl ?_
      refine G_cV0 cw_X6_39 (s_X6_signNow hf (p := p) (by simpa [mst] using hL) hL60 (by simpa [mst_fn] using hC) (by first | exact hcu | simp [mst]) (by omega)) dX6_readNumber_1 (rcv cok6 (by first | exact rfl | assumption) (Nat.le_of_ble_eq_true rfl)) ⟨(Nat.le_of_ble_eq_true rfl), (Nat.le_of_ble_eq_true rfl), (Nat.le_of_ble_eq_true rfl), (Nat.le_of_ble_eq_true rfl)⟩ ?_
      refine G_cS1 cw_X6_66 (s_X6_isDigit hf) dX6_readNumber_4 ⟨(Nat.le_of_ble_eq_true rfl), (Nat.le_of_ble_eq_true rfl), (Nat.le_of_ble_eq_true rfl), (Nat.le_of_ble_eq_true rfl)⟩ ?_
      refine R_if_ne_t (tgt := 12) dX6_readNumber_7 rfl z0 ?_
      refine R_iconst (v := 0) dX6_readNumber_12 (by decide) ?_
      refine R_istore_n dX6_readNumber_13 rfl (by decide) (st2 rfl) ?_
      refine R_iconst (v := 0) dX6_readNumber_14 (by decide) ?_
      refine R_istore_n dX6_readNumber_15 rfl (by decide) (st3 rfl) ?_
      refine R_iload_n dX6_readNumber_16 rfl rfl ?_
      refine R_iload_n dX6_readNumber_17 rfl rfl ?_
      refine R_icmp_ge_f (tgt := 54) dX6_readNumber_18 rfl (by decide) ?_
      refine R_aload_n dX6_readNumber_21 rfl rfl ?_
      refine G_cV0 cw_X6_39 (s_X6_signNow hf (p := p) (by simpa [mst] using hL) hL60 (by simpa [mst_fn] using hC) (by first | exact hcu | simp [mst]) (by omega)) dX6_readNumber_22 (rcv cok6 (by first | exact rfl | assumption) (Nat.le_of_ble_eq_true rfl)) ⟨(Nat.le_of_ble_eq_true rfl), (Nat.le_of_ble_eq_true rfl), (Nat.le_of_ble_eq_true rfl), (Nat.le_of_ble_eq_true rfl)⟩ ?_
      refine G_cS1 cw_X6_66 (s_X6_isDigit hf) dX6_readNumber_25 ⟨(Nat.le_of_ble_eq_true rfl), (Nat.le_of_ble_eq_true rfl), (Nat.le_of_ble_eq_true rfl), (Nat.le_of_ble_eq_true rfl)⟩ ?_
      refine R_if_eq_f (tgt := 54) dX6_readNumber_28 rfl z0 ?_
      refine R_iload_n dX6_readNumber_31 rfl rfl ?_
      refine R_bipush (v := 10) dX6_readNumber_32 (by decide) ?_
      refine R_imul dX6_readNumber_34 ?_
      refine R_aload_n dX6_readNumber_35 rfl rfl ?_
      refine G_cV0 cw_X6_39 (s_X6_signNow hf (p := p) (by simpa [mst] using hL) hL60 (by simpa [mst_fn] using hC) (by first | exact hcu | simp [mst]) (by omega)) dX6_readNumber_36 (rcv cok6 (by first | exact rfl | assumption) (Nat.le_of_ble_eq_true rfl)) ⟨(Nat.le_of_ble_eq_true rfl), (Nat.le_of_ble_eq_true rfl), (Nat.le_of_ble_eq_true rfl), (Nat.le_of_ble_eq_true rfl)⟩ ?_
      refine R_bipush (v := 48) dX6_readNumber_39 (by decide) ?_
      refine R_isub dX6_readNumber_41 ?_
      refine R_iadd dX6_readNumber_42 ?_
      refine R_istore_n dX6_readNumber_43 rfl (by decide) (st2 rfl) ?_
      refine R_aload_n dX6_readNumber_44 rfl rfl ?_
      refine G_cV0v cw_X6_43 (s_X6_pass hf hcu) dX6_readNumber_45 (rcv cok6 (by first | exact rfl | assumption) (Nat.le_of_ble_eq_true rfl)) ⟨(Nat.le_of_ble_eq_true rfl), (Nat.le_of_ble_eq_true rfl), (Nat.le_of_ble_eq_true rfl), (Nat.le_of_ble_eq_true rfl)⟩ ?_
      first | refine R_iincN dX6_readNumber_48 (by decide) rfl (by decide) (st3 rfl) ?_ | refine R_iinc1 dX6_readNumber_48 (by decide) rfl (by decide) (st3 rfl) ?_
      refine R_goto (tgt := 16) dX6_readNumber_51 rfl ?_
      refine R_iload_n dX6_readNumber_16 rfl rfl ?_
      refine R_iload_n dX6_readNumber_17 rfl rfl ?_
      refine R_icmp_ge_t (tgt := 54) dX6_readNumber_18 rfl (by decide) ?_
      refine R_iload_n dX6_readNumber_54 rfl rfl ?_
      refine R_iret dX6_readNumber_55 rfl (Nat.le_of_ble_eq_true rfl) (Nat.le_of_ble_eq_true rfl) ?_
      have e9 : rdN (M 461) L 1 p = (0 * 10 + (sg (M 461) L p - 48), p + 1) := by rw [rdN, if_neg h0, if_pos rfl]
      rw [e9]
      exact ⟨rfl, rfl⟩
    · by_cases h1 : dig (sg (M 461) L (p + 1)) = false
      · refine VM.intro (lf := L9 (some (.ref 460)) (some (.int (nI 2))) none none none none none none none) (by decide +kernel) hf (fun _ => (Nat.le_of_ble_eq_true rfl)) (fun _ => rfl) ?_
        refine R_aload_n dX6_readNumber_0 rfl rfl ?_
        refine G_cV0 cw_X6_39 (s_X6_signNow hf (p := p) (by simpa [mst] using hL) hL60 (by simpa [mst_fn] using hC) (by first | exact hcu | simp [mst]) (by omega)) dX6_readNumber_1 (rcv cok6 (by first | exact rfl | assumption) (Nat.le_of_ble_eq_true rfl)) ⟨(Nat.le_of_ble_eq_true rfl), (Nat.le_of_ble_eq_true rfl), (Nat.le_of_ble_eq_true rfl), (Nat.le_of_ble_eq_true rfl)⟩ ?_
        refine G_cS1 cw_X6_66 (s_X6_isDigit hf) dX6_readNumber_4 ⟨(Nat.le_of_ble_eq_true rfl), (Nat.le_of_ble_eq_true rfl), (Nat.le_of_ble_eq_true rfl), (Nat.le_of_ble_eq_true rfl)⟩ ?_
        refine R_if_ne_t (tgt := 12) dX6_readNumber_7 rfl z0 ?_
        refine R_iconst (v := 0) dX6_readNumber_12 (by decide) ?_
        refine R_istore_n dX6_readNumber_13 rfl (by decide) (st2 rfl) ?_
        refine R_iconst (v := 0) dX6_readNumber_14 (by decide) ?_
        refine R_istore_n dX6_readNumber_15 rfl (by decide) (st3 rfl) ?_
        refine R_iload_n dX6_readNumber_16 rfl rfl ?_
        refine R_iload_n dX6_readNumber_17 rfl rfl ?_
        refine R_icmp_ge_f (tgt := 54) dX6_readNumber_18 rfl (by decide) ?_
        refine R_aload_n dX6_readNumber_21 rfl rfl ?_
        refine G_cV0 cw_X6_39 (s_X6_signNow hf (p := p) (by simpa [mst] using hL) hL60 (by simpa [mst_fn] using hC) (by first | exact hcu | simp [mst]) (by omega)) dX6_readNumber_22 (rcv cok6 (by first | exact rfl | assumption) (Nat.le_of_ble_eq_true rfl)) ⟨(Nat.le_of_ble_eq_true rfl), (Nat.le_of_ble_eq_true rfl), (Nat.le_of_ble_eq_true rfl), (Nat.le_of_ble_eq_true rfl)⟩ ?_
        refine G_cS1 cw_X6_66 (s_X6_isDigit hf) dX6_readNumber_25 ⟨(Nat.le_of_ble_eq_true rfl), (Nat.le_of_ble_eq_true rfl), (Nat.le_of_ble_eq_true rfl), (Nat.le_of_ble_eq_true rfl)⟩ ?_
        refine R_if_eq_f (tgt := 54) dX6_readNumber_28 rfl z0 ?_
        refine R_iload_n dX6_readNumber_31 rfl rfl ?_
        refine R_bipush (v := 10) dX6_readNumber_32 (by decide) ?_
        refine R_imul dX6_readNumber_34 ?_
        refine R_aload_n dX6_readNumber_35 rfl rfl ?_
        refine G_cV0 cw_X6_39 (s_X6_signNow hf (p := p) (by simpa [mst] using hL) hL60 (by simpa [mst_fn] using hC) (by first | exact hcu | simp [mst]) (by omega)) dX6_readNumber_36 (rcv cok6 (by first | exact rfl | assumption) (Nat.le_of_ble_eq_true rfl)) ⟨(Nat.le_of_ble_eq_true rfl), (Nat.le_of_ble_eq_true rfl), (Nat.le_of_ble_eq_true rfl), (Nat.le_of_ble_eq_true rfl)⟩ ?_
        refine R_bipush (v := 48) dX6_readNumber_39 (by decide) ?_
        refine R_isub dX6_readNumber_41 ?_
        refine R_iadd dX6_readNumber_42 ?_
        refine R_istore_n dX6_readNumber_43 rfl (by decide) (st2 rfl) ?_
        refine R_aload_n dX6_readNumber_44 rfl rfl ?_
        refine G_cV0v cw_X6_43 (s_X6_pass hf hcu) dX6_readNumber_45 (rcv cok6 (by first | exact rfl | assumption) (Nat.le_of_ble_eq_true rfl)) ⟨(Nat.le_of_ble_eq_true rfl), (Nat.le_of_ble_eq_true rfl), (Nat.le_of_ble_eq_true rfl), (Nat.le_of_ble_eq_true rfl)⟩ ?_
        first | refine R_iincN dX6_readNumber_48 (by decide) rfl (by decide) (st3 rfl) ?_ | refine R_iinc1 dX6_readNumber_48 (by decide) rfl (by decide) (st3 rfl) ?_
        refine R_goto (tgt := 16) dX6_readNumber_51 rfl ?_
        refine R_iload_n dX6_readNumber_16 rfl rfl ?_
        refine R_iload_n dX6_readNumber_17 rfl rfl ?_
        refine R_icmp_ge_f (tgt := 54) dX6_readNumber_18 rfl (by decide) ?_
        refine R_aload_n dX6_readNumber_21 rfl rfl ?_
        refine G_cV0 cw_X6_39 (s_X6_signNow hf (p := p + 1) (by simpa [mst] using hL) hL60 (by intro k; rw [t1]; exact hC k) (by simp [mst]) (by omega)) dX6_readNumber_22 (rcv cok6 (by first | exact rfl | assumption) (Nat.le_of_ble_eq_true rfl)) ⟨(Nat.le_of_ble_eq_true rfl), (Nat.le_of_ble_eq_true rfl), (Nat.le_of_ble_eq_true rfl), (Nat.le_of_ble_eq_true rfl)⟩ ?_
        refine G_cS1 cw_X6_66 (s_X6_isDigit hf) dX6_readNumber_25 ⟨(Nat.le_of_ble_eq_true rfl), (Nat.le_of_ble_eq_true rfl), (Nat.le_of_ble_eq_true rfl), (Nat.le_of_ble_eq_true rfl)⟩ ?_
        refine R_if_eq_t (tgt := 54) dX6_readNumber_28 rfl (by rw [t1, h1]; decide) ?_
        refine R_iload_n dX6_readNumber_54 rfl rfl ?_
        refine R_iret dX6_readNumber_55 rfl (Nat.le_of_ble_eq_true rfl) (Nat.le_of_ble_eq_true rfl) ?_
        have e9 : rdN (M 461) L 2 p = (0 * 10 + (sg (M 461) L p - 48), p + 1) := by rw [rdN, if_neg h0, if_neg (by decide), if_pos h1]
        rw [e9]
        exact ⟨rfl, rfl⟩
      · have h1t : dig (sg (M 461) L (p + 1)) = true := by simpa using h1
        have hp2 := dig_lt h1t
        have z1 : ¬ zb (dig (sg ((mst M 460 4 (nI (p + 1))) 461) L (p + 1))) = 0 := by rw [t1, h1t]; decide
        refine VM.intro (lf := L9 (some (.ref 460)) (some (.int (nI 2))) none none none none none none none) (by decide +kernel) hf (fun _ => (Nat.le_of_ble_eq_true rfl)) (fun _ => rfl) ?_
        refine R_aload_n dX6_readNumber_0 rfl rfl ?_
        refine G_cV0 cw_X6_39 (s_X6_signNow hf (p := p) (by simpa [mst] using hL) hL60 (by simpa [mst_fn] using hC) (by first | exact hcu | simp [mst]) (by omega)) dX6_readNumber_1 (rcv cok6 (by first | exact rfl | assumption) (Nat.le_of_ble_eq_true rfl)) ⟨(Nat.le_of_ble_eq_true rfl), (Nat.le_of_ble_eq_true rfl), (Nat.le_of_ble_eq_true rfl), (Nat.le_of_ble_eq_true rfl)⟩ ?_
        refine G_cS1 cw_X6_66 (s_X6_isDigit hf) dX6_readNumber_4 ⟨(Nat.le_of_ble_eq_true rfl), (Nat.le_of_ble_eq_true rfl), (Nat.le_of_ble_eq_true rfl), (Nat.le_of_ble_eq_true rfl)⟩ ?_
        refine R_if_ne_t (tgt := 12) dX6_readNumber_7 rfl z0 ?_
        refine R_iconst (v := 0) dX6_readNumber_12 (by decide) ?_
        refine R_istore_n dX6_readNumber_13 rfl (by decide) (st2 rfl) ?_
        refine R_iconst (v := 0) dX6_readNumber_14 (by decide) ?_
        refine R_istore_n dX6_readNumber_15 rfl (by decide) (st3 rfl) ?_
        refine R_iload_n dX6_readNumber_16 rfl rfl ?_
        refine R_iload_n dX6_readNumber_17 rfl rfl ?_
        refine R_icmp_ge_f (tgt := 54) dX6_readNumber_18 rfl (by decide) ?_
        refine R_aload_n dX6_readNumber_21 rfl rfl ?_
        refine G_cV0 cw_X6_39 (s_X6_signNow hf (p := p) (by simpa [mst] using hL) hL60 (by simpa [mst_fn] using hC) (by first | exact hcu | simp [mst]) (by omega)) dX6_readNumber_22 (rcv cok6 (by first | exact rfl | assumption) (Nat.le_of_ble_eq_true rfl)) ⟨(Nat.le_of_ble_eq_true rfl), (Nat.le_of_ble_eq_true rfl), (Nat.le_of_ble_eq_true rfl), (Nat.le_of_ble_eq_true rfl)⟩ ?_
        refine G_cS1 cw_X6_66 (s_X6_isDigit hf) dX6_readNumber_25 ⟨(Nat.le_of_ble_eq_true rfl), (Nat.le_of_ble_eq_true rfl), (Nat.le_of_ble_eq_true rfl), (Nat.le_of_ble_eq_true rfl)⟩ ?_
        refine R_if_eq_f (tgt := 54) dX6_readNumber_28 rfl z0 ?_
        refine R_iload_n dX6_readNumber_31 rfl rfl ?_
        refine R_bipush (v := 10) dX6_readNumber_32 (by decide) ?_
        refine R_imul dX6_readNumber_34 ?_
        refine R_aload_n dX6_readNumber_35 rfl rfl ?_
        refine G_cV0 cw_X6_39 (s_X6_signNow hf (p := p) (by simpa [mst] using hL) hL60 (by simpa [mst_fn] using hC) (by first | exact hcu | simp [mst]) (by omega)) dX6_readNumber_36 (rcv cok6 (by first | exact rfl | assumption) (Nat.le_of_ble_eq_true rfl)) ⟨(Nat.le_of_ble_eq_true rfl), (Nat.le_of_ble_eq_true rfl), (Nat.le_of_ble_eq_true rfl), (Nat.le_of_ble_eq_true rfl)⟩ ?_
        refine R_bipush (v := 48) dX6_readNumber_39 (by decide) ?_
        refine R_isub dX6_readNumber_41 ?_
        refine R_iadd dX6_readNumber_42 ?_
        refine R_istore_n dX6_readNumber_43 rfl (by decide) (st2 rfl) ?_
        refine R_aload_n dX6_readNumber_44 rfl rfl ?_
        refine G_cV0v cw_X6_43 (s_X6_pass hf hcu) dX6_readNumber_45 (rcv cok6 (by first | exact rfl | assumption) (Nat.le_of_ble_eq_true rfl)) ⟨(Nat.le_of_ble_eq_true rfl), (Nat.le_of_ble_eq_true rfl), (Nat.le_of_ble_eq_true rfl), (Nat.le_of_ble_eq_true rfl)⟩ ?_
        first | refine R_iincN dX6_readNumber_48 (by decide) rfl (by decide) (st3 rfl) ?_ | refine R_iinc1 dX6_readNumber_48 (by decide) rfl (by decide) (st3 rfl) ?_
        refine R_goto (tgt := 16) dX6_readNumber_51 rfl ?_
        refine R_iload_n dX6_readNumber_16 rfl rfl ?_
        refine R_iload_n dX6_readNumber_17 rfl rfl ?_
        refine R_icmp_ge_f (tgt := 54) dX6_readNumber_18 rfl (by decide) ?_
        refine R_aload_n dX6_readNumber_21 rfl rfl ?_
        refine G_cV0 cw_X6_39 (s_X6_signNow hf (p := p + 1) (by simpa [mst] using hL) hL60 (by intro k; rw [t1]; exact hC k) (by simp [mst]) (by omega)) dX6_readNumber_22 (rcv cok6 (by first | exact rfl | assumption) (Nat.le_of_ble_eq_true rfl)) ⟨(Nat.le_of_ble_eq_true rfl), (Nat.le_of_ble_eq_true rfl), (Nat.le_of_ble_eq_true rfl), (Nat.le_of_ble_eq_true rfl)⟩ ?_
        refine G_cS1 cw_X6_66 (s_X6_isDigit hf) dX6_readNumber_25 ⟨(Nat.le_of_ble_eq_true rfl), (Nat.le_of_ble_eq_true rfl), (Nat.le_of_ble_eq_true rfl), (Nat.le_of_ble_eq_true rfl)⟩ ?_
        refine R_if_eq_f (tgt := 54) dX6_readNumber_28 rfl z1 ?_
        refine R_iload_n dX6_readNumber_31 rfl rfl ?_
        refine R_bipush (v := 10) dX6_readNumber_32 (by decide) ?_
        refine R_imul dX6_readNumber_34 ?_
        refine R_aload_n dX6_readNumber_35 rfl rfl ?_
        refine G_cV0 cw_X6_39 (s_X6_signNow hf (p := p + 1) (by simpa [mst] using hL) hL60 (by intro k; rw [t1]; exact hC k) (by simp [mst]) (by omega)) dX6_readNumber_36 (rcv cok6 (by first | exact rfl | assumption) (Nat.le_of_ble_eq_true rfl)) ⟨(Nat.le_of_ble_eq_true rfl), (Nat.le_of_ble_eq_true rfl), (Nat.le_of_ble_eq_true rfl), (Nat.le_of_ble_eq_true rfl)⟩ ?_
        refine R_bipush (v := 48) dX6_readNumber_39 (by decide) ?_
        refine R_isub dX6_readNumber_41 ?_
        refine R_iadd dX6_readNumber_42 ?_
        refine R_istore_n dX6_readNumber_43 rfl (by decide) (st2 rfl) ?_
        refine R_aload_n dX6_readNumber_44 rfl rfl ?_
        refine G_cV0v cw_X6_43 (s_X6_pass hf (p := p + 1) (by simp [mst])) dX6_readNumber_45 (rcv cok6 (by first | exact rfl | assumption) (Nat.le_of_ble_eq_true rfl)) ⟨(Nat.le_of_ble_eq_true rfl), (Nat.le_of_ble_eq_true rfl), (Nat.le_of_ble_eq_true rfl), (Nat.le_of_ble_eq_true rfl)⟩ ?_
        first | refine R_iincN dX6_readNumber_48 (by decide) rfl (by decide) (st3 rfl) ?_ | refine R_iinc1 dX6_readNumber_48 (by decide) rfl (by decide) (st3 rfl) ?_
        refine R_goto (tgt := 16) dX6_readNumber_51 rfl ?_
        refine R_iload_n dX6_readNumber_16 rfl rfl ?_
        refine R_iload_n dX6_readNumber_17 rfl rfl ?_
        refine R_icmp_ge_t (tgt := 54) dX6_readNumber_18 rfl (by decide) ?_
        refine R_iload_n dX6_readNumber_54 rfl rfl ?_
        refine R_iret dX6_readNumber_55 rfl (Nat.le_of_ble_eq_true rfl) (Nat.le_of_ble_eq_true rfl) ?_
        have e9 : rdN (M 461) L 2 p = ((0 * 10 + (sg (M 461) L p - 48)) * 10 + (sg (M 461) L (p + 1) - 48), p + 2) := by rw [rdN, if_neg h0, if_neg (by decide), if_neg h1]
        rw [e9, t1]
        exact ⟨rfl, congrArg (fun z => hp z r) mst_mst⟩
theorem s_X6_readHook {l : Launch} (hf : l.stackTraces = false) {t : Nat → Int32} (ht : M 461 = t) {L p : Nat} (hL : M 460 1 = nI L) (hL60 : L ≤ 60) (hC : ∀ k, isC (t k)) (hcu : M 460 4 = nI p) (hp60 : p ≤ L) : V_X6_readHook l [.ref 460] (hp M r) (VI (zb (hkM t M L p).1) (hp (hkM t M L p).2.2 r)) := by
  refine VM.intro (lf := L9 (some (.ref 460)) none none none none none none none none) (by decide +kernel) hf (fun _ => (Nat.le_of_ble_eq_true rfl)) (fun _ => rfl) ?_
  refine R_aload_n dX6_readHook_0 rfl rfl ?_
  refine G_cV0 cw_X6_39 (show VD l _ _ _ _ _ _ (hp (M) r) (some (.int (sg t L (p)))) (hp (M) r) by have e7 : (M) 461 = t := (by simp only [ht, mst_fn (show (461 : Nat) ≠ 460 by decide)]); have z := s_X6_signNow hf (M := M) (r := r) (L := L) (p := p) (by first | exact hL | simpa [mst] using hL) hL60 (by rw [e7]; exact hC) (by first | exact hcu | simp [mst]) hp60; rw [e7] at z; exact z) dX6_readHook_1 (rcv cok6 (by first | exact rfl | assumption) (Nat.le_of_ble_eq_true rfl)) ⟨(Nat.le_of_ble_eq_true rfl), (Nat.le_of_ble_eq_true rfl), (Nat.le_of_ble_eq_true rfl), (Nat.le_of_ble_eq_true rfl)⟩ ?_
  refine R_bipush (v := 47) dX6_readHook_4 (by decide) ?_
  refine R_icmp_eq (tgt := 11) dX6_readHook_6 rfl (fun c1 => ?_) (fun c1 => ?_)
  · have h47 := sg_lt (by assumption : sg t L p = 47) (by decide)
    refine R_aload_n dX6_readHook_11 rfl rfl ?_
    refine G_cV0v cw_X6_43 (s_X6_pass hf hcu) dX6_readHook_12 (rcv cok6 (by first | exact rfl | assumption) (Nat.le_of_ble_eq_true rfl)) ⟨(Nat.le_of_ble_eq_true rfl), (Nat.le_of_ble_eq_true rfl), (Nat.le_of_ble_eq_true rfl), (Nat.le_of_ble_eq_true rfl)⟩ ?_
    refine R_aload_n dX6_readHook_15 rfl rfl ?_
    refine R_aload_n dX6_readHook_16 rfl rfl ?_
    refine R_iconst (v := 1) dX6_readHook_17 (by decide) ?_
    refine G_cV1 cw_X6_50 (show VD l _ _ _ _ _ _ (hp (mst M 460 4 (nI (p + 1))) r) (some (.int (rdN t L 1 (p + 1)).1)) (hp (mst (mst M 460 4 (nI (p + 1))) 460 4 (nI (rdN t L 1 (p + 1)).2)) r) by have e7 : (mst M 460 4 (nI (p + 1))) 461 = t := (by simp only [ht, mst_fn (show (461 : Nat) ≠ 460 by decide)]); have z := s_X6_readNumber hf (M := mst M 460 4 (nI (p + 1))) (r := r) (L := L) (p := p + 1) (by first | exact hL | simpa [mst] using hL) hL60 (by rw [e7]; exact hC) (by first | exact hcu | simp [mst]) h47 (m := 1) (by omega); rw [e7] at z; exact z) dX6_readHook_18 (rcv cok6 (by first | exact rfl | assumption) (Nat.le_of_ble_eq_true rfl)) ⟨(Nat.le_of_ble_eq_true rfl), (Nat.le_of_ble_eq_true rfl), (Nat.le_of_ble_eq_true rfl), (Nat.le_of_ble_eq_true rfl)⟩ ?_
    rw [mst_mst]
    refine G_put cok6 7 wf_X6_60 dX6_readHook_21 (by first | exact rfl | assumption) rfl ⟨(Nat.le_of_ble_eq_true rfl), rfl, (Nat.le_of_ble_eq_true rfl)⟩ ⟨rfl, rfl⟩ ?_
    refine R_aload_n dX6_readHook_24 rfl rfl ?_
    refine G_get cok6 7 wf_X6_60 dX6_readHook_25 (by first | exact rfl | assumption) ⟨(Nat.le_of_ble_eq_true rfl), (Nat.le_of_ble_eq_true rfl)⟩ rfl ?_
    refine R_iconst (v := (-1)) dX6_readHook_28 (by decide) ?_
    refine R_icmp_ne (tgt := 34) dX6_readHook_29 rfl (fun c2 => ?_) (fun c2 => ?_)
    · refine R_aload_n dX6_readHook_34 rfl rfl ?_
      refine R_aload_n dX6_readHook_35 rfl rfl ?_
      refine R_iconst (v := 1) dX6_readHook_36 (by decide) ?_
      refine G_cV1 cw_X6_50 (show VD l _ _ _ _ _ _ (hp (mst (mst M 460 4 (nI (rdN t L 1 (p + 1)).2)) 460 7 (rdN t L 1 (p + 1)).1) r) (some (.int (rdN t L 1 ((rdN t L 1 (p + 1)).2)).1)) (hp (mst (mst (mst M 460 4 (nI (rdN t L 1 (p + 1)).2)) 460 7 (rdN t L 1 (p + 1)).1) 460 4 (nI (rdN t L 1 ((rdN t L 1 (p + 1)).2)).2)) r) by have e7 : (mst (mst M 460 4 (nI (rdN t L 1 (p + 1)).2)) 460 7 (rdN t L 1 (p + 1)).1) 461 = t := (by simp only [ht, mst_fn (show (461 : Nat) ≠ 460 by decide)]); have z := s_X6_readNumber hf (M := mst (mst M 460 4 (nI (rdN t L 1 (p + 1)).2)) 460 7 (rdN t L 1 (p + 1)).1) (r := r) (L := L) (p := (rdN t L 1 (p + 1)).2) (by first | exact hL | simpa [mst] using hL) hL60 (by rw [e7]; exact hC) (by first | exact hcu | simp [mst]) (rdN_le h47) (m := 1) (by omega); rw [e7] at z; exact z) dX6_readHook_37 (rcv cok6 (by first | exact rfl | assumption) (Nat.le_of_ble_eq_true rfl)) ⟨(Nat.le_of_ble_eq_true rfl), (Nat.le_of_ble_eq_true rfl), (Nat.le_of_ble_eq_true rfl), (Nat.le_of_ble_eq_true rfl)⟩ ?_
      rw [show mst (mst (mst M 460 4 (nI (rdN t L 1 (p + 1)).2)) 460 7 (rdN t L 1 (p + 1)).1) 460 4 (nI (rdN t L 1 (rdN t L 1 (p + 1)).2).2) = mst (mst (mst M 460 4 (nI (rdN t L 1 (p + 1)).2)) 460 7 (rdN t L 1 (p + 1)).1) 460 4 (nI (rdN t L 1 (rdN t L 1 (p + 1)).2).2) from rfl]
      refine G_put cok6 8 wf_X6_63 dX6_readHook_40 (by first | exact rfl | assumption) rfl ⟨(Nat.le_of_ble_eq_true rfl), rfl, (Nat.le_of_ble_eq_true rfl)⟩ ⟨rfl, rfl⟩ ?_
      refine R_aload_n dX6_readHook_43 rfl rfl ?_
      refine G_get cok6 8 wf_X6_63 dX6_readHook_44 (by first | exact rfl | assumption) ⟨(Nat.le_of_ble_eq_true rfl), (Nat.le_of_ble_eq_true rfl)⟩ rfl ?_
      refine R_iconst (v := (-1)) dX6_readHook_47 (by decide) ?_
      refine R_icmp_eq (tgt := 55) dX6_readHook_48 rfl (fun c3 => ?_) (fun c3 => ?_)
      · refine R_iconst (v := 0) dX6_readHook_55 (by decide) ?_
        refine R_iret dX6_readHook_56 (by first | rfl | decide) (Nat.le_of_ble_eq_true rfl) (Nat.le_of_ble_eq_true rfl) ?_
        refine ⟨?_, congrArg (fun z => hp z r) ?_⟩
        all_goals simp_all [hkM, zb, mst_eq]
      · refine R_iconst (v := 1) dX6_readHook_51 (by decide) ?_
        refine R_goto (tgt := 56) dX6_readHook_52 rfl ?_
        refine R_iret dX6_readHook_56 (by first | rfl | decide) (Nat.le_of_ble_eq_true rfl) (Nat.le_of_ble_eq_true rfl) ?_
        refine ⟨?_, congrArg (fun z => hp z r) ?_⟩
        all_goals simp_all [hkM, zb, mst_eq]
    · refine R_iconst (v := 0) dX6_readHook_32 (by decide) ?_
      refine R_iret dX6_readHook_33 rfl (Nat.le_of_ble_eq_true rfl) (Nat.le_of_ble_eq_true rfl) ?_
      refine ⟨?_, congrArg (fun z => hp z r) ?_⟩
      all_goals simp_all [hkM, zb, mst_eq]
  · refine R_iconst (v := 0) dX6_readHook_9 (by decide) ?_
    refine R_iret dX6_readHook_10 rfl (Nat.le_of_ble_eq_true rfl) (Nat.le_of_ble_eq_true rfl) ?_
    refine ⟨?_, congrArg (fun z => hp z r) ?_⟩
    all_goals simp_all [hkM, zb, mst_eq]
theorem B130_X6_readCommand {l : Launch} (hf : l.stackTraces = false) {t : Nat → Int32} (ht : M 461 = t) {L p : Nat} (hL : M 460 1 = nI L) (hL60 : L ≤ 60) (hC : ∀ k, isC (t k)) (hcu : M 460 4 = nI p) (hp1 : p < L) : Q_X6_readCommand l (VI (zb (!((rdN t L 1 (p + 1)).1 == -1))) (hp (mst (mst M 460 4 (nI (rdN t L 1 (p + 1)).2)) 460 6 (rdN t L 1 (p + 1)).1) r)) 130 (L9 (some (.ref 460)) none none none none none none none none) [] (hp M r) := by
  refine R_aload_n dX6_readCommand_130 rfl rfl ?_
  refine G_cV0v cw_X6_43 (s_X6_pass hf hcu) dX6_readCommand_131 (rcv cok6 (by first | exact rfl | assumption) (Nat.le_of_ble_eq_true rfl)) ⟨(Nat.le_of_ble_eq_true rfl), (Nat.le_of_ble_eq_true rfl), (Nat.le_of_ble_eq_true rfl), (Nat.le_of_ble_eq_true rfl)⟩ ?_
  refine R_aload_n dX6_readCommand_134 rfl rfl ?_
  refine R_aload_n dX6_readCommand_135 rfl rfl ?_
  refine R_iconst (v := 1) dX6_readCommand_136 (by decide) ?_
  refine G_cV1 cw_X6_50 (show VD l _ _ _ _ _ _ (hp (mst M 460 4 (nI (p + 1))) r) (some (.int (rdN t L 1 (p + 1)).1)) (hp (mst (mst M 460 4 (nI (p + 1))) 460 4 (nI (rdN t L 1 (p + 1)).2)) r) by have e7 : (mst M 460 4 (nI (p + 1))) 461 = t := (by simp only [ht, mst_fn (show (461 : Nat) ≠ 460 by decide)]); have z := s_X6_readNumber hf (M := mst M 460 4 (nI (p + 1))) (r := r) (L := L) (p := p + 1) (by first | exact hL | simpa [mst] using hL) hL60 (by rw [e7]; exact hC) (by first | exact hcu | simp [mst]) hp1 (m := 1) (by omega); rw [e7] at z; exact z) dX6_readCommand_137 (rcv cok6 (by first | exact rfl | assumption) (Nat.le_of_ble_eq_true rfl)) ⟨(Nat.le_of_ble_eq_true rfl), (Nat.le_of_ble_eq_true rfl), (Nat.le_of_ble_eq_true rfl), (Nat.le_of_ble_eq_true rfl)⟩ ?_
  rw [mst_mst]
  refine G_put cok6 6 wf_X6_54 dX6_readCommand_140 (by first | exact rfl | assumption) rfl ⟨(Nat.le_of_ble_eq_true rfl), rfl, (Nat.le_of_ble_eq_true rfl)⟩ ⟨rfl, rfl⟩ ?_
  refine R_aload_n dX6_readCommand_143 rfl rfl ?_
  refine G_get cok6 6 wf_X6_54 dX6_readCommand_144 (by first | exact rfl | assumption) ⟨(Nat.le_of_ble_eq_true rfl), (Nat.le_of_ble_eq_true rfl)⟩ rfl ?_
  refine R_iconst (v := (-1)) dX6_readCommand_147 (by decide) ?_
  refine R_icmp_eq (tgt := 155) dX6_readCommand_148 rfl (fun c1 => ?_) (fun c1 => ?_)
  · refine R_iconst (v := 0) dX6_readCommand_155 (by decide) ?_
    refine R_iret dX6_readCommand_156 (by first | rfl | decide) (Nat.le_of_ble_eq_true rfl) (Nat.le_of_ble_eq_true rfl) ?_
    refine ⟨?_, congrArg (fun z => hp z r) ?_⟩
    all_goals simp_all [zb, mst_eq]
  · refine R_iconst (v := 1) dX6_readCommand_151 (by decide) ?_
    refine R_goto (tgt := 156) dX6_readCommand_152 rfl ?_
    refine R_iret dX6_readCommand_156 (by first | rfl | decide) (Nat.le_of_ble_eq_true rfl) (Nat.le_of_ble_eq_true rfl) ?_
    refine ⟨?_, congrArg (fun z => hp z r) ?_⟩
    all_goals simp_all [zb, mst_eq]
theorem B157_X6_readCommand {l : Launch} (hf : l.stackTraces = false) {t : Nat → Int32} (ht : M 461 = t) {L p : Nat} (hL : M 460 1 = nI L) (hL60 : L ≤ 60) (hC : ∀ k, isC (t k)) (hcu : M 460 4 = nI p) (hp1 : p < L) : Q_X6_readCommand l (VI (zb (!((rdN t L 2 (p + 1)).1 == -1))) (hp (mst (mst M 460 4 (nI (rdN t L 2 (p + 1)).2)) 460 6 (rdN t L 2 (p + 1)).1) r)) 157 (L9 (some (.ref 460)) none none none none none none none none) [] (hp M r) := by
  refine R_aload_n dX6_readCommand_157 rfl rfl ?_
  refine G_cV0v cw_X6_43 (s_X6_pass hf hcu) dX6_readCommand_158 (rcv cok6 (by first | exact rfl | assumption) (Nat.le_of_ble_eq_true rfl)) ⟨(Nat.le_of_ble_eq_true rfl), (Nat.le_of_ble_eq_true rfl), (Nat.le_of_ble_eq_true rfl), (Nat.le_of_ble_eq_true rfl)⟩ ?_
  refine R_aload_n dX6_readCommand_161 rfl rfl ?_
  refine R_aload_n dX6_readCommand_162 rfl rfl ?_
  refine R_iconst (v := 2) dX6_readCommand_163 (by decide) ?_
  refine G_cV1 cw_X6_50 (show VD l _ _ _ _ _ _ (hp (mst M 460 4 (nI (p + 1))) r) (some (.int (rdN t L 2 (p + 1)).1)) (hp (mst (mst M 460 4 (nI (p + 1))) 460 4 (nI (rdN t L 2 (p + 1)).2)) r) by have e7 : (mst M 460 4 (nI (p + 1))) 461 = t := (by simp only [ht, mst_fn (show (461 : Nat) ≠ 460 by decide)]); have z := s_X6_readNumber hf (M := mst M 460 4 (nI (p + 1))) (r := r) (L := L) (p := p + 1) (by first | exact hL | simpa [mst] using hL) hL60 (by rw [e7]; exact hC) (by first | exact hcu | simp [mst]) hp1 (m := 2) (by omega); rw [e7] at z; exact z) dX6_readCommand_164 (rcv cok6 (by first | exact rfl | assumption) (Nat.le_of_ble_eq_true rfl)) ⟨(Nat.le_of_ble_eq_true rfl), (Nat.le_of_ble_eq_true rfl), (Nat.le_of_ble_eq_true rfl), (Nat.le_of_ble_eq_true rfl)⟩ ?_
  rw [mst_mst]
  refine G_put cok6 6 wf_X6_54 dX6_readCommand_167 (by first | exact rfl | assumption) rfl ⟨(Nat.le_of_ble_eq_true rfl), rfl, (Nat.le_of_ble_eq_true rfl)⟩ ⟨rfl, rfl⟩ ?_
  refine R_aload_n dX6_readCommand_170 rfl rfl ?_
  refine G_get cok6 6 wf_X6_54 dX6_readCommand_171 (by first | exact rfl | assumption) ⟨(Nat.le_of_ble_eq_true rfl), (Nat.le_of_ble_eq_true rfl)⟩ rfl ?_
  refine R_iconst (v := (-1)) dX6_readCommand_174 (by decide) ?_
  refine R_icmp_eq (tgt := 182) dX6_readCommand_175 rfl (fun c1 => ?_) (fun c1 => ?_)
  · refine R_iconst (v := 0) dX6_readCommand_182 (by decide) ?_
    refine R_iret dX6_readCommand_183 (by first | rfl | decide) (Nat.le_of_ble_eq_true rfl) (Nat.le_of_ble_eq_true rfl) ?_
    refine ⟨?_, congrArg (fun z => hp z r) ?_⟩
    all_goals simp_all [zb, mst_eq]
  · refine R_iconst (v := 1) dX6_readCommand_178 (by decide) ?_
    refine R_goto (tgt := 183) dX6_readCommand_179 rfl ?_
    refine R_iret dX6_readCommand_183 (by first | rfl | decide) (Nat.le_of_ble_eq_true rfl) (Nat.le_of_ble_eq_true rfl) ?_
    refine ⟨?_, congrArg (fun z => hp z r) ?_⟩
    all_goals simp_all [zb, mst_eq]
theorem B184_X6_readCommand {l : Launch} (hf : l.stackTraces = false) {t : Nat → Int32} (ht : M 461 = t) {L p : Nat} (hL : M 460 1 = nI L) (hL60 : L ≤ 60) (hC : ∀ k, isC (t k)) (hcu : M 460 4 = nI p) (hp1 : p < L) : Q_X6_readCommand l (VI (zb (if (rdN t L 2 (p + 1)).1 = -1 then false else (hkM t (mst (mst M 460 4 (nI (rdN t L 2 (p + 1)).2)) 460 6 (rdN t L 2 (p + 1)).1) L (rdN t L 2 (p + 1)).2).1)) (hp (if (rdN t L 2 (p + 1)).1 = -1 then (mst (mst M 460 4 (nI (rdN t L 2 (p + 1)).2)) 460 6 (rdN t L 2 (p + 1)).1) else (hkM t (mst (mst M 460 4 (nI (rdN t L 2 (p + 1)).2)) 460 6 (rdN t L 2 (p + 1)).1) L (rdN t L 2 (p + 1)).2).2.2) r)) 184 (L9 (some (.ref 460)) none none none none none none none none) [] (hp M r) := by
  refine R_aload_n dX6_readCommand_184 rfl rfl ?_
  refine G_cV0v cw_X6_43 (s_X6_pass hf hcu) dX6_readCommand_185 (rcv cok6 (by first | exact rfl | assumption) (Nat.le_of_ble_eq_true rfl)) ⟨(Nat.le_of_ble_eq_true rfl), (Nat.le_of_ble_eq_true rfl), (Nat.le_of_ble_eq_true rfl), (Nat.le_of_ble_eq_true rfl)⟩ ?_
  refine R_aload_n dX6_readCommand_188 rfl rfl ?_
  refine R_aload_n dX6_readCommand_189 rfl rfl ?_
  refine R_iconst (v := 2) dX6_readCommand_190 (by decide) ?_
  refine G_cV1 cw_X6_50 (show VD l _ _ _ _ _ _ (hp (mst M 460 4 (nI (p + 1))) r) (some (.int (rdN t L 2 (p + 1)).1)) (hp (mst (mst M 460 4 (nI (p + 1))) 460 4 (nI (rdN t L 2 (p + 1)).2)) r) by have e7 : (mst M 460 4 (nI (p + 1))) 461 = t := (by simp only [ht, mst_fn (show (461 : Nat) ≠ 460 by decide)]); have z := s_X6_readNumber hf (M := mst M 460 4 (nI (p + 1))) (r := r) (L := L) (p := p + 1) (by first | exact hL | simpa [mst] using hL) hL60 (by rw [e7]; exact hC) (by first | exact hcu | simp [mst]) hp1 (m := 2) (by omega); rw [e7] at z; exact z) dX6_readCommand_191 (rcv cok6 (by first | exact rfl | assumption) (Nat.le_of_ble_eq_true rfl)) ⟨(Nat.le_of_ble_eq_true rfl), (Nat.le_of_ble_eq_true rfl), (Nat.le_of_ble_eq_true rfl), (Nat.le_of_ble_eq_true rfl)⟩ ?_
  rw [mst_mst]
  refine G_put cok6 6 wf_X6_54 dX6_readCommand_194 (by first | exact rfl | assumption) rfl ⟨(Nat.le_of_ble_eq_true rfl), rfl, (Nat.le_of_ble_eq_true rfl)⟩ ⟨rfl, rfl⟩ ?_
  refine R_aload_n dX6_readCommand_197 rfl rfl ?_
  refine G_get cok6 6 wf_X6_54 dX6_readCommand_198 (by first | exact rfl | assumption) ⟨(Nat.le_of_ble_eq_true rfl), (Nat.le_of_ble_eq_true rfl)⟩ rfl ?_
  refine R_iconst (v := (-1)) dX6_readCommand_201 (by decide) ?_
  refine R_icmp_eq (tgt := 216) dX6_readCommand_202 rfl (fun c1 => ?_) (fun c1 => ?_)
  · refine R_iconst (v := 0) dX6_readCommand_216 (by decide) ?_
    refine R_iret dX6_readCommand_217 (by first | rfl | decide) (Nat.le_of_ble_eq_true rfl) (Nat.le_of_ble_eq_true rfl) ?_
    refine ⟨?_, congrArg (fun z => hp z r) ?_⟩
    all_goals simp_all [zb, mst_eq]
  · refine R_aload_n dX6_readCommand_205 rfl rfl ?_
    refine G_cV0 cw_X6_57 (show VD l _ _ _ _ _ _ (hp (mst (mst M 460 4 (nI (rdN t L 2 (p + 1)).2)) 460 6 (rdN t L 2 (p + 1)).1) r) (some (.int (zb (hkM t (mst (mst M 460 4 (nI (rdN t L 2 (p + 1)).2)) 460 6 (rdN t L 2 (p + 1)).1) L (rdN t L 2 (p + 1)).2).1))) (hp (hkM t (mst (mst M 460 4 (nI (rdN t L 2 (p + 1)).2)) 460 6 (rdN t L 2 (p + 1)).1) L (rdN t L 2 (p + 1)).2).2.2 r) from s_X6_readHook hf (by simp only [ht, mst_fn (show (461 : Nat) ≠ 460 by decide)]) (by simpa [mst] using hL) hL60 hC (by simp [mst]) (rdN_le hp1)) dX6_readCommand_206 (rcv cok6 (by first | exact rfl | assumption) (Nat.le_of_ble_eq_true rfl)) ⟨(Nat.le_of_ble_eq_true rfl), (Nat.le_of_ble_eq_true rfl), (Nat.le_of_ble_eq_true rfl), (Nat.le_of_ble_eq_true rfl)⟩ ?_
    refine R_if_eq (tgt := 216) dX6_readCommand_209 rfl (fun c2 => ?_) (fun c2 => ?_)
    · refine R_iconst (v := 0) dX6_readCommand_216 (by decide) ?_
      refine R_iret dX6_readCommand_217 (by first | rfl | decide) (Nat.le_of_ble_eq_true rfl) (Nat.le_of_ble_eq_true rfl) ?_
      refine ⟨?_, congrArg (fun z => hp z r) ?_⟩
      all_goals simp_all [zb, mst_eq]
    · refine R_iconst (v := 1) dX6_readCommand_212 (by decide) ?_
      refine R_goto (tgt := 217) dX6_readCommand_213 rfl ?_
      refine R_iret dX6_readCommand_217 (by first | rfl | decide) (Nat.le_of_ble_eq_true rfl) (Nat.le_of_ble_eq_true rfl) ?_
      refine ⟨?_, congrArg (fun z => hp z r) ?_⟩
      all_goals simp_all [zb, mst_eq]
theorem s_X6_readCommand {l : Launch} (hf : l.stackTraces = false) {t : Nat → Int32} (ht : M 461 = t) {L p : Nat} (hL : M 460 1 = nI L) (hL60 : L ≤ 60) (hC : ∀ k, isC (t k)) (hcu : M 460 4 = nI p) (hp60 : p ≤ L) : V_X6_readCommand l [.ref 460] (hp M r) (VI (zb (pcM t M L p).1) (hp (pcM t M L p).2.2 r)) := by
  refine VM.intro (lf := L9 (some (.ref 460)) none none none none none none none none) (by decide +kernel) hf (fun _ => (Nat.le_of_ble_eq_true rfl)) (fun _ => rfl) ?_
  refine R_aload_n dX6_readCommand_0 rfl rfl ?_
  refine R_aload_n dX6_readCommand_1 rfl rfl ?_
  refine G_cV0 cw_X6_39 (show VD l _ _ _ _ _ _ (hp (M) r) (some (.int (sg t L (p)))) (hp (M) r) by have e7 : (M) 461 = t := (by simp only [ht, mst_fn (show (461 : Nat) ≠ 460 by decide)]); have z := s_X6_signNow hf (M := M) (r := r) (L := L) (p := p) (by first | exact hL | simpa [mst] using hL) hL60 (by rw [e7]; exact hC) (by first | exact hcu | simp [mst]) hp60; rw [e7] at z; exact z) dX6_readCommand_2 (rcv cok6 (by first | exact rfl | assumption) (Nat.le_of_ble_eq_true rfl)) ⟨(Nat.le_of_ble_eq_true rfl), (Nat.le_of_ble_eq_true rfl), (Nat.le_of_ble_eq_true rfl), (Nat.le_of_ble_eq_true rfl)⟩ ?_
  refine G_put cok6 5 wf_X6_46 dX6_readCommand_5 (by first | exact rfl | assumption) rfl ⟨(Nat.le_of_ble_eq_true rfl), rfl, (Nat.le_of_ble_eq_true rfl)⟩ (chr_ok hC hp60) ?_
  refine R_aload_n dX6_readCommand_8 rfl rfl ?_
  refine G_get cok6 5 wf_X6_46 dX6_readCommand_9 (by first | exact rfl | assumption) ⟨(Nat.le_of_ble_eq_true rfl), (Nat.le_of_ble_eq_true rfl)⟩ rfl ?_
  refine R_topE (mst_eq _ _ _ _) ?_
  by_cases e0 : sg t L p = 97
  · refine R_topE e0 ?_
    refine R_tableIn (tgt := 130) dX6_readCommand_12 (by decide) (by decide) rfl rfl ?_
    have hk : kc (sg t L p) = 2 := by rw [e0]; decide
    have hp9 := kc_lt (t := t) (L := L) (p := p) (by rw [hk]; decide)
    rw [pcM, if_neg (by rw [hk]; decide), if_pos hk]
    exact B130_X6_readCommand hf (M := mst M 460 5 (sg t L p)) (r := r) (by rw [mst_fn (by decide)]; exact ht) (by simpa [mst] using hL) hL60 hC (by simpa [mst] using hcu) hp9
  · by_cases e1 : sg t L p = 98
    · refine R_topE e1 ?_
      refine R_tableIn (tgt := 157) dX6_readCommand_12 (by decide) (by decide) rfl rfl ?_
      have hk : kc (sg t L p) = 3 := by rw [e1]; decide
      have hp9 := kc_lt (t := t) (L := L) (p := p) (by rw [hk]; decide)
      rw [pcM, if_neg (by rw [hk]; decide), if_neg (by rw [hk]; decide), if_pos hk]
      exact B157_X6_readCommand hf (M := mst M 460 5 (sg t L p)) (r := r) (by rw [mst_fn (by decide)]; exact ht) (by simpa [mst] using hL) hL60 hC (by simpa [mst] using hcu) hp9
    · by_cases e2 : sg t L p = 99
      · refine R_topE e2 ?_
        refine R_tableIn (tgt := 218) dX6_readCommand_12 (by decide) (by decide) rfl rfl ?_
        have hk : kc (sg t L p) = 0 := by first | (rw [e2]; decide) | (simp only [kc, *]; decide)
        rw [pcM, if_neg (by rw [hk]; decide), if_neg (by rw [hk]; decide), if_neg (by rw [hk]; decide), if_neg (by rw [hk]; decide)]
        refine R_iconst (v := 0) dX6_readCommand_218 (by decide) ?_
        refine R_iret dX6_readCommand_219 rfl (Nat.le_of_ble_eq_true rfl) (Nat.le_of_ble_eq_true rfl) ?_
        exact ⟨rfl, rfl⟩
      · by_cases e3 : sg t L p = 100
        · refine R_topE e3 ?_
          refine R_tableIn (tgt := 124) dX6_readCommand_12 (by decide) (by decide) rfl rfl ?_
          have hk : kc (sg t L p) = 1 := by rw [e3]; decide
          rw [pcM, if_pos hk]
          refine R_aload_n dX6_readCommand_124 rfl rfl ?_
          refine G_cV0v cw_X6_43 (s_X6_pass hf (p := p) (by simpa [mst] using hcu)) dX6_readCommand_125 (rcv cok6 (by first | exact rfl | assumption) (Nat.le_of_ble_eq_true rfl)) ⟨(Nat.le_of_ble_eq_true rfl), (Nat.le_of_ble_eq_true rfl), (Nat.le_of_ble_eq_true rfl), (Nat.le_of_ble_eq_true rfl)⟩ ?_
          refine R_iconst (v := 1) dX6_readCommand_128 (by decide) ?_
          refine R_iret dX6_readCommand_129 rfl (Nat.le_of_ble_eq_true rfl) (Nat.le_of_ble_eq_true rfl) ?_
          exact ⟨rfl, rfl⟩
        · by_cases e4 : sg t L p = 101
          · refine R_topE e4 ?_
            refine R_tableIn (tgt := 218) dX6_readCommand_12 (by decide) (by decide) rfl rfl ?_
            have hk : kc (sg t L p) = 0 := by first | (rw [e4]; decide) | (simp only [kc, *]; decide)
            rw [pcM, if_neg (by rw [hk]; decide), if_neg (by rw [hk]; decide), if_neg (by rw [hk]; decide), if_neg (by rw [hk]; decide)]
            refine R_iconst (v := 0) dX6_readCommand_218 (by decide) ?_
            refine R_iret dX6_readCommand_219 rfl (Nat.le_of_ble_eq_true rfl) (Nat.le_of_ble_eq_true rfl) ?_
            exact ⟨rfl, rfl⟩
          · by_cases e5 : sg t L p = 102
            · refine R_topE e5 ?_
              refine R_tableIn (tgt := 130) dX6_readCommand_12 (by decide) (by decide) rfl rfl ?_
              have hk : kc (sg t L p) = 2 := by rw [e5]; decide
              have hp9 := kc_lt (t := t) (L := L) (p := p) (by rw [hk]; decide)
              rw [pcM, if_neg (by rw [hk]; decide), if_pos hk]
              exact B130_X6_readCommand hf (M := mst M 460 5 (sg t L p)) (r := r) (by rw [mst_fn (by decide)]; exact ht) (by simpa [mst] using hL) hL60 hC (by simpa [mst] using hcu) hp9
            · by_cases e6 : sg t L p = 103
              · refine R_topE e6 ?_
                refine R_tableIn (tgt := 218) dX6_readCommand_12 (by decide) (by decide) rfl rfl ?_
                have hk : kc (sg t L p) = 0 := by first | (rw [e6]; decide) | (simp only [kc, *]; decide)
                rw [pcM, if_neg (by rw [hk]; decide), if_neg (by rw [hk]; decide), if_neg (by rw [hk]; decide), if_neg (by rw [hk]; decide)]
                refine R_iconst (v := 0) dX6_readCommand_218 (by decide) ?_
                refine R_iret dX6_readCommand_219 rfl (Nat.le_of_ble_eq_true rfl) (Nat.le_of_ble_eq_true rfl) ?_
                exact ⟨rfl, rfl⟩
              · by_cases e7 : sg t L p = 104
                · refine R_topE e7 ?_
                  refine R_tableIn (tgt := 184) dX6_readCommand_12 (by decide) (by decide) rfl rfl ?_
                  have hk : kc (sg t L p) = 4 := by rw [e7]; decide
                  have hp9 := kc_lt (t := t) (L := L) (p := p) (by rw [hk]; decide)
                  rw [pcM, if_neg (by rw [hk]; decide), if_neg (by rw [hk]; decide), if_neg (by rw [hk]; decide), if_pos hk]
                  have z := B184_X6_readCommand hf (M := mst M 460 5 (sg t L p)) (r := r) (by rw [mst_fn (by decide)]; exact ht) (by simpa [mst] using hL) hL60 hC (by simpa [mst] using hcu) hp9
                  split
                  · rename_i q; rw [if_pos q, if_pos q] at z; exact z
                  · rename_i q; rw [if_neg q, if_neg q] at z; exact z
                · by_cases e8 : sg t L p = 105
                  · refine R_topE e8 ?_
                    refine R_tableIn (tgt := 218) dX6_readCommand_12 (by decide) (by decide) rfl rfl ?_
                    have hk : kc (sg t L p) = 0 := by first | (rw [e8]; decide) | (simp only [kc, *]; decide)
                    rw [pcM, if_neg (by rw [hk]; decide), if_neg (by rw [hk]; decide), if_neg (by rw [hk]; decide), if_neg (by rw [hk]; decide)]
                    refine R_iconst (v := 0) dX6_readCommand_218 (by decide) ?_
                    refine R_iret dX6_readCommand_219 rfl (Nat.le_of_ble_eq_true rfl) (Nat.le_of_ble_eq_true rfl) ?_
                    exact ⟨rfl, rfl⟩
                  · by_cases e9 : sg t L p = 106
                    · refine R_topE e9 ?_
                      refine R_tableIn (tgt := 218) dX6_readCommand_12 (by decide) (by decide) rfl rfl ?_
                      have hk : kc (sg t L p) = 0 := by first | (rw [e9]; decide) | (simp only [kc, *]; decide)
                      rw [pcM, if_neg (by rw [hk]; decide), if_neg (by rw [hk]; decide), if_neg (by rw [hk]; decide), if_neg (by rw [hk]; decide)]
                      refine R_iconst (v := 0) dX6_readCommand_218 (by decide) ?_
                      refine R_iret dX6_readCommand_219 rfl (Nat.le_of_ble_eq_true rfl) (Nat.le_of_ble_eq_true rfl) ?_
                      exact ⟨rfl, rfl⟩
                    · by_cases e10 : sg t L p = 107
                      · refine R_topE e10 ?_
                        refine R_tableIn (tgt := 218) dX6_readCommand_12 (by decide) (by decide) rfl rfl ?_
                        have hk : kc (sg t L p) = 0 := by first | (rw [e10]; decide) | (simp only [kc, *]; decide)
                        rw [pcM, if_neg (by rw [hk]; decide), if_neg (by rw [hk]; decide), if_neg (by rw [hk]; decide), if_neg (by rw [hk]; decide)]
                        refine R_iconst (v := 0) dX6_readCommand_218 (by decide) ?_
                        refine R_iret dX6_readCommand_219 rfl (Nat.le_of_ble_eq_true rfl) (Nat.le_of_ble_eq_true rfl) ?_
                        exact ⟨rfl, rfl⟩
                      · by_cases e11 : sg t L p = 108
                        · refine R_topE e11 ?_
                          refine R_tableIn (tgt := 157) dX6_readCommand_12 (by decide) (by decide) rfl rfl ?_
                          have hk : kc (sg t L p) = 3 := by rw [e11]; decide
                          have hp9 := kc_lt (t := t) (L := L) (p := p) (by rw [hk]; decide)
                          rw [pcM, if_neg (by rw [hk]; decide), if_neg (by rw [hk]; decide), if_pos hk]
                          exact B157_X6_readCommand hf (M := mst M 460 5 (sg t L p)) (r := r) (by rw [mst_fn (by decide)]; exact ht) (by simpa [mst] using hL) hL60 hC (by simpa [mst] using hcu) hp9
                        · by_cases e12 : sg t L p = 109
                          · refine R_topE e12 ?_
                            refine R_tableIn (tgt := 218) dX6_readCommand_12 (by decide) (by decide) rfl rfl ?_
                            have hk : kc (sg t L p) = 0 := by first | (rw [e12]; decide) | (simp only [kc, *]; decide)
                            rw [pcM, if_neg (by rw [hk]; decide), if_neg (by rw [hk]; decide), if_neg (by rw [hk]; decide), if_neg (by rw [hk]; decide)]
                            refine R_iconst (v := 0) dX6_readCommand_218 (by decide) ?_
                            refine R_iret dX6_readCommand_219 rfl (Nat.le_of_ble_eq_true rfl) (Nat.le_of_ble_eq_true rfl) ?_
                            exact ⟨rfl, rfl⟩
                          · by_cases e13 : sg t L p = 110
                            · refine R_topE e13 ?_
                              refine R_tableIn (tgt := 157) dX6_readCommand_12 (by decide) (by decide) rfl rfl ?_
                              have hk : kc (sg t L p) = 3 := by rw [e13]; decide
                              have hp9 := kc_lt (t := t) (L := L) (p := p) (by rw [hk]; decide)
                              rw [pcM, if_neg (by rw [hk]; decide), if_neg (by rw [hk]; decide), if_pos hk]
                              exact B157_X6_readCommand hf (M := mst M 460 5 (sg t L p)) (r := r) (by rw [mst_fn (by decide)]; exact ht) (by simpa [mst] using hL) hL60 hC (by simpa [mst] using hcu) hp9
                            · by_cases e14 : sg t L p = 111
                              · refine R_topE e14 ?_
                                refine R_tableIn (tgt := 157) dX6_readCommand_12 (by decide) (by decide) rfl rfl ?_
                                have hk : kc (sg t L p) = 3 := by rw [e14]; decide
                                have hp9 := kc_lt (t := t) (L := L) (p := p) (by rw [hk]; decide)
                                rw [pcM, if_neg (by rw [hk]; decide), if_neg (by rw [hk]; decide), if_pos hk]
                                exact B157_X6_readCommand hf (M := mst M 460 5 (sg t L p)) (r := r) (by rw [mst_fn (by decide)]; exact ht) (by simpa [mst] using hL) hL60 hC (by simpa [mst] using hcu) hp9
                              · by_cases e15 : sg t L p = 112
                                · refine R_topE e15 ?_
                                  refine R_tableIn (tgt := 218) dX6_readCommand_12 (by decide) (by decide) rfl rfl ?_
                                  have hk : kc (sg t L p) = 0 := by first | (rw [e15]; decide) | (simp only [kc, *]; decide)
                                  rw [pcM, if_neg (by rw [hk]; decide), if_neg (by rw [hk]; decide), if_neg (by rw [hk]; decide), if_neg (by rw [hk]; decide)]
                                  refine R_iconst (v := 0) dX6_readCommand_218 (by decide) ?_
                                  refine R_iret dX6_readCommand_219 rfl (Nat.le_of_ble_eq_true rfl) (Nat.le_of_ble_eq_true rfl) ?_
                                  exact ⟨rfl, rfl⟩
                                · by_cases e16 : sg t L p = 113
                                  · refine R_topE e16 ?_
                                    refine R_tableIn (tgt := 218) dX6_readCommand_12 (by decide) (by decide) rfl rfl ?_
                                    have hk : kc (sg t L p) = 0 := by first | (rw [e16]; decide) | (simp only [kc, *]; decide)
                                    rw [pcM, if_neg (by rw [hk]; decide), if_neg (by rw [hk]; decide), if_neg (by rw [hk]; decide), if_neg (by rw [hk]; decide)]
                                    refine R_iconst (v := 0) dX6_readCommand_218 (by decide) ?_
                                    refine R_iret dX6_readCommand_219 rfl (Nat.le_of_ble_eq_true rfl) (Nat.le_of_ble_eq_true rfl) ?_
                                    exact ⟨rfl, rfl⟩
                                  · by_cases e17 : sg t L p = 114
                                    · refine R_topE e17 ?_
                                      refine R_tableIn (tgt := 218) dX6_readCommand_12 (by decide) (by decide) rfl rfl ?_
                                      have hk : kc (sg t L p) = 0 := by first | (rw [e17]; decide) | (simp only [kc, *]; decide)
                                      rw [pcM, if_neg (by rw [hk]; decide), if_neg (by rw [hk]; decide), if_neg (by rw [hk]; decide), if_neg (by rw [hk]; decide)]
                                      refine R_iconst (v := 0) dX6_readCommand_218 (by decide) ?_
                                      refine R_iret dX6_readCommand_219 rfl (Nat.le_of_ble_eq_true rfl) (Nat.le_of_ble_eq_true rfl) ?_
                                      exact ⟨rfl, rfl⟩
                                    · by_cases e18 : sg t L p = 115
                                      · refine R_topE e18 ?_
                                        refine R_tableIn (tgt := 157) dX6_readCommand_12 (by decide) (by decide) rfl rfl ?_
                                        have hk : kc (sg t L p) = 3 := by rw [e18]; decide
                                        have hp9 := kc_lt (t := t) (L := L) (p := p) (by rw [hk]; decide)
                                        rw [pcM, if_neg (by rw [hk]; decide), if_neg (by rw [hk]; decide), if_pos hk]
                                        exact B157_X6_readCommand hf (M := mst M 460 5 (sg t L p)) (r := r) (by rw [mst_fn (by decide)]; exact ht) (by simpa [mst] using hL) hL60 hC (by simpa [mst] using hcu) hp9
                                      · by_cases e19 : sg t L p = 116
                                        · refine R_topE e19 ?_
                                          refine R_tableIn (tgt := 157) dX6_readCommand_12 (by decide) (by decide) rfl rfl ?_
                                          have hk : kc (sg t L p) = 3 := by rw [e19]; decide
                                          have hp9 := kc_lt (t := t) (L := L) (p := p) (by rw [hk]; decide)
                                          rw [pcM, if_neg (by rw [hk]; decide), if_neg (by rw [hk]; decide), if_pos hk]
                                          exact B157_X6_readCommand hf (M := mst M 460 5 (sg t L p)) (r := r) (by rw [mst_fn (by decide)]; exact ht) (by simpa [mst] using hL) hL60 hC (by simpa [mst] using hcu) hp9
                                        · by_cases e20 : sg t L p = 117
                                          · refine R_topE e20 ?_
                                            refine R_tableIn (tgt := 218) dX6_readCommand_12 (by decide) (by decide) rfl rfl ?_
                                            have hk : kc (sg t L p) = 0 := by first | (rw [e20]; decide) | (simp only [kc, *]; decide)
                                            rw [pcM, if_neg (by rw [hk]; decide), if_neg (by rw [hk]; decide), if_neg (by rw [hk]; decide), if_neg (by rw [hk]; decide)]
                                            refine R_iconst (v := 0) dX6_readCommand_218 (by decide) ?_
                                            refine R_iret dX6_readCommand_219 rfl (Nat.le_of_ble_eq_true rfl) (Nat.le_of_ble_eq_true rfl) ?_
                                            exact ⟨rfl, rfl⟩
                                          · by_cases e21 : sg t L p = 118
                                            · refine R_topE e21 ?_
                                              refine R_tableIn (tgt := 218) dX6_readCommand_12 (by decide) (by decide) rfl rfl ?_
                                              have hk : kc (sg t L p) = 0 := by first | (rw [e21]; decide) | (simp only [kc, *]; decide)
                                              rw [pcM, if_neg (by rw [hk]; decide), if_neg (by rw [hk]; decide), if_neg (by rw [hk]; decide), if_neg (by rw [hk]; decide)]
                                              refine R_iconst (v := 0) dX6_readCommand_218 (by decide) ?_
                                              refine R_iret dX6_readCommand_219 rfl (Nat.le_of_ble_eq_true rfl) (Nat.le_of_ble_eq_true rfl) ?_
                                              exact ⟨rfl, rfl⟩
                                            · by_cases e22 : sg t L p = 119
                                              · refine R_topE e22 ?_
                                                refine R_tableIn (tgt := 130) dX6_readCommand_12 (by decide) (by decide) rfl rfl ?_
                                                have hk : kc (sg t L p) = 2 := by rw [e22]; decide
                                                have hp9 := kc_lt (t := t) (L := L) (p := p) (by rw [hk]; decide)
                                                rw [pcM, if_neg (by rw [hk]; decide), if_pos hk]
                                                exact B130_X6_readCommand hf (M := mst M 460 5 (sg t L p)) (r := r) (by rw [mst_fn (by decide)]; exact ht) (by simpa [mst] using hL) hL60 hC (by simpa [mst] using hcu) hp9
                                              · by_cases e23 : sg t L p = 120
                                                · refine R_topE e23 ?_
                                                  refine R_tableIn (tgt := 157) dX6_readCommand_12 (by decide) (by decide) rfl rfl ?_
                                                  have hk : kc (sg t L p) = 3 := by rw [e23]; decide
                                                  have hp9 := kc_lt (t := t) (L := L) (p := p) (by rw [hk]; decide)
                                                  rw [pcM, if_neg (by rw [hk]; decide), if_neg (by rw [hk]; decide), if_pos hk]
                                                  exact B157_X6_readCommand hf (M := mst M 460 5 (sg t L p)) (r := r) (by rw [mst_fn (by decide)]; exact ht) (by simpa [mst] using hL) hL60 hC (by simpa [mst] using hcu) hp9
                                                · have t0 : (sg t L p).toInt ≠ 97 := fun e => e0 (Int32.toInt_inj.mp (by rw [e]; rfl))
                                                  have t1 : (sg t L p).toInt ≠ 98 := fun e => e1 (Int32.toInt_inj.mp (by rw [e]; rfl))
                                                  have t2 : (sg t L p).toInt ≠ 99 := fun e => e2 (Int32.toInt_inj.mp (by rw [e]; rfl))
                                                  have t3 : (sg t L p).toInt ≠ 100 := fun e => e3 (Int32.toInt_inj.mp (by rw [e]; rfl))
                                                  have t4 : (sg t L p).toInt ≠ 101 := fun e => e4 (Int32.toInt_inj.mp (by rw [e]; rfl))
                                                  have t5 : (sg t L p).toInt ≠ 102 := fun e => e5 (Int32.toInt_inj.mp (by rw [e]; rfl))
                                                  have t6 : (sg t L p).toInt ≠ 103 := fun e => e6 (Int32.toInt_inj.mp (by rw [e]; rfl))
                                                  have t7 : (sg t L p).toInt ≠ 104 := fun e => e7 (Int32.toInt_inj.mp (by rw [e]; rfl))
                                                  have t8 : (sg t L p).toInt ≠ 105 := fun e => e8 (Int32.toInt_inj.mp (by rw [e]; rfl))
                                                  have t9 : (sg t L p).toInt ≠ 106 := fun e => e9 (Int32.toInt_inj.mp (by rw [e]; rfl))
                                                  have t10 : (sg t L p).toInt ≠ 107 := fun e => e10 (Int32.toInt_inj.mp (by rw [e]; rfl))
                                                  have t11 : (sg t L p).toInt ≠ 108 := fun e => e11 (Int32.toInt_inj.mp (by rw [e]; rfl))
                                                  have t12 : (sg t L p).toInt ≠ 109 := fun e => e12 (Int32.toInt_inj.mp (by rw [e]; rfl))
                                                  have t13 : (sg t L p).toInt ≠ 110 := fun e => e13 (Int32.toInt_inj.mp (by rw [e]; rfl))
                                                  have t14 : (sg t L p).toInt ≠ 111 := fun e => e14 (Int32.toInt_inj.mp (by rw [e]; rfl))
                                                  have t15 : (sg t L p).toInt ≠ 112 := fun e => e15 (Int32.toInt_inj.mp (by rw [e]; rfl))
                                                  have t16 : (sg t L p).toInt ≠ 113 := fun e => e16 (Int32.toInt_inj.mp (by rw [e]; rfl))
                                                  have t17 : (sg t L p).toInt ≠ 114 := fun e => e17 (Int32.toInt_inj.mp (by rw [e]; rfl))
                                                  have t18 : (sg t L p).toInt ≠ 115 := fun e => e18 (Int32.toInt_inj.mp (by rw [e]; rfl))
                                                  have t19 : (sg t L p).toInt ≠ 116 := fun e => e19 (Int32.toInt_inj.mp (by rw [e]; rfl))
                                                  have t20 : (sg t L p).toInt ≠ 117 := fun e => e20 (Int32.toInt_inj.mp (by rw [e]; rfl))
                                                  have t21 : (sg t L p).toInt ≠ 118 := fun e => e21 (Int32.toInt_inj.mp (by rw [e]; rfl))
                                                  have t22 : (sg t L p).toInt ≠ 119 := fun e => e22 (Int32.toInt_inj.mp (by rw [e]; rfl))
                                                  have t23 : (sg t L p).toInt ≠ 120 := fun e => e23 (Int32.toInt_inj.mp (by rw [e]; rfl))
                                                  refine R_tableOut (tgt := 218) dX6_readCommand_12 (by omega) rfl ?_
                                                  have hk : kc (sg t L p) = 0 := by first | (rw [e23]; decide) | (simp only [kc, *]; decide)
                                                  rw [pcM, if_neg (by rw [hk]; decide), if_neg (by rw [hk]; decide), if_neg (by rw [hk]; decide), if_neg (by rw [hk]; decide)]
                                                  refine R_iconst (v := 0) dX6_readCommand_218 (by decide) ?_
                                                  refine R_iret dX6_readCommand_219 rfl (Nat.le_of_ble_eq_true rfl) (Nat.le_of_ble_eq_true rfl) ?_
                                                  exact ⟨rfl, rfl⟩
theorem pcM_461 {t : Nat → Int32} {M : MM} {L p : Nat} : (pcM t M L p).2.2 461 = M 461 := funext fun k => pcM_scO 461 k (Or.inl (by decide))
theorem pcM_1 {t : Nat → Int32} {M : MM} {L p : Nat} : (pcM t M L p).2.2 460 1 = M 460 1 := pcM_scO 460 1 (Or.inr (Or.inl (by decide)))
theorem L_X6_findFault {l : Launch} (hf : l.stackTraces = false) {t : Nat → Int32} {L : Nat} (hL60 : L ≤ 60) (hC : ∀ k, isC (t k)) : ∀ (j m p : Nat) (M : MM), m + j = 61 → M 461 = t → M 460 1 = nI L → M 460 4 = nI p → p ≤ L → Q_X6_findFault l (VI (ffM t L j m p M).1 (hp (ffM t L j m p M).2 r)) 2 (L9 (some (.ref 460)) (some (.int (nI m))) none none none none none none none) [] (hp M r) := by
  intro j
  induction j with
  | zero =>
    intro m p M hm ht hL hcu hp60
    obtain rfl : m = 61 := by omega
    refine R_iload_n dX6_findFault_2 rfl rfl ?_
    refine R_bipush (v := 60) dX6_findFault_3 (by decide) ?_
    refine R_icmp_gt_t (tgt := 62) dX6_findFault_5 rfl (by decide) ?_
    refine R_aload_n dX6_findFault_62 rfl rfl ?_
    refine G_get cok6 4 wf_X6_22 dX6_findFault_63 (by first | exact rfl | assumption) ⟨(Nat.le_of_ble_eq_true rfl), (Nat.le_of_ble_eq_true rfl)⟩ rfl ?_
    refine R_iret dX6_findFault_66 rfl (Nat.le_of_ble_eq_true rfl) (Nat.le_of_ble_eq_true rfl) ?_
    rw [hcu]
    exact ⟨rfl, rfl⟩
  | succ j ih =>
    intro m p M hm ht hL hcu hp60
    have hcu2 := pcM_cu (t := t) (L := L) hcu
    have hle := pcM_le (t := t) (M := M) hp60
    have ht2 : (pcM t M L p).2.2 461 = t := pcM_461.trans ht
    have hL2 : (pcM t M L p).2.2 460 1 = nI L := pcM_1.trans hL
    have heq : (pcM t M L p).2.2 460 4 = (pcM t M L p).2.2 460 1 ↔ (pcM t M L p).2.1 = L := by rw [hcu2, hL2]; exact nI_eq (by omega) (by omega)
    refine R_iload_n dX6_findFault_2 rfl rfl ?_
    refine R_bipush (v := 60) dX6_findFault_3 (by decide) ?_
    refine R_icmp_gt_f (tgt := 62) dX6_findFault_5 rfl (fun q => nI_nlt (a := 60) (b := m) (by omega) (by omega) q) ?_
    refine R_aload_n dX6_findFault_8 rfl rfl ?_
    refine G_cV0 cw_X6_32 (s_X6_readCommand hf ht hL hL60 hC hcu hp60) dX6_findFault_9 (rcv cok6 (by first | exact rfl | assumption) (Nat.le_of_ble_eq_true rfl)) ⟨(Nat.le_of_ble_eq_true rfl), (Nat.le_of_ble_eq_true rfl), (Nat.le_of_ble_eq_true rfl), (Nat.le_of_ble_eq_true rfl)⟩ ?_
    refine R_if_ne (tgt := 20) dX6_findFault_12 rfl (fun c1 => ?_) (fun c1 => ?_)
    · refine R_aload_n dX6_findFault_20 rfl rfl ?_
      refine G_get cok6 4 wf_X6_22 dX6_findFault_21 (by first | exact rfl | assumption) ⟨(Nat.le_of_ble_eq_true rfl), (Nat.le_of_ble_eq_true rfl)⟩ rfl ?_
      refine R_aload_n dX6_findFault_24 rfl rfl ?_
      refine G_get cok6 1 wf_X6_19 dX6_findFault_25 (by first | exact rfl | assumption) ⟨(Nat.le_of_ble_eq_true rfl), (Nat.le_of_ble_eq_true rfl)⟩ rfl ?_
      refine R_icmp_ne (tgt := 38) dX6_findFault_28 rfl (fun c2 => ?_) (fun c2 => ?_)
      · refine R_aload_n dX6_findFault_38 rfl rfl ?_
        refine G_cV0 cw_X6_39 (show VD l _ _ _ _ _ _ (hp (pcM t M L p).2.2 r) (some (.int (sg t L (pcM t M L p).2.1))) (hp (pcM t M L p).2.2 r) by have z := s_X6_signNow hf (M := (pcM t M L p).2.2) (r := r) hL2 hL60 (by rw [ht2]; exact hC) hcu2 hle; rw [ht2] at z; exact z) dX6_findFault_39 (rcv cok6 (by first | exact rfl | assumption) (Nat.le_of_ble_eq_true rfl)) ⟨(Nat.le_of_ble_eq_true rfl), (Nat.le_of_ble_eq_true rfl), (Nat.le_of_ble_eq_true rfl), (Nat.le_of_ble_eq_true rfl)⟩ ?_
        refine R_bipush (v := 59) dX6_findFault_42 (by decide) ?_
        refine R_icmp_eq (tgt := 52) dX6_findFault_44 rfl (fun c3 => ?_) (fun c3 => ?_)
        · refine R_aload_n dX6_findFault_52 rfl rfl ?_
          refine G_cV0v cw_X6_43 (s_X6_pass hf hcu2) dX6_findFault_53 (rcv cok6 (by first | exact rfl | assumption) (Nat.le_of_ble_eq_true rfl)) ⟨(Nat.le_of_ble_eq_true rfl), (Nat.le_of_ble_eq_true rfl), (Nat.le_of_ble_eq_true rfl), (Nat.le_of_ble_eq_true rfl)⟩ ?_
          first | refine R_iincN dX6_findFault_56 (by decide) rfl (by decide) (st1 rfl) ?_ | refine R_iinc1 dX6_findFault_56 (by decide) rfl (by decide) (st1 rfl) ?_
          refine R_goto (tgt := 2) dX6_findFault_59 rfl ?_
          have n1 : ¬ (pcM t M L p).1 = false := by simpa [zb_n0] using c1
          have n2 : ¬ (pcM t M L p).2.1 = L := fun q => c2 (heq.mpr q)
          have h59 : sg t L (pcM t M L p).2.1 = 59 := c3
          rw [ffM, if_neg n1, if_neg n2, if_pos h59]
          exact ih (m + 1) ((pcM t M L p).2.1 + 1) _ (by omega) (by rw [mst_fn (by decide)]; exact ht2) (by rw [mst_ne2 (by decide)]; exact hL2) (mst_eq _ _ _ _) (sg_lt h59 (by decide))
        · refine R_aload_n dX6_findFault_47 rfl rfl ?_
          refine G_get cok6 4 wf_X6_22 dX6_findFault_48 (by first | exact rfl | assumption) ⟨(Nat.le_of_ble_eq_true rfl), (Nat.le_of_ble_eq_true rfl)⟩ rfl ?_
          refine R_iret dX6_findFault_51 rfl (Nat.le_of_ble_eq_true rfl) (Nat.le_of_ble_eq_true rfl) ?_
          rw [ffM, if_neg (by simpa [zb_n0] using c1), if_neg (fun q => c2 (heq.mpr q)), if_neg (by assumption), hcu2]
          exact ⟨rfl, rfl⟩
      · refine R_aload_n dX6_findFault_31 rfl rfl ?_
        refine R_iload_n dX6_findFault_32 rfl rfl ?_
        refine G_put cok6 3 wf_X6_36 dX6_findFault_33 (by first | exact rfl | assumption) rfl ⟨(Nat.le_of_ble_eq_true rfl), rfl, (Nat.le_of_ble_eq_true rfl)⟩ ⟨rfl, rfl⟩ ?_
        refine R_iconst (v := (-1)) dX6_findFault_36 (by decide) ?_
        refine R_iret dX6_findFault_37 rfl (Nat.le_of_ble_eq_true rfl) (Nat.le_of_ble_eq_true rfl) ?_
        rw [ffM, if_neg (by simpa [zb_n0] using c1), if_pos (heq.mp c2)]
        exact ⟨rfl, rfl⟩
    · refine R_aload_n dX6_findFault_15 rfl rfl ?_
      refine G_get cok6 4 wf_X6_22 dX6_findFault_16 (by first | exact rfl | assumption) ⟨(Nat.le_of_ble_eq_true rfl), (Nat.le_of_ble_eq_true rfl)⟩ rfl ?_
      refine R_iret dX6_findFault_19 rfl (Nat.le_of_ble_eq_true rfl) (Nat.le_of_ble_eq_true rfl) ?_
      rw [ffM, if_pos (by simpa [zb_0] using c1), hcu2]
      exact ⟨rfl, rfl⟩
theorem s_X6_findFault {l : Launch} (hf : l.stackTraces = false) {t : Nat → Int32} {L : Nat} (ht : M 461 = t) (hL : M 460 1 = nI L) (hL60 : L ≤ 60) (hC : ∀ k, isC (t k)) (hcu : M 460 4 = 0) : V_X6_findFault l [.ref 460] (hp M r) (VI (ffM t L 60 1 0 M).1 (hp (ffM t L 60 1 0 M).2 r)) := by
  refine VM.intro (lf := L9 (some (.ref 460)) none none none none none none none none) (by decide +kernel) hf (fun _ => (Nat.le_of_ble_eq_true rfl)) (fun _ => rfl) ?_
  refine R_iconst (v := 1) dX6_findFault_0 (by decide) ?_
  refine R_istore_n dX6_findFault_1 rfl (by decide) (st1 rfl) ?_
  exact L_X6_findFault hf hL60 hC 60 1 0 M (by omega) ht hL hcu (by omega)
theorem s_X6_examine {l : Launch} (hf : l.stackTraces = false) {t : Nat → Int32} {L : Nat} (ht : M 461 = t) (hL : M 460 1 = nI L) (hL60 : L ≤ 60) (hC : ∀ k, isC (t k)) : V_X6_examine l [.ref 460] (hp M r) (VR none (hp (mst (ffM t L 60 1 0 (mst M 460 4 0)).2 460 2 (ffM t L 60 1 0 (mst M 460 4 0)).1) r)) := by
  refine VM.intro (lf := L9 (some (.ref 460)) none none none none none none none none) (by decide +kernel) hf (fun _ => (Nat.le_of_ble_eq_true rfl)) (fun _ => rfl) ?_
  refine R_aload_n dX6_examine_0 rfl rfl ?_
  refine G_cV0v cw_X6_25 (s_X6_rewind hf) dX6_examine_1 (rcv cok6 (by first | exact rfl | assumption) (Nat.le_of_ble_eq_true rfl)) ⟨(Nat.le_of_ble_eq_true rfl), (Nat.le_of_ble_eq_true rfl), (Nat.le_of_ble_eq_true rfl), (Nat.le_of_ble_eq_true rfl)⟩ ?_
  refine R_aload_n dX6_examine_4 rfl rfl ?_
  refine R_aload_n dX6_examine_5 rfl rfl ?_
  refine G_cV0 cw_X6_28 (s_X6_findFault hf (by rw [mst_fn (by decide)]; exact ht) (by rw [mst_ne2 (by decide)]; exact hL) hL60 hC (mst_eq _ _ _ _)) dX6_examine_6 (rcv cok6 (by first | exact rfl | assumption) (Nat.le_of_ble_eq_true rfl)) ⟨(Nat.le_of_ble_eq_true rfl), (Nat.le_of_ble_eq_true rfl), (Nat.le_of_ble_eq_true rfl), (Nat.le_of_ble_eq_true rfl)⟩ ?_
  refine G_put cok6 2 wf_X6_15 dX6_examine_9 (by first | exact rfl | assumption) rfl ⟨(Nat.le_of_ble_eq_true rfl), rfl, (Nat.le_of_ble_eq_true rfl)⟩ ⟨rfl, rfl⟩ ?_
  refine R_vret dX6_examine_12 (Nat.le_of_ble_eq_true rfl) (Nat.le_of_ble_eq_true rfl) ?_
  exact ⟨rfl, rfl⟩
end P16
