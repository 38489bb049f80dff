abbrev V_X3_copyFrom (l : Launch) (As : List Value) (h : HP) (Z : Option Value ⊕ String → HP → Prop) : Prop := VM l yX3_copyFrom cX3_copyFrom 3 none 2 0 0 As h Z
abbrev Q_X3_copyFrom (l : Launch) (Z : Option Value ⊕ String → HP → Prop) (pc : Nat) (lf : Nat → Option Value) (st : List Value) (h : HP) : Prop := Q l RX3 cX3_copyFrom 3 2 0 0 (GM none 0 0 Z) pc lf st h 0 0
abbrev V_X3_has (l : Launch) (As : List Value) (h : HP) (Z : Option Value ⊕ String → HP → Prop) : Prop := VM l yX3_has cX3_has 2 (some .boolean) 0 0 0 As h Z
abbrev Q_X3_has (l : Launch) (Z : Option Value ⊕ String → HP → Prop) (pc : Nat) (lf : Nat → Option Value) (st : List Value) (h : HP) : Prop := Q l RX3 cX3_has 2 0 0 0 (GM (some .boolean) 0 0 Z) pc lf st h 0 0
abbrev V_X3_fishAt (l : Launch) (As : List Value) (h : HP) (Z : Option Value ⊕ String → HP → Prop) : Prop := VM l yX3_fishAt cX3_fishAt 2 (some (.object "SmokeRacks$Fish")) 0 0 0 As h Z
abbrev Q_X3_fishAt (l : Launch) (Z : Option Value ⊕ String → HP → Prop) (pc : Nat) (lf : Nat → Option Value) (st : List Value) (h : HP) : Prop := Q l RX3 cX3_fishAt 2 0 0 0 (GM (some (.object "SmokeRacks$Fish")) 0 0 Z) pc lf st h 0 0
abbrev V_X3_addFish (l : Launch) (As : List Value) (h : HP) (Z : Option Value ⊕ String → HP → Prop) : Prop := VM l yX3_addFish cX3_addFish 2 none 2 0 0 As h Z
abbrev Q_X3_addFish (l : Launch) (Z : Option Value ⊕ String → HP → Prop) (pc : Nat) (lf : Nat → Option Value) (st : List Value) (h : HP) : Prop := Q l RX3 cX3_addFish 2 2 0 0 (GM none 0 0 Z) pc lf st h 0 0
abbrev V_X3_removeFish (l : Launch) (As : List Value) (h : HP) (Z : Option Value ⊕ String → HP → Prop) : Prop := VM l yX3_removeFish cX3_removeFish 3 none 2 0 0 As h Z
abbrev Q_X3_removeFish (l : Launch) (Z : Option Value ⊕ String → HP → Prop) (pc : Nat) (lf : Nat → Option Value) (st : List Value) (h : HP) : Prop := Q l RX3 cX3_removeFish 3 2 0 0 (GM none 0 0 Z) pc lf st h 0 0
abbrev V_X3_countIn (l : Launch) (As : List Value) (h : HP) (Z : Option Value ⊕ String → HP → Prop) : Prop := VM l yX3_countIn cX3_countIn 4 (some .int) 1 0 0 As h Z
abbrev Q_X3_countIn (l : Launch) (Z : Option Value ⊕ String → HP → Prop) (pc : Nat) (lf : Nat → Option Value) (st : List Value) (h : HP) : Prop := Q l RX3 cX3_countIn 4 1 0 0 (GM (some .int) 0 0 Z) pc lf st h 0 0
abbrev V_X3_countOnRack (l : Launch) (As : List Value) (h : HP) (Z : Option Value ⊕ String → HP → Prop) : Prop := VM l yX3_countOnRack cX3_countOnRack 4 (some .int) 1 0 0 As h Z
abbrev Q_X3_countOnRack (l : Launch) (Z : Option Value ⊕ String → HP → Prop) (pc : Nat) (lf : Nat → Option Value) (st : List Value) (h : HP) : Prop := Q l RX3 cX3_countOnRack 4 1 0 0 (GM (some .int) 0 0 Z) pc lf st h 0 0
abbrev V_X3_burntCount (l : Launch) (As : List Value) (h : HP) (Z : Option Value ⊕ String → HP → Prop) : Prop := VM l yX3_burntCount cX3_burntCount 3 (some .int) 2 0 0 As h Z
abbrev Q_X3_burntCount (l : Launch) (Z : Option Value ⊕ String → HP → Prop) (pc : Nat) (lf : Nat → Option Value) (st : List Value) (h : HP) : Prop := Q l RX3 cX3_burntCount 3 2 0 0 (GM (some .int) 0 0 Z) pc lf st h 0 0
abbrev V_X3_allSmoke (l : Launch) (As : List Value) (h : HP) (Z : Option Value ⊕ String → HP → Prop) : Prop := VM l yX3_allSmoke cX3_allSmoke 4 (some .int) 1 0 0 As h Z
abbrev Q_X3_allSmoke (l : Launch) (Z : Option Value ⊕ String → HP → Prop) (pc : Nat) (lf : Nat → Option Value) (st : List Value) (h : HP) : Prop := Q l RX3 cX3_allSmoke 4 1 0 0 (GM (some .int) 0 0 Z) pc lf st h 0 0
abbrev V_X3_saltInBrine (l : Launch) (As : List Value) (h : HP) (Z : Option Value ⊕ String → HP → Prop) : Prop := VM l yX3_saltInBrine cX3_saltInBrine 4 (some .int) 1 0 0 As h Z
abbrev Q_X3_saltInBrine (l : Launch) (Z : Option Value ⊕ String → HP → Prop) (pc : Nat) (lf : Nat → Option Value) (st : List Value) (h : HP) : Prop := Q l RX3 cX3_saltInBrine 4 1 0 0 (GM (some .int) 0 0 Z) pc lf st h 0 0
abbrev V_X3_fishOn (l : Launch) (As : List Value) (h : HP) (Z : Option Value ⊕ String → HP → Prop) : Prop := VM l yX3_fishOn cX3_fishOn 5 (some .int) 1 0 0 As h Z
abbrev Q_X3_fishOn (l : Launch) (Z : Option Value ⊕ String → HP → Prop) (pc : Nat) (lf : Nat → Option Value) (st : List Value) (h : HP) : Prop := Q l RX3 cX3_fishOn 5 1 0 0 (GM (some .int) 0 0 Z) pc lf st h 0 0
abbrev V_X3_letterOn (l : Launch) (As : List Value) (h : HP) (Z : Option Value ⊕ String → HP → Prop) : Prop := VM l yX3_letterOn cX3_letterOn 4 (some .char) 2 0 0 As h Z
abbrev Q_X3_letterOn (l : Launch) (Z : Option Value ⊕ String → HP → Prop) (pc : Nat) (lf : Nat → Option Value) (st : List Value) (h : HP) : Prop := Q l RX3 cX3_letterOn 4 2 0 0 (GM (some .char) 0 0 Z) pc lf st h 0 0
abbrev V_X3_nearestOther (l : Launch) (As : List Value) (h : HP) (Z : Option Value ⊕ String → HP → Prop) : Prop := VM l yX3_nearestOther cX3_nearestOther 7 (some .int) 1 0 0 As h Z
abbrev Q_X3_nearestOther (l : Launch) (Z : Option Value ⊕ String → HP → Prop) (pc : Nat) (lf : Nat → Option Value) (st : List Value) (h : HP) : Prop := Q l RX3 cX3_nearestOther 7 1 0 0 (GM (some .int) 0 0 Z) pc lf st h 0 0
abbrev V_X3_nearestTo (l : Launch) (As : List Value) (h : HP) (Z : Option Value ⊕ String → HP → Prop) : Prop := VM l yX3_nearestTo cX3_nearestTo 3 (some .int) 2 0 0 As h Z
abbrev Q_X3_nearestTo (l : Launch) (Z : Option Value ⊕ String → HP → Prop) (pc : Nat) (lf : Nat → Option Value) (st : List Value) (h : HP) : Prop := Q l RX3 cX3_nearestTo 3 2 0 0 (GM (some .int) 0 0 Z) pc lf st h 0 0
abbrev V_X3_hangsTooNear (l : Launch) (As : List Value) (h : HP) (Z : Option Value ⊕ String → HP → Prop) : Prop := VM l yX3_hangsTooNear cX3_hangsTooNear 3 (some .boolean) 2 0 0 As h Z
abbrev Q_X3_hangsTooNear (l : Launch) (Z : Option Value ⊕ String → HP → Prop) (pc : Nat) (lf : Nat → Option Value) (st : List Value) (h : HP) : Prop := Q l RX3 cX3_hangsTooNear 3 2 0 0 (GM (some .boolean) 0 0 Z) pc lf st h 0 0
abbrev V_X3_farthestHook (l : Launch) (As : List Value) (h : HP) (Z : Option Value ⊕ String → HP → Prop) : Prop := VM l yX3_farthestHook cX3_farthestHook 7 (some .int) 2 0 0 As h Z
abbrev Q_X3_farthestHook (l : Launch) (Z : Option Value ⊕ String → HP → Prop) (pc : Nat) (lf : Nat → Option Value) (st : List Value) (h : HP) : Prop := Q l RX3 cX3_farthestHook 7 2 0 0 (GM (some .int) 0 0 Z) pc lf st h 0 0
abbrev V_X3_fishAtPlace (l : Launch) (As : List Value) (h : HP) (Z : Option Value ⊕ String → HP → Prop) : Prop := VM l yX3_fishAtPlace cX3_fishAtPlace 4 (some .int) 3 0 0 As h Z
abbrev Q_X3_fishAtPlace (l : Launch) (Z : Option Value ⊕ String → HP → Prop) (pc : Nat) (lf : Nat → Option Value) (st : List Value) (h : HP) : Prop := Q l RX3 cX3_fishAtPlace 4 3 0 0 (GM (some .int) 0 0 Z) pc lf st h 0 0
abbrev V_X3_placeOf (l : Launch) (As : List Value) (h : HP) (Z : Option Value ⊕ String → HP → Prop) : Prop := VM l yX3_placeOf cX3_placeOf 8 (some .int) 2 0 0 As h Z
abbrev Q_X3_placeOf (l : Launch) (Z : Option Value ⊕ String → HP → Prop) (pc : Nat) (lf : Nat → Option Value) (st : List Value) (h : HP) : Prop := Q l RX3 cX3_placeOf 8 2 0 0 (GM (some .int) 0 0 Z) pc lf st h 0 0
abbrev V_X3_smokeOne (l : Launch) (As : List Value) (h : HP) (Z : Option Value ⊕ String → HP → Prop) : Prop := VM l yX3_smokeOne cX3_smokeOne 6 none 3 0 0 As h Z
abbrev Q_X3_smokeOne (l : Launch) (Z : Option Value ⊕ String → HP → Prop) (pc : Nat) (lf : Nat → Option Value) (st : List Value) (h : HP) : Prop := Q l RX3 cX3_smokeOne 6 3 0 0 (GM none 0 0 Z) pc lf st h 0 0
abbrev V_X3_passHour (l : Launch) (As : List Value) (h : HP) (Z : Option Value ⊕ String → HP → Prop) : Prop := VM l yX3_passHour cX3_passHour 2 none 4 0 0 As h Z
abbrev Q_X3_passHour (l : Launch) (Z : Option Value ⊕ String → HP → Prop) (pc : Nat) (lf : Nat → Option Value) (st : List Value) (h : HP) : Prop := Q l RX3 cX3_passHour 2 4 0 0 (GM none 0 0 Z) pc lf st h 0 0
abbrev V_X9_heatBy (l : Launch) (As : List Value) (h : HP) (Z : Option Value ⊕ String → HP → Prop) : Prop := VM l yX9_heatBy cX9_heatBy 2 (some .int) 1 0 0 As h Z
abbrev Q_X9_heatBy (l : Launch) (Z : Option Value ⊕ String → HP → Prop) (pc : Nat) (lf : Nat → Option Value) (st : List Value) (h : HP) : Prop := Q l RX9 cX9_heatBy 2 1 0 0 (GM (some .int) 0 0 Z) pc lf st h 0 0
abbrev V_X9_isRack (l : Launch) (As : List Value) (h : HP) (Z : Option Value ⊕ String → HP → Prop) : Prop := VM l yX9_isRack cX9_isRack 1 (some .boolean) 0 0 0 As h Z
abbrev Q_X9_isRack (l : Launch) (Z : Option Value ⊕ String → HP → Prop) (pc : Nat) (lf : Nat → Option Value) (st : List Value) (h : HP) : Prop := Q l RX9 cX9_isRack 1 0 0 0 (GM (some .boolean) 0 0 Z) pc lf st h 0 0
abbrev V_X9_isHook (l : Launch) (As : List Value) (h : HP) (Z : Option Value ⊕ String → HP → Prop) : Prop := VM l yX9_isHook cX9_isHook 1 (some .boolean) 0 0 0 As h Z
abbrev Q_X9_isHook (l : Launch) (Z : Option Value ⊕ String → HP → Prop) (pc : Nat) (lf : Nat → Option Value) (st : List Value) (h : HP) : Prop := Q l RX9 cX9_isHook 1 0 0 0 (GM (some .boolean) 0 0 Z) pc lf st h 0 0
def isHb (b : Nat) : Bool := b == 1 || b == 42 || b == 83 || (decide (126 ≤ b) && decide (b < 454) && (b - 126) % 41 == 0)
def isH (b : Nat) : Prop := isHb b = true
theorem isH_lt {b : Nat} (h : isH b) : b < 454 := by
  unfold isH isHb at h
  simp only [Bool.or_eq_true, Bool.and_eq_true, decide_eq_true_eq, beq_iff_eq] at h
  omega
theorem isH_all : ∀ b, b < 454 → isHb b = true → sK b = 3 ∧ sK (b + 1) = 13 ∧ sK (b + 2) = 0 := by decide +kernel
theorem isH_fish : ∀ b, b < 454 → isHb b = true → ∀ i, i < 12 → sK (b + 5 + 3 * i) = 0 := by decide +kernel
theorem hs0 {b : Nat} (h : isH b) : sK b = 3 := (isH_all b (isH_lt h) h).1
theorem hs1 {b : Nat} (h : isH b) : sK (b + 1) = 13 := (isH_all b (isH_lt h) h).2.1
theorem hs2 {b : Nat} (h : isH b) : sK (b + 2) = 0 := (isH_all b (isH_lt h) h).2.2
theorem hsf {b i : Nat} (h : isH b) (hi : i < 12) : sK (b + 5 + 3 * i) = 0 := isH_fish b (isH_lt h) h i hi
def hasB (M : MM) (b : Nat) (x : Int32) : Bool := !decide (x < 0) && decide (x < M b 2)
def chr (x : Int32) : Int32 := (x.toUInt32 % 65536).toInt32
def iabs (x : Int32) : Int32 := if 0 ≤ x then x else 0 - x
/-- how far the nearest fish but ex hangs from a hook, among the first n; 10: none -/
def nearO (M : MM) (b : Nat) (rk hk ex : Int32) (n : Nat) : Int32 := itN (fun i s => if nI i = ex then s else if M (b + 5 + 3 * i) 5 = rk then (if iabs (M (b + 5 + 3 * i) 6 - hk) < s then iabs (M (b + 5 + 3 * i) 6 - hk) else s) else s) 10 n
def onHook (M : MM) (b : Nat) (rk hk : Int32) (n : Nat) : Int32 := findN (fun i => M (b + 5 + 3 * i) 5 == rk && M (b + 5 + 3 * i) 6 == hk) n 0
def tooNear (M : MM) (b k n : Nat) : Bool := M (b + 5 + 3 * k) 4 == 2 && decide (nearO M b (M (b + 5 + 3 * k) 5) (M (b + 5 + 3 * k) 6) (nI k) n < fGap M (b + 5 + 3 * k))
def farH (M : MM) (b : Nat) (num rk : Int32) (n : Nat) (m : Nat) : Int32 × Int32 := itN (fun i s => if s.2 < nearO M b rk (nI i) num n then (nI i, nearO M b rk (nI i) num n) else s) (-1, 0) m
def placeO (M : MM) (b : Nat) (me num : Int32) (own : Int32) (n : Nat) : Int32 := itN (fun i s => if own < fMea M (b + 5 + 3 * i) me then s + 1 else if fMea M (b + 5 + 3 * i) me = own then (if nI i < num then s + 1 else s + 0) else s + 0) 0 n
section P11
variable {M : MM} {r : MR}
theorem s_X3_fishAt {l : Launch} (hf : l.stackTraces = false) {b k : Nat} (hb : isH b) (hk : k < 12) : V_X3_fishAt l [.ref b, .int (nI k)] (hp M r) (VR (some (.ref (b + 5 + 3 * k))) (hp M r)) := by
  have hb0 := hs0 hb
  have hb1 := hs1 hb
  have hb2 := hs2 hb
  refine VM.intro (lf := L9 (some (.ref b)) (some (.int (nI k))) none none none none none none none) (by decide +kernel) hf (fun _ => (Nat.le_of_ble_eq_true rfl)) (fun _ => rfl) ?_
  refine R_iload_n dX3_fishAt_0 rfl rfl ?_
  refine R_if_lt_f (tgt := 22) dX3_fishAt_1 rfl (nI_pos (by omega)) ?_
  refine R_iload_n dX3_fishAt_4 rfl rfl ?_
  refine R_aload_n dX3_fishAt_5 rfl rfl ?_
  refine G_get cok3 0 wf_X3_11 dX3_fishAt_6 (by first | assumption | exact rfl | omega) ⟨(Nat.le_of_ble_eq_true rfl), (Nat.le_of_ble_eq_true rfl)⟩ rfl ?_
  refine G_alen (v := 12) dX3_fishAt_9 hb1 (by decide) (fun _ => rfl) rfl rfl rfl ?_
  refine R_icmp_ge_f (tgt := 22) dX3_fishAt_10 rfl (nI_ge (a := k) (b := 12) (by omega) (by omega)) ?_
  refine R_aload_n dX3_fishAt_13 rfl rfl ?_
  refine G_get cok3 0 wf_X3_11 dX3_fishAt_14 (by first | assumption | exact rfl | omega) ⟨(Nat.le_of_ble_eq_true rfl), (Nat.le_of_ble_eq_true rfl)⟩ rfl ?_
  refine R_iload_n dX3_fishAt_17 rfl rfl ?_
  refine G_fish dX3_fishAt_18 hb1 (nI_in12 hk (by omega)) ?_
  refine R_goto (tgt := 26) dX3_fishAt_19 rfl ?_
  refine R_aret dX3_fishAt_26 (Nat.le_of_ble_eq_true rfl) (Nat.le_of_ble_eq_true rfl) ?_
  refine ⟨?_, rfl⟩
  rw [nI_cl (by omega), show b + 1 + 4 + 3 * k = b + 5 + 3 * k by omega]
theorem s_X3_has {l : Launch} (hf : l.stackTraces = false) {b : Nat} {x : Int32} (hb : isH b) : V_X3_has l [.ref b, .int x] (hp M r) (VI (zb (hasB M b x)) (hp M r)) := by
  have hb0 := hs0 hb
  have hb1 := hs1 hb
  have hb2 := hs2 hb
  refine VM.intro (lf := L9 (some (.ref b)) (some (.int x)) none none none none none none none) (by decide +kernel) hf (fun _ => (Nat.le_of_ble_eq_true rfl)) (fun _ => rfl) ?_
  refine R_iload_n dX3_has_0 rfl rfl ?_
  refine R_if_lt (tgt := 16) dX3_has_1 rfl (fun c1 => ?_) (fun c1 => ?_)
  · refine R_iconst (v := 0) dX3_has_16 (by decide) ?_
    refine R_iret dX3_has_17 rfl (Nat.le_of_ble_eq_true rfl) (Nat.le_of_ble_eq_true rfl) ?_
    refine ⟨?_, rfl⟩
    simp_all [-Int32.not_lt, zb, hasB]
  · refine R_iload_n dX3_has_4 rfl rfl ?_
    refine R_aload_n dX3_has_5 rfl rfl ?_
    refine G_get cok3 2 wf_X3_22 dX3_has_6 (by first | assumption | exact rfl | omega) ⟨(Nat.le_of_ble_eq_true rfl), (Nat.le_of_ble_eq_true rfl)⟩ rfl ?_
    refine R_icmp_geN (tgt := 16) dX3_has_9 rfl (fun c2 => ?_) (fun c2 => ?_)
    · refine R_iconst (v := 0) dX3_has_16 (by decide) ?_
      refine R_iret dX3_has_17 rfl (Nat.le_of_ble_eq_true rfl) (Nat.le_of_ble_eq_true rfl) ?_
      refine ⟨?_, rfl⟩
      simp_all [-Int32.not_lt, zb, hasB]
    · refine R_iconst (v := 1) dX3_has_12 (by decide) ?_
      refine R_goto (tgt := 17) dX3_has_13 rfl ?_
      refine R_iret dX3_has_17 rfl (Nat.le_of_ble_eq_true rfl) (Nat.le_of_ble_eq_true rfl) ?_
      refine ⟨?_, rfl⟩
      simp_all [-Int32.not_lt, zb, hasB]
theorem L_X3_countIn {l : Launch} (hf : l.stackTraces = false) {b n : Nat} (hb : isH b) (hn : n ≤ 12) (hc : M b 2 = nI n) {p : Int32} : ∀ (j i : Nat), i + j = n → Q_X3_countIn l (VI (itN (fun i s => s + (if M (b + 5 + 3 * i) 4 = p then 1 else 0)) 0 n) (hp M r)) 4 (L9 (some (.ref b)) (some (.int p)) (some (.int (itN (fun i s => s + (if M (b + 5 + 3 * i) 4 = p then 1 else 0)) 0 i))) (some (.int (nI i))) none none none none none) [] (hp M r) := by
  intro j
  induction j with
  | zero =>
    intro i hi
    have hin : i = n := by omega
    subst hin
    have hb0 := hs0 hb
    have hb1 := hs1 hb
    have hb2 := hs2 hb
    refine R_iload_n dX3_countIn_4 rfl rfl ?_
    refine R_aload_n dX3_countIn_5 rfl rfl ?_
    refine G_get cok3 2 wf_X3_22 dX3_countIn_6 (by first | assumption | exact rfl | exact hs0 hb | exact hsf hb (by omega) | exact fish1 (hsf hb (by omega)) | exact fish2 (hsf hb (by omega))) ⟨(Nat.le_of_ble_eq_true rfl), (Nat.le_of_ble_eq_true rfl)⟩ rfl ?_
    refine R_icmp_ge_t (tgt := 38) dX3_countIn_9 rfl (by rw [hc]; exact nI_le (by omega) (by omega)) ?_
    refine R_iload_n dX3_countIn_38 rfl rfl ?_
    refine R_iret dX3_countIn_39 rfl (Nat.le_of_ble_eq_true rfl) (Nat.le_of_ble_eq_true rfl) ?_
    exact ⟨rfl, rfl⟩
  | succ j ih =>
    intro i hi
    have hi1 : i < n := by omega
    have hb0 := hs0 hb
    have hb1 := hs1 hb
    have hb2 := hs2 hb
    refine R_iload_n dX3_countIn_4 rfl rfl ?_
    refine R_aload_n dX3_countIn_5 rfl rfl ?_
    refine G_get cok3 2 wf_X3_22 dX3_countIn_6 (by first | assumption | exact rfl | exact hs0 hb | exact hsf hb (by omega) | exact fish1 (hsf hb (by omega)) | exact fish2 (hsf hb (by omega))) ⟨(Nat.le_of_ble_eq_true rfl), (Nat.le_of_ble_eq_true rfl)⟩ rfl ?_
    refine R_icmp_ge_f (tgt := 38) dX3_countIn_9 rfl (by rw [hc]; exact nI_ge (by omega) (by omega)) ?_
    refine R_iload_n dX3_countIn_12 rfl rfl ?_
    refine R_aload_n dX3_countIn_13 rfl rfl ?_
    refine R_iload_n dX3_countIn_14 rfl rfl ?_
    refine G_cV1 cw_X3_47 (s_X3_fishAt hf hb (by omega)) dX3_countIn_15 (rcv cok3 (by first | assumption | exact rfl | exact hs0 hb | exact hsf hb (by omega) | exact fish1 (hsf hb (by omega)) | exact fish2 (hsf hb (by omega))) (Nat.le_of_ble_eq_true rfl)) ⟨(Nat.le_of_ble_eq_true rfl), (Nat.le_of_ble_eq_true rfl), (Nat.le_of_ble_eq_true rfl), (Nat.le_of_ble_eq_true rfl)⟩ ?_
    refine G_get cok0 4 wf_X3_59 dX3_countIn_18 (by first | assumption | exact rfl | exact hs0 hb | exact hsf hb (by omega) | exact fish1 (hsf hb (by omega)) | exact fish2 (hsf hb (by omega))) ⟨(Nat.le_of_ble_eq_true rfl), (Nat.le_of_ble_eq_true rfl)⟩ rfl ?_
    refine R_iload_n dX3_countIn_21 rfl rfl ?_
    refine R_icmp_ne (tgt := 29) dX3_countIn_22 rfl (fun c1 => ?_) (fun c1 => ?_)
    · refine R_iconst (v := 0) dX3_countIn_29 (by decide) ?_
      refine R_iadd dX3_countIn_30 ?_
      refine R_istore_n dX3_countIn_31 rfl (by decide) (st2 rfl) ?_
      first | refine R_iincN dX3_countIn_32 (by decide) rfl (by decide) (st3 rfl) ?_ | refine R_iinc1 dX3_countIn_32 (by decide) rfl (by decide) (st3 rfl) ?_
      refine R_goto (tgt := 4) dX3_countIn_35 rfl ?_
      have h9 := ih (i + 1) (by omega)
      simp only [itN] at h9
      repeat' split at h9
      all_goals first | exact h9 | (exfalso; contradiction)
    · refine R_iconst (v := 1) dX3_countIn_25 (by decide) ?_
      refine R_goto (tgt := 30) dX3_countIn_26 rfl ?_
      refine R_iadd dX3_countIn_30 ?_
      refine R_istore_n dX3_countIn_31 rfl (by decide) (st2 rfl) ?_
      first | refine R_iincN dX3_countIn_32 (by decide) rfl (by decide) (st3 rfl) ?_ | refine R_iinc1 dX3_countIn_32 (by decide) rfl (by decide) (st3 rfl) ?_
      refine R_goto (tgt := 4) dX3_countIn_35 rfl ?_
      have h9 := ih (i + 1) (by omega)
      simp only [itN] at h9
      repeat' split at h9
      all_goals first | exact h9 | (exfalso; contradiction)
theorem s_X3_countIn {l : Launch} (hf : l.stackTraces = false) {b n : Nat} (hb : isH b) (hn : n ≤ 12) (hc : M b 2 = nI n) {p : Int32} : V_X3_countIn l [.ref b, .int p] (hp M r) (VI (itN (fun i s => s + (if M (b + 5 + 3 * i) 4 = p then 1 else 0)) 0 n) (hp M r)) := by
  refine VM.intro (lf := L9 (some (.ref b)) (some (.int p)) none none none none none none none) (by decide +kernel) hf (fun _ => (Nat.le_of_ble_eq_true rfl)) (fun _ => rfl) ?_
  refine R_iconst (v := 0) dX3_countIn_0 (by decide) ?_
  refine R_istore_n dX3_countIn_1 rfl (by decide) (st2 rfl) ?_
  refine R_iconst (v := 0) dX3_countIn_2 (by decide) ?_
  refine R_istore_n dX3_countIn_3 rfl (by decide) (st3 rfl) ?_
  exact L_X3_countIn hf hb hn hc n 0 (by omega)
theorem L_X3_countOnRack {l : Launch} (hf : l.stackTraces = false) {b n : Nat} (hb : isH b) (hn : n ≤ 12) (hc : M b 2 = nI n) {p : Int32} : ∀ (j i : Nat), i + j = n → Q_X3_countOnRack l (VI (itN (fun i s => s + (if M (b + 5 + 3 * i) 5 = p then 1 else 0)) 0 n) (hp M r)) 4 (L9 (some (.ref b)) (some (.int p)) (some (.int (itN (fun i s => s + (if M (b + 5 + 3 * i) 5 = p then 1 else 0)) 0 i))) (some (.int (nI i))) none none none none none) [] (hp M r) := by
  intro j
  induction j with
  | zero =>
    intro i hi
    have hin : i = n := by omega
    subst hin
    have hb0 := hs0 hb
    have hb1 := hs1 hb
    have hb2 := hs2 hb
    refine R_iload_n dX3_countOnRack_4 rfl rfl ?_
    refine R_aload_n dX3_countOnRack_5 rfl rfl ?_
    refine G_get cok3 2 wf_X3_22 dX3_countOnRack_6 (by first | assumption | exact rfl | exact hs0 hb | exact hsf hb (by omega) | exact fish1 (hsf hb (by omega)) | exact fish2 (hsf hb (by omega))) ⟨(Nat.le_of_ble_eq_true rfl), (Nat.le_of_ble_eq_true rfl)⟩ rfl ?_
    refine R_icmp_ge_t (tgt := 38) dX3_countOnRack_9 rfl (by rw [hc]; exact nI_le (by omega) (by omega)) ?_
    refine R_iload_n dX3_countOnRack_38 rfl rfl ?_
    refine R_iret dX3_countOnRack_39 rfl (Nat.le_of_ble_eq_true rfl) (Nat.le_of_ble_eq_true rfl) ?_
    exact ⟨rfl, rfl⟩
  | succ j ih =>
    intro i hi
    have hi1 : i < n := by omega
    have hb0 := hs0 hb
    have hb1 := hs1 hb
    have hb2 := hs2 hb
    refine R_iload_n dX3_countOnRack_4 rfl rfl ?_
    refine R_aload_n dX3_countOnRack_5 rfl rfl ?_
    refine G_get cok3 2 wf_X3_22 dX3_countOnRack_6 (by first | assumption | exact rfl | exact hs0 hb | exact hsf hb (by omega) | exact fish1 (hsf hb (by omega)) | exact fish2 (hsf hb (by omega))) ⟨(Nat.le_of_ble_eq_true rfl), (Nat.le_of_ble_eq_true rfl)⟩ rfl ?_
    refine R_icmp_ge_f (tgt := 38) dX3_countOnRack_9 rfl (by rw [hc]; exact nI_ge (by omega) (by omega)) ?_
    refine R_iload_n dX3_countOnRack_12 rfl rfl ?_
    refine R_aload_n dX3_countOnRack_13 rfl rfl ?_
    refine R_iload_n dX3_countOnRack_14 rfl rfl ?_
    refine G_cV1 cw_X3_47 (s_X3_fishAt hf hb (by omega)) dX3_countOnRack_15 (rcv cok3 (by first | assumption | exact rfl | exact hs0 hb | exact hsf hb (by omega) | exact fish1 (hsf hb (by omega)) | exact fish2 (hsf hb (by omega))) (Nat.le_of_ble_eq_true rfl)) ⟨(Nat.le_of_ble_eq_true rfl), (Nat.le_of_ble_eq_true rfl), (Nat.le_of_ble_eq_true rfl), (Nat.le_of_ble_eq_true rfl)⟩ ?_
    refine G_get cok0 5 wf_X3_62 dX3_countOnRack_18 (by first | assumption | exact rfl | exact hs0 hb | exact hsf hb (by omega) | exact fish1 (hsf hb (by omega)) | exact fish2 (hsf hb (by omega))) ⟨(Nat.le_of_ble_eq_true rfl), (Nat.le_of_ble_eq_true rfl)⟩ rfl ?_
    refine R_iload_n dX3_countOnRack_21 rfl rfl ?_
    refine R_icmp_ne (tgt := 29) dX3_countOnRack_22 rfl (fun c1 => ?_) (fun c1 => ?_)
    · refine R_iconst (v := 0) dX3_countOnRack_29 (by decide) ?_
      refine R_iadd dX3_countOnRack_30 ?_
      refine R_istore_n dX3_countOnRack_31 rfl (by decide) (st2 rfl) ?_
      first | refine R_iincN dX3_countOnRack_32 (by decide) rfl (by decide) (st3 rfl) ?_ | refine R_iinc1 dX3_countOnRack_32 (by decide) rfl (by decide) (st3 rfl) ?_
      refine R_goto (tgt := 4) dX3_countOnRack_35 rfl ?_
      have h9 := ih (i + 1) (by omega)
      simp only [itN] at h9
      repeat' split at h9
      all_goals first | exact h9 | (exfalso; contradiction)
    · refine R_iconst (v := 1) dX3_countOnRack_25 (by decide) ?_
      refine R_goto (tgt := 30) dX3_countOnRack_26 rfl ?_
      refine R_iadd dX3_countOnRack_30 ?_
      refine R_istore_n dX3_countOnRack_31 rfl (by decide) (st2 rfl) ?_
      first | refine R_iincN dX3_countOnRack_32 (by decide) rfl (by decide) (st3 rfl) ?_ | refine R_iinc1 dX3_countOnRack_32 (by decide) rfl (by decide) (st3 rfl) ?_
      refine R_goto (tgt := 4) dX3_countOnRack_35 rfl ?_
      have h9 := ih (i + 1) (by omega)
      simp only [itN] at h9
      repeat' split at h9
      all_goals first | exact h9 | (exfalso; contradiction)
theorem s_X3_countOnRack {l : Launch} (hf : l.stackTraces = false) {b n : Nat} (hb : isH b) (hn : n ≤ 12) (hc : M b 2 = nI n) {p : Int32} : V_X3_countOnRack l [.ref b, .int p] (hp M r) (VI (itN (fun i s => s + (if M (b + 5 + 3 * i) 5 = p then 1 else 0)) 0 n) (hp M r)) := by
  refine VM.intro (lf := L9 (some (.ref b)) (some (.int p)) none none none none none none none) (by decide +kernel) hf (fun _ => (Nat.le_of_ble_eq_true rfl)) (fun _ => rfl) ?_
  refine R_iconst (v := 0) dX3_countOnRack_0 (by decide) ?_
  refine R_istore_n dX3_countOnRack_1 rfl (by decide) (st2 rfl) ?_
  refine R_iconst (v := 0) dX3_countOnRack_2 (by decide) ?_
  refine R_istore_n dX3_countOnRack_3 rfl (by decide) (st3 rfl) ?_
  exact L_X3_countOnRack hf hb hn hc n 0 (by omega)
theorem L_X3_burntCount {l : Launch} (hf : l.stackTraces = false) {b n : Nat} (hb : isH b) (hn : n ≤ 12) (hc : M b 2 = nI n) : ∀ (j i : Nat), i + j = n → Q_X3_burntCount l (VI (itN (fun i s => s + (if zb (fBurnt M (b + 5 + 3 * i)) = 0 then 0 else 1)) 0 n) (hp M r)) 4 (L9 (some (.ref b)) (some (.int (itN (fun i s => s + (if zb (fBurnt M (b + 5 + 3 * i)) = 0 then 0 else 1)) 0 i))) (some (.int (nI i))) none none none none none none) [] (hp M r) := by
  intro j
  induction j with
  | zero =>
    intro i hi
    have hin : i = n := by omega
    subst hin
    have hb0 := hs0 hb
    have hb1 := hs1 hb
    have hb2 := hs2 hb
    refine R_iload_n dX3_burntCount_4 rfl rfl ?_
    refine R_aload_n dX3_burntCount_5 rfl rfl ?_
    refine G_get cok3 2 wf_X3_22 dX3_burntCount_6 (by first | assumption | exact rfl | exact hs0 hb | exact hsf hb (by omega) | exact fish1 (hsf hb (by omega)) | exact fish2 (hsf hb (by omega))) ⟨(Nat.le_of_ble_eq_true rfl), (Nat.le_of_ble_eq_true rfl)⟩ rfl ?_
    refine R_icmp_ge_t (tgt := 37) dX3_burntCount_9 rfl (by rw [hc]; exact nI_le (by omega) (by omega)) ?_
    refine R_iload_n dX3_burntCount_37 rfl rfl ?_
    refine R_iret dX3_burntCount_38 rfl (Nat.le_of_ble_eq_true rfl) (Nat.le_of_ble_eq_true rfl) ?_
    exact ⟨rfl, rfl⟩
  | succ j ih =>
    intro i hi
    have hi1 : i < n := by omega
    have hb0 := hs0 hb
    have hb1 := hs1 hb
    have hb2 := hs2 hb
    refine R_iload_n dX3_burntCount_4 rfl rfl ?_
    refine R_aload_n dX3_burntCount_5 rfl rfl ?_
    refine G_get cok3 2 wf_X3_22 dX3_burntCount_6 (by first | assumption | exact rfl | exact hs0 hb | exact hsf hb (by omega) | exact fish1 (hsf hb (by omega)) | exact fish2 (hsf hb (by omega))) ⟨(Nat.le_of_ble_eq_true rfl), (Nat.le_of_ble_eq_true rfl)⟩ rfl ?_
    refine R_icmp_ge_f (tgt := 37) dX3_burntCount_9 rfl (by rw [hc]; exact nI_ge (by omega) (by omega)) ?_
    refine R_iload_n dX3_burntCount_12 rfl rfl ?_
    refine R_aload_n dX3_burntCount_13 rfl rfl ?_
    refine R_iload_n dX3_burntCount_14 rfl rfl ?_
    refine G_cV1 cw_X3_47 (s_X3_fishAt hf hb (by omega)) dX3_burntCount_15 (rcv cok3 (by first | assumption | exact rfl | exact hs0 hb | exact hsf hb (by omega) | exact fish1 (hsf hb (by omega)) | exact fish2 (hsf hb (by omega))) (Nat.le_of_ble_eq_true rfl)) ⟨(Nat.le_of_ble_eq_true rfl), (Nat.le_of_ble_eq_true rfl), (Nat.le_of_ble_eq_true rfl), (Nat.le_of_ble_eq_true rfl)⟩ ?_
    refine G_cV0 cw_X3_65 (s_X0_isBurnt hf (hsf hb (by omega))) dX3_burntCount_18 (rcv cok0 (by first | assumption | exact rfl | exact hs0 hb | exact hsf hb (by omega) | exact fish1 (hsf hb (by omega)) | exact fish2 (hsf hb (by omega))) (Nat.le_of_ble_eq_true rfl)) ⟨(Nat.le_of_ble_eq_true rfl), (Nat.le_of_ble_eq_true rfl), (Nat.le_of_ble_eq_true rfl), (Nat.le_of_ble_eq_true rfl)⟩ ?_
    refine R_if_eq (tgt := 28) dX3_burntCount_21 rfl (fun c1 => ?_) (fun c1 => ?_)
    · refine R_iconst (v := 0) dX3_burntCount_28 (by decide) ?_
      refine R_iadd dX3_burntCount_29 ?_
      refine R_istore_n dX3_burntCount_30 rfl (by decide) (st1 rfl) ?_
      first | refine R_iincN dX3_burntCount_31 (by decide) rfl (by decide) (st2 rfl) ?_ | refine R_iinc1 dX3_burntCount_31 (by decide) rfl (by decide) (st2 rfl) ?_
      refine R_goto (tgt := 4) dX3_burntCount_34 rfl ?_
      have h9 := ih (i + 1) (by omega)
      simp only [itN] at h9
      repeat' split at h9
      all_goals first | exact h9 | (exfalso; contradiction)
    · refine R_iconst (v := 1) dX3_burntCount_24 (by decide) ?_
      refine R_goto (tgt := 29) dX3_burntCount_25 rfl ?_
      refine R_iadd dX3_burntCount_29 ?_
      refine R_istore_n dX3_burntCount_30 rfl (by decide) (st1 rfl) ?_
      first | refine R_iincN dX3_burntCount_31 (by decide) rfl (by decide) (st2 rfl) ?_ | refine R_iinc1 dX3_burntCount_31 (by decide) rfl (by decide) (st2 rfl) ?_
      refine R_goto (tgt := 4) dX3_burntCount_34 rfl ?_
      have h9 := ih (i + 1) (by omega)
      simp only [itN] at h9
      repeat' split at h9
      all_goals first | exact h9 | (exfalso; contradiction)
theorem s_X3_burntCount {l : Launch} (hf : l.stackTraces = false) {b n : Nat} (hb : isH b) (hn : n ≤ 12) (hc : M b 2 = nI n) : V_X3_burntCount l [.ref b] (hp M r) (VI (itN (fun i s => s + (if zb (fBurnt M (b + 5 + 3 * i)) = 0 then 0 else 1)) 0 n) (hp M r)) := by
  refine VM.intro (lf := L9 (some (.ref b)) none none none none none none none none) (by decide +kernel) hf (fun _ => (Nat.le_of_ble_eq_true rfl)) (fun _ => rfl) ?_
  refine R_iconst (v := 0) dX3_burntCount_0 (by decide) ?_
  refine R_istore_n dX3_burntCount_1 rfl (by decide) (st1 rfl) ?_
  refine R_iconst (v := 0) dX3_burntCount_2 (by decide) ?_
  refine R_istore_n dX3_burntCount_3 rfl (by decide) (st2 rfl) ?_
  exact L_X3_burntCount hf hb hn hc n 0 (by omega)
theorem L_X3_allSmoke {l : Launch} (hf : l.stackTraces = false) {b n : Nat} (hb : isH b) (hn : n ≤ 12) (hc : M b 2 = nI n) : ∀ (j i : Nat), i + j = n → Q_X3_allSmoke l (VI (itN (fun i s => s + (M (b + 5 + 3 * i + 1) 0 + M (b + 5 + 3 * i + 2) 0)) 0 n) (hp M r)) 4 (L9 (some (.ref b)) (some (.int (itN (fun i s => s + (M (b + 5 + 3 * i + 1) 0 + M (b + 5 + 3 * i + 2) 0)) 0 i))) (some (.int (nI i))) none none none none none none) [] (hp M r) := by
  intro j
  induction j with
  | zero =>
    intro i hi
    have hin : i = n := by omega
    subst hin
    have hb0 := hs0 hb
    have hb1 := hs1 hb
    have hb2 := hs2 hb
    refine R_iload_n dX3_allSmoke_4 rfl rfl ?_
    refine R_aload_n dX3_allSmoke_5 rfl rfl ?_
    refine G_get cok3 2 wf_X3_22 dX3_allSmoke_6 (by first | assumption | exact rfl | exact hs0 hb | exact hsf hb (by omega) | exact fish1 (hsf hb (by omega)) | exact fish2 (hsf hb (by omega))) ⟨(Nat.le_of_ble_eq_true rfl), (Nat.le_of_ble_eq_true rfl)⟩ rfl ?_
    refine R_icmp_ge_t (tgt := 42) dX3_allSmoke_9 rfl (by rw [hc]; exact nI_le (by omega) (by omega)) ?_
    refine R_iload_n dX3_allSmoke_42 rfl rfl ?_
    refine R_iret dX3_allSmoke_43 rfl (Nat.le_of_ble_eq_true rfl) (Nat.le_of_ble_eq_true rfl) ?_
    exact ⟨rfl, rfl⟩
  | succ j ih =>
    intro i hi
    have hi1 : i < n := by omega
    have hb0 := hs0 hb
    have hb1 := hs1 hb
    have hb2 := hs2 hb
    refine R_iload_n dX3_allSmoke_4 rfl rfl ?_
    refine R_aload_n dX3_allSmoke_5 rfl rfl ?_
    refine G_get cok3 2 wf_X3_22 dX3_allSmoke_6 (by first | assumption | exact rfl | exact hs0 hb | exact hsf hb (by omega) | exact fish1 (hsf hb (by omega)) | exact fish2 (hsf hb (by omega))) ⟨(Nat.le_of_ble_eq_true rfl), (Nat.le_of_ble_eq_true rfl)⟩ rfl ?_
    refine R_icmp_ge_f (tgt := 42) dX3_allSmoke_9 rfl (by rw [hc]; exact nI_ge (by omega) (by omega)) ?_
    refine R_aload_n dX3_allSmoke_12 rfl rfl ?_
    refine R_iload_n dX3_allSmoke_13 rfl rfl ?_
    refine G_cV1 cw_X3_47 (s_X3_fishAt hf hb (by omega)) dX3_allSmoke_14 (rcv cok3 (by first | assumption | exact rfl | exact hs0 hb | exact hsf hb (by omega) | exact fish1 (hsf hb (by omega)) | exact fish2 (hsf hb (by omega))) (Nat.le_of_ble_eq_true rfl)) ⟨(Nat.le_of_ble_eq_true rfl), (Nat.le_of_ble_eq_true rfl), (Nat.le_of_ble_eq_true rfl), (Nat.le_of_ble_eq_true rfl)⟩ ?_
    refine R_astore_n dX3_allSmoke_17 rfl (by decide) (st3 rfl) ?_
    refine R_iload_n dX3_allSmoke_18 rfl rfl ?_
    refine R_aload_n dX3_allSmoke_19 rfl rfl ?_
    refine G_get cok0 0 wf_X3_69 dX3_allSmoke_20 (by first | assumption | exact rfl | exact hs0 hb | exact hsf hb (by omega) | exact fish1 (hsf hb (by omega)) | exact fish2 (hsf hb (by omega))) ⟨(Nat.le_of_ble_eq_true rfl), (Nat.le_of_ble_eq_true rfl)⟩ rfl ?_
    refine G_get cok7 0 wf_X3_73 dX3_allSmoke_23 (by first | assumption | exact rfl | exact hs0 hb | exact hsf hb (by omega) | exact fish1 (hsf hb (by omega)) | exact fish2 (hsf hb (by omega))) ⟨(Nat.le_of_ble_eq_true rfl), (Nat.le_of_ble_eq_true rfl)⟩ rfl ?_
    refine R_aload_n dX3_allSmoke_26 rfl rfl ?_
    refine G_get cok0 1 wf_X3_78 dX3_allSmoke_27 (by first | assumption | exact rfl | exact hs0 hb | exact hsf hb (by omega) | exact fish1 (hsf hb (by omega)) | exact fish2 (hsf hb (by omega))) ⟨(Nat.le_of_ble_eq_true rfl), (Nat.le_of_ble_eq_true rfl)⟩ rfl ?_
    refine G_get cok7 0 wf_X3_73 dX3_allSmoke_30 (by first | assumption | exact rfl | exact hs0 hb | exact hsf hb (by omega) | exact fish1 (hsf hb (by omega)) | exact fish2 (hsf hb (by omega))) ⟨(Nat.le_of_ble_eq_true rfl), (Nat.le_of_ble_eq_true rfl)⟩ rfl ?_
    refine R_iadd dX3_allSmoke_33 ?_
    refine R_iadd dX3_allSmoke_34 ?_
    refine R_istore_n dX3_allSmoke_35 rfl (by decide) (st1 rfl) ?_
    first | refine R_iincN dX3_allSmoke_36 (by decide) rfl (by decide) (st2 rfl) ?_ | refine R_iinc1 dX3_allSmoke_36 (by decide) rfl (by decide) (st2 rfl) ?_
    refine R_goto (tgt := 4) dX3_allSmoke_39 rfl ?_
    refine R_weak dr3 ?_
    have h9 := ih (i + 1) (by omega)
    simp only [itN] at h9
    repeat' split at h9
    all_goals first | exact h9 | (exfalso; contradiction)
theorem s_X3_allSmoke {l : Launch} (hf : l.stackTraces = false) {b n : Nat} (hb : isH b) (hn : n ≤ 12) (hc : M b 2 = nI n) : V_X3_allSmoke l [.ref b] (hp M r) (VI (itN (fun i s => s + (M (b + 5 + 3 * i + 1) 0 + M (b + 5 + 3 * i + 2) 0)) 0 n) (hp M r)) := by
  refine VM.intro (lf := L9 (some (.ref b)) none none none none none none none none) (by decide +kernel) hf (fun _ => (Nat.le_of_ble_eq_true rfl)) (fun _ => rfl) ?_
  refine R_iconst (v := 0) dX3_allSmoke_0 (by decide) ?_
  refine R_istore_n dX3_allSmoke_1 rfl (by decide) (st1 rfl) ?_
  refine R_iconst (v := 0) dX3_allSmoke_2 (by decide) ?_
  refine R_istore_n dX3_allSmoke_3 rfl (by decide) (st2 rfl) ?_
  exact L_X3_allSmoke hf hb hn hc n 0 (by omega)
theorem L_X3_saltInBrine {l : Launch} (hf : l.stackTraces = false) {b n : Nat} (hb : isH b) (hn : n ≤ 12) (hc : M b 2 = nI n) : ∀ (j i : Nat), i + j = n → Q_X3_saltInBrine l (VI (itN (fun i s => s + (if M (b + 5 + 3 * i) 4 = 1 then M (b + 5 + 3 * i) 3 else 0)) 0 n) (hp M r)) 4 (L9 (some (.ref b)) (some (.int (itN (fun i s => s + (if M (b + 5 + 3 * i) 4 = 1 then M (b + 5 + 3 * i) 3 else 0)) 0 i))) (some (.int (nI i))) none none none none none none) [] (hp M r) := by
  intro j
  induction j with
  | zero =>
    intro i hi
    have hin : i = n := by omega
    subst hin
    have hb0 := hs0 hb
    have hb1 := hs1 hb
    have hb2 := hs2 hb
    refine R_iload_n dX3_saltInBrine_4 rfl rfl ?_
    refine R_aload_n dX3_saltInBrine_5 rfl rfl ?_
    refine G_get cok3 2 wf_X3_22 dX3_saltInBrine_6 (by first | assumption | exact rfl | exact hs0 hb | exact hsf hb (by omega) | exact fish1 (hsf hb (by omega)) | exact fish2 (hsf hb (by omega))) ⟨(Nat.le_of_ble_eq_true rfl), (Nat.le_of_ble_eq_true rfl)⟩ rfl ?_
    refine R_icmp_ge_t (tgt := 43) dX3_saltInBrine_9 rfl (by rw [hc]; exact nI_le (by omega) (by omega)) ?_
    refine R_iload_n dX3_saltInBrine_43 rfl rfl ?_
    refine R_iret dX3_saltInBrine_44 rfl (Nat.le_of_ble_eq_true rfl) (Nat.le_of_ble_eq_true rfl) ?_
    exact ⟨rfl, rfl⟩
  | succ j ih =>
    intro i hi
    have hi1 : i < n := by omega
    have hb0 := hs0 hb
    have hb1 := hs1 hb
    have hb2 := hs2 hb
    refine R_iload_n dX3_saltInBrine_4 rfl rfl ?_
    refine R_aload_n dX3_saltInBrine_5 rfl rfl ?_
    refine G_get cok3 2 wf_X3_22 dX3_saltInBrine_6 (by first | assumption | exact rfl | exact hs0 hb | exact hsf hb (by omega) | exact fish1 (hsf hb (by omega)) | exact fish2 (hsf hb (by omega))) ⟨(Nat.le_of_ble_eq_true rfl), (Nat.le_of_ble_eq_true rfl)⟩ rfl ?_
    refine R_icmp_ge_f (tgt := 43) dX3_saltInBrine_9 rfl (by rw [hc]; exact nI_ge (by omega) (by omega)) ?_
    refine R_aload_n dX3_saltInBrine_12 rfl rfl ?_
    refine R_iload_n dX3_saltInBrine_13 rfl rfl ?_
    refine G_cV1 cw_X3_47 (s_X3_fishAt hf hb (by omega)) dX3_saltInBrine_14 (rcv cok3 (by first | assumption | exact rfl | exact hs0 hb | exact hsf hb (by omega) | exact fish1 (hsf hb (by omega)) | exact fish2 (hsf hb (by omega))) (Nat.le_of_ble_eq_true rfl)) ⟨(Nat.le_of_ble_eq_true rfl), (Nat.le_of_ble_eq_true rfl), (Nat.le_of_ble_eq_true rfl), (Nat.le_of_ble_eq_true rfl)⟩ ?_
    refine R_astore_n dX3_saltInBrine_17 rfl (by decide) (st3 rfl) ?_
    refine R_iload_n dX3_saltInBrine_18 rfl rfl ?_
    refine R_aload_n dX3_saltInBrine_19 rfl rfl ?_
    refine G_get cok0 4 wf_X3_59 dX3_saltInBrine_20 (by first | assumption | exact rfl | exact hs0 hb | exact hsf hb (by omega) | exact fish1 (hsf hb (by omega)) | exact fish2 (hsf hb (by omega))) ⟨(Nat.le_of_ble_eq_true rfl), (Nat.le_of_ble_eq_true rfl)⟩ rfl ?_
    refine R_iconst (v := 1) dX3_saltInBrine_23 (by decide) ?_
    refine R_icmp_ne (tgt := 34) dX3_saltInBrine_24 rfl (fun c1 => ?_) (fun c1 => ?_)
    · refine R_iconst (v := 0) dX3_saltInBrine_34 (by decide) ?_
      refine R_iadd dX3_saltInBrine_35 ?_
      refine R_istore_n dX3_saltInBrine_36 rfl (by decide) (st1 rfl) ?_
      first | refine R_iincN dX3_saltInBrine_37 (by decide) rfl (by decide) (st2 rfl) ?_ | refine R_iinc1 dX3_saltInBrine_37 (by decide) rfl (by decide) (st2 rfl) ?_
      refine R_goto (tgt := 4) dX3_saltInBrine_40 rfl ?_
      refine R_weak dr3 ?_
      have h9 := ih (i + 1) (by omega)
      simp only [itN] at h9
      repeat' split at h9
      all_goals first | exact h9 | (exfalso; contradiction)
    · refine R_aload_n dX3_saltInBrine_27 rfl rfl ?_
      refine G_get cok0 3 wf_X3_81 dX3_saltInBrine_28 (by first | assumption | exact rfl | exact hs0 hb | exact hsf hb (by omega) | exact fish1 (hsf hb (by omega)) | exact fish2 (hsf hb (by omega))) ⟨(Nat.le_of_ble_eq_true rfl), (Nat.le_of_ble_eq_true rfl)⟩ rfl ?_
      refine R_goto (tgt := 35) dX3_saltInBrine_31 rfl ?_
      refine R_iadd dX3_saltInBrine_35 ?_
      refine R_istore_n dX3_saltInBrine_36 rfl (by decide) (st1 rfl) ?_
      first | refine R_iincN dX3_saltInBrine_37 (by decide) rfl (by decide) (st2 rfl) ?_ | refine R_iinc1 dX3_saltInBrine_37 (by decide) rfl (by decide) (st2 rfl) ?_
      refine R_goto (tgt := 4) dX3_saltInBrine_40 rfl ?_
      refine R_weak dr3 ?_
      have h9 := ih (i + 1) (by omega)
      simp only [itN] at h9
      repeat' split at h9
      all_goals first | exact h9 | (exfalso; contradiction)
theorem s_X3_saltInBrine {l : Launch} (hf : l.stackTraces = false) {b n : Nat} (hb : isH b) (hn : n ≤ 12) (hc : M b 2 = nI n) : V_X3_saltInBrine l [.ref b] (hp M r) (VI (itN (fun i s => s + (if M (b + 5 + 3 * i) 4 = 1 then M (b + 5 + 3 * i) 3 else 0)) 0 n) (hp M r)) := by
  refine VM.intro (lf := L9 (some (.ref b)) none none none none none none none none) (by decide +kernel) hf (fun _ => (Nat.le_of_ble_eq_true rfl)) (fun _ => rfl) ?_
  refine R_iconst (v := 0) dX3_saltInBrine_0 (by decide) ?_
  refine R_istore_n dX3_saltInBrine_1 rfl (by decide) (st1 rfl) ?_
  refine R_iconst (v := 0) dX3_saltInBrine_2 (by decide) ?_
  refine R_istore_n dX3_saltInBrine_3 rfl (by decide) (st2 rfl) ?_
  exact L_X3_saltInBrine hf hb hn hc n 0 (by omega)
theorem L_X3_fishOn {l : Launch} (hf : l.stackTraces = false) {b n : Nat} (hb : isH b) (hn : n ≤ 12) (hc : M b 2 = nI n) {p q : Int32} : ∀ (j i : Nat), i + j = n → Q_X3_fishOn l (VI (findN (fun i => M (b + 5 + 3 * i) 5 == p && M (b + 5 + 3 * i) 6 == q) j i) (hp M r)) 2 (L9 (some (.ref b)) (some (.int p)) (some (.int q)) (some (.int (nI i))) none none none none none) [] (hp M r) := by
  intro j
  induction j with
  | zero =>
    intro i hi
    have hin : i = n := by omega
    subst hin
    have hb0 := hs0 hb
    have hb1 := hs1 hb
    have hb2 := hs2 hb
    refine R_iload_n dX3_fishOn_2 rfl rfl ?_
    refine R_aload_n dX3_fishOn_3 rfl rfl ?_
    refine G_get cok3 2 wf_X3_22 dX3_fishOn_4 (by first | assumption | exact rfl | exact hs0 hb | exact hsf hb (by omega) | exact fish1 (hsf hb (by omega)) | exact fish2 (hsf hb (by omega))) ⟨(Nat.le_of_ble_eq_true rfl), (Nat.le_of_ble_eq_true rfl)⟩ rfl ?_
    refine R_icmp_ge_t (tgt := 43) dX3_fishOn_7 rfl (by rw [hc]; exact nI_le (by omega) (by omega)) ?_
    refine R_iconst (v := (-1)) dX3_fishOn_43 (by decide) ?_
    refine R_iret dX3_fishOn_44 rfl (Nat.le_of_ble_eq_true rfl) (Nat.le_of_ble_eq_true rfl) ?_
    refine ⟨?_, rfl⟩
    first | rfl | (rw [findN, if_pos (by simp_all)])
  | succ j ih =>
    intro i hi
    have hi1 : i < n := by omega
    have hb0 := hs0 hb
    have hb1 := hs1 hb
    have hb2 := hs2 hb
    refine R_iload_n dX3_fishOn_2 rfl rfl ?_
    refine R_aload_n dX3_fishOn_3 rfl rfl ?_
    refine G_get cok3 2 wf_X3_22 dX3_fishOn_4 (by first | assumption | exact rfl | exact hs0 hb | exact hsf hb (by omega) | exact fish1 (hsf hb (by omega)) | exact fish2 (hsf hb (by omega))) ⟨(Nat.le_of_ble_eq_true rfl), (Nat.le_of_ble_eq_true rfl)⟩ rfl ?_
    refine R_icmp_ge_f (tgt := 43) dX3_fishOn_7 rfl (by rw [hc]; exact nI_ge (by omega) (by omega)) ?_
    refine R_aload_n dX3_fishOn_10 rfl rfl ?_
    refine R_iload_n dX3_fishOn_11 rfl rfl ?_
    refine G_cV1 cw_X3_47 (s_X3_fishAt hf hb (by omega)) dX3_fishOn_12 (rcv cok3 (by first | assumption | exact rfl | exact hs0 hb | exact hsf hb (by omega) | exact fish1 (hsf hb (by omega)) | exact fish2 (hsf hb (by omega))) (Nat.le_of_ble_eq_true rfl)) ⟨(Nat.le_of_ble_eq_true rfl), (Nat.le_of_ble_eq_true rfl), (Nat.le_of_ble_eq_true rfl), (Nat.le_of_ble_eq_true rfl)⟩ ?_
    refine R_astore dX3_fishOn_15 (by decide) (st4 rfl) ?_
    refine R_aload dX3_fishOn_17 (by decide) rfl ?_
    refine G_get cok0 5 wf_X3_62 dX3_fishOn_19 (by first | assumption | exact rfl | exact hs0 hb | exact hsf hb (by omega) | exact fish1 (hsf hb (by omega)) | exact fish2 (hsf hb (by omega))) ⟨(Nat.le_of_ble_eq_true rfl), (Nat.le_of_ble_eq_true rfl)⟩ rfl ?_
    refine R_iload_n dX3_fishOn_22 rfl rfl ?_
    refine R_icmp_ne (tgt := 37) dX3_fishOn_23 rfl (fun c1 => ?_) (fun c1 => ?_)
    · first | refine R_iincN dX3_fishOn_37 (by decide) rfl (by decide) (st3 rfl) ?_ | refine R_iinc1 dX3_fishOn_37 (by decide) rfl (by decide) (st3 rfl) ?_
      refine R_goto (tgt := 2) dX3_fishOn_40 rfl ?_
      refine R_weak dr4 ?_
      have h9 := ih (i + 1) (by omega)
      have e9 : findN (fun i => M (b + 5 + 3 * i) 5 == p && M (b + 5 + 3 * i) 6 == q) (j + 1) i = findN (fun i => M (b + 5 + 3 * i) 5 == p && M (b + 5 + 3 * i) 6 == q) j (i + 1) := by rw [findN, if_neg (by simp_all)]
      rw [e9]
      exact h9
    · refine R_aload dX3_fishOn_26 (by decide) rfl ?_
      refine G_get cok0 6 wf_X3_84 dX3_fishOn_28 (by first | assumption | exact rfl | exact hs0 hb | exact hsf hb (by omega) | exact fish1 (hsf hb (by omega)) | exact fish2 (hsf hb (by omega))) ⟨(Nat.le_of_ble_eq_true rfl), (Nat.le_of_ble_eq_true rfl)⟩ rfl ?_
      refine R_iload_n dX3_fishOn_31 rfl rfl ?_
      refine R_icmp_ne (tgt := 37) dX3_fishOn_32 rfl (fun c2 => ?_) (fun c2 => ?_)
      · first | refine R_iincN dX3_fishOn_37 (by decide) rfl (by decide) (st3 rfl) ?_ | refine R_iinc1 dX3_fishOn_37 (by decide) rfl (by decide) (st3 rfl) ?_
        refine R_goto (tgt := 2) dX3_fishOn_40 rfl ?_
        refine R_weak dr4 ?_
        have h9 := ih (i + 1) (by omega)
        have e9 : findN (fun i => M (b + 5 + 3 * i) 5 == p && M (b + 5 + 3 * i) 6 == q) (j + 1) i = findN (fun i => M (b + 5 + 3 * i) 5 == p && M (b + 5 + 3 * i) 6 == q) j (i + 1) := by rw [findN, if_neg (by simp_all)]
        rw [e9]
        exact h9
      · refine R_iload_n dX3_fishOn_35 rfl rfl ?_
        refine R_iret dX3_fishOn_36 rfl (Nat.le_of_ble_eq_true rfl) (Nat.le_of_ble_eq_true rfl) ?_
        refine ⟨?_, rfl⟩
        first | rfl | (rw [findN, if_pos (by simp_all)])
theorem s_X3_fishOn {l : Launch} (hf : l.stackTraces = false) {b n : Nat} (hb : isH b) (hn : n ≤ 12) (hc : M b 2 = nI n) {p q : Int32} : V_X3_fishOn l [.ref b, .int p, .int q] (hp M r) (VI (onHook M b p q n) (hp M r)) := by
  refine VM.intro (lf := L9 (some (.ref b)) (some (.int p)) (some (.int q)) none none none none none none) (by decide +kernel) hf (fun _ => (Nat.le_of_ble_eq_true rfl)) (fun _ => rfl) ?_
  refine R_iconst (v := 0) dX3_fishOn_0 (by decide) ?_
  refine R_istore_n dX3_fishOn_1 rfl (by decide) (st3 rfl) ?_
  exact L_X3_fishOn hf hb hn hc n 0 (by omega)
def letterO (M : MM) (b : Nat) (rk hk : Int32) (n : Nat) : Int32 := if onHook M b rk hk n = -1 then 46 else chr ((if zb (fBurnt M (b + 5 + 3 * (onHook M b rk hk n).toNatClampNeg)) = 0 then 97 else 65) + onHook M b rk hk n)
theorem nI_nm1 {k : Nat} (h : k < 2000) : ¬ nI k = -1 := fun e => nI_pos (n := k) (by omega) (by rw [e]; decide)
theorem chr_nar (x : Int32) : narrow .char (.int (chr x)) = .int (chr x) := by
  show Value.int _ = _
  have h9 : x.toUInt32 % 65536 % 65536 = x.toUInt32 % 65536 := by
    apply UInt32.toNat_inj.mp
    simp
  unfold chr
  simp [h9]
theorem s_X3_letterOn {l : Launch} (hf : l.stackTraces = false) {b n : Nat} (hb : isH b) (hn : n ≤ 12) (hc : M b 2 = nI n) {p q : Int32} : V_X3_letterOn l [.ref b, .int p, .int q] (hp M r) (VI (letterO M b p q n) (hp M r)) := by
  refine VM.intro (lf := L9 (some (.ref b)) (some (.int p)) (some (.int q)) none none none none none none) (by decide +kernel) hf (fun _ => (Nat.le_of_ble_eq_true rfl)) (fun _ => rfl) ?_
  have hb0 := hs0 hb
  have hb1 := hs1 hb
  have hb2 := hs2 hb
  have hO : onHook M b p q n = onHook M b p q n := rfl
  unfold letterO
  rcases findN_spec (fun i => M (b + 5 + 3 * i) 5 == p && M (b + 5 + 3 * i) 6 == q) n 0 with ⟨h1, -⟩ | ⟨k, -, h2, h3, -⟩
  · refine R_aload_n dX3_letterOn_0 rfl rfl ?_
    refine R_iload_n dX3_letterOn_1 rfl rfl ?_
    refine R_iload_n dX3_letterOn_2 rfl rfl ?_
    refine G_cV2 cw_X3_87 (s_X3_fishOn hf hb hn hc) dX3_letterOn_3 (rcv cok3 (by first | assumption | exact rfl | exact hs0 hb | exact hsf hb (by omega) | exact fish1 (hsf hb (by omega)) | exact fish2 (hsf hb (by omega))) (Nat.le_of_ble_eq_true rfl)) ⟨(Nat.le_of_ble_eq_true rfl), (Nat.le_of_ble_eq_true rfl), (Nat.le_of_ble_eq_true rfl), (Nat.le_of_ble_eq_true rfl)⟩ ?_
    refine R_istore_n dX3_letterOn_6 rfl (by decide) (st3 rfl) ?_
    refine R_iload_n dX3_letterOn_7 rfl rfl ?_
    refine R_iconst (v := (-1)) dX3_letterOn_8 (by decide) ?_
    have h1 : onHook M b p q n = -1 := h1
    refine R_icmp_ne_f (tgt := 15) dX3_letterOn_9 rfl h1 ?_
    refine R_bipush (v := 46) dX3_letterOn_12 (by decide) ?_
    refine R_iret dX3_letterOn_14 (by decide) (Nat.le_of_ble_eq_true rfl) (Nat.le_of_ble_eq_true rfl) ?_
    refine ⟨?_, rfl⟩
    rw [if_pos h1]
  · refine R_aload_n dX3_letterOn_0 rfl rfl ?_
    refine R_iload_n dX3_letterOn_1 rfl rfl ?_
    refine R_iload_n dX3_letterOn_2 rfl rfl ?_
    refine G_cV2 cw_X3_87 (s_X3_fishOn hf hb hn hc) dX3_letterOn_3 (rcv cok3 (by first | assumption | exact rfl | exact hs0 hb | exact hsf hb (by omega) | exact fish1 (hsf hb (by omega)) | exact fish2 (hsf hb (by omega))) (Nat.le_of_ble_eq_true rfl)) ⟨(Nat.le_of_ble_eq_true rfl), (Nat.le_of_ble_eq_true rfl), (Nat.le_of_ble_eq_true rfl), (Nat.le_of_ble_eq_true rfl)⟩ ?_
    refine R_istore_n dX3_letterOn_6 rfl (by decide) (st3 rfl) ?_
    refine R_iload_n dX3_letterOn_7 rfl rfl ?_
    refine R_iconst (v := (-1)) dX3_letterOn_8 (by decide) ?_
    have h3 : onHook M b p q n = nI k := h3
    refine R_icmp_ne_t (tgt := 15) dX3_letterOn_9 rfl (by rw [h3]; exact nI_nm1 (by omega)) ?_
    refine R_aload_n dX3_letterOn_15 rfl rfl ?_
    refine R_iload_n dX3_letterOn_16 rfl rfl ?_
    refine G_cV1 cw_X3_47 (by rw [h3]; exact s_X3_fishAt hf hb (k := k) (by omega)) dX3_letterOn_17 (rcv cok3 (by first | assumption | exact rfl | exact hs0 hb | exact hsf hb (by omega) | exact fish1 (hsf hb (by omega)) | exact fish2 (hsf hb (by omega))) (Nat.le_of_ble_eq_true rfl)) ⟨(Nat.le_of_ble_eq_true rfl), (Nat.le_of_ble_eq_true rfl), (Nat.le_of_ble_eq_true rfl), (Nat.le_of_ble_eq_true rfl)⟩ ?_
    refine G_cV0 cw_X3_65 (s_X0_isBurnt hf (hsf hb (by omega))) dX3_letterOn_20 (rcv cok0 (by first | assumption | exact rfl | exact hs0 hb | exact hsf hb (by omega) | exact fish1 (hsf hb (by omega)) | exact fish2 (hsf hb (by omega))) (Nat.le_of_ble_eq_true rfl)) ⟨(Nat.le_of_ble_eq_true rfl), (Nat.le_of_ble_eq_true rfl), (Nat.le_of_ble_eq_true rfl), (Nat.le_of_ble_eq_true rfl)⟩ ?_
    refine R_if_eq (tgt := 31) dX3_letterOn_23 rfl (fun c1 => ?_) (fun c1 => ?_)
    · refine R_bipush (v := 97) dX3_letterOn_31 (by decide) ?_
      refine R_iload_n dX3_letterOn_33 rfl rfl ?_
      refine R_iadd dX3_letterOn_34 ?_
      refine R_i2c dX3_letterOn_35 rfl ?_
      refine R_iret dX3_letterOn_36 (chr_nar _) (Nat.le_of_ble_eq_true rfl) (Nat.le_of_ble_eq_true rfl) ?_
      refine ⟨?_, rfl⟩
      rw [if_neg (by rw [h3]; exact nI_nm1 (by omega)), h3, nI_cl (by omega)]
      simp_all [chr]
    · refine R_bipush (v := 65) dX3_letterOn_26 (by decide) ?_
      refine R_goto (tgt := 33) dX3_letterOn_28 rfl ?_
      refine R_iload_n dX3_letterOn_33 rfl rfl ?_
      refine R_iadd dX3_letterOn_34 ?_
      refine R_i2c dX3_letterOn_35 rfl ?_
      refine R_iret dX3_letterOn_36 (chr_nar _) (Nat.le_of_ble_eq_true rfl) (Nat.le_of_ble_eq_true rfl) ?_
      refine ⟨?_, rfl⟩
      rw [if_neg (by rw [h3]; exact nI_nm1 (by omega)), h3, nI_cl (by omega)]
      simp_all [chr]
theorem L_X3_nearestOther {l : Launch} (hf : l.stackTraces = false) {b n : Nat} (hb : isH b) (hn : n ≤ 12) (hc : M b 2 = nI n) {p q s : Int32} : ∀ (j i : Nat), i + j = n → Q_X3_nearestOther l (VI (nearO M b p q s n) (hp M r)) 7 (L9 (some (.ref b)) (some (.int p)) (some (.int q)) (some (.int s)) (some (.int (nearO M b p q s i))) (some (.int (nI i))) none none none) [] (hp M r) := by
  intro j
  induction j with
  | zero =>
    intro i hi
    have hin : i = n := by omega
    subst hin
    have hb0 := hs0 hb
    have hb1 := hs1 hb
    have hb2 := hs2 hb
    refine R_iload dX3_nearestOther_7 (by decide) rfl ?_
    refine R_aload_n dX3_nearestOther_9 rfl rfl ?_
    refine G_get cok3 2 wf_X3_22 dX3_nearestOther_10 (by first | assumption | exact rfl | exact hs0 hb | exact hsf hb (by omega) | exact fish1 (hsf hb (by omega)) | exact fish2 (hsf hb (by omega))) ⟨(Nat.le_of_ble_eq_true rfl), (Nat.le_of_ble_eq_true rfl)⟩ rfl ?_
    refine R_icmp_ge_t (tgt := 62) dX3_nearestOther_13 rfl (by rw [hc]; exact nI_le (by omega) (by omega)) ?_
    refine R_iload dX3_nearestOther_62 (by decide) rfl ?_
    refine R_iret dX3_nearestOther_64 rfl (Nat.le_of_ble_eq_true rfl) (Nat.le_of_ble_eq_true rfl) ?_
    exact ⟨rfl, rfl⟩
  | succ j ih =>
    intro i hi
    have hi1 : i < n := by omega
    have hb0 := hs0 hb
    have hb1 := hs1 hb
    have hb2 := hs2 hb
    refine R_iload dX3_nearestOther_7 (by decide) rfl ?_
    refine R_aload_n dX3_nearestOther_9 rfl rfl ?_
    refine G_get cok3 2 wf_X3_22 dX3_nearestOther_10 (by first | assumption | exact rfl | exact hs0 hb | exact hsf hb (by omega) | exact fish1 (hsf hb (by omega)) | exact fish2 (hsf hb (by omega))) ⟨(Nat.le_of_ble_eq_true rfl), (Nat.le_of_ble_eq_true rfl)⟩ rfl ?_
    refine R_icmp_ge_f (tgt := 62) dX3_nearestOther_13 rfl (by rw [hc]; exact nI_ge (by omega) (by omega)) ?_
    refine R_aload_n dX3_nearestOther_16 rfl rfl ?_
    refine R_iload dX3_nearestOther_17 (by decide) rfl ?_
    refine G_cV1 cw_X3_47 (s_X3_fishAt hf hb (by omega)) dX3_nearestOther_19 (rcv cok3 (by first | assumption | exact rfl | exact hs0 hb | exact hsf hb (by omega) | exact fish1 (hsf hb (by omega)) | exact fish2 (hsf hb (by omega))) (Nat.le_of_ble_eq_true rfl)) ⟨(Nat.le_of_ble_eq_true rfl), (Nat.le_of_ble_eq_true rfl), (Nat.le_of_ble_eq_true rfl), (Nat.le_of_ble_eq_true rfl)⟩ ?_
    refine R_astore dX3_nearestOther_22 (by decide) (st6 rfl) ?_
    refine R_iload dX3_nearestOther_24 (by decide) rfl ?_
    refine R_iload_n dX3_nearestOther_26 rfl rfl ?_
    refine R_icmp_eq (tgt := 56) dX3_nearestOther_27 rfl (fun c1 => ?_) (fun c1 => ?_)
    · first | refine R_iincN dX3_nearestOther_56 (by decide) rfl (by decide) (st5 rfl) ?_ | refine R_iinc1 dX3_nearestOther_56 (by decide) rfl (by decide) (st5 rfl) ?_
      refine R_goto (tgt := 7) dX3_nearestOther_59 rfl ?_
      refine R_weak dr6 ?_
      have h9 := ih (i + 1) (by omega)
      have e9 : nearO M b p q s (i + 1) = (if nI i = s then nearO M b p q s i else if M (b + 5 + 3 * i) 5 = p then (if iabs (M (b + 5 + 3 * i) 6 - q) < nearO M b p q s i then iabs (M (b + 5 + 3 * i) 6 - q) else nearO M b p q s i) else nearO M b p q s i) := rfl
      rw [e9] at h9
      simp only [*, if_true, if_false, iabs] at h9
      exact h9
    · refine R_aload dX3_nearestOther_30 (by decide) rfl ?_
      refine G_get cok0 5 wf_X3_62 dX3_nearestOther_32 (by first | assumption | exact rfl | exact hs0 hb | exact hsf hb (by omega) | exact fish1 (hsf hb (by omega)) | exact fish2 (hsf hb (by omega))) ⟨(Nat.le_of_ble_eq_true rfl), (Nat.le_of_ble_eq_true rfl)⟩ rfl ?_
      refine R_iload_n dX3_nearestOther_35 rfl rfl ?_
      refine R_icmp_ne (tgt := 56) dX3_nearestOther_36 rfl (fun c2 => ?_) (fun c2 => ?_)
      · first | refine R_iincN dX3_nearestOther_56 (by decide) rfl (by decide) (st5 rfl) ?_ | refine R_iinc1 dX3_nearestOther_56 (by decide) rfl (by decide) (st5 rfl) ?_
        refine R_goto (tgt := 7) dX3_nearestOther_59 rfl ?_
        refine R_weak dr6 ?_
        have h9 := ih (i + 1) (by omega)
        have e9 : nearO M b p q s (i + 1) = (if nI i = s then nearO M b p q s i else if M (b + 5 + 3 * i) 5 = p then (if iabs (M (b + 5 + 3 * i) 6 - q) < nearO M b p q s i then iabs (M (b + 5 + 3 * i) 6 - q) else nearO M b p q s i) else nearO M b p q s i) := rfl
        rw [e9] at h9
        simp only [*, if_true, if_false, iabs] at h9
        exact h9
      · refine R_iload dX3_nearestOther_39 (by decide) rfl ?_
        refine R_aload dX3_nearestOther_41 (by decide) rfl ?_
        refine G_get cok0 6 wf_X3_84 dX3_nearestOther_43 (by first | assumption | exact rfl | exact hs0 hb | exact hsf hb (by omega) | exact fish1 (hsf hb (by omega)) | exact fish2 (hsf hb (by omega))) ⟨(Nat.le_of_ble_eq_true rfl), (Nat.le_of_ble_eq_true rfl)⟩ rfl ?_
        refine R_iload_n dX3_nearestOther_46 rfl rfl ?_
        refine R_isub dX3_nearestOther_47 ?_
        refine R_abs wm_X3_91 wm_abs dX3_nearestOther_48 (Nat.le_of_ble_eq_true rfl) (Nat.le_of_ble_eq_true rfl) (Nat.le_of_ble_eq_true rfl) (Nat.le_of_ble_eq_true rfl) ?_
        refine R_min wm_X3_97 wm_min dX3_nearestOther_51 (Nat.le_of_ble_eq_true rfl) (Nat.le_of_ble_eq_true rfl) (Nat.le_of_ble_eq_true rfl) (Nat.le_of_ble_eq_true rfl) ?_
        refine R_istore dX3_nearestOther_54 (by decide) (st4 rfl) ?_
        first | refine R_iincN dX3_nearestOther_56 (by decide) rfl (by decide) (st5 rfl) ?_ | refine R_iinc1 dX3_nearestOther_56 (by decide) rfl (by decide) (st5 rfl) ?_
        refine R_goto (tgt := 7) dX3_nearestOther_59 rfl ?_
        refine R_weak dr6 ?_
        have h9 := ih (i + 1) (by omega)
        have e9 : nearO M b p q s (i + 1) = (if nI i = s then nearO M b p q s i else if M (b + 5 + 3 * i) 5 = p then (if iabs (M (b + 5 + 3 * i) 6 - q) < nearO M b p q s i then iabs (M (b + 5 + 3 * i) 6 - q) else nearO M b p q s i) else nearO M b p q s i) := rfl
        rw [e9] at h9
        simp only [*, if_true, if_false, iabs] at h9
        exact h9
theorem s_X3_nearestOther {l : Launch} (hf : l.stackTraces = false) {b n : Nat} (hb : isH b) (hn : n ≤ 12) (hc : M b 2 = nI n) {p q s : Int32} : V_X3_nearestOther l [.ref b, .int p, .int q, .int s] (hp M r) (VI (nearO M b p q s n) (hp M r)) := by
  refine VM.intro (lf := L9 (some (.ref b)) (some (.int p)) (some (.int q)) (some (.int s)) none none none none none) (by decide +kernel) hf (fun _ => (Nat.le_of_ble_eq_true rfl)) (fun _ => rfl) ?_
  refine R_bipush (v := 10) dX3_nearestOther_0 (by decide) ?_
  refine R_istore dX3_nearestOther_2 (by decide) (st4 rfl) ?_
  refine R_iconst (v := 0) dX3_nearestOther_4 (by decide) ?_
  refine R_istore dX3_nearestOther_5 (by decide) (st5 rfl) ?_
  exact L_X3_nearestOther hf hb hn hc n 0 (by omega)
theorem s_X3_nearestTo {l : Launch} (hf : l.stackTraces = false) {b n : Nat} (hb : isH b) (hn : n ≤ 12) (hc : M b 2 = nI n) {k : Nat} (hk : k < n) : V_X3_nearestTo l [.ref b, .int (nI k)] (hp M r) (VI (if zb (M (b + 5 + 3 * k) 4 == 2) = 0 then 10 else nearO M b (M (b + 5 + 3 * k) 5) (M (b + 5 + 3 * k) 6) (nI k) n) (hp M r)) := by
  have hb0 := hs0 hb
  have hb1 := hs1 hb
  have hb2 := hs2 hb
  refine VM.intro (lf := L9 (some (.ref b)) (some (.int (nI k))) none none none none none none none) (by decide +kernel) hf (fun _ => (Nat.le_of_ble_eq_true rfl)) (fun _ => rfl) ?_
  refine R_aload_n dX3_nearestTo_0 rfl rfl ?_
  refine R_iload_n dX3_nearestTo_1 rfl rfl ?_
  refine G_cV1 cw_X3_47 (s_X3_fishAt hf hb (by omega)) dX3_nearestTo_2 (rcv cok3 (by first | assumption | exact rfl | exact hs0 hb | exact hsf hb (by omega) | exact fish1 (hsf hb (by omega)) | exact fish2 (hsf hb (by omega))) (Nat.le_of_ble_eq_true rfl)) ⟨(Nat.le_of_ble_eq_true rfl), (Nat.le_of_ble_eq_true rfl), (Nat.le_of_ble_eq_true rfl), (Nat.le_of_ble_eq_true rfl)⟩ ?_
  refine R_astore_n dX3_nearestTo_5 rfl (by decide) (st2 rfl) ?_
  refine R_aload_n dX3_nearestTo_6 rfl rfl ?_
  refine G_cV0 cw_X3_100 (s_X0_hangs hf (hsf hb (by omega))) dX3_nearestTo_7 (rcv cok0 (by first | assumption | exact rfl | exact hs0 hb | exact hsf hb (by omega) | exact fish1 (hsf hb (by omega)) | exact fish2 (hsf hb (by omega))) (Nat.le_of_ble_eq_true rfl)) ⟨(Nat.le_of_ble_eq_true rfl), (Nat.le_of_ble_eq_true rfl), (Nat.le_of_ble_eq_true rfl), (Nat.le_of_ble_eq_true rfl)⟩ ?_
  refine R_if_eq (tgt := 29) dX3_nearestTo_10 rfl (fun c1 => ?_) (fun c1 => ?_)
  · refine R_bipush (v := 10) dX3_nearestTo_29 (by decide) ?_
    refine R_iret dX3_nearestTo_31 rfl (Nat.le_of_ble_eq_true rfl) (Nat.le_of_ble_eq_true rfl) ?_
    refine ⟨?_, rfl⟩
    simp only [*, if_true, if_false]
  · refine R_aload_n dX3_nearestTo_13 rfl rfl ?_
    refine R_aload_n dX3_nearestTo_14 rfl rfl ?_
    refine G_get cok0 5 wf_X3_62 dX3_nearestTo_15 (by first | assumption | exact rfl | exact hs0 hb | exact hsf hb (by omega) | exact fish1 (hsf hb (by omega)) | exact fish2 (hsf hb (by omega))) ⟨(Nat.le_of_ble_eq_true rfl), (Nat.le_of_ble_eq_true rfl)⟩ rfl ?_
    refine R_aload_n dX3_nearestTo_18 rfl rfl ?_
    refine G_get cok0 6 wf_X3_84 dX3_nearestTo_19 (by first | assumption | exact rfl | exact hs0 hb | exact hsf hb (by omega) | exact fish1 (hsf hb (by omega)) | exact fish2 (hsf hb (by omega))) ⟨(Nat.le_of_ble_eq_true rfl), (Nat.le_of_ble_eq_true rfl)⟩ rfl ?_
    refine R_iload_n dX3_nearestTo_22 rfl rfl ?_
    refine G_cV3 cw_X3_103 (s_X3_nearestOther hf hb hn hc) dX3_nearestTo_23 (rcv cok3 (by first | assumption | exact rfl | exact hs0 hb | exact hsf hb (by omega) | exact fish1 (hsf hb (by omega)) | exact fish2 (hsf hb (by omega))) (Nat.le_of_ble_eq_true rfl)) ⟨(Nat.le_of_ble_eq_true rfl), (Nat.le_of_ble_eq_true rfl), (Nat.le_of_ble_eq_true rfl), (Nat.le_of_ble_eq_true rfl)⟩ ?_
    refine R_goto (tgt := 31) dX3_nearestTo_26 rfl ?_
    refine R_iret dX3_nearestTo_31 rfl (Nat.le_of_ble_eq_true rfl) (Nat.le_of_ble_eq_true rfl) ?_
    refine ⟨?_, rfl⟩
    simp only [*, if_true, if_false]
theorem s_X3_hangsTooNear {l : Launch} (hf : l.stackTraces = false) {b n : Nat} (hb : isH b) (hn : n ≤ 12) (hc : M b 2 = nI n) {k : Nat} (hk : k < n) : V_X3_hangsTooNear l [.ref b, .int (nI k)] (hp M r) (VI (zb (tooNear M b k n)) (hp M r)) := by
  have hb0 := hs0 hb
  have hb1 := hs1 hb
  have hb2 := hs2 hb
  refine VM.intro (lf := L9 (some (.ref b)) (some (.int (nI k))) none none none none none none none) (by decide +kernel) hf (fun _ => (Nat.le_of_ble_eq_true rfl)) (fun _ => rfl) ?_
  refine R_aload_n dX3_hangsTooNear_0 rfl rfl ?_
  refine R_iload_n dX3_hangsTooNear_1 rfl rfl ?_
  refine G_cV1 cw_X3_47 (s_X3_fishAt hf hb (by omega)) dX3_hangsTooNear_2 (rcv cok3 (by first | assumption | exact rfl | exact hs0 hb | exact hsf hb (by omega) | exact fish1 (hsf hb (by omega)) | exact fish2 (hsf hb (by omega))) (Nat.le_of_ble_eq_true rfl)) ⟨(Nat.le_of_ble_eq_true rfl), (Nat.le_of_ble_eq_true rfl), (Nat.le_of_ble_eq_true rfl), (Nat.le_of_ble_eq_true rfl)⟩ ?_
  refine R_astore_n dX3_hangsTooNear_5 rfl (by decide) (st2 rfl) ?_
  refine R_aload_n dX3_hangsTooNear_6 rfl rfl ?_
  refine G_cV0 cw_X3_100 (s_X0_hangs hf (hsf hb (by omega))) dX3_hangsTooNear_7 (rcv cok0 (by first | assumption | exact rfl | exact hs0 hb | exact hsf hb (by omega) | exact fish1 (hsf hb (by omega)) | exact fish2 (hsf hb (by omega))) (Nat.le_of_ble_eq_true rfl)) ⟨(Nat.le_of_ble_eq_true rfl), (Nat.le_of_ble_eq_true rfl), (Nat.le_of_ble_eq_true rfl), (Nat.le_of_ble_eq_true rfl)⟩ ?_
  refine R_if_eq (tgt := 37) dX3_hangsTooNear_10 rfl (fun c1 => ?_) (fun c1 => ?_)
  · refine R_iconst (v := 0) dX3_hangsTooNear_37 (by decide) ?_
    refine R_iret dX3_hangsTooNear_38 rfl (Nat.le_of_ble_eq_true rfl) (Nat.le_of_ble_eq_true rfl) ?_
    refine ⟨?_, rfl⟩
    simp_all [-Int32.not_lt, zb, tooNear]
  · refine R_aload_n dX3_hangsTooNear_13 rfl rfl ?_
    refine R_aload_n dX3_hangsTooNear_14 rfl rfl ?_
    refine G_get cok0 5 wf_X3_62 dX3_hangsTooNear_15 (by first | assumption | exact rfl | exact hs0 hb | exact hsf hb (by omega) | exact fish1 (hsf hb (by omega)) | exact fish2 (hsf hb (by omega))) ⟨(Nat.le_of_ble_eq_true rfl), (Nat.le_of_ble_eq_true rfl)⟩ rfl ?_
    refine R_aload_n dX3_hangsTooNear_18 rfl rfl ?_
    refine G_get cok0 6 wf_X3_84 dX3_hangsTooNear_19 (by first | assumption | exact rfl | exact hs0 hb | exact hsf hb (by omega) | exact fish1 (hsf hb (by omega)) | exact fish2 (hsf hb (by omega))) ⟨(Nat.le_of_ble_eq_true rfl), (Nat.le_of_ble_eq_true rfl)⟩ rfl ?_
    refine R_iload_n dX3_hangsTooNear_22 rfl rfl ?_
    refine G_cV3 cw_X3_103 (s_X3_nearestOther hf hb hn hc) dX3_hangsTooNear_23 (rcv cok3 (by first | assumption | exact rfl | exact hs0 hb | exact hsf hb (by omega) | exact fish1 (hsf hb (by omega)) | exact fish2 (hsf hb (by omega))) (Nat.le_of_ble_eq_true rfl)) ⟨(Nat.le_of_ble_eq_true rfl), (Nat.le_of_ble_eq_true rfl), (Nat.le_of_ble_eq_true rfl), (Nat.le_of_ble_eq_true rfl)⟩ ?_
    refine R_aload_n dX3_hangsTooNear_26 rfl rfl ?_
    refine G_cV0 cw_X3_107 (s_X0_gapNeeded hf (hsf hb (by omega))) dX3_hangsTooNear_27 (rcv cok0 (by first | assumption | exact rfl | exact hs0 hb | exact hsf hb (by omega) | exact fish1 (hsf hb (by omega)) | exact fish2 (hsf hb (by omega))) (Nat.le_of_ble_eq_true rfl)) ⟨(Nat.le_of_ble_eq_true rfl), (Nat.le_of_ble_eq_true rfl), (Nat.le_of_ble_eq_true rfl), (Nat.le_of_ble_eq_true rfl)⟩ ?_
    refine R_icmp_geN (tgt := 37) dX3_hangsTooNear_30 rfl (fun c2 => ?_) (fun c2 => ?_)
    · refine R_iconst (v := 0) dX3_hangsTooNear_37 (by decide) ?_
      refine R_iret dX3_hangsTooNear_38 rfl (Nat.le_of_ble_eq_true rfl) (Nat.le_of_ble_eq_true rfl) ?_
      refine ⟨?_, rfl⟩
      simp_all [-Int32.not_lt, zb, tooNear]
    · refine R_iconst (v := 1) dX3_hangsTooNear_33 (by decide) ?_
      refine R_goto (tgt := 38) dX3_hangsTooNear_34 rfl ?_
      refine R_iret dX3_hangsTooNear_38 rfl (Nat.le_of_ble_eq_true rfl) (Nat.le_of_ble_eq_true rfl) ?_
      refine ⟨?_, rfl⟩
      simp_all [-Int32.not_lt, zb, tooNear]
theorem L_X3_farthestHook {l : Launch} (hf : l.stackTraces = false) {b n : Nat} (hb : isH b) (hn : n ≤ 12) (hc : M b 2 = nI n) {x p : Int32} : ∀ (j i : Nat), i + j = 10 → Q_X3_farthestHook l (VI (farH M b x p n 10).1 (hp M r)) 8 (L9 (some (.ref b)) (some (.int x)) (some (.int p)) (some (.int (farH M b x p n i).1)) (some (.int (farH M b x p n i).2)) (some (.int (nI i))) none none none) [] (hp M r) := by
  intro j
  induction j with
  | zero =>
    intro i hi
    have hin : i = 10 := by omega
    subst hin
    have hb0 := hs0 hb
    have hb1 := hs1 hb
    have hb2 := hs2 hb
    refine R_iload dX3_farthestHook_8 (by decide) rfl ?_
    refine R_bipush (v := 10) dX3_farthestHook_10 (by decide) ?_
    refine R_icmp_ge_t (tgt := 45) dX3_farthestHook_12 rfl (nI_le (a := 10) (by omega) (by omega)) ?_
    refine R_iload_n dX3_farthestHook_45 rfl rfl ?_
    refine R_iret dX3_farthestHook_46 rfl (Nat.le_of_ble_eq_true rfl) (Nat.le_of_ble_eq_true rfl) ?_
    exact ⟨rfl, rfl⟩
  | succ j ih =>
    intro i hi
    have hi1 : i < 10 := by omega
    have hb0 := hs0 hb
    have hb1 := hs1 hb
    have hb2 := hs2 hb
    refine R_iload dX3_farthestHook_8 (by decide) rfl ?_
    refine R_bipush (v := 10) dX3_farthestHook_10 (by decide) ?_
    refine R_icmp_ge_f (tgt := 45) dX3_farthestHook_12 rfl (nI_ge (b := 10) (by omega) (by omega)) ?_
    refine R_aload_n dX3_farthestHook_15 rfl rfl ?_
    refine R_iload_n dX3_farthestHook_16 rfl rfl ?_
    refine R_iload dX3_farthestHook_17 (by decide) rfl ?_
    refine R_iload_n dX3_farthestHook_19 rfl rfl ?_
    refine G_cV3 cw_X3_103 (s_X3_nearestOther hf hb hn hc) dX3_farthestHook_20 (rcv cok3 (by first | assumption | exact rfl | exact hs0 hb | exact hsf hb (by omega) | exact fish1 (hsf hb (by omega)) | exact fish2 (hsf hb (by omega))) (Nat.le_of_ble_eq_true rfl)) ⟨(Nat.le_of_ble_eq_true rfl), (Nat.le_of_ble_eq_true rfl), (Nat.le_of_ble_eq_true rfl), (Nat.le_of_ble_eq_true rfl)⟩ ?_
    refine R_istore dX3_farthestHook_23 (by decide) (st6 rfl) ?_
    refine R_iload dX3_farthestHook_25 (by decide) rfl ?_
    refine R_iload dX3_farthestHook_27 (by decide) rfl ?_
    refine R_icmp_leN (tgt := 39) dX3_farthestHook_29 rfl (fun c1 => ?_) (fun c1 => ?_)
    · first | refine R_iincN dX3_farthestHook_39 (by decide) rfl (by decide) (st5 rfl) ?_ | refine R_iinc1 dX3_farthestHook_39 (by decide) rfl (by decide) (st5 rfl) ?_
      refine R_goto (tgt := 8) dX3_farthestHook_42 rfl ?_
      refine R_weak dr6 ?_
      have h9 := ih (i + 1) (by omega)
      have e9 : farH M b x p n (i + 1) = (if (farH M b x p n i).2 < nearO M b p (nI i) x n then (nI i, nearO M b p (nI i) x n) else farH M b x p n i) := rfl
      rw [e9] at h9
      simp only [*, if_true, if_false] at h9
      exact h9
    · refine R_iload dX3_farthestHook_32 (by decide) rfl ?_
      refine R_istore_n dX3_farthestHook_34 rfl (by decide) (st3 rfl) ?_
      refine R_iload dX3_farthestHook_35 (by decide) rfl ?_
      refine R_istore dX3_farthestHook_37 (by decide) (st4 rfl) ?_
      first | refine R_iincN dX3_farthestHook_39 (by decide) rfl (by decide) (st5 rfl) ?_ | refine R_iinc1 dX3_farthestHook_39 (by decide) rfl (by decide) (st5 rfl) ?_
      refine R_goto (tgt := 8) dX3_farthestHook_42 rfl ?_
      refine R_weak dr6 ?_
      have h9 := ih (i + 1) (by omega)
      have e9 : farH M b x p n (i + 1) = (if (farH M b x p n i).2 < nearO M b p (nI i) x n then (nI i, nearO M b p (nI i) x n) else farH M b x p n i) := rfl
      rw [e9] at h9
      simp only [*, if_true, if_false] at h9
      exact h9
theorem s_X3_farthestHook {l : Launch} (hf : l.stackTraces = false) {b n : Nat} (hb : isH b) (hn : n ≤ 12) (hc : M b 2 = nI n) {x p : Int32} : V_X3_farthestHook l [.ref b, .int x, .int p] (hp M r) (VI (farH M b x p n 10).1 (hp M r)) := by
  refine VM.intro (lf := L9 (some (.ref b)) (some (.int x)) (some (.int p)) none none none none none none) (by decide +kernel) hf (fun _ => (Nat.le_of_ble_eq_true rfl)) (fun _ => rfl) ?_
  refine R_iconst (v := (-1)) dX3_farthestHook_0 (by decide) ?_
  refine R_istore_n dX3_farthestHook_1 rfl (by decide) (st3 rfl) ?_
  refine R_iconst (v := 0) dX3_farthestHook_2 (by decide) ?_
  refine R_istore dX3_farthestHook_3 (by decide) (st4 rfl) ?_
  refine R_iconst (v := 0) dX3_farthestHook_5 (by decide) ?_
  refine R_istore dX3_farthestHook_6 (by decide) (st5 rfl) ?_
  exact L_X3_farthestHook hf hb hn hc 10 0 (by omega)
theorem L_X3_placeOf {l : Launch} (hf : l.stackTraces = false) {b n : Nat} (hb : isH b) (hn : n ≤ 12) (hc : M b 2 = nI n) {me : Int32} {k : Nat} (hk : k < n) : ∀ (j i : Nat), i + j = n → Q_X3_placeOf l (VI (placeO M b me (nI k) (fMea M (b + 5 + 3 * k) me) n) (hp M r)) 16 (L9 (some (.ref b)) (some (.int me)) (some (.int (nI k))) (some (.int (fMea M (b + 5 + 3 * k) me))) (some (.int (placeO M b me (nI k) (fMea M (b + 5 + 3 * k) me) i))) (some (.int (nI i))) none none none) [] (hp M r) := by
  intro j
  induction j with
  | zero =>
    intro i hi
    have hin : i = n := by omega
    subst hin
    have hb0 := hs0 hb
    have hb1 := hs1 hb
    have hb2 := hs2 hb
    refine R_iload dX3_placeOf_16 (by decide) rfl ?_
    refine R_aload_n dX3_placeOf_18 rfl rfl ?_
    refine G_get cok3 2 wf_X3_22 dX3_placeOf_19 (by first | assumption | exact rfl | exact hs0 hb | exact hsf hb (by omega) | exact fish1 (hsf hb (by omega)) | exact fish2 (hsf hb (by omega))) ⟨(Nat.le_of_ble_eq_true rfl), (Nat.le_of_ble_eq_true rfl)⟩ rfl ?_
    refine R_icmp_ge_t (tgt := 83) dX3_placeOf_22 rfl (by rw [hc]; exact nI_le (by omega) (by omega)) ?_
    refine R_iload dX3_placeOf_83 (by decide) rfl ?_
    refine R_iret dX3_placeOf_85 rfl (Nat.le_of_ble_eq_true rfl) (Nat.le_of_ble_eq_true rfl) ?_
    exact ⟨rfl, rfl⟩
  | succ j ih =>
    intro i hi
    have hi1 : i < n := by omega
    have hb0 := hs0 hb
    have hb1 := hs1 hb
    have hb2 := hs2 hb
    refine R_iload dX3_placeOf_16 (by decide) rfl ?_
    refine R_aload_n dX3_placeOf_18 rfl rfl ?_
    refine G_get cok3 2 wf_X3_22 dX3_placeOf_19 (by first | assumption | exact rfl | exact hs0 hb | exact hsf hb (by omega) | exact fish1 (hsf hb (by omega)) | exact fish2 (hsf hb (by omega))) ⟨(Nat.le_of_ble_eq_true rfl), (Nat.le_of_ble_eq_true rfl)⟩ rfl ?_
    refine R_icmp_ge_f (tgt := 83) dX3_placeOf_22 rfl (by rw [hc]; exact nI_ge (by omega) (by omega)) ?_
    refine R_aload_n dX3_placeOf_25 rfl rfl ?_
    refine R_iload dX3_placeOf_26 (by decide) rfl ?_
    refine G_cV1 cw_X3_47 (s_X3_fishAt hf hb (by omega)) dX3_placeOf_28 (rcv cok3 (by first | assumption | exact rfl | exact hs0 hb | exact hsf hb (by omega) | exact fish1 (hsf hb (by omega)) | exact fish2 (hsf hb (by omega))) (Nat.le_of_ble_eq_true rfl)) ⟨(Nat.le_of_ble_eq_true rfl), (Nat.le_of_ble_eq_true rfl), (Nat.le_of_ble_eq_true rfl), (Nat.le_of_ble_eq_true rfl)⟩ ?_
    refine R_iload_n dX3_placeOf_31 rfl rfl ?_
    refine G_cV1 cw_X3_114 (s_X0_measured hf (hsf hb (by omega))) dX3_placeOf_32 (rcv cok0 (by first | assumption | exact rfl | exact hs0 hb | exact hsf hb (by omega) | exact fish1 (hsf hb (by omega)) | exact fish2 (hsf hb (by omega))) (Nat.le_of_ble_eq_true rfl)) ⟨(Nat.le_of_ble_eq_true rfl), (Nat.le_of_ble_eq_true rfl), (Nat.le_of_ble_eq_true rfl), (Nat.le_of_ble_eq_true rfl)⟩ ?_
    refine R_istore dX3_placeOf_35 (by decide) (st6 rfl) ?_
    refine R_iload dX3_placeOf_37 (by decide) rfl ?_
    refine R_iload_n dX3_placeOf_39 rfl rfl ?_
    refine R_icmp_gt (tgt := 55) dX3_placeOf_40 rfl (fun c1 => ?_) (fun c1 => ?_)
    · refine R_iconst (v := 1) dX3_placeOf_55 (by decide) ?_
      refine R_goto (tgt := 60) dX3_placeOf_56 rfl ?_
      refine R_istore dX3_placeOf_60 (by decide) (st7 rfl) ?_
      refine R_iload dX3_placeOf_62 (by decide) rfl ?_
      refine R_iload dX3_placeOf_64 (by decide) rfl ?_
      first | refine R_if_eq_f (tgt := 73) dX3_placeOf_66 rfl (by decide) ?_ | refine R_if_eq_t (tgt := 73) dX3_placeOf_66 rfl (by decide) ?_
      first | refine R_iconst (v := 1) dX3_placeOf_69 (by decide) (R_goto (tgt := 74) dX3_placeOf_70 rfl ?_) | refine R_iconst (v := 0) dX3_placeOf_73 (by decide) ?_
      refine R_iadd dX3_placeOf_74 ?_
      refine R_istore dX3_placeOf_75 (by decide) (st4 rfl) ?_
      first | refine R_iincN dX3_placeOf_77 (by decide) rfl (by decide) (st5 rfl) ?_ | refine R_iinc1 dX3_placeOf_77 (by decide) rfl (by decide) (st5 rfl) ?_
      refine R_goto (tgt := 16) dX3_placeOf_80 rfl ?_
      refine R_weak dr6 ?_
      refine R_weak dr7 ?_
      have h9 := ih (i + 1) (by omega)
      have e9 : placeO M b me (nI k) (fMea M (b + 5 + 3 * k) me) (i + 1) = (if fMea M (b + 5 + 3 * k) me < fMea M (b + 5 + 3 * i) me then placeO M b me (nI k) (fMea M (b + 5 + 3 * k) me) i + 1 else if fMea M (b + 5 + 3 * i) me = fMea M (b + 5 + 3 * k) me then (if nI i < nI k then placeO M b me (nI k) (fMea M (b + 5 + 3 * k) me) i + 1 else placeO M b me (nI k) (fMea M (b + 5 + 3 * k) me) i + 0) else placeO M b me (nI k) (fMea M (b + 5 + 3 * k) me) i + 0) := rfl
      rw [e9] at h9
      repeat' split at h9
      all_goals first | exact h9 | (exfalso; contradiction)
    · refine R_iload dX3_placeOf_43 (by decide) rfl ?_
      refine R_iload_n dX3_placeOf_45 rfl rfl ?_
      refine R_icmp_ne (tgt := 59) dX3_placeOf_46 rfl (fun c2 => ?_) (fun c2 => ?_)
      · refine R_iconst (v := 0) dX3_placeOf_59 (by decide) ?_
        refine R_istore dX3_placeOf_60 (by decide) (st7 rfl) ?_
        refine R_iload dX3_placeOf_62 (by decide) rfl ?_
        refine R_iload dX3_placeOf_64 (by decide) rfl ?_
        first | refine R_if_eq_f (tgt := 73) dX3_placeOf_66 rfl (by decide) ?_ | refine R_if_eq_t (tgt := 73) dX3_placeOf_66 rfl (by decide) ?_
        first | refine R_iconst (v := 1) dX3_placeOf_69 (by decide) (R_goto (tgt := 74) dX3_placeOf_70 rfl ?_) | refine R_iconst (v := 0) dX3_placeOf_73 (by decide) ?_
        refine R_iadd dX3_placeOf_74 ?_
        refine R_istore dX3_placeOf_75 (by decide) (st4 rfl) ?_
        first | refine R_iincN dX3_placeOf_77 (by decide) rfl (by decide) (st5 rfl) ?_ | refine R_iinc1 dX3_placeOf_77 (by decide) rfl (by decide) (st5 rfl) ?_
        refine R_goto (tgt := 16) dX3_placeOf_80 rfl ?_
        refine R_weak dr6 ?_
        refine R_weak dr7 ?_
        have h9 := ih (i + 1) (by omega)
        have e9 : placeO M b me (nI k) (fMea M (b + 5 + 3 * k) me) (i + 1) = (if fMea M (b + 5 + 3 * k) me < fMea M (b + 5 + 3 * i) me then placeO M b me (nI k) (fMea M (b + 5 + 3 * k) me) i + 1 else if fMea M (b + 5 + 3 * i) me = fMea M (b + 5 + 3 * k) me then (if nI i < nI k then placeO M b me (nI k) (fMea M (b + 5 + 3 * k) me) i + 1 else placeO M b me (nI k) (fMea M (b + 5 + 3 * k) me) i + 0) else placeO M b me (nI k) (fMea M (b + 5 + 3 * k) me) i + 0) := rfl
        rw [e9] at h9
        repeat' split at h9
        all_goals first | exact h9 | (exfalso; contradiction)
      · refine R_iload dX3_placeOf_49 (by decide) rfl ?_
        refine R_iload_n dX3_placeOf_51 rfl rfl ?_
        refine R_icmp_geN (tgt := 59) dX3_placeOf_52 rfl (fun c3 => ?_) (fun c3 => ?_)
        · refine R_iconst (v := 0) dX3_placeOf_59 (by decide) ?_
          refine R_istore dX3_placeOf_60 (by decide) (st7 rfl) ?_
          refine R_iload dX3_placeOf_62 (by decide) rfl ?_
          refine R_iload dX3_placeOf_64 (by decide) rfl ?_
          first | refine R_if_eq_f (tgt := 73) dX3_placeOf_66 rfl (by decide) ?_ | refine R_if_eq_t (tgt := 73) dX3_placeOf_66 rfl (by decide) ?_
          first | refine R_iconst (v := 1) dX3_placeOf_69 (by decide) (R_goto (tgt := 74) dX3_placeOf_70 rfl ?_) | refine R_iconst (v := 0) dX3_placeOf_73 (by decide) ?_
          refine R_iadd dX3_placeOf_74 ?_
          refine R_istore dX3_placeOf_75 (by decide) (st4 rfl) ?_
          first | refine R_iincN dX3_placeOf_77 (by decide) rfl (by decide) (st5 rfl) ?_ | refine R_iinc1 dX3_placeOf_77 (by decide) rfl (by decide) (st5 rfl) ?_
          refine R_goto (tgt := 16) dX3_placeOf_80 rfl ?_
          refine R_weak dr6 ?_
          refine R_weak dr7 ?_
          have h9 := ih (i + 1) (by omega)
          have e9 : placeO M b me (nI k) (fMea M (b + 5 + 3 * k) me) (i + 1) = (if fMea M (b + 5 + 3 * k) me < fMea M (b + 5 + 3 * i) me then placeO M b me (nI k) (fMea M (b + 5 + 3 * k) me) i + 1 else if fMea M (b + 5 + 3 * i) me = fMea M (b + 5 + 3 * k) me then (if nI i < nI k then placeO M b me (nI k) (fMea M (b + 5 + 3 * k) me) i + 1 else placeO M b me (nI k) (fMea M (b + 5 + 3 * k) me) i + 0) else placeO M b me (nI k) (fMea M (b + 5 + 3 * k) me) i + 0) := rfl
          rw [e9] at h9
          repeat' split at h9
          all_goals first | exact h9 | (exfalso; contradiction)
        · refine R_iconst (v := 1) dX3_placeOf_55 (by decide) ?_
          refine R_goto (tgt := 60) dX3_placeOf_56 rfl ?_
          refine R_istore dX3_placeOf_60 (by decide) (st7 rfl) ?_
          refine R_iload dX3_placeOf_62 (by decide) rfl ?_
          refine R_iload dX3_placeOf_64 (by decide) rfl ?_
          first | refine R_if_eq_f (tgt := 73) dX3_placeOf_66 rfl (by decide) ?_ | refine R_if_eq_t (tgt := 73) dX3_placeOf_66 rfl (by decide) ?_
          first | refine R_iconst (v := 1) dX3_placeOf_69 (by decide) (R_goto (tgt := 74) dX3_placeOf_70 rfl ?_) | refine R_iconst (v := 0) dX3_placeOf_73 (by decide) ?_
          refine R_iadd dX3_placeOf_74 ?_
          refine R_istore dX3_placeOf_75 (by decide) (st4 rfl) ?_
          first | refine R_iincN dX3_placeOf_77 (by decide) rfl (by decide) (st5 rfl) ?_ | refine R_iinc1 dX3_placeOf_77 (by decide) rfl (by decide) (st5 rfl) ?_
          refine R_goto (tgt := 16) dX3_placeOf_80 rfl ?_
          refine R_weak dr6 ?_
          refine R_weak dr7 ?_
          have h9 := ih (i + 1) (by omega)
          have e9 : placeO M b me (nI k) (fMea M (b + 5 + 3 * k) me) (i + 1) = (if fMea M (b + 5 + 3 * k) me < fMea M (b + 5 + 3 * i) me then placeO M b me (nI k) (fMea M (b + 5 + 3 * k) me) i + 1 else if fMea M (b + 5 + 3 * i) me = fMea M (b + 5 + 3 * k) me then (if nI i < nI k then placeO M b me (nI k) (fMea M (b + 5 + 3 * k) me) i + 1 else placeO M b me (nI k) (fMea M (b + 5 + 3 * k) me) i + 0) else placeO M b me (nI k) (fMea M (b + 5 + 3 * k) me) i + 0) := rfl
          rw [e9] at h9
          repeat' split at h9
          all_goals first | exact h9 | (exfalso; contradiction)
theorem s_X3_placeOf {l : Launch} (hf : l.stackTraces = false) {b n : Nat} (hb : isH b) (hn : n ≤ 12) (hc : M b 2 = nI n) {me : Int32} {k : Nat} (hk : k < n) : V_X3_placeOf l [.ref b, .int me, .int (nI k)] (hp M r) (VI (placeO M b me (nI k) (fMea M (b + 5 + 3 * k) me) n) (hp M r)) := by
  refine VM.intro (lf := L9 (some (.ref b)) (some (.int me)) (some (.int (nI k))) none none none none none none) (by decide +kernel) hf (fun _ => (Nat.le_of_ble_eq_true rfl)) (fun _ => rfl) ?_
  refine R_aload_n dX3_placeOf_0 rfl rfl ?_
  refine R_iload_n dX3_placeOf_1 rfl rfl ?_
  refine G_cV1 cw_X3_47 (s_X3_fishAt hf hb (by omega)) dX3_placeOf_2 (rcv cok3 (by first | assumption | exact rfl | exact hs0 hb | exact hsf hb (by omega) | exact fish1 (hsf hb (by omega)) | exact fish2 (hsf hb (by omega))) (Nat.le_of_ble_eq_true rfl)) ⟨(Nat.le_of_ble_eq_true rfl), (Nat.le_of_ble_eq_true rfl), (Nat.le_of_ble_eq_true rfl), (Nat.le_of_ble_eq_true rfl)⟩ ?_
  refine R_iload_n dX3_placeOf_5 rfl rfl ?_
  refine G_cV1 cw_X3_114 (s_X0_measured hf (hsf hb (by omega))) dX3_placeOf_6 (rcv cok0 (by first | assumption | exact rfl | exact hs0 hb | exact hsf hb (by omega) | exact fish1 (hsf hb (by omega)) | exact fish2 (hsf hb (by omega))) (Nat.le_of_ble_eq_true rfl)) ⟨(Nat.le_of_ble_eq_true rfl), (Nat.le_of_ble_eq_true rfl), (Nat.le_of_ble_eq_true rfl), (Nat.le_of_ble_eq_true rfl)⟩ ?_
  refine R_istore_n dX3_placeOf_9 rfl (by decide) (st3 rfl) ?_
  refine R_iconst (v := 0) dX3_placeOf_10 (by decide) ?_
  refine R_istore dX3_placeOf_11 (by decide) (st4 rfl) ?_
  refine R_iconst (v := 0) dX3_placeOf_13 (by decide) ?_
  refine R_istore dX3_placeOf_14 (by decide) (st5 rfl) ?_
  exact L_X3_placeOf hf hb hn hc hk n 0 (by omega)
theorem L_X3_fishAtPlace {l : Launch} (hf : l.stackTraces = false) {b n : Nat} (hb : isH b) (hn : n ≤ 12) (hc : M b 2 = nI n) {me pl : Int32} : ∀ (j i : Nat), i + j = n → Q_X3_fishAtPlace l (VI (findN (fun i => placeO M b me (nI i) (fMea M (b + 5 + 3 * i) me) n == pl) j i) (hp M r)) 2 (L9 (some (.ref b)) (some (.int me)) (some (.int pl)) (some (.int (nI i))) none none none none none) [] (hp M r) := by
  intro j
  induction j with
  | zero =>
    intro i hi
    have hin : i = n := by omega
    subst hin
    have hb0 := hs0 hb
    have hb1 := hs1 hb
    have hb2 := hs2 hb
    refine R_iload_n dX3_fishAtPlace_2 rfl rfl ?_
    refine R_aload_n dX3_fishAtPlace_3 rfl rfl ?_
    refine G_get cok3 2 wf_X3_22 dX3_fishAtPlace_4 (by first | assumption | exact rfl | exact hs0 hb | exact hsf hb (by omega) | exact fish1 (hsf hb (by omega)) | exact fish2 (hsf hb (by omega))) ⟨(Nat.le_of_ble_eq_true rfl), (Nat.le_of_ble_eq_true rfl)⟩ rfl ?_
    refine R_icmp_ge_t (tgt := 28) dX3_fishAtPlace_7 rfl (by rw [hc]; exact nI_le (by omega) (by omega)) ?_
    refine R_iconst (v := (-1)) dX3_fishAtPlace_28 (by decide) ?_
    refine R_iret dX3_fishAtPlace_29 rfl (Nat.le_of_ble_eq_true rfl) (Nat.le_of_ble_eq_true rfl) ?_
    refine ⟨?_, rfl⟩
    first | rfl | (rw [findN, if_pos (by simp_all)])
  | succ j ih =>
    intro i hi
    have hi1 : i < n := by omega
    have hb0 := hs0 hb
    have hb1 := hs1 hb
    have hb2 := hs2 hb
    refine R_iload_n dX3_fishAtPlace_2 rfl rfl ?_
    refine R_aload_n dX3_fishAtPlace_3 rfl rfl ?_
    refine G_get cok3 2 wf_X3_22 dX3_fishAtPlace_4 (by first | assumption | exact rfl | exact hs0 hb | exact hsf hb (by omega) | exact fish1 (hsf hb (by omega)) | exact fish2 (hsf hb (by omega))) ⟨(Nat.le_of_ble_eq_true rfl), (Nat.le_of_ble_eq_true rfl)⟩ rfl ?_
    refine R_icmp_ge_f (tgt := 28) dX3_fishAtPlace_7 rfl (by rw [hc]; exact nI_ge (by omega) (by omega)) ?_
    refine R_aload_n dX3_fishAtPlace_10 rfl rfl ?_
    refine R_iload_n dX3_fishAtPlace_11 rfl rfl ?_
    refine R_iload_n dX3_fishAtPlace_12 rfl rfl ?_
    refine G_cV2 cw_X3_111 (s_X3_placeOf hf hb hn hc (by omega)) dX3_fishAtPlace_13 (rcv cok3 (by first | assumption | exact rfl | exact hs0 hb | exact hsf hb (by omega) | exact fish1 (hsf hb (by omega)) | exact fish2 (hsf hb (by omega))) (Nat.le_of_ble_eq_true rfl)) ⟨(Nat.le_of_ble_eq_true rfl), (Nat.le_of_ble_eq_true rfl), (Nat.le_of_ble_eq_true rfl), (Nat.le_of_ble_eq_true rfl)⟩ ?_
    refine R_iload_n dX3_fishAtPlace_16 rfl rfl ?_
    refine R_icmp_ne (tgt := 22) dX3_fishAtPlace_17 rfl (fun c1 => ?_) (fun c1 => ?_)
    · first | refine R_iincN dX3_fishAtPlace_22 (by decide) rfl (by decide) (st3 rfl) ?_ | refine R_iinc1 dX3_fishAtPlace_22 (by decide) rfl (by decide) (st3 rfl) ?_
      refine R_goto (tgt := 2) dX3_fishAtPlace_25 rfl ?_
      have h9 := ih (i + 1) (by omega)
      have e9 : findN (fun i => placeO M b me (nI i) (fMea M (b + 5 + 3 * i) me) n == pl) (j + 1) i = findN (fun i => placeO M b me (nI i) (fMea M (b + 5 + 3 * i) me) n == pl) j (i + 1) := by rw [findN, if_neg (by simp_all)]
      rw [e9]
      exact h9
    · refine R_iload_n dX3_fishAtPlace_20 rfl rfl ?_
      refine R_iret dX3_fishAtPlace_21 rfl (Nat.le_of_ble_eq_true rfl) (Nat.le_of_ble_eq_true rfl) ?_
      refine ⟨?_, rfl⟩
      first | rfl | (rw [findN, if_pos (by simp_all)])
theorem s_X3_fishAtPlace {l : Launch} (hf : l.stackTraces = false) {b n : Nat} (hb : isH b) (hn : n ≤ 12) (hc : M b 2 = nI n) {me pl : Int32} : V_X3_fishAtPlace l [.ref b, .int me, .int pl] (hp M r) (VI (findN (fun i => placeO M b me (nI i) (fMea M (b + 5 + 3 * i) me) n == pl) n 0) (hp M r)) := by
  refine VM.intro (lf := L9 (some (.ref b)) (some (.int me)) (some (.int pl)) none none none none none none) (by decide +kernel) hf (fun _ => (Nat.le_of_ble_eq_true rfl)) (fun _ => rfl) ?_
  refine R_iconst (v := 0) dX3_fishAtPlace_0 (by decide) ?_
  refine R_istore_n dX3_fishAtPlace_1 rfl (by decide) (st3 rfl) ?_
  exact L_X3_fishAtPlace hf hb hn hc n 0 (by omega)
def inR (x : Int32) (n : Int32) : Bool := !decide (x < 0) && decide (x < n)
theorem s_X9_isRack {l : Launch} (hf : l.stackTraces = false) {x : Int32} : V_X9_isRack l [.int x] (hp M r) (VI (zb (inR x 4)) (hp M r)) := by
  refine VM.intro (lf := L9 (some (.int x)) none none none none none none none none) (by decide +kernel) hf (fun _ => (Nat.le_of_ble_eq_true rfl)) (fun _ => rfl) ?_
  refine R_iload_n dX9_isRack_0 rfl rfl ?_
  refine R_if_lt (tgt := 13) dX9_isRack_1 rfl (fun c1 => ?_) (fun c1 => ?_)
  · refine R_iconst (v := 0) dX9_isRack_13 (by decide) ?_
    refine R_iret dX9_isRack_14 rfl (Nat.le_of_ble_eq_true rfl) (Nat.le_of_ble_eq_true rfl) ?_
    refine ⟨?_, rfl⟩
    simp_all [-Int32.not_lt, zb, inR]
  · refine R_iload_n dX9_isRack_4 rfl rfl ?_
    refine R_iconst (v := 4) dX9_isRack_5 (by decide) ?_
    refine R_icmp_geN (tgt := 13) dX9_isRack_6 rfl (fun c2 => ?_) (fun c2 => ?_)
    · refine R_iconst (v := 0) dX9_isRack_13 (by decide) ?_
      refine R_iret dX9_isRack_14 rfl (Nat.le_of_ble_eq_true rfl) (Nat.le_of_ble_eq_true rfl) ?_
      refine ⟨?_, rfl⟩
      simp_all [-Int32.not_lt, zb, inR]
    · refine R_iconst (v := 1) dX9_isRack_9 (by decide) ?_
      refine R_goto (tgt := 14) dX9_isRack_10 rfl ?_
      refine R_iret dX9_isRack_14 rfl (Nat.le_of_ble_eq_true rfl) (Nat.le_of_ble_eq_true rfl) ?_
      refine ⟨?_, rfl⟩
      simp_all [-Int32.not_lt, zb, inR]
theorem s_X9_isHook {l : Launch} (hf : l.stackTraces = false) {x : Int32} : V_X9_isHook l [.int x] (hp M r) (VI (zb (inR x 10)) (hp M r)) := by
  refine VM.intro (lf := L9 (some (.int x)) none none none none none none none none) (by decide +kernel) hf (fun _ => (Nat.le_of_ble_eq_true rfl)) (fun _ => rfl) ?_
  refine R_iload_n dX9_isHook_0 rfl rfl ?_
  refine R_if_lt (tgt := 14) dX9_isHook_1 rfl (fun c1 => ?_) (fun c1 => ?_)
  · refine R_iconst (v := 0) dX9_isHook_14 (by decide) ?_
    refine R_iret dX9_isHook_15 rfl (Nat.le_of_ble_eq_true rfl) (Nat.le_of_ble_eq_true rfl) ?_
    refine ⟨?_, rfl⟩
    simp_all [-Int32.not_lt, zb, inR]
  · refine R_iload_n dX9_isHook_4 rfl rfl ?_
    refine R_bipush (v := 10) dX9_isHook_5 (by decide) ?_
    refine R_icmp_geN (tgt := 14) dX9_isHook_7 rfl (fun c2 => ?_) (fun c2 => ?_)
    · refine R_iconst (v := 0) dX9_isHook_14 (by decide) ?_
      refine R_iret dX9_isHook_15 rfl (Nat.le_of_ble_eq_true rfl) (Nat.le_of_ble_eq_true rfl) ?_
      refine ⟨?_, rfl⟩
      simp_all [-Int32.not_lt, zb, inR]
    · refine R_iconst (v := 1) dX9_isHook_10 (by decide) ?_
      refine R_goto (tgt := 15) dX9_isHook_11 rfl ?_
      refine R_iret dX9_isHook_15 rfl (Nat.le_of_ble_eq_true rfl) (Nat.le_of_ble_eq_true rfl) ?_
      refine ⟨?_, rfl⟩
      simp_all [-Int32.not_lt, zb, inR]
theorem s_X9_heatBy {l : Launch} (hf : l.stackTraces = false) {x y : Int32} : V_X9_heatBy l [.int x, .int y] (hp M r) (VI (mx0 (x - y)) (hp M r)) := by
  refine VM.intro (lf := L9 (some (.int x)) (some (.int y)) none none none none none none none) (by decide +kernel) hf (fun _ => (Nat.le_of_ble_eq_true rfl)) (fun _ => rfl) ?_
  refine R_iconst (v := 0) dX9_heatBy_0 (by decide) ?_
  refine R_iload_n dX9_heatBy_1 rfl rfl ?_
  refine R_iload_n dX9_heatBy_2 rfl rfl ?_
  refine R_isub dX9_heatBy_3 ?_
  refine R_max wm_X9_331 wm_max dX9_heatBy_4 (Nat.le_of_ble_eq_true rfl) (Nat.le_of_ble_eq_true rfl) (Nat.le_of_ble_eq_true rfl) (Nat.le_of_ble_eq_true rfl) ?_
  refine R_iret dX9_heatBy_7 rfl (Nat.le_of_ble_eq_true rfl) (Nat.le_of_ble_eq_true rfl) ?_
  exact ⟨rfl, rfl⟩
end P11
