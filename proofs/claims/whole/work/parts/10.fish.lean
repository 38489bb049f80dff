abbrev V_X0_copyFrom (l : Launch) (As : List Value) (h : HP) (Z : Option Value ⊕ String → HP → Prop) : Prop := VM l yX0_copyFrom cX0_copyFrom 2 none 1 0 0 As h Z
abbrev Q_X0_copyFrom (l : Launch) (Z : Option Value ⊕ String → HP → Prop) (pc : Nat) (lf : Nat → Option Value) (st : List Value) (h : HP) : Prop := Q l RX0 cX0_copyFrom 2 1 0 0 (GM none 0 0 Z) pc lf st h 0 0
abbrev V_X0_begin (l : Launch) (As : List Value) (h : HP) (Z : Option Value ⊕ String → HP → Prop) : Prop := VM l yX0_begin cX0_begin 2 none 1 0 0 As h Z
abbrev Q_X0_begin (l : Launch) (Z : Option Value ⊕ String → HP → Prop) (pc : Nat) (lf : Nat → Option Value) (st : List Value) (h : HP) : Prop := Q l RX0 cX0_begin 2 1 0 0 (GM none 0 0 Z) pc lf st h 0 0
abbrev V_X0_moveTo (l : Launch) (As : List Value) (h : HP) (Z : Option Value ⊕ String → HP → Prop) : Prop := VM l yX0_moveTo cX0_moveTo 4 none 0 0 0 As h Z
abbrev Q_X0_moveTo (l : Launch) (Z : Option Value ⊕ String → HP → Prop) (pc : Nat) (lf : Nat → Option Value) (st : List Value) (h : HP) : Prop := Q l RX0 cX0_moveTo 4 0 0 0 (GM none 0 0 Z) pc lf st h 0 0
abbrev V_X0_flip (l : Launch) (As : List Value) (h : HP) (Z : Option Value ⊕ String → HP → Prop) : Prop := VM l yX0_flip cX0_flip 1 none 0 0 0 As h Z
abbrev Q_X0_flip (l : Launch) (Z : Option Value ⊕ String → HP → Prop) (pc : Nat) (lf : Nat → Option Value) (st : List Value) (h : HP) : Prop := Q l RX0 cX0_flip 1 0 0 0 (GM none 0 0 Z) pc lf st h 0 0
abbrev V_X0_addSalt (l : Launch) (As : List Value) (h : HP) (Z : Option Value ⊕ String → HP → Prop) : Prop := VM l yX0_addSalt cX0_addSalt 2 none 1 0 0 As h Z
abbrev Q_X0_addSalt (l : Launch) (Z : Option Value ⊕ String → HP → Prop) (pc : Nat) (lf : Nat → Option Value) (st : List Value) (h : HP) : Prop := Q l RX0 cX0_addSalt 2 1 0 0 (GM none 0 0 Z) pc lf st h 0 0
abbrev V_X0_spendHour (l : Launch) (As : List Value) (h : HP) (Z : Option Value ⊕ String → HP → Prop) : Prop := VM l yX0_spendHour cX0_spendHour 4 none 2 0 0 As h Z
abbrev Q_X0_spendHour (l : Launch) (Z : Option Value ⊕ String → HP → Prop) (pc : Nat) (lf : Nat → Option Value) (st : List Value) (h : HP) : Prop := Q l RX0 cX0_spendHour 4 2 0 0 (GM none 0 0 Z) pc lf st h 0 0
abbrev V_X0_side (l : Launch) (As : List Value) (h : HP) (Z : Option Value ⊕ String → HP → Prop) : Prop := VM l yX0_side cX0_side 2 (some (.object "SmokeRacks$Side")) 0 0 0 As h Z
abbrev Q_X0_side (l : Launch) (Z : Option Value ⊕ String → HP → Prop) (pc : Nat) (lf : Nat → Option Value) (st : List Value) (h : HP) : Prop := Q l RX0 cX0_side 2 0 0 0 (GM (some (.object "SmokeRacks$Side")) 0 0 Z) pc lf st h 0 0
abbrev V_X0_downSide (l : Launch) (As : List Value) (h : HP) (Z : Option Value ⊕ String → HP → Prop) : Prop := VM l yX0_downSide cX0_downSide 1 (some (.object "SmokeRacks$Side")) 1 0 0 As h Z
abbrev Q_X0_downSide (l : Launch) (Z : Option Value ⊕ String → HP → Prop) (pc : Nat) (lf : Nat → Option Value) (st : List Value) (h : HP) : Prop := Q l RX0 cX0_downSide 1 1 0 0 (GM (some (.object "SmokeRacks$Side")) 0 0 Z) pc lf st h 0 0
abbrev V_X0_hangs (l : Launch) (As : List Value) (h : HP) (Z : Option Value ⊕ String → HP → Prop) : Prop := VM l yX0_hangs cX0_hangs 1 (some .boolean) 0 0 0 As h Z
abbrev Q_X0_hangs (l : Launch) (Z : Option Value ⊕ String → HP → Prop) (pc : Nat) (lf : Nat → Option Value) (st : List Value) (h : HP) : Prop := Q l RX0 cX0_hangs 1 0 0 0 (GM (some .boolean) 0 0 Z) pc lf st h 0 0
abbrev V_X0_isBurnt (l : Launch) (As : List Value) (h : HP) (Z : Option Value ⊕ String → HP → Prop) : Prop := VM l yX0_isBurnt cX0_isBurnt 1 (some .boolean) 1 0 0 As h Z
abbrev Q_X0_isBurnt (l : Launch) (Z : Option Value ⊕ String → HP → Prop) (pc : Nat) (lf : Nat → Option Value) (st : List Value) (h : HP) : Prop := Q l RX0 cX0_isBurnt 1 1 0 0 (GM (some .boolean) 0 0 Z) pc lf st h 0 0
abbrev V_X0_isReady (l : Launch) (As : List Value) (h : HP) (Z : Option Value ⊕ String → HP → Prop) : Prop := VM l yX0_isReady cX0_isReady 1 (some .boolean) 2 0 0 As h Z
abbrev Q_X0_isReady (l : Launch) (Z : Option Value ⊕ String → HP → Prop) (pc : Nat) (lf : Nat → Option Value) (st : List Value) (h : HP) : Prop := Q l RX0 cX0_isReady 1 2 0 0 (GM (some .boolean) 0 0 Z) pc lf st h 0 0
abbrev V_X0_heatBorne (l : Launch) (As : List Value) (h : HP) (Z : Option Value ⊕ String → HP → Prop) : Prop := VM l yX0_heatBorne cX0_heatBorne 1 (some .int) 0 0 0 As h Z
abbrev Q_X0_heatBorne (l : Launch) (Z : Option Value ⊕ String → HP → Prop) (pc : Nat) (lf : Nat → Option Value) (st : List Value) (h : HP) : Prop := Q l RX0 cX0_heatBorne 1 0 0 0 (GM (some .int) 0 0 Z) pc lf st h 0 0
abbrev V_X0_gapNeeded (l : Launch) (As : List Value) (h : HP) (Z : Option Value ⊕ String → HP → Prop) : Prop := VM l yX0_gapNeeded cX0_gapNeeded 1 (some .int) 0 0 0 As h Z
abbrev Q_X0_gapNeeded (l : Launch) (Z : Option Value ⊕ String → HP → Prop) (pc : Nat) (lf : Nat → Option Value) (st : List Value) (h : HP) : Prop := Q l RX0 cX0_gapNeeded 1 0 0 0 (GM (some .int) 0 0 Z) pc lf st h 0 0
abbrev V_X0_smokeLacking (l : Launch) (As : List Value) (h : HP) (Z : Option Value ⊕ String → HP → Prop) : Prop := VM l yX0_smokeLacking cX0_smokeLacking 2 (some .int) 1 0 0 As h Z
abbrev Q_X0_smokeLacking (l : Launch) (Z : Option Value ⊕ String → HP → Prop) (pc : Nat) (lf : Nat → Option Value) (st : List Value) (h : HP) : Prop := Q l RX0 cX0_smokeLacking 2 1 0 0 (GM (some .int) 0 0 Z) pc lf st h 0 0
abbrev V_X0_price (l : Launch) (As : List Value) (h : HP) (Z : Option Value ⊕ String → HP → Prop) : Prop := VM l yX0_price cX0_price 1 (some .int) 0 0 0 As h Z
abbrev Q_X0_price (l : Launch) (Z : Option Value ⊕ String → HP → Prop) (pc : Nat) (lf : Nat → Option Value) (st : List Value) (h : HP) : Prop := Q l RX0 cX0_price 1 0 0 0 (GM (some .int) 0 0 Z) pc lf st h 0 0
abbrev V_X0_number (l : Launch) (As : List Value) (h : HP) (Z : Option Value ⊕ String → HP → Prop) : Prop := VM l yX0_number cX0_number 2 (some .int) 1 0 0 As h Z
abbrev Q_X0_number (l : Launch) (Z : Option Value ⊕ String → HP → Prop) (pc : Nat) (lf : Nat → Option Value) (st : List Value) (h : HP) : Prop := Q l RX0 cX0_number 2 1 0 0 (GM (some .int) 0 0 Z) pc lf st h 0 0
abbrev V_X0_measured (l : Launch) (As : List Value) (h : HP) (Z : Option Value ⊕ String → HP → Prop) : Prop := VM l yX0_measured cX0_measured 2 (some .int) 1 0 0 As h Z
abbrev Q_X0_measured (l : Launch) (Z : Option Value ⊕ String → HP → Prop) (pc : Nat) (lf : Nat → Option Value) (st : List Value) (h : HP) : Prop := Q l RX0 cX0_measured 2 1 0 0 (GM (some .int) 0 0 Z) pc lf st h 0 0
abbrev V_X7_copyFrom (l : Launch) (As : List Value) (h : HP) (Z : Option Value ⊕ String → HP → Prop) : Prop := VM l yX7_copyFrom cX7_copyFrom 2 none 0 0 0 As h Z
abbrev Q_X7_copyFrom (l : Launch) (Z : Option Value ⊕ String → HP → Prop) (pc : Nat) (lf : Nat → Option Value) (st : List Value) (h : HP) : Prop := Q l RX7 cX7_copyFrom 2 0 0 0 (GM none 0 0 Z) pc lf st h 0 0
abbrev V_X7_clear (l : Launch) (As : List Value) (h : HP) (Z : Option Value ⊕ String → HP → Prop) : Prop := VM l yX7_clear cX7_clear 1 none 0 0 0 As h Z
abbrev Q_X7_clear (l : Launch) (Z : Option Value ⊕ String → HP → Prop) (pc : Nat) (lf : Nat → Option Value) (st : List Value) (h : HP) : Prop := Q l RX7 cX7_clear 1 0 0 0 (GM none 0 0 Z) pc lf st h 0 0
abbrev V_X7_addSmoke (l : Launch) (As : List Value) (h : HP) (Z : Option Value ⊕ String → HP → Prop) : Prop := VM l yX7_addSmoke cX7_addSmoke 2 none 1 0 0 As h Z
abbrev Q_X7_addSmoke (l : Launch) (Z : Option Value ⊕ String → HP → Prop) (pc : Nat) (lf : Nat → Option Value) (st : List Value) (h : HP) : Prop := Q l RX7 cX7_addSmoke 2 1 0 0 (GM none 0 0 Z) pc lf st h 0 0
abbrev V_X7_addChar (l : Launch) (As : List Value) (h : HP) (Z : Option Value ⊕ String → HP → Prop) : Prop := VM l yX7_addChar cX7_addChar 2 none 1 0 0 As h Z
abbrev Q_X7_addChar (l : Launch) (Z : Option Value ⊕ String → HP → Prop) (pc : Nat) (lf : Nat → Option Value) (st : List Value) (h : HP) : Prop := Q l RX7 cX7_addChar 2 1 0 0 (GM none 0 0 Z) pc lf st h 0 0
abbrev V_X7_isBurnt (l : Launch) (As : List Value) (h : HP) (Z : Option Value ⊕ String → HP → Prop) : Prop := VM l yX7_isBurnt cX7_isBurnt 1 (some .boolean) 0 0 0 As h Z
abbrev Q_X7_isBurnt (l : Launch) (Z : Option Value ⊕ String → HP → Prop) (pc : Nat) (lf : Nat → Option Value) (st : List Value) (h : HP) : Prop := Q l RX7 cX7_isBurnt 1 0 0 0 (GM (some .boolean) 0 0 Z) pc lf st h 0 0
abbrev VR (v : Option Value) (h1 : HP) : Option Value ⊕ String → HP → Prop := fun o h2 => o = .inl v ∧ h2 = h1
abbrev VI (v : Int32) (h1 : HP) : Option Value ⊕ String → HP → Prop := VR (some (.int v)) h1
def zb (b : Bool) : Int32 := if b then 1 else 0
theorem zb_0 {b : Bool} : zb b = 0 ↔ b = false := by cases b <;> decide
theorem zb_n0 {b : Bool} : (¬ zb b = 0) ↔ b = true := by cases b <;> decide
theorem zb_1 {b : Bool} : zb b = 1 ↔ b = true := by cases b <;> decide
theorem zb_t : zb true = 1 := rfl
theorem zb_f : zb false = 0 := rfl
theorem nb01 {x : Int32} (h : x = 0 ∨ x = 1) : narrow .boolean (.int x) = .int x ∧ fits .boolean (.int x) = true := by rcases h with rfl | rfl <;> decide
def am (v m : Int32) : Int32 := if v < m then v else m
def mx0 (y : Int32) : Int32 := if 0 < y then y else 0
theorem fish_sides : ∀ a, a < 475 → sK a = 0 → sK (a + 1) = 7 ∧ sK (a + 2) = 7 := by decide +kernel
theorem fish1 {a : Nat} (h : sK a = 0) : sK (a + 1) = 7 := (fish_sides a (sK_lt (by omega)) h).1
theorem fish2 {a : Nat} (h : sK a = 0) : sK (a + 2) = 7 := (fish_sides a (sK_lt (by omega)) h).2
theorem sK_ne {a b i j : Nat} (ha : sK a = i) (hb : sK b = j) (h : i ≠ j) : a ≠ b := fun e => h (by rw [← ha, ← hb, e])
def scp (M : MM) (a b : Nat) : MM := fun x k => if x = a ∧ k < 2 then M b k else M x k
/-- a fish's cells, copied -/
def fcp (M : MM) (a b : Nat) : MM := fun x k => if x = a ∧ 2 ≤ k ∧ k ≤ 8 then M b k else if x = a + 1 ∧ k < 2 then M (b + 1) k else if x = a + 2 ∧ k < 2 then M (b + 2) k else M x k
def fBurnt (M : MM) (a : Nat) : Bool := M (a + 1) 1 == 9 || M (a + 2) 1 == 9
def fGap (M : MM) (a : Nat) : Int32 := 1 + M a 2 / 3
def fBear (M : MM) (a : Nat) : Int32 := 2 + M a 3 / 3
def fLack (M : MM) (a : Nat) : Int32 := mx0 (5 + M a 2 - M (a + 1) 0) + mx0 (5 + M a 2 - M (a + 2) 0)
def fReady (M : MM) (a : Nat) : Bool := !fBurnt M a && fLack M a == 0
def fPrice (M : MM) (a : Nat) : Int32 := M a 2 * 3 + (if 6 < M a 3 then 0 else M a 3)
section P10
variable {M : MM} {r : MR}
theorem s_X7_isBurnt {l : Launch} (hf : l.stackTraces = false) {a : Nat} (ha : sK a = 7) : V_X7_isBurnt l [.ref a] (hp M r) (VI (zb (M a 1 == 9)) (hp M r)) := by
  refine VM.intro (lf := L9 (some (.ref a)) none none none none none none none none) (by decide +kernel) hf (fun _ => (Nat.le_of_ble_eq_true rfl)) (fun _ => rfl) ?_
  refine R_aload_n dX7_isBurnt_0 rfl rfl ?_
  refine G_get cok7 1 wf_X7_15 dX7_isBurnt_1 (by first | assumption | exact rfl | omega) ⟨(Nat.le_of_ble_eq_true rfl), (Nat.le_of_ble_eq_true rfl)⟩ rfl ?_
  refine R_bipush (v := 9) dX7_isBurnt_4 (by decide) ?_
  refine R_icmp_ne (tgt := 13) dX7_isBurnt_6 rfl (fun c1 => ?_) (fun c1 => ?_)
  · refine R_iconst (v := 0) dX7_isBurnt_13 (by decide) ?_
    refine R_iret dX7_isBurnt_14 rfl (Nat.le_of_ble_eq_true rfl) (Nat.le_of_ble_eq_true rfl) ?_
    refine ⟨?_, rfl⟩
    simp_all [-Int32.not_lt, zb]
  · refine R_iconst (v := 1) dX7_isBurnt_9 (by decide) ?_
    refine R_goto (tgt := 14) dX7_isBurnt_10 rfl ?_
    refine R_iret dX7_isBurnt_14 rfl (Nat.le_of_ble_eq_true rfl) (Nat.le_of_ble_eq_true rfl) ?_
    refine ⟨?_, rfl⟩
    simp_all [-Int32.not_lt, zb]
theorem s_X7_copyFrom {l : Launch} (hf : l.stackTraces = false) {a b : Nat} (ha : sK a = 7) (hb : sK b = 7) : V_X7_copyFrom l [.ref a, .ref b] (hp M r) (VR none (hp (scp M a b) r)) := by
  refine VM.intro (lf := L9 (some (.ref a)) (some (.ref b)) none none none none none none none) (by decide +kernel) hf (fun _ => (Nat.le_of_ble_eq_true rfl)) (fun _ => rfl) ?_
  refine R_aload_n dX7_copyFrom_0 rfl rfl ?_
  refine R_aload_n dX7_copyFrom_1 rfl rfl ?_
  refine G_get cok7 0 wf_X7_9 dX7_copyFrom_2 (by first | assumption | exact rfl | omega) ⟨(Nat.le_of_ble_eq_true rfl), (Nat.le_of_ble_eq_true rfl)⟩ rfl ?_
  refine G_put cok7 0 wf_X7_9 dX7_copyFrom_5 (by first | assumption | exact rfl | omega) rfl ⟨(Nat.le_of_ble_eq_true rfl), rfl, (Nat.le_of_ble_eq_true rfl)⟩ ⟨rfl, rfl⟩ ?_
  refine R_aload_n dX7_copyFrom_8 rfl rfl ?_
  refine R_aload_n dX7_copyFrom_9 rfl rfl ?_
  refine G_get cok7 1 wf_X7_15 dX7_copyFrom_10 (by first | assumption | exact rfl | omega) ⟨(Nat.le_of_ble_eq_true rfl), (Nat.le_of_ble_eq_true rfl)⟩ rfl ?_
  refine G_put cok7 1 wf_X7_15 dX7_copyFrom_13 (by first | assumption | exact rfl | omega) rfl ⟨(Nat.le_of_ble_eq_true rfl), rfl, (Nat.le_of_ble_eq_true rfl)⟩ ⟨rfl, rfl⟩ ?_
  refine R_vret dX7_copyFrom_16 (Nat.le_of_ble_eq_true rfl) (Nat.le_of_ble_eq_true rfl) ?_
  refine ⟨rfl, congrArg (fun z => hp z r) ?_⟩
  funext x k
  by_cases hx : x = a
  · subst hx
    match k with
    | 0 => simp [scp, mst]
    | 1 => by_cases hb : b = x <;> simp [scp, mst, hb]
    | k + 2 => simp only [scp, mst]; simp; omega
  · simp [scp, mst, hx]
theorem s_X7_clear {l : Launch} (hf : l.stackTraces = false) {a : Nat} (ha : sK a = 7) : V_X7_clear l [.ref a] (hp M r) (VR none (hp (mst (mst M a 0 0) a 1 0) r)) := by
  refine VM.intro (lf := L9 (some (.ref a)) none none none none none none none none) (by decide +kernel) hf (fun _ => (Nat.le_of_ble_eq_true rfl)) (fun _ => rfl) ?_
  refine R_aload_n dX7_clear_0 rfl rfl ?_
  refine R_iconst (v := 0) dX7_clear_1 (by decide) ?_
  refine G_put cok7 0 wf_X7_9 dX7_clear_2 (by first | assumption | exact rfl | omega) rfl ⟨(Nat.le_of_ble_eq_true rfl), rfl, (Nat.le_of_ble_eq_true rfl)⟩ ⟨rfl, rfl⟩ ?_
  refine R_aload_n dX7_clear_5 rfl rfl ?_
  refine R_iconst (v := 0) dX7_clear_6 (by decide) ?_
  refine G_put cok7 1 wf_X7_15 dX7_clear_7 (by first | assumption | exact rfl | omega) rfl ⟨(Nat.le_of_ble_eq_true rfl), rfl, (Nat.le_of_ble_eq_true rfl)⟩ ⟨rfl, rfl⟩ ?_
  refine R_vret dX7_clear_10 (Nat.le_of_ble_eq_true rfl) (Nat.le_of_ble_eq_true rfl) ?_
  exact ⟨rfl, rfl⟩
theorem s_X7_addSmoke {l : Launch} (hf : l.stackTraces = false) {a : Nat} {v : Int32} (ha : sK a = 7) : V_X7_addSmoke l [.ref a, .int v] (hp M r) (VR none (hp (mst M a 0 (am (M a 0 + v) 40)) r)) := by
  refine VM.intro (lf := L9 (some (.ref a)) (some (.int v)) none none none none none none none) (by decide +kernel) hf (fun _ => (Nat.le_of_ble_eq_true rfl)) (fun _ => rfl) ?_
  refine R_aload_n dX7_addSmoke_0 rfl rfl ?_
  refine R_bipush (v := 40) dX7_addSmoke_1 (by decide) ?_
  refine R_aload_n dX7_addSmoke_3 rfl rfl ?_
  refine G_get cok7 0 wf_X7_9 dX7_addSmoke_4 (by first | assumption | exact rfl | omega) ⟨(Nat.le_of_ble_eq_true rfl), (Nat.le_of_ble_eq_true rfl)⟩ rfl ?_
  refine R_iload_n dX7_addSmoke_7 rfl rfl ?_
  refine R_iadd dX7_addSmoke_8 ?_
  refine R_min wm_X7_18 wm_min dX7_addSmoke_9 (Nat.le_of_ble_eq_true rfl) (Nat.le_of_ble_eq_true rfl) (Nat.le_of_ble_eq_true rfl) (Nat.le_of_ble_eq_true rfl) ?_
  refine G_put cok7 0 wf_X7_9 dX7_addSmoke_12 (by first | assumption | exact rfl | omega) rfl ⟨(Nat.le_of_ble_eq_true rfl), rfl, (Nat.le_of_ble_eq_true rfl)⟩ ⟨rfl, rfl⟩ ?_
  refine R_vret dX7_addSmoke_15 (Nat.le_of_ble_eq_true rfl) (Nat.le_of_ble_eq_true rfl) ?_
  exact ⟨rfl, rfl⟩
theorem s_X7_addChar {l : Launch} (hf : l.stackTraces = false) {a : Nat} {v : Int32} (ha : sK a = 7) : V_X7_addChar l [.ref a, .int v] (hp M r) (VR none (hp (mst M a 1 (am (M a 1 + v) 9)) r)) := by
  refine VM.intro (lf := L9 (some (.ref a)) (some (.int v)) none none none none none none none) (by decide +kernel) hf (fun _ => (Nat.le_of_ble_eq_true rfl)) (fun _ => rfl) ?_
  refine R_aload_n dX7_addChar_0 rfl rfl ?_
  refine R_bipush (v := 9) dX7_addChar_1 (by decide) ?_
  refine R_aload_n dX7_addChar_3 rfl rfl ?_
  refine G_get cok7 1 wf_X7_15 dX7_addChar_4 (by first | assumption | exact rfl | omega) ⟨(Nat.le_of_ble_eq_true rfl), (Nat.le_of_ble_eq_true rfl)⟩ rfl ?_
  refine R_iload_n dX7_addChar_7 rfl rfl ?_
  refine R_iadd dX7_addChar_8 ?_
  refine R_min wm_X7_18 wm_min dX7_addChar_9 (Nat.le_of_ble_eq_true rfl) (Nat.le_of_ble_eq_true rfl) (Nat.le_of_ble_eq_true rfl) (Nat.le_of_ble_eq_true rfl) ?_
  refine G_put cok7 1 wf_X7_15 dX7_addChar_12 (by first | assumption | exact rfl | omega) rfl ⟨(Nat.le_of_ble_eq_true rfl), rfl, (Nat.le_of_ble_eq_true rfl)⟩ ⟨rfl, rfl⟩ ?_
  refine R_vret dX7_addChar_15 (Nat.le_of_ble_eq_true rfl) (Nat.le_of_ble_eq_true rfl) ?_
  exact ⟨rfl, rfl⟩
theorem s_X0_side {l : Launch} (hf : l.stackTraces = false) {a : Nat} {k : Int32} (ha : sK a = 0) : V_X0_side l [.ref a, .int k] (hp M r) (VR (some (.ref (if k = 0 then a + 1 else a + 2))) (hp M r)) := by
  refine VM.intro (lf := L9 (some (.ref a)) (some (.int k)) none none none none none none none) (by decide +kernel) hf (fun _ => (Nat.le_of_ble_eq_true rfl)) (fun _ => rfl) ?_
  refine R_iload_n dX0_side_0 rfl rfl ?_
  refine R_if_ne (tgt := 11) dX0_side_1 rfl (fun c1 => ?_) (fun c1 => ?_)
  · refine R_aload_n dX0_side_11 rfl rfl ?_
    refine G_get cok0 1 wf_X0_18 dX0_side_12 (by first | assumption | exact rfl | omega) ⟨(Nat.le_of_ble_eq_true rfl), (Nat.le_of_ble_eq_true rfl)⟩ rfl ?_
    refine R_aret dX0_side_15 (Nat.le_of_ble_eq_true rfl) (Nat.le_of_ble_eq_true rfl) ?_
    refine ⟨?_, rfl⟩
    simp_all [-Int32.not_lt]
  · refine R_aload_n dX0_side_4 rfl rfl ?_
    refine G_get cok0 0 wf_X0_12 dX0_side_5 (by first | assumption | exact rfl | omega) ⟨(Nat.le_of_ble_eq_true rfl), (Nat.le_of_ble_eq_true rfl)⟩ rfl ?_
    refine R_goto (tgt := 15) dX0_side_8 rfl ?_
    refine R_aret dX0_side_15 (Nat.le_of_ble_eq_true rfl) (Nat.le_of_ble_eq_true rfl) ?_
    refine ⟨?_, rfl⟩
    simp_all [-Int32.not_lt]
theorem s_X0_downSide {l : Launch} (hf : l.stackTraces = false) {a : Nat} (ha : sK a = 0) : V_X0_downSide l [.ref a] (hp M r) (VR (some (.ref (if M a 7 = 0 then a + 1 else a + 2))) (hp M r)) := by
  refine VM.intro (lf := L9 (some (.ref a)) none none none none none none none none) (by decide +kernel) hf (fun _ => (Nat.le_of_ble_eq_true rfl)) (fun _ => rfl) ?_
  refine R_aload_n dX0_downSide_0 rfl rfl ?_
  refine R_aload_n dX0_downSide_1 rfl rfl ?_
  refine G_get cok0 7 wf_X0_41 dX0_downSide_2 (by first | assumption | exact rfl | omega) ⟨(Nat.le_of_ble_eq_true rfl), (Nat.le_of_ble_eq_true rfl)⟩ rfl ?_
  refine G_cV1 cw_X0_61 (s_X0_side hf ha) dX0_downSide_5 (rcv cok0 (by first | assumption | exact rfl | omega) (Nat.le_of_ble_eq_true rfl)) ⟨(Nat.le_of_ble_eq_true rfl), (Nat.le_of_ble_eq_true rfl), (Nat.le_of_ble_eq_true rfl), (Nat.le_of_ble_eq_true rfl)⟩ ?_
  refine R_aret dX0_downSide_8 (Nat.le_of_ble_eq_true rfl) (Nat.le_of_ble_eq_true rfl) ?_
  exact ⟨rfl, rfl⟩
theorem s_X0_hangs {l : Launch} (hf : l.stackTraces = false) {a : Nat} (ha : sK a = 0) : V_X0_hangs l [.ref a] (hp M r) (VI (zb (M a 4 == 2)) (hp M r)) := by
  refine VM.intro (lf := L9 (some (.ref a)) none none none none none none none none) (by decide +kernel) hf (fun _ => (Nat.le_of_ble_eq_true rfl)) (fun _ => rfl) ?_
  refine R_aload_n dX0_hangs_0 rfl rfl ?_
  refine G_get cok0 4 wf_X0_32 dX0_hangs_1 (by first | assumption | exact rfl | omega) ⟨(Nat.le_of_ble_eq_true rfl), (Nat.le_of_ble_eq_true rfl)⟩ rfl ?_
  refine R_iconst (v := 2) dX0_hangs_4 (by decide) ?_
  refine R_icmp_ne (tgt := 12) dX0_hangs_5 rfl (fun c1 => ?_) (fun c1 => ?_)
  · refine R_iconst (v := 0) dX0_hangs_12 (by decide) ?_
    refine R_iret dX0_hangs_13 rfl (Nat.le_of_ble_eq_true rfl) (Nat.le_of_ble_eq_true rfl) ?_
    refine ⟨?_, rfl⟩
    simp_all [-Int32.not_lt, zb]
  · refine R_iconst (v := 1) dX0_hangs_8 (by decide) ?_
    refine R_goto (tgt := 13) dX0_hangs_9 rfl ?_
    refine R_iret dX0_hangs_13 rfl (Nat.le_of_ble_eq_true rfl) (Nat.le_of_ble_eq_true rfl) ?_
    refine ⟨?_, rfl⟩
    simp_all [-Int32.not_lt, zb]
theorem s_X0_isBurnt {l : Launch} (hf : l.stackTraces = false) {a : Nat} (ha : sK a = 0) : V_X0_isBurnt l [.ref a] (hp M r) (VI (zb (fBurnt M a)) (hp M r)) := by
  have h1 := fish1 ha
  have h2 := fish2 ha
  refine VM.intro (lf := L9 (some (.ref a)) none none none none none none none none) (by decide +kernel) hf (fun _ => (Nat.le_of_ble_eq_true rfl)) (fun _ => rfl) ?_
  refine R_aload_n dX0_isBurnt_0 rfl rfl ?_
  refine G_get cok0 0 wf_X0_12 dX0_isBurnt_1 (by first | assumption | exact rfl | omega) ⟨(Nat.le_of_ble_eq_true rfl), (Nat.le_of_ble_eq_true rfl)⟩ rfl ?_
  refine G_cV0 cw_X0_76 (s_X7_isBurnt hf (by assumption)) dX0_isBurnt_4 (rcv cok7 (by first | assumption | exact rfl | omega) (Nat.le_of_ble_eq_true rfl)) ⟨(Nat.le_of_ble_eq_true rfl), (Nat.le_of_ble_eq_true rfl), (Nat.le_of_ble_eq_true rfl), (Nat.le_of_ble_eq_true rfl)⟩ ?_
  refine R_if_ne (tgt := 20) dX0_isBurnt_7 rfl (fun c1 => ?_) (fun c1 => ?_)
  · refine R_iconst (v := 1) dX0_isBurnt_20 (by decide) ?_
    refine R_goto (tgt := 25) dX0_isBurnt_21 rfl ?_
    refine R_iret dX0_isBurnt_25 rfl (Nat.le_of_ble_eq_true rfl) (Nat.le_of_ble_eq_true rfl) ?_
    refine ⟨?_, rfl⟩
    simp_all [-Int32.not_lt, zb, fBurnt]
  · refine R_aload_n dX0_isBurnt_10 rfl rfl ?_
    refine G_get cok0 1 wf_X0_18 dX0_isBurnt_11 (by first | assumption | exact rfl | omega) ⟨(Nat.le_of_ble_eq_true rfl), (Nat.le_of_ble_eq_true rfl)⟩ rfl ?_
    refine G_cV0 cw_X0_76 (s_X7_isBurnt hf (by assumption)) dX0_isBurnt_14 (rcv cok7 (by first | assumption | exact rfl | omega) (Nat.le_of_ble_eq_true rfl)) ⟨(Nat.le_of_ble_eq_true rfl), (Nat.le_of_ble_eq_true rfl), (Nat.le_of_ble_eq_true rfl), (Nat.le_of_ble_eq_true rfl)⟩ ?_
    refine R_if_eq (tgt := 24) dX0_isBurnt_17 rfl (fun c2 => ?_) (fun c2 => ?_)
    · refine R_iconst (v := 0) dX0_isBurnt_24 (by decide) ?_
      refine R_iret dX0_isBurnt_25 rfl (Nat.le_of_ble_eq_true rfl) (Nat.le_of_ble_eq_true rfl) ?_
      refine ⟨?_, rfl⟩
      simp_all [-Int32.not_lt, zb, fBurnt]
    · refine R_iconst (v := 1) dX0_isBurnt_20 (by decide) ?_
      refine R_goto (tgt := 25) dX0_isBurnt_21 rfl ?_
      refine R_iret dX0_isBurnt_25 rfl (Nat.le_of_ble_eq_true rfl) (Nat.le_of_ble_eq_true rfl) ?_
      refine ⟨?_, rfl⟩
      simp_all [-Int32.not_lt, zb, fBurnt]
theorem s_X0_heatBorne {l : Launch} (hf : l.stackTraces = false) {a : Nat} (ha : sK a = 0) : V_X0_heatBorne l [.ref a] (hp M r) (VI (fBear M a) (hp M r)) := by
  refine VM.intro (lf := L9 (some (.ref a)) none none none none none none none none) (by decide +kernel) hf (fun _ => (Nat.le_of_ble_eq_true rfl)) (fun _ => rfl) ?_
  refine R_iconst (v := 2) dX0_heatBorne_0 (by decide) ?_
  refine R_aload_n dX0_heatBorne_1 rfl rfl ?_
  refine G_get cok0 3 wf_X0_29 dX0_heatBorne_2 (by first | assumption | exact rfl | omega) ⟨(Nat.le_of_ble_eq_true rfl), (Nat.le_of_ble_eq_true rfl)⟩ rfl ?_
  refine R_iconst (v := 3) dX0_heatBorne_5 (by decide) ?_
  refine R_idiv dX0_heatBorne_6 (by decide) ?_
  refine R_iadd dX0_heatBorne_7 ?_
  refine R_iret dX0_heatBorne_8 rfl (Nat.le_of_ble_eq_true rfl) (Nat.le_of_ble_eq_true rfl) ?_
  exact ⟨rfl, rfl⟩
theorem s_X0_gapNeeded {l : Launch} (hf : l.stackTraces = false) {a : Nat} (ha : sK a = 0) : V_X0_gapNeeded l [.ref a] (hp M r) (VI (fGap M a) (hp M r)) := by
  refine VM.intro (lf := L9 (some (.ref a)) none none none none none none none none) (by decide +kernel) hf (fun _ => (Nat.le_of_ble_eq_true rfl)) (fun _ => rfl) ?_
  refine R_iconst (v := 1) dX0_gapNeeded_0 (by decide) ?_
  refine R_aload_n dX0_gapNeeded_1 rfl rfl ?_
  refine G_get cok0 2 wf_X0_25 dX0_gapNeeded_2 (by first | assumption | exact rfl | omega) ⟨(Nat.le_of_ble_eq_true rfl), (Nat.le_of_ble_eq_true rfl)⟩ rfl ?_
  refine R_iconst (v := 3) dX0_gapNeeded_5 (by decide) ?_
  refine R_idiv dX0_gapNeeded_6 (by decide) ?_
  refine R_iadd dX0_gapNeeded_7 ?_
  refine R_iret dX0_gapNeeded_8 rfl (Nat.le_of_ble_eq_true rfl) (Nat.le_of_ble_eq_true rfl) ?_
  exact ⟨rfl, rfl⟩
theorem s_X0_smokeLacking {l : Launch} (hf : l.stackTraces = false) {a : Nat} (ha : sK a = 0) : V_X0_smokeLacking l [.ref a] (hp M r) (VI (fLack M a) (hp M r)) := by
  have h1 := fish1 ha
  have h2 := fish2 ha
  refine VM.intro (lf := L9 (some (.ref a)) none none none none none none none none) (by decide +kernel) hf (fun _ => (Nat.le_of_ble_eq_true rfl)) (fun _ => rfl) ?_
  refine R_iconst (v := 5) dX0_smokeLacking_0 (by decide) ?_
  refine R_aload_n dX0_smokeLacking_1 rfl rfl ?_
  refine G_get cok0 2 wf_X0_25 dX0_smokeLacking_2 (by first | assumption | exact rfl | omega) ⟨(Nat.le_of_ble_eq_true rfl), (Nat.le_of_ble_eq_true rfl)⟩ rfl ?_
  refine R_iadd dX0_smokeLacking_5 ?_
  refine R_istore_n dX0_smokeLacking_6 rfl (by decide) (st1 rfl) ?_
  refine R_iconst (v := 0) dX0_smokeLacking_7 (by decide) ?_
  refine R_iload_n dX0_smokeLacking_8 rfl rfl ?_
  refine R_aload_n dX0_smokeLacking_9 rfl rfl ?_
  refine G_get cok0 0 wf_X0_12 dX0_smokeLacking_10 (by first | assumption | exact rfl | omega) ⟨(Nat.le_of_ble_eq_true rfl), (Nat.le_of_ble_eq_true rfl)⟩ rfl ?_
  refine G_get cok7 0 wf_X0_84 dX0_smokeLacking_13 (by first | assumption | exact rfl | omega) ⟨(Nat.le_of_ble_eq_true rfl), (Nat.le_of_ble_eq_true rfl)⟩ rfl ?_
  refine R_isub dX0_smokeLacking_16 ?_
  refine R_max wm_X0_87 wm_max dX0_smokeLacking_17 (Nat.le_of_ble_eq_true rfl) (Nat.le_of_ble_eq_true rfl) (Nat.le_of_ble_eq_true rfl) (Nat.le_of_ble_eq_true rfl) ?_
  refine R_iconst (v := 0) dX0_smokeLacking_20 (by decide) ?_
  refine R_iload_n dX0_smokeLacking_21 rfl rfl ?_
  refine R_aload_n dX0_smokeLacking_22 rfl rfl ?_
  refine G_get cok0 1 wf_X0_18 dX0_smokeLacking_23 (by first | assumption | exact rfl | omega) ⟨(Nat.le_of_ble_eq_true rfl), (Nat.le_of_ble_eq_true rfl)⟩ rfl ?_
  refine G_get cok7 0 wf_X0_84 dX0_smokeLacking_26 (by first | assumption | exact rfl | omega) ⟨(Nat.le_of_ble_eq_true rfl), (Nat.le_of_ble_eq_true rfl)⟩ rfl ?_
  refine R_isub dX0_smokeLacking_29 ?_
  refine R_max wm_X0_87 wm_max dX0_smokeLacking_30 (Nat.le_of_ble_eq_true rfl) (Nat.le_of_ble_eq_true rfl) (Nat.le_of_ble_eq_true rfl) (Nat.le_of_ble_eq_true rfl) ?_
  refine R_iadd dX0_smokeLacking_33 ?_
  refine R_iret dX0_smokeLacking_34 rfl (Nat.le_of_ble_eq_true rfl) (Nat.le_of_ble_eq_true rfl) ?_
  exact ⟨rfl, rfl⟩
theorem s_X0_isReady {l : Launch} (hf : l.stackTraces = false) {a : Nat} (ha : sK a = 0) : V_X0_isReady l [.ref a] (hp M r) (VI (zb (fReady M a)) (hp M r)) := by
  refine VM.intro (lf := L9 (some (.ref a)) none none none none none none none none) (by decide +kernel) hf (fun _ => (Nat.le_of_ble_eq_true rfl)) (fun _ => rfl) ?_
  refine R_aload_n dX0_isReady_0 rfl rfl ?_
  refine G_cV0 cw_X0_80 (s_X0_isBurnt hf ha) dX0_isReady_1 (rcv cok0 (by first | assumption | exact rfl | omega) (Nat.le_of_ble_eq_true rfl)) ⟨(Nat.le_of_ble_eq_true rfl), (Nat.le_of_ble_eq_true rfl), (Nat.le_of_ble_eq_true rfl), (Nat.le_of_ble_eq_true rfl)⟩ ?_
  refine R_if_ne (tgt := 18) dX0_isReady_4 rfl (fun c1 => ?_) (fun c1 => ?_)
  · refine R_iconst (v := 0) dX0_isReady_18 (by decide) ?_
    refine R_iret dX0_isReady_19 rfl (Nat.le_of_ble_eq_true rfl) (Nat.le_of_ble_eq_true rfl) ?_
    refine ⟨?_, rfl⟩
    simp_all [-Int32.not_lt, zb, fReady]
  · refine R_aload_n dX0_isReady_7 rfl rfl ?_
    refine G_cV0 cw_X0_81 (s_X0_smokeLacking hf ha) dX0_isReady_8 (rcv cok0 (by first | assumption | exact rfl | omega) (Nat.le_of_ble_eq_true rfl)) ⟨(Nat.le_of_ble_eq_true rfl), (Nat.le_of_ble_eq_true rfl), (Nat.le_of_ble_eq_true rfl), (Nat.le_of_ble_eq_true rfl)⟩ ?_
    refine R_if_ne (tgt := 18) dX0_isReady_11 rfl (fun c2 => ?_) (fun c2 => ?_)
    · refine R_iconst (v := 0) dX0_isReady_18 (by decide) ?_
      refine R_iret dX0_isReady_19 rfl (Nat.le_of_ble_eq_true rfl) (Nat.le_of_ble_eq_true rfl) ?_
      refine ⟨?_, rfl⟩
      simp_all [-Int32.not_lt, zb, fReady]
    · refine R_iconst (v := 1) dX0_isReady_14 (by decide) ?_
      refine R_goto (tgt := 19) dX0_isReady_15 rfl ?_
      refine R_iret dX0_isReady_19 rfl (Nat.le_of_ble_eq_true rfl) (Nat.le_of_ble_eq_true rfl) ?_
      refine ⟨?_, rfl⟩
      simp_all [-Int32.not_lt, zb, fReady]
theorem s_X0_price {l : Launch} (hf : l.stackTraces = false) {a : Nat} (ha : sK a = 0) : V_X0_price l [.ref a] (hp M r) (VI (fPrice M a) (hp M r)) := by
  refine VM.intro (lf := L9 (some (.ref a)) none none none none none none none none) (by decide +kernel) hf (fun _ => (Nat.le_of_ble_eq_true rfl)) (fun _ => rfl) ?_
  refine R_aload_n dX0_price_0 rfl rfl ?_
  refine G_get cok0 2 wf_X0_25 dX0_price_1 (by first | assumption | exact rfl | omega) ⟨(Nat.le_of_ble_eq_true rfl), (Nat.le_of_ble_eq_true rfl)⟩ rfl ?_
  refine R_iconst (v := 3) dX0_price_4 (by decide) ?_
  refine R_imul dX0_price_5 ?_
  refine R_aload_n dX0_price_6 rfl rfl ?_
  refine G_get cok0 3 wf_X0_29 dX0_price_7 (by first | assumption | exact rfl | omega) ⟨(Nat.le_of_ble_eq_true rfl), (Nat.le_of_ble_eq_true rfl)⟩ rfl ?_
  refine R_bipush (v := 6) dX0_price_10 (by decide) ?_
  refine R_icmp_gt (tgt := 22) dX0_price_12 rfl (fun c1 => ?_) (fun c1 => ?_)
  · refine R_iconst (v := 0) dX0_price_22 (by decide) ?_
    refine R_iadd dX0_price_23 ?_
    refine R_iret dX0_price_24 rfl (Nat.le_of_ble_eq_true rfl) (Nat.le_of_ble_eq_true rfl) ?_
    refine ⟨?_, rfl⟩
    simp_all [-Int32.not_lt, fPrice]
  · refine R_aload_n dX0_price_15 rfl rfl ?_
    refine G_get cok0 3 wf_X0_29 dX0_price_16 (by first | assumption | exact rfl | omega) ⟨(Nat.le_of_ble_eq_true rfl), (Nat.le_of_ble_eq_true rfl)⟩ rfl ?_
    refine R_goto (tgt := 23) dX0_price_19 rfl ?_
    refine R_iadd dX0_price_23 ?_
    refine R_iret dX0_price_24 rfl (Nat.le_of_ble_eq_true rfl) (Nat.le_of_ble_eq_true rfl) ?_
    refine ⟨?_, rfl⟩
    simp_all [-Int32.not_lt, fPrice]
theorem s_X0_moveTo {l : Launch} (hf : l.stackTraces = false) {a : Nat} {p q s : Int32} (ha : sK a = 0) : V_X0_moveTo l [.ref a, .int p, .int q, .int s] (hp M r) (VR none (hp (mst (mst (mst (mst M a 4 p) a 5 q) a 6 s) a 8 0) r)) := by
  refine VM.intro (lf := L9 (some (.ref a)) (some (.int p)) (some (.int q)) (some (.int s)) none none none none none) (by decide +kernel) hf (fun _ => (Nat.le_of_ble_eq_true rfl)) (fun _ => rfl) ?_
  refine R_aload_n dX0_moveTo_0 rfl rfl ?_
  refine R_iload_n dX0_moveTo_1 rfl rfl ?_
  refine G_put cok0 4 wf_X0_32 dX0_moveTo_2 (by first | assumption | exact rfl | omega) rfl ⟨(Nat.le_of_ble_eq_true rfl), rfl, (Nat.le_of_ble_eq_true rfl)⟩ ⟨rfl, rfl⟩ ?_
  refine R_aload_n dX0_moveTo_5 rfl rfl ?_
  refine R_iload_n dX0_moveTo_6 rfl rfl ?_
  refine G_put cok0 5 wf_X0_35 dX0_moveTo_7 (by first | assumption | exact rfl | omega) rfl ⟨(Nat.le_of_ble_eq_true rfl), rfl, (Nat.le_of_ble_eq_true rfl)⟩ ⟨rfl, rfl⟩ ?_
  refine R_aload_n dX0_moveTo_10 rfl rfl ?_
  refine R_iload_n dX0_moveTo_11 rfl rfl ?_
  refine G_put cok0 6 wf_X0_38 dX0_moveTo_12 (by first | assumption | exact rfl | omega) rfl ⟨(Nat.le_of_ble_eq_true rfl), rfl, (Nat.le_of_ble_eq_true rfl)⟩ ⟨rfl, rfl⟩ ?_
  refine R_aload_n dX0_moveTo_15 rfl rfl ?_
  refine R_iconst (v := 0) dX0_moveTo_16 (by decide) ?_
  refine G_put cok0 8 wf_X0_44 dX0_moveTo_17 (by first | assumption | exact rfl | omega) rfl ⟨(Nat.le_of_ble_eq_true rfl), rfl, (Nat.le_of_ble_eq_true rfl)⟩ ⟨rfl, rfl⟩ ?_
  refine R_vret dX0_moveTo_20 (Nat.le_of_ble_eq_true rfl) (Nat.le_of_ble_eq_true rfl) ?_
  exact ⟨rfl, rfl⟩
theorem s_X0_flip {l : Launch} (hf : l.stackTraces = false) {a : Nat} (ha : sK a = 0) : V_X0_flip l [.ref a] (hp M r) (VR none (hp (mst (mst M a 7 (1 - M a 7)) a 8 1) r)) := by
  refine VM.intro (lf := L9 (some (.ref a)) none none none none none none none none) (by decide +kernel) hf (fun _ => (Nat.le_of_ble_eq_true rfl)) (fun _ => rfl) ?_
  refine R_aload_n dX0_flip_0 rfl rfl ?_
  refine R_iconst (v := 1) dX0_flip_1 (by decide) ?_
  refine R_aload_n dX0_flip_2 rfl rfl ?_
  refine G_get cok0 7 wf_X0_41 dX0_flip_3 (by first | assumption | exact rfl | omega) ⟨(Nat.le_of_ble_eq_true rfl), (Nat.le_of_ble_eq_true rfl)⟩ rfl ?_
  refine R_isub dX0_flip_6 ?_
  refine G_put cok0 7 wf_X0_41 dX0_flip_7 (by first | assumption | exact rfl | omega) rfl ⟨(Nat.le_of_ble_eq_true rfl), rfl, (Nat.le_of_ble_eq_true rfl)⟩ ⟨rfl, rfl⟩ ?_
  refine R_aload_n dX0_flip_10 rfl rfl ?_
  refine R_iconst (v := 1) dX0_flip_11 (by decide) ?_
  refine G_put cok0 8 wf_X0_44 dX0_flip_12 (by first | assumption | exact rfl | omega) rfl ⟨(Nat.le_of_ble_eq_true rfl), rfl, (Nat.le_of_ble_eq_true rfl)⟩ ⟨rfl, rfl⟩ ?_
  refine R_vret dX0_flip_15 (Nat.le_of_ble_eq_true rfl) (Nat.le_of_ble_eq_true rfl) ?_
  exact ⟨rfl, rfl⟩
theorem s_X0_addSalt {l : Launch} (hf : l.stackTraces = false) {a : Nat} {v : Int32} (ha : sK a = 0) : V_X0_addSalt l [.ref a, .int v] (hp M r) (VR none (hp (mst M a 3 (am (M a 3 + v) 9)) r)) := by
  refine VM.intro (lf := L9 (some (.ref a)) (some (.int v)) none none none none none none none) (by decide +kernel) hf (fun _ => (Nat.le_of_ble_eq_true rfl)) (fun _ => rfl) ?_
  refine R_aload_n dX0_addSalt_0 rfl rfl ?_
  refine R_bipush (v := 9) dX0_addSalt_1 (by decide) ?_
  refine R_aload_n dX0_addSalt_3 rfl rfl ?_
  refine G_get cok0 3 wf_X0_29 dX0_addSalt_4 (by first | assumption | exact rfl | omega) ⟨(Nat.le_of_ble_eq_true rfl), (Nat.le_of_ble_eq_true rfl)⟩ rfl ?_
  refine R_iload_n dX0_addSalt_7 rfl rfl ?_
  refine R_iadd dX0_addSalt_8 ?_
  refine R_min wm_X0_55 wm_min dX0_addSalt_9 (Nat.le_of_ble_eq_true rfl) (Nat.le_of_ble_eq_true rfl) (Nat.le_of_ble_eq_true rfl) (Nat.le_of_ble_eq_true rfl) ?_
  refine G_put cok0 3 wf_X0_29 dX0_addSalt_12 (by first | assumption | exact rfl | omega) rfl ⟨(Nat.le_of_ble_eq_true rfl), rfl, (Nat.le_of_ble_eq_true rfl)⟩ ⟨rfl, rfl⟩ ?_
  refine R_vret dX0_addSalt_15 (Nat.le_of_ble_eq_true rfl) (Nat.le_of_ble_eq_true rfl) ?_
  exact ⟨rfl, rfl⟩
def fNum (M : MM) (a : Nat) (k : Int32) : Int32 := if k = 0 then M a 2 else if k = 1 then M a 3 else if k = 2 then M a 4 else if k = 3 then M a 5 else if k = 4 then M a 6 else if k = 5 then M a 7 else if k = 6 then (if M a 8 = 0 then 0 else 1) else if k = 7 then fBear M a else fGap M a
def fMea (M : MM) (a : Nat) (k : Int32) : Int32 := if k = 0 then M a 2 else if k = 1 then M a 3 else if k = 2 then M (a + 1) 0 + M (a + 2) 0 else if k = 3 then (if M (a + 1) 1 < M (a + 2) 1 then M (a + 2) 1 else M (a + 1) 1) else fPrice M a
def fbeg (M : MM) (a : Nat) (v : Int32) : MM := fun x k => if x = a ∧ 2 ≤ k ∧ k ≤ 8 then (if k = 2 then v else if k = 5 ∨ k = 6 then -1 else 0) else if (x = a + 1 ∨ x = a + 2) ∧ k < 2 then 0 else M x k
/-- an hour of one fish -/
def fspend (M : MM) (a s : Nat) (heat smoke : Int32) : MM := mst (if M a 8 = 0 ∧ fBear M a < heat then mst (mst M s 0 (am (M s 0 + smoke) 40)) s 1 (am (M s 1 + (heat - fBear M a)) 9) else mst M s 0 (am (M s 0 + smoke) 40)) a 8 0
abbrev dside (M : MM) (a : Nat) : Nat := if M a 7 = 0 then a + 1 else a + 2
theorem s_X0_number {l : Launch} (hf : l.stackTraces = false) {a : Nat} {k : Int32} (ha : sK a = 0) : V_X0_number l [.ref a, .int k] (hp M r) (VI (fNum M a k) (hp M r)) := by
  refine VM.intro (lf := L9 (some (.ref a)) (some (.int k)) none none none none none none none) (by decide +kernel) hf (fun _ => (Nat.le_of_ble_eq_true rfl)) (fun _ => rfl) ?_
  refine R_iload_n dX0_number_0 rfl rfl ?_
  by_cases e0 : k = 0
  · refine R_topE e0 ?_
    refine R_tableIn (tgt := 48) dX0_number_1 (by decide) (by decide) rfl rfl ?_
    refine R_aload_n dX0_number_48 rfl rfl ?_
    refine G_get cok0 2 wf_X0_25 dX0_number_49 (by first | assumption | exact rfl | omega) ⟨(Nat.le_of_ble_eq_true rfl), (Nat.le_of_ble_eq_true rfl)⟩ rfl ?_
    refine R_iret dX0_number_52 rfl (Nat.le_of_ble_eq_true rfl) (Nat.le_of_ble_eq_true rfl) ?_
    refine ⟨?_, rfl⟩
    simp_all [-Int32.not_lt, fNum]
  · by_cases e1 : k = 1
    · refine R_topE e1 ?_
      refine R_tableIn (tgt := 53) dX0_number_1 (by decide) (by decide) rfl rfl ?_
      refine R_aload_n dX0_number_53 rfl rfl ?_
      refine G_get cok0 3 wf_X0_29 dX0_number_54 (by first | assumption | exact rfl | omega) ⟨(Nat.le_of_ble_eq_true rfl), (Nat.le_of_ble_eq_true rfl)⟩ rfl ?_
      refine R_iret dX0_number_57 rfl (Nat.le_of_ble_eq_true rfl) (Nat.le_of_ble_eq_true rfl) ?_
      refine ⟨?_, rfl⟩
      simp_all [-Int32.not_lt, fNum]
    · by_cases e2 : k = 2
      · refine R_topE e2 ?_
        refine R_tableIn (tgt := 58) dX0_number_1 (by decide) (by decide) rfl rfl ?_
        refine R_aload_n dX0_number_58 rfl rfl ?_
        refine G_get cok0 4 wf_X0_32 dX0_number_59 (by first | assumption | exact rfl | omega) ⟨(Nat.le_of_ble_eq_true rfl), (Nat.le_of_ble_eq_true rfl)⟩ rfl ?_
        refine R_iret dX0_number_62 rfl (Nat.le_of_ble_eq_true rfl) (Nat.le_of_ble_eq_true rfl) ?_
        refine ⟨?_, rfl⟩
        simp_all [-Int32.not_lt, fNum]
      · by_cases e3 : k = 3
        · refine R_topE e3 ?_
          refine R_tableIn (tgt := 63) dX0_number_1 (by decide) (by decide) rfl rfl ?_
          refine R_aload_n dX0_number_63 rfl rfl ?_
          refine G_get cok0 5 wf_X0_35 dX0_number_64 (by first | assumption | exact rfl | omega) ⟨(Nat.le_of_ble_eq_true rfl), (Nat.le_of_ble_eq_true rfl)⟩ rfl ?_
          refine R_iret dX0_number_67 rfl (Nat.le_of_ble_eq_true rfl) (Nat.le_of_ble_eq_true rfl) ?_
          refine ⟨?_, rfl⟩
          simp_all [-Int32.not_lt, fNum]
        · by_cases e4 : k = 4
          · refine R_topE e4 ?_
            refine R_tableIn (tgt := 68) dX0_number_1 (by decide) (by decide) rfl rfl ?_
            refine R_aload_n dX0_number_68 rfl rfl ?_
            refine G_get cok0 6 wf_X0_38 dX0_number_69 (by first | assumption | exact rfl | omega) ⟨(Nat.le_of_ble_eq_true rfl), (Nat.le_of_ble_eq_true rfl)⟩ rfl ?_
            refine R_iret dX0_number_72 rfl (Nat.le_of_ble_eq_true rfl) (Nat.le_of_ble_eq_true rfl) ?_
            refine ⟨?_, rfl⟩
            simp_all [-Int32.not_lt, fNum]
          · by_cases e5 : k = 5
            · refine R_topE e5 ?_
              refine R_tableIn (tgt := 73) dX0_number_1 (by decide) (by decide) rfl rfl ?_
              refine R_aload_n dX0_number_73 rfl rfl ?_
              refine G_get cok0 7 wf_X0_41 dX0_number_74 (by first | assumption | exact rfl | omega) ⟨(Nat.le_of_ble_eq_true rfl), (Nat.le_of_ble_eq_true rfl)⟩ rfl ?_
              refine R_iret dX0_number_77 rfl (Nat.le_of_ble_eq_true rfl) (Nat.le_of_ble_eq_true rfl) ?_
              refine ⟨?_, rfl⟩
              simp_all [-Int32.not_lt, fNum]
            · by_cases e6 : k = 6
              · refine R_topE e6 ?_
                refine R_tableIn (tgt := 78) dX0_number_1 (by decide) (by decide) rfl rfl ?_
                refine R_aload_n dX0_number_78 rfl rfl ?_
                refine G_get cok0 8 wf_X0_44 dX0_number_79 (by first | assumption | exact rfl | omega) ⟨(Nat.le_of_ble_eq_true rfl), (Nat.le_of_ble_eq_true rfl)⟩ rfl ?_
                refine R_if_eq (tgt := 89) dX0_number_82 rfl (fun c1 => ?_) (fun c1 => ?_)
                · refine R_iconst (v := 0) dX0_number_89 (by decide) ?_
                  refine R_iret dX0_number_90 rfl (Nat.le_of_ble_eq_true rfl) (Nat.le_of_ble_eq_true rfl) ?_
                  refine ⟨?_, rfl⟩
                  simp_all [-Int32.not_lt, fNum]
                · refine R_iconst (v := 1) dX0_number_85 (by decide) ?_
                  refine R_goto (tgt := 90) dX0_number_86 rfl ?_
                  refine R_iret dX0_number_90 rfl (Nat.le_of_ble_eq_true rfl) (Nat.le_of_ble_eq_true rfl) ?_
                  refine ⟨?_, rfl⟩
                  simp_all [-Int32.not_lt, fNum]
              · by_cases e7 : k = 7
                · refine R_topE e7 ?_
                  refine R_tableIn (tgt := 91) dX0_number_1 (by decide) (by decide) rfl rfl ?_
                  refine R_aload_n dX0_number_91 rfl rfl ?_
                  refine G_cV0 cw_X0_69 (s_X0_heatBorne hf ha) dX0_number_92 (rcv cok0 (by first | assumption | exact rfl | omega) (Nat.le_of_ble_eq_true rfl)) ⟨(Nat.le_of_ble_eq_true rfl), (Nat.le_of_ble_eq_true rfl), (Nat.le_of_ble_eq_true rfl), (Nat.le_of_ble_eq_true rfl)⟩ ?_
                  refine R_iret dX0_number_95 rfl (Nat.le_of_ble_eq_true rfl) (Nat.le_of_ble_eq_true rfl) ?_
                  refine ⟨?_, rfl⟩
                  simp_all [-Int32.not_lt, fNum]
                · have t0 : (k).toInt ≠ 0 := fun e => e0 (Int32.toInt_inj.mp (by rw [e]; rfl))
                  have t1 : (k).toInt ≠ 1 := fun e => e1 (Int32.toInt_inj.mp (by rw [e]; rfl))
                  have t2 : (k).toInt ≠ 2 := fun e => e2 (Int32.toInt_inj.mp (by rw [e]; rfl))
                  have t3 : (k).toInt ≠ 3 := fun e => e3 (Int32.toInt_inj.mp (by rw [e]; rfl))
                  have t4 : (k).toInt ≠ 4 := fun e => e4 (Int32.toInt_inj.mp (by rw [e]; rfl))
                  have t5 : (k).toInt ≠ 5 := fun e => e5 (Int32.toInt_inj.mp (by rw [e]; rfl))
                  have t6 : (k).toInt ≠ 6 := fun e => e6 (Int32.toInt_inj.mp (by rw [e]; rfl))
                  have t7 : (k).toInt ≠ 7 := fun e => e7 (Int32.toInt_inj.mp (by rw [e]; rfl))
                  refine R_tableOut (tgt := 96) dX0_number_1 (by omega) rfl ?_
                  refine R_aload_n dX0_number_96 rfl rfl ?_
                  refine G_cV0 cw_X0_90 (s_X0_gapNeeded hf ha) dX0_number_97 (rcv cok0 (by first | assumption | exact rfl | omega) (Nat.le_of_ble_eq_true rfl)) ⟨(Nat.le_of_ble_eq_true rfl), (Nat.le_of_ble_eq_true rfl), (Nat.le_of_ble_eq_true rfl), (Nat.le_of_ble_eq_true rfl)⟩ ?_
                  refine R_iret dX0_number_100 rfl (Nat.le_of_ble_eq_true rfl) (Nat.le_of_ble_eq_true rfl) ?_
                  refine ⟨?_, rfl⟩
                  simp_all [-Int32.not_lt, fNum]
theorem s_X0_measured {l : Launch} (hf : l.stackTraces = false) {a : Nat} {k : Int32} (ha : sK a = 0) : V_X0_measured l [.ref a, .int k] (hp M r) (VI (fMea M a k) (hp M r)) := by
  have h1 := fish1 ha
  have h2 := fish2 ha
  refine VM.intro (lf := L9 (some (.ref a)) (some (.int k)) none none none none none none none) (by decide +kernel) hf (fun _ => (Nat.le_of_ble_eq_true rfl)) (fun _ => rfl) ?_
  refine R_iload_n dX0_measured_0 rfl rfl ?_
  by_cases e0 : k = 0
  · refine R_topE e0 ?_
    refine R_tableIn (tgt := 32) dX0_measured_1 (by decide) (by decide) rfl rfl ?_
    refine R_aload_n dX0_measured_32 rfl rfl ?_
    refine G_get cok0 2 wf_X0_25 dX0_measured_33 (by first | assumption | exact rfl | omega) ⟨(Nat.le_of_ble_eq_true rfl), (Nat.le_of_ble_eq_true rfl)⟩ rfl ?_
    refine R_iret dX0_measured_36 rfl (Nat.le_of_ble_eq_true rfl) (Nat.le_of_ble_eq_true rfl) ?_
    refine ⟨?_, rfl⟩
    simp_all [-Int32.not_lt, fMea]
  · by_cases e1 : k = 1
    · refine R_topE e1 ?_
      refine R_tableIn (tgt := 37) dX0_measured_1 (by decide) (by decide) rfl rfl ?_
      refine R_aload_n dX0_measured_37 rfl rfl ?_
      refine G_get cok0 3 wf_X0_29 dX0_measured_38 (by first | assumption | exact rfl | omega) ⟨(Nat.le_of_ble_eq_true rfl), (Nat.le_of_ble_eq_true rfl)⟩ rfl ?_
      refine R_iret dX0_measured_41 rfl (Nat.le_of_ble_eq_true rfl) (Nat.le_of_ble_eq_true rfl) ?_
      refine ⟨?_, rfl⟩
      simp_all [-Int32.not_lt, fMea]
    · by_cases e2 : k = 2
      · refine R_topE e2 ?_
        refine R_tableIn (tgt := 42) dX0_measured_1 (by decide) (by decide) rfl rfl ?_
        refine R_aload_n dX0_measured_42 rfl rfl ?_
        refine G_get cok0 0 wf_X0_12 dX0_measured_43 (by first | assumption | exact rfl | omega) ⟨(Nat.le_of_ble_eq_true rfl), (Nat.le_of_ble_eq_true rfl)⟩ rfl ?_
        refine G_get cok7 0 wf_X0_84 dX0_measured_46 (by first | assumption | exact rfl | omega) ⟨(Nat.le_of_ble_eq_true rfl), (Nat.le_of_ble_eq_true rfl)⟩ rfl ?_
        refine R_aload_n dX0_measured_49 rfl rfl ?_
        refine G_get cok0 1 wf_X0_18 dX0_measured_50 (by first | assumption | exact rfl | omega) ⟨(Nat.le_of_ble_eq_true rfl), (Nat.le_of_ble_eq_true rfl)⟩ rfl ?_
        refine G_get cok7 0 wf_X0_84 dX0_measured_53 (by first | assumption | exact rfl | omega) ⟨(Nat.le_of_ble_eq_true rfl), (Nat.le_of_ble_eq_true rfl)⟩ rfl ?_
        refine R_iadd dX0_measured_56 ?_
        refine R_iret dX0_measured_57 rfl (Nat.le_of_ble_eq_true rfl) (Nat.le_of_ble_eq_true rfl) ?_
        refine ⟨?_, rfl⟩
        simp_all [-Int32.not_lt, fMea]
      · by_cases e3 : k = 3
        · refine R_topE e3 ?_
          refine R_tableIn (tgt := 58) dX0_measured_1 (by decide) (by decide) rfl rfl ?_
          refine R_aload_n dX0_measured_58 rfl rfl ?_
          refine G_get cok0 0 wf_X0_12 dX0_measured_59 (by first | assumption | exact rfl | omega) ⟨(Nat.le_of_ble_eq_true rfl), (Nat.le_of_ble_eq_true rfl)⟩ rfl ?_
          refine G_get cok7 1 wf_X0_93 dX0_measured_62 (by first | assumption | exact rfl | omega) ⟨(Nat.le_of_ble_eq_true rfl), (Nat.le_of_ble_eq_true rfl)⟩ rfl ?_
          refine R_aload_n dX0_measured_65 rfl rfl ?_
          refine G_get cok0 1 wf_X0_18 dX0_measured_66 (by first | assumption | exact rfl | omega) ⟨(Nat.le_of_ble_eq_true rfl), (Nat.le_of_ble_eq_true rfl)⟩ rfl ?_
          refine G_get cok7 1 wf_X0_93 dX0_measured_69 (by first | assumption | exact rfl | omega) ⟨(Nat.le_of_ble_eq_true rfl), (Nat.le_of_ble_eq_true rfl)⟩ rfl ?_
          refine R_max wm_X0_87 wm_max dX0_measured_72 (Nat.le_of_ble_eq_true rfl) (Nat.le_of_ble_eq_true rfl) (Nat.le_of_ble_eq_true rfl) (Nat.le_of_ble_eq_true rfl) ?_
          refine R_iret dX0_measured_75 rfl (Nat.le_of_ble_eq_true rfl) (Nat.le_of_ble_eq_true rfl) ?_
          refine ⟨?_, rfl⟩
          simp_all [-Int32.not_lt, fMea]
        · have t0 : (k).toInt ≠ 0 := fun e => e0 (Int32.toInt_inj.mp (by rw [e]; rfl))
          have t1 : (k).toInt ≠ 1 := fun e => e1 (Int32.toInt_inj.mp (by rw [e]; rfl))
          have t2 : (k).toInt ≠ 2 := fun e => e2 (Int32.toInt_inj.mp (by rw [e]; rfl))
          have t3 : (k).toInt ≠ 3 := fun e => e3 (Int32.toInt_inj.mp (by rw [e]; rfl))
          refine R_tableOut (tgt := 76) dX0_measured_1 (by omega) rfl ?_
          refine R_aload_n dX0_measured_76 rfl rfl ?_
          refine G_cV0 cw_X0_96 (s_X0_price hf ha) dX0_measured_77 (rcv cok0 (by first | assumption | exact rfl | omega) (Nat.le_of_ble_eq_true rfl)) ⟨(Nat.le_of_ble_eq_true rfl), (Nat.le_of_ble_eq_true rfl), (Nat.le_of_ble_eq_true rfl), (Nat.le_of_ble_eq_true rfl)⟩ ?_
          refine R_iret dX0_measured_80 rfl (Nat.le_of_ble_eq_true rfl) (Nat.le_of_ble_eq_true rfl) ?_
          refine ⟨?_, rfl⟩
          simp_all [-Int32.not_lt, fMea]
theorem s_X0_begin {l : Launch} (hf : l.stackTraces = false) {a : Nat} {v : Int32} (ha : sK a = 0) : V_X0_begin l [.ref a, .int v] (hp M r) (VR none (hp (fbeg M a v) r)) := by
  have h1 := fish1 ha
  have h2 := fish2 ha
  refine VM.intro (lf := L9 (some (.ref a)) (some (.int v)) none none none none none none none) (by decide +kernel) hf (fun _ => (Nat.le_of_ble_eq_true rfl)) (fun _ => rfl) ?_
  refine R_aload_n dX0_begin_0 rfl rfl ?_
  refine G_get cok0 0 wf_X0_12 dX0_begin_1 (by first | assumption | exact rfl | omega) ⟨(Nat.le_of_ble_eq_true rfl), (Nat.le_of_ble_eq_true rfl)⟩ rfl ?_
  refine G_cV0v cw_X0_48 (s_X7_clear hf (by assumption)) dX0_begin_4 (rcv cok7 (by first | assumption | exact rfl | omega) (Nat.le_of_ble_eq_true rfl)) ⟨(Nat.le_of_ble_eq_true rfl), (Nat.le_of_ble_eq_true rfl), (Nat.le_of_ble_eq_true rfl), (Nat.le_of_ble_eq_true rfl)⟩ ?_
  refine R_aload_n dX0_begin_7 rfl rfl ?_
  refine G_get cok0 1 wf_X0_18 dX0_begin_8 (by first | assumption | exact rfl | omega) ⟨(Nat.le_of_ble_eq_true rfl), (Nat.le_of_ble_eq_true rfl)⟩ rfl ?_
  refine G_cV0v cw_X0_48 (s_X7_clear hf (by assumption)) dX0_begin_11 (rcv cok7 (by first | assumption | exact rfl | omega) (Nat.le_of_ble_eq_true rfl)) ⟨(Nat.le_of_ble_eq_true rfl), (Nat.le_of_ble_eq_true rfl), (Nat.le_of_ble_eq_true rfl), (Nat.le_of_ble_eq_true rfl)⟩ ?_
  refine R_aload_n dX0_begin_14 rfl rfl ?_
  refine R_iload_n dX0_begin_15 rfl rfl ?_
  refine G_put cok0 2 wf_X0_25 dX0_begin_16 (by first | assumption | exact rfl | omega) rfl ⟨(Nat.le_of_ble_eq_true rfl), rfl, (Nat.le_of_ble_eq_true rfl)⟩ ⟨rfl, rfl⟩ ?_
  refine R_aload_n dX0_begin_19 rfl rfl ?_
  refine R_iconst (v := 0) dX0_begin_20 (by decide) ?_
  refine G_put cok0 3 wf_X0_29 dX0_begin_21 (by first | assumption | exact rfl | omega) rfl ⟨(Nat.le_of_ble_eq_true rfl), rfl, (Nat.le_of_ble_eq_true rfl)⟩ ⟨rfl, rfl⟩ ?_
  refine R_aload_n dX0_begin_24 rfl rfl ?_
  refine R_iconst (v := 0) dX0_begin_25 (by decide) ?_
  refine G_put cok0 7 wf_X0_41 dX0_begin_26 (by first | assumption | exact rfl | omega) rfl ⟨(Nat.le_of_ble_eq_true rfl), rfl, (Nat.le_of_ble_eq_true rfl)⟩ ⟨rfl, rfl⟩ ?_
  refine R_aload_n dX0_begin_29 rfl rfl ?_
  refine R_iconst (v := 0) dX0_begin_30 (by decide) ?_
  refine R_iconst (v := (-1)) dX0_begin_31 (by decide) ?_
  refine R_iconst (v := (-1)) dX0_begin_32 (by decide) ?_
  refine G_cV3v cw_X0_51 (s_X0_moveTo hf ha) dX0_begin_33 (rcv cok0 (by first | assumption | exact rfl | omega) (Nat.le_of_ble_eq_true rfl)) ⟨(Nat.le_of_ble_eq_true rfl), (Nat.le_of_ble_eq_true rfl), (Nat.le_of_ble_eq_true rfl), (Nat.le_of_ble_eq_true rfl)⟩ ?_
  refine R_vret dX0_begin_36 (Nat.le_of_ble_eq_true rfl) (Nat.le_of_ble_eq_true rfl) ?_
  refine ⟨rfl, congrArg (fun z => hp z r) ?_⟩
  funext x k
  by_cases hx0 : x = a
  · subst hx0
    match k with
    | 0 => simp [fbeg, mst]
    | 1 => simp [fbeg, mst]
    | 2 => simp [fbeg, mst]
    | 3 => simp [fbeg, mst]
    | 4 => simp [fbeg, mst]
    | 5 => simp [fbeg, mst]
    | 6 => simp [fbeg, mst]
    | 7 => simp [fbeg, mst]
    | 8 => simp [fbeg, mst]
    | k + 9 => simp [fbeg, mst] <;> omega
  · skip
    by_cases hx1 : x = a + 1
    · subst hx1
      match k with
      | 0 => simp [fbeg, mst]
      | 1 => simp [fbeg, mst]
      | 2 => simp [fbeg, mst]
      | 3 => simp [fbeg, mst]
      | 4 => simp [fbeg, mst]
      | 5 => simp [fbeg, mst]
      | 6 => simp [fbeg, mst]
      | 7 => simp [fbeg, mst]
      | 8 => simp [fbeg, mst]
      | k + 9 => simp [fbeg, mst] <;> omega
    · skip
      by_cases hx2 : x = a + 2
      · subst hx2
        match k with
        | 0 => simp [fbeg, mst]
        | 1 => simp [fbeg, mst]
        | 2 => simp [fbeg, mst]
        | 3 => simp [fbeg, mst]
        | 4 => simp [fbeg, mst]
        | 5 => simp [fbeg, mst]
        | 6 => simp [fbeg, mst]
        | 7 => simp [fbeg, mst]
        | 8 => simp [fbeg, mst]
        | k + 9 => simp [fbeg, mst] <;> omega
      · skip
        simp [fbeg, mst, hx0, hx1, hx2]
theorem s_X0_spendHour {l : Launch} (hf : l.stackTraces = false) {a : Nat} {heat smoke : Int32} (ha : sK a = 0) : V_X0_spendHour l [.ref a, .int heat, .int smoke] (hp M r) (VR none (hp (fspend M a (dside M a) heat smoke) r)) := by
  have h1 := fish1 ha
  have h2 := fish2 ha
  obtain ⟨s, hs⟩ : ∃ s, s = dside M a := ⟨_, rfl⟩
  have hs7 : sK s = 7 := by rw [hs]; unfold dside; split <;> assumption
  have hsa : ¬ a = s := sK_ne ha hs7 (by decide)
  have hb : ∀ v, fBear (mst M s 0 v) a = fBear M a := fun v => by simp [fBear, mst, hsa]
  rw [← hs]
  refine VM.intro (lf := L9 (some (.ref a)) (some (.int heat)) (some (.int smoke)) none none none none none none) (by decide +kernel) hf (fun _ => (Nat.le_of_ble_eq_true rfl)) (fun _ => rfl) ?_
  refine R_aload_n dX0_spendHour_0 rfl rfl ?_
  refine R_aload_n dX0_spendHour_1 rfl rfl ?_
  refine G_get cok0 7 wf_X0_41 dX0_spendHour_2 (by first | assumption | exact rfl | omega) ⟨(Nat.le_of_ble_eq_true rfl), (Nat.le_of_ble_eq_true rfl)⟩ rfl ?_
  refine G_cV1 cw_X0_61 (show VD l _ _ _ _ _ _ _ (some (.ref s)) _ by rw [hs]; exact s_X0_side hf ha) dX0_spendHour_5 (rcv cok0 (by first | assumption | exact rfl | omega) (Nat.le_of_ble_eq_true rfl)) ⟨(Nat.le_of_ble_eq_true rfl), (Nat.le_of_ble_eq_true rfl), (Nat.le_of_ble_eq_true rfl), (Nat.le_of_ble_eq_true rfl)⟩ ?_
  refine R_astore_n dX0_spendHour_8 rfl (by decide) (st3 rfl) ?_
  refine R_aload_n dX0_spendHour_9 rfl rfl ?_
  refine R_iload_n dX0_spendHour_10 rfl rfl ?_
  refine G_cV1v cw_X0_65 (s_X7_addSmoke hf hs7) dX0_spendHour_11 (rcv cok7 (by first | assumption | exact rfl | omega) (Nat.le_of_ble_eq_true rfl)) ⟨(Nat.le_of_ble_eq_true rfl), (Nat.le_of_ble_eq_true rfl), (Nat.le_of_ble_eq_true rfl), (Nat.le_of_ble_eq_true rfl)⟩ ?_
  refine R_aload_n dX0_spendHour_14 rfl rfl ?_
  refine G_get cok0 8 wf_X0_44 dX0_spendHour_15 (by first | assumption | exact rfl | omega) ⟨(Nat.le_of_ble_eq_true rfl), (Nat.le_of_ble_eq_true rfl)⟩ rfl ?_
  refine R_if_ne (tgt := 39) dX0_spendHour_18 rfl (fun c1 => ?_) (fun c1 => ?_)
  · refine R_aload_n dX0_spendHour_39 rfl rfl ?_
    refine R_iconst (v := 0) dX0_spendHour_40 (by decide) ?_
    refine G_put cok0 8 wf_X0_44 dX0_spendHour_41 (by first | assumption | exact rfl | omega) rfl ⟨(Nat.le_of_ble_eq_true rfl), rfl, (Nat.le_of_ble_eq_true rfl)⟩ ⟨rfl, rfl⟩ ?_
    refine R_vret dX0_spendHour_44 (Nat.le_of_ble_eq_true rfl) (Nat.le_of_ble_eq_true rfl) ?_
    refine ⟨rfl, congrArg (fun z => hp z r) ?_⟩
    simp_all [-Int32.not_lt, fspend, mst_ne1, mst_ne2]
  · refine R_iload_n dX0_spendHour_21 rfl rfl ?_
    refine R_aload_n dX0_spendHour_22 rfl rfl ?_
    refine G_cV0 cw_X0_69 (s_X0_heatBorne hf ha) dX0_spendHour_23 (rcv cok0 (by first | assumption | exact rfl | omega) (Nat.le_of_ble_eq_true rfl)) ⟨(Nat.le_of_ble_eq_true rfl), (Nat.le_of_ble_eq_true rfl), (Nat.le_of_ble_eq_true rfl), (Nat.le_of_ble_eq_true rfl)⟩ ?_
    refine R_icmp_leN (tgt := 39) dX0_spendHour_26 rfl (fun c2 => ?_) (fun c2 => ?_)
    · refine R_aload_n dX0_spendHour_39 rfl rfl ?_
      refine R_iconst (v := 0) dX0_spendHour_40 (by decide) ?_
      refine G_put cok0 8 wf_X0_44 dX0_spendHour_41 (by first | assumption | exact rfl | omega) rfl ⟨(Nat.le_of_ble_eq_true rfl), rfl, (Nat.le_of_ble_eq_true rfl)⟩ ⟨rfl, rfl⟩ ?_
      refine R_vret dX0_spendHour_44 (Nat.le_of_ble_eq_true rfl) (Nat.le_of_ble_eq_true rfl) ?_
      refine ⟨rfl, congrArg (fun z => hp z r) ?_⟩
      simp_all [-Int32.not_lt, fspend, mst_ne1, mst_ne2]
    · refine R_aload_n dX0_spendHour_29 rfl rfl ?_
      refine R_iload_n dX0_spendHour_30 rfl rfl ?_
      refine R_aload_n dX0_spendHour_31 rfl rfl ?_
      refine G_cV0 cw_X0_69 (s_X0_heatBorne hf ha) dX0_spendHour_32 (rcv cok0 (by first | assumption | exact rfl | omega) (Nat.le_of_ble_eq_true rfl)) ⟨(Nat.le_of_ble_eq_true rfl), (Nat.le_of_ble_eq_true rfl), (Nat.le_of_ble_eq_true rfl), (Nat.le_of_ble_eq_true rfl)⟩ ?_
      refine R_isub dX0_spendHour_35 ?_
      refine G_cV1v cw_X0_73 (s_X7_addChar hf hs7) dX0_spendHour_36 (rcv cok7 (by first | assumption | exact rfl | omega) (Nat.le_of_ble_eq_true rfl)) ⟨(Nat.le_of_ble_eq_true rfl), (Nat.le_of_ble_eq_true rfl), (Nat.le_of_ble_eq_true rfl), (Nat.le_of_ble_eq_true rfl)⟩ ?_
      refine R_aload_n dX0_spendHour_39 rfl rfl ?_
      refine R_iconst (v := 0) dX0_spendHour_40 (by decide) ?_
      refine G_put cok0 8 wf_X0_44 dX0_spendHour_41 (by first | assumption | exact rfl | omega) rfl ⟨(Nat.le_of_ble_eq_true rfl), rfl, (Nat.le_of_ble_eq_true rfl)⟩ ⟨rfl, rfl⟩ ?_
      refine R_vret dX0_spendHour_44 (Nat.le_of_ble_eq_true rfl) (Nat.le_of_ble_eq_true rfl) ?_
      refine ⟨rfl, congrArg (fun z => hp z r) ?_⟩
      simp_all [-Int32.not_lt, fspend, mst_ne1, mst_ne2]
theorem s_X0_copyFrom {l : Launch} (hf : l.stackTraces = false) {a b : Nat} (ha : sK a = 0) (hb : sK b = 0) (hab : a ≠ b) (hz : M b 8 = 0 ∨ M b 8 = 1) : V_X0_copyFrom l [.ref a, .ref b] (hp M r) (VR none (hp (fcp M a b) r)) := by
  have h1 := fish1 ha
  have h2 := fish2 ha
  have h3 := fish1 hb
  have h4 := fish2 hb
  have n1 : ¬ b = a + 1 := sK_ne hb h1 (by decide)
  have n2 : ¬ b = a + 2 := sK_ne hb h2 (by decide)
  have n3 : ¬ a = b + 1 := sK_ne ha h3 (by decide)
  have n4 : ¬ a = b + 2 := sK_ne ha h4 (by decide)
  have n5 : ¬ b = a := fun e => hab e.symm
  have n6 : ¬ a + 1 = b + 2 := fun e => by omega
  have n7 : ¬ b + 2 = a + 1 := fun e => by omega
  refine VM.intro (lf := L9 (some (.ref a)) (some (.ref b)) none none none none none none none) (by decide +kernel) hf (fun _ => (Nat.le_of_ble_eq_true rfl)) (fun _ => rfl) ?_
  refine R_aload_n dX0_copyFrom_0 rfl rfl ?_
  refine G_get cok0 0 wf_X0_12 dX0_copyFrom_1 (by first | assumption | exact rfl | omega) ⟨(Nat.le_of_ble_eq_true rfl), (Nat.le_of_ble_eq_true rfl)⟩ rfl ?_
  refine R_aload_n dX0_copyFrom_4 rfl rfl ?_
  refine G_get cok0 0 wf_X0_12 dX0_copyFrom_5 (by first | assumption | exact rfl | omega) ⟨(Nat.le_of_ble_eq_true rfl), (Nat.le_of_ble_eq_true rfl)⟩ rfl ?_
  refine G_cV1v cw_X0_21 (s_X7_copyFrom hf (by assumption) (by assumption)) dX0_copyFrom_8 (rcv cok7 (by first | assumption | exact rfl | omega) (Nat.le_of_ble_eq_true rfl)) ⟨(Nat.le_of_ble_eq_true rfl), (Nat.le_of_ble_eq_true rfl), (Nat.le_of_ble_eq_true rfl), (Nat.le_of_ble_eq_true rfl)⟩ ?_
  refine R_aload_n dX0_copyFrom_11 rfl rfl ?_
  refine G_get cok0 1 wf_X0_18 dX0_copyFrom_12 (by first | assumption | exact rfl | omega) ⟨(Nat.le_of_ble_eq_true rfl), (Nat.le_of_ble_eq_true rfl)⟩ rfl ?_
  refine R_aload_n dX0_copyFrom_15 rfl rfl ?_
  refine G_get cok0 1 wf_X0_18 dX0_copyFrom_16 (by first | assumption | exact rfl | omega) ⟨(Nat.le_of_ble_eq_true rfl), (Nat.le_of_ble_eq_true rfl)⟩ rfl ?_
  refine G_cV1v cw_X0_21 (s_X7_copyFrom hf (by assumption) (by assumption)) dX0_copyFrom_19 (rcv cok7 (by first | assumption | exact rfl | omega) (Nat.le_of_ble_eq_true rfl)) ⟨(Nat.le_of_ble_eq_true rfl), (Nat.le_of_ble_eq_true rfl), (Nat.le_of_ble_eq_true rfl), (Nat.le_of_ble_eq_true rfl)⟩ ?_
  refine R_aload_n dX0_copyFrom_22 rfl rfl ?_
  refine R_aload_n dX0_copyFrom_23 rfl rfl ?_
  refine G_get cok0 2 wf_X0_25 dX0_copyFrom_24 (by first | assumption | exact rfl | omega) ⟨(Nat.le_of_ble_eq_true rfl), (Nat.le_of_ble_eq_true rfl)⟩ rfl ?_
  refine G_put cok0 2 wf_X0_25 dX0_copyFrom_27 (by first | assumption | exact rfl | omega) rfl ⟨(Nat.le_of_ble_eq_true rfl), rfl, (Nat.le_of_ble_eq_true rfl)⟩ ⟨rfl, rfl⟩ ?_
  refine R_aload_n dX0_copyFrom_30 rfl rfl ?_
  refine R_aload_n dX0_copyFrom_31 rfl rfl ?_
  refine G_get cok0 3 wf_X0_29 dX0_copyFrom_32 (by first | assumption | exact rfl | omega) ⟨(Nat.le_of_ble_eq_true rfl), (Nat.le_of_ble_eq_true rfl)⟩ rfl ?_
  refine G_put cok0 3 wf_X0_29 dX0_copyFrom_35 (by first | assumption | exact rfl | omega) rfl ⟨(Nat.le_of_ble_eq_true rfl), rfl, (Nat.le_of_ble_eq_true rfl)⟩ ⟨rfl, rfl⟩ ?_
  refine R_aload_n dX0_copyFrom_38 rfl rfl ?_
  refine R_aload_n dX0_copyFrom_39 rfl rfl ?_
  refine G_get cok0 4 wf_X0_32 dX0_copyFrom_40 (by first | assumption | exact rfl | omega) ⟨(Nat.le_of_ble_eq_true rfl), (Nat.le_of_ble_eq_true rfl)⟩ rfl ?_
  refine G_put cok0 4 wf_X0_32 dX0_copyFrom_43 (by first | assumption | exact rfl | omega) rfl ⟨(Nat.le_of_ble_eq_true rfl), rfl, (Nat.le_of_ble_eq_true rfl)⟩ ⟨rfl, rfl⟩ ?_
  refine R_aload_n dX0_copyFrom_46 rfl rfl ?_
  refine R_aload_n dX0_copyFrom_47 rfl rfl ?_
  refine G_get cok0 5 wf_X0_35 dX0_copyFrom_48 (by first | assumption | exact rfl | omega) ⟨(Nat.le_of_ble_eq_true rfl), (Nat.le_of_ble_eq_true rfl)⟩ rfl ?_
  refine G_put cok0 5 wf_X0_35 dX0_copyFrom_51 (by first | assumption | exact rfl | omega) rfl ⟨(Nat.le_of_ble_eq_true rfl), rfl, (Nat.le_of_ble_eq_true rfl)⟩ ⟨rfl, rfl⟩ ?_
  refine R_aload_n dX0_copyFrom_54 rfl rfl ?_
  refine R_aload_n dX0_copyFrom_55 rfl rfl ?_
  refine G_get cok0 6 wf_X0_38 dX0_copyFrom_56 (by first | assumption | exact rfl | omega) ⟨(Nat.le_of_ble_eq_true rfl), (Nat.le_of_ble_eq_true rfl)⟩ rfl ?_
  refine G_put cok0 6 wf_X0_38 dX0_copyFrom_59 (by first | assumption | exact rfl | omega) rfl ⟨(Nat.le_of_ble_eq_true rfl), rfl, (Nat.le_of_ble_eq_true rfl)⟩ ⟨rfl, rfl⟩ ?_
  refine R_aload_n dX0_copyFrom_62 rfl rfl ?_
  refine R_aload_n dX0_copyFrom_63 rfl rfl ?_
  refine G_get cok0 7 wf_X0_41 dX0_copyFrom_64 (by first | assumption | exact rfl | omega) ⟨(Nat.le_of_ble_eq_true rfl), (Nat.le_of_ble_eq_true rfl)⟩ rfl ?_
  refine G_put cok0 7 wf_X0_41 dX0_copyFrom_67 (by first | assumption | exact rfl | omega) rfl ⟨(Nat.le_of_ble_eq_true rfl), rfl, (Nat.le_of_ble_eq_true rfl)⟩ ⟨rfl, rfl⟩ ?_
  refine R_aload_n dX0_copyFrom_70 rfl rfl ?_
  refine R_aload_n dX0_copyFrom_71 rfl rfl ?_
  refine G_get cok0 8 wf_X0_44 dX0_copyFrom_72 (by first | assumption | exact rfl | omega) ⟨(Nat.le_of_ble_eq_true rfl), (Nat.le_of_ble_eq_true rfl)⟩ rfl ?_
  refine G_put cok0 8 wf_X0_44 dX0_copyFrom_75 (by first | assumption | exact rfl | omega) rfl ⟨(Nat.le_of_ble_eq_true rfl), rfl, (Nat.le_of_ble_eq_true rfl)⟩ (nb01 (by simpa [scp, mst, n1, n2, n5] using hz)) ?_
  refine R_vret dX0_copyFrom_78 (Nat.le_of_ble_eq_true rfl) (Nat.le_of_ble_eq_true rfl) ?_
  refine ⟨rfl, congrArg (fun z => hp z r) ?_⟩
  funext x k
  by_cases hx0 : x = a
  · subst hx0
    match k with
    | 0 => simp [fcp, scp, mst, n1, n2, n5, n7]
    | 1 => simp [fcp, scp, mst, n1, n2, n5, n7]
    | 2 => simp [fcp, scp, mst, n1, n2, n5, n7]
    | 3 => simp [fcp, scp, mst, n1, n2, n5, n7]
    | 4 => simp [fcp, scp, mst, n1, n2, n5, n7]
    | 5 => simp [fcp, scp, mst, n1, n2, n5, n7]
    | 6 => simp [fcp, scp, mst, n1, n2, n5, n7]
    | 7 => simp [fcp, scp, mst, n1, n2, n5, n7]
    | 8 => simp [fcp, scp, mst, n1, n2, n5, n7]
    | k + 9 => simp [fcp, scp, mst, n1, n2, n5, n7] <;> omega
  · skip
    by_cases hx1 : x = a + 1
    · subst hx1
      match k with
      | 0 => simp [fcp, scp, mst, n1, n2, n5, n7]
      | 1 => simp [fcp, scp, mst, n1, n2, n5, n7]
      | 2 => simp [fcp, scp, mst, n1, n2, n5, n7]
      | 3 => simp [fcp, scp, mst, n1, n2, n5, n7]
      | 4 => simp [fcp, scp, mst, n1, n2, n5, n7]
      | 5 => simp [fcp, scp, mst, n1, n2, n5, n7]
      | 6 => simp [fcp, scp, mst, n1, n2, n5, n7]
      | 7 => simp [fcp, scp, mst, n1, n2, n5, n7]
      | 8 => simp [fcp, scp, mst, n1, n2, n5, n7]
      | k + 9 => simp [fcp, scp, mst, n1, n2, n5, n7] <;> omega
    · skip
      by_cases hx2 : x = a + 2
      · subst hx2
        match k with
        | 0 => simp [fcp, scp, mst, n1, n2, n5, n7]
        | 1 => simp [fcp, scp, mst, n1, n2, n5, n7]
        | 2 => simp [fcp, scp, mst, n1, n2, n5, n7]
        | 3 => simp [fcp, scp, mst, n1, n2, n5, n7]
        | 4 => simp [fcp, scp, mst, n1, n2, n5, n7]
        | 5 => simp [fcp, scp, mst, n1, n2, n5, n7]
        | 6 => simp [fcp, scp, mst, n1, n2, n5, n7]
        | 7 => simp [fcp, scp, mst, n1, n2, n5, n7]
        | 8 => simp [fcp, scp, mst, n1, n2, n5, n7]
        | k + 9 => simp [fcp, scp, mst, n1, n2, n5, n7] <;> omega
      · skip
        simp [fcp, scp, mst, hx0, hx1, hx2]
end P10
