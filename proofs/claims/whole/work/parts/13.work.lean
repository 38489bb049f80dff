abbrev V_X2_keep (l : Launch) (As : List Value) (h : HP) (Z : Option Value ⊕ String → HP → Prop) : Prop := VM l yX2_keep cX2_keep 4 none 3 0 0 As h Z
abbrev Q_X2_keep (l : Launch) (Z : Option Value ⊕ String → HP → Prop) (pc : Nat) (lf : Nat → Option Value) (st : List Value) (h : HP) : Prop := Q l RX2 cX2_keep 4 3 0 0 (GM none 0 0 Z) pc lf st h 0 0
abbrev V_X2_takeBack (l : Launch) (As : List Value) (h : HP) (Z : Option Value ⊕ String → HP → Prop) : Prop := VM l yX2_takeBack cX2_takeBack 4 none 3 0 0 As h Z
abbrev Q_X2_takeBack (l : Launch) (Z : Option Value ⊕ String → HP → Prop) (pc : Nat) (lf : Nat → Option Value) (st : List Value) (h : HP) : Prop := Q l RX2 cX2_takeBack 4 3 0 0 (GM none 0 0 Z) pc lf st h 0 0
abbrev V_X2_forget (l : Launch) (As : List Value) (h : HP) (Z : Option Value ⊕ String → HP → Prop) : Prop := VM l yX2_forget cX2_forget 1 none 0 0 0 As h Z
abbrev Q_X2_forget (l : Launch) (Z : Option Value ⊕ String → HP → Prop) (pc : Nat) (lf : Nat → Option Value) (st : List Value) (h : HP) : Prop := Q l RX2 cX2_forget 1 0 0 0 (GM none 0 0 Z) pc lf st h 0 0
abbrev V_X5_keep (l : Launch) (As : List Value) (h : HP) (Z : Option Value ⊕ String → HP → Prop) : Prop := VM l yX5_keep cX5_keep 3 (some .int) 0 0 0 As h Z
abbrev Q_X5_keep (l : Launch) (Z : Option Value ⊕ String → HP → Prop) (pc : Nat) (lf : Nat → Option Value) (st : List Value) (h : HP) : Prop := Q l RX5 cX5_keep 3 0 0 0 (GM (some .int) 0 0 Z) pc lf st h 0 0
abbrev V_X5_number (l : Launch) (As : List Value) (h : HP) (Z : Option Value ⊕ String → HP → Prop) : Prop := VM l yX5_number cX5_number 2 (some .int) 0 0 0 As h Z
abbrev Q_X5_number (l : Launch) (Z : Option Value ⊕ String → HP → Prop) (pc : Nat) (lf : Nat → Option Value) (st : List Value) (h : HP) : Prop := Q l RX5 cX5_number 2 0 0 0 (GM (some .int) 0 0 Z) pc lf st h 0 0
abbrev V_X8_letCome (l : Launch) (As : List Value) (h : HP) (Z : Option Value ⊕ String → HP → Prop) : Prop := VM l yX8_letCome cX8_letCome 2 (some .int) 3 0 0 As h Z
abbrev Q_X8_letCome (l : Launch) (Z : Option Value ⊕ String → HP → Prop) (pc : Nat) (lf : Nat → Option Value) (st : List Value) (h : HP) : Prop := Q l RX8 cX8_letCome 2 3 0 0 (GM (some .int) 0 0 Z) pc lf st h 0 0
abbrev V_X8_layIntoBrine (l : Launch) (As : List Value) (h : HP) (Z : Option Value ⊕ String → HP → Prop) : Prop := VM l yX8_layIntoBrine cX8_layIntoBrine 3 (some .int) 2 0 0 As h Z
abbrev Q_X8_layIntoBrine (l : Launch) (Z : Option Value ⊕ String → HP → Prop) (pc : Nat) (lf : Nat → Option Value) (st : List Value) (h : HP) : Prop := Q l RX8 cX8_layIntoBrine 3 2 0 0 (GM (some .int) 0 0 Z) pc lf st h 0 0
abbrev V_X8_takeOut (l : Launch) (As : List Value) (h : HP) (Z : Option Value ⊕ String → HP → Prop) : Prop := VM l yX8_takeOut cX8_takeOut 3 (some .int) 1 0 0 As h Z
abbrev Q_X8_takeOut (l : Launch) (Z : Option Value ⊕ String → HP → Prop) (pc : Nat) (lf : Nat → Option Value) (st : List Value) (h : HP) : Prop := Q l RX8 cX8_takeOut 3 1 0 0 (GM (some .int) 0 0 Z) pc lf st h 0 0
abbrev V_X8_hangUp (l : Launch) (As : List Value) (h : HP) (Z : Option Value ⊕ String → HP → Prop) : Prop := VM l yX8_hangUp cX8_hangUp 6 (some .int) 2 0 0 As h Z
abbrev Q_X8_hangUp (l : Launch) (Z : Option Value ⊕ String → HP → Prop) (pc : Nat) (lf : Nat → Option Value) (st : List Value) (h : HP) : Prop := Q l RX8 cX8_hangUp 6 2 0 0 (GM (some .int) 0 0 Z) pc lf st h 0 0
abbrev V_X8_turnOver (l : Launch) (As : List Value) (h : HP) (Z : Option Value ⊕ String → HP → Prop) : Prop := VM l yX8_turnOver cX8_turnOver 3 (some .int) 1 0 0 As h Z
abbrev Q_X8_turnOver (l : Launch) (Z : Option Value ⊕ String → HP → Prop) (pc : Nat) (lf : Nat → Option Value) (st : List Value) (h : HP) : Prop := Q l RX8 cX8_turnOver 3 1 0 0 (GM (some .int) 0 0 Z) pc lf st h 0 0
abbrev V_X8_turnRack (l : Launch) (As : List Value) (h : HP) (Z : Option Value ⊕ String → HP → Prop) : Prop := VM l yX8_turnRack cX8_turnRack 5 (some .int) 2 0 0 As h Z
abbrev Q_X8_turnRack (l : Launch) (Z : Option Value ⊕ String → HP → Prop) (pc : Nat) (lf : Nat → Option Value) (st : List Value) (h : HP) : Prop := Q l RX8 cX8_turnRack 5 2 0 0 (GM (some .int) 0 0 Z) pc lf st h 0 0
abbrev V_X8_layLogs (l : Launch) (As : List Value) (h : HP) (Z : Option Value ⊕ String → HP → Prop) : Prop := VM l yX8_layLogs cX8_layLogs 2 (some .int) 1 0 0 As h Z
abbrev Q_X8_layLogs (l : Launch) (Z : Option Value ⊕ String → HP → Prop) (pc : Nat) (lf : Nat → Option Value) (st : List Value) (h : HP) : Prop := Q l RX8 cX8_layLogs 2 1 0 0 (GM (some .int) 0 0 Z) pc lf st h 0 0
abbrev V_X8_tellWood (l : Launch) (As : List Value) (h : HP) (Z : Option Value ⊕ String → HP → Prop) : Prop := VM l yX8_tellWood cX8_tellWood 3 (some .int) 1 0 0 As h Z
abbrev Q_X8_tellWood (l : Launch) (Z : Option Value ⊕ String → HP → Prop) (pc : Nat) (lf : Nat → Option Value) (st : List Value) (h : HP) : Prop := Q l RX8 cX8_tellWood 3 1 0 0 (GM (some .int) 0 0 Z) pc lf st h 0 0
abbrev V_X8_passDay (l : Launch) (As : List Value) (h : HP) (Z : Option Value ⊕ String → HP → Prop) : Prop := VM l yX8_passDay cX8_passDay 3 (some .int) 2 0 0 As h Z
abbrev Q_X8_passDay (l : Launch) (Z : Option Value ⊕ String → HP → Prop) (pc : Nat) (lf : Nat → Option Value) (st : List Value) (h : HP) : Prop := Q l RX8 cX8_passDay 3 2 0 0 (GM (some .int) 0 0 Z) pc lf st h 0 0
abbrev V_X8_passHours (l : Launch) (As : List Value) (h : HP) (Z : Option Value ⊕ String → HP → Prop) : Prop := VM l yX8_passHours cX8_passHours 3 (some .int) 5 0 0 As h Z
abbrev Q_X8_passHours (l : Launch) (Z : Option Value ⊕ String → HP → Prop) (pc : Nat) (lf : Nat → Option Value) (st : List Value) (h : HP) : Prop := Q l RX8 cX8_passHours 3 5 0 0 (GM (some .int) 0 0 Z) pc lf st h 0 0
abbrev V_X8_sellOff (l : Launch) (As : List Value) (h : HP) (Z : Option Value ⊕ String → HP → Prop) : Prop := VM l yX8_sellOff cX8_sellOff 4 (some .int) 3 0 0 As h Z
abbrev Q_X8_sellOff (l : Launch) (Z : Option Value ⊕ String → HP → Prop) (pc : Nat) (lf : Nat → Option Value) (st : List Value) (h : HP) : Prop := Q l RX8 cX8_sellOff 4 3 0 0 (GM (some .int) 0 0 Z) pc lf st h 0 0
abbrev V_X8_discard (l : Launch) (As : List Value) (h : HP) (Z : Option Value ⊕ String → HP → Prop) : Prop := VM l yX8_discard cX8_discard 3 (some .int) 3 0 0 As h Z
abbrev Q_X8_discard (l : Launch) (Z : Option Value ⊕ String → HP → Prop) (pc : Nat) (lf : Nat → Option Value) (st : List Value) (h : HP) : Prop := Q l RX8 cX8_discard 3 3 0 0 (GM (some .int) 0 0 Z) pc lf st h 0 0
abbrev V_X8_carryOut (l : Launch) (As : List Value) (h : HP) (Z : Option Value ⊕ String → HP → Prop) : Prop := VM l yX8_carryOut cX8_carryOut 2 (some .int) 6 0 0 As h Z
abbrev Q_X8_carryOut (l : Launch) (Z : Option Value ⊕ String → HP → Prop) (pc : Nat) (lf : Nat → Option Value) (st : List Value) (h : HP) : Prop := Q l RX8 cX8_carryOut 2 6 0 0 (GM (some .int) 0 0 Z) pc lf st h 0 0
theorem isH1 : isH 1 := rfl
abbrev fa (k : Nat) : Nat := 6 + 3 * k
abbrev fx (x : Int32) : Nat := 6 + 3 * x.toNatClampNeg
def ksR (M : MM) (why det : Int32) : MM := mst (mst (mst (mst M 454 0 1) 454 2 why) 454 3 det) 454 4 (M 454 1)
abbrev mvT (M : MM) (a : Nat) (p q s : Int32) : MM := mst (mst (mst (mst M a 4 p) a 5 q) a 6 s) a 8 0
abbrev flp (M : MM) (a : Nat) : MM := mst (mst M a 7 (1 - M a 7)) a 8 1
abbrev cntIn (M : MM) (p : Int32) (n : Nat) : Int32 := itN (fun i s => s + (if M (6 + 3 * i) 4 = p then 1 else 0)) 0 n
abbrev cntRk (M : MM) (p : Int32) (n : Nat) : Int32 := itN (fun i s => s + (if M (6 + 3 * i) 5 = p then 1 else 0)) 0 n
abbrev cntBu (M : MM) (n : Nat) : Int32 := itN (fun i s => s + (if zb (fBurnt M (6 + 3 * i)) = 0 then 0 else 1)) 0 n
abbrev sumSa (M : MM) (n : Nat) : Int32 := itN (fun i s => s + (if M (6 + 3 * i) 4 = 1 then M (6 + 3 * i) 3 else 0)) 0 n
def turR (M : MM) (p : Int32) (i : Nat) : MM := itN (fun i M => if M (6 + 3 * i) 5 = p then flp M (6 + 3 * i) else M) M i
def dayR (M : MM) (i : Nat) : MM := itN (fun i M => if M (6 + 3 * i) 4 = 1 then mst M (6 + 3 * i) 3 (am (M (6 + 3 * i) 3 + 2) 9) else M) M i
def hrsR (M : MM) (n i : Nat) : MM := itN (fun _ M => hour M 1 n) M i
theorem mst_fn {M : MM} {a k b : Nat} {x : Int32} (h : b ≠ a) : mst M a k x b = M b := funext fun _ => mst_ne1 h
theorem turR_fr {M : MM} {p : Int32} {x : Nat} : ∀ (i : Nat), x < 6 ∨ 6 + 3 * i ≤ x → turR M p i x = M x
  | 0, _ => rfl
  | i + 1, h => by
    show (if turR M p i (6 + 3 * i) 5 = p then flp (turR M p i) (6 + 3 * i) else turR M p i) x = _
    split
    · show mst (mst (turR M p i) _ 7 _) _ 8 _ x = _
      rw [mst_fn (by omega), mst_fn (by omega)]
      exact turR_fr i (by omega)
    · exact turR_fr i (by omega)
theorem dayR_fr {M : MM} {x : Nat} : ∀ (i : Nat), x < 6 ∨ 6 + 3 * i ≤ x → dayR M i x = M x
  | 0, _ => rfl
  | i + 1, h => by
    show (if dayR M i (6 + 3 * i) 4 = 1 then mst (dayR M i) (6 + 3 * i) 3 (am (dayR M i (6 + 3 * i) 3 + 2) 9) else dayR M i) x = _
    split
    · rw [mst_fn (by omega)]; exact dayR_fr i (by omega)
    · exact dayR_fr i (by omega)
theorem hour_n {M : MM} {n : Nat} : hour M 1 n 1 2 = M 1 2 := by
  unfold hour
  rw [mst_ne2 (by decide), mst_ne2 (by decide), hrF_fr n (by omega)]
theorem hrsR_n {M : MM} {n : Nat} : ∀ (i : Nat), hrsR M n i 1 2 = M 1 2
  | 0 => rfl
  | i + 1 => by
    show hour (hrsR M n i) 1 n 1 2 = _
    rw [hour_n]
    exact hrsR_n i
def wLet (M : MM) (n : Nat) (v : Int32) : Int32 × MM := if v < 1 ∨ 9 < v then (-1, ksR M 1 0) else if n < 12 then (nI n, mst (fbeg M (fa n) v) 1 2 (nI (n + 1))) else (-1, ksR M 2 12)
def wBri (M : MM) (n : Nat) (x : Int32) : Int32 × MM := if hasB M 1 x = false then (-1, ksR M 3 (M 1 2)) else if M (fx x) 4 = 0 then (cntIn (mvT M (fx x) 1 (-1) (-1)) 1 n, mvT M (fx x) 1 (-1) (-1)) else (-1, ksR M 4 (M (fx x) 4))
def wOut (M : MM) (x : Int32) : Int32 × MM := if hasB M 1 x = false then (-1, ksR M 3 (M 1 2)) else if M (fx x) 4 = 0 then (-1, ksR M 5 x) else (M (fx x) 3, mvT M (fx x) 0 (-1) (-1))
def wHan (M : MM) (n : Nat) (x p q : Int32) : Int32 × MM := if inR p 4 = false ∨ inR q 10 = false then (-1, ksR M 1 0) else if hasB M 1 x = false then (-1, ksR M 3 (M 1 2)) else if M (fx x) 4 = 0 then (if onHook M 1 p q n = -1 then (cntRk (mvT M (fx x) 2 p q) p n, mvT M (fx x) 2 p q) else (-1, ksR M 6 (onHook M 1 p q n))) else (-1, ksR M 4 (M (fx x) 4))
def wTur (M : MM) (x : Int32) : Int32 × MM := if hasB M 1 x = false then (-1, ksR M 3 (M 1 2)) else if M (fx x) 4 = 2 then (1 - M (fx x) 7, flp M (fx x)) else (-1, ksR M 7 (M (fx x) 4))
def wTrk (M : MM) (n : Nat) (p : Int32) : Int32 × MM := if inR p 4 = false then (-1, ksR M 1 0) else if cntRk M p n = 0 then (-1, ksR M 8 0) else (cntRk M p n, turR M p n)
def wLog (M : MM) (v : Int32) : Int32 × MM := if v < 1 ∨ 12 < v then (-1, ksR M 1 0) else if 12 < M 1 3 + v then (-1, ksR M 2 12) else (M 1 3 + v, mst M 1 3 (M 1 3 + v))
def wWoo (M : MM) (v : Int32) : Int32 × MM := if v < 0 ∨ ¬ v < 4 then (-1, ksR M 1 0) else if v = M 1 4 then (-1, ksR M 9 v) else (M 1 4, mst M 1 4 v)
def wDay (M : MM) (n : Nat) : Int32 × MM := if cntIn M 1 n = 0 then (-1, ksR M 8 0) else (sumSa (mst (dayR M n) 1 6 (M 1 6 + 1)) n, mst (dayR M n) 1 6 (M 1 6 + 1))
def wHrs (M : MM) (n : Nat) (v : Int32) : Int32 × MM := if v < 1 ∨ 24 < v then (-1, ksR M 1 0) else (cntBu (hrsR M n v.toNatClampNeg) n, hrsR M n v.toNatClampNeg)
def wSel (M : MM) (n : Nat) (x : Int32) : Int32 × MM := if hasB M 1 x = false then (-1, ksR M 3 (M 1 2)) else if fReady M (fx x) = false then (-1, ksR M 10 (if fBurnt M (fx x) = true then 100 else fLack M (fx x))) else (fPrice M (fx x), hrm (mst (mst M 1 7 (M 1 7 + 1)) 1 8 (M 1 8 + fPrice M (fx x))) 1 x.toNatClampNeg (n - 1 - x.toNatClampNeg))
def wDis (M : MM) (n : Nat) (x : Int32) : Int32 × MM := if hasB M 1 x = false then (-1, ksR M 3 (M 1 2)) else (M (fx x) 2, hrm (mst M 1 9 (M 1 9 + 1)) 1 x.toNatClampNeg (n - 1 - x.toNatClampNeg))
theorem hr24 {v : Int32} (h1 : ¬ v < 1) (h2 : ¬ 24 < v) : inR v 25 = true := by
  have g1 : ¬ v.toInt < 1 := fun q => h1 (Int32.lt_iff_toInt_lt.mpr q)
  have g2 : ¬ 24 < v.toInt := fun q => h2 (Int32.lt_iff_toInt_lt.mpr q)
  have e3 : (25 : Int32).toInt = 25 := rfl
  have e4 : (0 : Int32).toInt = 0 := rfl
  unfold inR
  simp only [Bool.and_eq_true, Bool.not_eq_true', decide_eq_false_iff_not, decide_eq_true_eq, Int32.lt_iff_toInt_lt, e3, e4]
  omega
theorem has_k {M : MM} {b n : Nat} {x : Int32} (hc : M b 2 = nI n) (hn : n ≤ 12) (h : hasB M b x = true) : ∃ k, k < n ∧ x = nI k := by
  unfold hasB at h
  simp only [Bool.and_eq_true, Bool.not_eq_true', decide_eq_false_iff_not, decide_eq_true_eq] at h
  obtain ⟨h1, h2⟩ := h
  rw [hc] at h2
  have h3 : ¬ x.toInt < 0 := fun q => h1 (Int32.lt_iff_toInt_lt.mpr q)
  have h4 : x.toInt < (n : Int) := by have := Int32.lt_iff_toInt_lt.mp h2; rwa [nI_toInt (by omega)] at this
  refine ⟨x.toInt.toNat, by omega, Int32.toInt_inj.mp ?_⟩
  rw [nI_toInt (by omega)]
  omega
theorem inR_k {x m : Int32} {n : Nat} (hm : m = nI n) (hn : n ≤ 2000) (h : inR x m = true) : ∃ k, k < n ∧ x = nI k := by
  unfold inR at h
  simp only [Bool.and_eq_true, Bool.not_eq_true', decide_eq_false_iff_not, decide_eq_true_eq] at h
  obtain ⟨h1, h2⟩ := h
  rw [hm] at h2
  have h3 : ¬ x.toInt < 0 := fun q => h1 (Int32.lt_iff_toInt_lt.mpr q)
  have h4 : x.toInt < (n : Int) := by have := Int32.lt_iff_toInt_lt.mp h2; rwa [nI_toInt (by omega)] at this
  refine ⟨x.toInt.toNat, by omega, Int32.toInt_inj.mp ?_⟩
  rw [nI_toInt (by omega)]
  omega
section P13
variable {M : MM} {r : MR}
theorem s_X5_keep {l : Launch} (hf : l.stackTraces = false) {a b : Int32} : V_X5_keep l [.ref 454, .int a, .int b] (hp M r) (VI (-1) (hp (ksR M a b) r)) := by
  refine VM.intro (lf := L9 (some (.ref 454)) (some (.int a)) (some (.int b)) none none none none none none) (by decide +kernel) hf (fun _ => (Nat.le_of_ble_eq_true rfl)) (fun _ => rfl) ?_
  refine R_aload_n dX5_keep_0 rfl rfl ?_
  refine R_iconst (v := 1) dX5_keep_1 (by decide) ?_
  refine G_put cok5 0 wf_X5_9 dX5_keep_2 (by first | assumption | exact rfl | exact hs0 hb | exact hsf hb (by omega) | exact fish1 (hsf hb (by omega)) | exact fish2 (hsf hb (by omega))) rfl ⟨(Nat.le_of_ble_eq_true rfl), rfl, (Nat.le_of_ble_eq_true rfl)⟩ ⟨rfl, rfl⟩ ?_
  refine R_aload_n dX5_keep_5 rfl rfl ?_
  refine R_iload_n dX5_keep_6 rfl rfl ?_
  refine G_put cok5 2 wf_X5_15 dX5_keep_7 (by first | assumption | exact rfl | exact hs0 hb | exact hsf hb (by omega) | exact fish1 (hsf hb (by omega)) | exact fish2 (hsf hb (by omega))) rfl ⟨(Nat.le_of_ble_eq_true rfl), rfl, (Nat.le_of_ble_eq_true rfl)⟩ ⟨rfl, rfl⟩ ?_
  refine R_aload_n dX5_keep_10 rfl rfl ?_
  refine R_iload_n dX5_keep_11 rfl rfl ?_
  refine G_put cok5 3 wf_X5_19 dX5_keep_12 (by first | assumption | exact rfl | exact hs0 hb | exact hsf hb (by omega) | exact fish1 (hsf hb (by omega)) | exact fish2 (hsf hb (by omega))) rfl ⟨(Nat.le_of_ble_eq_true rfl), rfl, (Nat.le_of_ble_eq_true rfl)⟩ ⟨rfl, rfl⟩ ?_
  refine R_aload_n dX5_keep_15 rfl rfl ?_
  refine R_aload_n dX5_keep_16 rfl rfl ?_
  refine G_get cok5 1 wf_X5_22 dX5_keep_17 (by first | assumption | exact rfl | exact hs0 hb | exact hsf hb (by omega) | exact fish1 (hsf hb (by omega)) | exact fish2 (hsf hb (by omega))) ⟨(Nat.le_of_ble_eq_true rfl), (Nat.le_of_ble_eq_true rfl)⟩ rfl ?_
  refine G_put cok5 4 wf_X5_25 dX5_keep_20 (by first | assumption | exact rfl | exact hs0 hb | exact hsf hb (by omega) | exact fish1 (hsf hb (by omega)) | exact fish2 (hsf hb (by omega))) rfl ⟨(Nat.le_of_ble_eq_true rfl), rfl, (Nat.le_of_ble_eq_true rfl)⟩ ⟨rfl, rfl⟩ ?_
  refine R_iconst (v := (-1)) dX5_keep_23 (by decide) ?_
  refine R_iret dX5_keep_24 rfl (Nat.le_of_ble_eq_true rfl) (Nat.le_of_ble_eq_true rfl) ?_
  refine ⟨rfl, congrArg (fun z => hp z r) ?_⟩
  simp only [ksR]
  rw [show mst (mst (mst M 454 0 1) 454 2 a) 454 3 b 454 1 = M 454 1 by simp [mst]]
theorem s_X5_number {l : Launch} (hf : l.stackTraces = false) {k : Int32} : V_X5_number l [.ref 454, .int k] (hp M r) (VI (if k = 0 then M 454 2 else if k = 1 then M 454 3 else M 454 4) (hp M r)) := by
  refine VM.intro (lf := L9 (some (.ref 454)) (some (.int k)) none none none none none none none) (by decide +kernel) hf (fun _ => (Nat.le_of_ble_eq_true rfl)) (fun _ => rfl) ?_
  refine R_iload_n dX5_number_0 rfl rfl ?_
  by_cases e0 : k = 0
  · refine R_topE e0 ?_
    refine R_lookup (off := 27) (tgt := 28) dX5_number_1 (by decide) (by decide) rfl ?_
    refine R_aload_n dX5_number_28 rfl rfl ?_
    refine G_get cok5 2 wf_X5_15 dX5_number_29 (by first | assumption | exact rfl | exact hs0 hb | exact hsf hb (by omega) | exact fish1 (hsf hb (by omega)) | exact fish2 (hsf hb (by omega))) ⟨(Nat.le_of_ble_eq_true rfl), (Nat.le_of_ble_eq_true rfl)⟩ rfl ?_
    refine R_iret dX5_number_32 rfl (Nat.le_of_ble_eq_true rfl) (Nat.le_of_ble_eq_true rfl) ?_
    refine ⟨?_, rfl⟩
    simp_all
  · by_cases e1 : k = 1
    · refine R_topE e1 ?_
      refine R_lookup (off := 32) (tgt := 33) dX5_number_1 (by decide) (by decide) rfl ?_
      refine R_aload_n dX5_number_33 rfl rfl ?_
      refine G_get cok5 3 wf_X5_19 dX5_number_34 (by first | assumption | exact rfl | exact hs0 hb | exact hsf hb (by omega) | exact fish1 (hsf hb (by omega)) | exact fish2 (hsf hb (by omega))) ⟨(Nat.le_of_ble_eq_true rfl), (Nat.le_of_ble_eq_true rfl)⟩ rfl ?_
      refine R_iret dX5_number_37 rfl (Nat.le_of_ble_eq_true rfl) (Nat.le_of_ble_eq_true rfl) ?_
      refine ⟨?_, rfl⟩
      simp_all
    · refine R_lookup (off := 37) (tgt := 38) dX5_number_1 (by decide) (by refine (lv_osw e0 (by decide)).trans ?_; refine (lv_osw e1 (by decide)).trans ?_; rfl) rfl ?_
      refine R_aload_n dX5_number_38 rfl rfl ?_
      refine G_get cok5 4 wf_X5_25 dX5_number_39 (by first | assumption | exact rfl | exact hs0 hb | exact hsf hb (by omega) | exact fish1 (hsf hb (by omega)) | exact fish2 (hsf hb (by omega))) ⟨(Nat.le_of_ble_eq_true rfl), (Nat.le_of_ble_eq_true rfl)⟩ rfl ?_
      refine R_iret dX5_number_42 rfl (Nat.le_of_ble_eq_true rfl) (Nat.le_of_ble_eq_true rfl) ?_
      refine ⟨?_, rfl⟩
      simp_all
theorem s_X8_letCome {l : Launch} (hf : l.stackTraces = false) {n : Nat} (hn : n ≤ 12) (hc : M 1 2 = nI n) {v : Int32} : V_X8_letCome l [.ref 455, .int v] (hp M r) (VI (wLet M n v).1 (hp (wLet M n v).2 r)) := by
  have h12 : (M 1 2 < 12) ↔ n < 12 := by rw [hc]; exact nI_ltI (b := 12) (by omega) (by omega)
  have ep : nI (n + 1) - 1 = nI n := nI_pred n
  refine VM.intro (lf := L9 (some (.ref 455)) (some (.int v)) none none none none none none none) (by decide +kernel) hf (fun _ => (Nat.le_of_ble_eq_true rfl)) (fun _ => rfl) ?_
  refine R_iload_n dX8_letCome_0 rfl rfl ?_
  refine R_iconst (v := 1) dX8_letCome_1 (by decide) ?_
  refine R_icmp_lt (tgt := 11) dX8_letCome_2 rfl (fun c1 => ?_) (fun c1 => ?_)
  · refine R_aload_n dX8_letCome_11 rfl rfl ?_
    refine G_get cok8 1 wf_X8_15 dX8_letCome_12 (by first | exact rfl | exact hsf isH1 (by omega) | assumption) ⟨(Nat.le_of_ble_eq_true rfl), (Nat.le_of_ble_eq_true rfl)⟩ rfl ?_
    refine R_iconst (v := 1) dX8_letCome_15 (by decide) ?_
    refine R_iconst (v := 0) dX8_letCome_16 (by decide) ?_
    refine G_cV2 cw_X8_19 (s_X5_keep hf) dX8_letCome_17 (rcv cok5 (by first | exact rfl | exact hsf isH1 (by omega) | assumption) (Nat.le_of_ble_eq_true rfl)) ⟨(Nat.le_of_ble_eq_true rfl), (Nat.le_of_ble_eq_true rfl), (Nat.le_of_ble_eq_true rfl), (Nat.le_of_ble_eq_true rfl)⟩ ?_
    refine R_iret dX8_letCome_20 rfl (Nat.le_of_ble_eq_true rfl) (Nat.le_of_ble_eq_true rfl) ?_
    refine ⟨?_, congrArg (fun z => hp z r) ?_⟩
    all_goals simp_all [-Int32.not_lt, -Nat.not_lt, zb, fx, fa, mvT, flp, cntIn, cntRk, cntBu, sumSa, wLet, mst_eq]
  · refine R_iload_n dX8_letCome_5 rfl rfl ?_
    refine R_bipush (v := 9) dX8_letCome_6 (by decide) ?_
    refine R_icmp_leN (tgt := 21) dX8_letCome_8 rfl (fun c2 => ?_) (fun c2 => ?_)
    · refine R_aload_n dX8_letCome_21 rfl rfl ?_
      refine G_get cok8 0 wf_X8_9 dX8_letCome_22 (by first | exact rfl | exact hsf isH1 (by omega) | assumption) ⟨(Nat.le_of_ble_eq_true rfl), (Nat.le_of_ble_eq_true rfl)⟩ rfl ?_
      refine G_get cok3 2 wf_X8_25 dX8_letCome_25 (by first | exact rfl | exact hsf isH1 (by omega) | assumption) ⟨(Nat.le_of_ble_eq_true rfl), (Nat.le_of_ble_eq_true rfl)⟩ rfl ?_
      refine R_bipush (v := 12) dX8_letCome_28 (by decide) ?_
      refine R_icmp_lt (tgt := 44) dX8_letCome_30 rfl (fun c3 => ?_) (fun c3 => ?_)
      · refine R_aload_n dX8_letCome_44 rfl rfl ?_
        refine G_get cok8 0 wf_X8_9 dX8_letCome_45 (by first | exact rfl | exact hsf isH1 (by omega) | assumption) ⟨(Nat.le_of_ble_eq_true rfl), (Nat.le_of_ble_eq_true rfl)⟩ rfl ?_
        refine R_iload_n dX8_letCome_48 rfl rfl ?_
        refine G_cV1v cw_X8_31 (s_X3_addFish hf isH1 (n := n) (by rw [hc] at *; exact (nI_ltI (b := 12) (by omega) (by omega)).mp (by assumption)) hc) dX8_letCome_49 (rcv cok3 (by first | exact rfl | exact hsf isH1 (by omega) | assumption) (Nat.le_of_ble_eq_true rfl)) ⟨(Nat.le_of_ble_eq_true rfl), (Nat.le_of_ble_eq_true rfl), (Nat.le_of_ble_eq_true rfl), (Nat.le_of_ble_eq_true rfl)⟩ ?_
        refine R_aload_n dX8_letCome_52 rfl rfl ?_
        refine G_get cok8 0 wf_X8_9 dX8_letCome_53 (by first | exact rfl | exact hsf isH1 (by omega) | assumption) ⟨(Nat.le_of_ble_eq_true rfl), (Nat.le_of_ble_eq_true rfl)⟩ rfl ?_
        refine G_get cok3 2 wf_X8_25 dX8_letCome_56 (by first | exact rfl | exact hsf isH1 (by omega) | assumption) ⟨(Nat.le_of_ble_eq_true rfl), (Nat.le_of_ble_eq_true rfl)⟩ rfl ?_
        refine R_iconst (v := 1) dX8_letCome_59 (by decide) ?_
        refine R_isub dX8_letCome_60 ?_
        refine R_iret dX8_letCome_61 rfl (Nat.le_of_ble_eq_true rfl) (Nat.le_of_ble_eq_true rfl) ?_
        refine ⟨?_, congrArg (fun z => hp z r) ?_⟩
        all_goals simp_all [-Int32.not_lt, -Nat.not_lt, zb, fx, fa, mvT, flp, cntIn, cntRk, cntBu, sumSa, wLet, mst_eq]
      · refine R_aload_n dX8_letCome_33 rfl rfl ?_
        refine G_get cok8 1 wf_X8_15 dX8_letCome_34 (by first | exact rfl | exact hsf isH1 (by omega) | assumption) ⟨(Nat.le_of_ble_eq_true rfl), (Nat.le_of_ble_eq_true rfl)⟩ rfl ?_
        refine R_iconst (v := 2) dX8_letCome_37 (by decide) ?_
        refine R_bipush (v := 12) dX8_letCome_38 (by decide) ?_
        refine G_cV2 cw_X8_19 (s_X5_keep hf) dX8_letCome_40 (rcv cok5 (by first | exact rfl | exact hsf isH1 (by omega) | assumption) (Nat.le_of_ble_eq_true rfl)) ⟨(Nat.le_of_ble_eq_true rfl), (Nat.le_of_ble_eq_true rfl), (Nat.le_of_ble_eq_true rfl), (Nat.le_of_ble_eq_true rfl)⟩ ?_
        refine R_iret dX8_letCome_43 rfl (Nat.le_of_ble_eq_true rfl) (Nat.le_of_ble_eq_true rfl) ?_
        refine ⟨?_, congrArg (fun z => hp z r) ?_⟩
        all_goals simp_all [-Int32.not_lt, -Nat.not_lt, zb, fx, fa, mvT, flp, cntIn, cntRk, cntBu, sumSa, wLet, mst_eq]
    · refine R_aload_n dX8_letCome_11 rfl rfl ?_
      refine G_get cok8 1 wf_X8_15 dX8_letCome_12 (by first | exact rfl | exact hsf isH1 (by omega) | assumption) ⟨(Nat.le_of_ble_eq_true rfl), (Nat.le_of_ble_eq_true rfl)⟩ rfl ?_
      refine R_iconst (v := 1) dX8_letCome_15 (by decide) ?_
      refine R_iconst (v := 0) dX8_letCome_16 (by decide) ?_
      refine G_cV2 cw_X8_19 (s_X5_keep hf) dX8_letCome_17 (rcv cok5 (by first | exact rfl | exact hsf isH1 (by omega) | assumption) (Nat.le_of_ble_eq_true rfl)) ⟨(Nat.le_of_ble_eq_true rfl), (Nat.le_of_ble_eq_true rfl), (Nat.le_of_ble_eq_true rfl), (Nat.le_of_ble_eq_true rfl)⟩ ?_
      refine R_iret dX8_letCome_20 rfl (Nat.le_of_ble_eq_true rfl) (Nat.le_of_ble_eq_true rfl) ?_
      refine ⟨?_, congrArg (fun z => hp z r) ?_⟩
      all_goals simp_all [-Int32.not_lt, -Nat.not_lt, zb, fx, fa, mvT, flp, cntIn, cntRk, cntBu, sumSa, wLet, mst_eq]
theorem s_X8_layIntoBrine {l : Launch} (hf : l.stackTraces = false) {n : Nat} (hn : n ≤ 12) (hc : M 1 2 = nI n) {x : Int32} : V_X8_layIntoBrine l [.ref 455, .int x] (hp M r) (VI (wBri M n x).1 (hp (wBri M n x).2 r)) := by
  refine VM.intro (lf := L9 (some (.ref 455)) (some (.int x)) none none none none none none none) (by decide +kernel) hf (fun _ => (Nat.le_of_ble_eq_true rfl)) (fun _ => rfl) ?_
  refine R_aload_n dX8_layIntoBrine_0 rfl rfl ?_
  refine G_get cok8 0 wf_X8_9 dX8_layIntoBrine_1 (by first | exact rfl | exact hsf isH1 (by omega) | assumption) ⟨(Nat.le_of_ble_eq_true rfl), (Nat.le_of_ble_eq_true rfl)⟩ rfl ?_
  refine R_iload_n dX8_layIntoBrine_4 rfl rfl ?_
  refine G_cV1 cw_X8_35 (s_X3_has hf isH1) dX8_layIntoBrine_5 (rcv cok3 (by first | exact rfl | exact hsf isH1 (by omega) | assumption) (Nat.le_of_ble_eq_true rfl)) ⟨(Nat.le_of_ble_eq_true rfl), (Nat.le_of_ble_eq_true rfl), (Nat.le_of_ble_eq_true rfl), (Nat.le_of_ble_eq_true rfl)⟩ ?_
  refine R_if_ne (tgt := 27) dX8_layIntoBrine_8 rfl (fun c1 => ?_) (fun c1 => ?_)
  · have hk9 : hasB M 1 x = true := by simpa [zb_n0] using c1
    obtain ⟨k, hk, rfl⟩ := has_k hc hn hk9
    have ek : (nI k).toNatClampNeg = k := nI_cl (by omega)
    refine R_aload_n dX8_layIntoBrine_27 rfl rfl ?_
    refine G_get cok8 0 wf_X8_9 dX8_layIntoBrine_28 (by first | exact rfl | exact hsf isH1 (by omega) | assumption) ⟨(Nat.le_of_ble_eq_true rfl), (Nat.le_of_ble_eq_true rfl)⟩ rfl ?_
    refine R_iload_n dX8_layIntoBrine_31 rfl rfl ?_
    refine G_cV1 cw_X8_39 (s_X3_fishAt hf isH1 (by omega)) dX8_layIntoBrine_32 (rcv cok3 (by first | exact rfl | exact hsf isH1 (by omega) | assumption) (Nat.le_of_ble_eq_true rfl)) ⟨(Nat.le_of_ble_eq_true rfl), (Nat.le_of_ble_eq_true rfl), (Nat.le_of_ble_eq_true rfl), (Nat.le_of_ble_eq_true rfl)⟩ ?_
    refine R_astore_n dX8_layIntoBrine_35 rfl (by decide) (st2 rfl) ?_
    refine R_aload_n dX8_layIntoBrine_36 rfl rfl ?_
    refine G_get cok0 4 wf_X8_43 dX8_layIntoBrine_37 (by first | exact rfl | exact hsf isH1 (by omega) | assumption) ⟨(Nat.le_of_ble_eq_true rfl), (Nat.le_of_ble_eq_true rfl)⟩ rfl ?_
    refine R_if_eq (tgt := 56) dX8_layIntoBrine_40 rfl (fun c2 => ?_) (fun c2 => ?_)
    · refine R_aload_n dX8_layIntoBrine_56 rfl rfl ?_
      refine R_iconst (v := 1) dX8_layIntoBrine_57 (by decide) ?_
      refine R_iconst (v := (-1)) dX8_layIntoBrine_58 (by decide) ?_
      refine R_iconst (v := (-1)) dX8_layIntoBrine_59 (by decide) ?_
      refine G_cV3v cw_X8_48 (s_X0_moveTo hf (hsf isH1 (by omega))) dX8_layIntoBrine_60 (rcv cok0 (by first | exact rfl | exact hsf isH1 (by omega) | assumption) (Nat.le_of_ble_eq_true rfl)) ⟨(Nat.le_of_ble_eq_true rfl), (Nat.le_of_ble_eq_true rfl), (Nat.le_of_ble_eq_true rfl), (Nat.le_of_ble_eq_true rfl)⟩ ?_
      refine R_aload_n dX8_layIntoBrine_63 rfl rfl ?_
      refine G_get cok8 0 wf_X8_9 dX8_layIntoBrine_64 (by first | exact rfl | exact hsf isH1 (by omega) | assumption) ⟨(Nat.le_of_ble_eq_true rfl), (Nat.le_of_ble_eq_true rfl)⟩ rfl ?_
      refine R_iconst (v := 1) dX8_layIntoBrine_67 (by decide) ?_
      refine G_cV1 cw_X8_52 (s_X3_countIn hf isH1 hn (by simpa [mst] using hc)) dX8_layIntoBrine_68 (rcv cok3 (by first | exact rfl | exact hsf isH1 (by omega) | assumption) (Nat.le_of_ble_eq_true rfl)) ⟨(Nat.le_of_ble_eq_true rfl), (Nat.le_of_ble_eq_true rfl), (Nat.le_of_ble_eq_true rfl), (Nat.le_of_ble_eq_true rfl)⟩ ?_
      refine R_iret dX8_layIntoBrine_71 rfl (Nat.le_of_ble_eq_true rfl) (Nat.le_of_ble_eq_true rfl) ?_
      refine ⟨?_, congrArg (fun z => hp z r) ?_⟩
      all_goals simp_all [-Int32.not_lt, -Nat.not_lt, zb, fx, fa, mvT, flp, cntIn, cntRk, cntBu, sumSa, wBri]
    · refine R_aload_n dX8_layIntoBrine_43 rfl rfl ?_
      refine G_get cok8 1 wf_X8_15 dX8_layIntoBrine_44 (by first | exact rfl | exact hsf isH1 (by omega) | assumption) ⟨(Nat.le_of_ble_eq_true rfl), (Nat.le_of_ble_eq_true rfl)⟩ rfl ?_
      refine R_iconst (v := 4) dX8_layIntoBrine_47 (by decide) ?_
      refine R_aload_n dX8_layIntoBrine_48 rfl rfl ?_
      refine G_get cok0 4 wf_X8_43 dX8_layIntoBrine_49 (by first | exact rfl | exact hsf isH1 (by omega) | assumption) ⟨(Nat.le_of_ble_eq_true rfl), (Nat.le_of_ble_eq_true rfl)⟩ rfl ?_
      refine G_cV2 cw_X8_19 (s_X5_keep hf) dX8_layIntoBrine_52 (rcv cok5 (by first | exact rfl | exact hsf isH1 (by omega) | assumption) (Nat.le_of_ble_eq_true rfl)) ⟨(Nat.le_of_ble_eq_true rfl), (Nat.le_of_ble_eq_true rfl), (Nat.le_of_ble_eq_true rfl), (Nat.le_of_ble_eq_true rfl)⟩ ?_
      refine R_iret dX8_layIntoBrine_55 rfl (Nat.le_of_ble_eq_true rfl) (Nat.le_of_ble_eq_true rfl) ?_
      refine ⟨?_, congrArg (fun z => hp z r) ?_⟩
      all_goals simp_all [-Int32.not_lt, -Nat.not_lt, zb, fx, fa, mvT, flp, cntIn, cntRk, cntBu, sumSa, wBri]
  · refine R_aload_n dX8_layIntoBrine_11 rfl rfl ?_
    refine G_get cok8 1 wf_X8_15 dX8_layIntoBrine_12 (by first | exact rfl | exact hsf isH1 (by omega) | assumption) ⟨(Nat.le_of_ble_eq_true rfl), (Nat.le_of_ble_eq_true rfl)⟩ rfl ?_
    refine R_iconst (v := 3) dX8_layIntoBrine_15 (by decide) ?_
    refine R_aload_n dX8_layIntoBrine_16 rfl rfl ?_
    refine G_get cok8 0 wf_X8_9 dX8_layIntoBrine_17 (by first | exact rfl | exact hsf isH1 (by omega) | assumption) ⟨(Nat.le_of_ble_eq_true rfl), (Nat.le_of_ble_eq_true rfl)⟩ rfl ?_
    refine G_get cok3 2 wf_X8_25 dX8_layIntoBrine_20 (by first | exact rfl | exact hsf isH1 (by omega) | assumption) ⟨(Nat.le_of_ble_eq_true rfl), (Nat.le_of_ble_eq_true rfl)⟩ rfl ?_
    refine G_cV2 cw_X8_19 (s_X5_keep hf) dX8_layIntoBrine_23 (rcv cok5 (by first | exact rfl | exact hsf isH1 (by omega) | assumption) (Nat.le_of_ble_eq_true rfl)) ⟨(Nat.le_of_ble_eq_true rfl), (Nat.le_of_ble_eq_true rfl), (Nat.le_of_ble_eq_true rfl), (Nat.le_of_ble_eq_true rfl)⟩ ?_
    refine R_iret dX8_layIntoBrine_26 rfl (Nat.le_of_ble_eq_true rfl) (Nat.le_of_ble_eq_true rfl) ?_
    refine ⟨?_, congrArg (fun z => hp z r) ?_⟩
    all_goals simp_all [-Int32.not_lt, -Nat.not_lt, zb, fx, fa, mvT, flp, cntIn, cntRk, cntBu, sumSa, wBri]
theorem s_X8_takeOut {l : Launch} (hf : l.stackTraces = false) {n : Nat} (hn : n ≤ 12) (hc : M 1 2 = nI n) {x : Int32} : V_X8_takeOut l [.ref 455, .int x] (hp M r) (VI (wOut M x).1 (hp (wOut M x).2 r)) := by
  refine VM.intro (lf := L9 (some (.ref 455)) (some (.int x)) none none none none none none none) (by decide +kernel) hf (fun _ => (Nat.le_of_ble_eq_true rfl)) (fun _ => rfl) ?_
  refine R_aload_n dX8_takeOut_0 rfl rfl ?_
  refine G_get cok8 0 wf_X8_9 dX8_takeOut_1 (by first | exact rfl | exact hsf isH1 (by omega) | assumption) ⟨(Nat.le_of_ble_eq_true rfl), (Nat.le_of_ble_eq_true rfl)⟩ rfl ?_
  refine R_iload_n dX8_takeOut_4 rfl rfl ?_
  refine G_cV1 cw_X8_35 (s_X3_has hf isH1) dX8_takeOut_5 (rcv cok3 (by first | exact rfl | exact hsf isH1 (by omega) | assumption) (Nat.le_of_ble_eq_true rfl)) ⟨(Nat.le_of_ble_eq_true rfl), (Nat.le_of_ble_eq_true rfl), (Nat.le_of_ble_eq_true rfl), (Nat.le_of_ble_eq_true rfl)⟩ ?_
  refine R_if_ne (tgt := 27) dX8_takeOut_8 rfl (fun c1 => ?_) (fun c1 => ?_)
  · have hk9 : hasB M 1 x = true := by simpa [zb_n0] using c1
    obtain ⟨k, hk, rfl⟩ := has_k hc hn hk9
    have ek : (nI k).toNatClampNeg = k := nI_cl (by omega)
    refine R_aload_n dX8_takeOut_27 rfl rfl ?_
    refine G_get cok8 0 wf_X8_9 dX8_takeOut_28 (by first | exact rfl | exact hsf isH1 (by omega) | assumption) ⟨(Nat.le_of_ble_eq_true rfl), (Nat.le_of_ble_eq_true rfl)⟩ rfl ?_
    refine R_iload_n dX8_takeOut_31 rfl rfl ?_
    refine G_cV1 cw_X8_39 (s_X3_fishAt hf isH1 (by omega)) dX8_takeOut_32 (rcv cok3 (by first | exact rfl | exact hsf isH1 (by omega) | assumption) (Nat.le_of_ble_eq_true rfl)) ⟨(Nat.le_of_ble_eq_true rfl), (Nat.le_of_ble_eq_true rfl), (Nat.le_of_ble_eq_true rfl), (Nat.le_of_ble_eq_true rfl)⟩ ?_
    refine R_astore_n dX8_takeOut_35 rfl (by decide) (st2 rfl) ?_
    refine R_aload_n dX8_takeOut_36 rfl rfl ?_
    refine G_get cok0 4 wf_X8_43 dX8_takeOut_37 (by first | exact rfl | exact hsf isH1 (by omega) | assumption) ⟨(Nat.le_of_ble_eq_true rfl), (Nat.le_of_ble_eq_true rfl)⟩ rfl ?_
    refine R_if_ne (tgt := 53) dX8_takeOut_40 rfl (fun c2 => ?_) (fun c2 => ?_)
    · refine R_aload_n dX8_takeOut_53 rfl rfl ?_
      refine R_iconst (v := 0) dX8_takeOut_54 (by decide) ?_
      refine R_iconst (v := (-1)) dX8_takeOut_55 (by decide) ?_
      refine R_iconst (v := (-1)) dX8_takeOut_56 (by decide) ?_
      refine G_cV3v cw_X8_48 (s_X0_moveTo hf (hsf isH1 (by omega))) dX8_takeOut_57 (rcv cok0 (by first | exact rfl | exact hsf isH1 (by omega) | assumption) (Nat.le_of_ble_eq_true rfl)) ⟨(Nat.le_of_ble_eq_true rfl), (Nat.le_of_ble_eq_true rfl), (Nat.le_of_ble_eq_true rfl), (Nat.le_of_ble_eq_true rfl)⟩ ?_
      refine R_aload_n dX8_takeOut_60 rfl rfl ?_
      refine G_get cok0 3 wf_X8_56 dX8_takeOut_61 (by first | exact rfl | exact hsf isH1 (by omega) | assumption) ⟨(Nat.le_of_ble_eq_true rfl), (Nat.le_of_ble_eq_true rfl)⟩ rfl ?_
      refine R_iret dX8_takeOut_64 rfl (Nat.le_of_ble_eq_true rfl) (Nat.le_of_ble_eq_true rfl) ?_
      refine ⟨?_, congrArg (fun z => hp z r) ?_⟩
      all_goals simp_all [-Int32.not_lt, -Nat.not_lt, zb, fx, fa, mvT, flp, cntIn, cntRk, cntBu, sumSa, wOut, mst_ne2]
    · refine R_aload_n dX8_takeOut_43 rfl rfl ?_
      refine G_get cok8 1 wf_X8_15 dX8_takeOut_44 (by first | exact rfl | exact hsf isH1 (by omega) | assumption) ⟨(Nat.le_of_ble_eq_true rfl), (Nat.le_of_ble_eq_true rfl)⟩ rfl ?_
      refine R_iconst (v := 5) dX8_takeOut_47 (by decide) ?_
      refine R_iload_n dX8_takeOut_48 rfl rfl ?_
      refine G_cV2 cw_X8_19 (s_X5_keep hf) dX8_takeOut_49 (rcv cok5 (by first | exact rfl | exact hsf isH1 (by omega) | assumption) (Nat.le_of_ble_eq_true rfl)) ⟨(Nat.le_of_ble_eq_true rfl), (Nat.le_of_ble_eq_true rfl), (Nat.le_of_ble_eq_true rfl), (Nat.le_of_ble_eq_true rfl)⟩ ?_
      refine R_iret dX8_takeOut_52 rfl (Nat.le_of_ble_eq_true rfl) (Nat.le_of_ble_eq_true rfl) ?_
      refine ⟨?_, congrArg (fun z => hp z r) ?_⟩
      all_goals simp_all [-Int32.not_lt, -Nat.not_lt, zb, fx, fa, mvT, flp, cntIn, cntRk, cntBu, sumSa, wOut, mst_ne2]
  · refine R_aload_n dX8_takeOut_11 rfl rfl ?_
    refine G_get cok8 1 wf_X8_15 dX8_takeOut_12 (by first | exact rfl | exact hsf isH1 (by omega) | assumption) ⟨(Nat.le_of_ble_eq_true rfl), (Nat.le_of_ble_eq_true rfl)⟩ rfl ?_
    refine R_iconst (v := 3) dX8_takeOut_15 (by decide) ?_
    refine R_aload_n dX8_takeOut_16 rfl rfl ?_
    refine G_get cok8 0 wf_X8_9 dX8_takeOut_17 (by first | exact rfl | exact hsf isH1 (by omega) | assumption) ⟨(Nat.le_of_ble_eq_true rfl), (Nat.le_of_ble_eq_true rfl)⟩ rfl ?_
    refine G_get cok3 2 wf_X8_25 dX8_takeOut_20 (by first | exact rfl | exact hsf isH1 (by omega) | assumption) ⟨(Nat.le_of_ble_eq_true rfl), (Nat.le_of_ble_eq_true rfl)⟩ rfl ?_
    refine G_cV2 cw_X8_19 (s_X5_keep hf) dX8_takeOut_23 (rcv cok5 (by first | exact rfl | exact hsf isH1 (by omega) | assumption) (Nat.le_of_ble_eq_true rfl)) ⟨(Nat.le_of_ble_eq_true rfl), (Nat.le_of_ble_eq_true rfl), (Nat.le_of_ble_eq_true rfl), (Nat.le_of_ble_eq_true rfl)⟩ ?_
    refine R_iret dX8_takeOut_26 rfl (Nat.le_of_ble_eq_true rfl) (Nat.le_of_ble_eq_true rfl) ?_
    refine ⟨?_, congrArg (fun z => hp z r) ?_⟩
    all_goals simp_all [-Int32.not_lt, -Nat.not_lt, zb, fx, fa, mvT, flp, cntIn, cntRk, cntBu, sumSa, wOut, mst_ne2]
theorem s_X8_hangUp {l : Launch} (hf : l.stackTraces = false) {n : Nat} (hn : n ≤ 12) (hc : M 1 2 = nI n) {x p q : Int32} : V_X8_hangUp l [.ref 455, .int x, .int p, .int q] (hp M r) (VI (wHan M n x p q).1 (hp (wHan M n x p q).2 r)) := by
  refine VM.intro (lf := L9 (some (.ref 455)) (some (.int x)) (some (.int p)) (some (.int q)) none none none none none) (by decide +kernel) hf (fun _ => (Nat.le_of_ble_eq_true rfl)) (fun _ => rfl) ?_
  refine R_iload_n dX8_hangUp_0 rfl rfl ?_
  refine G_cN1 cw_X8_59 (s_X9_isRack hf) dX8_hangUp_1 ⟨(Nat.le_of_ble_eq_true rfl), (Nat.le_of_ble_eq_true rfl), (Nat.le_of_ble_eq_true rfl), (Nat.le_of_ble_eq_true rfl)⟩ ?_
  refine R_if_eq (tgt := 14) dX8_hangUp_4 rfl (fun c1 => ?_) (fun c1 => ?_)
  · refine R_aload_n dX8_hangUp_14 rfl rfl ?_
    refine G_get cok8 1 wf_X8_15 dX8_hangUp_15 (by first | exact rfl | exact hsf isH1 (by omega) | assumption) ⟨(Nat.le_of_ble_eq_true rfl), (Nat.le_of_ble_eq_true rfl)⟩ rfl ?_
    refine R_iconst (v := 1) dX8_hangUp_18 (by decide) ?_
    refine R_iconst (v := 0) dX8_hangUp_19 (by decide) ?_
    refine G_cV2 cw_X8_19 (s_X5_keep hf) dX8_hangUp_20 (rcv cok5 (by first | exact rfl | exact hsf isH1 (by omega) | assumption) (Nat.le_of_ble_eq_true rfl)) ⟨(Nat.le_of_ble_eq_true rfl), (Nat.le_of_ble_eq_true rfl), (Nat.le_of_ble_eq_true rfl), (Nat.le_of_ble_eq_true rfl)⟩ ?_
    refine R_iret dX8_hangUp_23 rfl (Nat.le_of_ble_eq_true rfl) (Nat.le_of_ble_eq_true rfl) ?_
    refine ⟨?_, congrArg (fun z => hp z r) ?_⟩
    all_goals simp_all [-Int32.not_lt, -Nat.not_lt, zb, fx, fa, mvT, flp, cntIn, cntRk, cntBu, sumSa, wHan]
  · refine R_iload_n dX8_hangUp_7 rfl rfl ?_
    refine G_cN1 cw_X8_62 (s_X9_isHook hf) dX8_hangUp_8 ⟨(Nat.le_of_ble_eq_true rfl), (Nat.le_of_ble_eq_true rfl), (Nat.le_of_ble_eq_true rfl), (Nat.le_of_ble_eq_true rfl)⟩ ?_
    refine R_if_ne (tgt := 24) dX8_hangUp_11 rfl (fun c2 => ?_) (fun c2 => ?_)
    · refine R_aload_n dX8_hangUp_24 rfl rfl ?_
      refine G_get cok8 0 wf_X8_9 dX8_hangUp_25 (by first | exact rfl | exact hsf isH1 (by omega) | assumption) ⟨(Nat.le_of_ble_eq_true rfl), (Nat.le_of_ble_eq_true rfl)⟩ rfl ?_
      refine R_iload_n dX8_hangUp_28 rfl rfl ?_
      refine G_cV1 cw_X8_35 (s_X3_has hf isH1) dX8_hangUp_29 (rcv cok3 (by first | exact rfl | exact hsf isH1 (by omega) | assumption) (Nat.le_of_ble_eq_true rfl)) ⟨(Nat.le_of_ble_eq_true rfl), (Nat.le_of_ble_eq_true rfl), (Nat.le_of_ble_eq_true rfl), (Nat.le_of_ble_eq_true rfl)⟩ ?_
      refine R_if_ne (tgt := 51) dX8_hangUp_32 rfl (fun c3 => ?_) (fun c3 => ?_)
      · have hk9 : hasB M 1 x = true := by simpa [zb_n0] using (by assumption : ¬ zb (hasB M 1 x) = 0)
        obtain ⟨k, hk, rfl⟩ := has_k hc hn hk9
        have ek : (nI k).toNatClampNeg = k := nI_cl (by omega)
        refine R_aload_n dX8_hangUp_51 rfl rfl ?_
        refine G_get cok8 0 wf_X8_9 dX8_hangUp_52 (by first | exact rfl | exact hsf isH1 (by omega) | assumption) ⟨(Nat.le_of_ble_eq_true rfl), (Nat.le_of_ble_eq_true rfl)⟩ rfl ?_
        refine R_iload_n dX8_hangUp_55 rfl rfl ?_
        refine G_cV1 cw_X8_39 (s_X3_fishAt hf isH1 (by omega)) dX8_hangUp_56 (rcv cok3 (by first | exact rfl | exact hsf isH1 (by omega) | assumption) (Nat.le_of_ble_eq_true rfl)) ⟨(Nat.le_of_ble_eq_true rfl), (Nat.le_of_ble_eq_true rfl), (Nat.le_of_ble_eq_true rfl), (Nat.le_of_ble_eq_true rfl)⟩ ?_
        refine R_astore dX8_hangUp_59 (by decide) (st4 rfl) ?_
        refine R_aload dX8_hangUp_61 (by decide) rfl ?_
        refine G_get cok0 4 wf_X8_43 dX8_hangUp_63 (by first | exact rfl | exact hsf isH1 (by omega) | assumption) ⟨(Nat.le_of_ble_eq_true rfl), (Nat.le_of_ble_eq_true rfl)⟩ rfl ?_
        refine R_if_eq (tgt := 83) dX8_hangUp_66 rfl (fun c4 => ?_) (fun c4 => ?_)
        · refine R_aload_n dX8_hangUp_83 rfl rfl ?_
          refine G_get cok8 0 wf_X8_9 dX8_hangUp_84 (by first | exact rfl | exact hsf isH1 (by omega) | assumption) ⟨(Nat.le_of_ble_eq_true rfl), (Nat.le_of_ble_eq_true rfl)⟩ rfl ?_
          refine R_iload_n dX8_hangUp_87 rfl rfl ?_
          refine R_iload_n dX8_hangUp_88 rfl rfl ?_
          refine G_cV2 cw_X8_65 (s_X3_fishOn hf isH1 hn hc) dX8_hangUp_89 (rcv cok3 (by first | exact rfl | exact hsf isH1 (by omega) | assumption) (Nat.le_of_ble_eq_true rfl)) ⟨(Nat.le_of_ble_eq_true rfl), (Nat.le_of_ble_eq_true rfl), (Nat.le_of_ble_eq_true rfl), (Nat.le_of_ble_eq_true rfl)⟩ ?_
          refine R_istore dX8_hangUp_92 (by decide) (st5 rfl) ?_
          refine R_iload dX8_hangUp_94 (by decide) rfl ?_
          refine R_iconst (v := (-1)) dX8_hangUp_96 (by decide) ?_
          refine R_icmp_eq (tgt := 112) dX8_hangUp_97 rfl (fun c5 => ?_) (fun c5 => ?_)
          · refine R_aload dX8_hangUp_112 (by decide) rfl ?_
            refine R_iconst (v := 2) dX8_hangUp_114 (by decide) ?_
            refine R_iload_n dX8_hangUp_115 rfl rfl ?_
            refine R_iload_n dX8_hangUp_116 rfl rfl ?_
            refine G_cV3v cw_X8_48 (s_X0_moveTo hf (hsf isH1 (by omega))) dX8_hangUp_117 (rcv cok0 (by first | exact rfl | exact hsf isH1 (by omega) | assumption) (Nat.le_of_ble_eq_true rfl)) ⟨(Nat.le_of_ble_eq_true rfl), (Nat.le_of_ble_eq_true rfl), (Nat.le_of_ble_eq_true rfl), (Nat.le_of_ble_eq_true rfl)⟩ ?_
            refine R_aload_n dX8_hangUp_120 rfl rfl ?_
            refine G_get cok8 0 wf_X8_9 dX8_hangUp_121 (by first | exact rfl | exact hsf isH1 (by omega) | assumption) ⟨(Nat.le_of_ble_eq_true rfl), (Nat.le_of_ble_eq_true rfl)⟩ rfl ?_
            refine R_iload_n dX8_hangUp_124 rfl rfl ?_
            refine G_cV1 cw_X8_68 (s_X3_countOnRack hf isH1 hn (by simpa [mst] using hc)) dX8_hangUp_125 (rcv cok3 (by first | exact rfl | exact hsf isH1 (by omega) | assumption) (Nat.le_of_ble_eq_true rfl)) ⟨(Nat.le_of_ble_eq_true rfl), (Nat.le_of_ble_eq_true rfl), (Nat.le_of_ble_eq_true rfl), (Nat.le_of_ble_eq_true rfl)⟩ ?_
            refine R_iret dX8_hangUp_128 rfl (Nat.le_of_ble_eq_true rfl) (Nat.le_of_ble_eq_true rfl) ?_
            refine ⟨?_, congrArg (fun z => hp z r) ?_⟩
            all_goals simp_all [-Int32.not_lt, -Nat.not_lt, zb, fx, fa, mvT, flp, cntIn, cntRk, cntBu, sumSa, wHan]
          · refine R_aload_n dX8_hangUp_100 rfl rfl ?_
            refine G_get cok8 1 wf_X8_15 dX8_hangUp_101 (by first | exact rfl | exact hsf isH1 (by omega) | assumption) ⟨(Nat.le_of_ble_eq_true rfl), (Nat.le_of_ble_eq_true rfl)⟩ rfl ?_
            refine R_bipush (v := 6) dX8_hangUp_104 (by decide) ?_
            refine R_iload dX8_hangUp_106 (by decide) rfl ?_
            refine G_cV2 cw_X8_19 (s_X5_keep hf) dX8_hangUp_108 (rcv cok5 (by first | exact rfl | exact hsf isH1 (by omega) | assumption) (Nat.le_of_ble_eq_true rfl)) ⟨(Nat.le_of_ble_eq_true rfl), (Nat.le_of_ble_eq_true rfl), (Nat.le_of_ble_eq_true rfl), (Nat.le_of_ble_eq_true rfl)⟩ ?_
            refine R_iret dX8_hangUp_111 rfl (Nat.le_of_ble_eq_true rfl) (Nat.le_of_ble_eq_true rfl) ?_
            refine ⟨?_, congrArg (fun z => hp z r) ?_⟩
            all_goals simp_all [-Int32.not_lt, -Nat.not_lt, zb, fx, fa, mvT, flp, cntIn, cntRk, cntBu, sumSa, wHan]
        · refine R_aload_n dX8_hangUp_69 rfl rfl ?_
          refine G_get cok8 1 wf_X8_15 dX8_hangUp_70 (by first | exact rfl | exact hsf isH1 (by omega) | assumption) ⟨(Nat.le_of_ble_eq_true rfl), (Nat.le_of_ble_eq_true rfl)⟩ rfl ?_
          refine R_iconst (v := 4) dX8_hangUp_73 (by decide) ?_
          refine R_aload dX8_hangUp_74 (by decide) rfl ?_
          refine G_get cok0 4 wf_X8_43 dX8_hangUp_76 (by first | exact rfl | exact hsf isH1 (by omega) | assumption) ⟨(Nat.le_of_ble_eq_true rfl), (Nat.le_of_ble_eq_true rfl)⟩ rfl ?_
          refine G_cV2 cw_X8_19 (s_X5_keep hf) dX8_hangUp_79 (rcv cok5 (by first | exact rfl | exact hsf isH1 (by omega) | assumption) (Nat.le_of_ble_eq_true rfl)) ⟨(Nat.le_of_ble_eq_true rfl), (Nat.le_of_ble_eq_true rfl), (Nat.le_of_ble_eq_true rfl), (Nat.le_of_ble_eq_true rfl)⟩ ?_
          refine R_iret dX8_hangUp_82 rfl (Nat.le_of_ble_eq_true rfl) (Nat.le_of_ble_eq_true rfl) ?_
          refine ⟨?_, congrArg (fun z => hp z r) ?_⟩
          all_goals simp_all [-Int32.not_lt, -Nat.not_lt, zb, fx, fa, mvT, flp, cntIn, cntRk, cntBu, sumSa, wHan]
      · refine R_aload_n dX8_hangUp_35 rfl rfl ?_
        refine G_get cok8 1 wf_X8_15 dX8_hangUp_36 (by first | exact rfl | exact hsf isH1 (by omega) | assumption) ⟨(Nat.le_of_ble_eq_true rfl), (Nat.le_of_ble_eq_true rfl)⟩ rfl ?_
        refine R_iconst (v := 3) dX8_hangUp_39 (by decide) ?_
        refine R_aload_n dX8_hangUp_40 rfl rfl ?_
        refine G_get cok8 0 wf_X8_9 dX8_hangUp_41 (by first | exact rfl | exact hsf isH1 (by omega) | assumption) ⟨(Nat.le_of_ble_eq_true rfl), (Nat.le_of_ble_eq_true rfl)⟩ rfl ?_
        refine G_get cok3 2 wf_X8_25 dX8_hangUp_44 (by first | exact rfl | exact hsf isH1 (by omega) | assumption) ⟨(Nat.le_of_ble_eq_true rfl), (Nat.le_of_ble_eq_true rfl)⟩ rfl ?_
        refine G_cV2 cw_X8_19 (s_X5_keep hf) dX8_hangUp_47 (rcv cok5 (by first | exact rfl | exact hsf isH1 (by omega) | assumption) (Nat.le_of_ble_eq_true rfl)) ⟨(Nat.le_of_ble_eq_true rfl), (Nat.le_of_ble_eq_true rfl), (Nat.le_of_ble_eq_true rfl), (Nat.le_of_ble_eq_true rfl)⟩ ?_
        refine R_iret dX8_hangUp_50 rfl (Nat.le_of_ble_eq_true rfl) (Nat.le_of_ble_eq_true rfl) ?_
        refine ⟨?_, congrArg (fun z => hp z r) ?_⟩
        all_goals simp_all [-Int32.not_lt, -Nat.not_lt, zb, fx, fa, mvT, flp, cntIn, cntRk, cntBu, sumSa, wHan]
    · refine R_aload_n dX8_hangUp_14 rfl rfl ?_
      refine G_get cok8 1 wf_X8_15 dX8_hangUp_15 (by first | exact rfl | exact hsf isH1 (by omega) | assumption) ⟨(Nat.le_of_ble_eq_true rfl), (Nat.le_of_ble_eq_true rfl)⟩ rfl ?_
      refine R_iconst (v := 1) dX8_hangUp_18 (by decide) ?_
      refine R_iconst (v := 0) dX8_hangUp_19 (by decide) ?_
      refine G_cV2 cw_X8_19 (s_X5_keep hf) dX8_hangUp_20 (rcv cok5 (by first | exact rfl | exact hsf isH1 (by omega) | assumption) (Nat.le_of_ble_eq_true rfl)) ⟨(Nat.le_of_ble_eq_true rfl), (Nat.le_of_ble_eq_true rfl), (Nat.le_of_ble_eq_true rfl), (Nat.le_of_ble_eq_true rfl)⟩ ?_
      refine R_iret dX8_hangUp_23 rfl (Nat.le_of_ble_eq_true rfl) (Nat.le_of_ble_eq_true rfl) ?_
      refine ⟨?_, congrArg (fun z => hp z r) ?_⟩
      all_goals simp_all [-Int32.not_lt, -Nat.not_lt, zb, fx, fa, mvT, flp, cntIn, cntRk, cntBu, sumSa, wHan]
theorem s_X8_turnOver {l : Launch} (hf : l.stackTraces = false) {n : Nat} (hn : n ≤ 12) (hc : M 1 2 = nI n) {x : Int32} : V_X8_turnOver l [.ref 455, .int x] (hp M r) (VI (wTur M x).1 (hp (wTur M x).2 r)) := by
  refine VM.intro (lf := L9 (some (.ref 455)) (some (.int x)) none none none none none none none) (by decide +kernel) hf (fun _ => (Nat.le_of_ble_eq_true rfl)) (fun _ => rfl) ?_
  refine R_aload_n dX8_turnOver_0 rfl rfl ?_
  refine G_get cok8 0 wf_X8_9 dX8_turnOver_1 (by first | exact rfl | exact hsf isH1 (by omega) | assumption) ⟨(Nat.le_of_ble_eq_true rfl), (Nat.le_of_ble_eq_true rfl)⟩ rfl ?_
  refine R_iload_n dX8_turnOver_4 rfl rfl ?_
  refine G_cV1 cw_X8_35 (s_X3_has hf isH1) dX8_turnOver_5 (rcv cok3 (by first | exact rfl | exact hsf isH1 (by omega) | assumption) (Nat.le_of_ble_eq_true rfl)) ⟨(Nat.le_of_ble_eq_true rfl), (Nat.le_of_ble_eq_true rfl), (Nat.le_of_ble_eq_true rfl), (Nat.le_of_ble_eq_true rfl)⟩ ?_
  refine R_if_ne (tgt := 27) dX8_turnOver_8 rfl (fun c1 => ?_) (fun c1 => ?_)
  · have hk9 : hasB M 1 x = true := by simpa [zb_n0] using c1
    obtain ⟨k, hk, rfl⟩ := has_k hc hn hk9
    have ek : (nI k).toNatClampNeg = k := nI_cl (by omega)
    refine R_aload_n dX8_turnOver_27 rfl rfl ?_
    refine G_get cok8 0 wf_X8_9 dX8_turnOver_28 (by first | exact rfl | exact hsf isH1 (by omega) | assumption) ⟨(Nat.le_of_ble_eq_true rfl), (Nat.le_of_ble_eq_true rfl)⟩ rfl ?_
    refine R_iload_n dX8_turnOver_31 rfl rfl ?_
    refine G_cV1 cw_X8_39 (s_X3_fishAt hf isH1 (by omega)) dX8_turnOver_32 (rcv cok3 (by first | exact rfl | exact hsf isH1 (by omega) | assumption) (Nat.le_of_ble_eq_true rfl)) ⟨(Nat.le_of_ble_eq_true rfl), (Nat.le_of_ble_eq_true rfl), (Nat.le_of_ble_eq_true rfl), (Nat.le_of_ble_eq_true rfl)⟩ ?_
    refine R_astore_n dX8_turnOver_35 rfl (by decide) (st2 rfl) ?_
    refine R_aload_n dX8_turnOver_36 rfl rfl ?_
    refine G_cV0 cw_X8_71 (s_X0_hangs hf (hsf isH1 (by omega))) dX8_turnOver_37 (rcv cok0 (by first | exact rfl | exact hsf isH1 (by omega) | assumption) (Nat.le_of_ble_eq_true rfl)) ⟨(Nat.le_of_ble_eq_true rfl), (Nat.le_of_ble_eq_true rfl), (Nat.le_of_ble_eq_true rfl), (Nat.le_of_ble_eq_true rfl)⟩ ?_
    refine R_if_ne (tgt := 57) dX8_turnOver_40 rfl (fun c2 => ?_) (fun c2 => ?_)
    · refine R_aload_n dX8_turnOver_57 rfl rfl ?_
      refine G_cV0v cw_X8_75 (s_X0_flip hf (hsf isH1 (by omega))) dX8_turnOver_58 (rcv cok0 (by first | exact rfl | exact hsf isH1 (by omega) | assumption) (Nat.le_of_ble_eq_true rfl)) ⟨(Nat.le_of_ble_eq_true rfl), (Nat.le_of_ble_eq_true rfl), (Nat.le_of_ble_eq_true rfl), (Nat.le_of_ble_eq_true rfl)⟩ ?_
      refine R_aload_n dX8_turnOver_61 rfl rfl ?_
      refine G_get cok0 7 wf_X8_78 dX8_turnOver_62 (by first | exact rfl | exact hsf isH1 (by omega) | assumption) ⟨(Nat.le_of_ble_eq_true rfl), (Nat.le_of_ble_eq_true rfl)⟩ rfl ?_
      refine R_iret dX8_turnOver_65 rfl (Nat.le_of_ble_eq_true rfl) (Nat.le_of_ble_eq_true rfl) ?_
      refine ⟨?_, congrArg (fun z => hp z r) ?_⟩
      all_goals simp_all [-Int32.not_lt, -Nat.not_lt, zb, fx, fa, mvT, flp, cntIn, cntRk, cntBu, sumSa, wTur, mst]
    · refine R_aload_n dX8_turnOver_43 rfl rfl ?_
      refine G_get cok8 1 wf_X8_15 dX8_turnOver_44 (by first | exact rfl | exact hsf isH1 (by omega) | assumption) ⟨(Nat.le_of_ble_eq_true rfl), (Nat.le_of_ble_eq_true rfl)⟩ rfl ?_
      refine R_bipush (v := 7) dX8_turnOver_47 (by decide) ?_
      refine R_aload_n dX8_turnOver_49 rfl rfl ?_
      refine G_get cok0 4 wf_X8_43 dX8_turnOver_50 (by first | exact rfl | exact hsf isH1 (by omega) | assumption) ⟨(Nat.le_of_ble_eq_true rfl), (Nat.le_of_ble_eq_true rfl)⟩ rfl ?_
      refine G_cV2 cw_X8_19 (s_X5_keep hf) dX8_turnOver_53 (rcv cok5 (by first | exact rfl | exact hsf isH1 (by omega) | assumption) (Nat.le_of_ble_eq_true rfl)) ⟨(Nat.le_of_ble_eq_true rfl), (Nat.le_of_ble_eq_true rfl), (Nat.le_of_ble_eq_true rfl), (Nat.le_of_ble_eq_true rfl)⟩ ?_
      refine R_iret dX8_turnOver_56 rfl (Nat.le_of_ble_eq_true rfl) (Nat.le_of_ble_eq_true rfl) ?_
      refine ⟨?_, congrArg (fun z => hp z r) ?_⟩
      all_goals simp_all [-Int32.not_lt, -Nat.not_lt, zb, fx, fa, mvT, flp, cntIn, cntRk, cntBu, sumSa, wTur, mst]
  · refine R_aload_n dX8_turnOver_11 rfl rfl ?_
    refine G_get cok8 1 wf_X8_15 dX8_turnOver_12 (by first | exact rfl | exact hsf isH1 (by omega) | assumption) ⟨(Nat.le_of_ble_eq_true rfl), (Nat.le_of_ble_eq_true rfl)⟩ rfl ?_
    refine R_iconst (v := 3) dX8_turnOver_15 (by decide) ?_
    refine R_aload_n dX8_turnOver_16 rfl rfl ?_
    refine G_get cok8 0 wf_X8_9 dX8_turnOver_17 (by first | exact rfl | exact hsf isH1 (by omega) | assumption) ⟨(Nat.le_of_ble_eq_true rfl), (Nat.le_of_ble_eq_true rfl)⟩ rfl ?_
    refine G_get cok3 2 wf_X8_25 dX8_turnOver_20 (by first | exact rfl | exact hsf isH1 (by omega) | assumption) ⟨(Nat.le_of_ble_eq_true rfl), (Nat.le_of_ble_eq_true rfl)⟩ rfl ?_
    refine G_cV2 cw_X8_19 (s_X5_keep hf) dX8_turnOver_23 (rcv cok5 (by first | exact rfl | exact hsf isH1 (by omega) | assumption) (Nat.le_of_ble_eq_true rfl)) ⟨(Nat.le_of_ble_eq_true rfl), (Nat.le_of_ble_eq_true rfl), (Nat.le_of_ble_eq_true rfl), (Nat.le_of_ble_eq_true rfl)⟩ ?_
    refine R_iret dX8_turnOver_26 rfl (Nat.le_of_ble_eq_true rfl) (Nat.le_of_ble_eq_true rfl) ?_
    refine ⟨?_, congrArg (fun z => hp z r) ?_⟩
    all_goals simp_all [-Int32.not_lt, -Nat.not_lt, zb, fx, fa, mvT, flp, cntIn, cntRk, cntBu, sumSa, wTur, mst]
theorem s_X8_layLogs {l : Launch} (hf : l.stackTraces = false) {n : Nat} (hn : n ≤ 12) (hc : M 1 2 = nI n) {v : Int32} : V_X8_layLogs l [.ref 455, .int v] (hp M r) (VI (wLog M v).1 (hp (wLog M v).2 r)) := by
  refine VM.intro (lf := L9 (some (.ref 455)) (some (.int v)) none none none none none none none) (by decide +kernel) hf (fun _ => (Nat.le_of_ble_eq_true rfl)) (fun _ => rfl) ?_
  refine R_iload_n dX8_layLogs_0 rfl rfl ?_
  refine R_iconst (v := 1) dX8_layLogs_1 (by decide) ?_
  refine R_icmp_lt (tgt := 11) dX8_layLogs_2 rfl (fun c1 => ?_) (fun c1 => ?_)
  · refine R_aload_n dX8_layLogs_11 rfl rfl ?_
    refine G_get cok8 1 wf_X8_15 dX8_layLogs_12 (by first | exact rfl | exact hsf isH1 (by omega) | assumption) ⟨(Nat.le_of_ble_eq_true rfl), (Nat.le_of_ble_eq_true rfl)⟩ rfl ?_
    refine R_iconst (v := 1) dX8_layLogs_15 (by decide) ?_
    refine R_iconst (v := 0) dX8_layLogs_16 (by decide) ?_
    refine G_cV2 cw_X8_19 (s_X5_keep hf) dX8_layLogs_17 (rcv cok5 (by first | exact rfl | exact hsf isH1 (by omega) | assumption) (Nat.le_of_ble_eq_true rfl)) ⟨(Nat.le_of_ble_eq_true rfl), (Nat.le_of_ble_eq_true rfl), (Nat.le_of_ble_eq_true rfl), (Nat.le_of_ble_eq_true rfl)⟩ ?_
    refine R_iret dX8_layLogs_20 rfl (Nat.le_of_ble_eq_true rfl) (Nat.le_of_ble_eq_true rfl) ?_
    refine ⟨?_, congrArg (fun z => hp z r) ?_⟩
    all_goals simp_all [-Int32.not_lt, -Nat.not_lt, zb, fx, fa, mvT, flp, cntIn, cntRk, cntBu, sumSa, wLog, mst_eq]
  · refine R_iload_n dX8_layLogs_5 rfl rfl ?_
    refine R_bipush (v := 12) dX8_layLogs_6 (by decide) ?_
    refine R_icmp_leN (tgt := 21) dX8_layLogs_8 rfl (fun c2 => ?_) (fun c2 => ?_)
    · refine R_aload_n dX8_layLogs_21 rfl rfl ?_
      refine G_get cok8 0 wf_X8_9 dX8_layLogs_22 (by first | exact rfl | exact hsf isH1 (by omega) | assumption) ⟨(Nat.le_of_ble_eq_true rfl), (Nat.le_of_ble_eq_true rfl)⟩ rfl ?_
      refine G_get cok3 3 wf_X8_84 dX8_layLogs_25 (by first | exact rfl | exact hsf isH1 (by omega) | assumption) ⟨(Nat.le_of_ble_eq_true rfl), (Nat.le_of_ble_eq_true rfl)⟩ rfl ?_
      refine R_iload_n dX8_layLogs_28 rfl rfl ?_
      refine R_iadd dX8_layLogs_29 ?_
      refine R_bipush (v := 12) dX8_layLogs_30 (by decide) ?_
      refine R_icmp_leN (tgt := 46) dX8_layLogs_32 rfl (fun c3 => ?_) (fun c3 => ?_)
      · refine R_aload_n dX8_layLogs_46 rfl rfl ?_
        refine G_get cok8 0 wf_X8_9 dX8_layLogs_47 (by first | exact rfl | exact hsf isH1 (by omega) | assumption) ⟨(Nat.le_of_ble_eq_true rfl), (Nat.le_of_ble_eq_true rfl)⟩ rfl ?_
        refine R_dup dX8_layLogs_50 rfl ?_
        refine G_get cok3 3 wf_X8_84 dX8_layLogs_51 (by first | exact rfl | exact hsf isH1 (by omega) | assumption) ⟨(Nat.le_of_ble_eq_true rfl), (Nat.le_of_ble_eq_true rfl)⟩ rfl ?_
        refine R_iload_n dX8_layLogs_54 rfl rfl ?_
        refine R_iadd dX8_layLogs_55 ?_
        refine G_put cok3 3 wf_X8_84 dX8_layLogs_56 (by first | exact rfl | exact hsf isH1 (by omega) | assumption) rfl ⟨(Nat.le_of_ble_eq_true rfl), rfl, (Nat.le_of_ble_eq_true rfl)⟩ ⟨rfl, rfl⟩ ?_
        refine R_aload_n dX8_layLogs_59 rfl rfl ?_
        refine G_get cok8 0 wf_X8_9 dX8_layLogs_60 (by first | exact rfl | exact hsf isH1 (by omega) | assumption) ⟨(Nat.le_of_ble_eq_true rfl), (Nat.le_of_ble_eq_true rfl)⟩ rfl ?_
        refine G_get cok3 3 wf_X8_84 dX8_layLogs_63 (by first | exact rfl | exact hsf isH1 (by omega) | assumption) ⟨(Nat.le_of_ble_eq_true rfl), (Nat.le_of_ble_eq_true rfl)⟩ rfl ?_
        refine R_iret dX8_layLogs_66 rfl (Nat.le_of_ble_eq_true rfl) (Nat.le_of_ble_eq_true rfl) ?_
        refine ⟨?_, congrArg (fun z => hp z r) ?_⟩
        all_goals simp_all [-Int32.not_lt, -Nat.not_lt, zb, fx, fa, mvT, flp, cntIn, cntRk, cntBu, sumSa, wLog, mst_eq]
      · refine R_aload_n dX8_layLogs_35 rfl rfl ?_
        refine G_get cok8 1 wf_X8_15 dX8_layLogs_36 (by first | exact rfl | exact hsf isH1 (by omega) | assumption) ⟨(Nat.le_of_ble_eq_true rfl), (Nat.le_of_ble_eq_true rfl)⟩ rfl ?_
        refine R_iconst (v := 2) dX8_layLogs_39 (by decide) ?_
        refine R_bipush (v := 12) dX8_layLogs_40 (by decide) ?_
        refine G_cV2 cw_X8_19 (s_X5_keep hf) dX8_layLogs_42 (rcv cok5 (by first | exact rfl | exact hsf isH1 (by omega) | assumption) (Nat.le_of_ble_eq_true rfl)) ⟨(Nat.le_of_ble_eq_true rfl), (Nat.le_of_ble_eq_true rfl), (Nat.le_of_ble_eq_true rfl), (Nat.le_of_ble_eq_true rfl)⟩ ?_
        refine R_iret dX8_layLogs_45 rfl (Nat.le_of_ble_eq_true rfl) (Nat.le_of_ble_eq_true rfl) ?_
        refine ⟨?_, congrArg (fun z => hp z r) ?_⟩
        all_goals simp_all [-Int32.not_lt, -Nat.not_lt, zb, fx, fa, mvT, flp, cntIn, cntRk, cntBu, sumSa, wLog, mst_eq]
    · refine R_aload_n dX8_layLogs_11 rfl rfl ?_
      refine G_get cok8 1 wf_X8_15 dX8_layLogs_12 (by first | exact rfl | exact hsf isH1 (by omega) | assumption) ⟨(Nat.le_of_ble_eq_true rfl), (Nat.le_of_ble_eq_true rfl)⟩ rfl ?_
      refine R_iconst (v := 1) dX8_layLogs_15 (by decide) ?_
      refine R_iconst (v := 0) dX8_layLogs_16 (by decide) ?_
      refine G_cV2 cw_X8_19 (s_X5_keep hf) dX8_layLogs_17 (rcv cok5 (by first | exact rfl | exact hsf isH1 (by omega) | assumption) (Nat.le_of_ble_eq_true rfl)) ⟨(Nat.le_of_ble_eq_true rfl), (Nat.le_of_ble_eq_true rfl), (Nat.le_of_ble_eq_true rfl), (Nat.le_of_ble_eq_true rfl)⟩ ?_
      refine R_iret dX8_layLogs_20 rfl (Nat.le_of_ble_eq_true rfl) (Nat.le_of_ble_eq_true rfl) ?_
      refine ⟨?_, congrArg (fun z => hp z r) ?_⟩
      all_goals simp_all [-Int32.not_lt, -Nat.not_lt, zb, fx, fa, mvT, flp, cntIn, cntRk, cntBu, sumSa, wLog, mst_eq]
theorem s_X8_tellWood {l : Launch} (hf : l.stackTraces = false) {n : Nat} (hn : n ≤ 12) (hc : M 1 2 = nI n) {v : Int32} : V_X8_tellWood l [.ref 455, .int v] (hp M r) (VI (wWoo M v).1 (hp (wWoo M v).2 r)) := by
  refine VM.intro (lf := L9 (some (.ref 455)) (some (.int v)) none none none none none none none) (by decide +kernel) hf (fun _ => (Nat.le_of_ble_eq_true rfl)) (fun _ => rfl) ?_
  refine R_iload_n dX8_tellWood_0 rfl rfl ?_
  refine R_if_lt (tgt := 9) dX8_tellWood_1 rfl (fun c1 => ?_) (fun c1 => ?_)
  · refine R_aload_n dX8_tellWood_9 rfl rfl ?_
    refine G_get cok8 1 wf_X8_15 dX8_tellWood_10 (by first | exact rfl | exact hsf isH1 (by omega) | assumption) ⟨(Nat.le_of_ble_eq_true rfl), (Nat.le_of_ble_eq_true rfl)⟩ rfl ?_
    refine R_iconst (v := 1) dX8_tellWood_13 (by decide) ?_
    refine R_iconst (v := 0) dX8_tellWood_14 (by decide) ?_
    refine G_cV2 cw_X8_19 (s_X5_keep hf) dX8_tellWood_15 (rcv cok5 (by first | exact rfl | exact hsf isH1 (by omega) | assumption) (Nat.le_of_ble_eq_true rfl)) ⟨(Nat.le_of_ble_eq_true rfl), (Nat.le_of_ble_eq_true rfl), (Nat.le_of_ble_eq_true rfl), (Nat.le_of_ble_eq_true rfl)⟩ ?_
    refine R_iret dX8_tellWood_18 rfl (Nat.le_of_ble_eq_true rfl) (Nat.le_of_ble_eq_true rfl) ?_
    refine ⟨?_, congrArg (fun z => hp z r) ?_⟩
    all_goals simp_all [-Int32.not_lt, -Nat.not_lt, zb, fx, fa, mvT, flp, cntIn, cntRk, cntBu, sumSa, wWoo]
  · refine R_iload_n dX8_tellWood_4 rfl rfl ?_
    refine R_iconst (v := 4) dX8_tellWood_5 (by decide) ?_
    refine R_icmp_lt (tgt := 19) dX8_tellWood_6 rfl (fun c2 => ?_) (fun c2 => ?_)
    · refine R_aload_n dX8_tellWood_19 rfl rfl ?_
      refine G_get cok8 0 wf_X8_9 dX8_tellWood_20 (by first | exact rfl | exact hsf isH1 (by omega) | assumption) ⟨(Nat.le_of_ble_eq_true rfl), (Nat.le_of_ble_eq_true rfl)⟩ rfl ?_
      refine G_get cok3 4 wf_X8_87 dX8_tellWood_23 (by first | exact rfl | exact hsf isH1 (by omega) | assumption) ⟨(Nat.le_of_ble_eq_true rfl), (Nat.le_of_ble_eq_true rfl)⟩ rfl ?_
      refine R_istore_n dX8_tellWood_26 rfl (by decide) (st2 rfl) ?_
      refine R_iload_n dX8_tellWood_27 rfl rfl ?_
      refine R_iload_n dX8_tellWood_28 rfl rfl ?_
      refine R_icmp_ne (tgt := 43) dX8_tellWood_29 rfl (fun c3 => ?_) (fun c3 => ?_)
      · refine R_aload_n dX8_tellWood_43 rfl rfl ?_
        refine G_get cok8 0 wf_X8_9 dX8_tellWood_44 (by first | exact rfl | exact hsf isH1 (by omega) | assumption) ⟨(Nat.le_of_ble_eq_true rfl), (Nat.le_of_ble_eq_true rfl)⟩ rfl ?_
        refine R_iload_n dX8_tellWood_47 rfl rfl ?_
        refine G_put cok3 4 wf_X8_87 dX8_tellWood_48 (by first | exact rfl | exact hsf isH1 (by omega) | assumption) rfl ⟨(Nat.le_of_ble_eq_true rfl), rfl, (Nat.le_of_ble_eq_true rfl)⟩ ⟨rfl, rfl⟩ ?_
        refine R_iload_n dX8_tellWood_51 rfl rfl ?_
        refine R_iret dX8_tellWood_52 rfl (Nat.le_of_ble_eq_true rfl) (Nat.le_of_ble_eq_true rfl) ?_
        refine ⟨?_, congrArg (fun z => hp z r) ?_⟩
        all_goals simp_all [-Int32.not_lt, -Nat.not_lt, zb, fx, fa, mvT, flp, cntIn, cntRk, cntBu, sumSa, wWoo]
      · refine R_aload_n dX8_tellWood_32 rfl rfl ?_
        refine G_get cok8 1 wf_X8_15 dX8_tellWood_33 (by first | exact rfl | exact hsf isH1 (by omega) | assumption) ⟨(Nat.le_of_ble_eq_true rfl), (Nat.le_of_ble_eq_true rfl)⟩ rfl ?_
        refine R_bipush (v := 9) dX8_tellWood_36 (by decide) ?_
        refine R_iload_n dX8_tellWood_38 rfl rfl ?_
        refine G_cV2 cw_X8_19 (s_X5_keep hf) dX8_tellWood_39 (rcv cok5 (by first | exact rfl | exact hsf isH1 (by omega) | assumption) (Nat.le_of_ble_eq_true rfl)) ⟨(Nat.le_of_ble_eq_true rfl), (Nat.le_of_ble_eq_true rfl), (Nat.le_of_ble_eq_true rfl), (Nat.le_of_ble_eq_true rfl)⟩ ?_
        refine R_iret dX8_tellWood_42 rfl (Nat.le_of_ble_eq_true rfl) (Nat.le_of_ble_eq_true rfl) ?_
        refine ⟨?_, congrArg (fun z => hp z r) ?_⟩
        all_goals simp_all [-Int32.not_lt, -Nat.not_lt, zb, fx, fa, mvT, flp, cntIn, cntRk, cntBu, sumSa, wWoo]
    · refine R_aload_n dX8_tellWood_9 rfl rfl ?_
      refine G_get cok8 1 wf_X8_15 dX8_tellWood_10 (by first | exact rfl | exact hsf isH1 (by omega) | assumption) ⟨(Nat.le_of_ble_eq_true rfl), (Nat.le_of_ble_eq_true rfl)⟩ rfl ?_
      refine R_iconst (v := 1) dX8_tellWood_13 (by decide) ?_
      refine R_iconst (v := 0) dX8_tellWood_14 (by decide) ?_
      refine G_cV2 cw_X8_19 (s_X5_keep hf) dX8_tellWood_15 (rcv cok5 (by first | exact rfl | exact hsf isH1 (by omega) | assumption) (Nat.le_of_ble_eq_true rfl)) ⟨(Nat.le_of_ble_eq_true rfl), (Nat.le_of_ble_eq_true rfl), (Nat.le_of_ble_eq_true rfl), (Nat.le_of_ble_eq_true rfl)⟩ ?_
      refine R_iret dX8_tellWood_18 rfl (Nat.le_of_ble_eq_true rfl) (Nat.le_of_ble_eq_true rfl) ?_
      refine ⟨?_, congrArg (fun z => hp z r) ?_⟩
      all_goals simp_all [-Int32.not_lt, -Nat.not_lt, zb, fx, fa, mvT, flp, cntIn, cntRk, cntBu, sumSa, wWoo]
theorem L_X8_turnRack {l : Launch} (hf : l.stackTraces = false) {n : Nat} (hn : n ≤ 12) (hc : M 1 2 = nI n) {p : Int32} {v : Int32} : ∀ (j i : Nat), i + j = n → Q_X8_turnRack l (VI v (hp (turR M p n) r)) 43 (L9 (some (.ref 455)) (some (.int p)) (some (.int v)) (some (.int (nI i))) none none none none none) [] (hp (turR M p i) r) := by
  intro j
  induction j with
  | zero =>
    intro i hi
    have hin : n = i := by omega
    subst hin
    have hc9 : turR M p n 1 2 = nI n := by rw [turR_fr n (by omega), hc]
    refine R_iload_n dX8_turnRack_43 rfl rfl ?_
    refine R_aload_n dX8_turnRack_44 rfl rfl ?_
    refine G_get cok8 0 wf_X8_9 dX8_turnRack_45 (by first | exact rfl | exact hsf isH1 (by omega) | assumption) ⟨(Nat.le_of_ble_eq_true rfl), (Nat.le_of_ble_eq_true rfl)⟩ rfl ?_
    refine G_get cok3 2 wf_X8_25 dX8_turnRack_48 (by first | exact rfl | exact hsf isH1 (by omega) | assumption) ⟨(Nat.le_of_ble_eq_true rfl), (Nat.le_of_ble_eq_true rfl)⟩ rfl ?_
    refine R_icmp_ge_t (tgt := 84) dX8_turnRack_51 rfl (by rw [hc9]; exact nI_le (by omega) (by omega)) ?_
    refine R_iload_n dX8_turnRack_84 rfl rfl ?_
    refine R_iret dX8_turnRack_85 rfl (Nat.le_of_ble_eq_true rfl) (Nat.le_of_ble_eq_true rfl) ?_
    exact ⟨rfl, rfl⟩
  | succ j ih =>
    intro i hi
    have hi1 : i < n := by omega
    have hc9 : turR M p i 1 2 = nI n := by rw [turR_fr i (by omega), hc]
    refine R_iload_n dX8_turnRack_43 rfl rfl ?_
    refine R_aload_n dX8_turnRack_44 rfl rfl ?_
    refine G_get cok8 0 wf_X8_9 dX8_turnRack_45 (by first | exact rfl | exact hsf isH1 (by omega) | assumption) ⟨(Nat.le_of_ble_eq_true rfl), (Nat.le_of_ble_eq_true rfl)⟩ rfl ?_
    refine G_get cok3 2 wf_X8_25 dX8_turnRack_48 (by first | exact rfl | exact hsf isH1 (by omega) | assumption) ⟨(Nat.le_of_ble_eq_true rfl), (Nat.le_of_ble_eq_true rfl)⟩ rfl ?_
    refine R_icmp_ge_f (tgt := 84) dX8_turnRack_51 rfl (by rw [hc9]; exact nI_ge (by omega) (by omega)) ?_
    refine R_aload_n dX8_turnRack_54 rfl rfl ?_
    refine G_get cok8 0 wf_X8_9 dX8_turnRack_55 (by first | exact rfl | exact hsf isH1 (by omega) | assumption) ⟨(Nat.le_of_ble_eq_true rfl), (Nat.le_of_ble_eq_true rfl)⟩ rfl ?_
    refine R_iload_n dX8_turnRack_58 rfl rfl ?_
    refine G_cV1 cw_X8_39 (s_X3_fishAt hf isH1 (by omega)) dX8_turnRack_59 (rcv cok3 (by first | exact rfl | exact hsf isH1 (by omega) | assumption) (Nat.le_of_ble_eq_true rfl)) ⟨(Nat.le_of_ble_eq_true rfl), (Nat.le_of_ble_eq_true rfl), (Nat.le_of_ble_eq_true rfl), (Nat.le_of_ble_eq_true rfl)⟩ ?_
    refine R_astore dX8_turnRack_62 (by decide) (st4 rfl) ?_
    refine R_aload dX8_turnRack_64 (by decide) rfl ?_
    refine G_get cok0 5 wf_X8_81 dX8_turnRack_66 (by first | exact rfl | exact hsf isH1 (by omega) | assumption) ⟨(Nat.le_of_ble_eq_true rfl), (Nat.le_of_ble_eq_true rfl)⟩ rfl ?_
    refine R_iload_n dX8_turnRack_69 rfl rfl ?_
    refine R_icmp_ne (tgt := 78) dX8_turnRack_70 rfl (fun c1 => ?_) (fun c1 => ?_)
    · first | refine R_iincN dX8_turnRack_78 (by decide) rfl (by decide) (st3 rfl) ?_ | refine R_iinc1 dX8_turnRack_78 (by decide) rfl (by decide) (st3 rfl) ?_
      refine R_goto (tgt := 43) dX8_turnRack_81 rfl ?_
      refine R_weak dr4 ?_
      have h9 := ih (i + 1) (by omega)
      have e8 : turR M p (i + 1) = if turR M p i (6 + 3 * i) 5 = p then flp (turR M p i) (6 + 3 * i) else turR M p i := rfl
      rw [e8] at h9
      first | (rw [if_pos (by assumption)] at h9; exact h9) | (rw [if_neg (by assumption)] at h9; exact h9)
    · refine R_aload dX8_turnRack_73 (by decide) rfl ?_
      refine G_cV0v cw_X8_75 (s_X0_flip hf (hsf isH1 (by omega))) dX8_turnRack_75 (rcv cok0 (by first | exact rfl | exact hsf isH1 (by omega) | assumption) (Nat.le_of_ble_eq_true rfl)) ⟨(Nat.le_of_ble_eq_true rfl), (Nat.le_of_ble_eq_true rfl), (Nat.le_of_ble_eq_true rfl), (Nat.le_of_ble_eq_true rfl)⟩ ?_
      first | refine R_iincN dX8_turnRack_78 (by decide) rfl (by decide) (st3 rfl) ?_ | refine R_iinc1 dX8_turnRack_78 (by decide) rfl (by decide) (st3 rfl) ?_
      refine R_goto (tgt := 43) dX8_turnRack_81 rfl ?_
      refine R_weak dr4 ?_
      have h9 := ih (i + 1) (by omega)
      have e8 : turR M p (i + 1) = if turR M p i (6 + 3 * i) 5 = p then flp (turR M p i) (6 + 3 * i) else turR M p i := rfl
      rw [e8] at h9
      first | (rw [if_pos (by assumption)] at h9; exact h9) | (rw [if_neg (by assumption)] at h9; exact h9)
theorem s_X8_turnRack {l : Launch} (hf : l.stackTraces = false) {n : Nat} (hn : n ≤ 12) (hc : M 1 2 = nI n) {p : Int32} : V_X8_turnRack l [.ref 455, .int p] (hp M r) (VI (wTrk M n p).1 (hp (wTrk M n p).2 r)) := by
  refine VM.intro (lf := L9 (some (.ref 455)) (some (.int p)) none none none none none none none) (by decide +kernel) hf (fun _ => (Nat.le_of_ble_eq_true rfl)) (fun _ => rfl) ?_
  refine R_iload_n dX8_turnRack_0 rfl rfl ?_
  refine G_cN1 cw_X8_59 (s_X9_isRack hf) dX8_turnRack_1 ⟨(Nat.le_of_ble_eq_true rfl), (Nat.le_of_ble_eq_true rfl), (Nat.le_of_ble_eq_true rfl), (Nat.le_of_ble_eq_true rfl)⟩ ?_
  refine R_if_ne (tgt := 17) dX8_turnRack_4 rfl (fun c1 => ?_) (fun c1 => ?_)
  · refine R_aload_n dX8_turnRack_17 rfl rfl ?_
    refine G_get cok8 0 wf_X8_9 dX8_turnRack_18 (by first | exact rfl | exact hsf isH1 (by omega) | assumption) ⟨(Nat.le_of_ble_eq_true rfl), (Nat.le_of_ble_eq_true rfl)⟩ rfl ?_
    refine R_iload_n dX8_turnRack_21 rfl rfl ?_
    refine G_cV1 cw_X8_68 (s_X3_countOnRack hf isH1 hn hc) dX8_turnRack_22 (rcv cok3 (by first | exact rfl | exact hsf isH1 (by omega) | assumption) (Nat.le_of_ble_eq_true rfl)) ⟨(Nat.le_of_ble_eq_true rfl), (Nat.le_of_ble_eq_true rfl), (Nat.le_of_ble_eq_true rfl), (Nat.le_of_ble_eq_true rfl)⟩ ?_
    refine R_istore_n dX8_turnRack_25 rfl (by decide) (st2 rfl) ?_
    refine R_iload_n dX8_turnRack_26 rfl rfl ?_
    refine R_if_ne (tgt := 41) dX8_turnRack_27 rfl (fun c2 => ?_) (fun c2 => ?_)
    · refine R_iconst (v := 0) dX8_turnRack_41 (by decide) ?_
      refine R_istore_n dX8_turnRack_42 rfl (by decide) (st3 rfl) ?_
      have h9 := L_X8_turnRack (r := r) hf hn hc (p := p) (v := cntRk M p n) n 0 (by omega)
      have e8 : wTrk M n p = (cntRk M p n, turR M p n) := by rw [wTrk, if_neg (by simpa [zb_n0] using c1), if_neg (by assumption)]
      rw [e8]
      exact h9
    · refine R_aload_n dX8_turnRack_30 rfl rfl ?_
      refine G_get cok8 1 wf_X8_15 dX8_turnRack_31 (by first | exact rfl | exact hsf isH1 (by omega) | assumption) ⟨(Nat.le_of_ble_eq_true rfl), (Nat.le_of_ble_eq_true rfl)⟩ rfl ?_
      refine R_bipush (v := 8) dX8_turnRack_34 (by decide) ?_
      refine R_iconst (v := 0) dX8_turnRack_36 (by decide) ?_
      refine G_cV2 cw_X8_19 (s_X5_keep hf) dX8_turnRack_37 (rcv cok5 (by first | exact rfl | exact hsf isH1 (by omega) | assumption) (Nat.le_of_ble_eq_true rfl)) ⟨(Nat.le_of_ble_eq_true rfl), (Nat.le_of_ble_eq_true rfl), (Nat.le_of_ble_eq_true rfl), (Nat.le_of_ble_eq_true rfl)⟩ ?_
      refine R_iret dX8_turnRack_40 rfl (Nat.le_of_ble_eq_true rfl) (Nat.le_of_ble_eq_true rfl) ?_
      refine ⟨?_, congrArg (fun z => hp z r) ?_⟩
      all_goals simp_all [-Int32.not_lt, -Nat.not_lt, zb, fx, fa, mvT, flp, cntIn, cntRk, cntBu, sumSa, wTrk]
  · refine R_aload_n dX8_turnRack_7 rfl rfl ?_
    refine G_get cok8 1 wf_X8_15 dX8_turnRack_8 (by first | exact rfl | exact hsf isH1 (by omega) | assumption) ⟨(Nat.le_of_ble_eq_true rfl), (Nat.le_of_ble_eq_true rfl)⟩ rfl ?_
    refine R_iconst (v := 1) dX8_turnRack_11 (by decide) ?_
    refine R_iconst (v := 0) dX8_turnRack_12 (by decide) ?_
    refine G_cV2 cw_X8_19 (s_X5_keep hf) dX8_turnRack_13 (rcv cok5 (by first | exact rfl | exact hsf isH1 (by omega) | assumption) (Nat.le_of_ble_eq_true rfl)) ⟨(Nat.le_of_ble_eq_true rfl), (Nat.le_of_ble_eq_true rfl), (Nat.le_of_ble_eq_true rfl), (Nat.le_of_ble_eq_true rfl)⟩ ?_
    refine R_iret dX8_turnRack_16 rfl (Nat.le_of_ble_eq_true rfl) (Nat.le_of_ble_eq_true rfl) ?_
    refine ⟨?_, congrArg (fun z => hp z r) ?_⟩
    all_goals simp_all [-Int32.not_lt, -Nat.not_lt, zb, fx, fa, mvT, flp, cntIn, cntRk, cntBu, sumSa, wTrk]
theorem L_X8_passDay {l : Launch} (hf : l.stackTraces = false) {n : Nat} (hn : n ≤ 12) (hc : M 1 2 = nI n) : ∀ (j i : Nat), i + j = n → Q_X8_passDay l (VI (sumSa (mst (dayR M n) 1 6 (M 1 6 + 1)) n) (hp (mst (dayR M n) 1 6 (M 1 6 + 1)) r)) 24 (L9 (some (.ref 455)) (some (.int (nI i))) none none none none none none none) [] (hp (dayR M i) r) := by
  intro j
  induction j with
  | zero =>
    intro i hi
    have hin : n = i := by omega
    subst hin
    have hc9 : dayR M n 1 2 = nI n := by rw [dayR_fr n (by omega), hc]
    have h6 : dayR M n 1 6 = M 1 6 := by rw [dayR_fr n (by omega)]
    refine R_iload_n dX8_passDay_24 rfl rfl ?_
    refine R_aload_n dX8_passDay_25 rfl rfl ?_
    refine G_get cok8 0 wf_X8_9 dX8_passDay_26 (by first | exact rfl | exact hsf isH1 (by omega) | assumption) ⟨(Nat.le_of_ble_eq_true rfl), (Nat.le_of_ble_eq_true rfl)⟩ rfl ?_
    refine G_get cok3 2 wf_X8_25 dX8_passDay_29 (by first | exact rfl | exact hsf isH1 (by omega) | assumption) ⟨(Nat.le_of_ble_eq_true rfl), (Nat.le_of_ble_eq_true rfl)⟩ rfl ?_
    refine R_icmp_ge_t (tgt := 63) dX8_passDay_32 rfl (by rw [hc9]; exact nI_le (by omega) (by omega)) ?_
    refine R_aload_n dX8_passDay_63 rfl rfl ?_
    refine G_get cok8 0 wf_X8_9 dX8_passDay_64 (by first | exact rfl | exact hsf isH1 (by omega) | assumption) ⟨(Nat.le_of_ble_eq_true rfl), (Nat.le_of_ble_eq_true rfl)⟩ rfl ?_
    refine R_dup dX8_passDay_67 rfl ?_
    refine G_get cok3 6 wf_X8_93 dX8_passDay_68 (by first | exact rfl | exact hsf isH1 (by omega) | assumption) ⟨(Nat.le_of_ble_eq_true rfl), (Nat.le_of_ble_eq_true rfl)⟩ rfl ?_
    refine R_iconst (v := 1) dX8_passDay_71 (by decide) ?_
    refine R_iadd dX8_passDay_72 ?_
    refine G_put cok3 6 wf_X8_93 dX8_passDay_73 (by first | exact rfl | exact hsf isH1 (by omega) | assumption) rfl ⟨(Nat.le_of_ble_eq_true rfl), rfl, (Nat.le_of_ble_eq_true rfl)⟩ ⟨rfl, rfl⟩ ?_
    refine R_aload_n dX8_passDay_76 rfl rfl ?_
    refine G_get cok8 0 wf_X8_9 dX8_passDay_77 (by first | exact rfl | exact hsf isH1 (by omega) | assumption) ⟨(Nat.le_of_ble_eq_true rfl), (Nat.le_of_ble_eq_true rfl)⟩ rfl ?_
    refine G_cV0 cw_X8_96 (s_X3_saltInBrine hf isH1 hn (by rw [mst_ne2 (by decide)]; exact hc9)) dX8_passDay_80 (rcv cok3 (by first | exact rfl | exact hsf isH1 (by omega) | assumption) (Nat.le_of_ble_eq_true rfl)) ⟨(Nat.le_of_ble_eq_true rfl), (Nat.le_of_ble_eq_true rfl), (Nat.le_of_ble_eq_true rfl), (Nat.le_of_ble_eq_true rfl)⟩ ?_
    refine R_iret dX8_passDay_83 rfl (Nat.le_of_ble_eq_true rfl) (Nat.le_of_ble_eq_true rfl) ?_
    rw [h6]
    exact ⟨rfl, rfl⟩
  | succ j ih =>
    intro i hi
    have hi1 : i < n := by omega
    have hc9 : dayR M i 1 2 = nI n := by rw [dayR_fr i (by omega), hc]
    refine R_iload_n dX8_passDay_24 rfl rfl ?_
    refine R_aload_n dX8_passDay_25 rfl rfl ?_
    refine G_get cok8 0 wf_X8_9 dX8_passDay_26 (by first | exact rfl | exact hsf isH1 (by omega) | assumption) ⟨(Nat.le_of_ble_eq_true rfl), (Nat.le_of_ble_eq_true rfl)⟩ rfl ?_
    refine G_get cok3 2 wf_X8_25 dX8_passDay_29 (by first | exact rfl | exact hsf isH1 (by omega) | assumption) ⟨(Nat.le_of_ble_eq_true rfl), (Nat.le_of_ble_eq_true rfl)⟩ rfl ?_
    refine R_icmp_ge_f (tgt := 63) dX8_passDay_32 rfl (by rw [hc9]; exact nI_ge (by omega) (by omega)) ?_
    refine R_aload_n dX8_passDay_35 rfl rfl ?_
    refine G_get cok8 0 wf_X8_9 dX8_passDay_36 (by first | exact rfl | exact hsf isH1 (by omega) | assumption) ⟨(Nat.le_of_ble_eq_true rfl), (Nat.le_of_ble_eq_true rfl)⟩ rfl ?_
    refine R_iload_n dX8_passDay_39 rfl rfl ?_
    refine G_cV1 cw_X8_39 (s_X3_fishAt hf isH1 (by omega)) dX8_passDay_40 (rcv cok3 (by first | exact rfl | exact hsf isH1 (by omega) | assumption) (Nat.le_of_ble_eq_true rfl)) ⟨(Nat.le_of_ble_eq_true rfl), (Nat.le_of_ble_eq_true rfl), (Nat.le_of_ble_eq_true rfl), (Nat.le_of_ble_eq_true rfl)⟩ ?_
    refine R_astore_n dX8_passDay_43 rfl (by decide) (st2 rfl) ?_
    refine R_aload_n dX8_passDay_44 rfl rfl ?_
    refine G_get cok0 4 wf_X8_43 dX8_passDay_45 (by first | exact rfl | exact hsf isH1 (by omega) | assumption) ⟨(Nat.le_of_ble_eq_true rfl), (Nat.le_of_ble_eq_true rfl)⟩ rfl ?_
    refine R_iconst (v := 1) dX8_passDay_48 (by decide) ?_
    refine R_icmp_ne (tgt := 57) dX8_passDay_49 rfl (fun c1 => ?_) (fun c1 => ?_)
    · first | refine R_iincN dX8_passDay_57 (by decide) rfl (by decide) (st1 rfl) ?_ | refine R_iinc1 dX8_passDay_57 (by decide) rfl (by decide) (st1 rfl) ?_
      refine R_goto (tgt := 24) dX8_passDay_60 rfl ?_
      refine R_weak dr2 ?_
      have h9 := ih (i + 1) (by omega)
      have e8 : dayR M (i + 1) = if dayR M i (6 + 3 * i) 4 = 1 then mst (dayR M i) (6 + 3 * i) 3 (am (dayR M i (6 + 3 * i) 3 + 2) 9) else dayR M i := rfl
      rw [e8] at h9
      first | (rw [if_pos (by assumption)] at h9; exact h9) | (rw [if_neg (by assumption)] at h9; exact h9)
    · refine R_aload_n dX8_passDay_52 rfl rfl ?_
      refine R_iconst (v := 2) dX8_passDay_53 (by decide) ?_
      refine G_cV1v cw_X8_90 (s_X0_addSalt hf (hsf isH1 (by omega))) dX8_passDay_54 (rcv cok0 (by first | exact rfl | exact hsf isH1 (by omega) | assumption) (Nat.le_of_ble_eq_true rfl)) ⟨(Nat.le_of_ble_eq_true rfl), (Nat.le_of_ble_eq_true rfl), (Nat.le_of_ble_eq_true rfl), (Nat.le_of_ble_eq_true rfl)⟩ ?_
      first | refine R_iincN dX8_passDay_57 (by decide) rfl (by decide) (st1 rfl) ?_ | refine R_iinc1 dX8_passDay_57 (by decide) rfl (by decide) (st1 rfl) ?_
      refine R_goto (tgt := 24) dX8_passDay_60 rfl ?_
      refine R_weak dr2 ?_
      have h9 := ih (i + 1) (by omega)
      have e8 : dayR M (i + 1) = if dayR M i (6 + 3 * i) 4 = 1 then mst (dayR M i) (6 + 3 * i) 3 (am (dayR M i (6 + 3 * i) 3 + 2) 9) else dayR M i := rfl
      rw [e8] at h9
      first | (rw [if_pos (by assumption)] at h9; exact h9) | (rw [if_neg (by assumption)] at h9; exact h9)
theorem s_X8_passDay {l : Launch} (hf : l.stackTraces = false) {n : Nat} (hn : n ≤ 12) (hc : M 1 2 = nI n) : V_X8_passDay l [.ref 455] (hp M r) (VI (wDay M n).1 (hp (wDay M n).2 r)) := by
  refine VM.intro (lf := L9 (some (.ref 455)) none none none none none none none none) (by decide +kernel) hf (fun _ => (Nat.le_of_ble_eq_true rfl)) (fun _ => rfl) ?_
  refine R_aload_n dX8_passDay_0 rfl rfl ?_
  refine G_get cok8 0 wf_X8_9 dX8_passDay_1 (by first | exact rfl | exact hsf isH1 (by omega) | assumption) ⟨(Nat.le_of_ble_eq_true rfl), (Nat.le_of_ble_eq_true rfl)⟩ rfl ?_
  refine R_iconst (v := 1) dX8_passDay_4 (by decide) ?_
  refine G_cV1 cw_X8_52 (s_X3_countIn hf isH1 hn hc) dX8_passDay_5 (rcv cok3 (by first | exact rfl | exact hsf isH1 (by omega) | assumption) (Nat.le_of_ble_eq_true rfl)) ⟨(Nat.le_of_ble_eq_true rfl), (Nat.le_of_ble_eq_true rfl), (Nat.le_of_ble_eq_true rfl), (Nat.le_of_ble_eq_true rfl)⟩ ?_
  refine R_if_ne (tgt := 22) dX8_passDay_8 rfl (fun c1 => ?_) (fun c1 => ?_)
  · refine R_iconst (v := 0) dX8_passDay_22 (by decide) ?_
    refine R_istore_n dX8_passDay_23 rfl (by decide) (st1 rfl) ?_
    have h9 := L_X8_passDay (r := r) hf hn hc n 0 (by omega)
    have e8 : wDay M n = (sumSa (mst (dayR M n) 1 6 (M 1 6 + 1)) n, mst (dayR M n) 1 6 (M 1 6 + 1)) := by rw [wDay, if_neg (by assumption)]
    rw [e8]
    exact h9
  · refine R_aload_n dX8_passDay_11 rfl rfl ?_
    refine G_get cok8 1 wf_X8_15 dX8_passDay_12 (by first | exact rfl | exact hsf isH1 (by omega) | assumption) ⟨(Nat.le_of_ble_eq_true rfl), (Nat.le_of_ble_eq_true rfl)⟩ rfl ?_
    refine R_bipush (v := 8) dX8_passDay_15 (by decide) ?_
    refine R_iconst (v := 0) dX8_passDay_17 (by decide) ?_
    refine G_cV2 cw_X8_19 (s_X5_keep hf) dX8_passDay_18 (rcv cok5 (by first | exact rfl | exact hsf isH1 (by omega) | assumption) (Nat.le_of_ble_eq_true rfl)) ⟨(Nat.le_of_ble_eq_true rfl), (Nat.le_of_ble_eq_true rfl), (Nat.le_of_ble_eq_true rfl), (Nat.le_of_ble_eq_true rfl)⟩ ?_
    refine R_iret dX8_passDay_21 rfl (Nat.le_of_ble_eq_true rfl) (Nat.le_of_ble_eq_true rfl) ?_
    refine ⟨?_, congrArg (fun z => hp z r) ?_⟩
    all_goals simp_all [-Int32.not_lt, -Nat.not_lt, zb, fx, fa, mvT, flp, cntIn, cntRk, cntBu, sumSa, wDay]
theorem L_X8_passHours {l : Launch} (hf : l.stackTraces = false) {n : Nat} (hn : n ≤ 12) (hc : M 1 2 = nI n) {m : Nat} (hm : m ≤ 24) : ∀ (j i : Nat), i + j = m → Q_X8_passHours l (VI (cntBu (hrsR M n m) n) (hp (hrsR M n m) r)) 23 (L9 (some (.ref 455)) (some (.int (nI m))) (some (.int (nI i))) none none none none none none) [] (hp (hrsR M n i) r) := by
  intro j
  induction j with
  | zero =>
    intro i hi
    have hin : m = i := by omega
    subst hin
    refine R_iload_n dX8_passHours_23 rfl rfl ?_
    refine R_iload_n dX8_passHours_24 rfl rfl ?_
    refine R_icmp_ge_t (tgt := 41) dX8_passHours_25 rfl (nI_le (by omega) (by omega)) ?_
    refine R_aload_n dX8_passHours_41 rfl rfl ?_
    refine G_get cok8 0 wf_X8_9 dX8_passHours_42 (by first | exact rfl | exact hsf isH1 (by omega) | assumption) ⟨(Nat.le_of_ble_eq_true rfl), (Nat.le_of_ble_eq_true rfl)⟩ rfl ?_
    refine G_cV0 cw_X8_103 (s_X3_burntCount hf isH1 hn (by rw [hrsR_n]; exact hc)) dX8_passHours_45 (rcv cok3 (by first | exact rfl | exact hsf isH1 (by omega) | assumption) (Nat.le_of_ble_eq_true rfl)) ⟨(Nat.le_of_ble_eq_true rfl), (Nat.le_of_ble_eq_true rfl), (Nat.le_of_ble_eq_true rfl), (Nat.le_of_ble_eq_true rfl)⟩ ?_
    refine R_iret dX8_passHours_48 rfl (Nat.le_of_ble_eq_true rfl) (Nat.le_of_ble_eq_true rfl) ?_
    exact ⟨rfl, rfl⟩
  | succ j ih =>
    intro i hi
    have hi1 : i < m := by omega
    refine R_iload_n dX8_passHours_23 rfl rfl ?_
    refine R_iload_n dX8_passHours_24 rfl rfl ?_
    refine R_icmp_ge_f (tgt := 41) dX8_passHours_25 rfl (nI_ge (by omega) (by omega)) ?_
    refine R_aload_n dX8_passHours_28 rfl rfl ?_
    refine G_get cok8 0 wf_X8_9 dX8_passHours_29 (by first | exact rfl | exact hsf isH1 (by omega) | assumption) ⟨(Nat.le_of_ble_eq_true rfl), (Nat.le_of_ble_eq_true rfl)⟩ rfl ?_
    refine G_cV0v cw_X8_100 (s_X3_passHour hf isH1 hn (by rw [hrsR_n]; exact hc)) dX8_passHours_32 (rcv cok3 (by first | exact rfl | exact hsf isH1 (by omega) | assumption) (Nat.le_of_ble_eq_true rfl)) ⟨(Nat.le_of_ble_eq_true rfl), (Nat.le_of_ble_eq_true rfl), (Nat.le_of_ble_eq_true rfl), (Nat.le_of_ble_eq_true rfl)⟩ ?_
    first | refine R_iincN dX8_passHours_35 (by decide) rfl (by decide) (st2 rfl) ?_ | refine R_iinc1 dX8_passHours_35 (by decide) rfl (by decide) (st2 rfl) ?_
    refine R_goto (tgt := 23) dX8_passHours_38 rfl ?_
    have h9 := ih (i + 1) (by omega)
    exact h9
theorem s_X8_passHours {l : Launch} (hf : l.stackTraces = false) {n : Nat} (hn : n ≤ 12) (hc : M 1 2 = nI n) {v : Int32} : V_X8_passHours l [.ref 455, .int v] (hp M r) (VI (wHrs M n v).1 (hp (wHrs M n v).2 r)) := by
  refine VM.intro (lf := L9 (some (.ref 455)) (some (.int v)) none none none none none none none) (by decide +kernel) hf (fun _ => (Nat.le_of_ble_eq_true rfl)) (fun _ => rfl) ?_
  refine R_iload_n dX8_passHours_0 rfl rfl ?_
  refine R_iconst (v := 1) dX8_passHours_1 (by decide) ?_
  refine R_icmp_lt (tgt := 11) dX8_passHours_2 rfl (fun c1 => ?_) (fun c1 => ?_)
  · refine R_aload_n dX8_passHours_11 rfl rfl ?_
    refine G_get cok8 1 wf_X8_15 dX8_passHours_12 (by first | exact rfl | exact hsf isH1 (by omega) | assumption) ⟨(Nat.le_of_ble_eq_true rfl), (Nat.le_of_ble_eq_true rfl)⟩ rfl ?_
    refine R_iconst (v := 1) dX8_passHours_15 (by decide) ?_
    refine R_iconst (v := 0) dX8_passHours_16 (by decide) ?_
    refine G_cV2 cw_X8_19 (s_X5_keep hf) dX8_passHours_17 (rcv cok5 (by first | exact rfl | exact hsf isH1 (by omega) | assumption) (Nat.le_of_ble_eq_true rfl)) ⟨(Nat.le_of_ble_eq_true rfl), (Nat.le_of_ble_eq_true rfl), (Nat.le_of_ble_eq_true rfl), (Nat.le_of_ble_eq_true rfl)⟩ ?_
    refine R_iret dX8_passHours_20 rfl (Nat.le_of_ble_eq_true rfl) (Nat.le_of_ble_eq_true rfl) ?_
    refine ⟨?_, congrArg (fun z => hp z r) ?_⟩
    all_goals simp_all [-Int32.not_lt, -Nat.not_lt, zb, fx, fa, mvT, flp, cntIn, cntRk, cntBu, sumSa, wHrs]
  · refine R_iload_n dX8_passHours_5 rfl rfl ?_
    refine R_bipush (v := 24) dX8_passHours_6 (by decide) ?_
    refine R_icmp_leN (tgt := 21) dX8_passHours_8 rfl (fun c2 => ?_) (fun c2 => ?_)
    · refine R_iconst (v := 0) dX8_passHours_21 (by decide) ?_
      refine R_istore_n dX8_passHours_22 rfl (by decide) (st2 rfl) ?_
      obtain ⟨m, hm, rfl⟩ := inR_k (x := v) (m := 25) (n := 25) rfl (by omega) (by have := hr24 c1 c2; exact this)
      have h9 := L_X8_passHours (r := r) hf hn hc (m := m) (by omega) m 0 (by omega)
      have e8 : wHrs M n (nI m) = (cntBu (hrsR M n m) n, hrsR M n m) := by rw [wHrs, if_neg (not_or.mpr ⟨c1, c2⟩), nI_cl (by omega)]
      rw [e8]
      exact h9
    · refine R_aload_n dX8_passHours_11 rfl rfl ?_
      refine G_get cok8 1 wf_X8_15 dX8_passHours_12 (by first | exact rfl | exact hsf isH1 (by omega) | assumption) ⟨(Nat.le_of_ble_eq_true rfl), (Nat.le_of_ble_eq_true rfl)⟩ rfl ?_
      refine R_iconst (v := 1) dX8_passHours_15 (by decide) ?_
      refine R_iconst (v := 0) dX8_passHours_16 (by decide) ?_
      refine G_cV2 cw_X8_19 (s_X5_keep hf) dX8_passHours_17 (rcv cok5 (by first | exact rfl | exact hsf isH1 (by omega) | assumption) (Nat.le_of_ble_eq_true rfl)) ⟨(Nat.le_of_ble_eq_true rfl), (Nat.le_of_ble_eq_true rfl), (Nat.le_of_ble_eq_true rfl), (Nat.le_of_ble_eq_true rfl)⟩ ?_
      refine R_iret dX8_passHours_20 rfl (Nat.le_of_ble_eq_true rfl) (Nat.le_of_ble_eq_true rfl) ?_
      refine ⟨?_, congrArg (fun z => hp z r) ?_⟩
      all_goals simp_all [-Int32.not_lt, -Nat.not_lt, zb, fx, fa, mvT, flp, cntIn, cntRk, cntBu, sumSa, wHrs]
theorem s_X8_sellOff {l : Launch} (hf : l.stackTraces = false) {n : Nat} (hn : n ≤ 12) (hc : M 1 2 = nI n) {x : Int32} (hz : ∀ i, i < n → M (6 + 3 * i) 8 = 0 ∨ M (6 + 3 * i) 8 = 1) : V_X8_sellOff l [.ref 455, .int x] (hp M r) (VI (wSel M n x).1 (hp (wSel M n x).2 r)) := by
  refine VM.intro (lf := L9 (some (.ref 455)) (some (.int x)) none none none none none none none) (by decide +kernel) hf (fun _ => (Nat.le_of_ble_eq_true rfl)) (fun _ => rfl) ?_
  refine R_aload_n dX8_sellOff_0 rfl rfl ?_
  refine G_get cok8 0 wf_X8_9 dX8_sellOff_1 (by first | exact rfl | exact hsf isH1 (by omega) | assumption) ⟨(Nat.le_of_ble_eq_true rfl), (Nat.le_of_ble_eq_true rfl)⟩ rfl ?_
  refine R_iload_n dX8_sellOff_4 rfl rfl ?_
  refine G_cV1 cw_X8_35 (s_X3_has hf isH1) dX8_sellOff_5 (rcv cok3 (by first | exact rfl | exact hsf isH1 (by omega) | assumption) (Nat.le_of_ble_eq_true rfl)) ⟨(Nat.le_of_ble_eq_true rfl), (Nat.le_of_ble_eq_true rfl), (Nat.le_of_ble_eq_true rfl), (Nat.le_of_ble_eq_true rfl)⟩ ?_
  refine R_if_ne (tgt := 27) dX8_sellOff_8 rfl (fun c1 => ?_) (fun c1 => ?_)
  · have hk9 : hasB M 1 x = true := by simpa [zb_n0] using c1
    obtain ⟨k, hk, rfl⟩ := has_k hc hn hk9
    have ek : (nI k).toNatClampNeg = k := nI_cl (by omega)
    refine R_aload_n dX8_sellOff_27 rfl rfl ?_
    refine G_get cok8 0 wf_X8_9 dX8_sellOff_28 (by first | exact rfl | exact hsf isH1 (by omega) | assumption) ⟨(Nat.le_of_ble_eq_true rfl), (Nat.le_of_ble_eq_true rfl)⟩ rfl ?_
    refine R_iload_n dX8_sellOff_31 rfl rfl ?_
    refine G_cV1 cw_X8_39 (s_X3_fishAt hf isH1 (by omega)) dX8_sellOff_32 (rcv cok3 (by first | exact rfl | exact hsf isH1 (by omega) | assumption) (Nat.le_of_ble_eq_true rfl)) ⟨(Nat.le_of_ble_eq_true rfl), (Nat.le_of_ble_eq_true rfl), (Nat.le_of_ble_eq_true rfl), (Nat.le_of_ble_eq_true rfl)⟩ ?_
    refine R_astore_n dX8_sellOff_35 rfl (by decide) (st2 rfl) ?_
    refine R_aload_n dX8_sellOff_36 rfl rfl ?_
    refine G_cV0 cw_X8_106 (s_X0_isReady hf (hsf isH1 (by omega))) dX8_sellOff_37 (rcv cok0 (by first | exact rfl | exact hsf isH1 (by omega) | assumption) (Nat.le_of_ble_eq_true rfl)) ⟨(Nat.le_of_ble_eq_true rfl), (Nat.le_of_ble_eq_true rfl), (Nat.le_of_ble_eq_true rfl), (Nat.le_of_ble_eq_true rfl)⟩ ?_
    refine R_if_ne (tgt := 69) dX8_sellOff_40 rfl (fun c2 => ?_) (fun c2 => ?_)
    · refine R_aload_n dX8_sellOff_69 rfl rfl ?_
      refine G_cV0 cw_X8_115 (s_X0_price hf (hsf isH1 (by omega))) dX8_sellOff_70 (rcv cok0 (by first | exact rfl | exact hsf isH1 (by omega) | assumption) (Nat.le_of_ble_eq_true rfl)) ⟨(Nat.le_of_ble_eq_true rfl), (Nat.le_of_ble_eq_true rfl), (Nat.le_of_ble_eq_true rfl), (Nat.le_of_ble_eq_true rfl)⟩ ?_
      refine R_istore_n dX8_sellOff_73 rfl (by decide) (st3 rfl) ?_
      refine R_aload_n dX8_sellOff_74 rfl rfl ?_
      refine G_get cok8 0 wf_X8_9 dX8_sellOff_75 (by first | exact rfl | exact hsf isH1 (by omega) | assumption) ⟨(Nat.le_of_ble_eq_true rfl), (Nat.le_of_ble_eq_true rfl)⟩ rfl ?_
      refine R_dup dX8_sellOff_78 rfl ?_
      refine G_get cok3 7 wf_X8_118 dX8_sellOff_79 (by first | exact rfl | exact hsf isH1 (by omega) | assumption) ⟨(Nat.le_of_ble_eq_true rfl), (Nat.le_of_ble_eq_true rfl)⟩ rfl ?_
      refine R_iconst (v := 1) dX8_sellOff_82 (by decide) ?_
      refine R_iadd dX8_sellOff_83 ?_
      refine G_put cok3 7 wf_X8_118 dX8_sellOff_84 (by first | exact rfl | exact hsf isH1 (by omega) | assumption) rfl ⟨(Nat.le_of_ble_eq_true rfl), rfl, (Nat.le_of_ble_eq_true rfl)⟩ ⟨rfl, rfl⟩ ?_
      refine R_aload_n dX8_sellOff_87 rfl rfl ?_
      refine G_get cok8 0 wf_X8_9 dX8_sellOff_88 (by first | exact rfl | exact hsf isH1 (by omega) | assumption) ⟨(Nat.le_of_ble_eq_true rfl), (Nat.le_of_ble_eq_true rfl)⟩ rfl ?_
      refine R_dup dX8_sellOff_91 rfl ?_
      refine G_get cok3 8 wf_X8_121 dX8_sellOff_92 (by first | exact rfl | exact hsf isH1 (by omega) | assumption) ⟨(Nat.le_of_ble_eq_true rfl), (Nat.le_of_ble_eq_true rfl)⟩ rfl ?_
      refine R_iload_n dX8_sellOff_95 rfl rfl ?_
      refine R_iadd dX8_sellOff_96 ?_
      refine G_put cok3 8 wf_X8_121 dX8_sellOff_97 (by first | exact rfl | exact hsf isH1 (by omega) | assumption) rfl ⟨(Nat.le_of_ble_eq_true rfl), rfl, (Nat.le_of_ble_eq_true rfl)⟩ ⟨rfl, rfl⟩ ?_
      refine R_aload_n dX8_sellOff_100 rfl rfl ?_
      refine G_get cok8 0 wf_X8_9 dX8_sellOff_101 (by first | exact rfl | exact hsf isH1 (by omega) | assumption) ⟨(Nat.le_of_ble_eq_true rfl), (Nat.le_of_ble_eq_true rfl)⟩ rfl ?_
      refine R_iload_n dX8_sellOff_104 rfl rfl ?_
      refine G_cV1v cw_X8_124 (s_X3_removeFish hf isH1 hk hn (by simpa [mst] using hc) (fun i hi => by have := hz i hi; simpa [mst, show ¬ 6 + 3 * i = 1 by omega] using this)) dX8_sellOff_105 (rcv cok3 (by first | exact rfl | exact hsf isH1 (by omega) | assumption) (Nat.le_of_ble_eq_true rfl)) ⟨(Nat.le_of_ble_eq_true rfl), (Nat.le_of_ble_eq_true rfl), (Nat.le_of_ble_eq_true rfl), (Nat.le_of_ble_eq_true rfl)⟩ ?_
      refine R_iload_n dX8_sellOff_108 rfl rfl ?_
      refine R_iret dX8_sellOff_109 rfl (Nat.le_of_ble_eq_true rfl) (Nat.le_of_ble_eq_true rfl) ?_
      refine ⟨?_, congrArg (fun z => hp z r) ?_⟩
      all_goals simp_all [-Int32.not_lt, -Nat.not_lt, zb, fx, fa, mvT, flp, cntIn, cntRk, cntBu, sumSa, wSel, mst_ne2]
    · refine R_aload_n dX8_sellOff_43 rfl rfl ?_
      refine G_get cok8 1 wf_X8_15 dX8_sellOff_44 (by first | exact rfl | exact hsf isH1 (by omega) | assumption) ⟨(Nat.le_of_ble_eq_true rfl), (Nat.le_of_ble_eq_true rfl)⟩ rfl ?_
      refine R_bipush (v := 10) dX8_sellOff_47 (by decide) ?_
      refine R_aload_n dX8_sellOff_49 rfl rfl ?_
      refine G_cV0 cw_X8_109 (s_X0_isBurnt hf (hsf isH1 (by omega))) dX8_sellOff_50 (rcv cok0 (by first | exact rfl | exact hsf isH1 (by omega) | assumption) (Nat.le_of_ble_eq_true rfl)) ⟨(Nat.le_of_ble_eq_true rfl), (Nat.le_of_ble_eq_true rfl), (Nat.le_of_ble_eq_true rfl), (Nat.le_of_ble_eq_true rfl)⟩ ?_
      refine R_if_eq (tgt := 61) dX8_sellOff_53 rfl (fun c3 => ?_) (fun c3 => ?_)
      · refine R_aload_n dX8_sellOff_61 rfl rfl ?_
        refine G_cV0 cw_X8_112 (s_X0_smokeLacking hf (hsf isH1 (by omega))) dX8_sellOff_62 (rcv cok0 (by first | exact rfl | exact hsf isH1 (by omega) | assumption) (Nat.le_of_ble_eq_true rfl)) ⟨(Nat.le_of_ble_eq_true rfl), (Nat.le_of_ble_eq_true rfl), (Nat.le_of_ble_eq_true rfl), (Nat.le_of_ble_eq_true rfl)⟩ ?_
        refine G_cV2 cw_X8_19 (s_X5_keep hf) dX8_sellOff_65 (rcv cok5 (by first | exact rfl | exact hsf isH1 (by omega) | assumption) (Nat.le_of_ble_eq_true rfl)) ⟨(Nat.le_of_ble_eq_true rfl), (Nat.le_of_ble_eq_true rfl), (Nat.le_of_ble_eq_true rfl), (Nat.le_of_ble_eq_true rfl)⟩ ?_
        refine R_iret dX8_sellOff_68 rfl (Nat.le_of_ble_eq_true rfl) (Nat.le_of_ble_eq_true rfl) ?_
        refine ⟨?_, congrArg (fun z => hp z r) ?_⟩
        all_goals simp_all [-Int32.not_lt, -Nat.not_lt, zb, fx, fa, mvT, flp, cntIn, cntRk, cntBu, sumSa, wSel, mst_ne2]
      · refine R_bipush (v := 100) dX8_sellOff_56 (by decide) ?_
        refine R_goto (tgt := 65) dX8_sellOff_58 rfl ?_
        refine G_cV2 cw_X8_19 (s_X5_keep hf) dX8_sellOff_65 (rcv cok5 (by first | exact rfl | exact hsf isH1 (by omega) | assumption) (Nat.le_of_ble_eq_true rfl)) ⟨(Nat.le_of_ble_eq_true rfl), (Nat.le_of_ble_eq_true rfl), (Nat.le_of_ble_eq_true rfl), (Nat.le_of_ble_eq_true rfl)⟩ ?_
        refine R_iret dX8_sellOff_68 rfl (Nat.le_of_ble_eq_true rfl) (Nat.le_of_ble_eq_true rfl) ?_
        refine ⟨?_, congrArg (fun z => hp z r) ?_⟩
        all_goals simp_all [-Int32.not_lt, -Nat.not_lt, zb, fx, fa, mvT, flp, cntIn, cntRk, cntBu, sumSa, wSel, mst_ne2]
  · refine R_aload_n dX8_sellOff_11 rfl rfl ?_
    refine G_get cok8 1 wf_X8_15 dX8_sellOff_12 (by first | exact rfl | exact hsf isH1 (by omega) | assumption) ⟨(Nat.le_of_ble_eq_true rfl), (Nat.le_of_ble_eq_true rfl)⟩ rfl ?_
    refine R_iconst (v := 3) dX8_sellOff_15 (by decide) ?_
    refine R_aload_n dX8_sellOff_16 rfl rfl ?_
    refine G_get cok8 0 wf_X8_9 dX8_sellOff_17 (by first | exact rfl | exact hsf isH1 (by omega) | assumption) ⟨(Nat.le_of_ble_eq_true rfl), (Nat.le_of_ble_eq_true rfl)⟩ rfl ?_
    refine G_get cok3 2 wf_X8_25 dX8_sellOff_20 (by first | exact rfl | exact hsf isH1 (by omega) | assumption) ⟨(Nat.le_of_ble_eq_true rfl), (Nat.le_of_ble_eq_true rfl)⟩ rfl ?_
    refine G_cV2 cw_X8_19 (s_X5_keep hf) dX8_sellOff_23 (rcv cok5 (by first | exact rfl | exact hsf isH1 (by omega) | assumption) (Nat.le_of_ble_eq_true rfl)) ⟨(Nat.le_of_ble_eq_true rfl), (Nat.le_of_ble_eq_true rfl), (Nat.le_of_ble_eq_true rfl), (Nat.le_of_ble_eq_true rfl)⟩ ?_
    refine R_iret dX8_sellOff_26 rfl (Nat.le_of_ble_eq_true rfl) (Nat.le_of_ble_eq_true rfl) ?_
    refine ⟨?_, congrArg (fun z => hp z r) ?_⟩
    all_goals simp_all [-Int32.not_lt, -Nat.not_lt, zb, fx, fa, mvT, flp, cntIn, cntRk, cntBu, sumSa, wSel, mst_ne2]
theorem s_X8_discard {l : Launch} (hf : l.stackTraces = false) {n : Nat} (hn : n ≤ 12) (hc : M 1 2 = nI n) {x : Int32} (hz : ∀ i, i < n → M (6 + 3 * i) 8 = 0 ∨ M (6 + 3 * i) 8 = 1) : V_X8_discard l [.ref 455, .int x] (hp M r) (VI (wDis M n x).1 (hp (wDis M n x).2 r)) := by
  refine VM.intro (lf := L9 (some (.ref 455)) (some (.int x)) none none none none none none none) (by decide +kernel) hf (fun _ => (Nat.le_of_ble_eq_true rfl)) (fun _ => rfl) ?_
  refine R_aload_n dX8_discard_0 rfl rfl ?_
  refine G_get cok8 0 wf_X8_9 dX8_discard_1 (by first | exact rfl | exact hsf isH1 (by omega) | assumption) ⟨(Nat.le_of_ble_eq_true rfl), (Nat.le_of_ble_eq_true rfl)⟩ rfl ?_
  refine R_iload_n dX8_discard_4 rfl rfl ?_
  refine G_cV1 cw_X8_35 (s_X3_has hf isH1) dX8_discard_5 (rcv cok3 (by first | exact rfl | exact hsf isH1 (by omega) | assumption) (Nat.le_of_ble_eq_true rfl)) ⟨(Nat.le_of_ble_eq_true rfl), (Nat.le_of_ble_eq_true rfl), (Nat.le_of_ble_eq_true rfl), (Nat.le_of_ble_eq_true rfl)⟩ ?_
  refine R_if_ne (tgt := 27) dX8_discard_8 rfl (fun c1 => ?_) (fun c1 => ?_)
  · have hk9 : hasB M 1 x = true := by simpa [zb_n0] using c1
    obtain ⟨k, hk, rfl⟩ := has_k hc hn hk9
    have ek : (nI k).toNatClampNeg = k := nI_cl (by omega)
    refine R_aload_n dX8_discard_27 rfl rfl ?_
    refine G_get cok8 0 wf_X8_9 dX8_discard_28 (by first | exact rfl | exact hsf isH1 (by omega) | assumption) ⟨(Nat.le_of_ble_eq_true rfl), (Nat.le_of_ble_eq_true rfl)⟩ rfl ?_
    refine R_iload_n dX8_discard_31 rfl rfl ?_
    refine G_cV1 cw_X8_39 (s_X3_fishAt hf isH1 (by omega)) dX8_discard_32 (rcv cok3 (by first | exact rfl | exact hsf isH1 (by omega) | assumption) (Nat.le_of_ble_eq_true rfl)) ⟨(Nat.le_of_ble_eq_true rfl), (Nat.le_of_ble_eq_true rfl), (Nat.le_of_ble_eq_true rfl), (Nat.le_of_ble_eq_true rfl)⟩ ?_
    refine G_get cok0 2 wf_X8_127 dX8_discard_35 (by first | exact rfl | exact hsf isH1 (by omega) | assumption) ⟨(Nat.le_of_ble_eq_true rfl), (Nat.le_of_ble_eq_true rfl)⟩ rfl ?_
    refine R_istore_n dX8_discard_38 rfl (by decide) (st2 rfl) ?_
    refine R_aload_n dX8_discard_39 rfl rfl ?_
    refine G_get cok8 0 wf_X8_9 dX8_discard_40 (by first | exact rfl | exact hsf isH1 (by omega) | assumption) ⟨(Nat.le_of_ble_eq_true rfl), (Nat.le_of_ble_eq_true rfl)⟩ rfl ?_
    refine R_dup dX8_discard_43 rfl ?_
    refine G_get cok3 9 wf_X8_130 dX8_discard_44 (by first | exact rfl | exact hsf isH1 (by omega) | assumption) ⟨(Nat.le_of_ble_eq_true rfl), (Nat.le_of_ble_eq_true rfl)⟩ rfl ?_
    refine R_iconst (v := 1) dX8_discard_47 (by decide) ?_
    refine R_iadd dX8_discard_48 ?_
    refine G_put cok3 9 wf_X8_130 dX8_discard_49 (by first | exact rfl | exact hsf isH1 (by omega) | assumption) rfl ⟨(Nat.le_of_ble_eq_true rfl), rfl, (Nat.le_of_ble_eq_true rfl)⟩ ⟨rfl, rfl⟩ ?_
    refine R_aload_n dX8_discard_52 rfl rfl ?_
    refine G_get cok8 0 wf_X8_9 dX8_discard_53 (by first | exact rfl | exact hsf isH1 (by omega) | assumption) ⟨(Nat.le_of_ble_eq_true rfl), (Nat.le_of_ble_eq_true rfl)⟩ rfl ?_
    refine R_iload_n dX8_discard_56 rfl rfl ?_
    refine G_cV1v cw_X8_124 (s_X3_removeFish hf isH1 hk hn (by simpa [mst] using hc) (fun i hi => by have := hz i hi; simpa [mst, show ¬ 6 + 3 * i = 1 by omega] using this)) dX8_discard_57 (rcv cok3 (by first | exact rfl | exact hsf isH1 (by omega) | assumption) (Nat.le_of_ble_eq_true rfl)) ⟨(Nat.le_of_ble_eq_true rfl), (Nat.le_of_ble_eq_true rfl), (Nat.le_of_ble_eq_true rfl), (Nat.le_of_ble_eq_true rfl)⟩ ?_
    refine R_iload_n dX8_discard_60 rfl rfl ?_
    refine R_iret dX8_discard_61 rfl (Nat.le_of_ble_eq_true rfl) (Nat.le_of_ble_eq_true rfl) ?_
    refine ⟨?_, congrArg (fun z => hp z r) ?_⟩
    all_goals simp_all [-Int32.not_lt, -Nat.not_lt, zb, fx, fa, mvT, flp, cntIn, cntRk, cntBu, sumSa, wDis]
  · refine R_aload_n dX8_discard_11 rfl rfl ?_
    refine G_get cok8 1 wf_X8_15 dX8_discard_12 (by first | exact rfl | exact hsf isH1 (by omega) | assumption) ⟨(Nat.le_of_ble_eq_true rfl), (Nat.le_of_ble_eq_true rfl)⟩ rfl ?_
    refine R_iconst (v := 3) dX8_discard_15 (by decide) ?_
    refine R_aload_n dX8_discard_16 rfl rfl ?_
    refine G_get cok8 0 wf_X8_9 dX8_discard_17 (by first | exact rfl | exact hsf isH1 (by omega) | assumption) ⟨(Nat.le_of_ble_eq_true rfl), (Nat.le_of_ble_eq_true rfl)⟩ rfl ?_
    refine G_get cok3 2 wf_X8_25 dX8_discard_20 (by first | exact rfl | exact hsf isH1 (by omega) | assumption) ⟨(Nat.le_of_ble_eq_true rfl), (Nat.le_of_ble_eq_true rfl)⟩ rfl ?_
    refine G_cV2 cw_X8_19 (s_X5_keep hf) dX8_discard_23 (rcv cok5 (by first | exact rfl | exact hsf isH1 (by omega) | assumption) (Nat.le_of_ble_eq_true rfl)) ⟨(Nat.le_of_ble_eq_true rfl), (Nat.le_of_ble_eq_true rfl), (Nat.le_of_ble_eq_true rfl), (Nat.le_of_ble_eq_true rfl)⟩ ?_
    refine R_iret dX8_discard_26 rfl (Nat.le_of_ble_eq_true rfl) (Nat.le_of_ble_eq_true rfl) ?_
    refine ⟨?_, congrArg (fun z => hp z r) ?_⟩
    all_goals simp_all [-Int32.not_lt, -Nat.not_lt, zb, fx, fa, mvT, flp, cntIn, cntRk, cntBu, sumSa, wDis]
end P13
