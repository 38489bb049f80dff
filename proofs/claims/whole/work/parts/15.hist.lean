abbrev V_X1_charHourByHour (l : Launch) (As : List Value) (h : HP) (Z : Option Value ⊕ String → HP → Prop) : Prop := VM l yX1_charHourByHour cX1_charHourByHour 5 (some .int) 5 0 0 As h Z
abbrev Q_X1_charHourByHour (l : Launch) (Z : Option Value ⊕ String → HP → Prop) (pc : Nat) (lf : Nat → Option Value) (st : List Value) (h : HP) : Prop := Q l RX1 cX1_charHourByHour 5 5 0 0 (GM (some .int) 0 0 Z) pc lf st h 0 0
abbrev V_X1_charAtOnce (l : Launch) (As : List Value) (h : HP) (Z : Option Value ⊕ String → HP → Prop) : Prop := VM l yX1_charAtOnce cX1_charAtOnce 9 (some .int) 2 0 0 As h Z
abbrev Q_X1_charAtOnce (l : Launch) (Z : Option Value ⊕ String → HP → Prop) (pc : Nat) (lf : Nat → Option Value) (st : List Value) (h : HP) : Prop := Q l RX1 cX1_charAtOnce 9 2 0 0 (GM (some .int) 0 0 Z) pc lf st h 0 0
abbrev V_X1_hoursUntilBurnt (l : Launch) (As : List Value) (h : HP) (Z : Option Value ⊕ String → HP → Prop) : Prop := VM l yX1_hoursUntilBurnt cX1_hoursUntilBurnt 4 (some .int) 5 0 0 As h Z
abbrev Q_X1_hoursUntilBurnt (l : Launch) (Z : Option Value ⊕ String → HP → Prop) (pc : Nat) (lf : Nat → Option Value) (st : List Value) (h : HP) : Prop := Q l RX1 cX1_hoursUntilBurnt 4 5 0 0 (GM (some .int) 0 0 Z) pc lf st h 0 0
abbrev V_X1_hoursUntilReady (l : Launch) (As : List Value) (h : HP) (Z : Option Value ⊕ String → HP → Prop) : Prop := VM l yX1_hoursUntilReady cX1_hoursUntilReady 4 (some .int) 5 0 0 As h Z
abbrev Q_X1_hoursUntilReady (l : Launch) (Z : Option Value ⊕ String → HP → Prop) (pc : Nat) (lf : Nat → Option Value) (st : List Value) (h : HP) : Prop := Q l RX1 cX1_hoursUntilReady 4 5 0 0 (GM (some .int) 0 0 Z) pc lf st h 0 0
abbrev V_X1_firstToBurn (l : Launch) (As : List Value) (h : HP) (Z : Option Value ⊕ String → HP → Prop) : Prop := VM l yX1_firstToBurn cX1_firstToBurn 5 (some .int) 6 0 0 As h Z
abbrev Q_X1_firstToBurn (l : Launch) (Z : Option Value ⊕ String → HP → Prop) (pc : Nat) (lf : Nat → Option Value) (st : List Value) (h : HP) : Prop := Q l RX1 cX1_firstToBurn 5 6 0 0 (GM (some .int) 0 0 Z) pc lf st h 0 0
abbrev V_X1_tryHour (l : Launch) (As : List Value) (h : HP) (Z : Option Value ⊕ String → HP → Prop) : Prop := VM l yX1_tryHour cX1_tryHour 3 none 4 0 0 As h Z
abbrev Q_X1_tryHour (l : Launch) (Z : Option Value ⊕ String → HP → Prop) (pc : Nat) (lf : Nat → Option Value) (st : List Value) (h : HP) : Prop := Q l RX1 cX1_tryHour 3 4 0 0 (GM none 0 0 Z) pc lf st h 0 0
def tryF (y : Int32) (M : MM) (i : Nat) : MM := itN (fun i M => smk M 1 457 (mx0 (M 1 3 - nI i)) y) M i
def burnU (y : Int32) : Nat → Nat → MM → Int32 × MM
  | 0, _, M => (-1, M)
  | j + 1, i, M => if fBurnt M 457 = true then (nI i, M) else burnU y j (i + 1) (smk M 1 457 (mx0 (M 1 3 - nI i)) y)
def readU (y : Int32) : Nat → Nat → MM → Int32 × MM
  | 0, _, M => (-1, M)
  | j + 1, i, M => if fReady M 457 = true then (nI i, M) else readU y j (i + 1) (smk (flp M 457) 1 457 (mx0 (M 1 3 - nI i)) y)
theorem burnU_ne {y : Int32} {x : Nat} (hx : x < 457 ∨ 460 ≤ x) : ∀ (j i : Nat) (M : MM), (burnU y j i M).2 x = M x
  | 0, _, _ => rfl
  | j + 1, i, M => by
    rw [burnU]
    split
    · rfl
    · rw [burnU_ne hx j, smk_ne (by omega) (by omega) (by omega)]
def fcst (M : MM) (n i : Nat) : Int32 × MM := burnU (zb (tooNear M 1 i n)) 13 0 (fcp M 457 (6 + 3 * i))
def firF (M : MM) (n : Nat) (i : Nat) : Int32 × Int32 × MM := itN (fun i s => if 0 < (fcst s.2.2 n i).1 then (if (fcst s.2.2 n i).1 < s.2.1 then (nI i, (fcst s.2.2 n i).1, (fcst s.2.2 n i).2) else (s.1, s.2.1, (fcst s.2.2 n i).2)) else (s.1, s.2.1, (fcst s.2.2 n i).2)) (-1, 13, M) i
theorem firF_ne {M : MM} {n x : Nat} (hx : x < 457 ∨ 460 ≤ x) : ∀ (i : Nat), (firF M n i).2.2 x = M x
  | 0 => rfl
  | i + 1 => by
    have h9 : (fcst (firF M n i).2.2 n i).2 x = M x := by
      rw [fcst, burnU_ne hx, fcp_ne (by omega) (by omega) (by omega)]
      exact firF_ne hx i
    have e9 : firF M n (i + 1) = (if 0 < (fcst (firF M n i).2.2 n i).1 then (if (fcst (firF M n i).2.2 n i).1 < (firF M n i).2.1 then (nI i, (fcst (firF M n i).2.2 n i).1, (fcst (firF M n i).2.2 n i).2) else ((firF M n i).1, (firF M n i).2.1, (fcst (firF M n i).2.2 n i).2)) else ((firF M n i).1, (firF M n i).2.1, (fcst (firF M n i).2.2 n i).2)) := rfl
    rw [e9]
    split
    · split <;> exact h9
    · exact h9
def charA (M : MM) (k : Nat) (m : Int32) : Int32 :=
  let c := M (dside M (6 + 3 * k)) 1
  let ab := mx0 (M 1 3 - M (6 + 3 * k) 5) - fBear M (6 + 3 * k)
  let fi := if M (6 + 3 * k) 8 = 0 then 0 else 1
  let en := if ab < m then ab else m
  if M (6 + 3 * k) 4 = 2 then (if fi < en then (if c + (en - fi) * (2 * ab - fi - en + 1) / 2 < 9 then c + (en - fi) * (2 * ab - fi - en + 1) / 2 else 9) else c) else c
section P15
variable {M : MM} {r : MR}
theorem s_X2_keep {l : Launch} (hf : l.stackTraces = false) {n : Nat} (hP : ∀ k, k < 8 → isH (r.1 k)) (h7 : r.1 7 ≠ 42) (hn : n ≤ 12) (hc : M 42 2 = nI n) (hz : ∀ i, i < n → M (42 + 5 + 3 * i) 8 = 0 ∨ M (42 + 5 + 3 * i) 8 = 1) : V_X2_keep l [.ref 124, .ref 42] (hp M r) (VR none (hp (mst (hcp M (r.1 7) 42 n) 124 1 (am (M 124 1 + 1) 8)) (rotR r.1, r.2))) := by
  refine VM.intro (lf := L9 (some (.ref 124)) (some (.ref 42)) none none none none none none none) (by decide +kernel) hf (fun _ => (Nat.le_of_ble_eq_true rfl)) (fun _ => rfl) ?_
  have hs7 := hs0 (hP 7 (by omega))
  refine R_aload_n dX2_keep_0 rfl rfl ?_
  refine G_get cok2 0 wf_X2_11 dX2_keep_1 (by first | exact rfl | assumption) ⟨(Nat.le_of_ble_eq_true rfl), (Nat.le_of_ble_eq_true rfl)⟩ rfl ?_
  refine R_bipush (v := 7) dX2_keep_4 (by decide) ?_
  refine G_houseV (b := r.1 7) dX2_keep_6 (nI_in12 (k := 7) (n := 8) (by omega) (by omega)) rfl ?_
  refine R_astore_n dX2_keep_7 rfl (by decide) (st2 rfl) ?_
  refine R_bipush (v := 7) dX2_keep_8 (by decide) ?_
  refine R_istore_n dX2_keep_10 rfl (by decide) (st3 rfl) ?_
  refine R_iload_n dX2_keep_11 rfl rfl ?_
  refine R_if_le_f (tgt := 35) dX2_keep_12 rfl (by decide) ?_
  refine R_aload_n dX2_keep_15 rfl rfl ?_
  refine G_get cok2 0 wf_X2_11 dX2_keep_16 (by first | exact rfl | assumption) ⟨(Nat.le_of_ble_eq_true rfl), (Nat.le_of_ble_eq_true rfl)⟩ rfl ?_
  refine R_iload_n dX2_keep_19 rfl rfl ?_
  refine R_aload_n dX2_keep_20 rfl rfl ?_
  refine G_get cok2 0 wf_X2_11 dX2_keep_21 (by first | exact rfl | assumption) ⟨(Nat.le_of_ble_eq_true rfl), (Nat.le_of_ble_eq_true rfl)⟩ rfl ?_
  refine R_iload_n dX2_keep_24 rfl rfl ?_
  refine R_iconst (v := 1) dX2_keep_25 (by decide) ?_
  refine R_isub dX2_keep_26 ?_
  refine R_topE (y := 6) (by decide) ?_
  refine G_houseV (b := r.1 6) dX2_keep_27 (nI_in12 (k := 6) (n := 8) (by omega) (by omega)) rfl ?_
  refine G_houses dX2_keep_28 (hs0 (hP 6 (by omega))) (nI_in12 (k := 7) (n := 8) (by omega) (by omega)) ?_
  refine R_iinc (v := 6) dX2_keep_29 (by decide) rfl (by decide) (by decide) (st3 rfl) ?_
  refine R_goto (tgt := 11) dX2_keep_32 rfl ?_
  refine R_iload_n dX2_keep_11 rfl rfl ?_
  refine R_if_le_f (tgt := 35) dX2_keep_12 rfl (by decide) ?_
  refine R_aload_n dX2_keep_15 rfl rfl ?_
  refine G_get cok2 0 wf_X2_11 dX2_keep_16 (by first | exact rfl | assumption) ⟨(Nat.le_of_ble_eq_true rfl), (Nat.le_of_ble_eq_true rfl)⟩ rfl ?_
  refine R_iload_n dX2_keep_19 rfl rfl ?_
  refine R_aload_n dX2_keep_20 rfl rfl ?_
  refine G_get cok2 0 wf_X2_11 dX2_keep_21 (by first | exact rfl | assumption) ⟨(Nat.le_of_ble_eq_true rfl), (Nat.le_of_ble_eq_true rfl)⟩ rfl ?_
  refine R_iload_n dX2_keep_24 rfl rfl ?_
  refine R_iconst (v := 1) dX2_keep_25 (by decide) ?_
  refine R_isub dX2_keep_26 ?_
  refine R_topE (y := 5) (by decide) ?_
  refine G_houseV (b := r.1 5) dX2_keep_27 (nI_in12 (k := 5) (n := 8) (by omega) (by omega)) rfl ?_
  refine G_houses dX2_keep_28 (hs0 (hP 5 (by omega))) (nI_in12 (k := 6) (n := 8) (by omega) (by omega)) ?_
  refine R_iinc (v := 5) dX2_keep_29 (by decide) rfl (by decide) (by decide) (st3 rfl) ?_
  refine R_goto (tgt := 11) dX2_keep_32 rfl ?_
  refine R_iload_n dX2_keep_11 rfl rfl ?_
  refine R_if_le_f (tgt := 35) dX2_keep_12 rfl (by decide) ?_
  refine R_aload_n dX2_keep_15 rfl rfl ?_
  refine G_get cok2 0 wf_X2_11 dX2_keep_16 (by first | exact rfl | assumption) ⟨(Nat.le_of_ble_eq_true rfl), (Nat.le_of_ble_eq_true rfl)⟩ rfl ?_
  refine R_iload_n dX2_keep_19 rfl rfl ?_
  refine R_aload_n dX2_keep_20 rfl rfl ?_
  refine G_get cok2 0 wf_X2_11 dX2_keep_21 (by first | exact rfl | assumption) ⟨(Nat.le_of_ble_eq_true rfl), (Nat.le_of_ble_eq_true rfl)⟩ rfl ?_
  refine R_iload_n dX2_keep_24 rfl rfl ?_
  refine R_iconst (v := 1) dX2_keep_25 (by decide) ?_
  refine R_isub dX2_keep_26 ?_
  refine R_topE (y := 4) (by decide) ?_
  refine G_houseV (b := r.1 4) dX2_keep_27 (nI_in12 (k := 4) (n := 8) (by omega) (by omega)) rfl ?_
  refine G_houses dX2_keep_28 (hs0 (hP 4 (by omega))) (nI_in12 (k := 5) (n := 8) (by omega) (by omega)) ?_
  refine R_iinc (v := 4) dX2_keep_29 (by decide) rfl (by decide) (by decide) (st3 rfl) ?_
  refine R_goto (tgt := 11) dX2_keep_32 rfl ?_
  refine R_iload_n dX2_keep_11 rfl rfl ?_
  refine R_if_le_f (tgt := 35) dX2_keep_12 rfl (by decide) ?_
  refine R_aload_n dX2_keep_15 rfl rfl ?_
  refine G_get cok2 0 wf_X2_11 dX2_keep_16 (by first | exact rfl | assumption) ⟨(Nat.le_of_ble_eq_true rfl), (Nat.le_of_ble_eq_true rfl)⟩ rfl ?_
  refine R_iload_n dX2_keep_19 rfl rfl ?_
  refine R_aload_n dX2_keep_20 rfl rfl ?_
  refine G_get cok2 0 wf_X2_11 dX2_keep_21 (by first | exact rfl | assumption) ⟨(Nat.le_of_ble_eq_true rfl), (Nat.le_of_ble_eq_true rfl)⟩ rfl ?_
  refine R_iload_n dX2_keep_24 rfl rfl ?_
  refine R_iconst (v := 1) dX2_keep_25 (by decide) ?_
  refine R_isub dX2_keep_26 ?_
  refine R_topE (y := 3) (by decide) ?_
  refine G_houseV (b := r.1 3) dX2_keep_27 (nI_in12 (k := 3) (n := 8) (by omega) (by omega)) rfl ?_
  refine G_houses dX2_keep_28 (hs0 (hP 3 (by omega))) (nI_in12 (k := 4) (n := 8) (by omega) (by omega)) ?_
  refine R_iinc (v := 3) dX2_keep_29 (by decide) rfl (by decide) (by decide) (st3 rfl) ?_
  refine R_goto (tgt := 11) dX2_keep_32 rfl ?_
  refine R_iload_n dX2_keep_11 rfl rfl ?_
  refine R_if_le_f (tgt := 35) dX2_keep_12 rfl (by decide) ?_
  refine R_aload_n dX2_keep_15 rfl rfl ?_
  refine G_get cok2 0 wf_X2_11 dX2_keep_16 (by first | exact rfl | assumption) ⟨(Nat.le_of_ble_eq_true rfl), (Nat.le_of_ble_eq_true rfl)⟩ rfl ?_
  refine R_iload_n dX2_keep_19 rfl rfl ?_
  refine R_aload_n dX2_keep_20 rfl rfl ?_
  refine G_get cok2 0 wf_X2_11 dX2_keep_21 (by first | exact rfl | assumption) ⟨(Nat.le_of_ble_eq_true rfl), (Nat.le_of_ble_eq_true rfl)⟩ rfl ?_
  refine R_iload_n dX2_keep_24 rfl rfl ?_
  refine R_iconst (v := 1) dX2_keep_25 (by decide) ?_
  refine R_isub dX2_keep_26 ?_
  refine R_topE (y := 2) (by decide) ?_
  refine G_houseV (b := r.1 2) dX2_keep_27 (nI_in12 (k := 2) (n := 8) (by omega) (by omega)) rfl ?_
  refine G_houses dX2_keep_28 (hs0 (hP 2 (by omega))) (nI_in12 (k := 3) (n := 8) (by omega) (by omega)) ?_
  refine R_iinc (v := 2) dX2_keep_29 (by decide) rfl (by decide) (by decide) (st3 rfl) ?_
  refine R_goto (tgt := 11) dX2_keep_32 rfl ?_
  refine R_iload_n dX2_keep_11 rfl rfl ?_
  refine R_if_le_f (tgt := 35) dX2_keep_12 rfl (by decide) ?_
  refine R_aload_n dX2_keep_15 rfl rfl ?_
  refine G_get cok2 0 wf_X2_11 dX2_keep_16 (by first | exact rfl | assumption) ⟨(Nat.le_of_ble_eq_true rfl), (Nat.le_of_ble_eq_true rfl)⟩ rfl ?_
  refine R_iload_n dX2_keep_19 rfl rfl ?_
  refine R_aload_n dX2_keep_20 rfl rfl ?_
  refine G_get cok2 0 wf_X2_11 dX2_keep_21 (by first | exact rfl | assumption) ⟨(Nat.le_of_ble_eq_true rfl), (Nat.le_of_ble_eq_true rfl)⟩ rfl ?_
  refine R_iload_n dX2_keep_24 rfl rfl ?_
  refine R_iconst (v := 1) dX2_keep_25 (by decide) ?_
  refine R_isub dX2_keep_26 ?_
  refine R_topE (y := 1) (by decide) ?_
  refine G_houseV (b := r.1 1) dX2_keep_27 (nI_in12 (k := 1) (n := 8) (by omega) (by omega)) rfl ?_
  refine G_houses dX2_keep_28 (hs0 (hP 1 (by omega))) (nI_in12 (k := 2) (n := 8) (by omega) (by omega)) ?_
  refine R_iinc (v := 1) dX2_keep_29 (by decide) rfl (by decide) (by decide) (st3 rfl) ?_
  refine R_goto (tgt := 11) dX2_keep_32 rfl ?_
  refine R_iload_n dX2_keep_11 rfl rfl ?_
  refine R_if_le_f (tgt := 35) dX2_keep_12 rfl (by decide) ?_
  refine R_aload_n dX2_keep_15 rfl rfl ?_
  refine G_get cok2 0 wf_X2_11 dX2_keep_16 (by first | exact rfl | assumption) ⟨(Nat.le_of_ble_eq_true rfl), (Nat.le_of_ble_eq_true rfl)⟩ rfl ?_
  refine R_iload_n dX2_keep_19 rfl rfl ?_
  refine R_aload_n dX2_keep_20 rfl rfl ?_
  refine G_get cok2 0 wf_X2_11 dX2_keep_21 (by first | exact rfl | assumption) ⟨(Nat.le_of_ble_eq_true rfl), (Nat.le_of_ble_eq_true rfl)⟩ rfl ?_
  refine R_iload_n dX2_keep_24 rfl rfl ?_
  refine R_iconst (v := 1) dX2_keep_25 (by decide) ?_
  refine R_isub dX2_keep_26 ?_
  refine R_topE (y := 0) (by decide) ?_
  refine G_houseV (b := r.1 0) dX2_keep_27 (nI_in12 (k := 0) (n := 8) (by omega) (by omega)) rfl ?_
  refine G_houses dX2_keep_28 (hs0 (hP 0 (by omega))) (nI_in12 (k := 1) (n := 8) (by omega) (by omega)) ?_
  refine R_iinc (v := 0) dX2_keep_29 (by decide) rfl (by decide) (by decide) (st3 rfl) ?_
  refine R_goto (tgt := 11) dX2_keep_32 rfl ?_
  refine R_iload_n dX2_keep_11 rfl rfl ?_
  refine R_if_le_t (tgt := 35) dX2_keep_12 rfl (by decide) ?_
  refine R_aload_n dX2_keep_35 rfl rfl ?_
  refine G_get cok2 0 wf_X2_11 dX2_keep_36 (by first | exact rfl | assumption) ⟨(Nat.le_of_ble_eq_true rfl), (Nat.le_of_ble_eq_true rfl)⟩ rfl ?_
  refine R_iconst (v := 0) dX2_keep_39 (by decide) ?_
  refine R_aload_n dX2_keep_40 rfl rfl ?_
  refine G_houses dX2_keep_41 (hs0 (hP 7 (by omega))) (nI_in12 (k := 0) (n := 8) (by omega) (by omega)) ?_
  refine R_rE (r' := (rotR r.1, r.2)) ?_ ?_
  · refine Prod.ext (funext fun k => ?_) rfl
    match k with
    | 0 => rfl
    | 1 => rfl
    | 2 => rfl
    | 3 => rfl
    | 4 => rfl
    | 5 => rfl
    | 6 => rfl
    | 7 => rfl
    | k + 8 => simp [va_up, rotR] <;> omega
  refine R_aload_n dX2_keep_42 rfl rfl ?_
  refine R_aload_n dX2_keep_43 rfl rfl ?_
  refine G_cV1v cw_X2_18 (s_X3_copyFrom hf (hP 7 (by omega)) isH42 h7 hn hc hz) dX2_keep_44 (rcv cok3 (by first | exact rfl | assumption) (Nat.le_of_ble_eq_true rfl)) ⟨(Nat.le_of_ble_eq_true rfl), (Nat.le_of_ble_eq_true rfl), (Nat.le_of_ble_eq_true rfl), (Nat.le_of_ble_eq_true rfl)⟩ ?_
  refine R_aload_n dX2_keep_47 rfl rfl ?_
  refine R_bipush (v := 8) dX2_keep_48 (by decide) ?_
  refine R_aload_n dX2_keep_50 rfl rfl ?_
  refine G_get cok2 1 wf_X2_22 dX2_keep_51 (by first | exact rfl | assumption) ⟨(Nat.le_of_ble_eq_true rfl), (Nat.le_of_ble_eq_true rfl)⟩ rfl ?_
  refine R_iconst (v := 1) dX2_keep_54 (by decide) ?_
  refine R_iadd dX2_keep_55 ?_
  refine R_min wm_X2_26 wm_min dX2_keep_56 (Nat.le_of_ble_eq_true rfl) (Nat.le_of_ble_eq_true rfl) (Nat.le_of_ble_eq_true rfl) (Nat.le_of_ble_eq_true rfl) ?_
  refine G_put cok2 1 wf_X2_22 dX2_keep_59 (by first | exact rfl | assumption) rfl ⟨(Nat.le_of_ble_eq_true rfl), rfl, (Nat.le_of_ble_eq_true rfl)⟩ ⟨rfl, rfl⟩ ?_
  refine R_vret dX2_keep_62 (Nat.le_of_ble_eq_true rfl) (Nat.le_of_ble_eq_true rfl) ?_
  refine ⟨rfl, congrArg (fun z => hp z (rotR r.1, r.2)) ?_⟩
  rw [hcp_out hn (isH_124 (hP 7 (by omega)) |>.imp (fun q => q) (fun q => q))]
  rfl
theorem s_X2_takeBack {l : Launch} (hf : l.stackTraces = false) {n : Nat} (hP : ∀ k, k < 8 → isH (r.1 k)) (h0 : r.1 0 ≠ 1) (hn : n ≤ 12) (hc : M (r.1 0) 2 = nI n) (hz : ∀ i, i < n → M (r.1 0 + 5 + 3 * i) 8 = 0 ∨ M (r.1 0 + 5 + 3 * i) 8 = 1) : V_X2_takeBack l [.ref 124, .ref 1] (hp M r) (VR none (hp (mst (hcp M 1 (r.1 0) n) 124 1 (mx0 (M 124 1 - 1))) (rotL r.1, r.2))) := by
  refine VM.intro (lf := L9 (some (.ref 124)) (some (.ref 1)) none none none none none none none) (by decide +kernel) hf (fun _ => (Nat.le_of_ble_eq_true rfl)) (fun _ => rfl) ?_
  refine R_aload_n dX2_takeBack_0 rfl rfl ?_
  refine G_get cok2 0 wf_X2_11 dX2_takeBack_1 (by first | exact rfl | assumption) ⟨(Nat.le_of_ble_eq_true rfl), (Nat.le_of_ble_eq_true rfl)⟩ rfl ?_
  refine R_iconst (v := 0) dX2_takeBack_4 (by decide) ?_
  refine G_houseV (b := r.1 0) dX2_takeBack_5 (nI_in12 (k := 0) (n := 8) (by omega) (by omega)) rfl ?_
  refine R_astore_n dX2_takeBack_6 rfl (by decide) (st2 rfl) ?_
  refine R_iconst (v := 1) dX2_takeBack_7 (by decide) ?_
  refine R_istore_n dX2_takeBack_8 rfl (by decide) (st3 rfl) ?_
  refine R_iload_n dX2_takeBack_9 rfl rfl ?_
  refine R_bipush (v := 8) dX2_takeBack_10 (by decide) ?_
  refine R_icmp_ge_f (tgt := 35) dX2_takeBack_12 rfl (by decide) ?_
  refine R_aload_n dX2_takeBack_15 rfl rfl ?_
  refine G_get cok2 0 wf_X2_11 dX2_takeBack_16 (by first | exact rfl | assumption) ⟨(Nat.le_of_ble_eq_true rfl), (Nat.le_of_ble_eq_true rfl)⟩ rfl ?_
  refine R_iload_n dX2_takeBack_19 rfl rfl ?_
  refine R_iconst (v := 1) dX2_takeBack_20 (by decide) ?_
  refine R_isub dX2_takeBack_21 ?_
  refine R_topE (y := 0) (by decide) ?_
  refine R_aload_n dX2_takeBack_22 rfl rfl ?_
  refine G_get cok2 0 wf_X2_11 dX2_takeBack_23 (by first | exact rfl | assumption) ⟨(Nat.le_of_ble_eq_true rfl), (Nat.le_of_ble_eq_true rfl)⟩ rfl ?_
  refine R_iload_n dX2_takeBack_26 rfl rfl ?_
  refine G_houseV (b := r.1 1) dX2_takeBack_27 (nI_in12 (k := 1) (n := 8) (by omega) (by omega)) rfl ?_
  refine G_houses dX2_takeBack_28 (hs0 (hP 1 (by omega))) (nI_in12 (k := 0) (n := 8) (by omega) (by omega)) ?_
  refine R_iinc (v := 2) dX2_takeBack_29 (by decide) rfl (by decide) (by decide) (st3 rfl) ?_
  refine R_goto (tgt := 9) dX2_takeBack_32 rfl ?_
  refine R_iload_n dX2_takeBack_9 rfl rfl ?_
  refine R_bipush (v := 8) dX2_takeBack_10 (by decide) ?_
  refine R_icmp_ge_f (tgt := 35) dX2_takeBack_12 rfl (by decide) ?_
  refine R_aload_n dX2_takeBack_15 rfl rfl ?_
  refine G_get cok2 0 wf_X2_11 dX2_takeBack_16 (by first | exact rfl | assumption) ⟨(Nat.le_of_ble_eq_true rfl), (Nat.le_of_ble_eq_true rfl)⟩ rfl ?_
  refine R_iload_n dX2_takeBack_19 rfl rfl ?_
  refine R_iconst (v := 1) dX2_takeBack_20 (by decide) ?_
  refine R_isub dX2_takeBack_21 ?_
  refine R_topE (y := 1) (by decide) ?_
  refine R_aload_n dX2_takeBack_22 rfl rfl ?_
  refine G_get cok2 0 wf_X2_11 dX2_takeBack_23 (by first | exact rfl | assumption) ⟨(Nat.le_of_ble_eq_true rfl), (Nat.le_of_ble_eq_true rfl)⟩ rfl ?_
  refine R_iload_n dX2_takeBack_26 rfl rfl ?_
  refine G_houseV (b := r.1 2) dX2_takeBack_27 (nI_in12 (k := 2) (n := 8) (by omega) (by omega)) rfl ?_
  refine G_houses dX2_takeBack_28 (hs0 (hP 2 (by omega))) (nI_in12 (k := 1) (n := 8) (by omega) (by omega)) ?_
  refine R_iinc (v := 3) dX2_takeBack_29 (by decide) rfl (by decide) (by decide) (st3 rfl) ?_
  refine R_goto (tgt := 9) dX2_takeBack_32 rfl ?_
  refine R_iload_n dX2_takeBack_9 rfl rfl ?_
  refine R_bipush (v := 8) dX2_takeBack_10 (by decide) ?_
  refine R_icmp_ge_f (tgt := 35) dX2_takeBack_12 rfl (by decide) ?_
  refine R_aload_n dX2_takeBack_15 rfl rfl ?_
  refine G_get cok2 0 wf_X2_11 dX2_takeBack_16 (by first | exact rfl | assumption) ⟨(Nat.le_of_ble_eq_true rfl), (Nat.le_of_ble_eq_true rfl)⟩ rfl ?_
  refine R_iload_n dX2_takeBack_19 rfl rfl ?_
  refine R_iconst (v := 1) dX2_takeBack_20 (by decide) ?_
  refine R_isub dX2_takeBack_21 ?_
  refine R_topE (y := 2) (by decide) ?_
  refine R_aload_n dX2_takeBack_22 rfl rfl ?_
  refine G_get cok2 0 wf_X2_11 dX2_takeBack_23 (by first | exact rfl | assumption) ⟨(Nat.le_of_ble_eq_true rfl), (Nat.le_of_ble_eq_true rfl)⟩ rfl ?_
  refine R_iload_n dX2_takeBack_26 rfl rfl ?_
  refine G_houseV (b := r.1 3) dX2_takeBack_27 (nI_in12 (k := 3) (n := 8) (by omega) (by omega)) rfl ?_
  refine G_houses dX2_takeBack_28 (hs0 (hP 3 (by omega))) (nI_in12 (k := 2) (n := 8) (by omega) (by omega)) ?_
  refine R_iinc (v := 4) dX2_takeBack_29 (by decide) rfl (by decide) (by decide) (st3 rfl) ?_
  refine R_goto (tgt := 9) dX2_takeBack_32 rfl ?_
  refine R_iload_n dX2_takeBack_9 rfl rfl ?_
  refine R_bipush (v := 8) dX2_takeBack_10 (by decide) ?_
  refine R_icmp_ge_f (tgt := 35) dX2_takeBack_12 rfl (by decide) ?_
  refine R_aload_n dX2_takeBack_15 rfl rfl ?_
  refine G_get cok2 0 wf_X2_11 dX2_takeBack_16 (by first | exact rfl | assumption) ⟨(Nat.le_of_ble_eq_true rfl), (Nat.le_of_ble_eq_true rfl)⟩ rfl ?_
  refine R_iload_n dX2_takeBack_19 rfl rfl ?_
  refine R_iconst (v := 1) dX2_takeBack_20 (by decide) ?_
  refine R_isub dX2_takeBack_21 ?_
  refine R_topE (y := 3) (by decide) ?_
  refine R_aload_n dX2_takeBack_22 rfl rfl ?_
  refine G_get cok2 0 wf_X2_11 dX2_takeBack_23 (by first | exact rfl | assumption) ⟨(Nat.le_of_ble_eq_true rfl), (Nat.le_of_ble_eq_true rfl)⟩ rfl ?_
  refine R_iload_n dX2_takeBack_26 rfl rfl ?_
  refine G_houseV (b := r.1 4) dX2_takeBack_27 (nI_in12 (k := 4) (n := 8) (by omega) (by omega)) rfl ?_
  refine G_houses dX2_takeBack_28 (hs0 (hP 4 (by omega))) (nI_in12 (k := 3) (n := 8) (by omega) (by omega)) ?_
  refine R_iinc (v := 5) dX2_takeBack_29 (by decide) rfl (by decide) (by decide) (st3 rfl) ?_
  refine R_goto (tgt := 9) dX2_takeBack_32 rfl ?_
  refine R_iload_n dX2_takeBack_9 rfl rfl ?_
  refine R_bipush (v := 8) dX2_takeBack_10 (by decide) ?_
  refine R_icmp_ge_f (tgt := 35) dX2_takeBack_12 rfl (by decide) ?_
  refine R_aload_n dX2_takeBack_15 rfl rfl ?_
  refine G_get cok2 0 wf_X2_11 dX2_takeBack_16 (by first | exact rfl | assumption) ⟨(Nat.le_of_ble_eq_true rfl), (Nat.le_of_ble_eq_true rfl)⟩ rfl ?_
  refine R_iload_n dX2_takeBack_19 rfl rfl ?_
  refine R_iconst (v := 1) dX2_takeBack_20 (by decide) ?_
  refine R_isub dX2_takeBack_21 ?_
  refine R_topE (y := 4) (by decide) ?_
  refine R_aload_n dX2_takeBack_22 rfl rfl ?_
  refine G_get cok2 0 wf_X2_11 dX2_takeBack_23 (by first | exact rfl | assumption) ⟨(Nat.le_of_ble_eq_true rfl), (Nat.le_of_ble_eq_true rfl)⟩ rfl ?_
  refine R_iload_n dX2_takeBack_26 rfl rfl ?_
  refine G_houseV (b := r.1 5) dX2_takeBack_27 (nI_in12 (k := 5) (n := 8) (by omega) (by omega)) rfl ?_
  refine G_houses dX2_takeBack_28 (hs0 (hP 5 (by omega))) (nI_in12 (k := 4) (n := 8) (by omega) (by omega)) ?_
  refine R_iinc (v := 6) dX2_takeBack_29 (by decide) rfl (by decide) (by decide) (st3 rfl) ?_
  refine R_goto (tgt := 9) dX2_takeBack_32 rfl ?_
  refine R_iload_n dX2_takeBack_9 rfl rfl ?_
  refine R_bipush (v := 8) dX2_takeBack_10 (by decide) ?_
  refine R_icmp_ge_f (tgt := 35) dX2_takeBack_12 rfl (by decide) ?_
  refine R_aload_n dX2_takeBack_15 rfl rfl ?_
  refine G_get cok2 0 wf_X2_11 dX2_takeBack_16 (by first | exact rfl | assumption) ⟨(Nat.le_of_ble_eq_true rfl), (Nat.le_of_ble_eq_true rfl)⟩ rfl ?_
  refine R_iload_n dX2_takeBack_19 rfl rfl ?_
  refine R_iconst (v := 1) dX2_takeBack_20 (by decide) ?_
  refine R_isub dX2_takeBack_21 ?_
  refine R_topE (y := 5) (by decide) ?_
  refine R_aload_n dX2_takeBack_22 rfl rfl ?_
  refine G_get cok2 0 wf_X2_11 dX2_takeBack_23 (by first | exact rfl | assumption) ⟨(Nat.le_of_ble_eq_true rfl), (Nat.le_of_ble_eq_true rfl)⟩ rfl ?_
  refine R_iload_n dX2_takeBack_26 rfl rfl ?_
  refine G_houseV (b := r.1 6) dX2_takeBack_27 (nI_in12 (k := 6) (n := 8) (by omega) (by omega)) rfl ?_
  refine G_houses dX2_takeBack_28 (hs0 (hP 6 (by omega))) (nI_in12 (k := 5) (n := 8) (by omega) (by omega)) ?_
  refine R_iinc (v := 7) dX2_takeBack_29 (by decide) rfl (by decide) (by decide) (st3 rfl) ?_
  refine R_goto (tgt := 9) dX2_takeBack_32 rfl ?_
  refine R_iload_n dX2_takeBack_9 rfl rfl ?_
  refine R_bipush (v := 8) dX2_takeBack_10 (by decide) ?_
  refine R_icmp_ge_f (tgt := 35) dX2_takeBack_12 rfl (by decide) ?_
  refine R_aload_n dX2_takeBack_15 rfl rfl ?_
  refine G_get cok2 0 wf_X2_11 dX2_takeBack_16 (by first | exact rfl | assumption) ⟨(Nat.le_of_ble_eq_true rfl), (Nat.le_of_ble_eq_true rfl)⟩ rfl ?_
  refine R_iload_n dX2_takeBack_19 rfl rfl ?_
  refine R_iconst (v := 1) dX2_takeBack_20 (by decide) ?_
  refine R_isub dX2_takeBack_21 ?_
  refine R_topE (y := 6) (by decide) ?_
  refine R_aload_n dX2_takeBack_22 rfl rfl ?_
  refine G_get cok2 0 wf_X2_11 dX2_takeBack_23 (by first | exact rfl | assumption) ⟨(Nat.le_of_ble_eq_true rfl), (Nat.le_of_ble_eq_true rfl)⟩ rfl ?_
  refine R_iload_n dX2_takeBack_26 rfl rfl ?_
  refine G_houseV (b := r.1 7) dX2_takeBack_27 (nI_in12 (k := 7) (n := 8) (by omega) (by omega)) rfl ?_
  refine G_houses dX2_takeBack_28 (hs0 (hP 7 (by omega))) (nI_in12 (k := 6) (n := 8) (by omega) (by omega)) ?_
  refine R_iinc (v := 8) dX2_takeBack_29 (by decide) rfl (by decide) (by decide) (st3 rfl) ?_
  refine R_goto (tgt := 9) dX2_takeBack_32 rfl ?_
  refine R_iload_n dX2_takeBack_9 rfl rfl ?_
  refine R_bipush (v := 8) dX2_takeBack_10 (by decide) ?_
  refine R_icmp_ge_t (tgt := 35) dX2_takeBack_12 rfl (by decide) ?_
  refine R_aload_n dX2_takeBack_35 rfl rfl ?_
  refine G_get cok2 0 wf_X2_11 dX2_takeBack_36 (by first | exact rfl | assumption) ⟨(Nat.le_of_ble_eq_true rfl), (Nat.le_of_ble_eq_true rfl)⟩ rfl ?_
  refine R_bipush (v := 7) dX2_takeBack_39 (by decide) ?_
  refine R_aload_n dX2_takeBack_41 rfl rfl ?_
  refine G_houses dX2_takeBack_42 (hs0 (hP 0 (by omega))) (nI_in12 (k := 7) (n := 8) (by omega) (by omega)) ?_
  refine R_rE (r' := (rotL r.1, r.2)) ?_ ?_
  · refine Prod.ext (funext fun k => ?_) rfl
    match k with
    | 0 => rfl
    | 1 => rfl
    | 2 => rfl
    | 3 => rfl
    | 4 => rfl
    | 5 => rfl
    | 6 => rfl
    | 7 => rfl
    | k + 8 => simp [va_up, rotL] <;> omega
  refine R_aload_n dX2_takeBack_43 rfl rfl ?_
  refine R_aload_n dX2_takeBack_44 rfl rfl ?_
  refine G_cV1v cw_X2_18 (s_X3_copyFrom hf isH1 (hP 0 (by omega)) (Ne.symm h0) hn hc hz) dX2_takeBack_45 (rcv cok3 (by first | exact rfl | assumption) (Nat.le_of_ble_eq_true rfl)) ⟨(Nat.le_of_ble_eq_true rfl), (Nat.le_of_ble_eq_true rfl), (Nat.le_of_ble_eq_true rfl), (Nat.le_of_ble_eq_true rfl)⟩ ?_
  refine R_aload_n dX2_takeBack_48 rfl rfl ?_
  refine R_iconst (v := 0) dX2_takeBack_49 (by decide) ?_
  refine R_aload_n dX2_takeBack_50 rfl rfl ?_
  refine G_get cok2 1 wf_X2_22 dX2_takeBack_51 (by first | exact rfl | assumption) ⟨(Nat.le_of_ble_eq_true rfl), (Nat.le_of_ble_eq_true rfl)⟩ rfl ?_
  refine R_iconst (v := 1) dX2_takeBack_54 (by decide) ?_
  refine R_isub dX2_takeBack_55 ?_
  refine R_max wm_X2_32 wm_max dX2_takeBack_56 (Nat.le_of_ble_eq_true rfl) (Nat.le_of_ble_eq_true rfl) (Nat.le_of_ble_eq_true rfl) (Nat.le_of_ble_eq_true rfl) ?_
  refine G_put cok2 1 wf_X2_22 dX2_takeBack_59 (by first | exact rfl | assumption) rfl ⟨(Nat.le_of_ble_eq_true rfl), rfl, (Nat.le_of_ble_eq_true rfl)⟩ ⟨rfl, rfl⟩ ?_
  refine R_vret dX2_takeBack_62 (Nat.le_of_ble_eq_true rfl) (Nat.le_of_ble_eq_true rfl) ?_
  refine ⟨rfl, congrArg (fun z => hp z (rotL r.1, r.2)) ?_⟩
  rw [hcp_out hn (Or.inr (by omega))]
  rfl
theorem s_X2_forget {l : Launch} (hf : l.stackTraces = false)  : V_X2_forget l [.ref 124] (hp M r) (VR none (hp (mst M 124 1 0) r)) := by
  refine VM.intro (lf := L9 (some (.ref 124)) none none none none none none none none) (by decide +kernel) hf (fun _ => (Nat.le_of_ble_eq_true rfl)) (fun _ => rfl) ?_
  refine R_aload_n dX2_forget_0 rfl rfl ?_
  refine R_iconst (v := 0) dX2_forget_1 (by decide) ?_
  refine G_put cok2 1 wf_X2_22 dX2_forget_2 (by first | exact rfl | assumption) rfl ⟨(Nat.le_of_ble_eq_true rfl), rfl, (Nat.le_of_ble_eq_true rfl)⟩ ⟨rfl, rfl⟩ ?_
  refine R_vret dX2_forget_5 (Nat.le_of_ble_eq_true rfl) (Nat.le_of_ble_eq_true rfl) ?_
  exact ⟨rfl, rfl⟩
theorem s_X1_tryHour {l : Launch} (hf : l.stackTraces = false) {q y : Int32} : V_X1_tryHour l [.ref 456, .int q, .int y] (hp M r) (VR none (hp (smk M 1 457 (mx0 (M 1 3 - q)) y) r)) := by
  refine VM.intro (lf := L9 (some (.ref 456)) (some (.int q)) (some (.int y)) none none none none none none) (by decide +kernel) hf (fun _ => (Nat.le_of_ble_eq_true rfl)) (fun _ => rfl) ?_
  refine R_aload_n dX1_tryHour_0 rfl rfl ?_
  refine G_get cok1 0 wf_X1_18 dX1_tryHour_1 (by first | exact rfl | exact hsf isH1 (by omega) | assumption) ⟨(Nat.le_of_ble_eq_true rfl), (Nat.le_of_ble_eq_true rfl)⟩ rfl ?_
  refine R_aload_n dX1_tryHour_4 rfl rfl ?_
  refine G_get cok1 1 wf_X1_12 dX1_tryHour_5 (by first | exact rfl | exact hsf isH1 (by omega) | assumption) ⟨(Nat.le_of_ble_eq_true rfl), (Nat.le_of_ble_eq_true rfl)⟩ rfl ?_
  refine R_iconst (v := 0) dX1_tryHour_8 (by decide) ?_
  refine R_aload_n dX1_tryHour_9 rfl rfl ?_
  refine G_get cok1 0 wf_X1_18 dX1_tryHour_10 (by first | exact rfl | exact hsf isH1 (by omega) | assumption) ⟨(Nat.le_of_ble_eq_true rfl), (Nat.le_of_ble_eq_true rfl)⟩ rfl ?_
  refine G_get cok3 3 wf_X1_54 dX1_tryHour_13 (by first | exact rfl | exact hsf isH1 (by omega) | assumption) ⟨(Nat.le_of_ble_eq_true rfl), (Nat.le_of_ble_eq_true rfl)⟩ rfl ?_
  refine R_iload_n dX1_tryHour_16 rfl rfl ?_
  refine R_isub dX1_tryHour_17 ?_
  refine R_max wm_X1_93 wm_max dX1_tryHour_18 (Nat.le_of_ble_eq_true rfl) (Nat.le_of_ble_eq_true rfl) (Nat.le_of_ble_eq_true rfl) (Nat.le_of_ble_eq_true rfl) ?_
  refine R_iload_n dX1_tryHour_21 rfl rfl ?_
  refine G_cV3v cw_X1_96 (s_X3_smokeOne hf isH1 (show sK 457 = 0 from rfl)) dX1_tryHour_22 (rcv cok3 (by first | exact rfl | exact hsf isH1 (by omega) | assumption) (Nat.le_of_ble_eq_true rfl)) ⟨(Nat.le_of_ble_eq_true rfl), (Nat.le_of_ble_eq_true rfl), (Nat.le_of_ble_eq_true rfl), (Nat.le_of_ble_eq_true rfl)⟩ ?_
  refine R_vret dX1_tryHour_25 (Nat.le_of_ble_eq_true rfl) (Nat.le_of_ble_eq_true rfl) ?_
  exact ⟨rfl, rfl⟩
theorem L_X1_charHourByHour {l : Launch} (hf : l.stackTraces = false) {k m : Nat} (hm : m ≤ 24) {y : Int32} : ∀ (j i : Nat), i + j = m → Q_X1_charHourByHour l (VI (tryF y M m (dside (tryF y M m) 457) 1) (hp (tryF y M m) r)) 27 (L9 (some (.ref 456)) (some (.int (nI k))) (some (.int (nI m))) (some (.int y)) (some (.int (nI i))) none none none none) [] (hp (tryF y M i) r) := by
  intro j
  induction j with
  | zero =>
    intro i hi
    have hin : m = i := by omega
    subst hin
    refine R_iload dX1_charHourByHour_27 (by decide) rfl ?_
    refine R_iload_n dX1_charHourByHour_29 rfl rfl ?_
    refine R_icmp_ge_t (tgt := 46) dX1_charHourByHour_30 rfl (nI_le (by omega) (by omega)) ?_
    refine R_aload_n dX1_charHourByHour_46 rfl rfl ?_
    refine G_get cok1 1 wf_X1_12 dX1_charHourByHour_47 (by first | exact rfl | assumption | (split <;> exact rfl)) ⟨(Nat.le_of_ble_eq_true rfl), (Nat.le_of_ble_eq_true rfl)⟩ rfl ?_
    refine G_cV0 cw_X1_40 (s_X0_downSide hf (show sK 457 = 0 from rfl)) dX1_charHourByHour_50 (rcv cok0 (by first | exact rfl | assumption | (split <;> exact rfl)) (Nat.le_of_ble_eq_true rfl)) ⟨(Nat.le_of_ble_eq_true rfl), (Nat.le_of_ble_eq_true rfl), (Nat.le_of_ble_eq_true rfl), (Nat.le_of_ble_eq_true rfl)⟩ ?_
    refine G_get cok7 1 wf_X1_44 dX1_charHourByHour_53 (by first | exact rfl | assumption | (split <;> exact rfl)) ⟨(Nat.le_of_ble_eq_true rfl), (Nat.le_of_ble_eq_true rfl)⟩ rfl ?_
    refine R_iret dX1_charHourByHour_56 rfl (Nat.le_of_ble_eq_true rfl) (Nat.le_of_ble_eq_true rfl) ?_
    exact ⟨rfl, rfl⟩
  | succ j ih =>
    intro i hi
    have hi1 : i < m := by omega
    refine R_iload dX1_charHourByHour_27 (by decide) rfl ?_
    refine R_iload_n dX1_charHourByHour_29 rfl rfl ?_
    refine R_icmp_ge_f (tgt := 46) dX1_charHourByHour_30 rfl (nI_ge (by omega) (by omega)) ?_
    refine R_aload_n dX1_charHourByHour_33 rfl rfl ?_
    refine R_iload dX1_charHourByHour_34 (by decide) rfl ?_
    refine R_iload_n dX1_charHourByHour_36 rfl rfl ?_
    refine G_cV2v cw_X1_36 (s_X1_tryHour hf) dX1_charHourByHour_37 (rcv cok1 (by first | exact rfl | assumption | (split <;> exact rfl)) (Nat.le_of_ble_eq_true rfl)) ⟨(Nat.le_of_ble_eq_true rfl), (Nat.le_of_ble_eq_true rfl), (Nat.le_of_ble_eq_true rfl), (Nat.le_of_ble_eq_true rfl)⟩ ?_
    first | refine R_iincN dX1_charHourByHour_40 (by decide) rfl (by decide) (st4 rfl) ?_ | refine R_iinc1 dX1_charHourByHour_40 (by decide) rfl (by decide) (st4 rfl) ?_
    refine R_goto (tgt := 27) dX1_charHourByHour_43 rfl ?_
    have h9 := ih (i + 1) (by omega)
    exact h9
theorem s_X1_charHourByHour {l : Launch} (hf : l.stackTraces = false) {n : Nat} (hn : n ≤ 12) (hc : M 1 2 = nI n) {k : Nat} (hk : k < n) (hz : M (6 + 3 * k) 8 = 0 ∨ M (6 + 3 * k) 8 = 1) {m : Nat} (hm : m ≤ 24) : V_X1_charHourByHour l [.ref 456, .int (nI k), .int (nI m)] (hp M r) (VI (tryF (zb (tooNear M 1 k n)) (fcp M 457 (6 + 3 * k)) m (dside (tryF (zb (tooNear M 1 k n)) (fcp M 457 (6 + 3 * k)) m) 457) 1) (hp (tryF (zb (tooNear M 1 k n)) (fcp M 457 (6 + 3 * k)) m) r)) := by
  refine VM.intro (lf := L9 (some (.ref 456)) (some (.int (nI k))) (some (.int (nI m))) none none none none none none) (by decide +kernel) hf (fun _ => (Nat.le_of_ble_eq_true rfl)) (fun _ => rfl) ?_
  refine R_aload_n dX1_charHourByHour_0 rfl rfl ?_
  refine G_get cok1 0 wf_X1_18 dX1_charHourByHour_1 (by first | exact rfl | exact hsf isH1 (by omega) | assumption) ⟨(Nat.le_of_ble_eq_true rfl), (Nat.le_of_ble_eq_true rfl)⟩ rfl ?_
  refine R_iload_n dX1_charHourByHour_4 rfl rfl ?_
  refine G_cV1 cw_X1_22 (s_X3_hangsTooNear hf isH1 hn hc hk) dX1_charHourByHour_5 (rcv cok3 (by first | exact rfl | exact hsf isH1 (by omega) | assumption) (Nat.le_of_ble_eq_true rfl)) ⟨(Nat.le_of_ble_eq_true rfl), (Nat.le_of_ble_eq_true rfl), (Nat.le_of_ble_eq_true rfl), (Nat.le_of_ble_eq_true rfl)⟩ ?_
  refine R_istore_n dX1_charHourByHour_8 rfl (by decide) (st3 rfl) ?_
  refine R_aload_n dX1_charHourByHour_9 rfl rfl ?_
  refine G_get cok1 1 wf_X1_12 dX1_charHourByHour_10 (by first | exact rfl | exact hsf isH1 (by omega) | assumption) ⟨(Nat.le_of_ble_eq_true rfl), (Nat.le_of_ble_eq_true rfl)⟩ rfl ?_
  refine R_aload_n dX1_charHourByHour_13 rfl rfl ?_
  refine G_get cok1 0 wf_X1_18 dX1_charHourByHour_14 (by first | exact rfl | exact hsf isH1 (by omega) | assumption) ⟨(Nat.le_of_ble_eq_true rfl), (Nat.le_of_ble_eq_true rfl)⟩ rfl ?_
  refine R_iload_n dX1_charHourByHour_17 rfl rfl ?_
  refine G_cV1 cw_X1_28 (s_X3_fishAt hf isH1 (by omega)) dX1_charHourByHour_18 (rcv cok3 (by first | exact rfl | exact hsf isH1 (by omega) | assumption) (Nat.le_of_ble_eq_true rfl)) ⟨(Nat.le_of_ble_eq_true rfl), (Nat.le_of_ble_eq_true rfl), (Nat.le_of_ble_eq_true rfl), (Nat.le_of_ble_eq_true rfl)⟩ ?_
  refine G_cV1v cw_X1_32 (s_X0_copyFrom hf (show sK 457 = 0 from rfl) (hsf isH1 (i := k) (by omega)) (by omega) hz) dX1_charHourByHour_21 (rcv cok0 (by first | exact rfl | exact hsf isH1 (by omega) | assumption) (Nat.le_of_ble_eq_true rfl)) ⟨(Nat.le_of_ble_eq_true rfl), (Nat.le_of_ble_eq_true rfl), (Nat.le_of_ble_eq_true rfl), (Nat.le_of_ble_eq_true rfl)⟩ ?_
  refine R_iconst (v := 0) dX1_charHourByHour_24 (by decide) ?_
  refine R_istore dX1_charHourByHour_25 (by decide) (st4 rfl) ?_
  have h9 := L_X1_charHourByHour (M := fcp M 457 (6 + 3 * k)) (r := r) hf (k := k) hm (y := zb (tooNear M 1 k n)) m 0 (by omega)
  rw [show 1 + 5 + 3 * k = 6 + 3 * k by omega]
  exact h9
theorem s_X1_charAtOnce {l : Launch} (hf : l.stackTraces = false) {n : Nat} (hn : n ≤ 12) (hc : M 1 2 = nI n) {k : Nat} (hk : k < n) {m : Int32} : V_X1_charAtOnce l [.ref 456, .int (nI k), .int m] (hp M r) (VI (charA M k m) (hp M r)) := by
  refine VM.intro (lf := L9 (some (.ref 456)) (some (.int (nI k))) (some (.int m)) none none none none none none) (by decide +kernel) hf (fun _ => (Nat.le_of_ble_eq_true rfl)) (fun _ => rfl) ?_
  refine R_aload_n dX1_charAtOnce_0 rfl rfl ?_
  refine G_get cok1 0 wf_X1_18 dX1_charAtOnce_1 (by first | exact rfl | exact hsf isH1 (by omega) | assumption | (split <;> first | exact fish1 (hsf isH1 (by omega)) | exact fish2 (hsf isH1 (by omega)))) ⟨(Nat.le_of_ble_eq_true rfl), (Nat.le_of_ble_eq_true rfl)⟩ rfl ?_
  refine R_iload_n dX1_charAtOnce_4 rfl rfl ?_
  refine G_cV1 cw_X1_28 (s_X3_fishAt hf isH1 (by omega)) dX1_charAtOnce_5 (rcv cok3 (by first | exact rfl | exact hsf isH1 (by omega) | assumption | (split <;> first | exact fish1 (hsf isH1 (by omega)) | exact fish2 (hsf isH1 (by omega)))) (Nat.le_of_ble_eq_true rfl)) ⟨(Nat.le_of_ble_eq_true rfl), (Nat.le_of_ble_eq_true rfl), (Nat.le_of_ble_eq_true rfl), (Nat.le_of_ble_eq_true rfl)⟩ ?_
  refine R_astore_n dX1_charAtOnce_8 rfl (by decide) (st3 rfl) ?_
  refine R_aload_n dX1_charAtOnce_9 rfl rfl ?_
  refine G_cV0 cw_X1_40 (s_X0_downSide hf (hsf isH1 (by omega))) dX1_charAtOnce_10 (rcv cok0 (by first | exact rfl | exact hsf isH1 (by omega) | assumption | (split <;> first | exact fish1 (hsf isH1 (by omega)) | exact fish2 (hsf isH1 (by omega)))) (Nat.le_of_ble_eq_true rfl)) ⟨(Nat.le_of_ble_eq_true rfl), (Nat.le_of_ble_eq_true rfl), (Nat.le_of_ble_eq_true rfl), (Nat.le_of_ble_eq_true rfl)⟩ ?_
  refine G_get cok7 1 wf_X1_44 dX1_charAtOnce_13 (by first | exact rfl | exact hsf isH1 (by omega) | assumption | (split <;> first | exact fish1 (hsf isH1 (by omega)) | exact fish2 (hsf isH1 (by omega)))) ⟨(Nat.le_of_ble_eq_true rfl), (Nat.le_of_ble_eq_true rfl)⟩ rfl ?_
  refine R_istore dX1_charAtOnce_16 (by decide) (st4 rfl) ?_
  refine R_aload_n dX1_charAtOnce_18 rfl rfl ?_
  refine G_cV0 cw_X1_50 (s_X0_hangs hf (hsf isH1 (by omega))) dX1_charAtOnce_19 (rcv cok0 (by first | exact rfl | exact hsf isH1 (by omega) | assumption | (split <;> first | exact fish1 (hsf isH1 (by omega)) | exact fish2 (hsf isH1 (by omega)))) (Nat.le_of_ble_eq_true rfl)) ⟨(Nat.le_of_ble_eq_true rfl), (Nat.le_of_ble_eq_true rfl), (Nat.le_of_ble_eq_true rfl), (Nat.le_of_ble_eq_true rfl)⟩ ?_
  refine R_if_ne (tgt := 28) dX1_charAtOnce_22 rfl (fun c1 => ?_) (fun c1 => ?_)
  · refine R_aload_n dX1_charAtOnce_28 rfl rfl ?_
    refine G_get cok1 0 wf_X1_18 dX1_charAtOnce_29 (by first | exact rfl | exact hsf isH1 (by omega) | assumption | (split <;> first | exact fish1 (hsf isH1 (by omega)) | exact fish2 (hsf isH1 (by omega)))) ⟨(Nat.le_of_ble_eq_true rfl), (Nat.le_of_ble_eq_true rfl)⟩ rfl ?_
    refine G_get cok3 3 wf_X1_54 dX1_charAtOnce_32 (by first | exact rfl | exact hsf isH1 (by omega) | assumption | (split <;> first | exact fish1 (hsf isH1 (by omega)) | exact fish2 (hsf isH1 (by omega)))) ⟨(Nat.le_of_ble_eq_true rfl), (Nat.le_of_ble_eq_true rfl)⟩ rfl ?_
    refine R_aload_n dX1_charAtOnce_35 rfl rfl ?_
    refine G_get cok0 5 wf_X1_57 dX1_charAtOnce_36 (by first | exact rfl | exact hsf isH1 (by omega) | assumption | (split <;> first | exact fish1 (hsf isH1 (by omega)) | exact fish2 (hsf isH1 (by omega)))) ⟨(Nat.le_of_ble_eq_true rfl), (Nat.le_of_ble_eq_true rfl)⟩ rfl ?_
    refine G_cN2 cw_X1_60 (s_X9_heatBy hf) dX1_charAtOnce_39 ⟨(Nat.le_of_ble_eq_true rfl), (Nat.le_of_ble_eq_true rfl), (Nat.le_of_ble_eq_true rfl), (Nat.le_of_ble_eq_true rfl)⟩ ?_
    refine R_aload_n dX1_charAtOnce_42 rfl rfl ?_
    refine G_cV0 cw_X1_64 (s_X0_heatBorne hf (hsf isH1 (by omega))) dX1_charAtOnce_43 (rcv cok0 (by first | exact rfl | exact hsf isH1 (by omega) | assumption | (split <;> first | exact fish1 (hsf isH1 (by omega)) | exact fish2 (hsf isH1 (by omega)))) (Nat.le_of_ble_eq_true rfl)) ⟨(Nat.le_of_ble_eq_true rfl), (Nat.le_of_ble_eq_true rfl), (Nat.le_of_ble_eq_true rfl), (Nat.le_of_ble_eq_true rfl)⟩ ?_
    refine R_isub dX1_charAtOnce_46 ?_
    refine R_istore dX1_charAtOnce_47 (by decide) (st5 rfl) ?_
    refine R_aload_n dX1_charAtOnce_49 rfl rfl ?_
    refine G_get cok0 8 wf_X1_68 dX1_charAtOnce_50 (by first | exact rfl | exact hsf isH1 (by omega) | assumption | (split <;> first | exact fish1 (hsf isH1 (by omega)) | exact fish2 (hsf isH1 (by omega)))) ⟨(Nat.le_of_ble_eq_true rfl), (Nat.le_of_ble_eq_true rfl)⟩ rfl ?_
    refine R_if_eq (tgt := 60) dX1_charAtOnce_53 rfl (fun c2 => ?_) (fun c2 => ?_)
    · refine R_iconst (v := 0) dX1_charAtOnce_60 (by decide) ?_
      refine R_istore dX1_charAtOnce_61 (by decide) (st6 rfl) ?_
      refine R_iload_n dX1_charAtOnce_63 rfl rfl ?_
      refine R_iload dX1_charAtOnce_64 (by decide) rfl ?_
      refine R_min wm_X1_72 wm_min dX1_charAtOnce_66 (Nat.le_of_ble_eq_true rfl) (Nat.le_of_ble_eq_true rfl) (Nat.le_of_ble_eq_true rfl) (Nat.le_of_ble_eq_true rfl) ?_
      refine R_istore dX1_charAtOnce_69 (by decide) (st7 rfl) ?_
      refine R_iload dX1_charAtOnce_71 (by decide) rfl ?_
      refine R_iload dX1_charAtOnce_73 (by decide) rfl ?_
      refine R_icmp_gt (tgt := 81) dX1_charAtOnce_75 rfl (fun c3 => ?_) (fun c3 => ?_)
      · refine R_iload dX1_charAtOnce_81 (by decide) rfl ?_
        refine R_iload dX1_charAtOnce_83 (by decide) rfl ?_
        refine R_isub dX1_charAtOnce_85 ?_
        refine R_iconst (v := 2) dX1_charAtOnce_86 (by decide) ?_
        refine R_iload dX1_charAtOnce_87 (by decide) rfl ?_
        refine R_imul dX1_charAtOnce_89 ?_
        refine R_iload dX1_charAtOnce_90 (by decide) rfl ?_
        refine R_isub dX1_charAtOnce_92 ?_
        refine R_iload dX1_charAtOnce_93 (by decide) rfl ?_
        refine R_isub dX1_charAtOnce_95 ?_
        refine R_iconst (v := 1) dX1_charAtOnce_96 (by decide) ?_
        refine R_iadd dX1_charAtOnce_97 ?_
        refine R_imul dX1_charAtOnce_98 ?_
        refine R_iconst (v := 2) dX1_charAtOnce_99 (by decide) ?_
        refine R_idiv dX1_charAtOnce_100 (by decide) ?_
        refine R_istore dX1_charAtOnce_101 (by decide) (st8 rfl) ?_
        refine R_bipush (v := 9) dX1_charAtOnce_103 (by decide) ?_
        refine R_iload dX1_charAtOnce_105 (by decide) rfl ?_
        refine R_iload dX1_charAtOnce_107 (by decide) rfl ?_
        refine R_iadd dX1_charAtOnce_109 ?_
        refine R_min wm_X1_72 wm_min dX1_charAtOnce_110 (Nat.le_of_ble_eq_true rfl) (Nat.le_of_ble_eq_true rfl) (Nat.le_of_ble_eq_true rfl) (Nat.le_of_ble_eq_true rfl) ?_
        refine R_iret dX1_charAtOnce_113 rfl (Nat.le_of_ble_eq_true rfl) (Nat.le_of_ble_eq_true rfl) ?_
        refine ⟨?_, rfl⟩
        simp_all [-Int32.not_lt, charA, zb, dside]
      · refine R_iload dX1_charAtOnce_78 (by decide) rfl ?_
        refine R_iret dX1_charAtOnce_80 rfl (Nat.le_of_ble_eq_true rfl) (Nat.le_of_ble_eq_true rfl) ?_
        refine ⟨?_, rfl⟩
        simp_all [-Int32.not_lt, charA, zb, dside]
    · refine R_iconst (v := 1) dX1_charAtOnce_56 (by decide) ?_
      refine R_goto (tgt := 61) dX1_charAtOnce_57 rfl ?_
      refine R_istore dX1_charAtOnce_61 (by decide) (st6 rfl) ?_
      refine R_iload_n dX1_charAtOnce_63 rfl rfl ?_
      refine R_iload dX1_charAtOnce_64 (by decide) rfl ?_
      refine R_min wm_X1_72 wm_min dX1_charAtOnce_66 (Nat.le_of_ble_eq_true rfl) (Nat.le_of_ble_eq_true rfl) (Nat.le_of_ble_eq_true rfl) (Nat.le_of_ble_eq_true rfl) ?_
      refine R_istore dX1_charAtOnce_69 (by decide) (st7 rfl) ?_
      refine R_iload dX1_charAtOnce_71 (by decide) rfl ?_
      refine R_iload dX1_charAtOnce_73 (by decide) rfl ?_
      refine R_icmp_gt (tgt := 81) dX1_charAtOnce_75 rfl (fun c4 => ?_) (fun c4 => ?_)
      · refine R_iload dX1_charAtOnce_81 (by decide) rfl ?_
        refine R_iload dX1_charAtOnce_83 (by decide) rfl ?_
        refine R_isub dX1_charAtOnce_85 ?_
        refine R_iconst (v := 2) dX1_charAtOnce_86 (by decide) ?_
        refine R_iload dX1_charAtOnce_87 (by decide) rfl ?_
        refine R_imul dX1_charAtOnce_89 ?_
        refine R_iload dX1_charAtOnce_90 (by decide) rfl ?_
        refine R_isub dX1_charAtOnce_92 ?_
        refine R_iload dX1_charAtOnce_93 (by decide) rfl ?_
        refine R_isub dX1_charAtOnce_95 ?_
        refine R_iconst (v := 1) dX1_charAtOnce_96 (by decide) ?_
        refine R_iadd dX1_charAtOnce_97 ?_
        refine R_imul dX1_charAtOnce_98 ?_
        refine R_iconst (v := 2) dX1_charAtOnce_99 (by decide) ?_
        refine R_idiv dX1_charAtOnce_100 (by decide) ?_
        refine R_istore dX1_charAtOnce_101 (by decide) (st8 rfl) ?_
        refine R_bipush (v := 9) dX1_charAtOnce_103 (by decide) ?_
        refine R_iload dX1_charAtOnce_105 (by decide) rfl ?_
        refine R_iload dX1_charAtOnce_107 (by decide) rfl ?_
        refine R_iadd dX1_charAtOnce_109 ?_
        refine R_min wm_X1_72 wm_min dX1_charAtOnce_110 (Nat.le_of_ble_eq_true rfl) (Nat.le_of_ble_eq_true rfl) (Nat.le_of_ble_eq_true rfl) (Nat.le_of_ble_eq_true rfl) ?_
        refine R_iret dX1_charAtOnce_113 rfl (Nat.le_of_ble_eq_true rfl) (Nat.le_of_ble_eq_true rfl) ?_
        refine ⟨?_, rfl⟩
        simp_all [-Int32.not_lt, charA, zb, dside]
      · refine R_iload dX1_charAtOnce_78 (by decide) rfl ?_
        refine R_iret dX1_charAtOnce_80 rfl (Nat.le_of_ble_eq_true rfl) (Nat.le_of_ble_eq_true rfl) ?_
        refine ⟨?_, rfl⟩
        simp_all [-Int32.not_lt, charA, zb, dside]
  · refine R_iload dX1_charAtOnce_25 (by decide) rfl ?_
    refine R_iret dX1_charAtOnce_27 rfl (Nat.le_of_ble_eq_true rfl) (Nat.le_of_ble_eq_true rfl) ?_
    refine ⟨?_, rfl⟩
    simp_all [-Int32.not_lt, charA, zb, dside]
theorem L_X1_hoursUntilBurnt {l : Launch} (hf : l.stackTraces = false) {k : Nat} {y : Int32} : ∀ (j i : Nat) (Mx : MM), i + j = 13 → Q_X1_hoursUntilBurnt l (VI (burnU y j i Mx).1 (hp (burnU y j i Mx).2 r)) 26 (L9 (some (.ref 456)) (some (.int (nI k))) (some (.int y)) (some (.int (nI i))) none none none none none) [] (hp Mx r) := by
  intro j
  induction j with
  | zero =>
    intro i Mx hi
    obtain rfl : i = 13 := by omega
    refine R_iload_n dX1_hoursUntilBurnt_26 rfl rfl ?_
    refine R_bipush (v := 12) dX1_hoursUntilBurnt_27 (by decide) ?_
    refine R_icmp_gt_t (tgt := 56) dX1_hoursUntilBurnt_29 rfl (by decide) ?_
    refine R_iconst (v := (-1)) dX1_hoursUntilBurnt_56 (by decide) ?_
    refine R_iret dX1_hoursUntilBurnt_57 rfl (Nat.le_of_ble_eq_true rfl) (Nat.le_of_ble_eq_true rfl) ?_
    exact ⟨rfl, rfl⟩
  | succ j ih =>
    intro i Mx hi
    refine R_iload_n dX1_hoursUntilBurnt_26 rfl rfl ?_
    refine R_bipush (v := 12) dX1_hoursUntilBurnt_27 (by decide) ?_
    refine R_icmp_gt_f (tgt := 56) dX1_hoursUntilBurnt_29 rfl (fun q => nI_nlt (a := 12) (b := i) (by omega) (by omega) q) ?_
    refine R_aload_n dX1_hoursUntilBurnt_32 rfl rfl ?_
    refine G_get cok1 1 wf_X1_12 dX1_hoursUntilBurnt_33 (by first | exact rfl | exact hsf isH1 (by omega) | assumption) ⟨(Nat.le_of_ble_eq_true rfl), (Nat.le_of_ble_eq_true rfl)⟩ rfl ?_
    refine G_cV0 cw_X1_77 (s_X0_isBurnt hf (show sK 457 = 0 from rfl)) dX1_hoursUntilBurnt_36 (rcv cok0 (by first | exact rfl | exact hsf isH1 (by omega) | assumption) (Nat.le_of_ble_eq_true rfl)) ⟨(Nat.le_of_ble_eq_true rfl), (Nat.le_of_ble_eq_true rfl), (Nat.le_of_ble_eq_true rfl), (Nat.le_of_ble_eq_true rfl)⟩ ?_
    refine R_if_eq (tgt := 44) dX1_hoursUntilBurnt_39 rfl (fun c1 => ?_) (fun c1 => ?_)
    · refine R_aload_n dX1_hoursUntilBurnt_44 rfl rfl ?_
      refine R_iload_n dX1_hoursUntilBurnt_45 rfl rfl ?_
      refine R_iload_n dX1_hoursUntilBurnt_46 rfl rfl ?_
      refine G_cV2v cw_X1_36 (s_X1_tryHour hf) dX1_hoursUntilBurnt_47 (rcv cok1 (by first | exact rfl | exact hsf isH1 (by omega) | assumption) (Nat.le_of_ble_eq_true rfl)) ⟨(Nat.le_of_ble_eq_true rfl), (Nat.le_of_ble_eq_true rfl), (Nat.le_of_ble_eq_true rfl), (Nat.le_of_ble_eq_true rfl)⟩ ?_
      first | refine R_iincN dX1_hoursUntilBurnt_50 (by decide) rfl (by decide) (st3 rfl) ?_ | refine R_iinc1 dX1_hoursUntilBurnt_50 (by decide) rfl (by decide) (st3 rfl) ?_
      refine R_goto (tgt := 26) dX1_hoursUntilBurnt_53 rfl ?_
      have e9 : burnU y (j + 1) i Mx = burnU y j (i + 1) (smk (Mx) 1 457 (mx0 (Mx 1 3 - nI i)) y) := by rw [burnU, if_neg (by simpa [zb_0] using c1)]
      rw [e9]
      exact ih (i + 1) _ (by omega)
    · refine R_iload_n dX1_hoursUntilBurnt_42 rfl rfl ?_
      refine R_iret dX1_hoursUntilBurnt_43 rfl (Nat.le_of_ble_eq_true rfl) (Nat.le_of_ble_eq_true rfl) ?_
      have e9 : burnU y (j + 1) i Mx = (nI i, Mx) := by rw [burnU, if_pos (by simpa [zb_n0] using c1)]
      rw [e9]
      exact ⟨rfl, rfl⟩
theorem s_X1_hoursUntilBurnt {l : Launch} (hf : l.stackTraces = false) {n : Nat} (hn : n ≤ 12) (hc : M 1 2 = nI n) {k : Nat} (hk : k < n) (hz : M (6 + 3 * k) 8 = 0 ∨ M (6 + 3 * k) 8 = 1) : V_X1_hoursUntilBurnt l [.ref 456, .int (nI k)] (hp M r) (VI (burnU (zb (tooNear M 1 k n)) 13 0 (fcp M 457 (6 + 3 * k))).1 (hp (burnU (zb (tooNear M 1 k n)) 13 0 (fcp M 457 (6 + 3 * k))).2 r)) := by
  refine VM.intro (lf := L9 (some (.ref 456)) (some (.int (nI k))) none none none none none none none) (by decide +kernel) hf (fun _ => (Nat.le_of_ble_eq_true rfl)) (fun _ => rfl) ?_
  refine R_aload_n dX1_hoursUntilBurnt_0 rfl rfl ?_
  refine G_get cok1 0 wf_X1_18 dX1_hoursUntilBurnt_1 (by first | exact rfl | exact hsf isH1 (by omega) | assumption) ⟨(Nat.le_of_ble_eq_true rfl), (Nat.le_of_ble_eq_true rfl)⟩ rfl ?_
  refine R_iload_n dX1_hoursUntilBurnt_4 rfl rfl ?_
  refine G_cV1 cw_X1_22 (s_X3_hangsTooNear hf isH1 hn hc hk) dX1_hoursUntilBurnt_5 (rcv cok3 (by first | exact rfl | exact hsf isH1 (by omega) | assumption) (Nat.le_of_ble_eq_true rfl)) ⟨(Nat.le_of_ble_eq_true rfl), (Nat.le_of_ble_eq_true rfl), (Nat.le_of_ble_eq_true rfl), (Nat.le_of_ble_eq_true rfl)⟩ ?_
  refine R_istore_n dX1_hoursUntilBurnt_8 rfl (by decide) (st2 rfl) ?_
  refine R_aload_n dX1_hoursUntilBurnt_9 rfl rfl ?_
  refine G_get cok1 1 wf_X1_12 dX1_hoursUntilBurnt_10 (by first | exact rfl | exact hsf isH1 (by omega) | assumption) ⟨(Nat.le_of_ble_eq_true rfl), (Nat.le_of_ble_eq_true rfl)⟩ rfl ?_
  refine R_aload_n dX1_hoursUntilBurnt_13 rfl rfl ?_
  refine G_get cok1 0 wf_X1_18 dX1_hoursUntilBurnt_14 (by first | exact rfl | exact hsf isH1 (by omega) | assumption) ⟨(Nat.le_of_ble_eq_true rfl), (Nat.le_of_ble_eq_true rfl)⟩ rfl ?_
  refine R_iload_n dX1_hoursUntilBurnt_17 rfl rfl ?_
  refine G_cV1 cw_X1_28 (s_X3_fishAt hf isH1 (by omega)) dX1_hoursUntilBurnt_18 (rcv cok3 (by first | exact rfl | exact hsf isH1 (by omega) | assumption) (Nat.le_of_ble_eq_true rfl)) ⟨(Nat.le_of_ble_eq_true rfl), (Nat.le_of_ble_eq_true rfl), (Nat.le_of_ble_eq_true rfl), (Nat.le_of_ble_eq_true rfl)⟩ ?_
  refine G_cV1v cw_X1_32 (s_X0_copyFrom hf (show sK 457 = 0 from rfl) (hsf isH1 (i := k) (by omega)) (by omega) hz) dX1_hoursUntilBurnt_21 (rcv cok0 (by first | exact rfl | exact hsf isH1 (by omega) | assumption) (Nat.le_of_ble_eq_true rfl)) ⟨(Nat.le_of_ble_eq_true rfl), (Nat.le_of_ble_eq_true rfl), (Nat.le_of_ble_eq_true rfl), (Nat.le_of_ble_eq_true rfl)⟩ ?_
  refine R_iconst (v := 0) dX1_hoursUntilBurnt_24 (by decide) ?_
  refine R_istore_n dX1_hoursUntilBurnt_25 rfl (by decide) (st3 rfl) ?_
  rw [show 1 + 5 + 3 * k = 6 + 3 * k by omega]
  exact L_X1_hoursUntilBurnt hf (k := k) 13 0 _ (by omega)
theorem L_X1_hoursUntilReady {l : Launch} (hf : l.stackTraces = false) {k : Nat} {y : Int32} : ∀ (j i : Nat) (Mx : MM), i + j = 13 → Q_X1_hoursUntilReady l (VI (readU y j i Mx).1 (hp (readU y j i Mx).2 r)) 26 (L9 (some (.ref 456)) (some (.int (nI k))) (some (.int y)) (some (.int (nI i))) none none none none none) [] (hp Mx r) := by
  intro j
  induction j with
  | zero =>
    intro i Mx hi
    obtain rfl : i = 13 := by omega
    refine R_iload_n dX1_hoursUntilReady_26 rfl rfl ?_
    refine R_bipush (v := 12) dX1_hoursUntilReady_27 (by decide) ?_
    refine R_icmp_gt_t (tgt := 63) dX1_hoursUntilReady_29 rfl (by decide) ?_
    refine R_iconst (v := (-1)) dX1_hoursUntilReady_63 (by decide) ?_
    refine R_iret dX1_hoursUntilReady_64 rfl (Nat.le_of_ble_eq_true rfl) (Nat.le_of_ble_eq_true rfl) ?_
    exact ⟨rfl, rfl⟩
  | succ j ih =>
    intro i Mx hi
    refine R_iload_n dX1_hoursUntilReady_26 rfl rfl ?_
    refine R_bipush (v := 12) dX1_hoursUntilReady_27 (by decide) ?_
    refine R_icmp_gt_f (tgt := 63) dX1_hoursUntilReady_29 rfl (fun q => nI_nlt (a := 12) (b := i) (by omega) (by omega) q) ?_
    refine R_aload_n dX1_hoursUntilReady_32 rfl rfl ?_
    refine G_get cok1 1 wf_X1_12 dX1_hoursUntilReady_33 (by first | exact rfl | exact hsf isH1 (by omega) | assumption) ⟨(Nat.le_of_ble_eq_true rfl), (Nat.le_of_ble_eq_true rfl)⟩ rfl ?_
    refine G_cV0 cw_X1_80 (s_X0_isReady hf (show sK 457 = 0 from rfl)) dX1_hoursUntilReady_36 (rcv cok0 (by first | exact rfl | exact hsf isH1 (by omega) | assumption) (Nat.le_of_ble_eq_true rfl)) ⟨(Nat.le_of_ble_eq_true rfl), (Nat.le_of_ble_eq_true rfl), (Nat.le_of_ble_eq_true rfl), (Nat.le_of_ble_eq_true rfl)⟩ ?_
    refine R_if_eq (tgt := 44) dX1_hoursUntilReady_39 rfl (fun c1 => ?_) (fun c1 => ?_)
    · refine R_aload_n dX1_hoursUntilReady_44 rfl rfl ?_
      refine G_get cok1 1 wf_X1_12 dX1_hoursUntilReady_45 (by first | exact rfl | exact hsf isH1 (by omega) | assumption) ⟨(Nat.le_of_ble_eq_true rfl), (Nat.le_of_ble_eq_true rfl)⟩ rfl ?_
      refine G_cV0v cw_X1_83 (s_X0_flip hf (show sK 457 = 0 from rfl)) dX1_hoursUntilReady_48 (rcv cok0 (by first | exact rfl | exact hsf isH1 (by omega) | assumption) (Nat.le_of_ble_eq_true rfl)) ⟨(Nat.le_of_ble_eq_true rfl), (Nat.le_of_ble_eq_true rfl), (Nat.le_of_ble_eq_true rfl), (Nat.le_of_ble_eq_true rfl)⟩ ?_
      refine R_aload_n dX1_hoursUntilReady_51 rfl rfl ?_
      refine R_iload_n dX1_hoursUntilReady_52 rfl rfl ?_
      refine R_iload_n dX1_hoursUntilReady_53 rfl rfl ?_
      refine G_cV2v cw_X1_36 (s_X1_tryHour hf) dX1_hoursUntilReady_54 (rcv cok1 (by first | exact rfl | exact hsf isH1 (by omega) | assumption) (Nat.le_of_ble_eq_true rfl)) ⟨(Nat.le_of_ble_eq_true rfl), (Nat.le_of_ble_eq_true rfl), (Nat.le_of_ble_eq_true rfl), (Nat.le_of_ble_eq_true rfl)⟩ ?_
      first | refine R_iincN dX1_hoursUntilReady_57 (by decide) rfl (by decide) (st3 rfl) ?_ | refine R_iinc1 dX1_hoursUntilReady_57 (by decide) rfl (by decide) (st3 rfl) ?_
      refine R_goto (tgt := 26) dX1_hoursUntilReady_60 rfl ?_
      have e9 : readU y (j + 1) i Mx = readU y j (i + 1) (smk (flp Mx 457) 1 457 (mx0 (Mx 1 3 - nI i)) y) := by rw [readU, if_neg (by simpa [zb_0] using c1)]
      rw [e9]
      have e8 : flp Mx 457 1 3 = Mx 1 3 := rfl
      rw [← e8]
      exact ih (i + 1) _ (by omega)
    · refine R_iload_n dX1_hoursUntilReady_42 rfl rfl ?_
      refine R_iret dX1_hoursUntilReady_43 rfl (Nat.le_of_ble_eq_true rfl) (Nat.le_of_ble_eq_true rfl) ?_
      have e9 : readU y (j + 1) i Mx = (nI i, Mx) := by rw [readU, if_pos (by simpa [zb_n0] using c1)]
      rw [e9]
      exact ⟨rfl, rfl⟩
theorem s_X1_hoursUntilReady {l : Launch} (hf : l.stackTraces = false) {n : Nat} (hn : n ≤ 12) (hc : M 1 2 = nI n) {k : Nat} (hk : k < n) (hz : M (6 + 3 * k) 8 = 0 ∨ M (6 + 3 * k) 8 = 1) : V_X1_hoursUntilReady l [.ref 456, .int (nI k)] (hp M r) (VI (readU (zb (tooNear M 1 k n)) 13 0 (fcp M 457 (6 + 3 * k))).1 (hp (readU (zb (tooNear M 1 k n)) 13 0 (fcp M 457 (6 + 3 * k))).2 r)) := by
  refine VM.intro (lf := L9 (some (.ref 456)) (some (.int (nI k))) none none none none none none none) (by decide +kernel) hf (fun _ => (Nat.le_of_ble_eq_true rfl)) (fun _ => rfl) ?_
  refine R_aload_n dX1_hoursUntilReady_0 rfl rfl ?_
  refine G_get cok1 0 wf_X1_18 dX1_hoursUntilReady_1 (by first | exact rfl | exact hsf isH1 (by omega) | assumption) ⟨(Nat.le_of_ble_eq_true rfl), (Nat.le_of_ble_eq_true rfl)⟩ rfl ?_
  refine R_iload_n dX1_hoursUntilReady_4 rfl rfl ?_
  refine G_cV1 cw_X1_22 (s_X3_hangsTooNear hf isH1 hn hc hk) dX1_hoursUntilReady_5 (rcv cok3 (by first | exact rfl | exact hsf isH1 (by omega) | assumption) (Nat.le_of_ble_eq_true rfl)) ⟨(Nat.le_of_ble_eq_true rfl), (Nat.le_of_ble_eq_true rfl), (Nat.le_of_ble_eq_true rfl), (Nat.le_of_ble_eq_true rfl)⟩ ?_
  refine R_istore_n dX1_hoursUntilReady_8 rfl (by decide) (st2 rfl) ?_
  refine R_aload_n dX1_hoursUntilReady_9 rfl rfl ?_
  refine G_get cok1 1 wf_X1_12 dX1_hoursUntilReady_10 (by first | exact rfl | exact hsf isH1 (by omega) | assumption) ⟨(Nat.le_of_ble_eq_true rfl), (Nat.le_of_ble_eq_true rfl)⟩ rfl ?_
  refine R_aload_n dX1_hoursUntilReady_13 rfl rfl ?_
  refine G_get cok1 0 wf_X1_18 dX1_hoursUntilReady_14 (by first | exact rfl | exact hsf isH1 (by omega) | assumption) ⟨(Nat.le_of_ble_eq_true rfl), (Nat.le_of_ble_eq_true rfl)⟩ rfl ?_
  refine R_iload_n dX1_hoursUntilReady_17 rfl rfl ?_
  refine G_cV1 cw_X1_28 (s_X3_fishAt hf isH1 (by omega)) dX1_hoursUntilReady_18 (rcv cok3 (by first | exact rfl | exact hsf isH1 (by omega) | assumption) (Nat.le_of_ble_eq_true rfl)) ⟨(Nat.le_of_ble_eq_true rfl), (Nat.le_of_ble_eq_true rfl), (Nat.le_of_ble_eq_true rfl), (Nat.le_of_ble_eq_true rfl)⟩ ?_
  refine G_cV1v cw_X1_32 (s_X0_copyFrom hf (show sK 457 = 0 from rfl) (hsf isH1 (i := k) (by omega)) (by omega) hz) dX1_hoursUntilReady_21 (rcv cok0 (by first | exact rfl | exact hsf isH1 (by omega) | assumption) (Nat.le_of_ble_eq_true rfl)) ⟨(Nat.le_of_ble_eq_true rfl), (Nat.le_of_ble_eq_true rfl), (Nat.le_of_ble_eq_true rfl), (Nat.le_of_ble_eq_true rfl)⟩ ?_
  refine R_iconst (v := 0) dX1_hoursUntilReady_24 (by decide) ?_
  refine R_istore_n dX1_hoursUntilReady_25 rfl (by decide) (st3 rfl) ?_
  rw [show 1 + 5 + 3 * k = 6 + 3 * k by omega]
  exact L_X1_hoursUntilReady hf (k := k) 13 0 _ (by omega)
theorem L_X1_firstToBurn {l : Launch} (hf : l.stackTraces = false) {n : Nat} (hn : n ≤ 12) (hc : M 1 2 = nI n) (hz : ∀ i, i < n → M (6 + 3 * i) 8 = 0 ∨ M (6 + 3 * i) 8 = 1) : ∀ (j i : Nat), i + j = n → Q_X1_firstToBurn l (VI (firF M n n).1 (hp (firF M n n).2.2 r)) 7 (L9 (some (.ref 456)) (some (.int (firF M n i).1)) (some (.int (firF M n i).2.1)) (some (.int (nI i))) none none none none none) [] (hp ((firF M n i).2.2) r) := by
  intro j
  induction j with
  | zero =>
    intro i hi
    have hin : n = i := by omega
    subst hin
    have hc9 : (firF M n n).2.2 1 2 = nI n := by rw [firF_ne (by omega), hc]
    refine R_iload_n dX1_firstToBurn_7 rfl rfl ?_
    refine R_aload_n dX1_firstToBurn_8 rfl rfl ?_
    refine G_get cok1 0 wf_X1_18 dX1_firstToBurn_9 (by first | exact rfl | exact hsf isH1 (by omega) | assumption) ⟨(Nat.le_of_ble_eq_true rfl), (Nat.le_of_ble_eq_true rfl)⟩ rfl ?_
    refine G_get cok3 2 wf_X1_86 dX1_firstToBurn_12 (by first | exact rfl | exact hsf isH1 (by omega) | assumption) ⟨(Nat.le_of_ble_eq_true rfl), (Nat.le_of_ble_eq_true rfl)⟩ rfl ?_
    refine R_icmp_ge_t (tgt := 47) dX1_firstToBurn_15 rfl (by rw [hc9]; exact nI_le (by omega) (by omega)) ?_
    refine R_iload_n dX1_firstToBurn_47 rfl rfl ?_
    refine R_iret dX1_firstToBurn_48 rfl (Nat.le_of_ble_eq_true rfl) (Nat.le_of_ble_eq_true rfl) ?_
    exact ⟨rfl, rfl⟩
  | succ j ih =>
    intro i hi
    have hi1 : i < n := by omega
    have hc9 : (firF M n i).2.2 1 2 = nI n := by rw [firF_ne (by omega), hc]
    refine R_iload_n dX1_firstToBurn_7 rfl rfl ?_
    refine R_aload_n dX1_firstToBurn_8 rfl rfl ?_
    refine G_get cok1 0 wf_X1_18 dX1_firstToBurn_9 (by first | exact rfl | exact hsf isH1 (by omega) | assumption) ⟨(Nat.le_of_ble_eq_true rfl), (Nat.le_of_ble_eq_true rfl)⟩ rfl ?_
    refine G_get cok3 2 wf_X1_86 dX1_firstToBurn_12 (by first | exact rfl | exact hsf isH1 (by omega) | assumption) ⟨(Nat.le_of_ble_eq_true rfl), (Nat.le_of_ble_eq_true rfl)⟩ rfl ?_
    refine R_icmp_ge_f (tgt := 47) dX1_firstToBurn_15 rfl (by rw [hc9]; exact nI_ge (by omega) (by omega)) ?_
    refine R_aload_n dX1_firstToBurn_18 rfl rfl ?_
    refine R_iload_n dX1_firstToBurn_19 rfl rfl ?_
    refine G_cV1 cw_X1_89 (s_X1_hoursUntilBurnt hf hn hc9 hi1 (by rw [firF_ne (by omega)]; exact hz i hi1)) dX1_firstToBurn_20 (rcv cok1 (by first | exact rfl | exact hsf isH1 (by omega) | assumption) (Nat.le_of_ble_eq_true rfl)) ⟨(Nat.le_of_ble_eq_true rfl), (Nat.le_of_ble_eq_true rfl), (Nat.le_of_ble_eq_true rfl), (Nat.le_of_ble_eq_true rfl)⟩ ?_
    refine R_istore dX1_firstToBurn_23 (by decide) (st4 rfl) ?_
    refine R_iload dX1_firstToBurn_25 (by decide) rfl ?_
    refine R_if_leN (tgt := 41) dX1_firstToBurn_27 rfl (fun c1 => ?_) (fun c1 => ?_)
    · first | refine R_iincN dX1_firstToBurn_41 (by decide) rfl (by decide) (st3 rfl) ?_ | refine R_iinc1 dX1_firstToBurn_41 (by decide) rfl (by decide) (st3 rfl) ?_
      refine R_goto (tgt := 7) dX1_firstToBurn_44 rfl ?_
      refine R_weak dr4 ?_
      have h9 := ih (i + 1) (by omega)
      have e9 : firF M n (i + 1) = (if 0 < (fcst (firF M n i).2.2 n i).1 then (if (fcst (firF M n i).2.2 n i).1 < (firF M n i).2.1 then (nI i, (fcst (firF M n i).2.2 n i).1, (fcst (firF M n i).2.2 n i).2) else ((firF M n i).1, (firF M n i).2.1, (fcst (firF M n i).2.2 n i).2)) else ((firF M n i).1, (firF M n i).2.1, (fcst (firF M n i).2.2 n i).2)) := rfl
      rw [e9] at h9
      first | (rw [if_pos (by assumption), if_pos (by assumption)] at h9; exact h9) | (rw [if_pos (by assumption), if_neg (by assumption)] at h9; exact h9) | (rw [if_neg (by assumption)] at h9; exact h9)
    · refine R_iload dX1_firstToBurn_30 (by decide) rfl ?_
      refine R_iload_n dX1_firstToBurn_32 rfl rfl ?_
      refine R_icmp_geN (tgt := 41) dX1_firstToBurn_33 rfl (fun c2 => ?_) (fun c2 => ?_)
      · first | refine R_iincN dX1_firstToBurn_41 (by decide) rfl (by decide) (st3 rfl) ?_ | refine R_iinc1 dX1_firstToBurn_41 (by decide) rfl (by decide) (st3 rfl) ?_
        refine R_goto (tgt := 7) dX1_firstToBurn_44 rfl ?_
        refine R_weak dr4 ?_
        have h9 := ih (i + 1) (by omega)
        have e9 : firF M n (i + 1) = (if 0 < (fcst (firF M n i).2.2 n i).1 then (if (fcst (firF M n i).2.2 n i).1 < (firF M n i).2.1 then (nI i, (fcst (firF M n i).2.2 n i).1, (fcst (firF M n i).2.2 n i).2) else ((firF M n i).1, (firF M n i).2.1, (fcst (firF M n i).2.2 n i).2)) else ((firF M n i).1, (firF M n i).2.1, (fcst (firF M n i).2.2 n i).2)) := rfl
        rw [e9] at h9
        first | (rw [if_pos (by assumption), if_pos (by assumption)] at h9; exact h9) | (rw [if_pos (by assumption), if_neg (by assumption)] at h9; exact h9) | (rw [if_neg (by assumption)] at h9; exact h9)
      · refine R_iload_n dX1_firstToBurn_36 rfl rfl ?_
        refine R_istore_n dX1_firstToBurn_37 rfl (by decide) (st1 rfl) ?_
        refine R_iload dX1_firstToBurn_38 (by decide) rfl ?_
        refine R_istore_n dX1_firstToBurn_40 rfl (by decide) (st2 rfl) ?_
        first | refine R_iincN dX1_firstToBurn_41 (by decide) rfl (by decide) (st3 rfl) ?_ | refine R_iinc1 dX1_firstToBurn_41 (by decide) rfl (by decide) (st3 rfl) ?_
        refine R_goto (tgt := 7) dX1_firstToBurn_44 rfl ?_
        refine R_weak dr4 ?_
        have h9 := ih (i + 1) (by omega)
        have e9 : firF M n (i + 1) = (if 0 < (fcst (firF M n i).2.2 n i).1 then (if (fcst (firF M n i).2.2 n i).1 < (firF M n i).2.1 then (nI i, (fcst (firF M n i).2.2 n i).1, (fcst (firF M n i).2.2 n i).2) else ((firF M n i).1, (firF M n i).2.1, (fcst (firF M n i).2.2 n i).2)) else ((firF M n i).1, (firF M n i).2.1, (fcst (firF M n i).2.2 n i).2)) := rfl
        rw [e9] at h9
        first | (rw [if_pos (by assumption), if_pos (by assumption)] at h9; exact h9) | (rw [if_pos (by assumption), if_neg (by assumption)] at h9; exact h9) | (rw [if_neg (by assumption)] at h9; exact h9)
theorem s_X1_firstToBurn {l : Launch} (hf : l.stackTraces = false) {n : Nat} (hn : n ≤ 12) (hc : M 1 2 = nI n) (hz : ∀ i, i < n → M (6 + 3 * i) 8 = 0 ∨ M (6 + 3 * i) 8 = 1) : V_X1_firstToBurn l [.ref 456] (hp M r) (VI (firF M n n).1 (hp (firF M n n).2.2 r)) := by
  refine VM.intro (lf := L9 (some (.ref 456)) none none none none none none none none) (by decide +kernel) hf (fun _ => (Nat.le_of_ble_eq_true rfl)) (fun _ => rfl) ?_
  refine R_iconst (v := (-1)) dX1_firstToBurn_0 (by decide) ?_
  refine R_istore_n dX1_firstToBurn_1 rfl (by decide) (st1 rfl) ?_
  refine R_bipush (v := 13) dX1_firstToBurn_2 (by decide) ?_
  refine R_istore_n dX1_firstToBurn_4 rfl (by decide) (st2 rfl) ?_
  refine R_iconst (v := 0) dX1_firstToBurn_5 (by decide) ?_
  refine R_istore_n dX1_firstToBurn_6 rfl (by decide) (st3 rfl) ?_
  exact L_X1_firstToBurn hf hn hc hz n 0 (by omega)
end P15
