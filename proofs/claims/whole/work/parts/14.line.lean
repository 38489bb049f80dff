abbrev V_X4_empty (l : Launch) (As : List Value) (h : HP) (Z : Option Value ⊕ String → HP → Prop) : Prop := VM l yX4_empty cX4_empty 1 none 0 0 0 As h Z
abbrev Q_X4_empty (l : Launch) (Z : Option Value ⊕ String → HP → Prop) (pc : Nat) (lf : Nat → Option Value) (st : List Value) (h : HP) : Prop := Q l RX4 cX4_empty 1 0 0 0 (GM none 0 0 Z) pc lf st h 0 0
abbrev V_X4_add (l : Launch) (As : List Value) (h : HP) (Z : Option Value ⊕ String → HP → Prop) : Prop := VM l yX4_add cX4_add 2 none 0 0 0 As h Z
abbrev Q_X4_add (l : Launch) (Z : Option Value ⊕ String → HP → Prop) (pc : Nat) (lf : Nat → Option Value) (st : List Value) (h : HP) : Prop := Q l RX4 cX4_add 2 0 0 0 (GM none 0 0 Z) pc lf st h 0 0
abbrev V_X4_addNumber (l : Launch) (As : List Value) (h : HP) (Z : Option Value ⊕ String → HP → Prop) : Prop := VM l yX4_addNumber cX4_addNumber 2 none 1 0 0 As h Z
abbrev Q_X4_addNumber (l : Launch) (Z : Option Value ⊕ String → HP → Prop) (pc : Nat) (lf : Nat → Option Value) (st : List Value) (h : HP) : Prop := Q l RX4 cX4_addNumber 2 1 0 0 (GM none 0 0 Z) pc lf st h 0 0
abbrev V_X4_addSide (l : Launch) (As : List Value) (h : HP) (Z : Option Value ⊕ String → HP → Prop) : Prop := VM l yX4_addSide cX4_addSide 3 none 2 0 0 As h Z
abbrev Q_X4_addSide (l : Launch) (Z : Option Value ⊕ String → HP → Prop) (pc : Nat) (lf : Nat → Option Value) (st : List Value) (h : HP) : Prop := Q l RX4 cX4_addSide 3 2 0 0 (GM none 0 0 Z) pc lf st h 0 0
abbrev V_X4_signAt (l : Launch) (As : List Value) (h : HP) (Z : Option Value ⊕ String → HP → Prop) : Prop := VM l yX4_signAt cX4_signAt 2 (some .char) 0 0 0 As h Z
abbrev Q_X4_signAt (l : Launch) (Z : Option Value ⊕ String → HP → Prop) (pc : Nat) (lf : Nat → Option Value) (st : List Value) (h : HP) : Prop := Q l RX4 cX4_signAt 2 0 0 0 (GM (some .char) 0 0 Z) pc lf st h 0 0
theorem isH42 : isH 42 := rfl
theorem isH83 : isH 83 := rfl
theorem hcp_out {M : MM} {a b n x : Nat} (hn : n ≤ 12) (h : x < a ∨ a + 41 ≤ x) : hcp M a b n x = M x := by
  rw [hcp_fr n (by omega)]
  funext k
  simp [hcp0, show ¬ x = a by omega]
theorem isH_124 {a : Nat} (h : isH a) : 124 < a ∨ a + 41 ≤ 124 := by
  unfold isH isHb at h
  simp only [Bool.or_eq_true, Bool.and_eq_true, decide_eq_true_eq, beq_iff_eq] at h
  omega
def rotR (p : Nat → Nat) : Nat → Nat := fun k => if k = 0 then p 7 else if k < 8 then p (k - 1) else p k
def rotL (p : Nat → Nat) : Nat → Nat := fun k => if k = 7 then p 0 else if k < 7 then p (k + 1) else p k
/-- the line: a sign more, behind m of them -/
def lnA (M : MM) (m : Nat) (c : Int32) : MM := mst (mst M 463 m (vp_nar .char c)) 462 1 (nI (m + 1))
def lnL : MM → Nat → List Int32 → MM
  | M, _, [] => M
  | M, m, c :: cs => lnL (lnA M m c) (m + 1) cs
theorem lnL_app : ∀ (a b : List Int32) (M : MM) (m : Nat), lnL M m (a ++ b) = lnL (lnL M m a) (m + a.length) b
  | [], b, M, m => rfl
  | c :: a, b, M, m => by
    show lnL (lnA M m c) (m + 1) (a ++ b) = lnL (lnL (lnA M m c) (m + 1) a) (m + (a.length + 1)) b
    rw [lnL_app a b, show m + 1 + a.length = m + (a.length + 1) by omega]
theorem lnL_len : ∀ (a : List Int32) (M : MM) (m : Nat), M 462 1 = nI m → lnL M m a 462 1 = nI (m + a.length)
  | [], _, _, h => h
  | c :: a, M, m, _ => by
    show lnL (lnA M m c) (m + 1) a 462 1 = nI (m + (a.length + 1))
    rw [lnL_len a (lnA M m c) (m + 1) (by simp [lnA, mst]), show m + 1 + a.length = m + (a.length + 1) by omega]
theorem lnL_fr {x : Nat} (h1 : x ≠ 462) (h2 : x ≠ 463) : ∀ (a : List Int32) (M : MM) (m : Nat), lnL M m a x = M x
  | [], _, _ => rfl
  | c :: a, M, m => by
    show lnL (lnA M m c) (m + 1) a x = M x
    rw [lnL_fr h1 h2 a, lnA, mst_fn h1, mst_fn h2]
def isC (x : Int32) : Prop := narrow .char (.int x) = .int x
def dgs (v : Int32) : List Int32 := if 9 < v then [chr (48 + v / 10), chr (48 + (v - v / 10 * 10))] else [chr (48 + (v - v / 10 * 10))]
def sdL (p q y : Int32) : List Int32 := [47] ++ (dgs p ++ ([126] ++ (dgs q ++ (if y = 0 then [] else [33]))))
theorem dgs_len (v : Int32) : (dgs v).length ≤ 2 := by unfold dgs; split <;> simp
theorem dgs_len1 (v : Int32) : 1 ≤ (dgs v).length := by unfold dgs; split <;> simp
section P14
variable {M : MM} {r : MR}
theorem s_X4_empty {l : Launch} (hf : l.stackTraces = false)  : V_X4_empty l [.ref 462] (hp M r) (VR none (hp (mst M 462 1 0) r)) := by
  refine VM.intro (lf := L9 (some (.ref 462)) none none none none none none none none) (by decide +kernel) hf (fun _ => (Nat.le_of_ble_eq_true rfl)) (fun _ => rfl) ?_
  refine R_aload_n dX4_empty_0 rfl rfl ?_
  refine R_iconst (v := 0) dX4_empty_1 (by decide) ?_
  refine G_put cok4 1 wf_X4_15 dX4_empty_2 (by first | exact rfl | assumption) rfl ⟨(Nat.le_of_ble_eq_true rfl), rfl, (Nat.le_of_ble_eq_true rfl)⟩ ⟨rfl, rfl⟩ ?_
  refine R_vret dX4_empty_5 (Nat.le_of_ble_eq_true rfl) (Nat.le_of_ble_eq_true rfl) ?_
  exact ⟨rfl, rfl⟩
theorem s_X4_add {l : Launch} (hf : l.stackTraces = false) {m : Nat} {c : Int32} (hm : M 462 1 = nI m) (h14 : m < 14) : V_X4_add l [.ref 462, .int c] (hp M r) (VR none (hp (lnA M m c) r)) := by
  refine VM.intro (lf := L9 (some (.ref 462)) (some (.int c)) none none none none none none none) (by decide +kernel) hf (fun _ => (Nat.le_of_ble_eq_true rfl)) (fun _ => rfl) ?_
  refine R_aload_n dX4_add_0 rfl rfl ?_
  refine G_get cok4 1 wf_X4_15 dX4_add_1 (by first | exact rfl | assumption) ⟨(Nat.le_of_ble_eq_true rfl), (Nat.le_of_ble_eq_true rfl)⟩ rfl ?_
  refine R_aload_n dX4_add_4 rfl rfl ?_
  refine G_get cok4 0 wf_X4_9 dX4_add_5 (by first | exact rfl | assumption) ⟨(Nat.le_of_ble_eq_true rfl), (Nat.le_of_ble_eq_true rfl)⟩ rfl ?_
  refine G_alen (v := 14) dX4_add_8 (show sK 463 = 11 from rfl) (by decide) (fun _ => rfl) rfl rfl rfl ?_
  refine R_icmp_ge_f (tgt := 32) dX4_add_9 rfl (by rw [hm]; exact nI_ge (b := 14) (by omega) (by omega)) ?_
  refine R_aload_n dX4_add_12 rfl rfl ?_
  refine G_get cok4 0 wf_X4_9 dX4_add_13 (by first | exact rfl | assumption) ⟨(Nat.le_of_ble_eq_true rfl), (Nat.le_of_ble_eq_true rfl)⟩ rfl ?_
  refine R_aload_n dX4_add_16 rfl rfl ?_
  refine G_get cok4 1 wf_X4_15 dX4_add_17 (by first | exact rfl | assumption) ⟨(Nat.le_of_ble_eq_true rfl), (Nat.le_of_ble_eq_true rfl)⟩ rfl ?_
  refine R_iload_n dX4_add_20 rfl rfl ?_
  rw [hm]
  refine G_cast dX4_add_21 (show sK 463 = 11 from rfl) (nI_in12 (n := 14) h14 (by omega)) ?_
  refine R_aload_n dX4_add_22 rfl rfl ?_
  refine R_dup dX4_add_23 rfl ?_
  refine G_get cok4 1 wf_X4_15 dX4_add_24 (by first | exact rfl | assumption) ⟨(Nat.le_of_ble_eq_true rfl), (Nat.le_of_ble_eq_true rfl)⟩ rfl ?_
  refine R_iconst (v := 1) dX4_add_27 (by decide) ?_
  refine R_iadd dX4_add_28 ?_
  refine G_put cok4 1 wf_X4_15 dX4_add_29 (by first | exact rfl | assumption) rfl ⟨(Nat.le_of_ble_eq_true rfl), rfl, (Nat.le_of_ble_eq_true rfl)⟩ ⟨rfl, rfl⟩ ?_
  refine R_vret dX4_add_32 (Nat.le_of_ble_eq_true rfl) (Nat.le_of_ble_eq_true rfl) ?_
  refine ⟨rfl, congrArg (fun z => hp z r) ?_⟩
  rw [nI_cl (by omega), lnA, mst_ne1 (by decide), hm, nI_1]
theorem s_X4_addNumber {l : Launch} (hf : l.stackTraces = false) {m : Nat} {v : Int32} (hm : M 462 1 = nI m) (h14 : m + (dgs v).length ≤ 14) : V_X4_addNumber l [.ref 462, .int v] (hp M r) (VR none (hp (lnL M m (dgs v)) r)) := by
  refine VM.intro (lf := L9 (some (.ref 462)) (some (.int v)) none none none none none none none) (by decide +kernel) hf (fun _ => (Nat.le_of_ble_eq_true rfl)) (fun _ => rfl) ?_
  refine R_iload_n dX4_addNumber_0 rfl rfl ?_
  refine R_bipush (v := 9) dX4_addNumber_1 (by decide) ?_
  refine R_icmp_leN (tgt := 18) dX4_addNumber_3 rfl (fun c1 => ?_) (fun c1 => ?_)
  · have hL : (dgs v).length = 1 := by rw [dgs, if_neg c1]; rfl
    refine R_aload_n dX4_addNumber_18 rfl rfl ?_
    refine R_bipush (v := 48) dX4_addNumber_19 (by decide) ?_
    refine R_iload_n dX4_addNumber_21 rfl rfl ?_
    refine R_bipush (v := 10) dX4_addNumber_22 (by decide) ?_
    refine R_irem dX4_addNumber_24 (by decide) ?_
    refine R_iadd dX4_addNumber_25 ?_
    refine R_i2c dX4_addNumber_26 rfl ?_
    refine G_cV1v cw_X4_19 (s_X4_add hf (m := m) (by first | assumption | simp [lnA, mst]) (by omega)) dX4_addNumber_27 (rcv cok4 (by first | exact rfl | assumption) (Nat.le_of_ble_eq_true rfl)) ⟨(Nat.le_of_ble_eq_true rfl), (Nat.le_of_ble_eq_true rfl), (Nat.le_of_ble_eq_true rfl), (Nat.le_of_ble_eq_true rfl)⟩ ?_
    refine R_vret dX4_addNumber_30 (Nat.le_of_ble_eq_true rfl) (Nat.le_of_ble_eq_true rfl) ?_
    refine ⟨rfl, congrArg (fun z => hp z r) ?_⟩
    rw [dgs, if_neg c1]
    rfl
  · have hL : (dgs v).length = 2 := by rw [dgs, if_pos c1]; rfl
    refine R_aload_n dX4_addNumber_6 rfl rfl ?_
    refine R_bipush (v := 48) dX4_addNumber_7 (by decide) ?_
    refine R_iload_n dX4_addNumber_9 rfl rfl ?_
    refine R_bipush (v := 10) dX4_addNumber_10 (by decide) ?_
    refine R_idiv dX4_addNumber_12 (by decide) ?_
    refine R_iadd dX4_addNumber_13 ?_
    refine R_i2c dX4_addNumber_14 rfl ?_
    refine G_cV1v cw_X4_19 (s_X4_add hf hm (by omega)) dX4_addNumber_15 (rcv cok4 (by first | exact rfl | assumption) (Nat.le_of_ble_eq_true rfl)) ⟨(Nat.le_of_ble_eq_true rfl), (Nat.le_of_ble_eq_true rfl), (Nat.le_of_ble_eq_true rfl), (Nat.le_of_ble_eq_true rfl)⟩ ?_
    refine R_aload_n dX4_addNumber_18 rfl rfl ?_
    refine R_bipush (v := 48) dX4_addNumber_19 (by decide) ?_
    refine R_iload_n dX4_addNumber_21 rfl rfl ?_
    refine R_bipush (v := 10) dX4_addNumber_22 (by decide) ?_
    refine R_irem dX4_addNumber_24 (by decide) ?_
    refine R_iadd dX4_addNumber_25 ?_
    refine R_i2c dX4_addNumber_26 rfl ?_
    refine G_cV1v cw_X4_19 (s_X4_add hf (m := m + 1) (by first | assumption | simp [lnA, mst]) (by omega)) dX4_addNumber_27 (rcv cok4 (by first | exact rfl | assumption) (Nat.le_of_ble_eq_true rfl)) ⟨(Nat.le_of_ble_eq_true rfl), (Nat.le_of_ble_eq_true rfl), (Nat.le_of_ble_eq_true rfl), (Nat.le_of_ble_eq_true rfl)⟩ ?_
    refine R_vret dX4_addNumber_30 (Nat.le_of_ble_eq_true rfl) (Nat.le_of_ble_eq_true rfl) ?_
    refine ⟨rfl, congrArg (fun z => hp z r) ?_⟩
    rw [dgs, if_pos c1]
    rfl
theorem s_X4_addSide {l : Launch} (hf : l.stackTraces = false) {m s : Nat} {y : Int32} (hs : sK s = 7) (hm : M 462 1 = nI m) (h14 : m + (sdL (M s 0) (M s 1) y).length ≤ 14) : V_X4_addSide l [.ref 462, .ref s, .int y] (hp M r) (VR none (hp (lnL M m (sdL (M s 0) (M s 1) y)) r)) := by
  refine VM.intro (lf := L9 (some (.ref 462)) (some (.ref s)) (some (.int y)) none none none none none none) (by decide +kernel) hf (fun _ => (Nat.le_of_ble_eq_true rfl)) (fun _ => rfl) ?_
  have n1 : s ≠ 462 := sK_ne hs (show sK 462 = 4 from rfl) (by decide)
  have n2 : s ≠ 463 := sK_ne hs (show sK 463 = 11 from rfl) (by decide)
  have hlen : (sdL (M s 0) (M s 1) y).length = 2 + (dgs (M s 0)).length + (dgs (M s 1)).length + (if y = 0 then 0 else 1) := by
    unfold sdL
    simp only [List.length_append, List.length_cons, List.length_nil]
    split <;> simp <;> omega
  have g1 := dgs_len1 (M s 0)
  have g2 := dgs_len1 (M s 1)
  have g3 := dgs_len (M s 0)
  have g4 := dgs_len (M s 1)
  obtain ⟨M1, e1⟩ : ∃ z, z = lnA M m 47 := ⟨_, rfl⟩
  have hm1 : M1 462 1 = nI (m + 1) := by rw [e1]; simp [lnA, mst]
  have f1 : ∀ k, M1 s k = M s k := fun k => by rw [e1, lnA, mst_ne1 n1, mst_ne1 n2]
  obtain ⟨M2, e2⟩ : ∃ z, z = lnL M1 (m + 1) (dgs (M s 0)) := ⟨_, rfl⟩
  have hm2 : M2 462 1 = nI (m + 1 + (dgs (M s 0)).length) := by rw [e2]; exact lnL_len _ _ _ hm1
  have f2 : ∀ k, M2 s k = M s k := fun k => by rw [e2, lnL_fr n1 n2, f1]
  obtain ⟨M3, e3⟩ : ∃ z, z = lnA M2 (m + 1 + (dgs (M s 0)).length) 126 := ⟨_, rfl⟩
  have hm3 : M3 462 1 = nI (m + 1 + (dgs (M s 0)).length + 1) := by rw [e3]; simp [lnA, mst]
  have f3 : ∀ k, M3 s k = M s k := fun k => by rw [e3, lnA, mst_ne1 n1, mst_ne1 n2, f2]
  obtain ⟨M4, e4⟩ : ∃ z, z = lnL M3 (m + 1 + (dgs (M s 0)).length + 1) (dgs (M s 1)) := ⟨_, rfl⟩
  have hm4 : M4 462 1 = nI (m + 1 + (dgs (M s 0)).length + 1 + (dgs (M s 1)).length) := by rw [e4]; exact lnL_len _ _ _ hm3
  refine R_aload_n dX4_addSide_0 rfl rfl ?_
  refine R_bipush (v := 47) dX4_addSide_1 (by decide) ?_
  refine G_cV1v cw_X4_19 (s_X4_add hf hm (by omega)) dX4_addSide_3 (rcv cok4 (by first | exact rfl | assumption) (Nat.le_of_ble_eq_true rfl)) ⟨(Nat.le_of_ble_eq_true rfl), (Nat.le_of_ble_eq_true rfl), (Nat.le_of_ble_eq_true rfl), (Nat.le_of_ble_eq_true rfl)⟩ ?_
  rw [← e1]
  refine R_aload_n dX4_addSide_6 rfl rfl ?_
  refine R_aload_n dX4_addSide_7 rfl rfl ?_
  refine G_get cok7 0 wf_X4_23 dX4_addSide_8 (by first | exact rfl | assumption) ⟨(Nat.le_of_ble_eq_true rfl), (Nat.le_of_ble_eq_true rfl)⟩ rfl ?_
  refine R_topE (f1 0) ?_
  refine G_cV1v cw_X4_28 (s_X4_addNumber hf hm1 (by omega)) dX4_addSide_11 (rcv cok4 (by first | exact rfl | assumption) (Nat.le_of_ble_eq_true rfl)) ⟨(Nat.le_of_ble_eq_true rfl), (Nat.le_of_ble_eq_true rfl), (Nat.le_of_ble_eq_true rfl), (Nat.le_of_ble_eq_true rfl)⟩ ?_
  rw [← e2]
  refine R_aload_n dX4_addSide_14 rfl rfl ?_
  refine R_bipush (v := 126) dX4_addSide_15 (by decide) ?_
  refine G_cV1v cw_X4_19 (s_X4_add hf hm2 (by omega)) dX4_addSide_17 (rcv cok4 (by first | exact rfl | assumption) (Nat.le_of_ble_eq_true rfl)) ⟨(Nat.le_of_ble_eq_true rfl), (Nat.le_of_ble_eq_true rfl), (Nat.le_of_ble_eq_true rfl), (Nat.le_of_ble_eq_true rfl)⟩ ?_
  rw [← e3]
  refine R_aload_n dX4_addSide_20 rfl rfl ?_
  refine R_aload_n dX4_addSide_21 rfl rfl ?_
  refine G_get cok7 1 wf_X4_32 dX4_addSide_22 (by first | exact rfl | assumption) ⟨(Nat.le_of_ble_eq_true rfl), (Nat.le_of_ble_eq_true rfl)⟩ rfl ?_
  refine R_topE (f3 1) ?_
  refine G_cV1v cw_X4_28 (s_X4_addNumber hf hm3 (by omega)) dX4_addSide_25 (rcv cok4 (by first | exact rfl | assumption) (Nat.le_of_ble_eq_true rfl)) ⟨(Nat.le_of_ble_eq_true rfl), (Nat.le_of_ble_eq_true rfl), (Nat.le_of_ble_eq_true rfl), (Nat.le_of_ble_eq_true rfl)⟩ ?_
  rw [← e4]
  refine R_iload_n dX4_addSide_28 rfl rfl ?_
  refine R_if_eq (tgt := 38) dX4_addSide_29 rfl (fun c1 => ?_) (fun c1 => ?_)
  · refine R_vret dX4_addSide_38 (Nat.le_of_ble_eq_true rfl) (Nat.le_of_ble_eq_true rfl) ?_
    refine ⟨rfl, congrArg (fun z => hp z r) ?_⟩
    first | rw [sdL, if_pos (by assumption)] | rw [sdL, if_neg (by assumption)]
    rw [lnL_app, lnL_app, lnL_app, lnL_app, e4, e3, e2, e1]
    rfl
  · refine R_aload_n dX4_addSide_32 rfl rfl ?_
    refine R_bipush (v := 33) dX4_addSide_33 (by decide) ?_
    refine G_cV1v cw_X4_19 (s_X4_add hf hm4 (by simp [*] at hlen; omega)) dX4_addSide_35 (rcv cok4 (by first | exact rfl | assumption) (Nat.le_of_ble_eq_true rfl)) ⟨(Nat.le_of_ble_eq_true rfl), (Nat.le_of_ble_eq_true rfl), (Nat.le_of_ble_eq_true rfl), (Nat.le_of_ble_eq_true rfl)⟩ ?_
    refine R_vret dX4_addSide_38 (Nat.le_of_ble_eq_true rfl) (Nat.le_of_ble_eq_true rfl) ?_
    refine ⟨rfl, congrArg (fun z => hp z r) ?_⟩
    first | rw [sdL, if_pos (by assumption)] | rw [sdL, if_neg (by assumption)]
    rw [lnL_app, lnL_app, lnL_app, lnL_app, e4, e3, e2, e1]
    rfl
theorem s_X4_signAt {l : Launch} (hf : l.stackTraces = false) {k : Nat} (hk : k < 14) (hnar : isC (M 463 k)) : V_X4_signAt l [.ref 462, .int (nI k)] (hp M r) (VI (M 463 k) (hp M r)) := by
  refine VM.intro (lf := L9 (some (.ref 462)) (some (.int (nI k))) none none none none none none none) (by decide +kernel) hf (fun _ => (Nat.le_of_ble_eq_true rfl)) (fun _ => rfl) ?_
  refine R_iload_n dX4_signAt_0 rfl rfl ?_
  refine R_if_lt_f (tgt := 22) dX4_signAt_1 rfl (nI_pos (by omega)) ?_
  refine R_iload_n dX4_signAt_4 rfl rfl ?_
  refine R_aload_n dX4_signAt_5 rfl rfl ?_
  refine G_get cok4 0 wf_X4_9 dX4_signAt_6 (by first | exact rfl | assumption) ⟨(Nat.le_of_ble_eq_true rfl), (Nat.le_of_ble_eq_true rfl)⟩ rfl ?_
  refine G_alen (v := 14) dX4_signAt_9 (show sK 463 = 11 from rfl) (by decide) (fun _ => rfl) rfl rfl rfl ?_
  refine R_icmp_ge_f (tgt := 22) dX4_signAt_10 rfl (nI_ge (b := 14) (by omega) (by omega)) ?_
  refine R_aload_n dX4_signAt_13 rfl rfl ?_
  refine G_get cok4 0 wf_X4_9 dX4_signAt_14 (by first | exact rfl | assumption) ⟨(Nat.le_of_ble_eq_true rfl), (Nat.le_of_ble_eq_true rfl)⟩ rfl ?_
  refine R_iload_n dX4_signAt_17 rfl rfl ?_
  refine G_cald dX4_signAt_18 (show sK 463 = 11 from rfl) (nI_in12 (n := 14) hk (by omega)) ?_
  refine R_goto (tgt := 23) dX4_signAt_19 rfl ?_
  refine R_iret dX4_signAt_23 (by first | rfl | (rw [nI_cl (by omega)]; exact hnar)) (Nat.le_of_ble_eq_true rfl) (Nat.le_of_ble_eq_true rfl) ?_
  refine ⟨?_, rfl⟩
  rw [nI_cl (by omega)]
end P14
