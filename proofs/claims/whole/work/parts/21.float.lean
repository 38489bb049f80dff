theorem R_ldcwF {l : Launch} {own : String} {cc : ByteArray} {nL d mc ms : Nat} {G : GT} {pc : Nat} {lf : Nat → Option Value} {st : List Value} {h : HP} {ce sl : Nat} {ix : Nat} {v : UInt32} (tw : Cond.constantFloat own ix v ∈ TG) (hd : decode cc pc = .ok (.ldc_w ix, 3)) (k : Q l own cc nL d mc ms G (pc + 3) lf (.float v :: st) h ce sl) : Q l own cc nL d mc ms G pc lf st h ce sl := by
  intro p e R s m args below meth c D dA θ A QQ H locs ls cx g wd hl T hT X
  obtain ⟨t, a, b⟩ := k p e R s m args below meth c D dA θ A QQ H locs ls cx g wd hl T hT X
  refine ⟨t, ?_, b⟩
  obtain ⟨k1, cf, hk, hcf, hcp⟩ := Cond.constantFloat_spec cx.2.2.2.1 (cx.2.2.2.2.1 _ tw)
  obtain ⟨k', hk', he⟩ := X.warmed.alike.2.2 _ _ hk
  have hdg : decode c.code pc = .ok (.ldc_w ix, 3) := by rw [cx.2.1]; exact hd
  jvm_step X.here [cx.1, hdg, ldc_w.wp_float (s := T) (f := F0 m pc ls (st.map (cvV θ))) X.here.top hk' (by rw [he]; exact hcf) hcp]
  exact a
theorem tw_336 : Cond.constantFloat RX9 336 1258291200 ∈ TG := tg (List.mem_of_getElem? (i := 1204) (by decide +kernel)) (by decide +kernel)
def n32 (x : UInt32) : Bool := decide (x &&& 0x7fffffff ≤ 0x7f800000)
theorem n32_ok {x : UInt32} (h : n32 x = true) : vf_n32 x := show x &&& 0x7fffffff ≤ 0x7f800000 from of_decide_eq_true h
def fD : Nat → UInt32 → Int32 → UInt32 × Int32
  | 0, x, e => (x, e)
  | j + 1, x, e => if Op.cmpValue (FP.fcmp x FP.fconst2) .l < 0 then (x, e) else fD j (FP.fdiv x FP.fconst2) (e + 1)
def okD : Nat → UInt32 → Bool
  | 0, _ => true
  | j + 1, x => if Op.cmpValue (FP.fcmp x FP.fconst2) .l < 0 then true else n32 (FP.fdiv x FP.fconst2) && okD j (FP.fdiv x FP.fconst2)
def fU : Nat → UInt32 → Int32 → UInt32 × Int32
  | 0, x, e => (x, e)
  | j + 1, x, e => if Op.cmpValue (FP.fcmp x FP.fconst1) .g < 0 then fU j (FP.fmul x FP.fconst2) (e + -1) else (x, e)
def okU : Nat → UInt32 → Bool
  | 0, _ => true
  | j + 1, x => if Op.cmpValue (FP.fcmp x FP.fconst1) .g < 0 then n32 (FP.fmul x FP.fconst2) && okU j (FP.fmul x FP.fconst2) else true
def fE (s : UInt32 × Int32) : Int32 := s.2 <<< (23 &&& 31) + FP.f2i (FP.fmul (FP.fsub s.1 FP.fconst1) 1258291200)
def okE (s : UInt32 × Int32) : Bool := n32 (FP.fsub s.1 FP.fconst1) && n32 (FP.fmul (FP.fsub s.1 FP.fconst1) 1258291200)
def fB (x : UInt32) : Int32 := if 0 < Op.cmpValue (FP.fcmp x FP.fconst0) .g then fE (fU 126 (fD 127 x 127).1 (fD 127 x 127).2) else 0
def okB (x : UInt32) : Bool := if 0 < Op.cmpValue (FP.fcmp x FP.fconst0) .g then okD 127 x && (okU 126 (fD 127 x 127).1 && okE (fU 126 (fD 127 x 127).1 (fD 127 x 127).2)) else true
def qS (k n : Nat) : UInt32 := FP.fdiv (FP.i2f (nI k)) (FP.i2f (nI n * 2))
def okS (k n : Nat) : Bool := n32 (qS k n) && (okB (qS k n) && fB (qS k n) == (qS k n).toInt32)
section P21
variable {M : MM} {r : MR}
theorem U_X9_bitsOf {l : Launch} (hf : l.stackTraces = false) {x : UInt32} : ∀ (j i : Nat) (y : UInt32) (e : Int32), i + j = 126 → okU j y = true → okE (fU j y e) = true → Q_X9_bitsOf l (VI (fE (fU j y e)) (hp M r)) 42 (L9 (some (.float x)) (some (.float y)) (some (.int e)) (some (.int (nI i))) none none none none none) [] (hp M r) := by
  intro j
  induction j with
  | zero =>
    intro i y e hi h1 h2
    obtain rfl : i = 126 := by omega
    have g := h2
    rw [fU, okE, Bool.and_eq_true] at g
    refine R_iload_n dX9_bitsOf_42 rfl rfl ?_
    refine R_bipush (v := 126) dX9_bitsOf_43 (by decide) ?_
    refine R_icmp_ge_t (tgt := 67) dX9_bitsOf_45 rfl (nI_le (a := 126) (by omega) (by omega)) ?_
    refine R_iload_n dX9_bitsOf_67 rfl rfl ?_
    refine R_bipush (v := 23) dX9_bitsOf_68 (by decide) ?_
    refine R_ishl dX9_bitsOf_70 ?_
    refine R_fload_n dX9_bitsOf_71 rfl rfl ?_
    refine R_fconst1 dX9_bitsOf_72 ?_
    refine R_fsub dX9_bitsOf_73 (n32_ok g.1) ?_
    refine R_ldcwF tw_336 dX9_bitsOf_74 ?_
    refine R_fmul dX9_bitsOf_77 (n32_ok g.2) ?_
    refine R_f2i dX9_bitsOf_78 ?_
    refine R_iadd dX9_bitsOf_79 ?_
    refine R_iret dX9_bitsOf_80 rfl (Nat.le_of_ble_eq_true rfl) (Nat.le_of_ble_eq_true rfl) ?_
    exact ⟨rfl, rfl⟩
  | succ j ih =>
    intro i y e hi h1 h2
    refine R_iload_n dX9_bitsOf_42 rfl rfl ?_
    refine R_bipush (v := 126) dX9_bitsOf_43 (by decide) ?_
    refine R_icmp_ge_f (tgt := 67) dX9_bitsOf_45 rfl (nI_ge (b := 126) (by omega) (by omega)) ?_
    refine R_fload_n dX9_bitsOf_48 rfl rfl ?_
    refine R_fconst1 dX9_bitsOf_49 ?_
    refine R_fcmp dX9_bitsOf_50 ?_
    refine R_if_geN (tgt := 67) dX9_bitsOf_51 rfl (fun c1 => ?_) (fun c1 => ?_)
    · rw [fU, if_neg (by assumption)] at h2 ⊢
      have g := h2
      rw [okE, Bool.and_eq_true] at g
      refine R_iload_n dX9_bitsOf_67 rfl rfl ?_
      refine R_bipush (v := 23) dX9_bitsOf_68 (by decide) ?_
      refine R_ishl dX9_bitsOf_70 ?_
      refine R_fload_n dX9_bitsOf_71 rfl rfl ?_
      refine R_fconst1 dX9_bitsOf_72 ?_
      refine R_fsub dX9_bitsOf_73 (n32_ok g.1) ?_
      refine R_ldcwF tw_336 dX9_bitsOf_74 ?_
      refine R_fmul dX9_bitsOf_77 (n32_ok g.2) ?_
      refine R_f2i dX9_bitsOf_78 ?_
      refine R_iadd dX9_bitsOf_79 ?_
      refine R_iret dX9_bitsOf_80 rfl (Nat.le_of_ble_eq_true rfl) (Nat.le_of_ble_eq_true rfl) ?_
      exact ⟨rfl, rfl⟩
    · rw [okU, if_pos (by assumption), Bool.and_eq_true] at h1
      have h3 := h1
      rw [fU, if_pos (by assumption)] at h2 ⊢
      refine R_fload_n dX9_bitsOf_54 rfl rfl ?_
      refine R_fconst2 dX9_bitsOf_55 ?_
      refine R_fmul dX9_bitsOf_56 (n32_ok h3.1) ?_
      refine R_fstore_n dX9_bitsOf_57 rfl (by decide) (st1 rfl) ?_
      refine R_iinc dX9_bitsOf_58 (by decide) rfl rfl (by decide) (st2 rfl) ?_
      first | refine R_iincN dX9_bitsOf_61 (by decide) rfl (by decide) (st3 rfl) ?_ | refine R_iinc1 dX9_bitsOf_61 (by decide) rfl (by decide) (st3 rfl) ?_
      refine R_goto (tgt := 42) dX9_bitsOf_64 rfl ?_
      exact ih (i + 1) _ _ (by omega) h3.2 h2
theorem D_X9_bitsOf {l : Launch} (hf : l.stackTraces = false) {x : UInt32} : ∀ (j i : Nat) (y : UInt32) (e : Int32), i + j = 127 → okD j y = true → okU 126 (fD j y e).1 = true → okE (fU 126 (fD j y e).1 (fD j y e).2) = true → Q_X9_bitsOf l (VI (fE (fU 126 (fD j y e).1 (fD j y e).2)) (hp M r)) 15 (L9 (some (.float x)) (some (.float y)) (some (.int e)) (some (.int (nI i))) none none none none none) [] (hp M r) := by
  intro j
  induction j with
  | zero =>
    intro i y e hi h1 h2 h3
    obtain rfl : i = 127 := by omega
    rw [fD] at h2 h3 ⊢
    refine R_iload_n dX9_bitsOf_15 rfl rfl ?_
    refine R_bipush (v := 127) dX9_bitsOf_16 (by decide) ?_
    refine R_icmp_ge_t (tgt := 40) dX9_bitsOf_18 rfl (nI_le (a := 127) (by omega) (by omega)) ?_
    refine R_iconst (v := 0) dX9_bitsOf_40 (by decide) ?_
    refine R_istore_n dX9_bitsOf_41 rfl (by decide) (st3 rfl) ?_
    have z := U_X9_bitsOf (M := M) (r := r) (x := x) hf 126 0 y e (by omega) h2 h3
    rw [nI_0] at z
    exact z
  | succ j ih =>
    intro i y e hi h1 h2 h3
    refine R_iload_n dX9_bitsOf_15 rfl rfl ?_
    refine R_bipush (v := 127) dX9_bitsOf_16 (by decide) ?_
    refine R_icmp_ge_f (tgt := 40) dX9_bitsOf_18 rfl (nI_ge (b := 127) (by omega) (by omega)) ?_
    refine R_fload_n dX9_bitsOf_21 rfl rfl ?_
    refine R_fconst2 dX9_bitsOf_22 ?_
    refine R_fcmp dX9_bitsOf_23 ?_
    refine R_if_lt (tgt := 40) dX9_bitsOf_24 rfl (fun c1 => ?_) (fun c1 => ?_)
    · rw [fD, if_pos (by assumption)] at h2 h3 ⊢
      refine R_iconst (v := 0) dX9_bitsOf_40 (by decide) ?_
      refine R_istore_n dX9_bitsOf_41 rfl (by decide) (st3 rfl) ?_
      have z := U_X9_bitsOf (M := M) (r := r) (x := x) hf 126 0 y e (by omega) h2 h3
      rw [nI_0] at z
      exact z
    · rw [okD, if_neg (by assumption), Bool.and_eq_true] at h1
      have h4 := h1
      rw [fD, if_neg (by assumption)] at h2 h3 ⊢
      refine R_fload_n dX9_bitsOf_27 rfl rfl ?_
      refine R_fconst2 dX9_bitsOf_28 ?_
      refine R_fdiv dX9_bitsOf_29 (n32_ok h4.1) ?_
      refine R_fstore_n dX9_bitsOf_30 rfl (by decide) (st1 rfl) ?_
      first | refine R_iincN dX9_bitsOf_31 (by decide) rfl (by decide) (st2 rfl) ?_ | refine R_iinc1 dX9_bitsOf_31 (by decide) rfl (by decide) (st2 rfl) ?_
      first | refine R_iincN dX9_bitsOf_34 (by decide) rfl (by decide) (st3 rfl) ?_ | refine R_iinc1 dX9_bitsOf_34 (by decide) rfl (by decide) (st3 rfl) ?_
      refine R_goto (tgt := 15) dX9_bitsOf_37 rfl ?_
      exact ih (i + 1) _ _ (by omega) h4.2 h2 h3
theorem s_X9_bitsOf {l : Launch} (hf : l.stackTraces = false) {x : UInt32} (hok : okB x = true) : V_X9_bitsOf l [.float x] (hp M r) (VI (fB x) (hp M r)) := by
  refine VM.intro (lf := L9 (some (.float x)) none none none none none none none none) (by decide +kernel) hf (fun _ => (Nat.le_of_ble_eq_true rfl)) (fun _ => rfl) ?_
  refine R_fload_n dX9_bitsOf_0 rfl rfl ?_
  refine R_fconst0 dX9_bitsOf_1 ?_
  refine R_fcmp dX9_bitsOf_2 ?_
  refine R_if_gt (tgt := 8) dX9_bitsOf_3 rfl (fun c1 => ?_) (fun c1 => ?_)
  · rw [okB, if_pos (by assumption), Bool.and_eq_true, Bool.and_eq_true] at hok
    rw [fB, if_pos (by assumption)]
    refine R_fload_n dX9_bitsOf_8 rfl rfl ?_
    refine R_fstore_n dX9_bitsOf_9 rfl (by decide) (st1 rfl) ?_
    refine R_bipush (v := 127) dX9_bitsOf_10 (by decide) ?_
    refine R_istore_n dX9_bitsOf_12 rfl (by decide) (st2 rfl) ?_
    refine R_iconst (v := 0) dX9_bitsOf_13 (by decide) ?_
    refine R_istore_n dX9_bitsOf_14 rfl (by decide) (st3 rfl) ?_
    have z := D_X9_bitsOf (M := M) (r := r) (x := x) hf 127 0 x 127 (by omega) hok.1 hok.2.1 hok.2.2
    rw [nI_0] at z
    exact z
  · refine R_iconst (v := 0) dX9_bitsOf_6 (by decide) ?_
    refine R_iret dX9_bitsOf_7 rfl (Nat.le_of_ble_eq_true rfl) (Nat.le_of_ble_eq_true rfl) ?_
    rw [fB, if_neg (by assumption)]
    exact ⟨rfl, rfl⟩
abbrev smS (M : MM) (n : Nat) : Int32 := itN (fun i s => s + (M (1 + 5 + 3 * i + 1) 0 + M (1 + 5 + 3 * i + 2) 0)) 0 n
abbrev buC (M : MM) (n : Nat) : Int32 := itN (fun i s => s + (if zb (fBurnt M (1 + 5 + 3 * i)) = 0 then 0 else 1)) 0 n
abbrev qSm (M : MM) (n : Nat) : UInt32 := FP.fdiv (FP.i2f (smS M n)) (FP.i2f (M 1 2 * 2))
def n64 (x : UInt64) : Bool := decide (x &&& 0x7fffffffffffffff ≤ 0x7ff0000000000000)
theorem n64_ok {x : UInt64} (h : n64 x = true) : vf_n64 x := show x &&& 0x7fffffffffffffff ≤ 0x7ff0000000000000 from of_decide_eq_true h
abbrev qBu (M : MM) (n : Nat) : UInt64 := FP.ddiv (FP.i2d (buC M n)) (FP.i2d (M 1 2))
theorem nI2_0 {n : Nat} (hn : n ≤ 12) : nI n * 2 = 0 ↔ n = 0 := by
  constructor
  · intro h
    by_cases h0 : n = 0
    · exact h0
    · exfalso
      revert h
      have : ∀ k, k < 13 → k ≠ 0 → ¬ nI k * 2 = 0 := by decide +kernel
      exact this n (by omega) h0
  · rintro rfl
    decide
theorem nI_00 {n : Nat} (hn : n ≤ 12) : nI n = 0 ↔ n = 0 := by
  constructor
  · intro h
    by_cases h0 : n = 0
    · exact h0
    · exfalso
      revert h
      have : ∀ k, k < 13 → k ≠ 0 → ¬ nI k = 0 := by decide +kernel
      exact this n (by omega) h0
  · rintro rfl
    decide
theorem s_X9_meanSmoke {l : Launch} (hf : l.stackTraces = false) {n : Nat} (hn : n ≤ 12) (hc : M 1 2 = nI n) (hq : n ≠ 0 → n32 (qSm M n) = true ∧ okB (qSm M n) = true) : V_X9_meanSmoke l [.ref 0] (hp M r) (if n = 0 then ZE ARE (hp M r) else VI (fB (qSm M n)) (hp M r)) := by
  refine VM.intro (lf := L9 (some (.ref 0)) none none none none none none none none) (by decide +kernel) hf (fun _ => (Nat.le_of_ble_eq_true rfl)) (fun _ => rfl) ?_
  refine R_aload_n dX9_meanSmoke_0 rfl rfl ?_
  refine G_get cok9 0 wf_X9_12 dX9_meanSmoke_1 (by first | exact rfl | exact hsf isH1 (by omega) | assumption) ⟨(Nat.le_of_ble_eq_true rfl), (Nat.le_of_ble_eq_true rfl)⟩ rfl ?_
  refine G_get cok3 2 wf_X9_202 dX9_meanSmoke_4 (by first | exact rfl | exact hsf isH1 (by omega) | assumption) ⟨(Nat.le_of_ble_eq_true rfl), (Nat.le_of_ble_eq_true rfl)⟩ rfl ?_
  refine R_iconst (v := 2) dX9_meanSmoke_7 (by decide) ?_
  refine R_imul dX9_meanSmoke_8 ?_
  refine R_istore_n dX9_meanSmoke_9 rfl (by decide) (st1 rfl) ?_
  refine R_iload_n dX9_meanSmoke_10 rfl rfl ?_
  refine R_if_ne (tgt := 22) dX9_meanSmoke_11 rfl (fun c1 => ?_) (fun c1 => ?_)
  · have hn0 : n ≠ 0 := fun z => by first | exact c1 (by rw [hc, z]; decide) | (rw [hc] at c1; exact absurd ((nI2_0 hn).mpr z) c1)
    refine R_aload_n dX9_meanSmoke_22 rfl rfl ?_
    refine G_get cok9 0 wf_X9_12 dX9_meanSmoke_23 (by first | exact rfl | exact hsf isH1 (by omega) | assumption) ⟨(Nat.le_of_ble_eq_true rfl), (Nat.le_of_ble_eq_true rfl)⟩ rfl ?_
    refine G_cV0 cw_X9_287 (s_X3_allSmoke hf isH1 hn hc) dX9_meanSmoke_26 (rcv cok3 (by first | exact rfl | exact hsf isH1 (by omega) | assumption) (Nat.le_of_ble_eq_true rfl)) ⟨(Nat.le_of_ble_eq_true rfl), (Nat.le_of_ble_eq_true rfl), (Nat.le_of_ble_eq_true rfl), (Nat.le_of_ble_eq_true rfl)⟩ ?_
    refine R_i2f dX9_meanSmoke_29 ?_
    refine R_iload_n dX9_meanSmoke_30 rfl rfl ?_
    refine R_i2f dX9_meanSmoke_31 ?_
    refine R_fdiv dX9_meanSmoke_32 (n32_ok (hq hn0).1) ?_
    refine G_cS1 cw_X9_290 (s_X9_bitsOf hf (x := qSm M n) (hq hn0).2) dX9_meanSmoke_33 ⟨(Nat.le_of_ble_eq_true rfl), (Nat.le_of_ble_eq_true rfl), (Nat.le_of_ble_eq_true rfl), (Nat.le_of_ble_eq_true rfl)⟩ ?_
    refine R_iret dX9_meanSmoke_36 rfl (Nat.le_of_ble_eq_true rfl) (Nat.le_of_ble_eq_true rfl) ?_
    rw [if_neg hn0]
    exact ⟨rfl, rfl⟩
  · refine R_throw tw_X9_284_286 dX9_meanSmoke_14 dX9_meanSmoke_17 dX9_meanSmoke_18 dX9_meanSmoke_21 (Nat.le_of_ble_eq_true rfl) (Nat.le_of_ble_eq_true rfl) (Nat.le_of_ble_eq_true rfl) (Nat.le_of_ble_eq_true rfl) ?_
    rw [if_pos ((nI2_0 hn).mp (by rw [← hc]; first | assumption | exact Decidable.not_not.mp (by assumption)))]
    exact ⟨rfl, rfl⟩
theorem s_X9_burntShare {l : Launch} (hf : l.stackTraces = false) {n : Nat} (hn : n ≤ 12) (hc : M 1 2 = nI n) (hq : n ≠ 0 → n64 (qBu M n) = true) : V_X9_burntShare l [.ref 0] (hp M r) (if n = 0 then ZE ARE (hp M r) else fun o h2 => o = .inl (some (.double (qBu M n))) ∧ h2 = hp M r) := by
  refine VM.intro (lf := L9 (some (.ref 0)) none none none none none none none none) (by decide +kernel) hf (fun _ => (Nat.le_of_ble_eq_true rfl)) (fun _ => rfl) ?_
  refine R_aload_n dX9_burntShare_0 rfl rfl ?_
  refine G_get cok9 0 wf_X9_12 dX9_burntShare_1 (by first | exact rfl | exact hsf isH1 (by omega) | assumption) ⟨(Nat.le_of_ble_eq_true rfl), (Nat.le_of_ble_eq_true rfl)⟩ rfl ?_
  refine G_get cok3 2 wf_X9_202 dX9_burntShare_4 (by first | exact rfl | exact hsf isH1 (by omega) | assumption) ⟨(Nat.le_of_ble_eq_true rfl), (Nat.le_of_ble_eq_true rfl)⟩ rfl ?_
  refine R_istore_n dX9_burntShare_7 rfl (by decide) (st1 rfl) ?_
  refine R_iload_n dX9_burntShare_8 rfl rfl ?_
  refine R_if_ne (tgt := 20) dX9_burntShare_9 rfl (fun c1 => ?_) (fun c1 => ?_)
  · have hn0 : n ≠ 0 := fun z => by first | exact c1 (by rw [hc, z]; decide) | (rw [hc] at c1; exact absurd (by rw [z]; decide) c1)
    refine R_aload_n dX9_burntShare_20 rfl rfl ?_
    refine G_get cok9 0 wf_X9_12 dX9_burntShare_21 (by first | exact rfl | exact hsf isH1 (by omega) | assumption) ⟨(Nat.le_of_ble_eq_true rfl), (Nat.le_of_ble_eq_true rfl)⟩ rfl ?_
    refine G_cV0 cw_X9_294 (s_X3_burntCount hf isH1 hn hc) dX9_burntShare_24 (rcv cok3 (by first | exact rfl | exact hsf isH1 (by omega) | assumption) (Nat.le_of_ble_eq_true rfl)) ⟨(Nat.le_of_ble_eq_true rfl), (Nat.le_of_ble_eq_true rfl), (Nat.le_of_ble_eq_true rfl), (Nat.le_of_ble_eq_true rfl)⟩ ?_
    refine R_i2d dX9_burntShare_27 ?_
    refine R_iload_n dX9_burntShare_28 rfl rfl ?_
    refine R_i2d dX9_burntShare_29 ?_
    refine R_ddiv dX9_burntShare_30 (n64_ok (hq hn0)) ?_
    refine R_dret dX9_burntShare_31 (Nat.le_of_ble_eq_true rfl) (Nat.le_of_ble_eq_true rfl) ?_
    rw [if_neg hn0]
    exact ⟨rfl, rfl⟩
  · refine R_throw tw_X9_284_286 dX9_burntShare_12 dX9_burntShare_15 dX9_burntShare_16 dX9_burntShare_19 (Nat.le_of_ble_eq_true rfl) (Nat.le_of_ble_eq_true rfl) (Nat.le_of_ble_eq_true rfl) (Nat.le_of_ble_eq_true rfl) ?_
    rw [if_pos ((nI_00 hn).mp (by rw [← hc]; first | assumption | exact Decidable.not_not.mp (by assumption)))]
    exact ⟨rfl, rfl⟩
end P21
