def fibY : MethodName := ⟨"java/lang/Float", "floatToIntBits", "(F)I"⟩
def nanY : MethodName := ⟨"java/lang/Float", "isNaN", "(F)Z"⟩
def rawY : MethodName := ⟨"java/lang/Float", "floatToRawIntBits", "(F)I"⟩
def fibC : ByteArray := prog_18_method_24_code
def nanC : ByteArray := prog_18_method_6_code
theorem dfib_0 : decode fibC 0 = .ok (.fload_n 0, 1) := by decide +kernel
theorem dfib_1 : decode fibC 1 = .ok (.invokestatic 59, 3) := by decide +kernel
theorem dfib_4 : decode fibC 4 = .ok (.ifCond .ne 8, 3) := by decide +kernel
theorem dfib_7 : decode fibC 7 = .ok (.fload_n 0, 1) := by decide +kernel
theorem dfib_8 : decode fibC 8 = .ok (.invokestatic 74, 3) := by decide +kernel
theorem dfib_11 : decode fibC 11 = .ok (.ireturn, 1) := by decide +kernel
theorem dnan_0 : decode nanC 0 = .ok (.fload_n 0, 1) := by decide +kernel
theorem dnan_1 : decode nanC 1 = .ok (.fload_n 0, 1) := by decide +kernel
theorem dnan_2 : decode nanC 2 = .ok (.fcmp .l, 1) := by decide +kernel
theorem dnan_3 : decode nanC 3 = .ok (.ifCond .eq 7, 3) := by decide +kernel
theorem dnan_10 : decode nanC 10 = .ok (.iconst 0, 1) := by decide +kernel
theorem dnan_11 : decode nanC 11 = .ok (.ireturn, 1) := by decide +kernel
/-- a static method of another class -/
def CWO (own : String) (idx : Nat) (y : MethodName) (bytes : ByteArray) (maxL : Nat) (ret : Option FieldType) (n : Nat) : Prop :=
  .methodLink own idx y ∈ TG ∧ .static y ∈ TG ∧ .initialized y.cls ∈ TG ∧ .code y bytes maxL ret ∈ TG ∧ (y.cls ≠ "java/lang/invoke/MethodHandle" ∧ y.cls ≠ "java/lang/invoke/VarHandle" ∧ (parseMethodDescriptor y.desc).map (fun d => d.parameters.length) = some n) ∧ maxL ≤ 40
theorem wi_Float : Cond.initialized "java/lang/Float" ∈ TG := tg (List.mem_of_getElem? (i := 72) (by decide +kernel)) (by decide +kernel)
theorem cw_fib : CWO RX10 244 fibY fibC 1 (some .int) 1 := ⟨tg (List.mem_of_getElem? (i := 1627) (by decide +kernel)) (by decide +kernel), tg (List.mem_of_getElem? (i := 1628) (by decide +kernel)) (by decide +kernel), wi_Float, tg (List.mem_of_getElem? (i := 1629) (by decide +kernel)) (by decide +kernel), by decide +kernel, by decide⟩
theorem cw_nan : CWS "java/lang/Float" 59 nanY nanC 1 (some .boolean) 1 := ⟨tg (List.mem_of_getElem? (i := 1630) (by decide +kernel)) (by decide +kernel), tg (List.mem_of_getElem? (i := 1631) (by decide +kernel)) (by decide +kernel), wi_Float, tg (List.mem_of_getElem? (i := 1632) (by decide +kernel)) (by decide +kernel), by decide +kernel, by decide⟩
theorem cw_raw : Cond.methodLink "java/lang/Float" 74 rawY ∈ TG ∧ Cond.native rawY ∈ TG ∧ Cond.static rawY ∈ TG := ⟨tg (List.mem_of_getElem? (i := 1633) (by decide +kernel)) (by decide +kernel), tg (List.mem_of_getElem? (i := 1635) (by decide +kernel)) (by decide +kernel), tg (List.mem_of_getElem? (i := 1634) (by decide +kernel)) (by decide +kernel)⟩
section R37
variable {l : Launch} {own : String} {cc : ByteArray} {nL d mc ms : Nat} {G : GT} {pc : Nat} {lf lf' : Nat → Option Value} {st : List Value} {h : HP} {ce sl : Nat}
theorem R_callO {y : MethodName} {bytes : ByteArray} {maxL idx d' mc' ms' n : Nat} {ret : Option FieldType} {As : List Value} {stk : List Value} {Z : Option Value ⊕ String → HP → Prop}
    (cw : CWO own idx y bytes maxL ret n) (hM : VM l y bytes maxL ret d' mc' ms' As h Z) (hd : decode cc pc = .ok (.invokestatic idx, 3))
    (hdd : d' + 1 ≤ d) (hmc : ce + mc' ≤ mc) (hms : sl + ms' ≤ ms) (hn : As.length = n) (hstk : stk = As.reverse ++ st) (hcat : (st.map fun v => v.category).sum ≤ 8)
    (kk : ∀ v h1, Z (.inl v) h1 → Q l own cc nL d mc ms G (pc + 3) lf (v.toList ++ st) h1 (ce + mc') (sl + ms'))
    (kx : ∀ E h1, Z (.inr E) h1 → QX l own cc nL d mc ms G E pc lf st h1 (ce + mc') (sl + ms')) : Q l own cc nL d mc ms G pc lf stk h ce sl := by
  subst hstk
  intro p e R s m args below meth c D dA θ A QQ H locs ls cx g wd hl
  obtain ⟨w1, w2, w4, w5, w6, w7⟩ := cw
  obtain ⟨x1, x2, x3, x4, x5, x6, ⟨x7, x8, x9, x10⟩, x11, x12, x13, x14, x15, x16⟩ := id cx
  have hG : GoodIn TG (.code y bytes maxL ret :: TG) := TG_in fun w hw => by
    rcases List.mem_cons.mp hw with rfl | hw
    · exact w5
    · exact hw
  have hcw : CallB R s args own idx y bytes maxL ret (.code y bytes maxL ret :: TG) (rmD d' mc' ms') mc' ms' n ∧ (Cond.static y).before args s = true := ⟨callB_of (R := R) (s := s) (args := args) (own := own) (index := idx) (y := y) (bytes := bytes) (maxL := maxL) (ret := ret) (rm := rmD d' mc' ms') (mc := mc') (ms := ms') n x5 hG rfl rfl rfl (x5 _ w4) (x5 _ w1) w6 ⟨by show d' + 1 ≤ R.frames; omega, by show 8 + (maxL + 11) + 64 * d' ≤ R.locals; omega⟩, x5 _ w2⟩
  refine R_after (a9 := (As.map (cvV θ)).toArray) cx g wd hl ?_ kk kx
  exact vx_runS (As := As.map (cvV θ)) ⟨x1, x2, x3, x4, x5⟩ (hM D dA θ H.size) hcw ⟨BM_blind, fun U hU hW => ⟨rfl, BM_of cx wd hU hW⟩⟩ rfl (by rw [List.length_map]; exact hn) hl.1 (by simp) (by show 2 * 0 + _ ≤ 8; rw [cat_sum]; omega) hd ⟨by omega, by omega⟩
theorem R_raw {x : UInt32} (hw : Cond.methodLink own 74 rawY ∈ TG ∧ Cond.native rawY ∈ TG ∧ Cond.static rawY ∈ TG) (hd : decode cc pc = .ok (.invokestatic 74, 3)) (hdd : 1 ≤ d) (hcat : (st.map fun v => v.category).sum ≤ 8)
    (k : Q l own cc nL d mc ms G (pc + 3) lf (.int x.toInt32 :: st) h ce sl) : Q l own cc nL d mc ms G pc lf (.float x :: st) h ce sl := by
  intro p e R s m args below meth c D dA θ A QQ H locs ls cx g wd hl
  obtain ⟨x1, x2, x3, x4, x5, x6, ⟨x7, x8, x9, x10⟩, x11, x12, x13, x14, x15, x16⟩ := id cx
  exact vn_f2i x1 x2 (x3.trans hl.1.symm) x4 (x5 _ hw.1) (x5 _ hw.2.1) (x5 _ hw.2.2) (x5 _ wi_Float) (by omega) (by rw [cat_sum]; omega) hd (k p e R s m args below meth c D dA θ A QQ H locs ls cx g wd hl)
end R37
theorem fc_self {x : UInt32} {c : Nat} {q : Int} (h : FP.Core.val32 x = .fin false c q) : FP.fcmp x x = some .eq := by
  rw [v_cmp h h, cI_eq rfl]
theorem v_val {k d : Nat} (h1 : k < 4000) (g0 : 0 < d) (g1 : d < 30) : ∃ (c : Nat) (q : Int), FP.Core.val32 (FP.fdiv (FP.i2f (nI k)) (FP.i2f (nI d))) = .fin false c q := by
  by_cases h0 : 0 < k
  · obtain ⟨c, q, h, _⟩ := v_quo h0 h1 g0 g1
    exact ⟨c, q, h⟩
  · obtain rfl : k = 0 := by omega
    have : ∀ d, d < 30 → 0 < d → FP.Core.val32 (FP.fdiv (FP.i2f (nI 0)) (FP.i2f (nI d))) = .fin false 0 (-149) := by decide +kernel
    exact ⟨0, -149, this d g1 g0⟩
theorem fib_ofW {l : Launch} {y : MethodName} {ws ws' : List Cond} {rm : Room} {Pc : Array Value → State → Prop} {Qc : Array Value → State → Outcome → State → Prop} {XC : String → State → State → Prop} {mc ms : Nat} {free : Addr → Prop} {cc : ByteArray} {maxL : Nat} {ret : Option FieldType}
    (hy : plainFor y = true) (hw : ws = Cond.code y cc maxL ret :: ws')
    (body : ∀ p e s m args below meth c s₁, BodyLoose p l y (headSpec ws rm) cc maxL ret e s m args below meth c s₁ → c.maxLocals = maxL → (∀ x ∈ c.exceptionTable.toList, False) → Pc args s →
      W p l e (headSpec ws rm).room s m args below meth c s.heap [] 0 0 (vx_MQ below Qc XC args s mc ms free) (entryFrame m args maxL)) : vx_Met l y ws rm Pc Qc XC mc ms free := by
  refine MetFree.of_bodySF (code := cc) (maxLocals := maxL) (ret := ret) hy ?_ ?_
  · intro args s m h hn
    obtain ⟨meth, c, h1, h2, h3, h4, h5, h6, -, -⟩ := Cond.code_spec hn (atoms_spec (ws := ws) h _ (by rw [hw]; exact List.mem_cons_self))
    exact ⟨meth, c, h1, h2, h3, h4, h5, h6⟩
  · intro p e s m args below meth c s₁ B hml hP _
    have hh0 : s₁.heap = s.heap := by rw [B.state]; rfl
    have ht : ∀ x ∈ c.exceptionTable.toList, False := by
      obtain ⟨meth9, c9, h1, h2, -, -, -, -, h7, -⟩ := Cond.code_spec B.named (atoms_spec (ws := ws) B.pre _ (by rw [hw]; exact List.mem_cons_self))
      cases Option.some.inj (h1.symm.trans B.method)
      cases Option.some.inj (h2.symm.trans (Stand.of_body B).code)
      intro x hx
      rw [Array.isEmpty_iff.mp h7] at hx
      cases hx
    obtain ⟨t, a1, o, b1, b2, b3⟩ := body p e s m args below meth c s₁ B hml ht hP s₁ hh0 (Stand.of_body B)
    exact ⟨t, o, a1, b1, b2, b3⟩
set_option maxRecDepth 20000 in
/-- a method of a class of which other methods are the machine's own -/
theorem VM.introF {l : Launch} {y : MethodName} {cc : ByteArray} {nL d mc ms : Nat} {h : HP} {ret : Option FieldType} {As : List Value} {Z : Option Value ⊕ String → HP → Prop} {lf : Nat → Option Value} (hy : plainFor y = true) (hf : l.stackTraces = false) (hsz : ∀ θ, (lg_sl (As.map (cvV θ))).length ≤ nL) (hlf : ∀ θ, lcv θ lf = lv_args 0 (As.map (cvV θ)))
    (k : Q l y.cls cc nL d mc ms (GM ret mc ms Z) 0 lf [] h 0 0) : VM l y cc nL ret d mc ms As h Z := by
  intro D dA θ sz
  refine fib_ofW (cc := cc) (maxL := nL) (ret := ret) hy rfl ?_
  intro p e s m args below meth c s₁ B hml ht hv
  obtain ⟨rfl, hsz0, hP, hK, hD0, hU, hN, hW4, hO1, hO2⟩ := hv
  subst hsz0
  have hts := atoms_spec (ws := .code y cc nL ret :: TG) B.pre
  have hts' : ∀ w ∈ TG, w.before _ s = true := fun w hw => hts w (List.mem_cons_of_mem _ hw)
  have hown : s.vm.findClass y.cls = some m.cls := findClass_of_methodNamed B.named
  have hl := lv_entry (As.map (cvV θ)) (n := nL) (hsz θ)
  rw [lg_entry_eq]
  generalize (lg_sl (As.map (cvV θ)) ++ List.replicate (nL - (lg_sl (As.map (cvV θ))).length) Slot.unset).toArray = ls at hl ⊢
  rw [← hlf θ] at hl
  exact k p e _ s m _ below meth c D dA θ (va_A (wsH θ dA h) s.heap.size) _ s.heap [] ls ⟨B.exec, B.bytes, hml, hown, hts', fun q hq => Or.inr hq, ⟨Nat.le_refl _, Nat.le_refl _, Nat.le_refl _, Nat.le_refl _⟩, hf, hU, hN, fun w hw => nk_use hw (hW4 w hw), hO1, hO2⟩ ⟨B.returns, B.notSynchronized, ht, rfl⟩ ⟨hK, hP, hD0.self, va_S.rf⟩ hl
theorem s_nan {l : Launch} (hf : l.stackTraces = false) {h : HP} {x : UInt32} (hx : FP.fcmp x x = some .eq) : VD l nanY nanC 1 (some .boolean) 0 [.float x] h (some (.int 0)) h := by
  refine VM.introF (lf := L9 (some (.float x)) none none none none none none none none) (by decide +kernel) hf (fun _ => (Nat.le_of_ble_eq_true rfl)) (fun _ => rfl) ?_
  refine R_fload_n dnan_0 rfl rfl ?_
  refine R_fload_n dnan_1 rfl rfl ?_
  refine R_fcmp dnan_2 ?_
  refine R_if_eq_t (tgt := 10) dnan_3 rfl (by rw [hx]; rfl) ?_
  refine R_iconst (v := 0) dnan_10 (by decide) ?_
  refine R_iret dnan_11 rfl (Nat.le_of_ble_eq_true rfl) (Nat.le_of_ble_eq_true rfl) ?_
  exact ⟨rfl, rfl⟩
theorem s_fib {l : Launch} (hf : l.stackTraces = false) {h : HP} {x : UInt32} (hx : FP.fcmp x x = some .eq) : VD l fibY fibC 1 (some .int) 1 [.float x] h (some (.int x.toInt32)) h := by
  refine VM.introF (lf := L9 (some (.float x)) none none none none none none none none) (by decide +kernel) hf (fun _ => (Nat.le_of_ble_eq_true rfl)) (fun _ => rfl) ?_
  refine R_fload_n dfib_0 rfl rfl ?_
  refine G_cS1 cw_nan (s_nan hf hx) dfib_1 ⟨(Nat.le_of_ble_eq_true rfl), (Nat.le_of_ble_eq_true rfl), (Nat.le_of_ble_eq_true rfl), (Nat.le_of_ble_eq_true rfl)⟩ ?_
  refine R_if_ne_f (tgt := 12) dfib_4 rfl (by decide) ?_
  refine R_fload_n dfib_7 rfl rfl ?_
  refine R_raw cw_raw dfib_8 (Nat.le_of_ble_eq_true rfl) (Nat.le_of_ble_eq_true rfl) ?_
  refine R_iret dfib_11 rfl (Nat.le_of_ble_eq_true rfl) (Nat.le_of_ble_eq_true rfl) ?_
  exact ⟨rfl, rfl⟩
section P37
variable {M : MM} {r : MR}
/-- the smoke of the first m fish -/
abbrev rSmS (M : MM) (m : Nat) : Int32 := itN (fun i s => s + rMea M i 2) 0 m
abbrev rQm (M : MM) (n : Nat) : UInt32 := FP.fdiv (FP.i2f (rSmS M n)) (FP.i2f (2 * nI n))
def aMe (M : MM) (n : Nat) : Int32 × MM := if n = 0 then (0, mst M 464 9 1) else ((rQm (mst M 464 9 0) n).toInt32, mst M 464 9 0)
theorem E_X10_meanSmoke {l : Launch} (hf : l.stackTraces = false) {n : Nat} (hn : n ≤ 12) (hg : M 465 0 = nI n) {y : Int32} (hx : FP.fcmp (rQm M n) (rQm M n) = some .eq) (hn32 : n32 (rQm M n) = true) : Q_X10_meanSmoke l (VI (rQm M n).toInt32 (hp M r)) 52 (L9 (some (.ref 464)) (some (.int (rSmS M n))) (some (.int y)) none none none none none none) [] (hp M r) := by
  refine R_iload_n dX10_meanSmoke_52 rfl rfl ?_
  refine R_i2f dX10_meanSmoke_53 ?_
  refine R_iconst (v := 2) dX10_meanSmoke_54 (by decide) ?_
  refine R_aload_n dX10_meanSmoke_55 rfl rfl ?_
  refine G_get cok10 0 wf_X10_7 dX10_meanSmoke_56 (by first | exact rfl | assumption) ⟨(Nat.le_of_ble_eq_true rfl), (Nat.le_of_ble_eq_true rfl)⟩ rfl ?_
  refine R_iconst (v := 0) dX10_meanSmoke_59 (by decide) ?_
  refine G_iald dX10_meanSmoke_60 (by first | exact rfl | assumption) (show vp_in (nI 0) 140 from nI_in12 (by omega) (by omega)) ?_
  refine R_topE (show M 465 _ = nI n from hg) ?_
  refine R_imul dX10_meanSmoke_61 ?_
  refine R_i2f dX10_meanSmoke_62 ?_
  refine R_fdiv dX10_meanSmoke_63 (n32_ok hn32) ?_
  refine R_callO cw_fib (s_fib hf hx) dX10_meanSmoke_64 (by decide) (by decide) (by decide) rfl rfl (by decide) (fun v9 h9 hz => ?_) (fun E h9 hz => by cases hz.1)
  obtain ⟨e1, rfl⟩ := hz
  cases e1
  rw [show (some (Value.int (rQm M n).toInt32)).toList ++ [] = [Value.int (rQm M n).toInt32] from rfl]
  refine R_iret dX10_meanSmoke_67 rfl (Nat.le_of_ble_eq_true rfl) (Nat.le_of_ble_eq_true rfl) ?_
  exact ⟨rfl, rfl⟩
theorem L_X10_meanSmoke {l : Launch} (hf : l.stackTraces = false) {n : Nat} (hn : n ≤ 12) (hg : M 465 0 = nI n) (hx : FP.fcmp (rQm M n) (rQm M n) = some .eq) (hn32 : n32 (rQm M n) = true) : ∀ (j i : Nat), i + j = n → Q_X10_meanSmoke l (VI (rQm M n).toInt32 (hp M r)) 27 (L9 (some (.ref 464)) (some (.int (rSmS M i))) (some (.int (nI i))) none none none none none none) [] (hp M r) := by
  intro j
  induction j with
  | zero =>
    intro i hi
    have hin : n = i := by omega
    subst hin
    refine R_iload_n dX10_meanSmoke_27 rfl rfl ?_
    refine R_aload_n dX10_meanSmoke_28 rfl rfl ?_
    refine G_get cok10 0 wf_X10_7 dX10_meanSmoke_29 (by first | exact rfl | assumption) ⟨(Nat.le_of_ble_eq_true rfl), (Nat.le_of_ble_eq_true rfl)⟩ rfl ?_
    refine R_iconst (v := 0) dX10_meanSmoke_32 (by decide) ?_
    refine G_iald dX10_meanSmoke_33 (by first | exact rfl | assumption) (show vp_in (nI 0) 140 from nI_in12 (by omega) (by omega)) ?_
    refine R_topE (show M 465 _ = nI n from hg) ?_
    refine R_icmp_ge_t (tgt := 52) dX10_meanSmoke_34 rfl (nI_le (by omega) (by omega)) ?_
    exact E_X10_meanSmoke hf hn hg hx hn32
  | succ j ih =>
    intro i hi
    have hi1 : i < n := by omega
    refine R_iload_n dX10_meanSmoke_27 rfl rfl ?_
    refine R_aload_n dX10_meanSmoke_28 rfl rfl ?_
    refine G_get cok10 0 wf_X10_7 dX10_meanSmoke_29 (by first | exact rfl | assumption) ⟨(Nat.le_of_ble_eq_true rfl), (Nat.le_of_ble_eq_true rfl)⟩ rfl ?_
    refine R_iconst (v := 0) dX10_meanSmoke_32 (by decide) ?_
    refine G_iald dX10_meanSmoke_33 (by first | exact rfl | assumption) (show vp_in (nI 0) 140 from nI_in12 (by omega) (by omega)) ?_
    refine R_topE (show M 465 _ = nI n from hg) ?_
    refine R_icmp_ge_f (tgt := 52) dX10_meanSmoke_34 rfl (nI_ge (by omega) (by omega)) ?_
    refine R_iload_n dX10_meanSmoke_37 rfl rfl ?_
    refine R_aload_n dX10_meanSmoke_38 rfl rfl ?_
    refine R_iload_n dX10_meanSmoke_39 rfl rfl ?_
    refine R_iconst (v := 2) dX10_meanSmoke_40 (by decide) ?_
    refine G_cV2 cw_X10_165 (s_X10_measured hf (k := i) (by omega)) dX10_meanSmoke_41 (rcv cok10 (by first | exact rfl | assumption) (Nat.le_of_ble_eq_true rfl)) ⟨(Nat.le_of_ble_eq_true rfl), (Nat.le_of_ble_eq_true rfl), (Nat.le_of_ble_eq_true rfl), (Nat.le_of_ble_eq_true rfl)⟩ ?_
    refine R_iadd dX10_meanSmoke_44 ?_
    refine R_istore_n dX10_meanSmoke_45 rfl (by decide) (st1 rfl) ?_
    first | refine R_iincN dX10_meanSmoke_46 (by decide) rfl (by decide) (st2 rfl) ?_ | refine R_iinc1 dX10_meanSmoke_46 (by decide) rfl (by decide) (st2 rfl) ?_
    refine R_goto (tgt := 27) dX10_meanSmoke_49 rfl ?_
    exact ih (i + 1) (by omega)
theorem s_X10_meanSmoke {l : Launch} (hf : l.stackTraces = false) {n : Nat} (hn : n ≤ 12) (hg : M 465 0 = nI n) (hq : n ≠ 0 → FP.fcmp (rQm (mst M 464 9 0) n) (rQm (mst M 464 9 0) n) = some .eq ∧ n32 (rQm (mst M 464 9 0) n) = true) : V_X10_meanSmoke l [.ref 464] (hp M r) (VI (aMe M n).1 (hp (aMe M n).2 r)) := by
  refine VM.intro (lf := L9 (some (.ref 464)) none none none none none none none none) (by decide +kernel) hf (fun _ => (Nat.le_of_ble_eq_true rfl)) (fun _ => rfl) ?_
  refine R_aload_n dX10_meanSmoke_0 rfl rfl ?_
  refine R_aload_n dX10_meanSmoke_1 rfl rfl ?_
  refine G_get cok10 0 wf_X10_7 dX10_meanSmoke_2 (by first | exact rfl | assumption) ⟨(Nat.le_of_ble_eq_true rfl), (Nat.le_of_ble_eq_true rfl)⟩ rfl ?_
  refine R_iconst (v := 0) dX10_meanSmoke_5 (by decide) ?_
  refine G_iald dX10_meanSmoke_6 (by first | exact rfl | assumption) (show vp_in (nI 0) 140 from nI_in12 (by omega) (by omega)) ?_
  refine R_topE (show M 465 _ = nI n from hg) ?_
  refine R_if_ne (tgt := 14) dX10_meanSmoke_7 rfl (fun c1 => ?_) (fun c1 => ?_)
  · refine R_iconst (v := 0) dX10_meanSmoke_14 (by decide) ?_
    refine G_cV1 cw_X10_156 (s_X10_fails hf) dX10_meanSmoke_15 (rcv cok10 (by first | exact rfl | assumption) (Nat.le_of_ble_eq_true rfl)) ⟨(Nat.le_of_ble_eq_true rfl), (Nat.le_of_ble_eq_true rfl), (Nat.le_of_ble_eq_true rfl), (Nat.le_of_ble_eq_true rfl)⟩ ?_
    refine R_if_eq_t (tgt := 23) dX10_meanSmoke_18 rfl (by decide) ?_
    refine R_iconst (v := 0) dX10_meanSmoke_23 (by decide) ?_
    refine R_istore_n dX10_meanSmoke_24 rfl (by decide) (st1 rfl) ?_
    refine R_iconst (v := 0) dX10_meanSmoke_25 (by decide) ?_
    refine R_istore_n dX10_meanSmoke_26 rfl (by decide) (st2 rfl) ?_
    have n0 : n ≠ 0 := fun z => absurd ((nI_00 hn).mpr z) (by assumption)
    rw [aMe, if_neg n0]
    exact L_X10_meanSmoke (M := mst M 464 9 0) (r := r) hf hn hg (hq n0).1 (hq n0).2 n 0 (by omega)
  · refine R_iconst (v := 1) dX10_meanSmoke_10 (by decide) ?_
    refine R_goto (tgt := 15) dX10_meanSmoke_11 rfl ?_
    refine G_cV1 cw_X10_156 (s_X10_fails hf) dX10_meanSmoke_15 (rcv cok10 (by first | exact rfl | assumption) (Nat.le_of_ble_eq_true rfl)) ⟨(Nat.le_of_ble_eq_true rfl), (Nat.le_of_ble_eq_true rfl), (Nat.le_of_ble_eq_true rfl), (Nat.le_of_ble_eq_true rfl)⟩ ?_
    refine R_if_eq_f (tgt := 23) dX10_meanSmoke_18 rfl (by decide) ?_
    refine R_iconst (v := 0) dX10_meanSmoke_21 (by decide) ?_
    refine R_iret dX10_meanSmoke_22 rfl (Nat.le_of_ble_eq_true rfl) (Nat.le_of_ble_eq_true rfl) ?_
    rw [aMe, if_pos ((nI_00 hn).mp (by assumption))]
    exact ⟨rfl, rfl⟩
end P37
