/-- pairs of classes of which the first is none of the second -/
def ncL : List (String × String) := [("java/lang/IllegalArgumentException", "java/lang/IndexOutOfBoundsException"), ("java/util/NoSuchElementException", "java/lang/IndexOutOfBoundsException"), ("java/lang/UnsupportedOperationException", "java/lang/IllegalArgumentException"), ("java/util/NoSuchElementException", "java/lang/IllegalArgumentException")]
def NCF (s : State) : Prop := ∀ q ∈ ncL, va_Nc q.1 q.2 s
theorem NCF.moved {u U : State} (hvm : u.vm.Alike U.vm) (h : NCF u) : NCF U := fun q hq => (h q hq).moved hvm
abbrev HHT : Type := List (Nat × Nat × Nat × Nat)
def BL (D : va_G) (dA : Nat → ClassId) (θ : Nat → Nat) (h : HP) (sz : Nat) (U : State) : Prop := BM D dA θ h sz U ∧ NCF U
/-- a contract of a method with a table of handlers, answering an int -/
def VL (l : Launch) (y : MethodName) (cc : ByteArray) (nL : Nat) (hh : HHT) (d mc ms : Nat) (As : List Value) (h : HP) (Z : Option Value ⊕ String → HP → Prop) : Prop :=
  ∀ (D : va_G) (dA : Nat → ClassId) (θ : Nat → Nat) (sz : Nat), vx_Met l y (.codeWith y cc nL (some .int) hh :: TG) (rmD d mc ms) (va_Pc (As.map (cvV θ)) (BL D dA θ h sz)) (QcM Z D dA θ (va_A (wsH θ dA h) sz)) (XcM Z D dA θ (va_A (wsH θ dA h) sz)) mc ms (va_A (wsH θ dA h) sz)
def GH (hh : HHT) (mc ms : Nat) (Z : Option Value ⊕ String → HP → Prop) : GT := fun _ _ _ s _ args below meth c D dA θ A QQ =>
  meth.sig.returnType = some .int ∧ meth.locks = false ∧ c.exceptionTable.toList = tableOf hh ∧ NCF s ∧ QQ = vx_MQ below (QcM Z D dA θ A) (XcM Z D dA θ A) args s mc ms A
section R55
variable {l : Launch} {own : String} {cc : ByteArray} {nL d mc ms : Nat} {G : GT} {pc : Nat} {lf lf' : Nat → Option Value} {st : List Value} {h : HP} {ce sl : Nat} {hh : HHT}
set_option maxRecDepth 20000 in
theorem VL.intro {y : MethodName} {As : List Value} {Z : Option Value ⊕ String → HP → Prop} {lf : Nat → Option Value} (hy : plainName y.cls = true) (hf : l.stackTraces = false) (hsz : ∀ θ, (lg_sl (As.map (cvV θ))).length ≤ nL) (hlf : ∀ θ, lcv θ lf = lv_args 0 (As.map (cvV θ)))
    (k : Q l y.cls cc nL d mc ms (GH hh mc ms Z) 0 lf [] h 0 0) : VL l y cc nL hh d mc ms As h Z := by
  intro D dA θ sz
  refine vx_ofWH (cc := cc) (maxL := nL) (ret := some .int) (hh := hh) hy rfl ?_
  intro p e s m args below meth c s₁ B hml hv
  obtain ⟨rfl, ⟨hsz0, hP, hK, hD0, hU, hN, hW4, hO1, hO2⟩, hNC⟩ := hv
  subst hsz0
  have hts := atoms_spec (ws := .codeWith y cc nL (some .int) hh :: TG) B.pre
  have htb := vx_table (x := y) B (hts _ List.mem_cons_self)
  have hts' : ∀ w ∈ TG, w.before _ s = true := fun w hw => hts w (List.mem_cons_of_mem _ hw)
  have hown : s.vm.findClass y.cls = some m.cls := findClass_of_methodNamed B.named
  have hl := lv_entry (As.map (cvV θ)) (n := nL) (hsz θ)
  rw [lg_entry_eq]
  generalize (lg_sl (As.map (cvV θ)) ++ List.replicate (nL - (lg_sl (As.map (cvV θ))).length) Slot.unset).toArray = ls at hl ⊢
  rw [← hlf θ] at hl
  exact k p e _ s m _ below meth c D dA θ (va_A (wsH θ dA h) s.heap.size) _ s.heap [] ls ⟨B.exec, B.bytes, hml, hown, hts', fun q hq => Or.inr hq, ⟨Nat.le_refl _, Nat.le_refl _, Nat.le_refl _, Nat.le_refl _⟩, hf, hU, hN, fun w hw => nk_use hw (hW4 w hw), hO1, hO2⟩ ⟨B.returns, B.notSynchronized, htb, hNC, rfl⟩ ⟨hK, hP, hD0.self, va_S.rf⟩ hl
theorem R_iretH {Z : Option Value ⊕ String → HP → Prop} {v : Int32} (hd : decode cc pc = .ok (.ireturn, 1)) (hc : ce ≤ mc) (hs : sl ≤ ms) (hz : Z (.inl (some (.int v))) h) : Q l own cc nL d mc ms (GH hh mc ms Z) pc lf [.int v] h ce sl := by
  intro p e R s m args below meth c D dA θ A QQ H locs ls cx g wd hl
  obtain ⟨g1, g2, g3, g4, rfl⟩ := g
  refine vx_ret (W.widen hc hs ?_)
  exact W.zret (v := v) cx.1 cx.2.1 g1 rfl (fun t ht hW => ⟨⟨some (.int v), h, rfl, hz, by rw [ht]; exact wd.2.1, wd.2.2.1⟩, wd.2.2.2.F ht⟩) wd.2.2.2.2.2 hd
/-- thrown in a covered row: caught, and the thing put by -/
theorem R_catch {Z : Option Value ⊕ String → HP → Prop} {E : String} {pre suf : List ExceptionTableEntry} {x : ExceptionTableEntry} {hpc j n : Nat} (tw : tableOf hh = pre ++ x :: suf)
    (hpass : ∀ z ∈ pre, covers z pc = false ∨ (z.catchType ≠ 0 ∧ ∃ nm : String, Cond.classLink own z.catchType nm ∈ TG ∧ (E, nm) ∈ ncL)) (hx : covers x pc = true) (h0 : x.catchType ≠ 0)
    (hlink : Cond.classLink own x.catchType E ∈ TG) (hcast : Cond.castable E E ∈ TN) (hp : x.handlerPc = hpc)
    (hj : j < nL) (hd : (∃ f : Fin 4, decode cc hpc = .ok (.astore_n f, 1) ∧ (f : Nat) = j ∧ n = 1) ∨ (decode cc hpc = .ok (.astore j, 2) ∧ n = 2))
    (k : Q l own cc nL d mc ms (GH hh mc ms Z) (hpc + n) (fun _ => none) [] h ce sl) : QX l own cc nL d mc ms (GH hh mc ms Z) E pc lf st h ce sl := by
  intro p e R s m args below meth c D dA θ A QQ H locs ls q9 ce9 cx g wd hl c1 c2 c3
  subst hp
  refine vx_catch cx.2.2.2.1 pre x suf (g.2.2.1.trans tw) (fun z hz => ?_) hx h0 (cx.2.2.2.2.1 _ hlink) (cx.2.2.2.2.2.2.2.2.2.2.1 _ hcast) c1 c2 c3 ?_
  · rcases hpass z hz with a | ⟨a, nm, b1, b2⟩
    · exact Or.inl a
    · exact Or.inr ⟨a, nm, cx.2.2.2.2.1 _ b1, g.2.2.2.1 _ b2⟩
  · have dr : ∀ (ls9 : Array Slot) (l0 : List (Nat × Value)), lv_has ls9 nL l0 → lv_has ls9 nL (lcv θ (fun _ => none)) := fun ls9 l0 h9 => ⟨h9.1, h9.2.1, fun q hq => by
      obtain ⟨_, v, e1, _⟩ := lcv_mem.mp hq
      cases e1⟩
    rcases hd with ⟨f, hd, hf, rfl⟩ | ⟨hd, rfl⟩
    · exact lv_astore_n cx.1 cx.2.1 hd hf hl hj rfl (fun ls9 hl9 => k p e R s m args below meth c D dA θ A QQ H locs ls9 cx g wd (dr ls9 _ hl9))
    · exact lv_astore cx.1 cx.2.1 hd hl hj rfl (fun ls9 hl9 => k p e R s m args below meth c D dA θ A QQ H locs ls9 cx g wd (dr ls9 _ hl9))
end R55
/-- what a wrapper leaves: the code k; behind a call that returned, its answer -/
abbrev wz (k : Nat) (x : Int64) (M1 : MM) (p1 : Nat → Nat) (o : (Nat → Int64) × (Nat → UInt64)) : Option Value ⊕ String → HP → Prop := fun z h2 => z = .inl (some (.int (nI k))) ∧ h2 = hp M1 (p1, if k = 0 then (vp_updL o.1 0 x, o.2) else o)
abbrev wzd (k : Nat) (x : UInt64) (M1 : MM) (p1 : Nat → Nat) (o : (Nat → Int64) × (Nat → UInt64)) : Option Value ⊕ String → HP → Prop := fun z h2 => z = .inl (some (.int (nI k))) ∧ h2 = hp M1 (p1, if k = 0 then (o.1, vf_upd o.2 0 x) else o)
section P55
variable {M M1 : MM} {p p1 : Nat → Nat}
theorem ct_UOE : Cond.castable "java/lang/UnsupportedOperationException" "java/lang/UnsupportedOperationException" ∈ TN := tn (List.mem_of_getElem? (i := 451) (by decide +kernel)) (by decide +kernel)
theorem ct_IOB : Cond.castable "java/lang/IndexOutOfBoundsException" "java/lang/IndexOutOfBoundsException" ∈ TN := tn (List.mem_of_getElem? (i := 799) (by decide +kernel)) (by decide +kernel)
theorem ct_IAE : Cond.castable "java/lang/IllegalArgumentException" "java/lang/IllegalArgumentException" ∈ TN := tn (List.mem_of_getElem? (i := 814) (by decide +kernel)) (by decide +kernel)
theorem ct_NSE : Cond.castable "java/util/NoSuchElementException" "java/util/NoSuchElementException" ∈ TN := tn (List.mem_of_getElem? (i := 858) (by decide +kernel)) (by decide +kernel)
theorem ct_ISE : Cond.castable "java/lang/IllegalStateException" "java/lang/IllegalStateException" ∈ TN := tn (List.mem_of_getElem? (i := 1030) (by decide +kernel)) (by decide +kernel)
theorem ct_ARE : Cond.castable "java/lang/ArithmeticException" "java/lang/ArithmeticException" ∈ TN := tn (List.mem_of_getElem? (i := 1186) (by decide +kernel)) (by decide +kernel)
theorem lk_13 : Cond.classLink RL 13 "java/lang/UnsupportedOperationException" ∈ TG := tg (List.mem_of_getElem? (i := 416) (by decide +kernel)) (by decide +kernel)
theorem lk_54 : Cond.classLink RL 54 "java/lang/IndexOutOfBoundsException" ∈ TG := tg (List.mem_of_getElem? (i := 754) (by decide +kernel)) (by decide +kernel)
theorem lk_56 : Cond.classLink RL 56 "java/lang/IllegalArgumentException" ∈ TG := tg (List.mem_of_getElem? (i := 787) (by decide +kernel)) (by decide +kernel)
theorem lk_65 : Cond.classLink RL 65 "java/util/NoSuchElementException" ∈ TG := tg (List.mem_of_getElem? (i := 844) (by decide +kernel)) (by decide +kernel)
theorem lk_105 : Cond.classLink RL 105 "java/lang/IllegalStateException" ∈ TG := tg (List.mem_of_getElem? (i := 1023) (by decide +kernel)) (by decide +kernel)
theorem lk_126 : Cond.classLink RL 126 "java/lang/ArithmeticException" ∈ TG := tg (List.mem_of_getElem? (i := 1174) (by decide +kernel)) (by decide +kernel)
abbrev hhL_account : HHT := [(0, 9, 12, 56)]
theorem w_account {l : Launch} (hf : l.stackTraces = false) {v0 : Int32} {o : (Nat → Int64) × (Nat → UInt64)} {k : Nat} {x : Int32} (hk : k ≤ 1) (A : V_X9_account l [.ref 0, .int v0] (hp M (p, o)) (oc k x (fun _ => IAE) (hp M1 (p1, o)))) : VL l yL_account cL_account 4 hhL_account 8 1 6 [.ref 0, .int v0, .ref 473] (hp M (p, o)) (wz k (x.toInt64) M1 p1 o) := by
  refine VL.intro (lf := L9 (some (.ref 0)) (some (.int v0)) (some (.ref 473)) none none none none none none) (by decide +kernel) hf (fun _ => (Nat.le_of_ble_eq_true rfl)) (fun _ => rfl) ?_
  refine R_aload_n dL_account_0 rfl rfl ?_
  refine R_iconst (v := 0) dL_account_1 (by decide) ?_
  refine R_aload_n dL_account_2 rfl rfl ?_
  refine R_iload_n dL_account_3 rfl rfl ?_
  refine R_callV (As := [.int v0]) cw_L_132 A dL_account_4 rfl (hp_obj (c := 9) rfl (by decide)) (hp_lt (c := 9) rfl (by decide)) (by decide) (Nat.le_of_ble_eq_true rfl) (Nat.le_of_ble_eq_true rfl) rfl rfl (by decide) (fun v9 h9 hz => ?_) (fun E9 h9 hz => ?_)
  · by_cases k0 : k = 0
    · subst k0
      obtain ⟨e1, rfl⟩ := hz
      cases e1
      show Q l _ _ _ _ _ _ _ _ _ [.int x, .int 0, .ref 473] _ _ _
      refine R_i2l dL_account_7 rfl ?_
      refine G_last dL_account_8 (show vp_in (0 : Int32) 1 from nI_in12 (k := 0) (n := 1) (by omega) (by omega)) ?_
      refine R_goto (tgt := 15) dL_account_9 rfl ?_
      refine R_iconst (v := 0) dL_account_15 (by decide) ?_
      refine R_iretH dL_account_16 (Nat.le_of_ble_eq_true rfl) (Nat.le_of_ble_eq_true rfl) ?_
      exact ⟨rfl, rfl⟩
    · exfalso
      first | rw [oc, if_neg k0] at hz | rw [if_neg k0] at hz
      cases hz.1
  · by_cases k0 : k = 0
    · subst k0
      cases hz.1
    · first | rw [oc, if_neg k0] at hz | rw [if_neg k0] at hz
      obtain ⟨e1, rfl⟩ := hz
      cases e1
      obtain rfl : k = 1 := by omega
      refine R_catch (pre := []) (x := ⟨0, 9, 12, 56⟩) (suf := []) (j := 3) rfl (fun z hz => by cases hz) (by decide) (by decide) lk_56 ct_IAE rfl (by decide) (Or.inl ⟨3, dL_account_12, rfl, rfl⟩) ?_
      refine R_iconst (v := 1) dL_account_13 (by decide) ?_
      refine R_iretH dL_account_14 (Nat.le_of_ble_eq_true rfl) (Nat.le_of_ble_eq_true rfl) ?_
      exact ⟨rfl, rfl⟩
abbrev hhL_append : HHT := [(0, 9, 12, 105)]
theorem w_append {l : Launch} (hf : l.stackTraces = false) {v0 : Int32} {o : (Nat → Int64) × (Nat → UInt64)} {k : Nat} {x : Int32} (hk : k ≤ 1) (A : V_X9_append l [.ref 0, .int v0] (hp M (p, o)) (oc k x (fun _ => ISE) (hp M1 (p1, o)))) : VL l yL_append cL_append 4 hhL_append 8 1 6 [.ref 0, .int v0, .ref 473] (hp M (p, o)) (wz k (x.toInt64) M1 p1 o) := by
  refine VL.intro (lf := L9 (some (.ref 0)) (some (.int v0)) (some (.ref 473)) none none none none none none) (by decide +kernel) hf (fun _ => (Nat.le_of_ble_eq_true rfl)) (fun _ => rfl) ?_
  refine R_aload_n dL_append_0 rfl rfl ?_
  refine R_iconst (v := 0) dL_append_1 (by decide) ?_
  refine R_aload_n dL_append_2 rfl rfl ?_
  refine R_iload_n dL_append_3 rfl rfl ?_
  refine R_callV (As := [.int v0]) cw_L_101 A dL_append_4 rfl (hp_obj (c := 9) rfl (by decide)) (hp_lt (c := 9) rfl (by decide)) (by decide) (Nat.le_of_ble_eq_true rfl) (Nat.le_of_ble_eq_true rfl) rfl rfl (by decide) (fun v9 h9 hz => ?_) (fun E9 h9 hz => ?_)
  · by_cases k0 : k = 0
    · subst k0
      obtain ⟨e1, rfl⟩ := hz
      cases e1
      show Q l _ _ _ _ _ _ _ _ _ [.int x, .int 0, .ref 473] _ _ _
      refine R_i2l dL_append_7 rfl ?_
      refine G_last dL_append_8 (show vp_in (0 : Int32) 1 from nI_in12 (k := 0) (n := 1) (by omega) (by omega)) ?_
      refine R_goto (tgt := 15) dL_append_9 rfl ?_
      refine R_iconst (v := 0) dL_append_15 (by decide) ?_
      refine R_iretH dL_append_16 (Nat.le_of_ble_eq_true rfl) (Nat.le_of_ble_eq_true rfl) ?_
      exact ⟨rfl, rfl⟩
    · exfalso
      first | rw [oc, if_neg k0] at hz | rw [if_neg k0] at hz
      cases hz.1
  · by_cases k0 : k = 0
    · subst k0
      cases hz.1
    · first | rw [oc, if_neg k0] at hz | rw [if_neg k0] at hz
      obtain ⟨e1, rfl⟩ := hz
      cases e1
      obtain rfl : k = 1 := by omega
      refine R_catch (pre := []) (x := ⟨0, 9, 12, 105⟩) (suf := []) (j := 3) rfl (fun z hz => by cases hz) (by decide) (by decide) lk_105 ct_ISE rfl (by decide) (Or.inl ⟨3, dL_append_12, rfl, rfl⟩) ?_
      refine R_iconst (v := 1) dL_append_13 (by decide) ?_
      refine R_iretH dL_append_14 (Nat.le_of_ble_eq_true rfl) (Nat.le_of_ble_eq_true rfl) ?_
      exact ⟨rfl, rfl⟩
abbrev hhL_at : HHT := [(0, 10, 13, 54), (0, 10, 17, 65)]
theorem w_at {l : Launch} (hf : l.stackTraces = false) {v0 v1 : Int32} {o : (Nat → Int64) × (Nat → UInt64)} {k : Nat} {x : Int32} (hk : k ≤ 2) (A : V_X9_at l [.ref 0, .int v0, .int v1] (hp M (p, o)) (oc k x (EE IOB NSE) (hp M1 (p1, o)))) : VL l yL_at cL_at 5 hhL_at 9 2 12 [.ref 0, .int v0, .int v1, .ref 473] (hp M (p, o)) (wz k (x.toInt64) M1 p1 o) := by
  refine VL.intro (lf := L9 (some (.ref 0)) (some (.int v0)) (some (.int v1)) (some (.ref 473)) none none none none none) (by decide +kernel) hf (fun _ => (Nat.le_of_ble_eq_true rfl)) (fun _ => rfl) ?_
  refine R_aload_n dL_at_0 rfl rfl ?_
  refine R_iconst (v := 0) dL_at_1 (by decide) ?_
  refine R_aload_n dL_at_2 rfl rfl ?_
  refine R_iload_n dL_at_3 rfl rfl ?_
  refine R_iload_n dL_at_4 rfl rfl ?_
  refine R_callV (As := [.int v0, .int v1]) cw_L_62 A dL_at_5 rfl (hp_obj (c := 9) rfl (by decide)) (hp_lt (c := 9) rfl (by decide)) (by decide) (Nat.le_of_ble_eq_true rfl) (Nat.le_of_ble_eq_true rfl) rfl rfl (by decide) (fun v9 h9 hz => ?_) (fun E9 h9 hz => ?_)
  · by_cases k0 : k = 0
    · subst k0
      obtain ⟨e1, rfl⟩ := hz
      cases e1
      show Q l _ _ _ _ _ _ _ _ _ [.int x, .int 0, .ref 473] _ _ _
      refine R_i2l dL_at_8 rfl ?_
      refine G_last dL_at_9 (show vp_in (0 : Int32) 1 from nI_in12 (k := 0) (n := 1) (by omega) (by omega)) ?_
      refine R_goto (tgt := 21) dL_at_10 rfl ?_
      refine R_iconst (v := 0) dL_at_21 (by decide) ?_
      refine R_iretH dL_at_22 (Nat.le_of_ble_eq_true rfl) (Nat.le_of_ble_eq_true rfl) ?_
      exact ⟨rfl, rfl⟩
    · exfalso
      first | rw [oc, if_neg k0] at hz | rw [if_neg k0] at hz
      cases hz.1
  · by_cases k0 : k = 0
    · subst k0
      cases hz.1
    · first | rw [oc, if_neg k0] at hz | rw [if_neg k0] at hz
      obtain ⟨e1, rfl⟩ := hz
      cases e1
      by_cases k1 : k = 1
      · subst k1
        refine R_catch (pre := []) (x := ⟨0, 10, 13, 54⟩) (suf := [⟨0, 10, 17, 65⟩]) (j := 4) rfl (fun z hz => by cases hz) (by decide) (by decide) lk_54 ct_IOB rfl (by decide) (Or.inr ⟨dL_at_13, rfl⟩) ?_
        refine R_iconst (v := 1) dL_at_15 (by decide) ?_
        refine R_iretH dL_at_16 (Nat.le_of_ble_eq_true rfl) (Nat.le_of_ble_eq_true rfl) ?_
        exact ⟨rfl, rfl⟩
      · obtain rfl : k = 2 := by omega
        refine R_catch (pre := [⟨0, 10, 13, 54⟩]) (x := ⟨0, 10, 17, 65⟩) (suf := []) (j := 4) rfl (fun z hz => by cases hz with | head => exact Or.inr ⟨by decide, _, lk_54, by decide⟩ | tail _ hz => cases hz) (by decide) (by decide) lk_65 ct_NSE rfl (by decide) (Or.inr ⟨dL_at_17, rfl⟩) ?_
        refine R_iconst (v := 2) dL_at_19 (by decide) ?_
        refine R_iretH dL_at_20 (Nat.le_of_ble_eq_true rfl) (Nat.le_of_ble_eq_true rfl) ?_
        exact ⟨rfl, rfl⟩
abbrev hhL_bestHook : HHT := [(0, 10, 13, 54), (0, 10, 17, 65)]
theorem w_bestHook {l : Launch} (hf : l.stackTraces = false) {v0 v1 : Int32} {o : (Nat → Int64) × (Nat → UInt64)} {k : Nat} {x : Int32} (hk : k ≤ 2) (A : V_X9_bestHook l [.ref 0, .int v0, .int v1] (hp M (p, o)) (oc k x (EE IOB NSE) (hp M1 (p1, o)))) : VL l yL_bestHook cL_bestHook 5 hhL_bestHook 9 3 18 [.ref 0, .int v0, .int v1, .ref 473] (hp M (p, o)) (wz k (x.toInt64) M1 p1 o) := by
  refine VL.intro (lf := L9 (some (.ref 0)) (some (.int v0)) (some (.int v1)) (some (.ref 473)) none none none none none) (by decide +kernel) hf (fun _ => (Nat.le_of_ble_eq_true rfl)) (fun _ => rfl) ?_
  refine R_aload_n dL_bestHook_0 rfl rfl ?_
  refine R_iconst (v := 0) dL_bestHook_1 (by decide) ?_
  refine R_aload_n dL_bestHook_2 rfl rfl ?_
  refine R_iload_n dL_bestHook_3 rfl rfl ?_
  refine R_iload_n dL_bestHook_4 rfl rfl ?_
  refine R_callV (As := [.int v0, .int v1]) cw_L_95 A dL_bestHook_5 rfl (hp_obj (c := 9) rfl (by decide)) (hp_lt (c := 9) rfl (by decide)) (by decide) (Nat.le_of_ble_eq_true rfl) (Nat.le_of_ble_eq_true rfl) rfl rfl (by decide) (fun v9 h9 hz => ?_) (fun E9 h9 hz => ?_)
  · by_cases k0 : k = 0
    · subst k0
      obtain ⟨e1, rfl⟩ := hz
      cases e1
      show Q l _ _ _ _ _ _ _ _ _ [.int x, .int 0, .ref 473] _ _ _
      refine R_i2l dL_bestHook_8 rfl ?_
      refine G_last dL_bestHook_9 (show vp_in (0 : Int32) 1 from nI_in12 (k := 0) (n := 1) (by omega) (by omega)) ?_
      refine R_goto (tgt := 21) dL_bestHook_10 rfl ?_
      refine R_iconst (v := 0) dL_bestHook_21 (by decide) ?_
      refine R_iretH dL_bestHook_22 (Nat.le_of_ble_eq_true rfl) (Nat.le_of_ble_eq_true rfl) ?_
      exact ⟨rfl, rfl⟩
    · exfalso
      first | rw [oc, if_neg k0] at hz | rw [if_neg k0] at hz
      cases hz.1
  · by_cases k0 : k = 0
    · subst k0
      cases hz.1
    · first | rw [oc, if_neg k0] at hz | rw [if_neg k0] at hz
      obtain ⟨e1, rfl⟩ := hz
      cases e1
      by_cases k1 : k = 1
      · subst k1
        refine R_catch (pre := []) (x := ⟨0, 10, 13, 54⟩) (suf := [⟨0, 10, 17, 65⟩]) (j := 4) rfl (fun z hz => by cases hz) (by decide) (by decide) lk_54 ct_IOB rfl (by decide) (Or.inr ⟨dL_bestHook_13, rfl⟩) ?_
        refine R_iconst (v := 1) dL_bestHook_15 (by decide) ?_
        refine R_iretH dL_bestHook_16 (Nat.le_of_ble_eq_true rfl) (Nat.le_of_ble_eq_true rfl) ?_
        exact ⟨rfl, rfl⟩
      · obtain rfl : k = 2 := by omega
        refine R_catch (pre := [⟨0, 10, 13, 54⟩]) (x := ⟨0, 10, 17, 65⟩) (suf := []) (j := 4) rfl (fun z hz => by cases hz with | head => exact Or.inr ⟨by decide, _, lk_54, by decide⟩ | tail _ hz => cases hz) (by decide) (by decide) lk_65 ct_NSE rfl (by decide) (Or.inr ⟨dL_bestHook_17, rfl⟩) ?_
        refine R_iconst (v := 2) dL_bestHook_19 (by decide) ?_
        refine R_iretH dL_bestHook_20 (Nat.le_of_ble_eq_true rfl) (Nat.le_of_ble_eq_true rfl) ?_
        exact ⟨rfl, rfl⟩
abbrev hhL_brine : HHT := [(0, 9, 12, 13)]
theorem w_brine {l : Launch} (hf : l.stackTraces = false) {v0 : Int32} {o : (Nat → Int64) × (Nat → UInt64)} {k : Nat} {x : Int32} (hk : k ≤ 1) (A : V_X9_brine l [.ref 0, .int v0] (hp M (p, o)) (oc k x (fun _ => UOE) (hp M1 (p1, o)))) : VL l yL_brine cL_brine 4 hhL_brine 9 1 6 [.ref 0, .int v0, .ref 473] (hp M (p, o)) (wz k (x.toInt64) M1 p1 o) := by
  refine VL.intro (lf := L9 (some (.ref 0)) (some (.int v0)) (some (.ref 473)) none none none none none none) (by decide +kernel) hf (fun _ => (Nat.le_of_ble_eq_true rfl)) (fun _ => rfl) ?_
  refine R_aload_n dL_brine_0 rfl rfl ?_
  refine R_iconst (v := 0) dL_brine_1 (by decide) ?_
  refine R_aload_n dL_brine_2 rfl rfl ?_
  refine R_iload_n dL_brine_3 rfl rfl ?_
  refine R_callV (As := [.int v0]) cw_L_15 A dL_brine_4 rfl (hp_obj (c := 9) rfl (by decide)) (hp_lt (c := 9) rfl (by decide)) (by decide) (Nat.le_of_ble_eq_true rfl) (Nat.le_of_ble_eq_true rfl) rfl rfl (by decide) (fun v9 h9 hz => ?_) (fun E9 h9 hz => ?_)
  · by_cases k0 : k = 0
    · subst k0
      obtain ⟨e1, rfl⟩ := hz
      cases e1
      show Q l _ _ _ _ _ _ _ _ _ [.int x, .int 0, .ref 473] _ _ _
      refine R_i2l dL_brine_7 rfl ?_
      refine G_last dL_brine_8 (show vp_in (0 : Int32) 1 from nI_in12 (k := 0) (n := 1) (by omega) (by omega)) ?_
      refine R_goto (tgt := 15) dL_brine_9 rfl ?_
      refine R_iconst (v := 0) dL_brine_15 (by decide) ?_
      refine R_iretH dL_brine_16 (Nat.le_of_ble_eq_true rfl) (Nat.le_of_ble_eq_true rfl) ?_
      exact ⟨rfl, rfl⟩
    · exfalso
      first | rw [oc, if_neg k0] at hz | rw [if_neg k0] at hz
      cases hz.1
  · by_cases k0 : k = 0
    · subst k0
      cases hz.1
    · first | rw [oc, if_neg k0] at hz | rw [if_neg k0] at hz
      obtain ⟨e1, rfl⟩ := hz
      cases e1
      obtain rfl : k = 1 := by omega
      refine R_catch (pre := []) (x := ⟨0, 9, 12, 13⟩) (suf := []) (j := 3) rfl (fun z hz => by cases hz) (by decide) (by decide) lk_13 ct_UOE rfl (by decide) (Or.inl ⟨3, dL_brine_12, rfl, rfl⟩) ?_
      refine R_iconst (v := 1) dL_brine_13 (by decide) ?_
      refine R_iretH dL_brine_14 (Nat.le_of_ble_eq_true rfl) (Nat.le_of_ble_eq_true rfl) ?_
      exact ⟨rfl, rfl⟩
abbrev hhL_burnsIn : HHT := [(0, 9, 12, 54), (0, 9, 15, 65)]
theorem w_burnsIn {l : Launch} (hf : l.stackTraces = false) {v0 : Int32} {o : (Nat → Int64) × (Nat → UInt64)} {k : Nat} {x : Int32} (hk : k ≤ 2) (A : V_X9_burnsIn l [.ref 0, .int v0] (hp M (p, o)) (oc k x (EE IOB NSE) (hp M1 (p1, o)))) : VL l yL_burnsIn cL_burnsIn 4 hhL_burnsIn 9 2 12 [.ref 0, .int v0, .ref 473] (hp M (p, o)) (wz k (x.toInt64) M1 p1 o) := by
  refine VL.intro (lf := L9 (some (.ref 0)) (some (.int v0)) (some (.ref 473)) none none none none none none) (by decide +kernel) hf (fun _ => (Nat.le_of_ble_eq_true rfl)) (fun _ => rfl) ?_
  refine R_aload_n dL_burnsIn_0 rfl rfl ?_
  refine R_iconst (v := 0) dL_burnsIn_1 (by decide) ?_
  refine R_aload_n dL_burnsIn_2 rfl rfl ?_
  refine R_iload_n dL_burnsIn_3 rfl rfl ?_
  refine R_callV (As := [.int v0]) cw_L_86 A dL_burnsIn_4 rfl (hp_obj (c := 9) rfl (by decide)) (hp_lt (c := 9) rfl (by decide)) (by decide) (Nat.le_of_ble_eq_true rfl) (Nat.le_of_ble_eq_true rfl) rfl rfl (by decide) (fun v9 h9 hz => ?_) (fun E9 h9 hz => ?_)
  · by_cases k0 : k = 0
    · subst k0
      obtain ⟨e1, rfl⟩ := hz
      cases e1
      show Q l _ _ _ _ _ _ _ _ _ [.int x, .int 0, .ref 473] _ _ _
      refine R_i2l dL_burnsIn_7 rfl ?_
      refine G_last dL_burnsIn_8 (show vp_in (0 : Int32) 1 from nI_in12 (k := 0) (n := 1) (by omega) (by omega)) ?_
      refine R_goto (tgt := 18) dL_burnsIn_9 rfl ?_
      refine R_iconst (v := 0) dL_burnsIn_18 (by decide) ?_
      refine R_iretH dL_burnsIn_19 (Nat.le_of_ble_eq_true rfl) (Nat.le_of_ble_eq_true rfl) ?_
      exact ⟨rfl, rfl⟩
    · exfalso
      first | rw [oc, if_neg k0] at hz | rw [if_neg k0] at hz
      cases hz.1
  · by_cases k0 : k = 0
    · subst k0
      cases hz.1
    · first | rw [oc, if_neg k0] at hz | rw [if_neg k0] at hz
      obtain ⟨e1, rfl⟩ := hz
      cases e1
      by_cases k1 : k = 1
      · subst k1
        refine R_catch (pre := []) (x := ⟨0, 9, 12, 54⟩) (suf := [⟨0, 9, 15, 65⟩]) (j := 3) rfl (fun z hz => by cases hz) (by decide) (by decide) lk_54 ct_IOB rfl (by decide) (Or.inl ⟨3, dL_burnsIn_12, rfl, rfl⟩) ?_
        refine R_iconst (v := 1) dL_burnsIn_13 (by decide) ?_
        refine R_iretH dL_burnsIn_14 (Nat.le_of_ble_eq_true rfl) (Nat.le_of_ble_eq_true rfl) ?_
        exact ⟨rfl, rfl⟩
      · obtain rfl : k = 2 := by omega
        refine R_catch (pre := [⟨0, 9, 12, 54⟩]) (x := ⟨0, 9, 15, 65⟩) (suf := []) (j := 3) rfl (fun z hz => by cases hz with | head => exact Or.inr ⟨by decide, _, lk_54, by decide⟩ | tail _ hz => cases hz) (by decide) (by decide) lk_65 ct_NSE rfl (by decide) (Or.inl ⟨3, dL_burnsIn_15, rfl, rfl⟩) ?_
        refine R_iconst (v := 2) dL_burnsIn_16 (by decide) ?_
        refine R_iretH dL_burnsIn_17 (Nat.le_of_ble_eq_true rfl) (Nat.le_of_ble_eq_true rfl) ?_
        exact ⟨rfl, rfl⟩
abbrev hhL_burntShare : HHT := [(0, 7, 10, 126)]
theorem w_burntShare {l : Launch} (hf : l.stackTraces = false) {o : (Nat → Int64) × (Nat → UInt64)} {k : Nat} {x : UInt64} (hk : k ≤ 1) (A : V_X9_burntShare l [.ref 0] (hp M (p, o)) (if k = 0 then (fun z h2 => z = .inl (some (.double x)) ∧ h2 = hp M (p, o)) else ZE ((fun _ => ARE) k) (hp M (p, o)))) : VL l yL_burntShare cL_burntShare 3 hhL_burntShare 8 1 6 [.ref 0, .ref 474] (hp M (p, o)) (wzd k x M p o) := by
  refine VL.intro (lf := L9 (some (.ref 0)) (some (.ref 474)) none none none none none none none) (by decide +kernel) hf (fun _ => (Nat.le_of_ble_eq_true rfl)) (fun _ => rfl) ?_
  refine R_aload_n dL_burntShare_0 rfl rfl ?_
  refine R_iconst (v := 0) dL_burntShare_1 (by decide) ?_
  refine R_aload_n dL_burntShare_2 rfl rfl ?_
  refine R_callV (As := []) cw_L_128 A dL_burntShare_3 rfl (hp_obj (c := 9) rfl (by decide)) (hp_lt (c := 9) rfl (by decide)) (by decide) (Nat.le_of_ble_eq_true rfl) (Nat.le_of_ble_eq_true rfl) rfl rfl (by decide) (fun v9 h9 hz => ?_) (fun E9 h9 hz => ?_)
  · by_cases k0 : k = 0
    · subst k0
      obtain ⟨e1, rfl⟩ := hz
      cases e1
      show Q l _ _ _ _ _ _ _ _ _ [.double x, .int 0, .ref 474] _ _ _
      refine G_dast dL_burntShare_6 (show vp_in (0 : Int32) 1 from nI_in12 (k := 0) (n := 1) (by omega) (by omega)) ?_
      refine R_goto (tgt := 13) dL_burntShare_7 rfl ?_
      refine R_iconst (v := 0) dL_burntShare_13 (by decide) ?_
      refine R_iretH dL_burntShare_14 (Nat.le_of_ble_eq_true rfl) (Nat.le_of_ble_eq_true rfl) ?_
      exact ⟨rfl, rfl⟩
    · exfalso
      first | rw [oc, if_neg k0] at hz | rw [if_neg k0] at hz
      cases hz.1
  · by_cases k0 : k = 0
    · subst k0
      cases hz.1
    · first | rw [oc, if_neg k0] at hz | rw [if_neg k0] at hz
      obtain ⟨e1, rfl⟩ := hz
      cases e1
      obtain rfl : k = 1 := by omega
      refine R_catch (pre := []) (x := ⟨0, 7, 10, 126⟩) (suf := []) (j := 2) rfl (fun z hz => by cases hz) (by decide) (by decide) lk_126 ct_ARE rfl (by decide) (Or.inl ⟨2, dL_burntShare_10, rfl, rfl⟩) ?_
      refine R_iconst (v := 1) dL_burntShare_11 (by decide) ?_
      refine R_iretH dL_burntShare_12 (Nat.le_of_ble_eq_true rfl) (Nat.le_of_ble_eq_true rfl) ?_
      exact ⟨rfl, rfl⟩
abbrev hhL_character : HHT := [(0, 9, 12, 54)]
theorem w_character {l : Launch} (hf : l.stackTraces = false) {v0 : Int32} {o : (Nat → Int64) × (Nat → UInt64)} {k : Nat} {x : Int32} (hk : k ≤ 1) (A : V_X9_character l [.ref 0, .int v0] (hp M (p, o)) (oc k x (fun _ => IOB) (hp M1 (p1, o)))) : VL l yL_character cL_character 4 hhL_character 8 1 6 [.ref 0, .int v0, .ref 473] (hp M (p, o)) (wz k (x.toInt64) M1 p1 o) := by
  refine VL.intro (lf := L9 (some (.ref 0)) (some (.int v0)) (some (.ref 473)) none none none none none none) (by decide +kernel) hf (fun _ => (Nat.le_of_ble_eq_true rfl)) (fun _ => rfl) ?_
  refine R_aload_n dL_character_0 rfl rfl ?_
  refine R_iconst (v := 0) dL_character_1 (by decide) ?_
  refine R_aload_n dL_character_2 rfl rfl ?_
  refine R_iload_n dL_character_3 rfl rfl ?_
  refine R_callV (As := [.int v0]) cw_L_119 A dL_character_4 rfl (hp_obj (c := 9) rfl (by decide)) (hp_lt (c := 9) rfl (by decide)) (by decide) (Nat.le_of_ble_eq_true rfl) (Nat.le_of_ble_eq_true rfl) rfl rfl (by decide) (fun v9 h9 hz => ?_) (fun E9 h9 hz => ?_)
  · by_cases k0 : k = 0
    · subst k0
      obtain ⟨e1, rfl⟩ := hz
      cases e1
      show Q l _ _ _ _ _ _ _ _ _ [.int x, .int 0, .ref 473] _ _ _
      refine R_i2l dL_character_7 rfl ?_
      refine G_last dL_character_8 (show vp_in (0 : Int32) 1 from nI_in12 (k := 0) (n := 1) (by omega) (by omega)) ?_
      refine R_goto (tgt := 15) dL_character_9 rfl ?_
      refine R_iconst (v := 0) dL_character_15 (by decide) ?_
      refine R_iretH dL_character_16 (Nat.le_of_ble_eq_true rfl) (Nat.le_of_ble_eq_true rfl) ?_
      exact ⟨rfl, rfl⟩
    · exfalso
      first | rw [oc, if_neg k0] at hz | rw [if_neg k0] at hz
      cases hz.1
  · by_cases k0 : k = 0
    · subst k0
      cases hz.1
    · first | rw [oc, if_neg k0] at hz | rw [if_neg k0] at hz
      obtain ⟨e1, rfl⟩ := hz
      cases e1
      obtain rfl : k = 1 := by omega
      refine R_catch (pre := []) (x := ⟨0, 9, 12, 54⟩) (suf := []) (j := 3) rfl (fun z hz => by cases hz) (by decide) (by decide) lk_54 ct_IOB rfl (by decide) (Or.inl ⟨3, dL_character_12, rfl, rfl⟩) ?_
      refine R_iconst (v := 1) dL_character_13 (by decide) ?_
      refine R_iretH dL_character_14 (Nat.le_of_ble_eq_true rfl) (Nat.le_of_ble_eq_true rfl) ?_
      exact ⟨rfl, rfl⟩
abbrev hhL_commands : HHT := [(0, 8, 11, 56), (0, 8, 14, 13)]
theorem w_commands {l : Launch} (hf : l.stackTraces = false) {o : (Nat → Int64) × (Nat → UInt64)} {k : Nat} {x : Int32} (hk : k ≤ 2) (A : V_X9_commands l [.ref 0] (hp M (p, o)) (oc k x (EE IAE UOE) (hp M1 (p1, o)))) : VL l yL_commands cL_commands 3 hhL_commands 8 1 6 [.ref 0, .ref 473] (hp M (p, o)) (wz k (x.toInt64) M1 p1 o) := by
  refine VL.intro (lf := L9 (some (.ref 0)) (some (.ref 473)) none none none none none none none) (by decide +kernel) hf (fun _ => (Nat.le_of_ble_eq_true rfl)) (fun _ => rfl) ?_
  refine R_aload_n dL_commands_0 rfl rfl ?_
  refine R_iconst (v := 0) dL_commands_1 (by decide) ?_
  refine R_aload_n dL_commands_2 rfl rfl ?_
  refine R_callV (As := []) cw_L_107 A dL_commands_3 rfl (hp_obj (c := 9) rfl (by decide)) (hp_lt (c := 9) rfl (by decide)) (by decide) (Nat.le_of_ble_eq_true rfl) (Nat.le_of_ble_eq_true rfl) rfl rfl (by decide) (fun v9 h9 hz => ?_) (fun E9 h9 hz => ?_)
  · by_cases k0 : k = 0
    · subst k0
      obtain ⟨e1, rfl⟩ := hz
      cases e1
      show Q l _ _ _ _ _ _ _ _ _ [.int x, .int 0, .ref 473] _ _ _
      refine R_i2l dL_commands_6 rfl ?_
      refine G_last dL_commands_7 (show vp_in (0 : Int32) 1 from nI_in12 (k := 0) (n := 1) (by omega) (by omega)) ?_
      refine R_goto (tgt := 17) dL_commands_8 rfl ?_
      refine R_iconst (v := 0) dL_commands_17 (by decide) ?_
      refine R_iretH dL_commands_18 (Nat.le_of_ble_eq_true rfl) (Nat.le_of_ble_eq_true rfl) ?_
      exact ⟨rfl, rfl⟩
    · exfalso
      first | rw [oc, if_neg k0] at hz | rw [if_neg k0] at hz
      cases hz.1
  · by_cases k0 : k = 0
    · subst k0
      cases hz.1
    · first | rw [oc, if_neg k0] at hz | rw [if_neg k0] at hz
      obtain ⟨e1, rfl⟩ := hz
      cases e1
      by_cases k1 : k = 1
      · subst k1
        refine R_catch (pre := []) (x := ⟨0, 8, 11, 56⟩) (suf := [⟨0, 8, 14, 13⟩]) (j := 2) rfl (fun z hz => by cases hz) (by decide) (by decide) lk_56 ct_IAE rfl (by decide) (Or.inl ⟨2, dL_commands_11, rfl, rfl⟩) ?_
        refine R_iconst (v := 1) dL_commands_12 (by decide) ?_
        refine R_iretH dL_commands_13 (Nat.le_of_ble_eq_true rfl) (Nat.le_of_ble_eq_true rfl) ?_
        exact ⟨rfl, rfl⟩
      · obtain rfl : k = 2 := by omega
        refine R_catch (pre := [⟨0, 8, 11, 56⟩]) (x := ⟨0, 8, 14, 13⟩) (suf := []) (j := 2) rfl (fun z hz => by cases hz with | head => exact Or.inr ⟨by decide, _, lk_56, by decide⟩ | tail _ hz => cases hz) (by decide) (by decide) lk_13 ct_UOE rfl (by decide) (Or.inl ⟨2, dL_commands_14, rfl, rfl⟩) ?_
        refine R_iconst (v := 2) dL_commands_15 (by decide) ?_
        refine R_iretH dL_commands_16 (Nat.le_of_ble_eq_true rfl) (Nat.le_of_ble_eq_true rfl) ?_
        exact ⟨rfl, rfl⟩
abbrev hhL_day : HHT := [(0, 8, 11, 13)]
theorem w_day {l : Launch} (hf : l.stackTraces = false) {o : (Nat → Int64) × (Nat → UInt64)} {k : Nat} {x : Int32} (hk : k ≤ 1) (A : V_X9_day l [.ref 0] (hp M (p, o)) (oc k x (fun _ => UOE) (hp M1 (p1, o)))) : VL l yL_day cL_day 3 hhL_day 9 1 6 [.ref 0, .ref 473] (hp M (p, o)) (wz k (x.toInt64) M1 p1 o) := by
  refine VL.intro (lf := L9 (some (.ref 0)) (some (.ref 473)) none none none none none none none) (by decide +kernel) hf (fun _ => (Nat.le_of_ble_eq_true rfl)) (fun _ => rfl) ?_
  refine R_aload_n dL_day_0 rfl rfl ?_
  refine R_iconst (v := 0) dL_day_1 (by decide) ?_
  refine R_aload_n dL_day_2 rfl rfl ?_
  refine R_callV (As := []) cw_L_37 A dL_day_3 rfl (hp_obj (c := 9) rfl (by decide)) (hp_lt (c := 9) rfl (by decide)) (by decide) (Nat.le_of_ble_eq_true rfl) (Nat.le_of_ble_eq_true rfl) rfl rfl (by decide) (fun v9 h9 hz => ?_) (fun E9 h9 hz => ?_)
  · by_cases k0 : k = 0
    · subst k0
      obtain ⟨e1, rfl⟩ := hz
      cases e1
      show Q l _ _ _ _ _ _ _ _ _ [.int x, .int 0, .ref 473] _ _ _
      refine R_i2l dL_day_6 rfl ?_
      refine G_last dL_day_7 (show vp_in (0 : Int32) 1 from nI_in12 (k := 0) (n := 1) (by omega) (by omega)) ?_
      refine R_goto (tgt := 14) dL_day_8 rfl ?_
      refine R_iconst (v := 0) dL_day_14 (by decide) ?_
      refine R_iretH dL_day_15 (Nat.le_of_ble_eq_true rfl) (Nat.le_of_ble_eq_true rfl) ?_
      exact ⟨rfl, rfl⟩
    · exfalso
      first | rw [oc, if_neg k0] at hz | rw [if_neg k0] at hz
      cases hz.1
  · by_cases k0 : k = 0
    · subst k0
      cases hz.1
    · first | rw [oc, if_neg k0] at hz | rw [if_neg k0] at hz
      obtain ⟨e1, rfl⟩ := hz
      cases e1
      obtain rfl : k = 1 := by omega
      refine R_catch (pre := []) (x := ⟨0, 8, 11, 13⟩) (suf := []) (j := 2) rfl (fun z hz => by cases hz) (by decide) (by decide) lk_13 ct_UOE rfl (by decide) (Or.inl ⟨2, dL_day_11, rfl, rfl⟩) ?_
      refine R_iconst (v := 1) dL_day_12 (by decide) ?_
      refine R_iretH dL_day_13 (Nat.le_of_ble_eq_true rfl) (Nat.le_of_ble_eq_true rfl) ?_
      exact ⟨rfl, rfl⟩
abbrev hhL_doneIn : HHT := [(0, 9, 12, 54), (0, 9, 15, 65)]
theorem w_doneIn {l : Launch} (hf : l.stackTraces = false) {v0 : Int32} {o : (Nat → Int64) × (Nat → UInt64)} {k : Nat} {x : Int32} (hk : k ≤ 2) (A : V_X9_doneIn l [.ref 0, .int v0] (hp M (p, o)) (oc k x (EE IOB NSE) (hp M1 (p1, o)))) : VL l yL_doneIn cL_doneIn 4 hhL_doneIn 9 2 12 [.ref 0, .int v0, .ref 473] (hp M (p, o)) (wz k (x.toInt64) M1 p1 o) := by
  refine VL.intro (lf := L9 (some (.ref 0)) (some (.int v0)) (some (.ref 473)) none none none none none none) (by decide +kernel) hf (fun _ => (Nat.le_of_ble_eq_true rfl)) (fun _ => rfl) ?_
  refine R_aload_n dL_doneIn_0 rfl rfl ?_
  refine R_iconst (v := 0) dL_doneIn_1 (by decide) ?_
  refine R_aload_n dL_doneIn_2 rfl rfl ?_
  refine R_iload_n dL_doneIn_3 rfl rfl ?_
  refine R_callV (As := [.int v0]) cw_L_89 A dL_doneIn_4 rfl (hp_obj (c := 9) rfl (by decide)) (hp_lt (c := 9) rfl (by decide)) (by decide) (Nat.le_of_ble_eq_true rfl) (Nat.le_of_ble_eq_true rfl) rfl rfl (by decide) (fun v9 h9 hz => ?_) (fun E9 h9 hz => ?_)
  · by_cases k0 : k = 0
    · subst k0
      obtain ⟨e1, rfl⟩ := hz
      cases e1
      show Q l _ _ _ _ _ _ _ _ _ [.int x, .int 0, .ref 473] _ _ _
      refine R_i2l dL_doneIn_7 rfl ?_
      refine G_last dL_doneIn_8 (show vp_in (0 : Int32) 1 from nI_in12 (k := 0) (n := 1) (by omega) (by omega)) ?_
      refine R_goto (tgt := 18) dL_doneIn_9 rfl ?_
      refine R_iconst (v := 0) dL_doneIn_18 (by decide) ?_
      refine R_iretH dL_doneIn_19 (Nat.le_of_ble_eq_true rfl) (Nat.le_of_ble_eq_true rfl) ?_
      exact ⟨rfl, rfl⟩
    · exfalso
      first | rw [oc, if_neg k0] at hz | rw [if_neg k0] at hz
      cases hz.1
  · by_cases k0 : k = 0
    · subst k0
      cases hz.1
    · first | rw [oc, if_neg k0] at hz | rw [if_neg k0] at hz
      obtain ⟨e1, rfl⟩ := hz
      cases e1
      by_cases k1 : k = 1
      · subst k1
        refine R_catch (pre := []) (x := ⟨0, 9, 12, 54⟩) (suf := [⟨0, 9, 15, 65⟩]) (j := 3) rfl (fun z hz => by cases hz) (by decide) (by decide) lk_54 ct_IOB rfl (by decide) (Or.inl ⟨3, dL_doneIn_12, rfl, rfl⟩) ?_
        refine R_iconst (v := 1) dL_doneIn_13 (by decide) ?_
        refine R_iretH dL_doneIn_14 (Nat.le_of_ble_eq_true rfl) (Nat.le_of_ble_eq_true rfl) ?_
        exact ⟨rfl, rfl⟩
      · obtain rfl : k = 2 := by omega
        refine R_catch (pre := [⟨0, 9, 12, 54⟩]) (x := ⟨0, 9, 15, 65⟩) (suf := []) (j := 3) rfl (fun z hz => by cases hz with | head => exact Or.inr ⟨by decide, _, lk_54, by decide⟩ | tail _ hz => cases hz) (by decide) (by decide) lk_65 ct_NSE rfl (by decide) (Or.inl ⟨3, dL_doneIn_15, rfl, rfl⟩) ?_
        refine R_iconst (v := 2) dL_doneIn_16 (by decide) ?_
        refine R_iretH dL_doneIn_17 (Nat.le_of_ble_eq_true rfl) (Nat.le_of_ble_eq_true rfl) ?_
        exact ⟨rfl, rfl⟩
abbrev hhL_fish : HHT := [(0, 9, 12, 13)]
theorem w_fish {l : Launch} (hf : l.stackTraces = false) {v0 : Int32} {o : (Nat → Int64) × (Nat → UInt64)} {k : Nat} {x : Int32} (hk : k ≤ 1) (A : V_X9_fish l [.ref 0, .int v0] (hp M (p, o)) (oc k x (fun _ => UOE) (hp M1 (p1, o)))) : VL l yL_fish cL_fish 4 hhL_fish 9 1 6 [.ref 0, .int v0, .ref 473] (hp M (p, o)) (wz k (x.toInt64) M1 p1 o) := by
  refine VL.intro (lf := L9 (some (.ref 0)) (some (.int v0)) (some (.ref 473)) none none none none none none) (by decide +kernel) hf (fun _ => (Nat.le_of_ble_eq_true rfl)) (fun _ => rfl) ?_
  refine R_aload_n dL_fish_0 rfl rfl ?_
  refine R_iconst (v := 0) dL_fish_1 (by decide) ?_
  refine R_aload_n dL_fish_2 rfl rfl ?_
  refine R_iload_n dL_fish_3 rfl rfl ?_
  refine R_callV (As := [.int v0]) cw_L_7 A dL_fish_4 rfl (hp_obj (c := 9) rfl (by decide)) (hp_lt (c := 9) rfl (by decide)) (by decide) (Nat.le_of_ble_eq_true rfl) (Nat.le_of_ble_eq_true rfl) rfl rfl (by decide) (fun v9 h9 hz => ?_) (fun E9 h9 hz => ?_)
  · by_cases k0 : k = 0
    · subst k0
      obtain ⟨e1, rfl⟩ := hz
      cases e1
      show Q l _ _ _ _ _ _ _ _ _ [.int x, .int 0, .ref 473] _ _ _
      refine R_i2l dL_fish_7 rfl ?_
      refine G_last dL_fish_8 (show vp_in (0 : Int32) 1 from nI_in12 (k := 0) (n := 1) (by omega) (by omega)) ?_
      refine R_goto (tgt := 15) dL_fish_9 rfl ?_
      refine R_iconst (v := 0) dL_fish_15 (by decide) ?_
      refine R_iretH dL_fish_16 (Nat.le_of_ble_eq_true rfl) (Nat.le_of_ble_eq_true rfl) ?_
      exact ⟨rfl, rfl⟩
    · exfalso
      first | rw [oc, if_neg k0] at hz | rw [if_neg k0] at hz
      cases hz.1
  · by_cases k0 : k = 0
    · subst k0
      cases hz.1
    · first | rw [oc, if_neg k0] at hz | rw [if_neg k0] at hz
      obtain ⟨e1, rfl⟩ := hz
      cases e1
      obtain rfl : k = 1 := by omega
      refine R_catch (pre := []) (x := ⟨0, 9, 12, 13⟩) (suf := []) (j := 3) rfl (fun z hz => by cases hz) (by decide) (by decide) lk_13 ct_UOE rfl (by decide) (Or.inl ⟨3, dL_fish_12, rfl, rfl⟩) ?_
      refine R_iconst (v := 1) dL_fish_13 (by decide) ?_
      refine R_iretH dL_fish_14 (Nat.le_of_ble_eq_true rfl) (Nat.le_of_ble_eq_true rfl) ?_
      exact ⟨rfl, rfl⟩
abbrev hhL_fishOf : HHT := [(0, 10, 13, 54), (0, 10, 17, 56)]
theorem w_fishOf {l : Launch} (hf : l.stackTraces = false) {v0 v1 : Int32} {o : (Nat → Int64) × (Nat → UInt64)} {k : Nat} {x : Int32} (hk : k ≤ 2) (A : V_X9_fishOf l [.ref 0, .int v0, .int v1] (hp M (p, o)) (oc k x (EE IOB IAE) (hp M1 (p1, o)))) : VL l yL_fishOf cL_fishOf 5 hhL_fishOf 9 2 12 [.ref 0, .int v0, .int v1, .ref 473] (hp M (p, o)) (wz k (x.toInt64) M1 p1 o) := by
  refine VL.intro (lf := L9 (some (.ref 0)) (some (.int v0)) (some (.int v1)) (some (.ref 473)) none none none none none) (by decide +kernel) hf (fun _ => (Nat.le_of_ble_eq_true rfl)) (fun _ => rfl) ?_
  refine R_aload_n dL_fishOf_0 rfl rfl ?_
  refine R_iconst (v := 0) dL_fishOf_1 (by decide) ?_
  refine R_aload_n dL_fishOf_2 rfl rfl ?_
  refine R_iload_n dL_fishOf_3 rfl rfl ?_
  refine R_iload_n dL_fishOf_4 rfl rfl ?_
  refine R_callV (As := [.int v0, .int v1]) cw_L_50 A dL_fishOf_5 rfl (hp_obj (c := 9) rfl (by decide)) (hp_lt (c := 9) rfl (by decide)) (by decide) (Nat.le_of_ble_eq_true rfl) (Nat.le_of_ble_eq_true rfl) rfl rfl (by decide) (fun v9 h9 hz => ?_) (fun E9 h9 hz => ?_)
  · by_cases k0 : k = 0
    · subst k0
      obtain ⟨e1, rfl⟩ := hz
      cases e1
      show Q l _ _ _ _ _ _ _ _ _ [.int x, .int 0, .ref 473] _ _ _
      refine R_i2l dL_fishOf_8 rfl ?_
      refine G_last dL_fishOf_9 (show vp_in (0 : Int32) 1 from nI_in12 (k := 0) (n := 1) (by omega) (by omega)) ?_
      refine R_goto (tgt := 21) dL_fishOf_10 rfl ?_
      refine R_iconst (v := 0) dL_fishOf_21 (by decide) ?_
      refine R_iretH dL_fishOf_22 (Nat.le_of_ble_eq_true rfl) (Nat.le_of_ble_eq_true rfl) ?_
      exact ⟨rfl, rfl⟩
    · exfalso
      first | rw [oc, if_neg k0] at hz | rw [if_neg k0] at hz
      cases hz.1
  · by_cases k0 : k = 0
    · subst k0
      cases hz.1
    · first | rw [oc, if_neg k0] at hz | rw [if_neg k0] at hz
      obtain ⟨e1, rfl⟩ := hz
      cases e1
      by_cases k1 : k = 1
      · subst k1
        refine R_catch (pre := []) (x := ⟨0, 10, 13, 54⟩) (suf := [⟨0, 10, 17, 56⟩]) (j := 4) rfl (fun z hz => by cases hz) (by decide) (by decide) lk_54 ct_IOB rfl (by decide) (Or.inr ⟨dL_fishOf_13, rfl⟩) ?_
        refine R_iconst (v := 1) dL_fishOf_15 (by decide) ?_
        refine R_iretH dL_fishOf_16 (Nat.le_of_ble_eq_true rfl) (Nat.le_of_ble_eq_true rfl) ?_
        exact ⟨rfl, rfl⟩
      · obtain rfl : k = 2 := by omega
        refine R_catch (pre := [⟨0, 10, 13, 54⟩]) (x := ⟨0, 10, 17, 56⟩) (suf := []) (j := 4) rfl (fun z hz => by cases hz with | head => exact Or.inr ⟨by decide, _, lk_54, by decide⟩ | tail _ hz => cases hz) (by decide) (by decide) lk_56 ct_IAE rfl (by decide) (Or.inr ⟨dL_fishOf_17, rfl⟩) ?_
        refine R_iconst (v := 2) dL_fishOf_19 (by decide) ?_
        refine R_iretH dL_fishOf_20 (Nat.le_of_ble_eq_true rfl) (Nat.le_of_ble_eq_true rfl) ?_
        exact ⟨rfl, rfl⟩
abbrev hhL_hang : HHT := [(0, 12, 15, 13)]
theorem w_hang {l : Launch} (hf : l.stackTraces = false) {v0 v1 v2 : Int32} {o : (Nat → Int64) × (Nat → UInt64)} {k : Nat} {x : Int32} (hk : k ≤ 1) (A : V_X9_hang l [.ref 0, .int v0, .int v1, .int v2] (hp M (p, o)) (oc k x (fun _ => UOE) (hp M1 (p1, o)))) : VL l yL_hang cL_hang 6 hhL_hang 9 1 6 [.ref 0, .int v0, .int v1, .int v2, .ref 473] (hp M (p, o)) (wz k (x.toInt64) M1 p1 o) := by
  refine VL.intro (lf := L9 (some (.ref 0)) (some (.int v0)) (some (.int v1)) (some (.int v2)) (some (.ref 473)) none none none none) (by decide +kernel) hf (fun _ => (Nat.le_of_ble_eq_true rfl)) (fun _ => rfl) ?_
  refine R_aload dL_hang_0 (by decide) rfl ?_
  refine R_iconst (v := 0) dL_hang_2 (by decide) ?_
  refine R_aload_n dL_hang_3 rfl rfl ?_
  refine R_iload_n dL_hang_4 rfl rfl ?_
  refine R_iload_n dL_hang_5 rfl rfl ?_
  refine R_iload_n dL_hang_6 rfl rfl ?_
  refine R_callV (As := [.int v0, .int v1, .int v2]) cw_L_21 A dL_hang_7 rfl (hp_obj (c := 9) rfl (by decide)) (hp_lt (c := 9) rfl (by decide)) (by decide) (Nat.le_of_ble_eq_true rfl) (Nat.le_of_ble_eq_true rfl) rfl rfl (by decide) (fun v9 h9 hz => ?_) (fun E9 h9 hz => ?_)
  · by_cases k0 : k = 0
    · subst k0
      obtain ⟨e1, rfl⟩ := hz
      cases e1
      show Q l _ _ _ _ _ _ _ _ _ [.int x, .int 0, .ref 473] _ _ _
      refine R_i2l dL_hang_10 rfl ?_
      refine G_last dL_hang_11 (show vp_in (0 : Int32) 1 from nI_in12 (k := 0) (n := 1) (by omega) (by omega)) ?_
      refine R_goto (tgt := 19) dL_hang_12 rfl ?_
      refine R_iconst (v := 0) dL_hang_19 (by decide) ?_
      refine R_iretH dL_hang_20 (Nat.le_of_ble_eq_true rfl) (Nat.le_of_ble_eq_true rfl) ?_
      exact ⟨rfl, rfl⟩
    · exfalso
      first | rw [oc, if_neg k0] at hz | rw [if_neg k0] at hz
      cases hz.1
  · by_cases k0 : k = 0
    · subst k0
      cases hz.1
    · first | rw [oc, if_neg k0] at hz | rw [if_neg k0] at hz
      obtain ⟨e1, rfl⟩ := hz
      cases e1
      obtain rfl : k = 1 := by omega
      refine R_catch (pre := []) (x := ⟨0, 12, 15, 13⟩) (suf := []) (j := 5) rfl (fun z hz => by cases hz) (by decide) (by decide) lk_13 ct_UOE rfl (by decide) (Or.inr ⟨dL_hang_15, rfl⟩) ?_
      refine R_iconst (v := 1) dL_hang_17 (by decide) ?_
      refine R_iretH dL_hang_18 (Nat.le_of_ble_eq_true rfl) (Nat.le_of_ble_eq_true rfl) ?_
      exact ⟨rfl, rfl⟩
abbrev hhL_heat : HHT := [(0, 9, 12, 54)]
theorem w_heat {l : Launch} (hf : l.stackTraces = false) {v0 : Int32} {o : (Nat → Int64) × (Nat → UInt64)} {k : Nat} {x : Int32} (hk : k ≤ 1) (A : V_X9_heat l [.ref 0, .int v0] (hp M (p, o)) (oc k x (fun _ => IOB) (hp M1 (p1, o)))) : VL l yL_heat cL_heat 4 hhL_heat 9 1 6 [.ref 0, .int v0, .ref 473] (hp M (p, o)) (wz k (x.toInt64) M1 p1 o) := by
  refine VL.intro (lf := L9 (some (.ref 0)) (some (.int v0)) (some (.ref 473)) none none none none none none) (by decide +kernel) hf (fun _ => (Nat.le_of_ble_eq_true rfl)) (fun _ => rfl) ?_
  refine R_aload_n dL_heat_0 rfl rfl ?_
  refine R_iconst (v := 0) dL_heat_1 (by decide) ?_
  refine R_aload_n dL_heat_2 rfl rfl ?_
  refine R_iload_n dL_heat_3 rfl rfl ?_
  refine R_callV (As := [.int v0]) cw_L_67 A dL_heat_4 rfl (hp_obj (c := 9) rfl (by decide)) (hp_lt (c := 9) rfl (by decide)) (by decide) (Nat.le_of_ble_eq_true rfl) (Nat.le_of_ble_eq_true rfl) rfl rfl (by decide) (fun v9 h9 hz => ?_) (fun E9 h9 hz => ?_)
  · by_cases k0 : k = 0
    · subst k0
      obtain ⟨e1, rfl⟩ := hz
      cases e1
      show Q l _ _ _ _ _ _ _ _ _ [.int x, .int 0, .ref 473] _ _ _
      refine R_i2l dL_heat_7 rfl ?_
      refine G_last dL_heat_8 (show vp_in (0 : Int32) 1 from nI_in12 (k := 0) (n := 1) (by omega) (by omega)) ?_
      refine R_goto (tgt := 15) dL_heat_9 rfl ?_
      refine R_iconst (v := 0) dL_heat_15 (by decide) ?_
      refine R_iretH dL_heat_16 (Nat.le_of_ble_eq_true rfl) (Nat.le_of_ble_eq_true rfl) ?_
      exact ⟨rfl, rfl⟩
    · exfalso
      first | rw [oc, if_neg k0] at hz | rw [if_neg k0] at hz
      cases hz.1
  · by_cases k0 : k = 0
    · subst k0
      cases hz.1
    · first | rw [oc, if_neg k0] at hz | rw [if_neg k0] at hz
      obtain ⟨e1, rfl⟩ := hz
      cases e1
      obtain rfl : k = 1 := by omega
      refine R_catch (pre := []) (x := ⟨0, 9, 12, 54⟩) (suf := []) (j := 3) rfl (fun z hz => by cases hz) (by decide) (by decide) lk_54 ct_IOB rfl (by decide) (Or.inl ⟨3, dL_heat_12, rfl, rfl⟩) ?_
      refine R_iconst (v := 1) dL_heat_13 (by decide) ?_
      refine R_iretH dL_heat_14 (Nat.le_of_ble_eq_true rfl) (Nat.le_of_ble_eq_true rfl) ?_
      exact ⟨rfl, rfl⟩
abbrev hhL_hottest : HHT := [(0, 8, 11, 65)]
theorem w_hottest {l : Launch} (hf : l.stackTraces = false) {o : (Nat → Int64) × (Nat → UInt64)} {k : Nat} {x : Int32} (hk : k ≤ 1) (A : V_X9_hottest l [.ref 0] (hp M (p, o)) (oc k x (fun _ => NSE) (hp M1 (p1, o)))) : VL l yL_hottest cL_hottest 3 hhL_hottest 9 1 6 [.ref 0, .ref 473] (hp M (p, o)) (wz k (x.toInt64) M1 p1 o) := by
  refine VL.intro (lf := L9 (some (.ref 0)) (some (.ref 473)) none none none none none none none) (by decide +kernel) hf (fun _ => (Nat.le_of_ble_eq_true rfl)) (fun _ => rfl) ?_
  refine R_aload_n dL_hottest_0 rfl rfl ?_
  refine R_iconst (v := 0) dL_hottest_1 (by decide) ?_
  refine R_aload_n dL_hottest_2 rfl rfl ?_
  refine R_callV (As := []) cw_L_92 A dL_hottest_3 rfl (hp_obj (c := 9) rfl (by decide)) (hp_lt (c := 9) rfl (by decide)) (by decide) (Nat.le_of_ble_eq_true rfl) (Nat.le_of_ble_eq_true rfl) rfl rfl (by decide) (fun v9 h9 hz => ?_) (fun E9 h9 hz => ?_)
  · by_cases k0 : k = 0
    · subst k0
      obtain ⟨e1, rfl⟩ := hz
      cases e1
      show Q l _ _ _ _ _ _ _ _ _ [.int x, .int 0, .ref 473] _ _ _
      refine R_i2l dL_hottest_6 rfl ?_
      refine G_last dL_hottest_7 (show vp_in (0 : Int32) 1 from nI_in12 (k := 0) (n := 1) (by omega) (by omega)) ?_
      refine R_goto (tgt := 14) dL_hottest_8 rfl ?_
      refine R_iconst (v := 0) dL_hottest_14 (by decide) ?_
      refine R_iretH dL_hottest_15 (Nat.le_of_ble_eq_true rfl) (Nat.le_of_ble_eq_true rfl) ?_
      exact ⟨rfl, rfl⟩
    · exfalso
      first | rw [oc, if_neg k0] at hz | rw [if_neg k0] at hz
      cases hz.1
  · by_cases k0 : k = 0
    · subst k0
      cases hz.1
    · first | rw [oc, if_neg k0] at hz | rw [if_neg k0] at hz
      obtain ⟨e1, rfl⟩ := hz
      cases e1
      obtain rfl : k = 1 := by omega
      refine R_catch (pre := []) (x := ⟨0, 8, 11, 65⟩) (suf := []) (j := 2) rfl (fun z hz => by cases hz) (by decide) (by decide) lk_65 ct_NSE rfl (by decide) (Or.inl ⟨2, dL_hottest_11, rfl, rfl⟩) ?_
      refine R_iconst (v := 1) dL_hottest_12 (by decide) ?_
      refine R_iretH dL_hottest_13 (Nat.le_of_ble_eq_true rfl) (Nat.le_of_ble_eq_true rfl) ?_
      exact ⟨rfl, rfl⟩
abbrev hhL_hours : HHT := [(0, 9, 12, 13)]
theorem w_hours {l : Launch} (hf : l.stackTraces = false) {v0 : Int32} {o : (Nat → Int64) × (Nat → UInt64)} {k : Nat} {x : Int32} (hk : k ≤ 1) (A : V_X9_hours l [.ref 0, .int v0] (hp M (p, o)) (oc k x (fun _ => UOE) (hp M1 (p1, o)))) : VL l yL_hours cL_hours 4 hhL_hours 9 1 6 [.ref 0, .int v0, .ref 473] (hp M (p, o)) (wz k (x.toInt64) M1 p1 o) := by
  refine VL.intro (lf := L9 (some (.ref 0)) (some (.int v0)) (some (.ref 473)) none none none none none none) (by decide +kernel) hf (fun _ => (Nat.le_of_ble_eq_true rfl)) (fun _ => rfl) ?_
  refine R_aload_n dL_hours_0 rfl rfl ?_
  refine R_iconst (v := 0) dL_hours_1 (by decide) ?_
  refine R_aload_n dL_hours_2 rfl rfl ?_
  refine R_iload_n dL_hours_3 rfl rfl ?_
  refine R_callV (As := [.int v0]) cw_L_41 A dL_hours_4 rfl (hp_obj (c := 9) rfl (by decide)) (hp_lt (c := 9) rfl (by decide)) (by decide) (Nat.le_of_ble_eq_true rfl) (Nat.le_of_ble_eq_true rfl) rfl rfl (by decide) (fun v9 h9 hz => ?_) (fun E9 h9 hz => ?_)
  · by_cases k0 : k = 0
    · subst k0
      obtain ⟨e1, rfl⟩ := hz
      cases e1
      show Q l _ _ _ _ _ _ _ _ _ [.int x, .int 0, .ref 473] _ _ _
      refine R_i2l dL_hours_7 rfl ?_
      refine G_last dL_hours_8 (show vp_in (0 : Int32) 1 from nI_in12 (k := 0) (n := 1) (by omega) (by omega)) ?_
      refine R_goto (tgt := 15) dL_hours_9 rfl ?_
      refine R_iconst (v := 0) dL_hours_15 (by decide) ?_
      refine R_iretH dL_hours_16 (Nat.le_of_ble_eq_true rfl) (Nat.le_of_ble_eq_true rfl) ?_
      exact ⟨rfl, rfl⟩
    · exfalso
      first | rw [oc, if_neg k0] at hz | rw [if_neg k0] at hz
      cases hz.1
  · by_cases k0 : k = 0
    · subst k0
      cases hz.1
    · first | rw [oc, if_neg k0] at hz | rw [if_neg k0] at hz
      obtain ⟨e1, rfl⟩ := hz
      cases e1
      obtain rfl : k = 1 := by omega
      refine R_catch (pre := []) (x := ⟨0, 9, 12, 13⟩) (suf := []) (j := 3) rfl (fun z hz => by cases hz) (by decide) (by decide) lk_13 ct_UOE rfl (by decide) (Or.inl ⟨3, dL_hours_12, rfl, rfl⟩) ?_
      refine R_iconst (v := 1) dL_hours_13 (by decide) ?_
      refine R_iretH dL_hours_14 (Nat.le_of_ble_eq_true rfl) (Nat.le_of_ble_eq_true rfl) ?_
      exact ⟨rfl, rfl⟩
abbrev hhL_isCrowded : HHT := [(0, 16, 19, 54)]
theorem w_isCrowded {l : Launch} (hf : l.stackTraces = false) {v0 : Int32} {o : (Nat → Int64) × (Nat → UInt64)} {k : Nat} {x : Int32} (hk : k ≤ 1) (A : V_X9_isCrowded l [.ref 0, .int v0] (hp M (p, o)) (oc k x (fun _ => IOB) (hp M1 (p1, o)))) : VL l yL_isCrowded cL_isCrowded 4 hhL_isCrowded 9 1 6 [.ref 0, .int v0, .ref 473] (hp M (p, o)) (wz k (if x = 0 then 0 else 1) M1 p1 o) := by
  refine VL.intro (lf := L9 (some (.ref 0)) (some (.int v0)) (some (.ref 473)) none none none none none none) (by decide +kernel) hf (fun _ => (Nat.le_of_ble_eq_true rfl)) (fun _ => rfl) ?_
  refine R_aload_n dL_isCrowded_0 rfl rfl ?_
  refine R_iconst (v := 0) dL_isCrowded_1 (by decide) ?_
  refine R_aload_n dL_isCrowded_2 rfl rfl ?_
  refine R_iload_n dL_isCrowded_3 rfl rfl ?_
  refine R_callV (As := [.int v0]) cw_L_73 A dL_isCrowded_4 rfl (hp_obj (c := 9) rfl (by decide)) (hp_lt (c := 9) rfl (by decide)) (by decide) (Nat.le_of_ble_eq_true rfl) (Nat.le_of_ble_eq_true rfl) rfl rfl (by decide) (fun v9 h9 hz => ?_) (fun E9 h9 hz => ?_)
  · by_cases k0 : k = 0
    · subst k0
      obtain ⟨e1, rfl⟩ := hz
      cases e1
      show Q l _ _ _ _ _ _ _ _ _ [.int x, .int 0, .ref 473] _ _ _
      by_cases x0 : x = 0
      · refine R_if_eq_t (tgt := 14) dL_isCrowded_7 rfl x0 ?_
        rw [if_pos x0]
        refine R_lconst (v := 0) dL_isCrowded_14 rfl ?_
        refine G_last dL_isCrowded_15 (show vp_in (0 : Int32) 1 from nI_in12 (k := 0) (n := 1) (by omega) (by omega)) ?_
        refine R_goto (tgt := 22) dL_isCrowded_16 rfl ?_
        refine R_iconst (v := 0) dL_isCrowded_22 (by decide) ?_
        refine R_iretH dL_isCrowded_23 (Nat.le_of_ble_eq_true rfl) (Nat.le_of_ble_eq_true rfl) ?_
        exact ⟨rfl, rfl⟩
      · refine R_if_eq_f (tgt := 14) dL_isCrowded_7 rfl x0 ?_
        rw [if_neg x0]
        refine R_lconst (v := 1) dL_isCrowded_10 rfl ?_
        refine R_goto (tgt := 15) dL_isCrowded_11 rfl ?_
        refine G_last dL_isCrowded_15 (show vp_in (0 : Int32) 1 from nI_in12 (k := 0) (n := 1) (by omega) (by omega)) ?_
        refine R_goto (tgt := 22) dL_isCrowded_16 rfl ?_
        refine R_iconst (v := 0) dL_isCrowded_22 (by decide) ?_
        refine R_iretH dL_isCrowded_23 (Nat.le_of_ble_eq_true rfl) (Nat.le_of_ble_eq_true rfl) ?_
        exact ⟨rfl, rfl⟩
    · exfalso
      first | rw [oc, if_neg k0] at hz | rw [if_neg k0] at hz
      cases hz.1
  · by_cases k0 : k = 0
    · subst k0
      cases hz.1
    · first | rw [oc, if_neg k0] at hz | rw [if_neg k0] at hz
      obtain ⟨e1, rfl⟩ := hz
      cases e1
      obtain rfl : k = 1 := by omega
      refine R_catch (pre := []) (x := ⟨0, 16, 19, 54⟩) (suf := []) (j := 3) rfl (fun z hz => by cases hz) (by decide) (by decide) lk_54 ct_IOB rfl (by decide) (Or.inl ⟨3, dL_isCrowded_19, rfl, rfl⟩) ?_
      refine R_iconst (v := 1) dL_isCrowded_20 (by decide) ?_
      refine R_iretH dL_isCrowded_21 (Nat.le_of_ble_eq_true rfl) (Nat.le_of_ble_eq_true rfl) ?_
      exact ⟨rfl, rfl⟩
abbrev hhL_isDone : HHT := [(0, 16, 19, 54)]
theorem w_isDone {l : Launch} (hf : l.stackTraces = false) {v0 : Int32} {o : (Nat → Int64) × (Nat → UInt64)} {k : Nat} {x : Int32} (hk : k ≤ 1) (A : V_X9_isDone l [.ref 0, .int v0] (hp M (p, o)) (oc k x (fun _ => IOB) (hp M1 (p1, o)))) : VL l yL_isDone cL_isDone 4 hhL_isDone 9 1 6 [.ref 0, .int v0, .ref 473] (hp M (p, o)) (wz k (if x = 0 then 0 else 1) M1 p1 o) := by
  refine VL.intro (lf := L9 (some (.ref 0)) (some (.int v0)) (some (.ref 473)) none none none none none none) (by decide +kernel) hf (fun _ => (Nat.le_of_ble_eq_true rfl)) (fun _ => rfl) ?_
  refine R_aload_n dL_isDone_0 rfl rfl ?_
  refine R_iconst (v := 0) dL_isDone_1 (by decide) ?_
  refine R_aload_n dL_isDone_2 rfl rfl ?_
  refine R_iload_n dL_isDone_3 rfl rfl ?_
  refine R_callV (As := [.int v0]) cw_L_77 A dL_isDone_4 rfl (hp_obj (c := 9) rfl (by decide)) (hp_lt (c := 9) rfl (by decide)) (by decide) (Nat.le_of_ble_eq_true rfl) (Nat.le_of_ble_eq_true rfl) rfl rfl (by decide) (fun v9 h9 hz => ?_) (fun E9 h9 hz => ?_)
  · by_cases k0 : k = 0
    · subst k0
      obtain ⟨e1, rfl⟩ := hz
      cases e1
      show Q l _ _ _ _ _ _ _ _ _ [.int x, .int 0, .ref 473] _ _ _
      by_cases x0 : x = 0
      · refine R_if_eq_t (tgt := 14) dL_isDone_7 rfl x0 ?_
        rw [if_pos x0]
        refine R_lconst (v := 0) dL_isDone_14 rfl ?_
        refine G_last dL_isDone_15 (show vp_in (0 : Int32) 1 from nI_in12 (k := 0) (n := 1) (by omega) (by omega)) ?_
        refine R_goto (tgt := 22) dL_isDone_16 rfl ?_
        refine R_iconst (v := 0) dL_isDone_22 (by decide) ?_
        refine R_iretH dL_isDone_23 (Nat.le_of_ble_eq_true rfl) (Nat.le_of_ble_eq_true rfl) ?_
        exact ⟨rfl, rfl⟩
      · refine R_if_eq_f (tgt := 14) dL_isDone_7 rfl x0 ?_
        rw [if_neg x0]
        refine R_lconst (v := 1) dL_isDone_10 rfl ?_
        refine R_goto (tgt := 15) dL_isDone_11 rfl ?_
        refine G_last dL_isDone_15 (show vp_in (0 : Int32) 1 from nI_in12 (k := 0) (n := 1) (by omega) (by omega)) ?_
        refine R_goto (tgt := 22) dL_isDone_16 rfl ?_
        refine R_iconst (v := 0) dL_isDone_22 (by decide) ?_
        refine R_iretH dL_isDone_23 (Nat.le_of_ble_eq_true rfl) (Nat.le_of_ble_eq_true rfl) ?_
        exact ⟨rfl, rfl⟩
    · exfalso
      first | rw [oc, if_neg k0] at hz | rw [if_neg k0] at hz
      cases hz.1
  · by_cases k0 : k = 0
    · subst k0
      cases hz.1
    · first | rw [oc, if_neg k0] at hz | rw [if_neg k0] at hz
      obtain ⟨e1, rfl⟩ := hz
      cases e1
      obtain rfl : k = 1 := by omega
      refine R_catch (pre := []) (x := ⟨0, 16, 19, 54⟩) (suf := []) (j := 3) rfl (fun z hz => by cases hz) (by decide) (by decide) lk_54 ct_IOB rfl (by decide) (Or.inl ⟨3, dL_isDone_19, rfl, rfl⟩) ?_
      refine R_iconst (v := 1) dL_isDone_20 (by decide) ?_
      refine R_iretH dL_isDone_21 (Nat.le_of_ble_eq_true rfl) (Nat.le_of_ble_eq_true rfl) ?_
      exact ⟨rfl, rfl⟩
abbrev hhL_line : HHT := [(0, 9, 12, 54)]
theorem w_line {l : Launch} (hf : l.stackTraces = false) {v0 : Int32} {o : (Nat → Int64) × (Nat → UInt64)} {k : Nat} {x : Int32} (hk : k ≤ 1) (A : V_X9_line l [.ref 0, .int v0] (hp M (p, o)) (oc k x (fun _ => IOB) (hp M1 (p1, o)))) : VL l yL_line cL_line 4 hhL_line 9 1 6 [.ref 0, .int v0, .ref 473] (hp M (p, o)) (wz k (x.toInt64) M1 p1 o) := by
  refine VL.intro (lf := L9 (some (.ref 0)) (some (.int v0)) (some (.ref 473)) none none none none none none) (by decide +kernel) hf (fun _ => (Nat.le_of_ble_eq_true rfl)) (fun _ => rfl) ?_
  refine R_aload_n dL_line_0 rfl rfl ?_
  refine R_iconst (v := 0) dL_line_1 (by decide) ?_
  refine R_aload_n dL_line_2 rfl rfl ?_
  refine R_iload_n dL_line_3 rfl rfl ?_
  refine R_callV (As := [.int v0]) cw_L_116 A dL_line_4 rfl (hp_obj (c := 9) rfl (by decide)) (hp_lt (c := 9) rfl (by decide)) (by decide) (Nat.le_of_ble_eq_true rfl) (Nat.le_of_ble_eq_true rfl) rfl rfl (by decide) (fun v9 h9 hz => ?_) (fun E9 h9 hz => ?_)
  · by_cases k0 : k = 0
    · subst k0
      obtain ⟨e1, rfl⟩ := hz
      cases e1
      show Q l _ _ _ _ _ _ _ _ _ [.int x, .int 0, .ref 473] _ _ _
      refine R_i2l dL_line_7 rfl ?_
      refine G_last dL_line_8 (show vp_in (0 : Int32) 1 from nI_in12 (k := 0) (n := 1) (by omega) (by omega)) ?_
      refine R_goto (tgt := 15) dL_line_9 rfl ?_
      refine R_iconst (v := 0) dL_line_15 (by decide) ?_
      refine R_iretH dL_line_16 (Nat.le_of_ble_eq_true rfl) (Nat.le_of_ble_eq_true rfl) ?_
      exact ⟨rfl, rfl⟩
    · exfalso
      first | rw [oc, if_neg k0] at hz | rw [if_neg k0] at hz
      cases hz.1
  · by_cases k0 : k = 0
    · subst k0
      cases hz.1
    · first | rw [oc, if_neg k0] at hz | rw [if_neg k0] at hz
      obtain ⟨e1, rfl⟩ := hz
      cases e1
      obtain rfl : k = 1 := by omega
      refine R_catch (pre := []) (x := ⟨0, 9, 12, 54⟩) (suf := []) (j := 3) rfl (fun z hz => by cases hz) (by decide) (by decide) lk_54 ct_IOB rfl (by decide) (Or.inl ⟨3, dL_line_12, rfl, rfl⟩) ?_
      refine R_iconst (v := 1) dL_line_13 (by decide) ?_
      refine R_iretH dL_line_14 (Nat.le_of_ble_eq_true rfl) (Nat.le_of_ble_eq_true rfl) ?_
      exact ⟨rfl, rfl⟩
abbrev hhL_logs : HHT := [(0, 9, 12, 13)]
theorem w_logs {l : Launch} (hf : l.stackTraces = false) {v0 : Int32} {o : (Nat → Int64) × (Nat → UInt64)} {k : Nat} {x : Int32} (hk : k ≤ 1) (A : V_X9_logs l [.ref 0, .int v0] (hp M (p, o)) (oc k x (fun _ => UOE) (hp M1 (p1, o)))) : VL l yL_logs cL_logs 4 hhL_logs 9 1 6 [.ref 0, .int v0, .ref 473] (hp M (p, o)) (wz k (x.toInt64) M1 p1 o) := by
  refine VL.intro (lf := L9 (some (.ref 0)) (some (.int v0)) (some (.ref 473)) none none none none none none) (by decide +kernel) hf (fun _ => (Nat.le_of_ble_eq_true rfl)) (fun _ => rfl) ?_
  refine R_aload_n dL_logs_0 rfl rfl ?_
  refine R_iconst (v := 0) dL_logs_1 (by decide) ?_
  refine R_aload_n dL_logs_2 rfl rfl ?_
  refine R_iload_n dL_logs_3 rfl rfl ?_
  refine R_callV (As := [.int v0]) cw_L_31 A dL_logs_4 rfl (hp_obj (c := 9) rfl (by decide)) (hp_lt (c := 9) rfl (by decide)) (by decide) (Nat.le_of_ble_eq_true rfl) (Nat.le_of_ble_eq_true rfl) rfl rfl (by decide) (fun v9 h9 hz => ?_) (fun E9 h9 hz => ?_)
  · by_cases k0 : k = 0
    · subst k0
      obtain ⟨e1, rfl⟩ := hz
      cases e1
      show Q l _ _ _ _ _ _ _ _ _ [.int x, .int 0, .ref 473] _ _ _
      refine R_i2l dL_logs_7 rfl ?_
      refine G_last dL_logs_8 (show vp_in (0 : Int32) 1 from nI_in12 (k := 0) (n := 1) (by omega) (by omega)) ?_
      refine R_goto (tgt := 15) dL_logs_9 rfl ?_
      refine R_iconst (v := 0) dL_logs_15 (by decide) ?_
      refine R_iretH dL_logs_16 (Nat.le_of_ble_eq_true rfl) (Nat.le_of_ble_eq_true rfl) ?_
      exact ⟨rfl, rfl⟩
    · exfalso
      first | rw [oc, if_neg k0] at hz | rw [if_neg k0] at hz
      cases hz.1
  · by_cases k0 : k = 0
    · subst k0
      cases hz.1
    · first | rw [oc, if_neg k0] at hz | rw [if_neg k0] at hz
      obtain ⟨e1, rfl⟩ := hz
      cases e1
      obtain rfl : k = 1 := by omega
      refine R_catch (pre := []) (x := ⟨0, 9, 12, 13⟩) (suf := []) (j := 3) rfl (fun z hz => by cases hz) (by decide) (by decide) lk_13 ct_UOE rfl (by decide) (Or.inl ⟨3, dL_logs_12, rfl, rfl⟩) ?_
      refine R_iconst (v := 1) dL_logs_13 (by decide) ?_
      refine R_iretH dL_logs_14 (Nat.le_of_ble_eq_true rfl) (Nat.le_of_ble_eq_true rfl) ?_
      exact ⟨rfl, rfl⟩
abbrev hhL_meanSmoke : HHT := [(0, 8, 11, 126)]
theorem w_meanSmoke {l : Launch} (hf : l.stackTraces = false) {o : (Nat → Int64) × (Nat → UInt64)} {k : Nat} {x : Int32} (hk : k ≤ 1) (A : V_X9_meanSmoke l [.ref 0] (hp M (p, o)) (oc k x (fun _ => ARE) (hp M1 (p1, o)))) : VL l yL_meanSmoke cL_meanSmoke 3 hhL_meanSmoke 8 1 6 [.ref 0, .ref 473] (hp M (p, o)) (wz k (x.toInt64) M1 p1 o) := by
  refine VL.intro (lf := L9 (some (.ref 0)) (some (.ref 473)) none none none none none none none) (by decide +kernel) hf (fun _ => (Nat.le_of_ble_eq_true rfl)) (fun _ => rfl) ?_
  refine R_aload_n dL_meanSmoke_0 rfl rfl ?_
  refine R_iconst (v := 0) dL_meanSmoke_1 (by decide) ?_
  refine R_aload_n dL_meanSmoke_2 rfl rfl ?_
  refine R_callV (As := []) cw_L_123 A dL_meanSmoke_3 rfl (hp_obj (c := 9) rfl (by decide)) (hp_lt (c := 9) rfl (by decide)) (by decide) (Nat.le_of_ble_eq_true rfl) (Nat.le_of_ble_eq_true rfl) rfl rfl (by decide) (fun v9 h9 hz => ?_) (fun E9 h9 hz => ?_)
  · by_cases k0 : k = 0
    · subst k0
      obtain ⟨e1, rfl⟩ := hz
      cases e1
      show Q l _ _ _ _ _ _ _ _ _ [.int x, .int 0, .ref 473] _ _ _
      refine R_i2l dL_meanSmoke_6 rfl ?_
      refine G_last dL_meanSmoke_7 (show vp_in (0 : Int32) 1 from nI_in12 (k := 0) (n := 1) (by omega) (by omega)) ?_
      refine R_goto (tgt := 14) dL_meanSmoke_8 rfl ?_
      refine R_iconst (v := 0) dL_meanSmoke_14 (by decide) ?_
      refine R_iretH dL_meanSmoke_15 (Nat.le_of_ble_eq_true rfl) (Nat.le_of_ble_eq_true rfl) ?_
      exact ⟨rfl, rfl⟩
    · exfalso
      first | rw [oc, if_neg k0] at hz | rw [if_neg k0] at hz
      cases hz.1
  · by_cases k0 : k = 0
    · subst k0
      cases hz.1
    · first | rw [oc, if_neg k0] at hz | rw [if_neg k0] at hz
      obtain ⟨e1, rfl⟩ := hz
      cases e1
      obtain rfl : k = 1 := by omega
      refine R_catch (pre := []) (x := ⟨0, 8, 11, 126⟩) (suf := []) (j := 2) rfl (fun z hz => by cases hz) (by decide) (by decide) lk_126 ct_ARE rfl (by decide) (Or.inl ⟨2, dL_meanSmoke_11, rfl, rfl⟩) ?_
      refine R_iconst (v := 1) dL_meanSmoke_12 (by decide) ?_
      refine R_iretH dL_meanSmoke_13 (Nat.le_of_ble_eq_true rfl) (Nat.le_of_ble_eq_true rfl) ?_
      exact ⟨rfl, rfl⟩
abbrev hhL_nearest : HHT := [(0, 9, 12, 54), (0, 9, 15, 65)]
theorem w_nearest {l : Launch} (hf : l.stackTraces = false) {v0 : Int32} {o : (Nat → Int64) × (Nat → UInt64)} {k : Nat} {x : Int32} (hk : k ≤ 2) (A : V_X9_nearest l [.ref 0, .int v0] (hp M (p, o)) (oc k x (EE IOB NSE) (hp M1 (p1, o)))) : VL l yL_nearest cL_nearest 4 hhL_nearest 9 2 12 [.ref 0, .int v0, .ref 473] (hp M (p, o)) (wz k (x.toInt64) M1 p1 o) := by
  refine VL.intro (lf := L9 (some (.ref 0)) (some (.int v0)) (some (.ref 473)) none none none none none none) (by decide +kernel) hf (fun _ => (Nat.le_of_ble_eq_true rfl)) (fun _ => rfl) ?_
  refine R_aload_n dL_nearest_0 rfl rfl ?_
  refine R_iconst (v := 0) dL_nearest_1 (by decide) ?_
  refine R_aload_n dL_nearest_2 rfl rfl ?_
  refine R_iload_n dL_nearest_3 rfl rfl ?_
  refine R_callV (As := [.int v0]) cw_L_70 A dL_nearest_4 rfl (hp_obj (c := 9) rfl (by decide)) (hp_lt (c := 9) rfl (by decide)) (by decide) (Nat.le_of_ble_eq_true rfl) (Nat.le_of_ble_eq_true rfl) rfl rfl (by decide) (fun v9 h9 hz => ?_) (fun E9 h9 hz => ?_)
  · by_cases k0 : k = 0
    · subst k0
      obtain ⟨e1, rfl⟩ := hz
      cases e1
      show Q l _ _ _ _ _ _ _ _ _ [.int x, .int 0, .ref 473] _ _ _
      refine R_i2l dL_nearest_7 rfl ?_
      refine G_last dL_nearest_8 (show vp_in (0 : Int32) 1 from nI_in12 (k := 0) (n := 1) (by omega) (by omega)) ?_
      refine R_goto (tgt := 18) dL_nearest_9 rfl ?_
      refine R_iconst (v := 0) dL_nearest_18 (by decide) ?_
      refine R_iretH dL_nearest_19 (Nat.le_of_ble_eq_true rfl) (Nat.le_of_ble_eq_true rfl) ?_
      exact ⟨rfl, rfl⟩
    · exfalso
      first | rw [oc, if_neg k0] at hz | rw [if_neg k0] at hz
      cases hz.1
  · by_cases k0 : k = 0
    · subst k0
      cases hz.1
    · first | rw [oc, if_neg k0] at hz | rw [if_neg k0] at hz
      obtain ⟨e1, rfl⟩ := hz
      cases e1
      by_cases k1 : k = 1
      · subst k1
        refine R_catch (pre := []) (x := ⟨0, 9, 12, 54⟩) (suf := [⟨0, 9, 15, 65⟩]) (j := 3) rfl (fun z hz => by cases hz) (by decide) (by decide) lk_54 ct_IOB rfl (by decide) (Or.inl ⟨3, dL_nearest_12, rfl, rfl⟩) ?_
        refine R_iconst (v := 1) dL_nearest_13 (by decide) ?_
        refine R_iretH dL_nearest_14 (Nat.le_of_ble_eq_true rfl) (Nat.le_of_ble_eq_true rfl) ?_
        exact ⟨rfl, rfl⟩
      · obtain rfl : k = 2 := by omega
        refine R_catch (pre := [⟨0, 9, 12, 54⟩]) (x := ⟨0, 9, 15, 65⟩) (suf := []) (j := 3) rfl (fun z hz => by cases hz with | head => exact Or.inr ⟨by decide, _, lk_54, by decide⟩ | tail _ hz => cases hz) (by decide) (by decide) lk_65 ct_NSE rfl (by decide) (Or.inl ⟨3, dL_nearest_15, rfl, rfl⟩) ?_
        refine R_iconst (v := 2) dL_nearest_16 (by decide) ?_
        refine R_iretH dL_nearest_17 (Nat.le_of_ble_eq_true rfl) (Nat.le_of_ble_eq_true rfl) ?_
        exact ⟨rfl, rfl⟩
abbrev hhL_out : HHT := [(0, 9, 12, 13)]
theorem w_out {l : Launch} (hf : l.stackTraces = false) {v0 : Int32} {o : (Nat → Int64) × (Nat → UInt64)} {k : Nat} {x : Int32} (hk : k ≤ 1) (A : V_X9_out l [.ref 0, .int v0] (hp M (p, o)) (oc k x (fun _ => UOE) (hp M1 (p1, o)))) : VL l yL_out cL_out 4 hhL_out 9 1 6 [.ref 0, .int v0, .ref 473] (hp M (p, o)) (wz k (x.toInt64) M1 p1 o) := by
  refine VL.intro (lf := L9 (some (.ref 0)) (some (.int v0)) (some (.ref 473)) none none none none none none) (by decide +kernel) hf (fun _ => (Nat.le_of_ble_eq_true rfl)) (fun _ => rfl) ?_
  refine R_aload_n dL_out_0 rfl rfl ?_
  refine R_iconst (v := 0) dL_out_1 (by decide) ?_
  refine R_aload_n dL_out_2 rfl rfl ?_
  refine R_iload_n dL_out_3 rfl rfl ?_
  refine R_callV (As := [.int v0]) cw_L_18 A dL_out_4 rfl (hp_obj (c := 9) rfl (by decide)) (hp_lt (c := 9) rfl (by decide)) (by decide) (Nat.le_of_ble_eq_true rfl) (Nat.le_of_ble_eq_true rfl) rfl rfl (by decide) (fun v9 h9 hz => ?_) (fun E9 h9 hz => ?_)
  · by_cases k0 : k = 0
    · subst k0
      obtain ⟨e1, rfl⟩ := hz
      cases e1
      show Q l _ _ _ _ _ _ _ _ _ [.int x, .int 0, .ref 473] _ _ _
      refine R_i2l dL_out_7 rfl ?_
      refine G_last dL_out_8 (show vp_in (0 : Int32) 1 from nI_in12 (k := 0) (n := 1) (by omega) (by omega)) ?_
      refine R_goto (tgt := 15) dL_out_9 rfl ?_
      refine R_iconst (v := 0) dL_out_15 (by decide) ?_
      refine R_iretH dL_out_16 (Nat.le_of_ble_eq_true rfl) (Nat.le_of_ble_eq_true rfl) ?_
      exact ⟨rfl, rfl⟩
    · exfalso
      first | rw [oc, if_neg k0] at hz | rw [if_neg k0] at hz
      cases hz.1
  · by_cases k0 : k = 0
    · subst k0
      cases hz.1
    · first | rw [oc, if_neg k0] at hz | rw [if_neg k0] at hz
      obtain ⟨e1, rfl⟩ := hz
      cases e1
      obtain rfl : k = 1 := by omega
      refine R_catch (pre := []) (x := ⟨0, 9, 12, 13⟩) (suf := []) (j := 3) rfl (fun z hz => by cases hz) (by decide) (by decide) lk_13 ct_UOE rfl (by decide) (Or.inl ⟨3, dL_out_12, rfl, rfl⟩) ?_
      refine R_iconst (v := 1) dL_out_13 (by decide) ?_
      refine R_iretH dL_out_14 (Nat.le_of_ble_eq_true rfl) (Nat.le_of_ble_eq_true rfl) ?_
      exact ⟨rfl, rfl⟩
abbrev hhL_rack : HHT := [(0, 9, 12, 54)]
theorem w_rack {l : Launch} (hf : l.stackTraces = false) {v0 : Int32} {o : (Nat → Int64) × (Nat → UInt64)} {k : Nat} {x : Int32} (hk : k ≤ 1) (A : V_X9_rack l [.ref 0, .int v0] (hp M (p, o)) (oc k x (fun _ => IOB) (hp M1 (p1, o)))) : VL l yL_rack cL_rack 4 hhL_rack 9 1 6 [.ref 0, .int v0, .ref 473] (hp M (p, o)) (wz k (x.toInt64) M1 p1 o) := by
  refine VL.intro (lf := L9 (some (.ref 0)) (some (.int v0)) (some (.ref 473)) none none none none none none) (by decide +kernel) hf (fun _ => (Nat.le_of_ble_eq_true rfl)) (fun _ => rfl) ?_
  refine R_aload_n dL_rack_0 rfl rfl ?_
  refine R_iconst (v := 0) dL_rack_1 (by decide) ?_
  refine R_aload_n dL_rack_2 rfl rfl ?_
  refine R_iload_n dL_rack_3 rfl rfl ?_
  refine R_callV (As := [.int v0]) cw_L_113 A dL_rack_4 rfl (hp_obj (c := 9) rfl (by decide)) (hp_lt (c := 9) rfl (by decide)) (by decide) (Nat.le_of_ble_eq_true rfl) (Nat.le_of_ble_eq_true rfl) rfl rfl (by decide) (fun v9 h9 hz => ?_) (fun E9 h9 hz => ?_)
  · by_cases k0 : k = 0
    · subst k0
      obtain ⟨e1, rfl⟩ := hz
      cases e1
      show Q l _ _ _ _ _ _ _ _ _ [.int x, .int 0, .ref 473] _ _ _
      refine R_i2l dL_rack_7 rfl ?_
      refine G_last dL_rack_8 (show vp_in (0 : Int32) 1 from nI_in12 (k := 0) (n := 1) (by omega) (by omega)) ?_
      refine R_goto (tgt := 15) dL_rack_9 rfl ?_
      refine R_iconst (v := 0) dL_rack_15 (by decide) ?_
      refine R_iretH dL_rack_16 (Nat.le_of_ble_eq_true rfl) (Nat.le_of_ble_eq_true rfl) ?_
      exact ⟨rfl, rfl⟩
    · exfalso
      first | rw [oc, if_neg k0] at hz | rw [if_neg k0] at hz
      cases hz.1
  · by_cases k0 : k = 0
    · subst k0
      cases hz.1
    · first | rw [oc, if_neg k0] at hz | rw [if_neg k0] at hz
      obtain ⟨e1, rfl⟩ := hz
      cases e1
      obtain rfl : k = 1 := by omega
      refine R_catch (pre := []) (x := ⟨0, 9, 12, 54⟩) (suf := []) (j := 3) rfl (fun z hz => by cases hz) (by decide) (by decide) lk_54 ct_IOB rfl (by decide) (Or.inl ⟨3, dL_rack_12, rfl, rfl⟩) ?_
      refine R_iconst (v := 1) dL_rack_13 (by decide) ?_
      refine R_iretH dL_rack_14 (Nat.le_of_ble_eq_true rfl) (Nat.le_of_ble_eq_true rfl) ?_
      exact ⟨rfl, rfl⟩
abbrev hhL_ranked : HHT := [(0, 10, 13, 56), (0, 10, 17, 65)]
theorem w_ranked {l : Launch} (hf : l.stackTraces = false) {v0 v1 : Int32} {o : (Nat → Int64) × (Nat → UInt64)} {k : Nat} {x : Int32} (hk : k ≤ 2) (A : V_X9_ranked l [.ref 0, .int v0, .int v1] (hp M (p, o)) (oc k x (EE IAE NSE) (hp M1 (p1, o)))) : VL l yL_ranked cL_ranked 5 hhL_ranked 9 2 12 [.ref 0, .int v0, .int v1, .ref 473] (hp M (p, o)) (wz k (x.toInt64) M1 p1 o) := by
  refine VL.intro (lf := L9 (some (.ref 0)) (some (.int v0)) (some (.int v1)) (some (.ref 473)) none none none none none) (by decide +kernel) hf (fun _ => (Nat.le_of_ble_eq_true rfl)) (fun _ => rfl) ?_
  refine R_aload_n dL_ranked_0 rfl rfl ?_
  refine R_iconst (v := 0) dL_ranked_1 (by decide) ?_
  refine R_aload_n dL_ranked_2 rfl rfl ?_
  refine R_iload_n dL_ranked_3 rfl rfl ?_
  refine R_iload_n dL_ranked_4 rfl rfl ?_
  refine R_callV (As := [.int v0, .int v1]) cw_L_98 A dL_ranked_5 rfl (hp_obj (c := 9) rfl (by decide)) (hp_lt (c := 9) rfl (by decide)) (by decide) (Nat.le_of_ble_eq_true rfl) (Nat.le_of_ble_eq_true rfl) rfl rfl (by decide) (fun v9 h9 hz => ?_) (fun E9 h9 hz => ?_)
  · by_cases k0 : k = 0
    · subst k0
      obtain ⟨e1, rfl⟩ := hz
      cases e1
      show Q l _ _ _ _ _ _ _ _ _ [.int x, .int 0, .ref 473] _ _ _
      refine R_i2l dL_ranked_8 rfl ?_
      refine G_last dL_ranked_9 (show vp_in (0 : Int32) 1 from nI_in12 (k := 0) (n := 1) (by omega) (by omega)) ?_
      refine R_goto (tgt := 21) dL_ranked_10 rfl ?_
      refine R_iconst (v := 0) dL_ranked_21 (by decide) ?_
      refine R_iretH dL_ranked_22 (Nat.le_of_ble_eq_true rfl) (Nat.le_of_ble_eq_true rfl) ?_
      exact ⟨rfl, rfl⟩
    · exfalso
      first | rw [oc, if_neg k0] at hz | rw [if_neg k0] at hz
      cases hz.1
  · by_cases k0 : k = 0
    · subst k0
      cases hz.1
    · first | rw [oc, if_neg k0] at hz | rw [if_neg k0] at hz
      obtain ⟨e1, rfl⟩ := hz
      cases e1
      by_cases k1 : k = 1
      · subst k1
        refine R_catch (pre := []) (x := ⟨0, 10, 13, 56⟩) (suf := [⟨0, 10, 17, 65⟩]) (j := 4) rfl (fun z hz => by cases hz) (by decide) (by decide) lk_56 ct_IAE rfl (by decide) (Or.inr ⟨dL_ranked_13, rfl⟩) ?_
        refine R_iconst (v := 1) dL_ranked_15 (by decide) ?_
        refine R_iretH dL_ranked_16 (Nat.le_of_ble_eq_true rfl) (Nat.le_of_ble_eq_true rfl) ?_
        exact ⟨rfl, rfl⟩
      · obtain rfl : k = 2 := by omega
        refine R_catch (pre := [⟨0, 10, 13, 56⟩]) (x := ⟨0, 10, 17, 65⟩) (suf := []) (j := 4) rfl (fun z hz => by cases hz with | head => exact Or.inr ⟨by decide, _, lk_56, by decide⟩ | tail _ hz => cases hz) (by decide) (by decide) lk_65 ct_NSE rfl (by decide) (Or.inr ⟨dL_ranked_17, rfl⟩) ?_
        refine R_iconst (v := 2) dL_ranked_19 (by decide) ?_
        refine R_iretH dL_ranked_20 (Nat.le_of_ble_eq_true rfl) (Nat.le_of_ble_eq_true rfl) ?_
        exact ⟨rfl, rfl⟩
abbrev hhL_reason : HHT := [(0, 9, 12, 56), (0, 9, 15, 65)]
theorem w_reason {l : Launch} (hf : l.stackTraces = false) {v0 : Int32} {o : (Nat → Int64) × (Nat → UInt64)} {k : Nat} {x : Int32} (hk : k ≤ 2) (A : V_X9_reason l [.ref 0, .int v0] (hp M (p, o)) (oc k x (EE IAE NSE) (hp M1 (p1, o)))) : VL l yL_reason cL_reason 4 hhL_reason 8 1 6 [.ref 0, .int v0, .ref 473] (hp M (p, o)) (wz k (x.toInt64) M1 p1 o) := by
  refine VL.intro (lf := L9 (some (.ref 0)) (some (.int v0)) (some (.ref 473)) none none none none none none) (by decide +kernel) hf (fun _ => (Nat.le_of_ble_eq_true rfl)) (fun _ => rfl) ?_
  refine R_aload_n dL_reason_0 rfl rfl ?_
  refine R_iconst (v := 0) dL_reason_1 (by decide) ?_
  refine R_aload_n dL_reason_2 rfl rfl ?_
  refine R_iload_n dL_reason_3 rfl rfl ?_
  refine R_callV (As := [.int v0]) cw_L_110 A dL_reason_4 rfl (hp_obj (c := 9) rfl (by decide)) (hp_lt (c := 9) rfl (by decide)) (by decide) (Nat.le_of_ble_eq_true rfl) (Nat.le_of_ble_eq_true rfl) rfl rfl (by decide) (fun v9 h9 hz => ?_) (fun E9 h9 hz => ?_)
  · by_cases k0 : k = 0
    · subst k0
      obtain ⟨e1, rfl⟩ := hz
      cases e1
      show Q l _ _ _ _ _ _ _ _ _ [.int x, .int 0, .ref 473] _ _ _
      refine R_i2l dL_reason_7 rfl ?_
      refine G_last dL_reason_8 (show vp_in (0 : Int32) 1 from nI_in12 (k := 0) (n := 1) (by omega) (by omega)) ?_
      refine R_goto (tgt := 18) dL_reason_9 rfl ?_
      refine R_iconst (v := 0) dL_reason_18 (by decide) ?_
      refine R_iretH dL_reason_19 (Nat.le_of_ble_eq_true rfl) (Nat.le_of_ble_eq_true rfl) ?_
      exact ⟨rfl, rfl⟩
    · exfalso
      first | rw [oc, if_neg k0] at hz | rw [if_neg k0] at hz
      cases hz.1
  · by_cases k0 : k = 0
    · subst k0
      cases hz.1
    · first | rw [oc, if_neg k0] at hz | rw [if_neg k0] at hz
      obtain ⟨e1, rfl⟩ := hz
      cases e1
      by_cases k1 : k = 1
      · subst k1
        refine R_catch (pre := []) (x := ⟨0, 9, 12, 56⟩) (suf := [⟨0, 9, 15, 65⟩]) (j := 3) rfl (fun z hz => by cases hz) (by decide) (by decide) lk_56 ct_IAE rfl (by decide) (Or.inl ⟨3, dL_reason_12, rfl, rfl⟩) ?_
        refine R_iconst (v := 1) dL_reason_13 (by decide) ?_
        refine R_iretH dL_reason_14 (Nat.le_of_ble_eq_true rfl) (Nat.le_of_ble_eq_true rfl) ?_
        exact ⟨rfl, rfl⟩
      · obtain rfl : k = 2 := by omega
        refine R_catch (pre := [⟨0, 9, 12, 56⟩]) (x := ⟨0, 9, 15, 65⟩) (suf := []) (j := 3) rfl (fun z hz => by cases hz with | head => exact Or.inr ⟨by decide, _, lk_56, by decide⟩ | tail _ hz => cases hz) (by decide) (by decide) lk_65 ct_NSE rfl (by decide) (Or.inl ⟨3, dL_reason_15, rfl, rfl⟩) ?_
        refine R_iconst (v := 2) dL_reason_16 (by decide) ?_
        refine R_iretH dL_reason_17 (Nat.le_of_ble_eq_true rfl) (Nat.le_of_ble_eq_true rfl) ?_
        exact ⟨rfl, rfl⟩
abbrev hhL_restore : HHT := [(0, 8, 11, 105)]
theorem w_restore {l : Launch} (hf : l.stackTraces = false) {o : (Nat → Int64) × (Nat → UInt64)} {k : Nat} {x : Int32} (hk : k ≤ 1) (A : V_X9_restore l [.ref 0] (hp M (p, o)) (oc k x (fun _ => ISE) (hp M1 (p1, o)))) : VL l yL_restore cL_restore 3 hhL_restore 8 1 6 [.ref 0, .ref 473] (hp M (p, o)) (wz k (x.toInt64) M1 p1 o) := by
  refine VL.intro (lf := L9 (some (.ref 0)) (some (.ref 473)) none none none none none none none) (by decide +kernel) hf (fun _ => (Nat.le_of_ble_eq_true rfl)) (fun _ => rfl) ?_
  refine R_aload_n dL_restore_0 rfl rfl ?_
  refine R_iconst (v := 0) dL_restore_1 (by decide) ?_
  refine R_aload_n dL_restore_2 rfl rfl ?_
  refine R_callV (As := []) cw_L_138 A dL_restore_3 rfl (hp_obj (c := 9) rfl (by decide)) (hp_lt (c := 9) rfl (by decide)) (by decide) (Nat.le_of_ble_eq_true rfl) (Nat.le_of_ble_eq_true rfl) rfl rfl (by decide) (fun v9 h9 hz => ?_) (fun E9 h9 hz => ?_)
  · by_cases k0 : k = 0
    · subst k0
      obtain ⟨e1, rfl⟩ := hz
      cases e1
      show Q l _ _ _ _ _ _ _ _ _ [.int x, .int 0, .ref 473] _ _ _
      refine R_i2l dL_restore_6 rfl ?_
      refine G_last dL_restore_7 (show vp_in (0 : Int32) 1 from nI_in12 (k := 0) (n := 1) (by omega) (by omega)) ?_
      refine R_goto (tgt := 14) dL_restore_8 rfl ?_
      refine R_iconst (v := 0) dL_restore_14 (by decide) ?_
      refine R_iretH dL_restore_15 (Nat.le_of_ble_eq_true rfl) (Nat.le_of_ble_eq_true rfl) ?_
      exact ⟨rfl, rfl⟩
    · exfalso
      first | rw [oc, if_neg k0] at hz | rw [if_neg k0] at hz
      cases hz.1
  · by_cases k0 : k = 0
    · subst k0
      cases hz.1
    · first | rw [oc, if_neg k0] at hz | rw [if_neg k0] at hz
      obtain ⟨e1, rfl⟩ := hz
      cases e1
      obtain rfl : k = 1 := by omega
      refine R_catch (pre := []) (x := ⟨0, 8, 11, 105⟩) (suf := []) (j := 2) rfl (fun z hz => by cases hz) (by decide) (by decide) lk_105 ct_ISE rfl (by decide) (Or.inl ⟨2, dL_restore_11, rfl, rfl⟩) ?_
      refine R_iconst (v := 1) dL_restore_12 (by decide) ?_
      refine R_iretH dL_restore_13 (Nat.le_of_ble_eq_true rfl) (Nat.le_of_ble_eq_true rfl) ?_
      exact ⟨rfl, rfl⟩
abbrev hhL_sell : HHT := [(0, 9, 12, 13)]
theorem w_sell {l : Launch} (hf : l.stackTraces = false) {v0 : Int32} {o : (Nat → Int64) × (Nat → UInt64)} {k : Nat} {x : Int32} (hk : k ≤ 1) (A : V_X9_sell l [.ref 0, .int v0] (hp M (p, o)) (oc k x (fun _ => UOE) (hp M1 (p1, o)))) : VL l yL_sell cL_sell 4 hhL_sell 9 1 6 [.ref 0, .int v0, .ref 473] (hp M (p, o)) (wz k (x.toInt64) M1 p1 o) := by
  refine VL.intro (lf := L9 (some (.ref 0)) (some (.int v0)) (some (.ref 473)) none none none none none none) (by decide +kernel) hf (fun _ => (Nat.le_of_ble_eq_true rfl)) (fun _ => rfl) ?_
  refine R_aload_n dL_sell_0 rfl rfl ?_
  refine R_iconst (v := 0) dL_sell_1 (by decide) ?_
  refine R_aload_n dL_sell_2 rfl rfl ?_
  refine R_iload_n dL_sell_3 rfl rfl ?_
  refine R_callV (As := [.int v0]) cw_L_44 A dL_sell_4 rfl (hp_obj (c := 9) rfl (by decide)) (hp_lt (c := 9) rfl (by decide)) (by decide) (Nat.le_of_ble_eq_true rfl) (Nat.le_of_ble_eq_true rfl) rfl rfl (by decide) (fun v9 h9 hz => ?_) (fun E9 h9 hz => ?_)
  · by_cases k0 : k = 0
    · subst k0
      obtain ⟨e1, rfl⟩ := hz
      cases e1
      show Q l _ _ _ _ _ _ _ _ _ [.int x, .int 0, .ref 473] _ _ _
      refine R_i2l dL_sell_7 rfl ?_
      refine G_last dL_sell_8 (show vp_in (0 : Int32) 1 from nI_in12 (k := 0) (n := 1) (by omega) (by omega)) ?_
      refine R_goto (tgt := 15) dL_sell_9 rfl ?_
      refine R_iconst (v := 0) dL_sell_15 (by decide) ?_
      refine R_iretH dL_sell_16 (Nat.le_of_ble_eq_true rfl) (Nat.le_of_ble_eq_true rfl) ?_
      exact ⟨rfl, rfl⟩
    · exfalso
      first | rw [oc, if_neg k0] at hz | rw [if_neg k0] at hz
      cases hz.1
  · by_cases k0 : k = 0
    · subst k0
      cases hz.1
    · first | rw [oc, if_neg k0] at hz | rw [if_neg k0] at hz
      obtain ⟨e1, rfl⟩ := hz
      cases e1
      obtain rfl : k = 1 := by omega
      refine R_catch (pre := []) (x := ⟨0, 9, 12, 13⟩) (suf := []) (j := 3) rfl (fun z hz => by cases hz) (by decide) (by decide) lk_13 ct_UOE rfl (by decide) (Or.inl ⟨3, dL_sell_12, rfl, rfl⟩) ?_
      refine R_iconst (v := 1) dL_sell_13 (by decide) ?_
      refine R_iretH dL_sell_14 (Nat.le_of_ble_eq_true rfl) (Nat.le_of_ble_eq_true rfl) ?_
      exact ⟨rfl, rfl⟩
abbrev hhL_sideOf : HHT := [(0, 12, 15, 54), (0, 12, 19, 56)]
theorem w_sideOf {l : Launch} (hf : l.stackTraces = false) {v0 v1 v2 : Int32} {o : (Nat → Int64) × (Nat → UInt64)} {k : Nat} {x : Int32} (hk : k ≤ 2) (A : V_X9_sideOf l [.ref 0, .int v0, .int v1, .int v2] (hp M (p, o)) (oc k x (EE IOB IAE) (hp M1 (p1, o)))) : VL l yL_sideOf cL_sideOf 6 hhL_sideOf 9 2 12 [.ref 0, .int v0, .int v1, .int v2, .ref 473] (hp M (p, o)) (wz k (x.toInt64) M1 p1 o) := by
  refine VL.intro (lf := L9 (some (.ref 0)) (some (.int v0)) (some (.int v1)) (some (.int v2)) (some (.ref 473)) none none none none) (by decide +kernel) hf (fun _ => (Nat.le_of_ble_eq_true rfl)) (fun _ => rfl) ?_
  refine R_aload dL_sideOf_0 (by decide) rfl ?_
  refine R_iconst (v := 0) dL_sideOf_2 (by decide) ?_
  refine R_aload_n dL_sideOf_3 rfl rfl ?_
  refine R_iload_n dL_sideOf_4 rfl rfl ?_
  refine R_iload_n dL_sideOf_5 rfl rfl ?_
  refine R_iload_n dL_sideOf_6 rfl rfl ?_
  refine R_callV (As := [.int v0, .int v1, .int v2]) cw_L_58 A dL_sideOf_7 rfl (hp_obj (c := 9) rfl (by decide)) (hp_lt (c := 9) rfl (by decide)) (by decide) (Nat.le_of_ble_eq_true rfl) (Nat.le_of_ble_eq_true rfl) rfl rfl (by decide) (fun v9 h9 hz => ?_) (fun E9 h9 hz => ?_)
  · by_cases k0 : k = 0
    · subst k0
      obtain ⟨e1, rfl⟩ := hz
      cases e1
      show Q l _ _ _ _ _ _ _ _ _ [.int x, .int 0, .ref 473] _ _ _
      refine R_i2l dL_sideOf_10 rfl ?_
      refine G_last dL_sideOf_11 (show vp_in (0 : Int32) 1 from nI_in12 (k := 0) (n := 1) (by omega) (by omega)) ?_
      refine R_goto (tgt := 23) dL_sideOf_12 rfl ?_
      refine R_iconst (v := 0) dL_sideOf_23 (by decide) ?_
      refine R_iretH dL_sideOf_24 (Nat.le_of_ble_eq_true rfl) (Nat.le_of_ble_eq_true rfl) ?_
      exact ⟨rfl, rfl⟩
    · exfalso
      first | rw [oc, if_neg k0] at hz | rw [if_neg k0] at hz
      cases hz.1
  · by_cases k0 : k = 0
    · subst k0
      cases hz.1
    · first | rw [oc, if_neg k0] at hz | rw [if_neg k0] at hz
      obtain ⟨e1, rfl⟩ := hz
      cases e1
      by_cases k1 : k = 1
      · subst k1
        refine R_catch (pre := []) (x := ⟨0, 12, 15, 54⟩) (suf := [⟨0, 12, 19, 56⟩]) (j := 5) rfl (fun z hz => by cases hz) (by decide) (by decide) lk_54 ct_IOB rfl (by decide) (Or.inr ⟨dL_sideOf_15, rfl⟩) ?_
        refine R_iconst (v := 1) dL_sideOf_17 (by decide) ?_
        refine R_iretH dL_sideOf_18 (Nat.le_of_ble_eq_true rfl) (Nat.le_of_ble_eq_true rfl) ?_
        exact ⟨rfl, rfl⟩
      · obtain rfl : k = 2 := by omega
        refine R_catch (pre := [⟨0, 12, 15, 54⟩]) (x := ⟨0, 12, 19, 56⟩) (suf := []) (j := 5) rfl (fun z hz => by cases hz with | head => exact Or.inr ⟨by decide, _, lk_54, by decide⟩ | tail _ hz => cases hz) (by decide) (by decide) lk_56 ct_IAE rfl (by decide) (Or.inr ⟨dL_sideOf_19, rfl⟩) ?_
        refine R_iconst (v := 2) dL_sideOf_21 (by decide) ?_
        refine R_iretH dL_sideOf_22 (Nat.le_of_ble_eq_true rfl) (Nat.le_of_ble_eq_true rfl) ?_
        exact ⟨rfl, rfl⟩
abbrev hhL_throwAway : HHT := [(0, 9, 12, 13)]
theorem w_throwAway {l : Launch} (hf : l.stackTraces = false) {v0 : Int32} {o : (Nat → Int64) × (Nat → UInt64)} {k : Nat} {x : Int32} (hk : k ≤ 1) (A : V_X9_throwAway l [.ref 0, .int v0] (hp M (p, o)) (oc k x (fun _ => UOE) (hp M1 (p1, o)))) : VL l yL_throwAway cL_throwAway 4 hhL_throwAway 9 1 6 [.ref 0, .int v0, .ref 473] (hp M (p, o)) (wz k (x.toInt64) M1 p1 o) := by
  refine VL.intro (lf := L9 (some (.ref 0)) (some (.int v0)) (some (.ref 473)) none none none none none none) (by decide +kernel) hf (fun _ => (Nat.le_of_ble_eq_true rfl)) (fun _ => rfl) ?_
  refine R_aload_n dL_throwAway_0 rfl rfl ?_
  refine R_iconst (v := 0) dL_throwAway_1 (by decide) ?_
  refine R_aload_n dL_throwAway_2 rfl rfl ?_
  refine R_iload_n dL_throwAway_3 rfl rfl ?_
  refine R_callV (As := [.int v0]) cw_L_47 A dL_throwAway_4 rfl (hp_obj (c := 9) rfl (by decide)) (hp_lt (c := 9) rfl (by decide)) (by decide) (Nat.le_of_ble_eq_true rfl) (Nat.le_of_ble_eq_true rfl) rfl rfl (by decide) (fun v9 h9 hz => ?_) (fun E9 h9 hz => ?_)
  · by_cases k0 : k = 0
    · subst k0
      obtain ⟨e1, rfl⟩ := hz
      cases e1
      show Q l _ _ _ _ _ _ _ _ _ [.int x, .int 0, .ref 473] _ _ _
      refine R_i2l dL_throwAway_7 rfl ?_
      refine G_last dL_throwAway_8 (show vp_in (0 : Int32) 1 from nI_in12 (k := 0) (n := 1) (by omega) (by omega)) ?_
      refine R_goto (tgt := 15) dL_throwAway_9 rfl ?_
      refine R_iconst (v := 0) dL_throwAway_15 (by decide) ?_
      refine R_iretH dL_throwAway_16 (Nat.le_of_ble_eq_true rfl) (Nat.le_of_ble_eq_true rfl) ?_
      exact ⟨rfl, rfl⟩
    · exfalso
      first | rw [oc, if_neg k0] at hz | rw [if_neg k0] at hz
      cases hz.1
  · by_cases k0 : k = 0
    · subst k0
      cases hz.1
    · first | rw [oc, if_neg k0] at hz | rw [if_neg k0] at hz
      obtain ⟨e1, rfl⟩ := hz
      cases e1
      obtain rfl : k = 1 := by omega
      refine R_catch (pre := []) (x := ⟨0, 9, 12, 13⟩) (suf := []) (j := 3) rfl (fun z hz => by cases hz) (by decide) (by decide) lk_13 ct_UOE rfl (by decide) (Or.inl ⟨3, dL_throwAway_12, rfl, rfl⟩) ?_
      refine R_iconst (v := 1) dL_throwAway_13 (by decide) ?_
      refine R_iretH dL_throwAway_14 (Nat.le_of_ble_eq_true rfl) (Nat.le_of_ble_eq_true rfl) ?_
      exact ⟨rfl, rfl⟩
abbrev hhL_turn : HHT := [(0, 9, 12, 13)]
theorem w_turn {l : Launch} (hf : l.stackTraces = false) {v0 : Int32} {o : (Nat → Int64) × (Nat → UInt64)} {k : Nat} {x : Int32} (hk : k ≤ 1) (A : V_X9_turn l [.ref 0, .int v0] (hp M (p, o)) (oc k x (fun _ => UOE) (hp M1 (p1, o)))) : VL l yL_turn cL_turn 4 hhL_turn 9 1 6 [.ref 0, .int v0, .ref 473] (hp M (p, o)) (wz k (x.toInt64) M1 p1 o) := by
  refine VL.intro (lf := L9 (some (.ref 0)) (some (.int v0)) (some (.ref 473)) none none none none none none) (by decide +kernel) hf (fun _ => (Nat.le_of_ble_eq_true rfl)) (fun _ => rfl) ?_
  refine R_aload_n dL_turn_0 rfl rfl ?_
  refine R_iconst (v := 0) dL_turn_1 (by decide) ?_
  refine R_aload_n dL_turn_2 rfl rfl ?_
  refine R_iload_n dL_turn_3 rfl rfl ?_
  refine R_callV (As := [.int v0]) cw_L_25 A dL_turn_4 rfl (hp_obj (c := 9) rfl (by decide)) (hp_lt (c := 9) rfl (by decide)) (by decide) (Nat.le_of_ble_eq_true rfl) (Nat.le_of_ble_eq_true rfl) rfl rfl (by decide) (fun v9 h9 hz => ?_) (fun E9 h9 hz => ?_)
  · by_cases k0 : k = 0
    · subst k0
      obtain ⟨e1, rfl⟩ := hz
      cases e1
      show Q l _ _ _ _ _ _ _ _ _ [.int x, .int 0, .ref 473] _ _ _
      refine R_i2l dL_turn_7 rfl ?_
      refine G_last dL_turn_8 (show vp_in (0 : Int32) 1 from nI_in12 (k := 0) (n := 1) (by omega) (by omega)) ?_
      refine R_goto (tgt := 15) dL_turn_9 rfl ?_
      refine R_iconst (v := 0) dL_turn_15 (by decide) ?_
      refine R_iretH dL_turn_16 (Nat.le_of_ble_eq_true rfl) (Nat.le_of_ble_eq_true rfl) ?_
      exact ⟨rfl, rfl⟩
    · exfalso
      first | rw [oc, if_neg k0] at hz | rw [if_neg k0] at hz
      cases hz.1
  · by_cases k0 : k = 0
    · subst k0
      cases hz.1
    · first | rw [oc, if_neg k0] at hz | rw [if_neg k0] at hz
      obtain ⟨e1, rfl⟩ := hz
      cases e1
      obtain rfl : k = 1 := by omega
      refine R_catch (pre := []) (x := ⟨0, 9, 12, 13⟩) (suf := []) (j := 3) rfl (fun z hz => by cases hz) (by decide) (by decide) lk_13 ct_UOE rfl (by decide) (Or.inl ⟨3, dL_turn_12, rfl, rfl⟩) ?_
      refine R_iconst (v := 1) dL_turn_13 (by decide) ?_
      refine R_iretH dL_turn_14 (Nat.le_of_ble_eq_true rfl) (Nat.le_of_ble_eq_true rfl) ?_
      exact ⟨rfl, rfl⟩
abbrev hhL_turnAll : HHT := [(0, 9, 12, 13)]
theorem w_turnAll {l : Launch} (hf : l.stackTraces = false) {v0 : Int32} {o : (Nat → Int64) × (Nat → UInt64)} {k : Nat} {x : Int32} (hk : k ≤ 1) (A : V_X9_turnAll l [.ref 0, .int v0] (hp M (p, o)) (oc k x (fun _ => UOE) (hp M1 (p1, o)))) : VL l yL_turnAll cL_turnAll 4 hhL_turnAll 9 1 6 [.ref 0, .int v0, .ref 473] (hp M (p, o)) (wz k (x.toInt64) M1 p1 o) := by
  refine VL.intro (lf := L9 (some (.ref 0)) (some (.int v0)) (some (.ref 473)) none none none none none none) (by decide +kernel) hf (fun _ => (Nat.le_of_ble_eq_true rfl)) (fun _ => rfl) ?_
  refine R_aload_n dL_turnAll_0 rfl rfl ?_
  refine R_iconst (v := 0) dL_turnAll_1 (by decide) ?_
  refine R_aload_n dL_turnAll_2 rfl rfl ?_
  refine R_iload_n dL_turnAll_3 rfl rfl ?_
  refine R_callV (As := [.int v0]) cw_L_28 A dL_turnAll_4 rfl (hp_obj (c := 9) rfl (by decide)) (hp_lt (c := 9) rfl (by decide)) (by decide) (Nat.le_of_ble_eq_true rfl) (Nat.le_of_ble_eq_true rfl) rfl rfl (by decide) (fun v9 h9 hz => ?_) (fun E9 h9 hz => ?_)
  · by_cases k0 : k = 0
    · subst k0
      obtain ⟨e1, rfl⟩ := hz
      cases e1
      show Q l _ _ _ _ _ _ _ _ _ [.int x, .int 0, .ref 473] _ _ _
      refine R_i2l dL_turnAll_7 rfl ?_
      refine G_last dL_turnAll_8 (show vp_in (0 : Int32) 1 from nI_in12 (k := 0) (n := 1) (by omega) (by omega)) ?_
      refine R_goto (tgt := 15) dL_turnAll_9 rfl ?_
      refine R_iconst (v := 0) dL_turnAll_15 (by decide) ?_
      refine R_iretH dL_turnAll_16 (Nat.le_of_ble_eq_true rfl) (Nat.le_of_ble_eq_true rfl) ?_
      exact ⟨rfl, rfl⟩
    · exfalso
      first | rw [oc, if_neg k0] at hz | rw [if_neg k0] at hz
      cases hz.1
  · by_cases k0 : k = 0
    · subst k0
      cases hz.1
    · first | rw [oc, if_neg k0] at hz | rw [if_neg k0] at hz
      obtain ⟨e1, rfl⟩ := hz
      cases e1
      obtain rfl : k = 1 := by omega
      refine R_catch (pre := []) (x := ⟨0, 9, 12, 13⟩) (suf := []) (j := 3) rfl (fun z hz => by cases hz) (by decide) (by decide) lk_13 ct_UOE rfl (by decide) (Or.inl ⟨3, dL_turnAll_12, rfl, rfl⟩) ?_
      refine R_iconst (v := 1) dL_turnAll_13 (by decide) ?_
      refine R_iretH dL_turnAll_14 (Nat.le_of_ble_eq_true rfl) (Nat.le_of_ble_eq_true rfl) ?_
      exact ⟨rfl, rfl⟩
abbrev hhL_undo : HHT := [(0, 8, 11, 105)]
theorem w_undo {l : Launch} (hf : l.stackTraces = false) {o : (Nat → Int64) × (Nat → UInt64)} {k : Nat} {x : Int32} (hk : k ≤ 1) (A : V_X9_undo l [.ref 0] (hp M (p, o)) (oc k x (fun _ => ISE) (hp M1 (p1, o)))) : VL l yL_undo cL_undo 3 hhL_undo 8 1 6 [.ref 0, .ref 473] (hp M (p, o)) (wz k (x.toInt64) M1 p1 o) := by
  refine VL.intro (lf := L9 (some (.ref 0)) (some (.ref 473)) none none none none none none none) (by decide +kernel) hf (fun _ => (Nat.le_of_ble_eq_true rfl)) (fun _ => rfl) ?_
  refine R_aload_n dL_undo_0 rfl rfl ?_
  refine R_iconst (v := 0) dL_undo_1 (by decide) ?_
  refine R_aload_n dL_undo_2 rfl rfl ?_
  refine R_callV (As := []) cw_L_135 A dL_undo_3 rfl (hp_obj (c := 9) rfl (by decide)) (hp_lt (c := 9) rfl (by decide)) (by decide) (Nat.le_of_ble_eq_true rfl) (Nat.le_of_ble_eq_true rfl) rfl rfl (by decide) (fun v9 h9 hz => ?_) (fun E9 h9 hz => ?_)
  · by_cases k0 : k = 0
    · subst k0
      obtain ⟨e1, rfl⟩ := hz
      cases e1
      show Q l _ _ _ _ _ _ _ _ _ [.int x, .int 0, .ref 473] _ _ _
      refine R_i2l dL_undo_6 rfl ?_
      refine G_last dL_undo_7 (show vp_in (0 : Int32) 1 from nI_in12 (k := 0) (n := 1) (by omega) (by omega)) ?_
      refine R_goto (tgt := 14) dL_undo_8 rfl ?_
      refine R_iconst (v := 0) dL_undo_14 (by decide) ?_
      refine R_iretH dL_undo_15 (Nat.le_of_ble_eq_true rfl) (Nat.le_of_ble_eq_true rfl) ?_
      exact ⟨rfl, rfl⟩
    · exfalso
      first | rw [oc, if_neg k0] at hz | rw [if_neg k0] at hz
      cases hz.1
  · by_cases k0 : k = 0
    · subst k0
      cases hz.1
    · first | rw [oc, if_neg k0] at hz | rw [if_neg k0] at hz
      obtain ⟨e1, rfl⟩ := hz
      cases e1
      obtain rfl : k = 1 := by omega
      refine R_catch (pre := []) (x := ⟨0, 8, 11, 105⟩) (suf := []) (j := 2) rfl (fun z hz => by cases hz) (by decide) (by decide) lk_105 ct_ISE rfl (by decide) (Or.inl ⟨2, dL_undo_11, rfl, rfl⟩) ?_
      refine R_iconst (v := 1) dL_undo_12 (by decide) ?_
      refine R_iretH dL_undo_13 (Nat.le_of_ble_eq_true rfl) (Nat.le_of_ble_eq_true rfl) ?_
      exact ⟨rfl, rfl⟩
abbrev hhL_wood : HHT := [(0, 9, 12, 13)]
theorem w_wood {l : Launch} (hf : l.stackTraces = false) {v0 : Int32} {o : (Nat → Int64) × (Nat → UInt64)} {k : Nat} {x : Int32} (hk : k ≤ 1) (A : V_X9_wood l [.ref 0, .int v0] (hp M (p, o)) (oc k x (fun _ => UOE) (hp M1 (p1, o)))) : VL l yL_wood cL_wood 4 hhL_wood 9 1 6 [.ref 0, .int v0, .ref 473] (hp M (p, o)) (wz k (x.toInt64) M1 p1 o) := by
  refine VL.intro (lf := L9 (some (.ref 0)) (some (.int v0)) (some (.ref 473)) none none none none none none) (by decide +kernel) hf (fun _ => (Nat.le_of_ble_eq_true rfl)) (fun _ => rfl) ?_
  refine R_aload_n dL_wood_0 rfl rfl ?_
  refine R_iconst (v := 0) dL_wood_1 (by decide) ?_
  refine R_aload_n dL_wood_2 rfl rfl ?_
  refine R_iload_n dL_wood_3 rfl rfl ?_
  refine R_callV (As := [.int v0]) cw_L_34 A dL_wood_4 rfl (hp_obj (c := 9) rfl (by decide)) (hp_lt (c := 9) rfl (by decide)) (by decide) (Nat.le_of_ble_eq_true rfl) (Nat.le_of_ble_eq_true rfl) rfl rfl (by decide) (fun v9 h9 hz => ?_) (fun E9 h9 hz => ?_)
  · by_cases k0 : k = 0
    · subst k0
      obtain ⟨e1, rfl⟩ := hz
      cases e1
      show Q l _ _ _ _ _ _ _ _ _ [.int x, .int 0, .ref 473] _ _ _
      refine R_i2l dL_wood_7 rfl ?_
      refine G_last dL_wood_8 (show vp_in (0 : Int32) 1 from nI_in12 (k := 0) (n := 1) (by omega) (by omega)) ?_
      refine R_goto (tgt := 15) dL_wood_9 rfl ?_
      refine R_iconst (v := 0) dL_wood_15 (by decide) ?_
      refine R_iretH dL_wood_16 (Nat.le_of_ble_eq_true rfl) (Nat.le_of_ble_eq_true rfl) ?_
      exact ⟨rfl, rfl⟩
    · exfalso
      first | rw [oc, if_neg k0] at hz | rw [if_neg k0] at hz
      cases hz.1
  · by_cases k0 : k = 0
    · subst k0
      cases hz.1
    · first | rw [oc, if_neg k0] at hz | rw [if_neg k0] at hz
      obtain ⟨e1, rfl⟩ := hz
      cases e1
      obtain rfl : k = 1 := by omega
      refine R_catch (pre := []) (x := ⟨0, 9, 12, 13⟩) (suf := []) (j := 3) rfl (fun z hz => by cases hz) (by decide) (by decide) lk_13 ct_UOE rfl (by decide) (Or.inl ⟨3, dL_wood_12, rfl, rfl⟩) ?_
      refine R_iconst (v := 1) dL_wood_13 (by decide) ?_
      refine R_iretH dL_wood_14 (Nat.le_of_ble_eq_true rfl) (Nat.le_of_ble_eq_true rfl) ?_
      exact ⟨rfl, rfl⟩
abbrev hhL_wouldChar : HHT := [(0, 10, 13, 54), (0, 10, 17, 56)]
theorem w_wouldChar {l : Launch} (hf : l.stackTraces = false) {v0 v1 : Int32} {o : (Nat → Int64) × (Nat → UInt64)} {k : Nat} {x : Int32} (hk : k ≤ 2) (A : V_X9_wouldChar l [.ref 0, .int v0, .int v1] (hp M (p, o)) (oc k x (EE IOB IAE) (hp M1 (p1, o)))) : VL l yL_wouldChar cL_wouldChar 5 hhL_wouldChar 9 2 12 [.ref 0, .int v0, .int v1, .ref 473] (hp M (p, o)) (wz k (x.toInt64) M1 p1 o) := by
  refine VL.intro (lf := L9 (some (.ref 0)) (some (.int v0)) (some (.int v1)) (some (.ref 473)) none none none none none) (by decide +kernel) hf (fun _ => (Nat.le_of_ble_eq_true rfl)) (fun _ => rfl) ?_
  refine R_aload_n dL_wouldChar_0 rfl rfl ?_
  refine R_iconst (v := 0) dL_wouldChar_1 (by decide) ?_
  refine R_aload_n dL_wouldChar_2 rfl rfl ?_
  refine R_iload_n dL_wouldChar_3 rfl rfl ?_
  refine R_iload_n dL_wouldChar_4 rfl rfl ?_
  refine R_callV (As := [.int v0, .int v1]) cw_L_80 A dL_wouldChar_5 rfl (hp_obj (c := 9) rfl (by decide)) (hp_lt (c := 9) rfl (by decide)) (by decide) (Nat.le_of_ble_eq_true rfl) (Nat.le_of_ble_eq_true rfl) rfl rfl (by decide) (fun v9 h9 hz => ?_) (fun E9 h9 hz => ?_)
  · by_cases k0 : k = 0
    · subst k0
      obtain ⟨e1, rfl⟩ := hz
      cases e1
      show Q l _ _ _ _ _ _ _ _ _ [.int x, .int 0, .ref 473] _ _ _
      refine R_i2l dL_wouldChar_8 rfl ?_
      refine G_last dL_wouldChar_9 (show vp_in (0 : Int32) 1 from nI_in12 (k := 0) (n := 1) (by omega) (by omega)) ?_
      refine R_goto (tgt := 21) dL_wouldChar_10 rfl ?_
      refine R_iconst (v := 0) dL_wouldChar_21 (by decide) ?_
      refine R_iretH dL_wouldChar_22 (Nat.le_of_ble_eq_true rfl) (Nat.le_of_ble_eq_true rfl) ?_
      exact ⟨rfl, rfl⟩
    · exfalso
      first | rw [oc, if_neg k0] at hz | rw [if_neg k0] at hz
      cases hz.1
  · by_cases k0 : k = 0
    · subst k0
      cases hz.1
    · first | rw [oc, if_neg k0] at hz | rw [if_neg k0] at hz
      obtain ⟨e1, rfl⟩ := hz
      cases e1
      by_cases k1 : k = 1
      · subst k1
        refine R_catch (pre := []) (x := ⟨0, 10, 13, 54⟩) (suf := [⟨0, 10, 17, 56⟩]) (j := 4) rfl (fun z hz => by cases hz) (by decide) (by decide) lk_54 ct_IOB rfl (by decide) (Or.inr ⟨dL_wouldChar_13, rfl⟩) ?_
        refine R_iconst (v := 1) dL_wouldChar_15 (by decide) ?_
        refine R_iretH dL_wouldChar_16 (Nat.le_of_ble_eq_true rfl) (Nat.le_of_ble_eq_true rfl) ?_
        exact ⟨rfl, rfl⟩
      · obtain rfl : k = 2 := by omega
        refine R_catch (pre := [⟨0, 10, 13, 54⟩]) (x := ⟨0, 10, 17, 56⟩) (suf := []) (j := 4) rfl (fun z hz => by cases hz with | head => exact Or.inr ⟨by decide, _, lk_54, by decide⟩ | tail _ hz => cases hz) (by decide) (by decide) lk_56 ct_IAE rfl (by decide) (Or.inr ⟨dL_wouldChar_17, rfl⟩) ?_
        refine R_iconst (v := 2) dL_wouldChar_19 (by decide) ?_
        refine R_iretH dL_wouldChar_20 (Nat.le_of_ble_eq_true rfl) (Nat.le_of_ble_eq_true rfl) ?_
        exact ⟨rfl, rfl⟩
abbrev hhL_wouldCharAgain : HHT := [(0, 10, 13, 54), (0, 10, 17, 56)]
theorem w_wouldCharAgain {l : Launch} (hf : l.stackTraces = false) {v0 v1 : Int32} {o : (Nat → Int64) × (Nat → UInt64)} {k : Nat} {x : Int32} (hk : k ≤ 2) (A : V_X9_wouldCharAgain l [.ref 0, .int v0, .int v1] (hp M (p, o)) (oc k x (EE IOB IAE) (hp M1 (p1, o)))) : VL l yL_wouldCharAgain cL_wouldCharAgain 5 hhL_wouldCharAgain 9 2 12 [.ref 0, .int v0, .int v1, .ref 473] (hp M (p, o)) (wz k (x.toInt64) M1 p1 o) := by
  refine VL.intro (lf := L9 (some (.ref 0)) (some (.int v0)) (some (.int v1)) (some (.ref 473)) none none none none none) (by decide +kernel) hf (fun _ => (Nat.le_of_ble_eq_true rfl)) (fun _ => rfl) ?_
  refine R_aload_n dL_wouldCharAgain_0 rfl rfl ?_
  refine R_iconst (v := 0) dL_wouldCharAgain_1 (by decide) ?_
  refine R_aload_n dL_wouldCharAgain_2 rfl rfl ?_
  refine R_iload_n dL_wouldCharAgain_3 rfl rfl ?_
  refine R_iload_n dL_wouldCharAgain_4 rfl rfl ?_
  refine R_callV (As := [.int v0, .int v1]) cw_L_83 A dL_wouldCharAgain_5 rfl (hp_obj (c := 9) rfl (by decide)) (hp_lt (c := 9) rfl (by decide)) (by decide) (Nat.le_of_ble_eq_true rfl) (Nat.le_of_ble_eq_true rfl) rfl rfl (by decide) (fun v9 h9 hz => ?_) (fun E9 h9 hz => ?_)
  · by_cases k0 : k = 0
    · subst k0
      obtain ⟨e1, rfl⟩ := hz
      cases e1
      show Q l _ _ _ _ _ _ _ _ _ [.int x, .int 0, .ref 473] _ _ _
      refine R_i2l dL_wouldCharAgain_8 rfl ?_
      refine G_last dL_wouldCharAgain_9 (show vp_in (0 : Int32) 1 from nI_in12 (k := 0) (n := 1) (by omega) (by omega)) ?_
      refine R_goto (tgt := 21) dL_wouldCharAgain_10 rfl ?_
      refine R_iconst (v := 0) dL_wouldCharAgain_21 (by decide) ?_
      refine R_iretH dL_wouldCharAgain_22 (Nat.le_of_ble_eq_true rfl) (Nat.le_of_ble_eq_true rfl) ?_
      exact ⟨rfl, rfl⟩
    · exfalso
      first | rw [oc, if_neg k0] at hz | rw [if_neg k0] at hz
      cases hz.1
  · by_cases k0 : k = 0
    · subst k0
      cases hz.1
    · first | rw [oc, if_neg k0] at hz | rw [if_neg k0] at hz
      obtain ⟨e1, rfl⟩ := hz
      cases e1
      by_cases k1 : k = 1
      · subst k1
        refine R_catch (pre := []) (x := ⟨0, 10, 13, 54⟩) (suf := [⟨0, 10, 17, 56⟩]) (j := 4) rfl (fun z hz => by cases hz) (by decide) (by decide) lk_54 ct_IOB rfl (by decide) (Or.inr ⟨dL_wouldCharAgain_13, rfl⟩) ?_
        refine R_iconst (v := 1) dL_wouldCharAgain_15 (by decide) ?_
        refine R_iretH dL_wouldCharAgain_16 (Nat.le_of_ble_eq_true rfl) (Nat.le_of_ble_eq_true rfl) ?_
        exact ⟨rfl, rfl⟩
      · obtain rfl : k = 2 := by omega
        refine R_catch (pre := [⟨0, 10, 13, 54⟩]) (x := ⟨0, 10, 17, 56⟩) (suf := []) (j := 4) rfl (fun z hz => by cases hz with | head => exact Or.inr ⟨by decide, _, lk_54, by decide⟩ | tail _ hz => cases hz) (by decide) (by decide) lk_56 ct_IAE rfl (by decide) (Or.inr ⟨dL_wouldCharAgain_17, rfl⟩) ?_
        refine R_iconst (v := 2) dL_wouldCharAgain_19 (by decide) ?_
        refine R_iretH dL_wouldCharAgain_20 (Nat.le_of_ble_eq_true rfl) (Nat.le_of_ble_eq_true rfl) ?_
        exact ⟨rfl, rfl⟩
end P55
