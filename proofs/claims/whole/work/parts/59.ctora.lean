/-! constructors -/
def M0 : MM := fun a k => if a = 460 ∧ k = 2 ∨ a = 464 ∧ k = 15 then -1 else 0
def r0 : MR := (fun k => 126 + 41 * k, fun _ => 0, fun _ => 0)
def FN0 (a : Nat) : vE := match sK a with
  | 13 => .inl (2, 12, .inr (.inr (.inr (.inr (fun k => if k < 12 then some (a + 4 + 3 * k) else none)))))
  | 14 => .inl (3, 8, .inr (.inr (.inr (.inr (fun k => if k < 8 then some (126 + 41 * k) else none)))))
  | c => cellK c a M0 r0
theorem cOr {a N : Nat} (h : a < N) : cO N (some (.ref a)) := Or.inl h
theorem cVr {a N : Nat} (h : a < N) : cV N (.ref a) := Or.inl h
def ZC (a sz : Nat) (E : Nat → vE) : HP → Prop := fun h1 => h1.1 = a + sz ∧ CLO h1.1 h1.2 ∧ (∀ b, b < a → h1.2 b = E b) ∧ ∀ b, a ≤ b → b < a + sz → h1.2 b = FN0 b
theorem wo_in : Cond.instanceMethod Lib.objectInit ∈ TG := tg (List.mem_of_getElem? (i := 79) (by decide +kernel)) (by decide +kernel)
theorem wo_co : Cond.code Lib.objectInit ⟨#[0xb1]⟩ 1 none ∈ TG := tg (List.mem_of_getElem? (i := 80) (by decide +kernel)) rfl
theorem ki_L_141 : CWI RL 141 yX9_init cX9_init 1 0 := ⟨tg (List.mem_of_getElem? (i := 75) (by decide +kernel)) (by decide +kernel), tg (List.mem_of_getElem? (i := 76) (by decide +kernel)) (by decide +kernel), wi_X9, tg (List.mem_of_getElem? (i := 77) (by decide +kernel)) rfl, by decide +kernel, by decide, rfl⟩
theorem wo_X9_3 : Cond.methodLink RX9 3 Lib.objectInit ∈ TG := tg (List.mem_of_getElem? (i := 78) (by decide +kernel)) (by decide +kernel)
theorem ki_X9_11 : CWI RX9 11 yX3_init cX3_init 2 0 := ⟨tg (List.mem_of_getElem? (i := 83) (by decide +kernel)) (by decide +kernel), tg (List.mem_of_getElem? (i := 84) (by decide +kernel)) (by decide +kernel), wi_X3, tg (List.mem_of_getElem? (i := 85) (by decide +kernel)) rfl, by decide +kernel, by decide, rfl⟩
theorem wo_X3_3 : Cond.methodLink RX3 3 Lib.objectInit ∈ TG := tg (List.mem_of_getElem? (i := 86) (by decide +kernel)) (by decide +kernel)
theorem wo_X0_3 : Cond.methodLink RX0 3 Lib.objectInit ∈ TG := tg (List.mem_of_getElem? (i := 93) (by decide +kernel)) (by decide +kernel)
theorem wo_X7_3 : Cond.methodLink RX7 3 Lib.objectInit ∈ TG := tg (List.mem_of_getElem? (i := 99) (by decide +kernel)) (by decide +kernel)
theorem ki_X9_24 : CWI RX9 24 yX2_init cX2_init 2 0 := ⟨tg (List.mem_of_getElem? (i := 209) (by decide +kernel)) (by decide +kernel), tg (List.mem_of_getElem? (i := 210) (by decide +kernel)) (by decide +kernel), wi_X2, tg (List.mem_of_getElem? (i := 211) (by decide +kernel)) rfl, by decide +kernel, by decide, rfl⟩
theorem wo_X2_3 : Cond.methodLink RX2 3 Lib.objectInit ∈ TG := tg (List.mem_of_getElem? (i := 212) (by decide +kernel)) (by decide +kernel)
theorem ki_X2_17 : CWI RX2 17 yX3_init cX3_init 2 0 := ⟨tg (List.mem_of_getElem? (i := 215) (by decide +kernel)) (by decide +kernel), tg (List.mem_of_getElem? (i := 84) (by decide +kernel)) (by decide +kernel), wi_X3, tg (List.mem_of_getElem? (i := 85) (by decide +kernel)) rfl, by decide +kernel, by decide, rfl⟩
theorem wo_X5_3 : Cond.methodLink RX5 3 Lib.objectInit ∈ TG := tg (List.mem_of_getElem? (i := 229) (by decide +kernel)) (by decide +kernel)
theorem ki_X9_38 : CWI RX9 38 yX8_init cX8_init 3 2 := ⟨tg (List.mem_of_getElem? (i := 250) (by decide +kernel)) (by decide +kernel), tg (List.mem_of_getElem? (i := 251) (by decide +kernel)) (by decide +kernel), wi_X8, tg (List.mem_of_getElem? (i := 252) (by decide +kernel)) rfl, by decide +kernel, by decide, rfl⟩
theorem wo_X8_3 : Cond.methodLink RX8 3 Lib.objectInit ∈ TG := tg (List.mem_of_getElem? (i := 253) (by decide +kernel)) (by decide +kernel)
theorem ki_X9_47 : CWI RX9 47 yX1_init cX1_init 2 1 := ⟨tg (List.mem_of_getElem? (i := 263) (by decide +kernel)) (by decide +kernel), tg (List.mem_of_getElem? (i := 264) (by decide +kernel)) (by decide +kernel), wi_X1, tg (List.mem_of_getElem? (i := 265) (by decide +kernel)) rfl, by decide +kernel, by decide, rfl⟩
theorem wo_X1_3 : Cond.methodLink RX1 3 Lib.objectInit ∈ TG := tg (List.mem_of_getElem? (i := 266) (by decide +kernel)) (by decide +kernel)
theorem wo_X6_3 : Cond.methodLink RX6 3 Lib.objectInit ∈ TG := tg (List.mem_of_getElem? (i := 281) (by decide +kernel)) (by decide +kernel)
theorem wo_X4_3 : Cond.methodLink RX4 3 Lib.objectInit ∈ TG := tg (List.mem_of_getElem? (i := 323) (by decide +kernel)) (by decide +kernel)
theorem ki_L_144 : CWI RL 144 yX10_init cX10_init 1 0 := ⟨tg (List.mem_of_getElem? (i := 1246) (by decide +kernel)) (by decide +kernel), tg (List.mem_of_getElem? (i := 1247) (by decide +kernel)) (by decide +kernel), wi_X10, tg (List.mem_of_getElem? (i := 1248) (by decide +kernel)) rfl, by decide +kernel, by decide, rfl⟩
theorem wo_X10_1 : Cond.methodLink RX10 1 Lib.objectInit ∈ TG := tg (List.mem_of_getElem? (i := 1249) (by decide +kernel)) (by decide +kernel)
theorem ki_X3_17 : CWJ RX3 17 yX0_init "SmokeRacks" cX0_init 1 0 := ⟨tn (List.mem_of_getElem? (i := 90) (by decide +kernel)) (by decide +kernel), tg (List.mem_of_getElem? (i := 91) (by decide +kernel)) (by decide +kernel), wi_X0, tg (List.mem_of_getElem? (i := 92) (by decide +kernel)) rfl, by decide +kernel, by decide, rfl⟩
theorem ki_X0_11 : CWJ RX0 11 yX7_init "SmokeRacks" cX7_init 1 0 := ⟨tn (List.mem_of_getElem? (i := 96) (by decide +kernel)) (by decide +kernel), tg (List.mem_of_getElem? (i := 97) (by decide +kernel)) (by decide +kernel), wi_X7, tg (List.mem_of_getElem? (i := 98) (by decide +kernel)) rfl, by decide +kernel, by decide, rfl⟩
theorem ki_X9_31 : CWJ RX9 31 yX5_init "SmokeRacks" cX5_init 1 0 := ⟨tn (List.mem_of_getElem? (i := 226) (by decide +kernel)) (by decide +kernel), tg (List.mem_of_getElem? (i := 227) (by decide +kernel)) (by decide +kernel), wi_X5, tg (List.mem_of_getElem? (i := 228) (by decide +kernel)) rfl, by decide +kernel, by decide, rfl⟩
theorem ki_X1_11 : CWJ RX1 11 yX0_init "SmokeRacks" cX0_init 1 0 := ⟨tn (List.mem_of_getElem? (i := 268) (by decide +kernel)) (by decide +kernel), tg (List.mem_of_getElem? (i := 91) (by decide +kernel)) (by decide +kernel), wi_X0, tg (List.mem_of_getElem? (i := 92) (by decide +kernel)) rfl, by decide +kernel, by decide, rfl⟩
theorem ki_X9_56 : CWJ RX9 56 yX6_init "SmokeRacks" cX6_init 1 0 := ⟨tn (List.mem_of_getElem? (i := 278) (by decide +kernel)) (by decide +kernel), tg (List.mem_of_getElem? (i := 279) (by decide +kernel)) (by decide +kernel), wi_X6, tg (List.mem_of_getElem? (i := 280) (by decide +kernel)) rfl, by decide +kernel, by decide, rfl⟩
theorem ki_X9_63 : CWJ RX9 63 yX4_init "SmokeRacks" cX4_init 1 0 := ⟨tn (List.mem_of_getElem? (i := 320) (by decide +kernel)) (by decide +kernel), tg (List.mem_of_getElem? (i := 321) (by decide +kernel)) (by decide +kernel), wi_X4, tg (List.mem_of_getElem? (i := 322) (by decide +kernel)) rfl, by decide +kernel, by decide, rfl⟩
theorem kl_L_8 : Cond.classLink RL 8 RX9 ∈ TG := tg (List.mem_of_getElem? (i := 73) (by decide +kernel)) (by decide +kernel)
theorem kn_X9 : Cond.instantiable RX9 10 ∈ TG := tg (List.mem_of_getElem? (i := 74) (by decide +kernel)) (by decide +kernel)
theorem kl_X9_9 : Cond.classLink RX9 9 RX3 ∈ TG := tg (List.mem_of_getElem? (i := 81) (by decide +kernel)) (by decide +kernel)
theorem kn_X3 : Cond.instantiable RX3 10 ∈ TG := tg (List.mem_of_getElem? (i := 82) (by decide +kernel)) (by decide +kernel)
theorem kl_X3_9 : Cond.classLink RX3 9 RX0 ∈ TG := tg (List.mem_of_getElem? (i := 87) (by decide +kernel)) (by decide +kernel)
theorem kn_X0 : Cond.instantiable RX0 9 ∈ TG := tg (List.mem_of_getElem? (i := 89) (by decide +kernel)) (by decide +kernel)
theorem kl_X0_9 : Cond.classLink RX0 9 RX7 ∈ TG := tg (List.mem_of_getElem? (i := 94) (by decide +kernel)) (by decide +kernel)
theorem kn_X7 : Cond.instantiable RX7 2 ∈ TG := tg (List.mem_of_getElem? (i := 95) (by decide +kernel)) (by decide +kernel)
theorem kl_X9_22 : Cond.classLink RX9 22 RX2 ∈ TG := tg (List.mem_of_getElem? (i := 207) (by decide +kernel)) (by decide +kernel)
theorem kn_X2 : Cond.instantiable RX2 2 ∈ TG := tg (List.mem_of_getElem? (i := 208) (by decide +kernel)) (by decide +kernel)
theorem kl_X2_9 : Cond.classLink RX2 9 RX3 ∈ TG := tg (List.mem_of_getElem? (i := 213) (by decide +kernel)) (by decide +kernel)
theorem kl_X9_29 : Cond.classLink RX9 29 RX5 ∈ TG := tg (List.mem_of_getElem? (i := 224) (by decide +kernel)) (by decide +kernel)
theorem kn_X5 : Cond.instantiable RX5 5 ∈ TG := tg (List.mem_of_getElem? (i := 225) (by decide +kernel)) (by decide +kernel)
theorem kl_X9_36 : Cond.classLink RX9 36 RX8 ∈ TG := tg (List.mem_of_getElem? (i := 248) (by decide +kernel)) (by decide +kernel)
theorem kn_X8 : Cond.instantiable RX8 2 ∈ TG := tg (List.mem_of_getElem? (i := 249) (by decide +kernel)) (by decide +kernel)
theorem kl_X9_45 : Cond.classLink RX9 45 RX1 ∈ TG := tg (List.mem_of_getElem? (i := 261) (by decide +kernel)) (by decide +kernel)
theorem kn_X1 : Cond.instantiable RX1 2 ∈ TG := tg (List.mem_of_getElem? (i := 262) (by decide +kernel)) (by decide +kernel)
theorem kl_X1_9 : Cond.classLink RX1 9 RX0 ∈ TG := tg (List.mem_of_getElem? (i := 267) (by decide +kernel)) (by decide +kernel)
theorem kl_X9_54 : Cond.classLink RX9 54 RX6 ∈ TG := tg (List.mem_of_getElem? (i := 276) (by decide +kernel)) (by decide +kernel)
theorem kn_X6 : Cond.instantiable RX6 9 ∈ TG := tg (List.mem_of_getElem? (i := 277) (by decide +kernel)) (by decide +kernel)
theorem kl_X9_61 : Cond.classLink RX9 61 RX4 ∈ TG := tg (List.mem_of_getElem? (i := 318) (by decide +kernel)) (by decide +kernel)
theorem kn_X4 : Cond.instantiable RX4 2 ∈ TG := tg (List.mem_of_getElem? (i := 319) (by decide +kernel)) (by decide +kernel)
theorem kl_L_142 : Cond.classLink RL 142 RX10 ∈ TG := tg (List.mem_of_getElem? (i := 1244) (by decide +kernel)) (by decide +kernel)
theorem kn_X10 : Cond.instantiable RX10 21 ∈ TG := tg (List.mem_of_getElem? (i := 1245) (by decide +kernel)) (by decide +kernel)
theorem kc_char : Cond.arrayClass .char ∈ TG := tg (List.mem_of_getElem? (i := 317) (by decide +kernel)) (by decide +kernel)
theorem kc_int : Cond.arrayClass .int ∈ TG := tg (List.mem_of_getElem? (i := 1314) (by decide +kernel)) (by decide +kernel)
theorem kc_long : Cond.arrayClass .long ∈ TG := tg (List.mem_of_getElem? (i := 1657) (by decide +kernel)) (by decide +kernel)
theorem kc_double : Cond.arrayClass .double ∈ TG := tg (List.mem_of_getElem? (i := 1658) (by decide +kernel)) (by decide +kernel)
theorem kd_X0 : ∀ j, j < 9 → defaultValue (tyX0 j) = vp_V [.null, .null, .int 0, .int 0, .int 0, .int 0, .int 0, .int 0, .int 0] j := fun j hj => by
  match j, hj with
  | 0, _ => rfl
  | 1, _ => rfl
  | 2, _ => rfl
  | 3, _ => rfl
  | 4, _ => rfl
  | 5, _ => rfl
  | 6, _ => rfl
  | 7, _ => rfl
  | 8, _ => rfl
  | _ + 9, h => omega
theorem kd_X1 : ∀ j, j < 2 → defaultValue (tyX1 j) = vp_V [.null, .null] j := fun j hj => by
  match j, hj with
  | 0, _ => rfl
  | 1, _ => rfl
  | _ + 2, h => omega
theorem kd_X2 : ∀ j, j < 2 → defaultValue (tyX2 j) = vp_V [.null, .int 0] j := fun j hj => by
  match j, hj with
  | 0, _ => rfl
  | 1, _ => rfl
  | _ + 2, h => omega
theorem kd_X3 : ∀ j, j < 10 → defaultValue (tyX3 j) = vp_V [.null, .null, .int 0, .int 0, .int 0, .int 0, .int 0, .int 0, .int 0, .int 0] j := fun j hj => by
  match j, hj with
  | 0, _ => rfl
  | 1, _ => rfl
  | 2, _ => rfl
  | 3, _ => rfl
  | 4, _ => rfl
  | 5, _ => rfl
  | 6, _ => rfl
  | 7, _ => rfl
  | 8, _ => rfl
  | 9, _ => rfl
  | _ + 10, h => omega
theorem kd_X4 : ∀ j, j < 2 → defaultValue (tyX4 j) = vp_V [.null, .int 0] j := fun j hj => by
  match j, hj with
  | 0, _ => rfl
  | 1, _ => rfl
  | _ + 2, h => omega
theorem kd_X5 : ∀ j, j < 5 → defaultValue (tyX5 j) = vp_V [.int 0, .int 0, .int 0, .int 0, .int 0] j := fun j hj => by
  match j, hj with
  | 0, _ => rfl
  | 1, _ => rfl
  | 2, _ => rfl
  | 3, _ => rfl
  | 4, _ => rfl
  | _ + 5, h => omega
theorem kd_X6 : ∀ j, j < 9 → defaultValue (tyX6 j) = vp_V [.null, .int 0, .int 0, .int 0, .int 0, .int 0, .int 0, .int 0, .int 0] j := fun j hj => by
  match j, hj with
  | 0, _ => rfl
  | 1, _ => rfl
  | 2, _ => rfl
  | 3, _ => rfl
  | 4, _ => rfl
  | 5, _ => rfl
  | 6, _ => rfl
  | 7, _ => rfl
  | 8, _ => rfl
  | _ + 9, h => omega
theorem kd_X7 : ∀ j, j < 2 → defaultValue (tyX7 j) = vp_V [.int 0, .int 0] j := fun j hj => by
  match j, hj with
  | 0, _ => rfl
  | 1, _ => rfl
  | _ + 2, h => omega
theorem kd_X8 : ∀ j, j < 2 → defaultValue (tyX8 j) = vp_V [.null, .null] j := fun j hj => by
  match j, hj with
  | 0, _ => rfl
  | 1, _ => rfl
  | _ + 2, h => omega
theorem kd_X9 : ∀ j, j < 10 → defaultValue (tyX9 j) = vp_V [.null, .null, .null, .null, .null, .null, .null, .null, .null, .int 0] j := fun j hj => by
  match j, hj with
  | 0, _ => rfl
  | 1, _ => rfl
  | 2, _ => rfl
  | 3, _ => rfl
  | 4, _ => rfl
  | 5, _ => rfl
  | 6, _ => rfl
  | 7, _ => rfl
  | 8, _ => rfl
  | 9, _ => rfl
  | _ + 10, h => omega
theorem kd_X10 : ∀ j, j < 21 → defaultValue (tyX10 j) = vp_V [.null, .null, .null, .null, .null, .int 0, .int 0, .int 0, .int 0, .int 0, .int 0, .int 0, .int 0, .null, .int 0, .int 0, .null, .int 0, .int 0, .null, .int 0] j := fun j hj => by
  match j, hj with
  | 0, _ => rfl
  | 1, _ => rfl
  | 2, _ => rfl
  | 3, _ => rfl
  | 4, _ => rfl
  | 5, _ => rfl
  | 6, _ => rfl
  | 7, _ => rfl
  | 8, _ => rfl
  | 9, _ => rfl
  | 10, _ => rfl
  | 11, _ => rfl
  | 12, _ => rfl
  | 13, _ => rfl
  | 14, _ => rfl
  | 15, _ => rfl
  | 16, _ => rfl
  | 17, _ => rfl
  | 18, _ => rfl
  | 19, _ => rfl
  | 20, _ => rfl
  | _ + 21, h => omega
theorem k_X7_init {l : Launch} (hf : l.stackTraces = false) {a : Nat} {E : Nat → vE} (hC : CLO (a + 1) E) (hE0 : E a = .inr (7, [.int 0, .int 0])) (hF0 : FN0 a = .inr (7, [.int 0, .int 0])) (hN : a + 1 ≤ 475) : CTR l yX7_init cX7_init 1 1 0 0 [.ref a] ((a + 1), E) (ZC a 1 E) := by
  refine CTR.intro (lf := L9 (some (.ref a)) none none none none none none none none) (by decide +kernel) rfl hf (fun _ => Nat.le_of_ble_eq_true rfl) (fun _ => rfl) ?_
  show Q l RX7 cX7_init 1 1 0 0 (GC (a + 1) 0 0 _) 0 _ [] ((a + 1), E) 0 0
  refine R_aload_n dX7_init_0 rfl rfl ?_
  refine R_objI wo_X7_3 wo_in wo_co dX7_init_1 (by omega) (Nat.le_of_ble_eq_true rfl) ?_
  refine R_cret dX7_init_4 (by omega) (by omega) ⟨rfl, hC, fun b hb => ?_, fun b h1 h2 => ?_⟩
  · dsimp only
  · dsimp only
    have hb : b = a := by omega
    subst hb
    exact hE0.trans hF0.symm
theorem k_X0_init {l : Launch} (hf : l.stackTraces = false) {a : Nat} {E : Nat → vE} (hC : CLO (a + 1) E) (hE0 : E a = .inr (0, [.null, .null, .int 0, .int 0, .int 0, .int 0, .int 0, .int 0, .int 0])) (hF0 : FN0 a = .inr (0, [.ref (a + 1), .ref (a + 2), .int 0, .int 0, .int 0, .int 0, .int 0, .int 0, .int 0])) (hF1 : FN0 (a + 1) = .inr (7, [.int 0, .int 0])) (hF2 : FN0 (a + 2) = .inr (7, [.int 0, .int 0])) (hN : a + 3 ≤ 475) : CTR l yX0_init cX0_init 1 2 2 4 [.ref a] ((a + 1), E) (ZC a 3 E) := by
  refine CTR.intro (lf := L9 (some (.ref a)) none none none none none none none none) (by decide +kernel) rfl hf (fun _ => Nat.le_of_ble_eq_true rfl) (fun _ => rfl) ?_
  show Q l RX0 cX0_init 1 2 2 4 (GC (a + 1) 2 4 _) 0 _ [] ((a + 1), E) 0 0
  refine R_aload_n dX0_init_0 rfl rfl ?_
  refine R_objI wo_X0_3 wo_in wo_co dX0_init_1 (by omega) (Nat.le_of_ble_eq_true rfl) ?_
  refine R_aload_n dX0_init_4 rfl rfl ?_
  refine R_new cok7 kl_X0_9 kn_X7 wi_X7 kd_X7 (fun _ => rfl) dX0_init_5 (GC_ext (n0 := (a + 1)) (by omega)) hC (cLf9 (cOr (by omega)) trivial trivial trivial trivial trivial trivial trivial trivial) ⟨cVr (by omega), trivial⟩ (by omega) (by omega) (by omega) ?_
  have hC := CLO_new (x := .inr (7, [.int 0, .int 0])) hC ⟨trivial, trivial, trivial⟩
  refine R_dup dX0_init_8 rfl ?_
  refine R_callJ (As := []) ki_X0_11 (k_X7_init hf hC (by rw [nE_eq (by omega)]) hF1 (by omega)) dX0_init_9 (by omega) (by omega) (by omega) rfl rfl (Nat.le_of_ble_eq_true rfl) (GC_ext (n0 := (a + 1)) (by omega)) (cLf9 (cOr (by omega)) trivial trivial trivial trivial trivial trivial trivial trivial) ⟨cVr (by omega), cVr (by omega), trivial⟩ (fun h1 hz => ?_)
  obtain ⟨N1, E1⟩ := h1
  obtain ⟨e1, hC1, hlo1, hhi1⟩ := hz
  dsimp only at e1 hC1 hlo1 hhi1
  subst e1
  have hC : CLO (a + 2) E1 := hC1
  refine R_putN (k := 0) (fs := [.null, .null, .int 0, .int 0, .int 0, .int 0, .int 0, .int 0, .int 0]) (fs' := [.ref (a + 1), .null, .int 0, .int 0, .int 0, .int 0, .int 0, .int 0, .int 0]) cok0 (by decide) wf_X0_12 rfl rfl (fun _ => rfl) (fun _ => rfl) dX0_init_12 (by rw [hlo1 _ (by omega), nE_ne (by omega)]; exact hE0) (by omega) (Nat.le_of_ble_eq_true rfl) GC_init rfl ?_
  have hC := CLO_set (a := a) (x := .inr (0, [.ref (a + 1), .null, .int 0, .int 0, .int 0, .int 0, .int 0, .int 0, .int 0])) hC ⟨cVr (by omega), trivial, trivial, trivial, trivial, trivial, trivial, trivial, trivial, trivial⟩
  refine R_aload_n dX0_init_15 rfl rfl ?_
  refine R_new cok7 kl_X0_9 kn_X7 wi_X7 kd_X7 (fun _ => rfl) dX0_init_16 (GC_ext (n0 := (a + 1)) (by omega)) hC (cLf9 (cOr (by omega)) trivial trivial trivial trivial trivial trivial trivial trivial) ⟨cVr (by omega), trivial⟩ (by omega) (by omega) (by omega) ?_
  have hC := CLO_new (x := .inr (7, [.int 0, .int 0])) hC ⟨trivial, trivial, trivial⟩
  refine R_dup dX0_init_19 rfl ?_
  refine R_callJ (As := []) ki_X0_11 (k_X7_init hf hC (by rw [nE_eq (by omega)]) hF2 (by omega)) dX0_init_20 (by omega) (by omega) (by omega) rfl rfl (Nat.le_of_ble_eq_true rfl) (GC_ext (n0 := (a + 1)) (by omega)) (cLf9 (cOr (by omega)) trivial trivial trivial trivial trivial trivial trivial trivial) ⟨cVr (by omega), cVr (by omega), trivial⟩ (fun h1 hz => ?_)
  obtain ⟨N2, E2⟩ := h1
  obtain ⟨e2, hC2, hlo2, hhi2⟩ := hz
  dsimp only at e2 hC2 hlo2 hhi2
  subst e2
  have hC : CLO (a + 3) E2 := hC2
  refine R_putN (k := 1) (fs := [.ref (a + 1), .null, .int 0, .int 0, .int 0, .int 0, .int 0, .int 0, .int 0]) (fs' := [.ref (a + 1), .ref (a + 2), .int 0, .int 0, .int 0, .int 0, .int 0, .int 0, .int 0]) cok0 (by decide) wf_X0_18 rfl rfl (fun _ => rfl) (fun _ => rfl) dX0_init_23 (by rw [hlo2 _ (by omega), nE_ne (by omega), nE_eq (by omega)]) (by omega) (Nat.le_of_ble_eq_true rfl) GC_init rfl ?_
  have hC := CLO_set (a := a) (x := .inr (0, [.ref (a + 1), .ref (a + 2), .int 0, .int 0, .int 0, .int 0, .int 0, .int 0, .int 0])) hC ⟨cVr (by omega), cVr (by omega), trivial, trivial, trivial, trivial, trivial, trivial, trivial, trivial⟩
  refine R_cret dX0_init_26 (by omega) (by omega) ⟨rfl, hC, fun b hb => ?_, fun b h1 h2 => ?_⟩
  · dsimp only
    rw [nE_ne (by omega), hlo2 _ (by omega), nE_ne (by omega), nE_ne (by omega), hlo1 _ (by omega), nE_ne (by omega)]
  · dsimp only
    rcases (show b = a ∨ ((a + 1) ≤ b ∧ b < (a + 2)) ∨ ((a + 2) ≤ b ∧ b < (a + 3)) by omega) with hb | ⟨h3, h4⟩ | ⟨h3, h4⟩
    · subst hb
      rw [nE_eq (by omega)]
      exact hF0.symm
    · rw [nE_ne (by omega), hlo2 _ (by omega), nE_ne (by omega), nE_ne (by omega)]
      exact hhi1 b (by omega) (by omega)
    · rw [nE_ne (by omega)]
      exact hhi2 b (by omega) (by omega)
