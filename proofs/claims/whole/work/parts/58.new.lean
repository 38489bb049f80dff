/-! new cells: the numbers grow, and θ with them -/
def cV (N : Nat) (v : Value) : Prop := match v with
  | .ref a => a < N ∨ a = 475
  | _ => True
def cVs (N : Nat) : List Value → Prop
  | [] => True
  | v :: r => cV N v ∧ cVs N r
def cO (N : Nat) (v : Option Value) : Prop := match v with
  | some v => cV N v
  | none => True
def cE (N : Nat) (x : vE) : Prop := match x with
  | .inl (_, _, .inr (.inr (.inr (.inr f)))) => ∀ k b, f k = some b → b < N
  | .inl _ => True
  | .inr (_, fs) => cVs N fs
def CLO (N : Nat) (E : Nat → vE) : Prop := ∀ a, a < N → cE N (E a)
def cLf (N : Nat) (lf : Nat → Option Value) : Prop := ∀ i, cO N (lf i)
def ag (N : Nat) (θ θ' : Nat → Nat) : Prop := ∀ n, (n < N ∨ n = 475) → θ' n = θ n
def nE (E : Nat → vE) (a : Nat) (x : vE) : Nat → vE := fun b => if b = a then x else E b
def tu (θ : Nat → Nat) (n q : Nat) : Nat → Nat := fun b => if b = n then q else θ b
theorem nE_eq {E : Nat → vE} {a b : Nat} {x : vE} (h : b = a) : nE E a x b = x := if_pos h
theorem nE_ne {E : Nat → vE} {a b : Nat} {x : vE} (h : b ≠ a) : nE E a x b = E b := if_neg h
theorem cVs_mem {N : Nat} : ∀ {st : List Value}, cVs N st → ∀ v ∈ st, cV N v
  | _ :: _, h, v, hv => (List.mem_cons.mp hv).elim (fun e => e ▸ h.1) (fun e => cVs_mem h.2 v e)
theorem cV_mono {N N' : Nat} {v : Value} (hN : N ≤ N') (h : cV N v) : cV N' v := by
  cases v <;> first | trivial | exact h.imp (fun z => Nat.lt_of_lt_of_le z hN) id
theorem cVs_mono {N N' : Nat} (hN : N ≤ N') : ∀ {st : List Value}, cVs N st → cVs N' st
  | [], _ => trivial
  | _ :: _, h => ⟨cV_mono hN h.1, cVs_mono hN h.2⟩
theorem cE_mono {N N' : Nat} {x : vE} (hN : N ≤ N') (h : cE N x) : cE N' x := by
  match x, h with
  | .inl (t, n, .inl f), _ => trivial
  | .inl (t, n, .inr (.inl f)), _ => trivial
  | .inl (t, n, .inr (.inr (.inl f))), _ => trivial
  | .inl (t, n, .inr (.inr (.inr (.inl f)))), _ => trivial
  | .inl (t, n, .inr (.inr (.inr (.inr f)))), h => exact fun k b e => Nat.lt_of_lt_of_le (h k b e) hN
  | .inr (c, fs), h => exact cVs_mono hN h
theorem CLO_set {N a : Nat} {E : Nat → vE} {x : vE} (h : CLO N E) (hx : cE N x) : CLO N (nE E a x) := fun b hb => by
  by_cases e : b = a
  · rw [nE_eq e]; exact hx
  · rw [nE_ne e]; exact h b hb
theorem CLO_new {N : Nat} {E : Nat → vE} {x : vE} (h : CLO N E) (hx : cE (N + 1) x) : CLO (N + 1) (nE E N x) := fun b hb => by
  by_cases e : b = N
  · rw [nE_eq e]; exact hx
  · rw [nE_ne e]; exact cE_mono (Nat.le_succ N) (h b (by omega))
theorem cLf9 {N : Nat} {l0 l1 l2 l3 l4 l5 l6 l7 l8 : Option Value} (h0 : cO N l0) (h1 : cO N l1) (h2 : cO N l2) (h3 : cO N l3) (h4 : cO N l4) (h5 : cO N l5) (h6 : cO N l6) (h7 : cO N l7) (h8 : cO N l8) : cLf N (L9 l0 l1 l2 l3 l4 l5 l6 l7 l8) := fun i =>
  match i with
  | 0 => h0 | 1 => h1 | 2 => h2 | 3 => h3 | 4 => h4 | 5 => h5 | 6 => h6 | 7 => h7 | 8 => h8 | _ + 9 => trivial
section AG
variable {N : Nat} {θ θ' θ'' : Nat → Nat} {dA : Nat → ClassId}
theorem ag_rf : ag N θ θ := fun _ _ => rfl
theorem ag_tr {N' : Nat} (hN : N ≤ N') (h : ag N θ θ') (h' : ag N' θ' θ'') : ag N θ θ'' := fun n hn => (h' n (hn.imp (fun z => Nat.lt_of_lt_of_le z hN) id)).trans (h n hn)
theorem ag_tu {q : Nat} (hN : N < 475) : ag N θ (tu θ N q) := fun n hn => if_neg (by omega)
theorem cvV_ag {v : Value} (h : ag N θ θ') (hv : cV N v) : cvV θ' v = cvV θ v := by
  cases v <;> first | rfl | (show Value.ref _ = Value.ref _; rw [h _ hv])
theorem cvE_ag {x : vE} (h : ag N θ θ') (hx : cE N x) : cvE θ' dA x = cvE θ dA x := by
  match x, hx with
  | .inl (t, n, .inl f), _ => rfl
  | .inl (t, n, .inr (.inl f)), _ => rfl
  | .inl (t, n, .inr (.inr (.inl f))), _ => rfl
  | .inl (t, n, .inr (.inr (.inr (.inl f)))), _ => rfl
  | .inl (t, n, .inr (.inr (.inr (.inr f)))), hx =>
    have e : (fun k => (f k).map θ') = fun k => (f k).map θ := by
      funext k
      cases e : f k with
      | none => rfl
      | some b => show some _ = some _; rw [h b (Or.inl (hx k b e))]
    show (Sum.inl (dA t, n, .inr (.inr (.inr (.inr (fun k => (f k).map θ'))))) : va_E) = .inl (dA t, n, .inr (.inr (.inr (.inr (fun k => (f k).map θ)))))
    rw [e]
  | .inr (c, fs), hx =>
    show (Sum.inr (c, fs.map (cvV θ')) : va_E) = .inr (c, fs.map (cvV θ))
    rw [List.map_congr_left (fun v hv => cvV_ag h (cVs_mem hx v hv))]
theorem st_ag {st : List Value} (h : ag N θ θ') (hs : cVs N st) : st.map (cvV θ') = st.map (cvV θ) := List.map_congr_left fun v hv => cvV_ag h (cVs_mem hs v hv)
theorem lcv_ag {lf : Nat → Option Value} (h : ag N θ θ') (hs : cLf N lf) : lcv θ' lf = lcv θ lf := by
  unfold lcv
  refine List.map_congr_left fun q hq => ?_
  obtain ⟨i, v⟩ := q
  simp only [lcl, List.mem_filterMap] at hq
  obtain ⟨j, -, hj⟩ := hq
  cases e : lf j with
  | none => rw [e] at hj; cases hj
  | some u =>
    rw [e] at hj
    cases hj
    have hc := hs i
    rw [e] at hc
    rw [cvV_ag h hc]
theorem wsH_ag {E : Nat → vE} (h : ag N θ θ') (hC : CLO N E) : wsH θ' dA (N, E) = wsH θ dA (N, E) := List.map_congr_left fun a ha => by
  have ha := List.mem_range.mp ha
  rw [h a (Or.inl ha), cvE_ag h (hC a ha)]
theorem wsH_new {E : Nat → vE} {x : vE} (h : ag N θ θ') (hC : CLO N E) : wsH θ' dA (N + 1, nE E N x) = wsH θ dA (N, E) ++ [(θ' N, cvE θ' dA x)] := by
  rw [← wsH_ag h hC]
  simp only [wsH, List.range_succ, List.map_append, List.map_cons, List.map_nil, nE_eq]
  congr 1
  exact List.map_congr_left fun a ha => by rw [nE_ne (by have := List.mem_range.mp ha; omega)]
/-- what a heap says depends on its numbers' rows alone -/
theorem wsH_cg {E E' : Nat → vE} (h : ∀ a, a < N → cvE θ dA (E a) = cvE θ dA (E' a)) : wsH θ dA (N, E) = wsH θ dA (N, E') := List.map_congr_left fun a ha => by
  show (θ a, cvE θ dA (E a)) = (θ a, cvE θ dA (E' a))
  rw [h a (List.mem_range.mp ha)]
end AG
/-- a machine around a body to which new numbers don't matter -/
def EXT (G : GT) (N : Nat) : Prop := ∀ p e R s m args below meth c D dA θ θ' A QQ, ag N θ θ' → G p e R s m args below meth c D dA θ A QQ → G p e R s m args below meth c D dA θ' A QQ
theorem RA_u {U : State} {c c' : ClassId} {ty : FieldType} (h : va_RA U c ty) (h' : va_RA U c' ty) : c = c' := by
  cases ty with
  | object C =>
    obtain ⟨_, _, _, _, _, h4⟩ := h
    obtain ⟨_, _, _, _, _, h4'⟩ := h'
    exact Option.some.inj (h4.symm.trans h4')
  | _ => exact Option.some.inj (Eq.trans (Eq.symm h) h')
def QcN (Z : HP → Prop) (n0 : Nat) (D : va_G) (dA : Nat → ClassId) (θ : Nat → Nat) (A : Nat → Prop) : Array Value → State → Outcome → State → Prop := fun _ s oc t =>
  (∃ h1 θ1, ag n0 θ θ1 ∧ oc = .returned none ∧ Z h1 ∧ va_P D CLs (wsH θ1 dA h1) t.heap ∧ va_D A (wsH θ1 dA h1)) ∧ va_F A s t
def CTR (l : Launch) (y : MethodName) (cc : ByteArray) (nL d mc ms : Nat) (As : List Value) (h : HP) (Z : HP → Prop) : Prop :=
  ∀ (D : va_G) (dA : Nat → ClassId) (θ : Nat → Nat) (sz : Nat), Met l y (.code y cc nL none :: TG) (rmD d mc ms) (va_Pc (As.map (cvV θ)) (BM D dA θ h sz)) (QcN Z h.1 D dA θ (va_A (wsH θ dA h) sz)) mc ms (va_A (wsH θ dA h) sz)
def GC (n0 mc ms : Nat) (Z : HP → Prop) : GT := fun _ _ _ s _ args below meth _ D dA θ A QQ =>
  meth.sig.returnType = none ∧ meth.locks = false ∧ meth.name = "<init>" ∧ ∃ θ0, ag n0 θ0 θ ∧ QQ = MQ below (QcN Z n0 D dA θ0 A) args s mc ms A
theorem GC_ext {n0 mc ms N : Nat} {Z : HP → Prop} (h : n0 ≤ N) : EXT (GC n0 mc ms Z) N := by
  rintro p e R s m args below meth c D dA θ θ' A QQ ha ⟨g1, g2, g3, θ0, g4, g5⟩
  exact ⟨g1, g2, g3, θ0, ag_tr h g4 ha, g5⟩
theorem GC_init {n0 mc ms : Nat} {Z : HP → Prop} : ∀ p e R s m args below meth c D dA θ A QQ, GC n0 mc ms Z p e R s m args below meth c D dA θ A QQ → meth.name = "<init>" := fun _ _ _ _ _ _ _ _ _ _ _ _ _ _ g => g.2.2.1
theorem GW_ext {b L N : Nat} {xs : Nat → Int32} : EXT (GW b L xs) N := by
  rintro p e R s m args below meth c D dA θ θ' A QQ ha ⟨⟨g1, g2⟩, g3⟩
  exact ⟨⟨(ha 475 (Or.inr rfl)).trans g1, g2⟩, g3⟩
set_option maxRecDepth 20000 in
theorem CTR.intro {l : Launch} {cc : ByteArray} {nL d mc ms : Nat} {h : HP} {y : MethodName} {As : List Value} {Z : HP → Prop} {lf : Nat → Option Value} (hy : plainName y.cls = true) (hy1 : y.name = "<init>") (hf : l.stackTraces = false) (hsz : ∀ θ, (lg_sl (As.map (cvV θ))).length ≤ nL) (hlf : ∀ θ, lcv θ lf = lv_args 0 (As.map (cvV θ)))
    (k : Q l y.cls cc nL d mc ms (GC h.1 mc ms Z) 0 lf [] h 0 0) : CTR l y cc nL d mc ms As h Z := by
  intro D dA θ sz
  refine Met.ofW (cc := cc) (maxL := nL) (ret := none) hy rfl ?_
  intro p e s m args below meth c s₁ B hml hv
  obtain ⟨rfl, hsz0, hP, hK, hD0, hU, hN, hW4, hO1, hO2⟩ := hv
  subst hsz0
  have hts := atoms_spec (ws := .code y cc nL none :: TG) B.pre
  have hts' : ∀ w ∈ TG, w.before _ s = true := fun w hw => hts w (List.mem_cons_of_mem _ hw)
  have hown : s.vm.findClass y.cls = some m.cls := findClass_of_methodNamed B.named
  have hl := lv_entry (As.map (cvV θ)) (n := nL) (hsz θ)
  rw [lg_entry_eq]
  generalize (lg_sl (As.map (cvV θ)) ++ List.replicate (nL - (lg_sl (As.map (cvV θ))).length) Slot.unset).toArray = ls at hl ⊢
  rw [← hlf θ] at hl
  exact k p e _ s m _ below meth c D dA θ (va_A (wsH θ dA h) s.heap.size) _ s.heap [] ls ⟨B.exec, B.bytes, hml, hown, hts', fun q hq => Or.inr hq, ⟨Nat.le_refl _, Nat.le_refl _, Nat.le_refl _, Nat.le_refl _⟩, hf, hU, hN, fun w hw => nk_use hw (hW4 w hw), hO1, hO2⟩ ⟨B.returns, B.notSynchronized, (name_of_methodNamed B.named B.method).1.trans hy1, θ, ag_rf, rfl⟩ ⟨hK, hP, hD0.self, va_S.rf⟩ hl
section RN
variable {l : Launch} {own : String} {cc : ByteArray} {nL d mc ms : Nat} {G : GT} {pc : Nat} {lf lf' : Nat → Option Value} {st : List Value} {h : HP} {ce sl N : Nat} {E : Nat → vE}
theorem R_cret {Z : HP → Prop} {n0 : Nat} (hd : decode cc pc = .ok (.return_, 1)) (hc : ce ≤ mc) (hs : sl ≤ ms) (hz : Z h) : Q l own cc nL d mc ms (GC n0 mc ms Z) pc lf [] h ce sl := by
  intro p e R s m args below meth c D dA θ A QQ H locs ls cx g wd hl
  obtain ⟨g1, g2, g3, θ0, g4, rfl⟩ := g
  refine W.widen hc hs ?_
  exact W.vret cx.1 cx.2.1 g1 (fun t ht hW => ⟨⟨h, θ, g4, rfl, hz, by rw [ht]; exact wd.2.1, wd.2.2.1⟩, wd.2.2.2.F ht⟩) wd.2.2.2.2.2 hd
theorem R_objI {idx a : Nat} (hlink : Cond.methodLink own idx Lib.objectInit ∈ TG) (hin : Cond.instanceMethod Lib.objectInit ∈ TG) (hco : Cond.code Lib.objectInit ⟨#[0xb1]⟩ 1 none ∈ TG) (hd : decode cc pc = .ok (.invokespecial idx, 3)) (hdd : 1 ≤ d) (hcat : (st.map fun v => v.category).sum ≤ 8)
    (kk : Q l own cc nL d mc ms G (pc + 3) lf st h ce sl) : Q l own cc nL d mc ms G pc lf (.ref a :: st) h ce sl := by
  intro p e R s m args below meth c D dA θ A QQ H locs ls cx g wd hl
  have x7 := cx.2.2.2.2.2.2.1
  refine W.objInit cx.1 cx.2.1 cx.2.2.2.1 (cx.2.2.2.2.1 _ hlink) (cx.2.2.2.2.1 _ hin) (cx.2.2.2.2.1 _ hco) rfl (hl.1.trans cx.2.2.1.symm) rfl hd (by omega) (by show 2 * 0 + _ + 12 ≤ _; rw [cat_sum]; omega) ?_
  exact kk p e R s m args below meth c D dA θ A QQ H locs ls cx g wd hl
theorem R_new {ci idx n : Nat} {C : String} {T : u_T} {ty : Nat → FieldType} {fs : List Value} (ok : clsOK ci C T n ty) (hcl : Cond.classLink own idx C ∈ TG) (hinst : Cond.instantiable C n ∈ TG) (hini : Cond.initialized C ∈ TG) (hfs : ∀ j, j < n → defaultValue (ty j) = vp_V fs j) (hr : ∀ θ, fs.map (cvV θ) = fs)
    (hd : decode cc pc = .ok (.new idx, 3)) (hG : EXT G N) (hC : CLO N E) (hlf : cLf N lf) (hst : cVs N st) (hN : N < 475) (hce : ce + 1 ≤ mc) (hsl : sl + n ≤ ms)
    (kk : Q l own cc nL d mc ms G (pc + 3) lf (.ref N :: st) (N + 1, nE E N (.inr (ci, fs))) (ce + 1) (sl + n)) : Q l own cc nL d mc ms G pc lf st (N, E) ce sl := by
  intro p e R s m args below meth c D dA θ A QQ H locs ls cx g wd hl
  have x7 := cx.2.2.2.2.2.2.1
  refine va_new (ci := ci) (fs := fs) cx.1 cx.2.1 cx.2.2.2.2.1 ok.2.1 ty ok.2.2.1 cx.2.2.2.1 (cx.2.2.2.2.1 _ hcl) (cx.2.2.2.2.1 _ hinst) (cx.2.2.2.2.1 _ hini) wd.1 wd.2.1 wd.2.2.1 wd.2.2.2 cx.2.2.2.2.2.1 ok.1 hfs (by omega) (by omega) hd (fun q H1 hP hD hS => ?_)
  have ha : ag N θ (tu θ N q) := ag_tu hN
  have ht : tu θ N q N = q := if_pos rfl
  have he : wsH θ dA (N, E) ++ [(q, .inr (ci, fs))] = wsH (tu θ N q) dA (N + 1, nE E N (.inr (ci, fs))) := by
    rw [wsH_new ha hC, ht]
    show _ = wsH θ dA (N, E) ++ [(q, .inr (ci, fs.map (cvV (tu θ N q))))]
    rw [hr]
  rw [he] at hP hD
  have h9 := kk p e R s m args below meth c D dA (tu θ N q) A QQ H1 locs ls cx (hG _ _ _ _ _ _ _ _ _ _ _ _ _ _ _ ha g) ⟨wd.1, hP, hD, hS⟩ (by rw [lcv_ag ha hlf]; exact hl)
  rw [List.map_cons, st_ag ha hst, show cvV (tu θ N q) (.ref N) = .ref q from by show Value.ref _ = _; rw [ht]] at h9
  exact h9
theorem R_newa {t N' : Nat} {atype : ArrayType} {ty : FieldType} {a0 : vp_A} {n : Int32} (ht0 : ∀ dA, (tysA dA)[t]? = some (dA t, ty)) (hty : newarray.typeOf atype = ty) (harr : Cond.arrayClass ty ∈ TG) (ha0 : ∀ cA : ClassId, vp_cell cA a0 = arrV cA N' (fun _ => defaultValue ty)) (hcv : ∀ θ, cvA θ a0 = a0) (hn : ¬ n < 0) (hN' : n.toNatClampNeg = N') (hby : N' * componentBytes ty ≤ 536870912)
    (hd : decode cc pc = .ok (.newarray atype, 2)) (hG : EXT G N) (hC : CLO N E) (hlf : cLf N lf) (hst : cVs N st) (hN : N < 475) (hce : ce + 1 ≤ mc) (hsl : sl + N' ≤ ms)
    (kk : Q l own cc nL d mc ms G (pc + 2) lf (.ref N :: st) (N + 1, nE E N (.inl (t, a0))) (ce + 1) (sl + N')) : Q l own cc nL d mc ms G pc lf (.int n :: st) (N, E) ce sl := by
  intro p e R s m args below meth c D dA θ A QQ H locs ls cx g wd hl
  have x7 := cx.2.2.2.2.2.2.1
  refine va_newa (a0 := a0) cx.1 cx.2.1 (by rw [hty]; exact cx.2.2.2.2.1 _ harr) hty wd.1 wd.2.1 wd.2.2.1 wd.2.2.2 cx.2.2.2.2.2.1 ha0 hn hN' hby (by omega) (by omega) hd (fun q cA H1 hK hP hD hS => ?_)
  have hcA : cA = dA t := RA_u (hK.2 6 (cA, ty) (by simp [tysA])).2 (wd.1.2 t _ (ht0 dA)).2
  subst hcA
  have ha : ag N θ (tu θ N q) := ag_tu hN
  have ht : tu θ N q N = q := if_pos rfl
  have he : wsH θ dA (N, E) ++ [(q, .inl (dA t, a0))] = wsH (tu θ N q) dA (N + 1, nE E N (.inl (t, a0))) := by
    rw [wsH_new ha hC, ht]
    show _ = wsH θ dA (N, E) ++ [(q, .inl (dA t, cvA (tu θ N q) a0))]
    rw [hcv]
  rw [he] at hP hD
  have h9 := kk p e R s m args below meth c D dA (tu θ N q) A QQ H1 locs ls cx (hG _ _ _ _ _ _ _ _ _ _ _ _ _ _ _ ha g) ⟨wd.1, hP, hD, hS⟩ (by rw [lcv_ag ha hlf]; exact hl)
  rw [List.map_cons, st_ag ha hst, show cvV (tu θ N q) (.ref N) = .ref q from by show Value.ref _ = _; rw [ht]] at h9
  exact h9
theorem R_newq {t N' idx : Nat} {C : String} {n : Int32} (ht0 : ∀ dA, (tysA dA)[t]? = some (dA t, .object C)) (hcl : Cond.classLink own idx C ∈ TG) (hao : C = "SmokeRacks$Fish" ∨ C = "SmokeRacks$House") (hn : ¬ n < 0) (hN' : n.toNatClampNeg = N') (hby : N' * 4 ≤ 536870912)
    (hd : decode cc pc = .ok (.anewarray idx, 3)) (hG : EXT G N) (hC : CLO N E) (hlf : cLf N lf) (hst : cVs N st) (hN : N < 475) (hce : ce + 1 ≤ mc) (hsl : sl + N' ≤ ms)
    (kk : Q l own cc nL d mc ms G (pc + 3) lf (.ref N :: st) (N + 1, nE E N (.inl (t, N', .inr (.inr (.inr (.inr (fun _ => none))))))) (ce + 1) (sl + N')) : Q l own cc nL d mc ms G pc lf (.int n :: st) (N, E) ce sl := by
  intro p e R s m args below meth c D dA θ A QQ H locs ls cx g wd hl
  have x7 := cx.2.2.2.2.2.2.1
  have hao : va_AO C s := by
    rcases hao with rfl | rfl
    · exact cx.2.2.2.2.2.2.2.2.2.2.2.1
    · exact cx.2.2.2.2.2.2.2.2.2.2.2.2
  refine va_newq (C := C) cx.1 cx.2.1 cx.2.2.2.1 (cx.2.2.2.2.1 _ hcl) hao wd.1 wd.2.1 wd.2.2.1 wd.2.2.2 cx.2.2.2.2.2.1 hn hN' hby (by omega) (by omega) hd (fun q cA H1 hK hP hD hS => ?_)
  have hcA : cA = dA t := RA_u (hK.2 6 (cA, .object C) (by simp [tysA])).2 (wd.1.2 t _ (ht0 dA)).2
  subst hcA
  have ha : ag N θ (tu θ N q) := ag_tu hN
  have ht : tu θ N q N = q := if_pos rfl
  have he : wsH θ dA (N, E) ++ [(q, .inl (dA t, N', .inr (.inr (.inr (.inr (fun _ => none))))))] = wsH (tu θ N q) dA (N + 1, nE E N (.inl (t, N', .inr (.inr (.inr (.inr (fun _ => none))))))) := by
    rw [wsH_new ha hC, ht]
    rfl
  rw [he] at hP hD
  have h9 := kk p e R s m args below meth c D dA (tu θ N q) A QQ H1 locs ls cx (hG _ _ _ _ _ _ _ _ _ _ _ _ _ _ _ ha g) ⟨wd.1, hP, hD, hS⟩ (by rw [lcv_ag ha hlf]; exact hl)
  rw [List.map_cons, st_ag ha hst, show cvV (tu θ N q) (.ref N) = .ref q from by show Value.ref _ = _; rw [ht]] at h9
  exact h9
/-- behind a constructor -/
theorem R_afterC {p : Program} {e : Env} {R : Room} {s : State} {m : MethodId} {args : Array Value} {below : List Frame} {meth : Method} {c : Code} {D : va_G} {dA : Nat → ClassId} {θ : Nat → Nat} {A : Nat → Prop} {QQ : State → Prop} {H : Heap} {locs : List Loc} {ls : Array Slot} {a9 : Array Value}
    {Z : HP → Prop} {mc' ms' : Nat} {stk : List Value} (cx : CX l own cc nL d mc ms p R s m args c A) (g : G p e R s m args below meth c D dA θ A QQ) (wd : WD D dA θ A h s H locs) (hl : lv_has ls nL (lcv θ lf)) (hG : EXT G h.1) (hlf : cLf h.1 lf) (hst : cVs h.1 st)
    (hr : va_Run p l e R s m args below meth c H locs ce sl mc' ms' (F0 m pc ls stk) (st.map (cvV θ)) (QcN Z h.1 D dA θ (va_A (wsH θ dA h) H.size) a9) (va_A (wsH θ dA h) H.size))
    (kk : ∀ h1, Z h1 → Q l own cc nL d mc ms G (pc + 3) lf st h1 (ce + mc') (sl + ms')) : W p l e R s m args below meth c H locs ce sl QQ (F0 m pc ls stk) := by
  have hf := free_in cx.2.2.2.2.2.1 wd
  intro T hT X
  obtain ⟨v, st₀, t, T', L, h0, X', hL, e1, e2, ⟨⟨h1, θ1, ha, hv, hz, hP1, hD1⟩, hF⟩, stp⟩ := hr T hT X
  cases hv
  obtain ⟨k1, k2, k3⟩ := vx_keep h0 e1 wd.2.2.2 (fun q _ z => hf q z) hf hL hF
  obtain ⟨t2, a1, b1⟩ := kk h1 hz p e R s m args below meth c D dA θ1 A QQ T'.heap (locs ++ L) ls cx (hG _ _ _ _ _ _ _ _ _ _ _ _ _ _ _ ha g) ⟨wd.1, by rw [e1]; exact hP1, hD1.weaken (fun k q _ z => hf q.1 z), k3⟩ (by rw [lcv_ag ha hlf]; exact hl) T' rfl X'
  rw [st_ag ha hst] at a1
  exact ⟨t2, stp t2 a1, b1⟩
def CWI (own : String) (idx : Nat) (y : MethodName) (bytes : ByteArray) (maxL : Nat) (n : Nat) : Prop :=
  .methodLink own idx y ∈ TG ∧ .instanceMethod y ∈ TG ∧ .initialized y.cls ∈ TG ∧ .code y bytes maxL none ∈ TG ∧ (y.cls ≠ "java/lang/invoke/MethodHandle" ∧ y.cls ≠ "java/lang/invoke/VarHandle" ∧ (parseMethodDescriptor y.desc).map (fun d => d.parameters.length) = some n) ∧ maxL ≤ 40 ∧ y.name = "<init>"
def CWJ (own : String) (idx : Nat) (y : MethodName) (host : String) (bytes : ByteArray) (maxL : Nat) (n : Nat) : Prop :=
  .methodLinkNest own idx y host ∈ TN ∧ .instanceMethod y ∈ TG ∧ .initialized y.cls ∈ TG ∧ .code y bytes maxL none ∈ TG ∧ (y.cls ≠ "java/lang/invoke/MethodHandle" ∧ y.cls ≠ "java/lang/invoke/VarHandle" ∧ (parseMethodDescriptor y.desc).map (fun d => d.parameters.length) = some n) ∧ maxL ≤ 40 ∧ y.name = "<init>"
theorem R_callI {y : MethodName} {bytes : ByteArray} {maxL idx d' mc' ms' n a : Nat} {As : List Value} {stk : List Value} {Z : HP → Prop}
    (cw : CWI own idx y bytes maxL n) (hM : CTR l y bytes maxL d' mc' ms' (.ref a :: As) h Z) (hd : decode cc pc = .ok (.invokespecial idx, 3))
    (hdd : d' + 1 ≤ d) (hmc : ce + mc' ≤ mc) (hms : sl + ms' ≤ ms) (hn : As.length = n) (hstk : stk = As.reverse ++ .ref a :: st) (hcat : (st.map fun v => v.category).sum ≤ 8) (hG : EXT G h.1) (hlf : cLf h.1 lf) (hst : cVs h.1 st)
    (kk : ∀ h1, Z h1 → Q l own cc nL d mc ms G (pc + 3) lf st h1 (ce + mc') (sl + ms')) : Q l own cc nL d mc ms G pc lf stk h ce sl := by
  subst hstk
  intro p e R s m args below meth c D dA θ A QQ H locs ls cx g wd hl
  obtain ⟨w1, w2, w4, w5, w6, w7, w8⟩ := cw
  obtain ⟨x1, x2, x3, x4, x5, x6, ⟨x7, x8, x9, x10⟩, x11, x12, x13, x14, x15, x16⟩ := id cx
  have hG9 : GoodIn TG (.code y bytes maxL none :: TG) := TG_in fun w hw => by
    rcases List.mem_cons.mp hw with rfl | hw
    · exact w5
    · exact hw
  have hcw := cwI (R := R) (s := s) (args := args) (own := own) (index := idx) (y := y) (bytes := bytes) (maxL := maxL) (rm := rmD d' mc' ms') (mc := mc') (ms := ms') n x5 hG9 rfl rfl rfl (x5 _ w4) (x5 _ w1) (x5 _ w2) w8 w6 ⟨by show d' + 1 ≤ R.frames; omega, by show 8 + (maxL + 11) + 64 * d' ≤ R.locals; omega⟩
  refine R_afterC (a9 := (Value.ref (θ a) :: As.map (cvV θ)).toArray) cx g wd hl hG hlf hst ?_ kk
  exact va_runI (As := As.map (cvV θ)) ⟨x1, x2, x3, x4, x5⟩ (hM D dA θ H.size) hcw ⟨BM_blind, fun U hU hW => ⟨rfl, BM_of cx wd hU hW⟩⟩ rfl (by rw [List.length_map]; exact hn) hl.1 (by simp [cvV]) (by show 2 * 0 + _ ≤ 8; rw [cat_sum]; omega) hd ⟨by omega, by omega⟩
theorem R_callJ {y : MethodName} {host : String} {bytes : ByteArray} {maxL idx d' mc' ms' n a : Nat} {As : List Value} {stk : List Value} {Z : HP → Prop}
    (cw : CWJ own idx y host bytes maxL n) (hM : CTR l y bytes maxL d' mc' ms' (.ref a :: As) h Z) (hd : decode cc pc = .ok (.invokespecial idx, 3))
    (hdd : d' + 1 ≤ d) (hmc : ce + mc' ≤ mc) (hms : sl + ms' ≤ ms) (hn : As.length = n) (hstk : stk = As.reverse ++ .ref a :: st) (hcat : (st.map fun v => v.category).sum ≤ 8) (hG : EXT G h.1) (hlf : cLf h.1 lf) (hst : cVs h.1 st)
    (kk : ∀ h1, Z h1 → Q l own cc nL d mc ms G (pc + 3) lf st h1 (ce + mc') (sl + ms')) : Q l own cc nL d mc ms G pc lf stk h ce sl := by
  subst hstk
  intro p e R s m args below meth c D dA θ A QQ H locs ls cx g wd hl
  obtain ⟨w1, w2, w4, w5, w6, w7, w8⟩ := cw
  obtain ⟨x1, x2, x3, x4, x5, x6, ⟨x7, x8, x9, x10⟩, x11, x12, x13, x14, x15, x16⟩ := id cx
  have hG9 : GoodIn TG (.code y bytes maxL none :: TG) := TG_in fun w hw => by
    rcases List.mem_cons.mp hw with rfl | hw
    · exact w5
    · exact hw
  have hcw := va_cnB (R := R) (s := s) (args := args) (own := own) (host := host) (index := idx) (y := y) (bytes := bytes) (maxL := maxL) (ret := none) (rm := rmD d' mc' ms') (mc := mc') (ms := ms') n x5 hG9 rfl rfl rfl (va_Nw.of rfl (x14 _ w1)) (x5 _ w4) w6 ⟨by show d' + 1 ≤ R.frames; omega, by show 8 + (maxL + 11) + 64 * d' ≤ R.locals; omega⟩
  refine R_afterC (a9 := (Value.ref (θ a) :: As.map (cvV θ)).toArray) cx g wd hl hG hlf hst ?_ kk
  exact va_runIN (As := As.map (cvV θ)) ⟨x1, x2, x3, x4, x5⟩ (hM D dA θ H.size) ⟨hcw, w8, x5 _ w2⟩ ⟨BM_blind, fun U hU hW => ⟨rfl, BM_of cx wd hU hW⟩⟩ rfl (by rw [List.length_map]; exact hn) hl.1 (by simp [cvV]) (by show 2 * 0 + _ ≤ 8; rw [cat_sum]; omega) hd ⟨by omega, by omega⟩
/-- rows of a heap given by its number and its function -/
theorem R_putN {ci : Nat} {C : String} {T : u_T} {n : Nat} {ty : Nat → FieldType} {a k idx x : Nat} {fs fs' : List Value} (ok : clsOK ci C T n ty) (hk : k < n) (hw : Cond.fieldLink own idx (T k).1 (T k).2.1 (T k).2.2.1 ∈ TG) (hfin : (T k).2.2.2 = true) (hdecl : (T k).1 = own)
    (hn : ∀ y, narrow (ty k) (.ref y) = .ref y) (hfit : ∀ y, fits (ty k) (.ref y) = true) (hd : decode cc pc = .ok (.putfield idx, 3)) (ha : E a = .inr (ci, fs)) (hN : a < N) (hl9 : k < fs.length)
    (hG : ∀ p e R s m args below meth c D dA θ A QQ, G p e R s m args below meth c D dA θ A QQ → meth.name = "<init>") (he : fs.set k (.ref x) = fs')
    (kk : Q l own cc nL d mc ms G (pc + 3) lf st (N, nE E a (.inr (ci, fs'))) ce sl) : Q l own cc nL d mc ms G pc lf (.ref x :: .ref a :: st) (N, E) ce sl := by
  subst he
  exact R_putF (h := (N, E)) ok hk hw hfin hdecl hn hfit hd ha hN hl9 hG kk
theorem R_putI {ci : Nat} {C : String} {T : u_T} {n : Nat} {ty : Nat → FieldType} {a k idx : Nat} {fs fs' : List Value} {x : Int32} (ok : clsOK ci C T n ty) (hk : k < n) (hw : Cond.fieldLink own idx (T k).1 (T k).2.1 (T k).2.2.1 ∈ TG) (hfin : (T k).2.2.2 = false)
    (hn : narrow (ty k) (.int x) = .int x) (hfit : fits (ty k) (.int x) = true) (hd : decode cc pc = .ok (.putfield idx, 3)) (ha : E a = .inr (ci, fs)) (hN : a < N) (hl9 : k < fs.length) (he : fs.set k (.int x) = fs')
    (kk : Q l own cc nL d mc ms G (pc + 3) lf st (N, nE E a (.inr (ci, fs'))) ce sl) : Q l own cc nL d mc ms G pc lf (.int x :: .ref a :: st) (N, E) ce sl := by
  subst he
  exact R_put (h := (N, E)) ok hk hw hfin hn hfit hd ha hN hl9 kk
theorem R_getN {ci : Nat} {C : String} {T : u_T} {n : Nat} {ty : Nat → FieldType} {a k idx : Nat} {fs : List Value} {v : Value} (ok : clsOK ci C T n ty) (hk : k < n) (hw : Cond.fieldLink own idx (T k).1 (T k).2.1 (T k).2.2.1 ∈ TG)
    (hd : decode cc pc = .ok (.getfield idx, 3)) (ha : E a = .inr (ci, fs)) (hN : a < N) (hv : fs[k]? = some v) (kk : Q l own cc nL d mc ms G (pc + 3) lf (v :: st) (N, E) ce sl) : Q l own cc nL d mc ms G pc lf (.ref a :: st) (N, E) ce sl := R_get (h := (N, E)) ok hk hw hd ha hN hv kk
theorem R_aastN {a n t ci v : Nat} {r : vw_C} {vs : List Value} {f f' : Nat → Option Nat} {i : Int32} (ht : ∀ dA, (tysA dA)[t]? = some (dA t, .object r.1)) (hd : decode cc pc = .ok (.aastore, 1)) (ha : E a = .inl (t, n, .inr (.inr (.inr (.inr f))))) (hN : a < N) (hv : E v = .inr (ci, vs)) (hvN : v < N) (hc : CLs[ci]? = some r) (hi : vp_in i n) (hf' : va_up f i.toNatClampNeg (some v) = f')
    (kk : Q l own cc nL d mc ms G (pc + 1) lf st (N, nE E a (.inl (t, n, .inr (.inr (.inr (.inr f')))))) ce sl) : Q l own cc nL d mc ms G pc lf (.ref v :: .int i :: .ref a :: st) (N, E) ce sl := by
  subst hf'
  exact R_aast (h := (N, E)) ht hd ha hN hv hvN hc hi kk
theorem R_alenN {a n t : Nat} {ty : FieldType} {x : vp_A} {v : Int32} (ht : ∀ dA, (tysA dA)[t]? = some (dA t, ty)) (hd : decode cc pc = .ok (.arraylength, 1)) (ha : E a = .inl (t, x)) (hN : a < N) (hx : x.1 = n) (hv : Int32.ofNat n = v) (kk : Q l own cc nL d mc ms G (pc + 1) lf (.int v :: st) (N, E) ce sl) : Q l own cc nL d mc ms G pc lf (.ref a :: st) (N, E) ce sl := R_alen (h := (N, E)) ht hd ha hN hx hv kk
end RN
