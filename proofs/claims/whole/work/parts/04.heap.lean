def clsOK (ci : Nat) (C : String) (T : u_T) (N : Nat) (ty : Nat → FieldType) : Prop :=
  CLs[ci]? = some (C, T, N) ∧ (∀ w ∈ u_ws C T N, w ∈ TG) ∧ (∀ k, k < N → parseFieldDescriptor (T k).2.2.1 = some (ty k)) ∧ ∀ a, a < N → ∀ b, b < N → a ≠ b → (T a).2.1 ≠ (T b).2.1
theorem cok0 : clsOK 0 RX0 TX0 9 tyX0 := ⟨rfl, by decide +kernel, tyX0_ok, nmX0⟩
theorem cok1 : clsOK 1 RX1 TX1 2 tyX1 := ⟨rfl, by decide +kernel, tyX1_ok, nmX1⟩
theorem cok2 : clsOK 2 RX2 TX2 2 tyX2 := ⟨rfl, by decide +kernel, tyX2_ok, nmX2⟩
theorem cok3 : clsOK 3 RX3 TX3 10 tyX3 := ⟨rfl, by decide +kernel, tyX3_ok, nmX3⟩
theorem cok4 : clsOK 4 RX4 TX4 2 tyX4 := ⟨rfl, by decide +kernel, tyX4_ok, nmX4⟩
theorem cok5 : clsOK 5 RX5 TX5 5 tyX5 := ⟨rfl, by decide +kernel, tyX5_ok, nmX5⟩
theorem cok6 : clsOK 6 RX6 TX6 9 tyX6 := ⟨rfl, by decide +kernel, tyX6_ok, nmX6⟩
theorem cok7 : clsOK 7 RX7 TX7 2 tyX7 := ⟨rfl, by decide +kernel, tyX7_ok, nmX7⟩
theorem cok8 : clsOK 8 RX8 TX8 2 tyX8 := ⟨rfl, by decide +kernel, tyX8_ok, nmX8⟩
theorem cok9 : clsOK 9 RX9 TX9 10 tyX9 := ⟨rfl, by decide +kernel, tyX9_ok, nmX9⟩
theorem cok10 : clsOK 10 RX10 TX10 21 tyX10 := ⟨rfl, by decide +kernel, tyX10_ok, nmX10⟩
section RH
variable {l : Launch} {own : String} {cc : ByteArray} {nL d mc ms : Nat} {G : GT} {pc : Nat} {lf lf' : Nat → Option Value} {st : List Value} {h : HP} {ce sl : Nat}
theorem R_get {ci : Nat} {C : String} {T : u_T} {N : Nat} {ty : Nat → FieldType} {a k idx : Nat} {fs : List Value} {v : Value} (ok : clsOK ci C T N ty) (hk : k < N) (hw : Cond.fieldLink own idx (T k).1 (T k).2.1 (T k).2.2.1 ∈ TG)
    (hd : decode cc pc = .ok (.getfield idx, 3)) (ha : h.2 a = .inr (ci, fs)) (hN : a < h.1) (hv : fs[k]? = some v) (kk : Q l own cc nL d mc ms G (pc + 3) lf (v :: st) h ce sl) : Q l own cc nL d mc ms G pc lf (.ref a :: st) h ce sl := by
  intro p e R s m args below meth c D dA θ A QQ H locs ls cx g wd hl
  exact va_get cx.1 cx.2.1 cx.2.2.2.2.1 ok.2.1 cx.2.2.2.1 wd.1 wd.2.1 a (fs := fs.map (cvV θ)) (by rw [ws_at θ dA hN, ha]; rfl) ok.1 k hk (cx.2.2.2.2.1 _ hw) (fun _ q => q) (by rw [List.getElem?_map, hv]; rfl) hd (kk p e R s m args below meth c D dA θ A QQ H locs ls cx g wd hl)
theorem R_put {ci : Nat} {C : String} {T : u_T} {N : Nat} {ty : Nat → FieldType} {a k idx : Nat} {fs : List Value} {x : Int32} (ok : clsOK ci C T N ty) (hk : k < N) (hw : Cond.fieldLink own idx (T k).1 (T k).2.1 (T k).2.2.1 ∈ TG) (hfin : (T k).2.2.2 = false)
    (hn : narrow (ty k) (.int x) = .int x) (hfit : fits (ty k) (.int x) = true) (hd : decode cc pc = .ok (.putfield idx, 3)) (ha : h.2 a = .inr (ci, fs)) (hN : a < h.1) (hl9 : k < fs.length) (kk : Q l own cc nL d mc ms G (pc + 3) lf st (hset h a (.inr (ci, fs.set k (.int x)))) ce sl) : Q l own cc nL d mc ms G pc lf (.int x :: .ref a :: st) h ce sl := by
  intro p e R s m args below meth c D dA θ A QQ H locs ls cx g wd hl
  refine va_put (ty := ty k) cx.1 cx.2.1 cx.2.2.2.2.1 ok.2.1 ty ok.2.2.1 ok.2.2.2 cx.2.2.2.1 wd.1 wd.2.1 wd.2.2.1 wd.2.2.2 a (fs := fs.map (cvV θ)) (by rw [ws_at θ dA hN, ha]; rfl) ok.1 k hk (cx.2.2.2.2.1 _ hw) (fun _ q => q) hfin (ok.2.2.1 k hk) hn hfit (by rw [List.length_map]; exact hl9) hd (fun H1 locs1 hP hD hS => ?_)
  have he : (θ a, (Sum.inr (ci, (fs.map (cvV θ)).set k (cvV θ (.int x))) : va_E)) = (θ a, cvE θ dA (.inr (ci, fs.set k (.int x)))) := by simp [cvE, List.map_set, cvV]
  rw [he, ws_set θ dA hN] at hP hD
  exact kk p e R s m args below meth c D dA θ A QQ H1 locs1 ls cx g ⟨wd.1, hP, hD, hS⟩ hl
/-- a final field of references, in a constructor -/
theorem R_putF {ci : Nat} {C : String} {T : u_T} {N : Nat} {ty : Nat → FieldType} {a k idx x : Nat} {fs : List Value} (ok : clsOK ci C T N ty) (hk : k < N) (hw : Cond.fieldLink own idx (T k).1 (T k).2.1 (T k).2.2.1 ∈ TG) (hfin : (T k).2.2.2 = true) (hdecl : (T k).1 = own)
    (hn : ∀ y, narrow (ty k) (.ref y) = .ref y) (hfit : ∀ y, fits (ty k) (.ref y) = true) (hd : decode cc pc = .ok (.putfield idx, 3)) (ha : h.2 a = .inr (ci, fs)) (hN : a < h.1) (hl9 : k < fs.length)
    (hG : ∀ p e R s m args below meth c D dA θ A QQ, G p e R s m args below meth c D dA θ A QQ → meth.name = "<init>")
    (kk : Q l own cc nL d mc ms G (pc + 3) lf st (hset h a (.inr (ci, fs.set k (.ref x)))) ce sl) : Q l own cc nL d mc ms G pc lf (.ref x :: .ref a :: st) h ce sl := by
  intro p e R s m args below meth c D dA θ A QQ H locs ls cx g wd hl
  refine va_putF (ty := ty k) (v := .ref (θ x)) cx.1 cx.2.1 cx.2.2.2.2.1 ok.2.1 ty ok.2.2.1 ok.2.2.2 cx.2.2.2.1 wd.1 wd.2.1 wd.2.2.1 wd.2.2.2 a (fs := fs.map (cvV θ)) (by rw [ws_at θ dA hN, ha]; rfl) ok.1 k hk (cx.2.2.2.2.1 _ hw) (fun _ q => q) hfin (hG _ _ _ _ _ _ _ _ _ _ _ _ _ _ g) hdecl (ok.2.2.1 k hk) (hn _) (hfit _) (by rw [List.length_map]; exact hl9) hd (fun H1 locs1 hP hD hS => ?_)
  have he : (θ a, (Sum.inr (ci, (fs.map (cvV θ)).set k (.ref (θ x))) : va_E)) = (θ a, cvE θ dA (.inr (ci, fs.set k (.ref x)))) := by simp [cvE, List.map_set, cvV]
  rw [he, ws_set θ dA hN] at hP hD
  exact kk p e R s m args below meth c D dA θ A QQ H1 locs1 ls cx g ⟨wd.1, hP, hD, hS⟩ hl
theorem R_iald {a n : Nat} {f : Nat → Int32} {i : Int32} (hd : decode cc pc = .ok (.iaload, 1)) (ha : h.2 a = .inl (1, n, .inl f)) (hN : a < h.1) (hi : vp_in i n) (kk : Q l own cc nL d mc ms G (pc + 1) lf (.int (f i.toNatClampNeg) :: st) h ce sl) : Q l own cc nL d mc ms G pc lf (.int i :: .ref a :: st) h ce sl := by
  intro p e R s m args below meth c D dA θ A QQ H locs ls cx g wd hl
  exact va_iald cx.1 cx.2.1 wd.1 wd.2.1 a 1 (by rw [ws_at θ dA hN, ha]; rfl) rfl hi hd (kk p e R s m args below meth c D dA θ A QQ H locs ls cx g wd hl)
theorem R_cald {a n : Nat} {f : Nat → Int32} {i : Int32} (hd : decode cc pc = .ok (.caload, 1)) (ha : h.2 a = .inl (0, n, .inl f)) (hN : a < h.1) (hi : vp_in i n) (kk : Q l own cc nL d mc ms G (pc + 1) lf (.int (f i.toNatClampNeg) :: st) h ce sl) : Q l own cc nL d mc ms G pc lf (.int i :: .ref a :: st) h ce sl := by
  intro p e R s m args below meth c D dA θ A QQ H locs ls cx g wd hl
  exact va_cald cx.1 cx.2.1 wd.1 wd.2.1 a 0 (by rw [ws_at θ dA hN, ha]; rfl) rfl hi hd (kk p e R s m args below meth c D dA θ A QQ H locs ls cx g wd hl)
theorem R_lald {a n : Nat} {f : Nat → Int64} {i : Int32} (hd : decode cc pc = .ok (.laload, 1)) (ha : h.2 a = .inl (4, n, .inr (.inl f))) (hN : a < h.1) (hi : vp_in i n) (kk : Q l own cc nL d mc ms G (pc + 1) lf (.long (f i.toNatClampNeg) :: st) h ce sl) : Q l own cc nL d mc ms G pc lf (.int i :: .ref a :: st) h ce sl := by
  intro p e R s m args below meth c D dA θ A QQ H locs ls cx g wd hl
  exact va_lald cx.1 cx.2.1 wd.1 wd.2.1 a 4 (by rw [ws_at θ dA hN, ha]; rfl) rfl hi hd (kk p e R s m args below meth c D dA θ A QQ H locs ls cx g wd hl)
theorem R_dald {a n : Nat} {f : Nat → UInt64} {i : Int32} (hd : decode cc pc = .ok (.daload, 1)) (ha : h.2 a = .inl (5, n, .inr (.inr (.inr (.inl f))))) (hN : a < h.1) (hi : vp_in i n) (kk : Q l own cc nL d mc ms G (pc + 1) lf (.double (f i.toNatClampNeg) :: st) h ce sl) : Q l own cc nL d mc ms G pc lf (.int i :: .ref a :: st) h ce sl := by
  intro p e R s m args below meth c D dA θ A QQ H locs ls cx g wd hl
  exact va_dald cx.1 cx.2.1 wd.1 wd.2.1 a 5 (by rw [ws_at θ dA hN, ha]; rfl) rfl hi hd (kk p e R s m args below meth c D dA θ A QQ H locs ls cx g wd hl)
theorem R_iast {a n : Nat} {f : Nat → Int32} {i : Int32} {x : Int32} (hd : decode cc pc = .ok (.iastore, 1)) (ha : h.2 a = .inl (1, n, .inl f)) (hN : a < h.1) (hi : vp_in i n) (kk : Q l own cc nL d mc ms G (pc + 1) lf st (hset h a (.inl (1, n, .inl (upd f i.toNatClampNeg x)))) ce sl) : Q l own cc nL d mc ms G pc lf (.int x :: .int i :: .ref a :: st) h ce sl := by
  intro p e R s m args below meth c D dA θ A QQ H locs ls cx g wd hl
  refine va_iast cx.1 cx.2.1 wd.1 wd.2.1 wd.2.2.1 wd.2.2.2 a 1 (by rw [ws_at θ dA hN, ha]; rfl) rfl hi hd (fun H1 locs1 hP hD hS => ?_)
  have hP' : va_P D CLs ((wsH θ dA h).set a (θ a, cvE θ dA (.inl (1, n, .inl (upd f i.toNatClampNeg x))))) H1 := hP
  have hD' : va_D A ((wsH θ dA h).set a (θ a, cvE θ dA (.inl (1, n, .inl (upd f i.toNatClampNeg x))))) := hD
  rw [ws_set θ dA hN] at hP' hD'
  exact kk p e R s m args below meth c D dA θ A QQ H1 locs1 ls cx g ⟨wd.1, hP', hD', hS⟩ hl
theorem R_cast {a n : Nat} {f : Nat → Int32} {i : Int32} {x : Int32} (hd : decode cc pc = .ok (.castore, 1)) (ha : h.2 a = .inl (0, n, .inl f)) (hN : a < h.1) (hi : vp_in i n) (kk : Q l own cc nL d mc ms G (pc + 1) lf st (hset h a (.inl (0, n, .inl (upd f i.toNatClampNeg (vp_nar .char x))))) ce sl) : Q l own cc nL d mc ms G pc lf (.int x :: .int i :: .ref a :: st) h ce sl := by
  intro p e R s m args below meth c D dA θ A QQ H locs ls cx g wd hl
  refine va_cast cx.1 cx.2.1 wd.1 wd.2.1 wd.2.2.1 wd.2.2.2 a 0 (by rw [ws_at θ dA hN, ha]; rfl) rfl hi hd (fun H1 locs1 hP hD hS => ?_)
  have hP' : va_P D CLs ((wsH θ dA h).set a (θ a, cvE θ dA (.inl (0, n, .inl (upd f i.toNatClampNeg (vp_nar .char x)))))) H1 := hP
  have hD' : va_D A ((wsH θ dA h).set a (θ a, cvE θ dA (.inl (0, n, .inl (upd f i.toNatClampNeg (vp_nar .char x)))))) := hD
  rw [ws_set θ dA hN] at hP' hD'
  exact kk p e R s m args below meth c D dA θ A QQ H1 locs1 ls cx g ⟨wd.1, hP', hD', hS⟩ hl
theorem R_last {a n : Nat} {f : Nat → Int64} {i : Int32} {x : Int64} (hd : decode cc pc = .ok (.lastore, 1)) (ha : h.2 a = .inl (4, n, .inr (.inl f))) (hN : a < h.1) (hi : vp_in i n) (kk : Q l own cc nL d mc ms G (pc + 1) lf st (hset h a (.inl (4, n, .inr (.inl (vp_updL f i.toNatClampNeg x))))) ce sl) : Q l own cc nL d mc ms G pc lf (.long x :: .int i :: .ref a :: st) h ce sl := by
  intro p e R s m args below meth c D dA θ A QQ H locs ls cx g wd hl
  refine va_last cx.1 cx.2.1 wd.1 wd.2.1 wd.2.2.1 wd.2.2.2 a 4 (by rw [ws_at θ dA hN, ha]; rfl) rfl hi hd (fun H1 locs1 hP hD hS => ?_)
  have hP' : va_P D CLs ((wsH θ dA h).set a (θ a, cvE θ dA (.inl (4, n, .inr (.inl (vp_updL f i.toNatClampNeg x)))))) H1 := hP
  have hD' : va_D A ((wsH θ dA h).set a (θ a, cvE θ dA (.inl (4, n, .inr (.inl (vp_updL f i.toNatClampNeg x)))))) := hD
  rw [ws_set θ dA hN] at hP' hD'
  exact kk p e R s m args below meth c D dA θ A QQ H1 locs1 ls cx g ⟨wd.1, hP', hD', hS⟩ hl
theorem R_dast {a n : Nat} {f : Nat → UInt64} {i : Int32} {x : UInt64} (hd : decode cc pc = .ok (.dastore, 1)) (ha : h.2 a = .inl (5, n, .inr (.inr (.inr (.inl f))))) (hN : a < h.1) (hi : vp_in i n) (kk : Q l own cc nL d mc ms G (pc + 1) lf st (hset h a (.inl (5, n, .inr (.inr (.inr (.inl (vf_upd f i.toNatClampNeg x))))))) ce sl) : Q l own cc nL d mc ms G pc lf (.double x :: .int i :: .ref a :: st) h ce sl := by
  intro p e R s m args below meth c D dA θ A QQ H locs ls cx g wd hl
  refine va_dast cx.1 cx.2.1 wd.1 wd.2.1 wd.2.2.1 wd.2.2.2 a 5 (by rw [ws_at θ dA hN, ha]; rfl) rfl hi hd (fun H1 locs1 hP hD hS => ?_)
  have hP' : va_P D CLs ((wsH θ dA h).set a (θ a, cvE θ dA (.inl (5, n, .inr (.inr (.inr (.inl (vf_upd f i.toNatClampNeg x)))))))) H1 := hP
  have hD' : va_D A ((wsH θ dA h).set a (θ a, cvE θ dA (.inl (5, n, .inr (.inr (.inr (.inl (vf_upd f i.toNatClampNeg x)))))))) := hD
  rw [ws_set θ dA hN] at hP' hD'
  exact kk p e R s m args below meth c D dA θ A QQ H1 locs1 ls cx g ⟨wd.1, hP', hD', hS⟩ hl
theorem R_aald {a n t b : Nat} {C : String} {f : Nat → Option Nat} {i : Int32} (ht : ∀ dA, (tysA dA)[t]? = some (dA t, .object C)) (hd : decode cc pc = .ok (.aaload, 1)) (ha : h.2 a = .inl (t, n, .inr (.inr (.inr (.inr f))))) (hN : a < h.1) (hi : vp_in i n) (hb : f i.toNatClampNeg = some b) (kk : Q l own cc nL d mc ms G (pc + 1) lf (.ref b :: st) h ce sl) : Q l own cc nL d mc ms G pc lf (.int i :: .ref a :: st) h ce sl := by
  intro p e R s m args below meth c D dA θ A QQ H locs ls cx g wd hl
  refine va_aldq cx.1 cx.2.1 wd.1 wd.2.1 a t (f := fun k => (f k).map θ) (by rw [ws_at θ dA hN, ha]; rfl) (ht dA) hi hd ?_
  rw [hb]
  exact kk p e R s m args below meth c D dA θ A QQ H locs ls cx g wd hl
theorem R_aast {a n t ci v : Nat} {r : vw_C} {vs : List Value} {f : Nat → Option Nat} {i : Int32} (ht : ∀ dA, (tysA dA)[t]? = some (dA t, .object r.1)) (hd : decode cc pc = .ok (.aastore, 1)) (ha : h.2 a = .inl (t, n, .inr (.inr (.inr (.inr f))))) (hN : a < h.1) (hv : h.2 v = .inr (ci, vs)) (hvN : v < h.1) (hc : CLs[ci]? = some r) (hi : vp_in i n)
    (kk : Q l own cc nL d mc ms G (pc + 1) lf st (hset h a (.inl (t, n, .inr (.inr (.inr (.inr (va_up f i.toNatClampNeg (some v)))))))) ce sl) : Q l own cc nL d mc ms G pc lf (.ref v :: .int i :: .ref a :: st) h ce sl := by
  intro p e R s m args below meth c D dA θ A QQ H locs ls cx g wd hl
  refine va_astq cx.1 cx.2.1 wd.1 wd.2.1 wd.2.2.1 wd.2.2.2 a t v ci (f := fun k => (f k).map θ) (vs := vs.map (cvV θ)) (by rw [ws_at θ dA hN, ha]; rfl) (ht dA) (by rw [ws_at θ dA hvN, hv]; rfl) hc hi hd (fun H1 locs1 hP hD hS => ?_)
  have he : (θ a, (Sum.inl (dA t, n, .inr (.inr (.inr (.inr (va_up (fun k => (f k).map θ) i.toNatClampNeg (some (θ v))))))) : va_E)) = (θ a, cvE θ dA (.inl (t, n, .inr (.inr (.inr (.inr (va_up f i.toNatClampNeg (some v)))))))) := by
    have h9 : va_up (fun k => (f k).map θ) i.toNatClampNeg (some (θ v)) = fun k => (va_up f i.toNatClampNeg (some v) k).map θ := by
      funext k
      by_cases hk : k = i.toNatClampNeg <;> simp [va_up, hk]
    rw [h9]
    rfl
  rw [he, ws_set θ dA hN] at hP hD
  exact kk p e R s m args below meth c D dA θ A QQ H1 locs1 ls cx g ⟨wd.1, hP, hD, hS⟩ hl
theorem R_alen {a n t : Nat} {ty : FieldType} {x : vp_A} {v : Int32} (ht : ∀ dA, (tysA dA)[t]? = some (dA t, ty)) (hd : decode cc pc = .ok (.arraylength, 1)) (ha : h.2 a = .inl (t, x)) (hN : a < h.1) (hx : x.1 = n) (hv : Int32.ofNat n = v) (kk : Q l own cc nL d mc ms G (pc + 1) lf (.int v :: st) h ce sl) : Q l own cc nL d mc ms G pc lf (.ref a :: st) h ce sl := by
  intro p e R s m args below meth c D dA θ A QQ H locs ls cx g wd hl
  have hcv : (cvA θ x).1 = n := by
    rw [← hx]
    obtain ⟨n0, f⟩ := x
    rcases f with f | f | f | f | f <;> rfl
  exact va_alen cx.1 cx.2.1 wd.1 wd.2.1 a t (x := cvA θ x) (by rw [ws_at θ dA hN, ha]; rfl) (ht dA) (by rw [hcv]; exact hv) hd (kk p e R s m args below meth c D dA θ A QQ H locs ls cx g wd hl)
/-! contracts -/
def rmD (d mc ms : Nat) : Room := { frames := d, cells := mc, slots := ms, locals := 64 * d }
def BM (D : va_G) (dA : Nat → ClassId) (θ : Nat → Nat) (h : HP) (sz : Nat) (U : State) : Prop :=
  U.heap.size = sz ∧ va_P D CLs (wsH θ dA h) U.heap ∧ va_K D CLs (tysA dA) U ∧ va_D (fun _ => True) (wsH θ dA h) ∧ vx_Zq Bundle.tN "UNASSIGNED_STACK" Bundle.steD (va_A (wsH θ dA h) sz) U U.heap ∧ vx_Zq Bundle.tN "SUPPRESSED_SENTINEL" Bundle.listD (va_A (wsH θ dA h) sz) U U.heap ∧ (∀ w ∈ TN, va_Nw w U) ∧ va_AO "SmokeRacks$Fish" U ∧ va_AO "SmokeRacks$House" U
def QcM (Z : Option Value ⊕ String → HP → Prop) (D : va_G) (dA : Nat → ClassId) (θ : Nat → Nat) (A : Nat → Prop) : Array Value → State → Outcome → State → Prop := fun _ s oc t =>
  (∃ v h1, oc = .returned (v.map (cvV θ)) ∧ Z (.inl v) h1 ∧ va_P D CLs (wsH θ dA h1) t.heap ∧ va_D A (wsH θ dA h1)) ∧ va_F A s t
def XcM (Z : Option Value ⊕ String → HP → Prop) (D : va_G) (dA : Nat → ClassId) (θ : Nat → Nat) (A : Nat → Prop) : String → State → State → Prop := fun E s t =>
  (∃ h1, Z (.inr E) h1 ∧ va_P D CLs (wsH θ dA h1) t.heap ∧ va_D A (wsH θ dA h1)) ∧ va_F A s t
def VM (l : Launch) (y : MethodName) (cc : ByteArray) (nL : Nat) (ret : Option FieldType) (d mc ms : Nat) (As : List Value) (h : HP) (Z : Option Value ⊕ String → HP → Prop) : Prop :=
  ∀ (D : va_G) (dA : Nat → ClassId) (θ : Nat → Nat) (sz : Nat), vx_Met l y (.code y cc nL ret :: TG) (rmD d mc ms) (va_Pc (As.map (cvV θ)) (BM D dA θ h sz)) (QcM Z D dA θ (va_A (wsH θ dA h) sz)) (XcM Z D dA θ (va_A (wsH θ dA h) sz)) mc ms (va_A (wsH θ dA h) sz)
def GM (ret : Option FieldType) (mc ms : Nat) (Z : Option Value ⊕ String → HP → Prop) : GT := fun _ _ _ s _ args below meth c D dA θ A QQ =>
  meth.sig.returnType = ret ∧ meth.locks = false ∧ (∀ x ∈ c.exceptionTable.toList, False) ∧ QQ = vx_MQ below (QcM Z D dA θ A) (XcM Z D dA θ A) args s mc ms A
set_option maxRecDepth 20000 in
theorem VM.intro {y : MethodName} {ret : Option FieldType} {As : List Value} {Z : Option Value ⊕ String → HP → Prop} {lf : Nat → Option Value} (hy : plainName y.cls = true) (hf : l.stackTraces = false) (hsz : ∀ θ, (lg_sl (As.map (cvV θ))).length ≤ nL) (hlf : ∀ θ, lcv θ lf = lv_args 0 (As.map (cvV θ)))
    (k : Q l y.cls cc nL d mc ms (GM ret mc ms Z) 0 lf [] h 0 0) : VM l y cc nL ret d mc ms As h Z := by
  intro D dA θ sz
  refine vx_ofW (cc := cc) (maxL := nL) (ret := ret) hy rfl ?_
  intro p e s m args below meth c s₁ B hml ht hv
  obtain ⟨rfl, hsz0, hP, hK, hD0, hU, hN, hW4, hO1, hO2⟩ := hv
  subst hsz0
  have hts := atoms_spec (ws := .code y cc nL ret :: TG) B.pre
  have hts' : ∀ w ∈ TG, w.before _ s = true := fun w hw => hts w (List.mem_cons_of_mem _ hw)
  have hown : s.vm.findClass y.cls = some m.cls := findClass_of_methodNamed B.named
  have hl := lv_entry (As.map (cvV θ)) (n := nL) (hsz θ)
  rw [lg_entry_eq]
  generalize (lg_sl (As.map (cvV θ)) ++ List.replicate (nL - (lg_sl (As.map (cvV θ))).length) Slot.unset).toArray = ls at hl ⊢
  rw [← hlf θ] at hl
  exact k p e _ s m _ below meth c D dA θ (va_A (wsH θ dA h) s.heap.size) _ s.heap [] ls ⟨B.exec, B.bytes, hml, hown, hts', fun q hq => Or.inr hq, ⟨Nat.le_refl _, Nat.le_refl _, Nat.le_refl _, Nat.le_refl _⟩, hf, hU, hN, fun w hw => nk_use hw (hW4 w hw), hO1, hO2⟩ ⟨B.returns, B.notSynchronized, ht, rfl⟩ ⟨hK, hP, hD0.self, va_S.rf⟩ hl
/-! ends -/
theorem R_iret {Z : Option Value ⊕ String → HP → Prop} {ty : FieldType} {v : Int32} (hd : decode cc pc = .ok (.ireturn, 1)) (hn : narrow ty (.int v) = .int v) (hc : ce ≤ mc) (hs : sl ≤ ms) (hz : Z (.inl (some (.int v))) h) : Q l own cc nL d mc ms (GM (some ty) mc ms Z) pc lf [.int v] h ce sl := by
  intro p e R s m args below meth c D dA θ A QQ H locs ls cx g wd hl
  obtain ⟨g1, g2, g3, rfl⟩ := g
  refine vx_ret (W.widen hc hs ?_)
  exact W.zret (v := v) cx.1 cx.2.1 g1 hn (fun t ht hW => ⟨⟨some (.int v), h, rfl, hz, by rw [ht]; exact wd.2.1, wd.2.2.1⟩, wd.2.2.2.F ht⟩) wd.2.2.2.2.2 hd
theorem R_vret {Z : Option Value ⊕ String → HP → Prop} (hd : decode cc pc = .ok (.return_, 1)) (hc : ce ≤ mc) (hs : sl ≤ ms) (hz : Z (.inl none) h) : Q l own cc nL d mc ms (GM none mc ms Z) pc lf [] h ce sl := by
  intro p e R s m args below meth c D dA θ A QQ H locs ls cx g wd hl
  obtain ⟨g1, g2, g3, rfl⟩ := g
  refine vx_ret (W.widen hc hs ?_)
  exact W.vret cx.1 cx.2.1 g1 (fun t ht hW => ⟨⟨none, h, rfl, hz, by rw [ht]; exact wd.2.1, wd.2.2.1⟩, wd.2.2.2.F ht⟩) wd.2.2.2.2.2 hd
theorem R_aret {Z : Option Value ⊕ String → HP → Prop} {C : String} {v : Nat} (hd : decode cc pc = .ok (.areturn, 1)) (hc : ce ≤ mc) (hs : sl ≤ ms) (hz : Z (.inl (some (.ref v))) h) : Q l own cc nL d mc ms (GM (some (.object C)) mc ms Z) pc lf [.ref v] h ce sl := by
  intro p e R s m args below meth c D dA θ A QQ H locs ls cx g wd hl
  obtain ⟨g1, g2, g3, rfl⟩ := g
  refine vx_ret (W.widen hc hs ?_)
  exact W.aret (v := .ref (θ v)) cx.1 cx.2.1 g1 (Or.inl ⟨C, rfl⟩) (Or.inr ⟨_, rfl⟩) (fun t ht hW => ⟨⟨some (.ref v), h, rfl, hz, by rw [ht]; exact wd.2.1, wd.2.2.1⟩, wd.2.2.2.F ht⟩) wd.2.2.2.2.2 hd
theorem R_dret {Z : Option Value ⊕ String → HP → Prop} {v : UInt64} (hd : decode cc pc = .ok (.dreturn, 1)) (hc : ce ≤ mc) (hs : sl ≤ ms) (hz : Z (.inl (some (.double v))) h) : Q l own cc nL d mc ms (GM (some .double) mc ms Z) pc lf [.double v] h ce sl := by
  intro p e R s m args below meth c D dA θ A QQ H locs ls cx g wd hl
  obtain ⟨g1, g2, g3, rfl⟩ := g
  refine vx_ret (W.widen hc hs ?_)
  exact W.dret (v := v) cx.1 cx.2.1 g1 (fun t ht hW => ⟨⟨some (.double v), h, rfl, hz, by rw [ht]; exact wd.2.1, wd.2.2.1⟩, wd.2.2.2.F ht⟩) wd.2.2.2.2.2 hd
/-! throws -/
abbrev nmE : List String := ["java/lang/RuntimeException", "java/lang/Exception"]
def THW (own : String) (ik ic : Nat) (E : String) : Prop := Bundle.fit E = true ∧ .classLink own ik E ∈ TG ∧ .initialized E ∈ TG ∧ (∀ w ∈ vx_at0 own ic E nmE, w ∈ TG ∨ w ∈ TN) ∧ ∀ w ∈ Cond.classLink own ik E :: Cond.initialized E :: vx_at0 own ic E nmE, vx_ot w = true
theorem nmE_fit : ∀ n ∈ nmE, Bundle.fit n = true := by decide +kernel
theorem va_P.stay {D : va_G} {cl : List vw_C} {ws : va_W} {H H1 : Heap} (hP : va_P D cl ws H) (hk : ∀ q, q < H.size → H1[q]? = H[q]?) : va_P D cl ws H1 := fun k q hq => (hP k q hq).kept (hk q.1 (hP k q hq).lt)
theorem R_throw {Z : Option Value ⊕ String → HP → Prop} {ret : Option FieldType} {E : String} {ik ic : Nat} (tw : THW own ik ic E) (d0 : decode cc pc = .ok (.new ik, 3)) (d3 : decode cc (pc + 3) = .ok (.dup, 1)) (d4 : decode cc (pc + 4) = .ok (.invokespecial ic, 3)) (d7 : decode cc (pc + 7) = .ok (.athrow, 1))
    (hdd : 6 ≤ d) (hc : ce + 1 ≤ mc) (hs : sl + 6 ≤ ms) (hst : (st.map fun v => v.category).sum ≤ 100) (hz : Z (.inr E) h) : Q l own cc nL d mc ms (GM ret mc ms Z) pc lf st h ce sl := by
  intro p e R s m args below meth c D dA θ A QQ H locs ls cx g wd hl
  obtain ⟨g1, g2, g3, rfl⟩ := g
  obtain ⟨t1, t2, t3, t4, t5⟩ := tw
  obtain ⟨x1, x2, x3, x4, x5, x6, ⟨x7, x8, x9, x10⟩, x11, x12, x13, x14, x15, x16⟩ := cx
  have hcat : ((st.map (cvV θ)).map fun v => v.category) = st.map fun v => v.category := by
    rw [List.map_map]; exact List.map_congr_left fun v _ => cvV_cat θ v
  refine vx_throw0 (names := nmE) x1 x2 x11 x4 t1 nmE_fit (x5 _ t2) (x5 _ t3) (fun w hw => (t4 w hw).elim (x5 w) (x14 w)) t5 x12 x13 wd.2.2.2 (hl.1.trans x3.symm) d0 d3 d4 d7 (fun x hx => (g3 x hx).elim) (by show 2 + 3 < R.frames; omega) (by rw [hcat]; show _ + (13 * (2 + 1) + 42) ≤ R.locals; omega) (by omega) (by omega) g2 (fun t hvm hz1 hk => ?_) wd.2.2.2.2.2 hc hs
  exact ⟨⟨h, hz, wd.2.1.stay hk, wd.2.2.1⟩, ⟨Nat.le_trans wd.2.2.2.1 hz1, fun q q1 q2 => (hk q (Nat.lt_of_lt_of_le q1 wd.2.2.2.1)).trans (wd.2.2.2.2.1 q q1 q2)⟩⟩
theorem R_prop {Z : Option Value ⊕ String → HP → Prop} {ret : Option FieldType} {E : String} (hc : ce ≤ mc) (hs : sl ≤ ms) (hz : Z (.inr E) h) : QX l own cc nL d mc ms (GM ret mc ms Z) E pc lf st h ce sl := by
  intro p e R s m args below meth c D dA θ A QQ H locs ls q9 ce9 cx g wd hl h1 h2 h3
  obtain ⟨g1, g2, g3, rfl⟩ := g
  exact vx_out (fun x hx => (g3 x hx).elim) g2 h1 h2 h3 (fun t ht hvm => ⟨⟨h, hz, by rw [ht]; exact wd.2.1, wd.2.2.1⟩, wd.2.2.2.F ht⟩) wd.2.2.2.2.2 hc hs
/-! calls -/
theorem free_in {θ : Nat → Nat} {dA : Nat → ClassId} {A : Nat → Prop} {D : va_G} {s : State} {H : Heap} {locs : List Loc} (hA : ∀ q, s.heap.size ≤ q → A q) (wd : WD D dA θ A h s H locs) : ∀ q, va_A (wsH θ dA h) H.size q → A q := by
  intro q hq
  rcases hq with ⟨k, e, hk⟩ | hq
  · exact wd.2.2.1.2 k _ hk
  · exact hA q (Nat.le_trans wd.2.2.2.1 hq)
theorem BM_of {p : Program} {R : Room} {s U : State} {m : MethodId} {args : Array Value} {c : Code} {D : va_G} {dA : Nat → ClassId} {θ : Nat → Nat} {A : Nat → Prop} {H : Heap} {locs : List Loc} (cx : CX l own cc nL d mc ms p R s m args c A) (wd : WD D dA θ A h s H locs) (hU : U.heap = H) (hW : s.WarmedH U.vm) : BM D dA θ h H.size U := by
  obtain ⟨x1, x2, x3, x4, x5, x6, x7, x11, x12, x13, x14, x15, x16⟩ := cx
  have hf := free_in x6 wd
  have hvm : s.vm.Alike U.vm := hW.alike
  refine ⟨by rw [hU], by rw [hU]; exact wd.2.1, va_K.moved hvm wd.1, wd.2.2.1.weaken (fun _ _ _ _ => trivial), ?_, ?_, fun w hw => nk_warm hw hW (nk_of hw (x14 w hw)), x15.moved hvm, x16.moved hvm⟩
  · rw [hU]
    exact vx_Zq.moved hvm ((x12.kept wd.2.2.2.2.1).narrow hf)
  · rw [hU]
    exact vx_Zq.moved hvm ((x13.kept wd.2.2.2.2.1).narrow hf)
theorem BM_blind {D : va_G} {dA : Nat → ClassId} {θ : Nat → Nat} {As : List Value} {sz : Nat} : FrameBlind (va_Pc As (BM D dA θ h sz)) := by
  rintro a U g mk ⟨q0, q1, qP, qK, qD, qU, qN, qW, qO1, qO2⟩
  exact ⟨q0, q1, qP, va_K.moved (u := U) (U := U.calling g mk a) (Vm.Alike.refl U.vm) qK, qD, vx_Zq.moved (u := U) (U := U.calling g mk a) (Vm.Alike.refl U.vm) qU, vx_Zq.moved (u := U) (U := U.calling g mk a) (Vm.Alike.refl U.vm) qN, fun w hw => nk_same (u := U) (U := U.calling g mk a) hw rfl (qW w hw), va_AO.moved (u := U) (U := U.calling g mk a) (Vm.Alike.refl U.vm) qO1, va_AO.moved (u := U) (U := U.calling g mk a) (Vm.Alike.refl U.vm) qO2⟩
/-- what a run of a callee leaves, for the caller -/
theorem R_after {p : Program} {e : Env} {R : Room} {s : State} {m : MethodId} {args : Array Value} {below : List Frame} {meth : Method} {c : Code} {D : va_G} {dA : Nat → ClassId} {θ : Nat → Nat} {A : Nat → Prop} {QQ : State → Prop} {H : Heap} {locs : List Loc} {ls : Array Slot} {a9 : Array Value}
    {Z : Option Value ⊕ String → HP → Prop} {mc' ms' : Nat} {stk : List Value} (cx : CX l own cc nL d mc ms p R s m args c A) (g : G p e R s m args below meth c D dA θ A QQ) (wd : WD D dA θ A h s H locs) (hl : lv_has ls nL (lcv θ lf))
    (hr : vx_Run p l e R s m args below meth c H locs ce sl mc' ms' (F0 m pc ls stk) (st.map (cvV θ)) (QcM Z D dA θ (va_A (wsH θ dA h) H.size) a9) (XcM Z D dA θ (va_A (wsH θ dA h) H.size)) (va_A (wsH θ dA h) H.size))
    (kk : ∀ v h1, Z (.inl v) h1 → Q l own cc nL d mc ms G (pc + 3) lf (v.toList ++ st) h1 (ce + mc') (sl + ms'))
    (kx : ∀ E h1, Z (.inr E) h1 → QX l own cc nL d mc ms G E pc lf st h1 (ce + mc') (sl + ms')) : W p l e R s m args below meth c H locs ce sl QQ (F0 m pc ls stk) := by
  have hf := free_in cx.2.2.2.2.2.1 wd
  intro T hT X
  rcases hr T hT X with ⟨v, st₀, t, T', L, h0, X', hL, e1, e2, ⟨⟨v0, h1, hv, hz, hP1, hD1⟩, hF⟩, stp⟩ | ⟨q, st₀, t, T', L, E, ce9, h0, X', hL, e1, e2, ⟨⟨h1, hz, hP1, hD1⟩, hF⟩, hce, hcv, hcl, stp⟩
  · cases hv
    obtain ⟨k1, k2, k3⟩ := vx_keep h0 e1 wd.2.2.2 (fun q _ z => hf q z) hf hL hF
    obtain ⟨t2, a1, b1⟩ := kk v0 h1 hz p e R s m args below meth c D dA θ A QQ T'.heap (locs ++ L) ls cx g ⟨wd.1, by rw [e1]; exact hP1, hD1.weaken (fun k q _ z => hf q.1 z), k3⟩ hl T' rfl X'
    refine ⟨t2, stp t2 ?_, b1⟩
    cases v0 <;> exact a1
  · obtain ⟨k1, k2, k3⟩ := vx_keep h0 e1 wd.2.2.2 (fun q _ z => hf q z) hf hL hF
    obtain ⟨t2, a1, b1⟩ := kx E h1 hz p e R s m args below meth c D dA θ A QQ T'.heap (locs ++ L) ls q ce9 cx g ⟨wd.1, by rw [e1]; exact hP1, hD1.weaken (fun k q _ z => hf q.1 z), k3⟩ hl (by rw [e1]; exact hce) hcv hcl T' rfl X'
    exact ⟨t2, stp.trans a1, b1⟩
def CWV (own : String) (idx : Nat) (y : MethodName) (bytes : ByteArray) (maxL : Nat) (ret : Option FieldType) (n : Nat) : Prop :=
  .methodLink own idx y ∈ TG ∧ .instanceMethod y ∈ TG ∧ .selects y.cls y y ∈ TG ∧ .initialized y.cls ∈ TG ∧ .code y bytes maxL ret ∈ TG ∧ (y.cls = y.cls ∧ y.cls ≠ "java/lang/invoke/MethodHandle" ∧ y.cls ≠ "java/lang/invoke/VarHandle" ∧ (parseMethodDescriptor y.desc).map (fun d => d.parameters.length) = some n) ∧ maxL ≤ 40
def CWS (own : String) (idx : Nat) (y : MethodName) (bytes : ByteArray) (maxL : Nat) (ret : Option FieldType) (n : Nat) : Prop :=
  .methodLink own idx y ∈ TG ∧ .static y ∈ TG ∧ .initialized own ∈ TG ∧ .code y bytes maxL ret ∈ TG ∧ (y.cls = own ∧ y.cls ≠ "java/lang/invoke/MethodHandle" ∧ y.cls ≠ "java/lang/invoke/VarHandle" ∧ (parseMethodDescriptor y.desc).map (fun d => d.parameters.length) = some n) ∧ maxL ≤ 40
def CWN (own : String) (idx : Nat) (y : MethodName) (host : String) (bytes : ByteArray) (maxL : Nat) (ret : Option FieldType) (n : Nat) : Prop :=
  .methodLinkNest own idx y host ∈ TN ∧ .static y ∈ TG ∧ .initialized y.cls ∈ TG ∧ .code y bytes maxL ret ∈ TG ∧ (y.cls ≠ "java/lang/invoke/MethodHandle" ∧ y.cls ≠ "java/lang/invoke/VarHandle" ∧ (parseMethodDescriptor y.desc).map (fun d => d.parameters.length) = some n) ∧ maxL ≤ 40
theorem TG_good {w : Cond} (h : w ∈ TG) : w ∈ TG ∧ ((w.onTables && w.keeps) = true ∨ ∃ ty, w = .arrayClass ty) := ⟨h, good_of_word (List.mem_filter.mp h).2⟩
theorem TG_in {ws : List Cond} (h : ∀ w ∈ ws, w ∈ TG) : GoodIn TG ws := fun w hw => TG_good (h w hw)
theorem cat_sum (θ : Nat → Nat) (L : List Value) : ((L.map (cvV θ)).map fun v => v.category).sum = (L.map fun v => v.category).sum := by
  rw [List.map_map]
  exact congrArg List.sum (List.map_congr_left fun v _ => cvV_cat θ v)
theorem R_callV {y : MethodName} {bytes : ByteArray} {maxL idx d' mc' ms' n a ci : Nat} {ret : Option FieldType} {As : List Value} {fs : List Value} {T : u_T} {N : Nat} {stk : List Value} {Z : Option Value ⊕ String → HP → Prop}
    (cw : CWV own idx y bytes maxL ret n) (hM : VM l y bytes maxL ret d' mc' ms' (.ref a :: As) h Z) (hd : decode cc pc = .ok (.invokevirtual idx, 3)) (hcl : CLs[ci]? = some (y.cls, T, N)) (ha : h.2 a = .inr (ci, fs)) (hN : a < h.1)
    (hdd : d' + 1 ≤ d) (hmc : ce + mc' ≤ mc) (hms : sl + ms' ≤ ms) (hn : As.length = n) (hstk : stk = As.reverse ++ .ref a :: st) (hcat : (st.map fun v => v.category).sum ≤ 8)
    (kk : ∀ v h1, Z (.inl v) h1 → Q l own cc nL d mc ms G (pc + 3) lf (v.toList ++ st) h1 (ce + mc') (sl + ms'))
    (kx : ∀ E h1, Z (.inr E) h1 → QX l own cc nL d mc ms G E pc lf st h1 (ce + mc') (sl + ms')) : Q l own cc nL d mc ms G pc lf stk h ce sl := by
  subst hstk
  intro p e R s m args below meth c D dA θ A QQ H locs ls cx g wd hl
  obtain ⟨w1, w2, w3, w4, w5, w6, w7⟩ := cw
  obtain ⟨x1, x2, x3, x4, x5, x6, ⟨x7, x8, x9, x10⟩, x11, x12, x13, x14, x15, x16⟩ := id cx
  have hG : GoodIn TG (wsV own idx y.cls y (.code y bytes maxL ret :: TG)) := TG_in fun w hw => by
    rcases List.mem_append.mp hw with hw | hw
    · simp only [List.mem_cons, List.not_mem_nil, or_false] at hw
      rcases hw with rfl | rfl | rfl | rfl <;> assumption
    · rcases List.mem_cons.mp hw with rfl | hw
      · exact w5
      · exact hw
  have hcw := cwV (R := R) (s := s) (args := args) (own := own) (C := y.cls) (index := idx) (y := y) (bytes := bytes) (maxL := maxL) (ret := ret) (rm := rmD d' mc' ms') (mc := mc') (ms := ms') n x5 hG rfl rfl rfl w6 ⟨by show d' + 1 ≤ R.frames; omega, by show 8 + (maxL + 11) + 64 * d' ≤ R.locals; omega⟩
  refine R_after (a9 := (Value.ref (θ a) :: As.map (cvV θ)).toArray) cx g wd hl ?_ kk kx
  refine vx_runV (As := As.map (cvV θ)) ⟨x1, x2, x3, x4, x5⟩ (hM D dA θ H.size) hcw ⟨BM_blind, va_recv wd.1 wd.2.1 hcl (q0 := a) (fs := fs.map (cvV θ)) (by rw [ws_at θ dA hN, ha]; rfl), fun U hU hW => ⟨rfl, BM_of cx wd hU hW⟩⟩ rfl (by rw [List.length_map]; exact hn) hl.1 (by simp [cvV]) (by show 2 * 0 + _ ≤ 8; rw [cat_sum]; omega) hd ⟨by omega, by omega⟩
theorem R_callS {y : MethodName} {bytes : ByteArray} {maxL idx d' mc' ms' n : Nat} {ret : Option FieldType} {As : List Value} {stk : List Value} {Z : Option Value ⊕ String → HP → Prop}
    (cw : CWS own idx y bytes maxL ret n) (hM : VM l y bytes maxL ret d' mc' ms' As h Z) (hd : decode cc pc = .ok (.invokestatic idx, 3))
    (hdd : d' + 1 ≤ d) (hmc : ce + mc' ≤ mc) (hms : sl + ms' ≤ ms) (hn : As.length = n) (hstk : stk = As.reverse ++ st) (hcat : (st.map fun v => v.category).sum ≤ 8)
    (kk : ∀ v h1, Z (.inl v) h1 → Q l own cc nL d mc ms G (pc + 3) lf (v.toList ++ st) h1 (ce + mc') (sl + ms'))
    (kx : ∀ E h1, Z (.inr E) h1 → QX l own cc nL d mc ms G E pc lf st h1 (ce + mc') (sl + ms')) : Q l own cc nL d mc ms G pc lf stk h ce sl := by
  subst hstk
  intro p e R s m args below meth c D dA θ A QQ H locs ls cx g wd hl
  obtain ⟨w1, w2, w4, w5, w6, w7⟩ := cw
  obtain ⟨x1, x2, x3, x4, x5, x6, ⟨x7, x8, x9, x10⟩, x11, x12, x13, x14, x15, x16⟩ := id cx
  have hG : GoodIn TG (wsS own idx y (.code y bytes maxL ret :: TG)) := TG_in fun w hw => by
    rcases List.mem_append.mp hw with hw | hw
    · simp only [List.mem_cons, List.not_mem_nil, or_false] at hw
      rcases hw with rfl | rfl | rfl <;> assumption
    · rcases List.mem_cons.mp hw with rfl | hw
      · exact w5
      · exact hw
  have hcw := cwS (R := R) (s := s) (args := args) (own := own) (index := idx) (y := y) (bytes := bytes) (maxL := maxL) (ret := ret) (rm := rmD d' mc' ms') (mc := mc') (ms := ms') n x5 hG rfl rfl rfl w6 ⟨by show d' + 1 ≤ R.frames; omega, by show 8 + (maxL + 11) + 64 * d' ≤ R.locals; omega⟩
  refine R_after (a9 := (As.map (cvV θ)).toArray) cx g wd hl ?_ kk kx
  exact vx_runS (As := As.map (cvV θ)) ⟨x1, x2, x3, x4, x5⟩ (hM D dA θ H.size) hcw ⟨BM_blind, fun U hU hW => ⟨rfl, BM_of cx wd hU hW⟩⟩ rfl (by rw [List.length_map]; exact hn) hl.1 (by simp) (by show 2 * 0 + _ ≤ 8; rw [cat_sum]; omega) hd ⟨by omega, by omega⟩
/-- a contract that never throws, as the kit's plain one -/
theorem VM.plain {y : MethodName} {bytes : ByteArray} {maxL d' mc' ms' : Nat} {ret : Option FieldType} {As : List Value} {Z : Option Value ⊕ String → HP → Prop} (hM : VM l y bytes maxL ret d' mc' ms' As h Z) (hZ : ∀ E h1, ¬ Z (.inr E) h1) (D : va_G) (dA : Nat → ClassId) (θ : Nat → Nat) (sz : Nat) :
    Met l y (.code y bytes maxL ret :: TG) (rmD d' mc' ms') (va_Pc (As.map (cvV θ)) (BM D dA θ h sz)) (QcM Z D dA θ (va_A (wsH θ dA h) sz)) mc' ms' (va_A (wsH θ dA h) sz) := by
  have h0 := hM D dA θ sz
  intro p e a1 a2 a3 s m args below a4 a5 a6 a7
  obtain ⟨t, o, b1, b2, b3, b4⟩ := h0 p e a1 a2 a3 s m args below a4 a5 a6 a7
  refine ⟨t, o, b1, b2, b3, ?_⟩
  rcases b4 with b4 | ⟨q, -, E, ce9, L, ⟨⟨h1, hz, -⟩, -⟩, -⟩
  · exact b4
  · exact absurd hz (hZ E h1)
theorem vx_of_va {p : Program} {e : Env} {R : Room} {s : State} {m : MethodId} {args : Array Value} {below : List Frame} {meth : Method} {c : Code} {H : Heap} {locs : List Loc} {mc' ms' : Nat} {g : JFrame} {rest : List Value} {Qa : State → Outcome → State → Prop} {XC : String → State → State → Prop} {free : Addr → Prop}
    (hr : va_Run p l e R s m args below meth c H locs ce sl mc' ms' g rest Qa free) : vx_Run p l e R s m args below meth c H locs ce sl mc' ms' g rest Qa XC free := by
  intro T hT X
  obtain ⟨v, st₀, t, T', L, h0, X', hL, e1, e2, hq, stp⟩ := hr T hT X
  exact Or.inl ⟨v, st₀, t, T', L, h0, X', hL, e1, e2, hq, stp⟩
theorem R_callN {y : MethodName} {host : String} {bytes : ByteArray} {maxL idx d' mc' ms' n : Nat} {ret : Option FieldType} {As : List Value} {stk : List Value} {Z : Option Value ⊕ String → HP → Prop}
    (cw : CWN own idx y host bytes maxL ret n) (hM : VM l y bytes maxL ret d' mc' ms' As h Z) (hZ : ∀ E h1, ¬ Z (.inr E) h1) (hd : decode cc pc = .ok (.invokestatic idx, 3))
    (hdd : d' + 1 ≤ d) (hmc : ce + mc' ≤ mc) (hms : sl + ms' ≤ ms) (hn : As.length = n) (hstk : stk = As.reverse ++ st) (hcat : (st.map fun v => v.category).sum ≤ 8)
    (kk : ∀ v h1, Z (.inl v) h1 → Q l own cc nL d mc ms G (pc + 3) lf (v.toList ++ st) h1 (ce + mc') (sl + ms')) : Q l own cc nL d mc ms G pc lf stk h ce sl := by
  subst hstk
  intro p e R s m args below meth c D dA θ A QQ H locs ls cx g wd hl
  obtain ⟨w1, w2, w4, w5, w6, w7⟩ := cw
  obtain ⟨x1, x2, x3, x4, x5, x6, ⟨x7, x8, x9, x10⟩, x11, x12, x13, x14, x15, x16⟩ := id cx
  have hG : GoodIn TG (.code y bytes maxL ret :: TG) := TG_in fun w hw => by
    rcases List.mem_cons.mp hw with rfl | hw
    · exact w5
    · exact hw
  have hcw := va_cnB (R := R) (s := s) (args := args) (own := own) (host := host) (index := idx) (y := y) (bytes := bytes) (maxL := maxL) (ret := ret) (rm := rmD d' mc' ms') (mc := mc') (ms := ms') n x5 hG rfl rfl rfl (va_Nw.of rfl (x14 _ w1)) (x5 _ w4) w6 ⟨by show d' + 1 ≤ R.frames; omega, by show 8 + (maxL + 11) + 64 * d' ≤ R.locals; omega⟩
  refine R_after (a9 := (As.map (cvV θ)).toArray) cx g wd hl (vx_of_va ?_) kk (fun E h1 hz => absurd hz (hZ E h1))
  exact va_runSN (As := As.map (cvV θ)) ⟨x1, x2, x3, x4, x5⟩ (hM.plain hZ D dA θ H.size) ⟨hcw, x5 _ w2, trivial⟩ ⟨BM_blind, fun U hU hW => ⟨rfl, BM_of cx wd hU hW⟩⟩ rfl (by rw [List.length_map]; exact hn) hl.1 (by simp) (by show 2 * 0 + _ ≤ 8; rw [cat_sum]; omega) hd ⟨by omega, by omega⟩
end RH
