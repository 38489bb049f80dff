/-! worlds by virtual numbers: a heap of N cells, E a function; a reference holds the number of its cell; θ tells where it lies -/
abbrev vE : Type := (Nat × vp_A) ⊕ (Nat × List Value)
abbrev HP : Type := Nat × (Nat → vE)
def cvV (θ : Nat → Nat) (v : Value) : Value := match v with
  | .ref a => .ref (θ a)
  | .null => .null
  | .int x => .int x
  | .long x => .long x
  | .float x => .float x
  | .double x => .double x
  | x => x
def cvA (θ : Nat → Nat) (x : vp_A) : vp_A := match x with
  | (n, .inl f) => (n, .inl f)
  | (n, .inr (.inl f)) => (n, .inr (.inl f))
  | (n, .inr (.inr (.inl f))) => (n, .inr (.inr (.inl f)))
  | (n, .inr (.inr (.inr (.inl f)))) => (n, .inr (.inr (.inr (.inl f))))
  | (n, .inr (.inr (.inr (.inr f)))) => (n, .inr (.inr (.inr (.inr (fun k => (f k).map θ)))))
def cvE (θ : Nat → Nat) (dA : Nat → ClassId) (x : vE) : va_E := match x with
  | .inl (t, a) => .inl (dA t, cvA θ a)
  | .inr (c, fs) => .inr (c, fs.map (cvV θ))
def wsH (θ : Nat → Nat) (dA : Nat → ClassId) (h : HP) : va_W := (List.range h.1).map (fun a => (θ a, cvE θ dA (h.2 a)))
def tysA (dA : Nat → ClassId) : List (ClassId × FieldType) := [(dA 0, .char), (dA 1, .int), (dA 2, .object "SmokeRacks$Fish"), (dA 3, .object "SmokeRacks$House"), (dA 4, .long), (dA 5, .double)]
def CLs : List vw_C := [(RX0, TX0, 9), (RX1, TX1, 2), (RX2, TX2, 2), (RX3, TX3, 10), (RX4, TX4, 2), (RX5, TX5, 5), (RX6, TX6, 9), (RX7, TX7, 2), (RX8, TX8, 2), (RX9, TX9, 10), (RX10, TX10, 21)]
def hset (h : HP) (a : Nat) (x : vE) : HP := (h.1, fun b => if b = a then x else h.2 b)
theorem ws_at (θ : Nat → Nat) (dA : Nat → ClassId) {h : HP} {a : Nat} (ha : a < h.1) : (wsH θ dA h)[a]? = some (θ a, cvE θ dA (h.2 a)) := by
  simp [wsH, ha]
theorem ws_set (θ : Nat → Nat) (dA : Nat → ClassId) {h : HP} {a : Nat} (ha : a < h.1) (x : vE) : (wsH θ dA h).set a (θ a, cvE θ dA x) = wsH θ dA (hset h a x) := by
  apply List.ext_getElem?
  intro i
  by_cases hi : i = a
  · subst hi
    rw [List.getElem?_set_self (by simpa [wsH] using ha), ws_at θ dA (h := hset h i x) ha]
    simp [hset]
  · rw [List.getElem?_set_ne (Ne.symm hi)]
    simp only [wsH, hset, List.getElem?_map]
    by_cases hl : i < h.1
    · simp [List.getElem?_range hl, hi]
    · simp [List.getElem?_eq_none (l := List.range h.1) (by simpa using hl)]
/-- locals: nine places -/
def L9 (l0 l1 l2 l3 l4 l5 l6 l7 l8 : Option Value) : Nat → Option Value := fun i => match i with
  | 0 => l0 | 1 => l1 | 2 => l2 | 3 => l3 | 4 => l4 | 5 => l5 | 6 => l6 | 7 => l7 | 8 => l8 | _ => none
def lcl (lf : Nat → Option Value) : List (Nat × Value) := (List.range 9).filterMap (fun i => (lf i).map (fun v => (i, v)))
def lcv (θ : Nat → Nat) (lf : Nat → Option Value) : List (Nat × Value) := (lcl lf).map (fun q => (q.1, cvV θ q.2))
theorem cvV_cat (θ : Nat → Nat) (v : Value) : (cvV θ v).category = v.category := by cases v <;> rfl
theorem lcv_mem {θ : Nat → Nat} {lf : Nat → Option Value} {q : Nat × Value} : q ∈ lcv θ lf ↔ q.1 < 9 ∧ ∃ v, lf q.1 = some v ∧ q.2 = cvV θ v := by
  obtain ⟨i, x⟩ := q
  simp only [lcv, lcl, List.mem_map, List.mem_filterMap, List.mem_range]
  constructor
  · rintro ⟨⟨j, v⟩, ⟨k, hk, hm⟩, e⟩
    cases hkk : lf k with
    | none => rw [hkk] at hm; cases hm
    | some u =>
      rw [hkk] at hm
      cases hm
      cases e
      exact ⟨hk, _, hkk, rfl⟩
  · rintro ⟨hi, v, hv, e⟩
    exact ⟨(i, v), ⟨i, hi, by rw [hv]; rfl⟩, by rw [e]⟩
theorem lcv_get {θ : Nat → Nat} {lf : Nat → Option Value} {ls : Array Slot} {nL i : Nat} {v : Value} (h : lv_has ls nL (lcv θ lf)) (hi : i < 9) (hv : lf i = some v) : ls[i]? = some (.val (cvV θ v)) :=
  h.2.2 (i, cvV θ v) (lcv_mem.mpr ⟨hi, v, hv, rfl⟩)
/-- what a store into the place i leaves -/
def stO (lf : Nat → Option Value) (i : Nat) (x : Value) (lf' : Nat → Option Value) : Prop := lf' i = some x ∧ ∀ j v, j ≠ i → lf' j = some v → lf j = some v ∧ (j + 1 = i → v.category = 1)
theorem lcv_set {θ : Nat → Nat} {lf lf' : Nat → Option Value} {ls : Array Slot} {nL i : Nat} {x : Value} (hs : stO lf i x lf')
    (h : lv_has ls nL ((i, cvV θ x) :: (lcv θ lf).filter (fun q => !(q.1 == i) && !(q.1 + 1 == i && q.2.category == 2)))) : lv_has ls nL (lcv θ lf') := by
  refine ⟨h.1, h.2.1, fun q hq => h.2.2 q ?_⟩
  obtain ⟨h1, v, h2, h3⟩ := lcv_mem.mp hq
  by_cases he : q.1 = i
  · rw [he, hs.1] at h2
    cases h2
    exact List.mem_cons.mpr (Or.inl (by obtain ⟨a, b⟩ := q; dsimp only at he h3 ⊢; rw [he, h3]))
  · obtain ⟨h4, h5⟩ := hs.2 _ _ he h2
    refine List.mem_cons_of_mem _ (List.mem_filter.mpr ⟨lcv_mem.mpr ⟨h1, v, h4, h3⟩, ?_⟩)
    have h6 : ¬ (q.1 + 1 = i ∧ q.2.category = 2) := fun ⟨e1, e2⟩ => by rw [h3, cvV_cat, h5 e1] at e2; cases e2
    simp only [Bool.and_eq_true, Bool.not_eq_true', beq_eq_false_iff_ne, Bool.and_eq_false_iff, ne_eq]
    refine ⟨he, ?_⟩
    by_cases e1 : q.1 + 1 = i
    · exact Or.inr (fun e2 => h6 ⟨e1, by simpa using e2⟩)
    · exact Or.inl (by simpa using e1)
def c1 (v : Option Value) : Bool := match v with
  | some (.long _) => false
  | some (.double _) => false
  | _ => true
theorem c1_cat {v : Option Value} (h : c1 v = true) : ∀ u, v = some u → u.category = 1 := by
  intro u e
  subst e
  cases u <;> first | rfl | cases h
theorem st0 {l0 l1 l2 l3 l4 l5 l6 l7 l8 : Option Value} {x : Value} : stO (L9 l0 l1 l2 l3 l4 l5 l6 l7 l8) 0 x (L9 (some x) l1 l2 l3 l4 l5 l6 l7 l8) := by
  refine ⟨rfl, fun j v hj hv => ?_⟩
  match j, hj, hv with
  | 0, hj, _ => exact absurd rfl hj
  | 1, _, hv => exact ⟨hv, fun e => by omega⟩
  | 2, _, hv => exact ⟨hv, fun e => by omega⟩
  | 3, _, hv => exact ⟨hv, fun e => by omega⟩
  | 4, _, hv => exact ⟨hv, fun e => by omega⟩
  | 5, _, hv => exact ⟨hv, fun e => by omega⟩
  | 6, _, hv => exact ⟨hv, fun e => by omega⟩
  | 7, _, hv => exact ⟨hv, fun e => by omega⟩
  | 8, _, hv => exact ⟨hv, fun e => by omega⟩
  | _ + 9, _, hv => cases hv
theorem st1 {l0 l1 l2 l3 l4 l5 l6 l7 l8 : Option Value} {x : Value} (h : c1 l0 = true) : stO (L9 l0 l1 l2 l3 l4 l5 l6 l7 l8) 1 x (L9 l0 (some x) l2 l3 l4 l5 l6 l7 l8) := by
  refine ⟨rfl, fun j v hj hv => ?_⟩
  match j, hj, hv with
  | 0, _, hv => exact ⟨hv, fun _ => c1_cat h v hv⟩
  | 1, hj, _ => exact absurd rfl hj
  | 2, _, hv => exact ⟨hv, fun e => by omega⟩
  | 3, _, hv => exact ⟨hv, fun e => by omega⟩
  | 4, _, hv => exact ⟨hv, fun e => by omega⟩
  | 5, _, hv => exact ⟨hv, fun e => by omega⟩
  | 6, _, hv => exact ⟨hv, fun e => by omega⟩
  | 7, _, hv => exact ⟨hv, fun e => by omega⟩
  | 8, _, hv => exact ⟨hv, fun e => by omega⟩
  | _ + 9, _, hv => cases hv
theorem st2 {l0 l1 l2 l3 l4 l5 l6 l7 l8 : Option Value} {x : Value} (h : c1 l1 = true) : stO (L9 l0 l1 l2 l3 l4 l5 l6 l7 l8) 2 x (L9 l0 l1 (some x) l3 l4 l5 l6 l7 l8) := by
  refine ⟨rfl, fun j v hj hv => ?_⟩
  match j, hj, hv with
  | 0, _, hv => exact ⟨hv, fun e => by omega⟩
  | 1, _, hv => exact ⟨hv, fun _ => c1_cat h v hv⟩
  | 2, hj, _ => exact absurd rfl hj
  | 3, _, hv => exact ⟨hv, fun e => by omega⟩
  | 4, _, hv => exact ⟨hv, fun e => by omega⟩
  | 5, _, hv => exact ⟨hv, fun e => by omega⟩
  | 6, _, hv => exact ⟨hv, fun e => by omega⟩
  | 7, _, hv => exact ⟨hv, fun e => by omega⟩
  | 8, _, hv => exact ⟨hv, fun e => by omega⟩
  | _ + 9, _, hv => cases hv
theorem st3 {l0 l1 l2 l3 l4 l5 l6 l7 l8 : Option Value} {x : Value} (h : c1 l2 = true) : stO (L9 l0 l1 l2 l3 l4 l5 l6 l7 l8) 3 x (L9 l0 l1 l2 (some x) l4 l5 l6 l7 l8) := by
  refine ⟨rfl, fun j v hj hv => ?_⟩
  match j, hj, hv with
  | 0, _, hv => exact ⟨hv, fun e => by omega⟩
  | 1, _, hv => exact ⟨hv, fun e => by omega⟩
  | 2, _, hv => exact ⟨hv, fun _ => c1_cat h v hv⟩
  | 3, hj, _ => exact absurd rfl hj
  | 4, _, hv => exact ⟨hv, fun e => by omega⟩
  | 5, _, hv => exact ⟨hv, fun e => by omega⟩
  | 6, _, hv => exact ⟨hv, fun e => by omega⟩
  | 7, _, hv => exact ⟨hv, fun e => by omega⟩
  | 8, _, hv => exact ⟨hv, fun e => by omega⟩
  | _ + 9, _, hv => cases hv
theorem st4 {l0 l1 l2 l3 l4 l5 l6 l7 l8 : Option Value} {x : Value} (h : c1 l3 = true) : stO (L9 l0 l1 l2 l3 l4 l5 l6 l7 l8) 4 x (L9 l0 l1 l2 l3 (some x) l5 l6 l7 l8) := by
  refine ⟨rfl, fun j v hj hv => ?_⟩
  match j, hj, hv with
  | 0, _, hv => exact ⟨hv, fun e => by omega⟩
  | 1, _, hv => exact ⟨hv, fun e => by omega⟩
  | 2, _, hv => exact ⟨hv, fun e => by omega⟩
  | 3, _, hv => exact ⟨hv, fun _ => c1_cat h v hv⟩
  | 4, hj, _ => exact absurd rfl hj
  | 5, _, hv => exact ⟨hv, fun e => by omega⟩
  | 6, _, hv => exact ⟨hv, fun e => by omega⟩
  | 7, _, hv => exact ⟨hv, fun e => by omega⟩
  | 8, _, hv => exact ⟨hv, fun e => by omega⟩
  | _ + 9, _, hv => cases hv
theorem st5 {l0 l1 l2 l3 l4 l5 l6 l7 l8 : Option Value} {x : Value} (h : c1 l4 = true) : stO (L9 l0 l1 l2 l3 l4 l5 l6 l7 l8) 5 x (L9 l0 l1 l2 l3 l4 (some x) l6 l7 l8) := by
  refine ⟨rfl, fun j v hj hv => ?_⟩
  match j, hj, hv with
  | 0, _, hv => exact ⟨hv, fun e => by omega⟩
  | 1, _, hv => exact ⟨hv, fun e => by omega⟩
  | 2, _, hv => exact ⟨hv, fun e => by omega⟩
  | 3, _, hv => exact ⟨hv, fun e => by omega⟩
  | 4, _, hv => exact ⟨hv, fun _ => c1_cat h v hv⟩
  | 5, hj, _ => exact absurd rfl hj
  | 6, _, hv => exact ⟨hv, fun e => by omega⟩
  | 7, _, hv => exact ⟨hv, fun e => by omega⟩
  | 8, _, hv => exact ⟨hv, fun e => by omega⟩
  | _ + 9, _, hv => cases hv
theorem st6 {l0 l1 l2 l3 l4 l5 l6 l7 l8 : Option Value} {x : Value} (h : c1 l5 = true) : stO (L9 l0 l1 l2 l3 l4 l5 l6 l7 l8) 6 x (L9 l0 l1 l2 l3 l4 l5 (some x) l7 l8) := by
  refine ⟨rfl, fun j v hj hv => ?_⟩
  match j, hj, hv with
  | 0, _, hv => exact ⟨hv, fun e => by omega⟩
  | 1, _, hv => exact ⟨hv, fun e => by omega⟩
  | 2, _, hv => exact ⟨hv, fun e => by omega⟩
  | 3, _, hv => exact ⟨hv, fun e => by omega⟩
  | 4, _, hv => exact ⟨hv, fun e => by omega⟩
  | 5, _, hv => exact ⟨hv, fun _ => c1_cat h v hv⟩
  | 6, hj, _ => exact absurd rfl hj
  | 7, _, hv => exact ⟨hv, fun e => by omega⟩
  | 8, _, hv => exact ⟨hv, fun e => by omega⟩
  | _ + 9, _, hv => cases hv
theorem st7 {l0 l1 l2 l3 l4 l5 l6 l7 l8 : Option Value} {x : Value} (h : c1 l6 = true) : stO (L9 l0 l1 l2 l3 l4 l5 l6 l7 l8) 7 x (L9 l0 l1 l2 l3 l4 l5 l6 (some x) l8) := by
  refine ⟨rfl, fun j v hj hv => ?_⟩
  match j, hj, hv with
  | 0, _, hv => exact ⟨hv, fun e => by omega⟩
  | 1, _, hv => exact ⟨hv, fun e => by omega⟩
  | 2, _, hv => exact ⟨hv, fun e => by omega⟩
  | 3, _, hv => exact ⟨hv, fun e => by omega⟩
  | 4, _, hv => exact ⟨hv, fun e => by omega⟩
  | 5, _, hv => exact ⟨hv, fun e => by omega⟩
  | 6, _, hv => exact ⟨hv, fun _ => c1_cat h v hv⟩
  | 7, hj, _ => exact absurd rfl hj
  | 8, _, hv => exact ⟨hv, fun e => by omega⟩
  | _ + 9, _, hv => cases hv
theorem st8 {l0 l1 l2 l3 l4 l5 l6 l7 l8 : Option Value} {x : Value} (h : c1 l7 = true) : stO (L9 l0 l1 l2 l3 l4 l5 l6 l7 l8) 8 x (L9 l0 l1 l2 l3 l4 l5 l6 l7 (some x)) := by
  refine ⟨rfl, fun j v hj hv => ?_⟩
  match j, hj, hv with
  | 0, _, hv => exact ⟨hv, fun e => by omega⟩
  | 1, _, hv => exact ⟨hv, fun e => by omega⟩
  | 2, _, hv => exact ⟨hv, fun e => by omega⟩
  | 3, _, hv => exact ⟨hv, fun e => by omega⟩
  | 4, _, hv => exact ⟨hv, fun e => by omega⟩
  | 5, _, hv => exact ⟨hv, fun e => by omega⟩
  | 6, _, hv => exact ⟨hv, fun e => by omega⟩
  | 7, _, hv => exact ⟨hv, fun _ => c1_cat h v hv⟩
  | 8, hj, _ => exact absurd rfl hj
  | _ + 9, _, hv => cases hv
/-- the tables' words that any call passes on -/
abbrev TG : List Cond := lw_tbl.filter goodWord
/-- words that hold on, but by laws of their own -/
def nk (w : Cond) : Bool := match w with
  | .methodLinkNest .. => true
  | .declares _ => true
  | .castable .. => true
  | _ => false
abbrev TN : List Cond := lw_tbl.filter nk
theorem tn {w : Cond} (h : w ∈ lw_tbl) (g : nk w = true) : w ∈ TN := List.mem_filter.mpr ⟨h, g⟩
theorem nk_use {w : Cond} (h : w ∈ TN) {A : Array Value} {U : State} (hz : va_Nw w U) : w.before A U = true := by
  have h := (List.mem_filter.mp h).2
  cases w <;> first | (cases h; done) | exact va_Nw.use rfl hz
theorem nk_of {w : Cond} (h : w ∈ TN) {A : Array Value} {U : State} (hz : w.before A U = true) : va_Nw w U := by
  have h := (List.mem_filter.mp h).2
  cases w <;> first | (cases h; done) | exact va_Nw.of rfl hz
theorem nk_same {w : Cond} (h : w ∈ TN) {u U : State} (hv : u.vm = U.vm) (hz : va_Nw w u) : va_Nw w U := by
  have h := (List.mem_filter.mp h).2
  cases w <;> first | (cases h; done) | exact va_Nw.same rfl hv hz
theorem nk_warm {w : Cond} (h : w ∈ TN) {s U : State} (hW : s.WarmedH U.vm) (hz : va_Nw w s) : va_Nw w U := by
  have h := (List.mem_filter.mp h).2
  cases w <;> first | (cases h; done) | exact va_Nw.warmM hW hz | exact va_Nw.warmD hW hz | exact va_Nw.warmC hW hz
theorem tg {w : Cond} (h : w ∈ lw_tbl) (g : goodWord w = true) : w ∈ TG := List.mem_filter.mpr ⟨h, g⟩
/-- the machine around a method's body -/
abbrev GT : Type := Program → Env → Room → State → MethodId → Array Value → List Frame → Method → Code → va_G → (Nat → ClassId) → (Nat → Nat) → (Nat → Prop) → (State → Prop) → Prop
def CX (l : Launch) (own : String) (cc : ByteArray) (nL d mc ms : Nat) (p : Program) (R : Room) (s : State) (m : MethodId) (args : Array Value) (c : Code) (A : Nat → Prop) : Prop :=
  p.tables.exec = Jvm.exec ∧ c.code = cc ∧ c.maxLocals = nL ∧ s.vm.findClass own = some m.cls ∧ (∀ w ∈ TG, w.before args s = true) ∧ (∀ q, s.heap.size ≤ q → A q) ∧ (d ≤ R.frames ∧ 64 * d ≤ R.locals ∧ mc ≤ R.cells ∧ ms ≤ R.slots) ∧ l.stackTraces = false ∧ vx_Zq Bundle.tN "UNASSIGNED_STACK" Bundle.steD A s s.heap ∧ vx_Zq Bundle.tN "SUPPRESSED_SENTINEL" Bundle.listD A s s.heap ∧ (∀ w ∈ TN, w.before args s = true) ∧ va_AO "SmokeRacks$Fish" s ∧ va_AO "SmokeRacks$House" s
def WD (D : va_G) (dA : Nat → ClassId) (θ : Nat → Nat) (A : Nat → Prop) (h : HP) (s : State) (H : Heap) (locs : List Loc) : Prop :=
  va_K D CLs (tysA dA) s ∧ va_P D CLs (wsH θ dA h) H ∧ va_D A (wsH θ dA h) ∧ va_S A s.heap H locs
def Q (l : Launch) (own : String) (cc : ByteArray) (nL d mc ms : Nat) (G : GT) (pc : Nat) (lf : Nat → Option Value) (st : List Value) (h : HP) (ce sl : Nat) : Prop :=
  ∀ (p : Program) (e : Env) (R : Room) (s : State) (m : MethodId) (args : Array Value) (below : List Frame) (meth : Method) (c : Code) (D : va_G) (dA : Nat → ClassId) (θ : Nat → Nat) (A : Nat → Prop) (QQ : State → Prop) (H : Heap) (locs : List Loc) (ls : Array Slot),
    CX l own cc nL d mc ms p R s m args c A → G p e R s m args below meth c D dA θ A QQ → WD D dA θ A h s H locs → lv_has ls nL (lcv θ lf) →
    W p l e R s m args below meth c H locs ce sl QQ (F0 m pc ls (st.map (cvV θ)))
def QX (l : Launch) (own : String) (cc : ByteArray) (nL d mc ms : Nat) (G : GT) (E : String) (pc : Nat) (lf : Nat → Option Value) (st : List Value) (h : HP) (ce sl : Nat) : Prop :=
  ∀ (p : Program) (e : Env) (R : Room) (s : State) (m : MethodId) (args : Array Value) (below : List Frame) (meth : Method) (c : Code) (D : va_G) (dA : Nat → ClassId) (θ : Nat → Nat) (A : Nat → Prop) (QQ : State → Prop) (H : Heap) (locs : List Loc) (ls : Array Slot) (q9 : Addr) (ce9 : Cell),
    CX l own cc nL d mc ms p R s m args c A → G p e R s m args below meth c D dA θ A QQ → WD D dA θ A h s H locs → lv_has ls nL (lcv θ lf) → H[q9]? = some ce9 → ce9.vm = .none → s.vm.findClass E = some ce9.cls →
    vx_W p l e R s m args below meth c H locs ce sl QQ (F0 m pc ls (st.map (cvV θ))) q9
section RW
variable {l : Launch} {own : String} {cc : ByteArray} {nL d mc ms : Nat} {G : GT} {pc : Nat} {lf lf' : Nat → Option Value} {st : List Value} {h : HP} {ce sl : Nat}
theorem R_iload_n {j : Fin 4} {i : Nat} {x : Int32} (hd : decode cc pc = .ok (.iload_n j, 1)) (hi : (j : Nat) = i) (hv : lf i = some (.int x)) (k : Q l own cc nL d mc ms G (pc + 1) lf (.int x :: st) h ce sl) : Q l own cc nL d mc ms G pc lf st h ce sl := by
  intro p e R s m args below meth c D dA θ A QQ H locs ls cx g wd hl
  exact lv_iload_n cx.1 cx.2.1 hd hi (lcv_get hl (by omega) hv) (k p e R s m args below meth c D dA θ A QQ H locs ls cx g wd hl)
theorem R_iload {i : Nat} {x : Int32} (hd : decode cc pc = .ok (.iload i, 2)) (hi : i < 9) (hv : lf i = some (.int x)) (k : Q l own cc nL d mc ms G (pc + 2) lf (.int x :: st) h ce sl) : Q l own cc nL d mc ms G pc lf st h ce sl := by
  intro p e R s m args below meth c D dA θ A QQ H locs ls cx g wd hl
  exact lv_iload cx.1 cx.2.1 hd (lcv_get hl hi hv) (k p e R s m args below meth c D dA θ A QQ H locs ls cx g wd hl)
theorem R_aload_n {j : Fin 4} {i : Nat} {x : Nat} (hd : decode cc pc = .ok (.aload_n j, 1)) (hi : (j : Nat) = i) (hv : lf i = some (.ref x)) (k : Q l own cc nL d mc ms G (pc + 1) lf (.ref x :: st) h ce sl) : Q l own cc nL d mc ms G pc lf st h ce sl := by
  intro p e R s m args below meth c D dA θ A QQ H locs ls cx g wd hl
  exact lv_aload_n cx.1 cx.2.1 hd hi (lcv_get hl (by omega) hv) (k p e R s m args below meth c D dA θ A QQ H locs ls cx g wd hl)
theorem R_aload {i : Nat} {x : Nat} (hd : decode cc pc = .ok (.aload i, 2)) (hi : i < 9) (hv : lf i = some (.ref x)) (k : Q l own cc nL d mc ms G (pc + 2) lf (.ref x :: st) h ce sl) : Q l own cc nL d mc ms G pc lf st h ce sl := by
  intro p e R s m args below meth c D dA θ A QQ H locs ls cx g wd hl
  exact lv_aload cx.1 cx.2.1 hd (lcv_get hl hi hv) (k p e R s m args below meth c D dA θ A QQ H locs ls cx g wd hl)
theorem R_fload_n {j : Fin 4} {i : Nat} {x : UInt32} (hd : decode cc pc = .ok (.fload_n j, 1)) (hi : (j : Nat) = i) (hv : lf i = some (.float x)) (k : Q l own cc nL d mc ms G (pc + 1) lf (.float x :: st) h ce sl) : Q l own cc nL d mc ms G pc lf st h ce sl := by
  intro p e R s m args below meth c D dA θ A QQ H locs ls cx g wd hl
  exact lv_fload_n cx.1 cx.2.1 hd hi (lcv_get hl (by omega) hv) (k p e R s m args below meth c D dA θ A QQ H locs ls cx g wd hl)
theorem R_fload {i : Nat} {x : UInt32} (hd : decode cc pc = .ok (.fload i, 2)) (hi : i < 9) (hv : lf i = some (.float x)) (k : Q l own cc nL d mc ms G (pc + 2) lf (.float x :: st) h ce sl) : Q l own cc nL d mc ms G pc lf st h ce sl := by
  intro p e R s m args below meth c D dA θ A QQ H locs ls cx g wd hl
  exact lv_fload cx.1 cx.2.1 hd (lcv_get hl hi hv) (k p e R s m args below meth c D dA θ A QQ H locs ls cx g wd hl)
theorem R_dload_n {j : Fin 4} {i : Nat} {x : UInt64} (hd : decode cc pc = .ok (.dload_n j, 1)) (hi : (j : Nat) = i) (hv : lf i = some (.double x)) (k : Q l own cc nL d mc ms G (pc + 1) lf (.double x :: st) h ce sl) : Q l own cc nL d mc ms G pc lf st h ce sl := by
  intro p e R s m args below meth c D dA θ A QQ H locs ls cx g wd hl
  exact lv_dload_n cx.1 cx.2.1 hd hi (lcv_get hl (by omega) hv) (k p e R s m args below meth c D dA θ A QQ H locs ls cx g wd hl)
theorem R_dload {i : Nat} {x : UInt64} (hd : decode cc pc = .ok (.dload i, 2)) (hi : i < 9) (hv : lf i = some (.double x)) (k : Q l own cc nL d mc ms G (pc + 2) lf (.double x :: st) h ce sl) : Q l own cc nL d mc ms G pc lf st h ce sl := by
  intro p e R s m args below meth c D dA θ A QQ H locs ls cx g wd hl
  exact lv_dload cx.1 cx.2.1 hd (lcv_get hl hi hv) (k p e R s m args below meth c D dA θ A QQ H locs ls cx g wd hl)
theorem R_istore_n {j : Fin 4} {i : Nat} {x : Int32} (hd : decode cc pc = .ok (.istore_n j, 1)) (hi : (j : Nat) = i) (hn : i < nL) (hs : stO lf i (.int x) lf') (k : Q l own cc nL d mc ms G (pc + 1) lf' st h ce sl) : Q l own cc nL d mc ms G pc lf (.int x :: st) h ce sl := by
  intro p e R s m args below meth c D dA θ A QQ H locs ls cx g wd hl
  exact lv_istore_n cx.1 cx.2.1 hd hi hl hn rfl (fun ls9 hl9 => k p e R s m args below meth c D dA θ A QQ H locs ls9 cx g wd (lcv_set hs hl9))
theorem R_istore {i : Nat} {x : Int32} (hd : decode cc pc = .ok (.istore i, 2)) (hn : i < nL) (hs : stO lf i (.int x) lf') (k : Q l own cc nL d mc ms G (pc + 2) lf' st h ce sl) : Q l own cc nL d mc ms G pc lf (.int x :: st) h ce sl := by
  intro p e R s m args below meth c D dA θ A QQ H locs ls cx g wd hl
  exact lv_istore cx.1 cx.2.1 hd hl hn rfl (fun ls9 hl9 => k p e R s m args below meth c D dA θ A QQ H locs ls9 cx g wd (lcv_set hs hl9))
theorem R_astore_n {j : Fin 4} {i : Nat} {x : Nat} (hd : decode cc pc = .ok (.astore_n j, 1)) (hi : (j : Nat) = i) (hn : i < nL) (hs : stO lf i (.ref x) lf') (k : Q l own cc nL d mc ms G (pc + 1) lf' st h ce sl) : Q l own cc nL d mc ms G pc lf (.ref x :: st) h ce sl := by
  intro p e R s m args below meth c D dA θ A QQ H locs ls cx g wd hl
  exact lv_astore_n cx.1 cx.2.1 hd hi hl hn rfl (fun ls9 hl9 => k p e R s m args below meth c D dA θ A QQ H locs ls9 cx g wd (lcv_set hs hl9))
theorem R_astore {i : Nat} {x : Nat} (hd : decode cc pc = .ok (.astore i, 2)) (hn : i < nL) (hs : stO lf i (.ref x) lf') (k : Q l own cc nL d mc ms G (pc + 2) lf' st h ce sl) : Q l own cc nL d mc ms G pc lf (.ref x :: st) h ce sl := by
  intro p e R s m args below meth c D dA θ A QQ H locs ls cx g wd hl
  exact lv_astore cx.1 cx.2.1 hd hl hn rfl (fun ls9 hl9 => k p e R s m args below meth c D dA θ A QQ H locs ls9 cx g wd (lcv_set hs hl9))
theorem R_fstore_n {j : Fin 4} {i : Nat} {x : UInt32} (hd : decode cc pc = .ok (.fstore_n j, 1)) (hi : (j : Nat) = i) (hn : i < nL) (hs : stO lf i (.float x) lf') (k : Q l own cc nL d mc ms G (pc + 1) lf' st h ce sl) : Q l own cc nL d mc ms G pc lf (.float x :: st) h ce sl := by
  intro p e R s m args below meth c D dA θ A QQ H locs ls cx g wd hl
  exact lv_fstore_n cx.1 cx.2.1 hd hi hl hn rfl (fun ls9 hl9 => k p e R s m args below meth c D dA θ A QQ H locs ls9 cx g wd (lcv_set hs hl9))
theorem R_fstore {i : Nat} {x : UInt32} (hd : decode cc pc = .ok (.fstore i, 2)) (hn : i < nL) (hs : stO lf i (.float x) lf') (k : Q l own cc nL d mc ms G (pc + 2) lf' st h ce sl) : Q l own cc nL d mc ms G pc lf (.float x :: st) h ce sl := by
  intro p e R s m args below meth c D dA θ A QQ H locs ls cx g wd hl
  exact lv_fstore cx.1 cx.2.1 hd hl hn rfl (fun ls9 hl9 => k p e R s m args below meth c D dA θ A QQ H locs ls9 cx g wd (lcv_set hs hl9))
theorem R_iinc {i : Nat} {n : Int} {x v : Int32} (hd : decode cc pc = .ok (.iinc i n, 3)) (hi : i < 9) (hv : lf i = some (.int x)) (hx : x + Int32.ofInt n = v) (hn : i < nL) (hs : stO lf i (.int v) lf') (k : Q l own cc nL d mc ms G (pc + 3) lf' st h ce sl) : Q l own cc nL d mc ms G pc lf st h ce sl := by
  intro p e R s m args below meth c D dA θ A QQ H locs ls cx g wd hl
  obtain ⟨kk, hk⟩ := List.getElem?_of_mem (lcv_mem.mpr (show (i, Value.int x).1 < 9 ∧ ∃ v, lf (i, Value.int x).1 = some v ∧ (i, Value.int x).2 = cvV θ v from ⟨hi, .int x, hv, rfl⟩))
  exact lv_iinc cx.1 cx.2.1 hd hl hk hx hn rfl (fun ls9 hl9 => k p e R s m args below meth c D dA θ A QQ H locs ls9 cx g wd (lcv_set hs hl9))
/-- fewer things known of the locals -/
theorem R_weak (hs : ∀ i v, lf' i = some v → lf i = some v) (k : Q l own cc nL d mc ms G pc lf' st h ce sl) : Q l own cc nL d mc ms G pc lf st h ce sl := by
  intro p e R s m args below meth c D dA θ A QQ H locs ls cx g wd hl
  refine k p e R s m args below meth c D dA θ A QQ H locs ls cx g wd ⟨hl.1, hl.2.1, fun q hq => hl.2.2 q ?_⟩
  obtain ⟨h1, v, h2, h3⟩ := lcv_mem.mp hq
  exact lcv_mem.mpr ⟨h1, v, hs _ _ h2, h3⟩
theorem R_widen {ce' sl' : Nat} (h1 : ce ≤ ce') (h2 : sl ≤ sl') (k : Q l own cc nL d mc ms G pc lf st h ce' sl') : Q l own cc nL d mc ms G pc lf st h ce sl :=
  fun p e R s m args below meth c D dA θ A QQ H locs ls cx g wd hl => W.widen h1 h2 (k p e R s m args below meth c D dA θ A QQ H locs ls cx g wd hl)
theorem R_iconst {n : Int} {v : Int32} (hd : decode cc pc = .ok (.iconst n, 1)) (hv : Int32.ofInt n = v) (k : Q l own cc nL d mc ms G (pc + 1) lf (.int v :: st) h ce sl) : Q l own cc nL d mc ms G pc lf st h ce sl := by
  intro p e R s m args below meth c D dA θ A QQ H locs ls cx g wd hl
  exact lv_iconst cx.1 cx.2.1 hd hv (k p e R s m args below meth c D dA θ A QQ H locs ls cx g wd hl)
theorem R_bipush {n : Int} {v : Int32} (hd : decode cc pc = .ok (.bipush n, 2)) (hv : (Int8.ofInt n).toInt32 = v) (k : Q l own cc nL d mc ms G (pc + 2) lf (.int v :: st) h ce sl) : Q l own cc nL d mc ms G pc lf st h ce sl := by
  intro p e R s m args below meth c D dA θ A QQ H locs ls cx g wd hl
  exact lv_bipush cx.1 cx.2.1 hd hv (k p e R s m args below meth c D dA θ A QQ H locs ls cx g wd hl)
theorem R_sipush {n : Int} {v : Int32} (hd : decode cc pc = .ok (.sipush n, 3)) (hv : (Int16.ofInt n).toInt32 = v) (k : Q l own cc nL d mc ms G (pc + 3) lf (.int v :: st) h ce sl) : Q l own cc nL d mc ms G pc lf st h ce sl := by
  intro p e R s m args below meth c D dA θ A QQ H locs ls cx g wd hl
  exact lv_sipush cx.1 cx.2.1 hd hv (k p e R s m args below meth c D dA θ A QQ H locs ls cx g wd hl)
theorem R_lconst {n : Fin 2} {v : Int64} (hd : decode cc pc = .ok (.lconst n, 1)) (hv : Int64.ofNat (n : Nat) = v) (k : Q l own cc nL d mc ms G (pc + 1) lf (.long v :: st) h ce sl) : Q l own cc nL d mc ms G pc lf st h ce sl := by
  intro p e R s m args below meth c D dA θ A QQ H locs ls cx g wd hl
  exact lv_lconst cx.1 cx.2.1 hd hv (k p e R s m args below meth c D dA θ A QQ H locs ls cx g wd hl)
theorem R_iadd {x y : Int32} (hd : decode cc pc = .ok (.iadd, 1)) (k : Q l own cc nL d mc ms G (pc + 1) lf (.int (x + y) :: st) h ce sl) : Q l own cc nL d mc ms G pc lf (.int y :: .int x :: st) h ce sl := by
  intro p e R s m args below meth c D dA θ A QQ H locs ls cx g wd hl
  exact lv_iadd cx.1 cx.2.1 hd (k p e R s m args below meth c D dA θ A QQ H locs ls cx g wd hl)
theorem R_isub {x y : Int32} (hd : decode cc pc = .ok (.isub, 1)) (k : Q l own cc nL d mc ms G (pc + 1) lf (.int (x - y) :: st) h ce sl) : Q l own cc nL d mc ms G pc lf (.int y :: .int x :: st) h ce sl := by
  intro p e R s m args below meth c D dA θ A QQ H locs ls cx g wd hl
  exact lv_isub cx.1 cx.2.1 hd (k p e R s m args below meth c D dA θ A QQ H locs ls cx g wd hl)
theorem R_imul {x y : Int32} (hd : decode cc pc = .ok (.imul, 1)) (k : Q l own cc nL d mc ms G (pc + 1) lf (.int (x * y) :: st) h ce sl) : Q l own cc nL d mc ms G pc lf (.int y :: .int x :: st) h ce sl := by
  intro p e R s m args below meth c D dA θ A QQ H locs ls cx g wd hl
  exact lv_imul cx.1 cx.2.1 hd (k p e R s m args below meth c D dA θ A QQ H locs ls cx g wd hl)
theorem R_iand {x y : Int32} (hd : decode cc pc = .ok (.iand, 1)) (k : Q l own cc nL d mc ms G (pc + 1) lf (.int (x &&& y) :: st) h ce sl) : Q l own cc nL d mc ms G pc lf (.int y :: .int x :: st) h ce sl := by
  intro p e R s m args below meth c D dA θ A QQ H locs ls cx g wd hl
  exact lv_iand cx.1 cx.2.1 hd (k p e R s m args below meth c D dA θ A QQ H locs ls cx g wd hl)
theorem R_ishl {x y : Int32} (hd : decode cc pc = .ok (.ishl, 1)) (k : Q l own cc nL d mc ms G (pc + 1) lf (.int (x <<< (y &&& 31)) :: st) h ce sl) : Q l own cc nL d mc ms G pc lf (.int y :: .int x :: st) h ce sl := by
  intro p e R s m args below meth c D dA θ A QQ H locs ls cx g wd hl
  exact lv_ishl cx.1 cx.2.1 hd (k p e R s m args below meth c D dA θ A QQ H locs ls cx g wd hl)
theorem R_idiv {x y : Int32} (hd : decode cc pc = .ok (.idiv, 1)) (hne : ¬ y = 0) (k : Q l own cc nL d mc ms G (pc + 1) lf (.int (x / y) :: st) h ce sl) : Q l own cc nL d mc ms G pc lf (.int y :: .int x :: st) h ce sl := by
  intro p e R s m args below meth c D dA θ A QQ H locs ls cx g wd hl
  exact lv_idiv cx.1 cx.2.1 hd hne (k p e R s m args below meth c D dA θ A QQ H locs ls cx g wd hl)
theorem R_irem {x y : Int32} (hd : decode cc pc = .ok (.irem, 1)) (hne : ¬ y = 0) (k : Q l own cc nL d mc ms G (pc + 1) lf (.int (x - x / y * y) :: st) h ce sl) : Q l own cc nL d mc ms G pc lf (.int y :: .int x :: st) h ce sl := by
  intro p e R s m args below meth c D dA θ A QQ H locs ls cx g wd hl
  exact lv_irem cx.1 cx.2.1 hd hne (k p e R s m args below meth c D dA θ A QQ H locs ls cx g wd hl)
theorem R_i2c {x v : Int32} (hd : decode cc pc = .ok (.i2c, 1)) (hv : (x.toUInt32 % 65536).toInt32 = v) (k : Q l own cc nL d mc ms G (pc + 1) lf (.int v :: st) h ce sl) : Q l own cc nL d mc ms G pc lf (.int x :: st) h ce sl := by
  intro p e R s m args below meth c D dA θ A QQ H locs ls cx g wd hl
  exact lv_i2c cx.1 cx.2.1 hd hv (k p e R s m args below meth c D dA θ A QQ H locs ls cx g wd hl)
theorem R_i2l {x : Int32} {v : Int64} (hd : decode cc pc = .ok (.i2l, 1)) (hv : x.toInt64 = v) (k : Q l own cc nL d mc ms G (pc + 1) lf (.long v :: st) h ce sl) : Q l own cc nL d mc ms G pc lf (.int x :: st) h ce sl := by
  intro p e R s m args below meth c D dA θ A QQ H locs ls cx g wd hl
  exact lv_i2l cx.1 cx.2.1 hd hv (k p e R s m args below meth c D dA θ A QQ H locs ls cx g wd hl)
theorem R_lcmp {x y : Int64} (hd : decode cc pc = .ok (.lcmp, 1)) (k : Q l own cc nL d mc ms G (pc + 1) lf (.int (lg_cmp x y) :: st) h ce sl) : Q l own cc nL d mc ms G pc lf (.long y :: .long x :: st) h ce sl := by
  intro p e R s m args below meth c D dA θ A QQ H locs ls cx g wd hl
  exact W.lcmp cx.1 cx.2.1 hd (k p e R s m args below meth c D dA θ A QQ H locs ls cx g wd hl)
theorem R_goto {off : Int} {tgt : Nat} (hd : decode cc pc = .ok (.goto off, 3)) (ht : (pc : Int) + off = (tgt : Int)) (k : Q l own cc nL d mc ms G tgt lf st h ce sl) : Q l own cc nL d mc ms G pc lf st h ce sl := by
  intro p e R s m args below meth c D dA θ A QQ H locs ls cx g wd hl
  exact lv_goto cx.1 cx.2.1 hd ht (k p e R s m args below meth c D dA θ A QQ H locs ls cx g wd hl)
theorem R_if_eq {x : Int32} {off : Int} {tgt : Nat} (hd : decode cc pc = .ok (.ifCond .eq off, 3)) (ht : (pc : Int) + off = (tgt : Int)) (kt : x = 0 → Q l own cc nL d mc ms G tgt lf st h ce sl) (kf : ¬ x = 0 → Q l own cc nL d mc ms G (pc + 3) lf st h ce sl) : Q l own cc nL d mc ms G pc lf (.int x :: st) h ce sl := by
  intro p e R s m args below meth c D dA θ A QQ H locs ls cx g wd hl
  exact lv_if_eq cx.1 cx.2.1 hd ht (fun q => kt q p e R s m args below meth c D dA θ A QQ H locs ls cx g wd hl) (fun q => kf q p e R s m args below meth c D dA θ A QQ H locs ls cx g wd hl)
theorem R_if_eq_t {x : Int32} {off : Int} {tgt : Nat} (hd : decode cc pc = .ok (.ifCond .eq off, 3)) (ht : (pc : Int) + off = (tgt : Int)) (q : x = 0) (kt : Q l own cc nL d mc ms G tgt lf st h ce sl) : Q l own cc nL d mc ms G pc lf (.int x :: st) h ce sl := R_if_eq hd ht (fun _ => kt) (fun z => absurd q (by first | exact z | (intro q; exact q z)))
theorem R_if_eq_f {x : Int32} {off : Int} {tgt : Nat} (hd : decode cc pc = .ok (.ifCond .eq off, 3)) (ht : (pc : Int) + off = (tgt : Int)) (q : ¬ x = 0) (kf : Q l own cc nL d mc ms G (pc + 3) lf st h ce sl) : Q l own cc nL d mc ms G pc lf (.int x :: st) h ce sl := R_if_eq hd ht (fun z => absurd z (by first | exact q | (intro z; exact z q))) (fun _ => kf)
theorem R_icmp_eq {x y : Int32} {off : Int} {tgt : Nat} (hd : decode cc pc = .ok (.if_icmp .eq off, 3)) (ht : (pc : Int) + off = (tgt : Int)) (kt : x = y → Q l own cc nL d mc ms G tgt lf st h ce sl) (kf : ¬ x = y → Q l own cc nL d mc ms G (pc + 3) lf st h ce sl) : Q l own cc nL d mc ms G pc lf (.int y :: .int x :: st) h ce sl := by
  intro p e R s m args below meth c D dA θ A QQ H locs ls cx g wd hl
  exact lv_icmp_eq cx.1 cx.2.1 hd ht (fun q => kt q p e R s m args below meth c D dA θ A QQ H locs ls cx g wd hl) (fun q => kf q p e R s m args below meth c D dA θ A QQ H locs ls cx g wd hl)
theorem R_icmp_eq_t {x y : Int32} {off : Int} {tgt : Nat} (hd : decode cc pc = .ok (.if_icmp .eq off, 3)) (ht : (pc : Int) + off = (tgt : Int)) (q : x = y) (kt : Q l own cc nL d mc ms G tgt lf st h ce sl) : Q l own cc nL d mc ms G pc lf (.int y :: .int x :: st) h ce sl := R_icmp_eq hd ht (fun _ => kt) (fun z => absurd q (by first | exact z | (intro q; exact q z)))
theorem R_icmp_eq_f {x y : Int32} {off : Int} {tgt : Nat} (hd : decode cc pc = .ok (.if_icmp .eq off, 3)) (ht : (pc : Int) + off = (tgt : Int)) (q : ¬ x = y) (kf : Q l own cc nL d mc ms G (pc + 3) lf st h ce sl) : Q l own cc nL d mc ms G pc lf (.int y :: .int x :: st) h ce sl := R_icmp_eq hd ht (fun z => absurd z (by first | exact q | (intro z; exact z q))) (fun _ => kf)
theorem R_if_ne {x : Int32} {off : Int} {tgt : Nat} (hd : decode cc pc = .ok (.ifCond .ne off, 3)) (ht : (pc : Int) + off = (tgt : Int)) (kt : ¬ x = 0 → Q l own cc nL d mc ms G tgt lf st h ce sl) (kf : x = 0 → Q l own cc nL d mc ms G (pc + 3) lf st h ce sl) : Q l own cc nL d mc ms G pc lf (.int x :: st) h ce sl := by
  intro p e R s m args below meth c D dA θ A QQ H locs ls cx g wd hl
  exact lv_if_ne cx.1 cx.2.1 hd ht (fun q => kt q p e R s m args below meth c D dA θ A QQ H locs ls cx g wd hl) (fun q => kf q p e R s m args below meth c D dA θ A QQ H locs ls cx g wd hl)
theorem R_if_ne_t {x : Int32} {off : Int} {tgt : Nat} (hd : decode cc pc = .ok (.ifCond .ne off, 3)) (ht : (pc : Int) + off = (tgt : Int)) (q : ¬ x = 0) (kt : Q l own cc nL d mc ms G tgt lf st h ce sl) : Q l own cc nL d mc ms G pc lf (.int x :: st) h ce sl := R_if_ne hd ht (fun _ => kt) (fun z => absurd q (by first | exact z | (intro q; exact q z)))
theorem R_if_ne_f {x : Int32} {off : Int} {tgt : Nat} (hd : decode cc pc = .ok (.ifCond .ne off, 3)) (ht : (pc : Int) + off = (tgt : Int)) (q : x = 0) (kf : Q l own cc nL d mc ms G (pc + 3) lf st h ce sl) : Q l own cc nL d mc ms G pc lf (.int x :: st) h ce sl := R_if_ne hd ht (fun z => absurd z (by first | exact q | (intro z; exact z q))) (fun _ => kf)
theorem R_icmp_ne {x y : Int32} {off : Int} {tgt : Nat} (hd : decode cc pc = .ok (.if_icmp .ne off, 3)) (ht : (pc : Int) + off = (tgt : Int)) (kt : ¬ x = y → Q l own cc nL d mc ms G tgt lf st h ce sl) (kf : x = y → Q l own cc nL d mc ms G (pc + 3) lf st h ce sl) : Q l own cc nL d mc ms G pc lf (.int y :: .int x :: st) h ce sl := by
  intro p e R s m args below meth c D dA θ A QQ H locs ls cx g wd hl
  exact lv_icmp_ne cx.1 cx.2.1 hd ht (fun q => kt q p e R s m args below meth c D dA θ A QQ H locs ls cx g wd hl) (fun q => kf q p e R s m args below meth c D dA θ A QQ H locs ls cx g wd hl)
theorem R_icmp_ne_t {x y : Int32} {off : Int} {tgt : Nat} (hd : decode cc pc = .ok (.if_icmp .ne off, 3)) (ht : (pc : Int) + off = (tgt : Int)) (q : ¬ x = y) (kt : Q l own cc nL d mc ms G tgt lf st h ce sl) : Q l own cc nL d mc ms G pc lf (.int y :: .int x :: st) h ce sl := R_icmp_ne hd ht (fun _ => kt) (fun z => absurd q (by first | exact z | (intro q; exact q z)))
theorem R_icmp_ne_f {x y : Int32} {off : Int} {tgt : Nat} (hd : decode cc pc = .ok (.if_icmp .ne off, 3)) (ht : (pc : Int) + off = (tgt : Int)) (q : x = y) (kf : Q l own cc nL d mc ms G (pc + 3) lf st h ce sl) : Q l own cc nL d mc ms G pc lf (.int y :: .int x :: st) h ce sl := R_icmp_ne hd ht (fun z => absurd z (by first | exact q | (intro z; exact z q))) (fun _ => kf)
theorem R_if_lt {x : Int32} {off : Int} {tgt : Nat} (hd : decode cc pc = .ok (.ifCond .lt off, 3)) (ht : (pc : Int) + off = (tgt : Int)) (kt : x < 0 → Q l own cc nL d mc ms G tgt lf st h ce sl) (kf : ¬ x < 0 → Q l own cc nL d mc ms G (pc + 3) lf st h ce sl) : Q l own cc nL d mc ms G pc lf (.int x :: st) h ce sl := by
  intro p e R s m args below meth c D dA θ A QQ H locs ls cx g wd hl
  exact lv_if_lt cx.1 cx.2.1 hd ht (fun q => kt q p e R s m args below meth c D dA θ A QQ H locs ls cx g wd hl) (fun q => kf q p e R s m args below meth c D dA θ A QQ H locs ls cx g wd hl)
theorem R_if_lt_t {x : Int32} {off : Int} {tgt : Nat} (hd : decode cc pc = .ok (.ifCond .lt off, 3)) (ht : (pc : Int) + off = (tgt : Int)) (q : x < 0) (kt : Q l own cc nL d mc ms G tgt lf st h ce sl) : Q l own cc nL d mc ms G pc lf (.int x :: st) h ce sl := R_if_lt hd ht (fun _ => kt) (fun z => absurd q (by first | exact z | (intro q; exact q z)))
theorem R_if_lt_f {x : Int32} {off : Int} {tgt : Nat} (hd : decode cc pc = .ok (.ifCond .lt off, 3)) (ht : (pc : Int) + off = (tgt : Int)) (q : ¬ x < 0) (kf : Q l own cc nL d mc ms G (pc + 3) lf st h ce sl) : Q l own cc nL d mc ms G pc lf (.int x :: st) h ce sl := R_if_lt hd ht (fun z => absurd z (by first | exact q | (intro z; exact z q))) (fun _ => kf)
theorem R_icmp_lt {x y : Int32} {off : Int} {tgt : Nat} (hd : decode cc pc = .ok (.if_icmp .lt off, 3)) (ht : (pc : Int) + off = (tgt : Int)) (kt : x < y → Q l own cc nL d mc ms G tgt lf st h ce sl) (kf : ¬ x < y → Q l own cc nL d mc ms G (pc + 3) lf st h ce sl) : Q l own cc nL d mc ms G pc lf (.int y :: .int x :: st) h ce sl := by
  intro p e R s m args below meth c D dA θ A QQ H locs ls cx g wd hl
  exact lv_icmp_lt cx.1 cx.2.1 hd ht (fun q => kt q p e R s m args below meth c D dA θ A QQ H locs ls cx g wd hl) (fun q => kf q p e R s m args below meth c D dA θ A QQ H locs ls cx g wd hl)
theorem R_icmp_lt_t {x y : Int32} {off : Int} {tgt : Nat} (hd : decode cc pc = .ok (.if_icmp .lt off, 3)) (ht : (pc : Int) + off = (tgt : Int)) (q : x < y) (kt : Q l own cc nL d mc ms G tgt lf st h ce sl) : Q l own cc nL d mc ms G pc lf (.int y :: .int x :: st) h ce sl := R_icmp_lt hd ht (fun _ => kt) (fun z => absurd q (by first | exact z | (intro q; exact q z)))
theorem R_icmp_lt_f {x y : Int32} {off : Int} {tgt : Nat} (hd : decode cc pc = .ok (.if_icmp .lt off, 3)) (ht : (pc : Int) + off = (tgt : Int)) (q : ¬ x < y) (kf : Q l own cc nL d mc ms G (pc + 3) lf st h ce sl) : Q l own cc nL d mc ms G pc lf (.int y :: .int x :: st) h ce sl := R_icmp_lt hd ht (fun z => absurd z (by first | exact q | (intro z; exact z q))) (fun _ => kf)
theorem R_if_ge {x : Int32} {off : Int} {tgt : Nat} (hd : decode cc pc = .ok (.ifCond .ge off, 3)) (ht : (pc : Int) + off = (tgt : Int)) (kt : 0 ≤ x → Q l own cc nL d mc ms G tgt lf st h ce sl) (kf : ¬ 0 ≤ x → Q l own cc nL d mc ms G (pc + 3) lf st h ce sl) : Q l own cc nL d mc ms G pc lf (.int x :: st) h ce sl := by
  intro p e R s m args below meth c D dA θ A QQ H locs ls cx g wd hl
  exact lv_if_ge cx.1 cx.2.1 hd ht (fun q => kt q p e R s m args below meth c D dA θ A QQ H locs ls cx g wd hl) (fun q => kf q p e R s m args below meth c D dA θ A QQ H locs ls cx g wd hl)
theorem R_if_ge_t {x : Int32} {off : Int} {tgt : Nat} (hd : decode cc pc = .ok (.ifCond .ge off, 3)) (ht : (pc : Int) + off = (tgt : Int)) (q : 0 ≤ x) (kt : Q l own cc nL d mc ms G tgt lf st h ce sl) : Q l own cc nL d mc ms G pc lf (.int x :: st) h ce sl := R_if_ge hd ht (fun _ => kt) (fun z => absurd q (by first | exact z | (intro q; exact q z)))
theorem R_if_ge_f {x : Int32} {off : Int} {tgt : Nat} (hd : decode cc pc = .ok (.ifCond .ge off, 3)) (ht : (pc : Int) + off = (tgt : Int)) (q : ¬ 0 ≤ x) (kf : Q l own cc nL d mc ms G (pc + 3) lf st h ce sl) : Q l own cc nL d mc ms G pc lf (.int x :: st) h ce sl := R_if_ge hd ht (fun z => absurd z (by first | exact q | (intro z; exact z q))) (fun _ => kf)
theorem R_icmp_ge {x y : Int32} {off : Int} {tgt : Nat} (hd : decode cc pc = .ok (.if_icmp .ge off, 3)) (ht : (pc : Int) + off = (tgt : Int)) (kt : y ≤ x → Q l own cc nL d mc ms G tgt lf st h ce sl) (kf : ¬ y ≤ x → Q l own cc nL d mc ms G (pc + 3) lf st h ce sl) : Q l own cc nL d mc ms G pc lf (.int y :: .int x :: st) h ce sl := by
  intro p e R s m args below meth c D dA θ A QQ H locs ls cx g wd hl
  exact lv_icmp_ge cx.1 cx.2.1 hd ht (fun q => kt q p e R s m args below meth c D dA θ A QQ H locs ls cx g wd hl) (fun q => kf q p e R s m args below meth c D dA θ A QQ H locs ls cx g wd hl)
theorem R_icmp_ge_t {x y : Int32} {off : Int} {tgt : Nat} (hd : decode cc pc = .ok (.if_icmp .ge off, 3)) (ht : (pc : Int) + off = (tgt : Int)) (q : y ≤ x) (kt : Q l own cc nL d mc ms G tgt lf st h ce sl) : Q l own cc nL d mc ms G pc lf (.int y :: .int x :: st) h ce sl := R_icmp_ge hd ht (fun _ => kt) (fun z => absurd q (by first | exact z | (intro q; exact q z)))
theorem R_icmp_ge_f {x y : Int32} {off : Int} {tgt : Nat} (hd : decode cc pc = .ok (.if_icmp .ge off, 3)) (ht : (pc : Int) + off = (tgt : Int)) (q : ¬ y ≤ x) (kf : Q l own cc nL d mc ms G (pc + 3) lf st h ce sl) : Q l own cc nL d mc ms G pc lf (.int y :: .int x :: st) h ce sl := R_icmp_ge hd ht (fun z => absurd z (by first | exact q | (intro z; exact z q))) (fun _ => kf)
theorem R_if_gt {x : Int32} {off : Int} {tgt : Nat} (hd : decode cc pc = .ok (.ifCond .gt off, 3)) (ht : (pc : Int) + off = (tgt : Int)) (kt : 0 < x → Q l own cc nL d mc ms G tgt lf st h ce sl) (kf : ¬ 0 < x → Q l own cc nL d mc ms G (pc + 3) lf st h ce sl) : Q l own cc nL d mc ms G pc lf (.int x :: st) h ce sl := by
  intro p e R s m args below meth c D dA θ A QQ H locs ls cx g wd hl
  exact lv_if_gt cx.1 cx.2.1 hd ht (fun q => kt q p e R s m args below meth c D dA θ A QQ H locs ls cx g wd hl) (fun q => kf q p e R s m args below meth c D dA θ A QQ H locs ls cx g wd hl)
theorem R_if_gt_t {x : Int32} {off : Int} {tgt : Nat} (hd : decode cc pc = .ok (.ifCond .gt off, 3)) (ht : (pc : Int) + off = (tgt : Int)) (q : 0 < x) (kt : Q l own cc nL d mc ms G tgt lf st h ce sl) : Q l own cc nL d mc ms G pc lf (.int x :: st) h ce sl := R_if_gt hd ht (fun _ => kt) (fun z => absurd q (by first | exact z | (intro q; exact q z)))
theorem R_if_gt_f {x : Int32} {off : Int} {tgt : Nat} (hd : decode cc pc = .ok (.ifCond .gt off, 3)) (ht : (pc : Int) + off = (tgt : Int)) (q : ¬ 0 < x) (kf : Q l own cc nL d mc ms G (pc + 3) lf st h ce sl) : Q l own cc nL d mc ms G pc lf (.int x :: st) h ce sl := R_if_gt hd ht (fun z => absurd z (by first | exact q | (intro z; exact z q))) (fun _ => kf)
theorem R_icmp_gt {x y : Int32} {off : Int} {tgt : Nat} (hd : decode cc pc = .ok (.if_icmp .gt off, 3)) (ht : (pc : Int) + off = (tgt : Int)) (kt : y < x → Q l own cc nL d mc ms G tgt lf st h ce sl) (kf : ¬ y < x → Q l own cc nL d mc ms G (pc + 3) lf st h ce sl) : Q l own cc nL d mc ms G pc lf (.int y :: .int x :: st) h ce sl := by
  intro p e R s m args below meth c D dA θ A QQ H locs ls cx g wd hl
  exact lv_icmp_gt cx.1 cx.2.1 hd ht (fun q => kt q p e R s m args below meth c D dA θ A QQ H locs ls cx g wd hl) (fun q => kf q p e R s m args below meth c D dA θ A QQ H locs ls cx g wd hl)
theorem R_icmp_gt_t {x y : Int32} {off : Int} {tgt : Nat} (hd : decode cc pc = .ok (.if_icmp .gt off, 3)) (ht : (pc : Int) + off = (tgt : Int)) (q : y < x) (kt : Q l own cc nL d mc ms G tgt lf st h ce sl) : Q l own cc nL d mc ms G pc lf (.int y :: .int x :: st) h ce sl := R_icmp_gt hd ht (fun _ => kt) (fun z => absurd q (by first | exact z | (intro q; exact q z)))
theorem R_icmp_gt_f {x y : Int32} {off : Int} {tgt : Nat} (hd : decode cc pc = .ok (.if_icmp .gt off, 3)) (ht : (pc : Int) + off = (tgt : Int)) (q : ¬ y < x) (kf : Q l own cc nL d mc ms G (pc + 3) lf st h ce sl) : Q l own cc nL d mc ms G pc lf (.int y :: .int x :: st) h ce sl := R_icmp_gt hd ht (fun z => absurd z (by first | exact q | (intro z; exact z q))) (fun _ => kf)
theorem R_if_le {x : Int32} {off : Int} {tgt : Nat} (hd : decode cc pc = .ok (.ifCond .le off, 3)) (ht : (pc : Int) + off = (tgt : Int)) (kt : x ≤ 0 → Q l own cc nL d mc ms G tgt lf st h ce sl) (kf : ¬ x ≤ 0 → Q l own cc nL d mc ms G (pc + 3) lf st h ce sl) : Q l own cc nL d mc ms G pc lf (.int x :: st) h ce sl := by
  intro p e R s m args below meth c D dA θ A QQ H locs ls cx g wd hl
  exact lv_if_le cx.1 cx.2.1 hd ht (fun q => kt q p e R s m args below meth c D dA θ A QQ H locs ls cx g wd hl) (fun q => kf q p e R s m args below meth c D dA θ A QQ H locs ls cx g wd hl)
theorem R_if_le_t {x : Int32} {off : Int} {tgt : Nat} (hd : decode cc pc = .ok (.ifCond .le off, 3)) (ht : (pc : Int) + off = (tgt : Int)) (q : x ≤ 0) (kt : Q l own cc nL d mc ms G tgt lf st h ce sl) : Q l own cc nL d mc ms G pc lf (.int x :: st) h ce sl := R_if_le hd ht (fun _ => kt) (fun z => absurd q (by first | exact z | (intro q; exact q z)))
theorem R_if_le_f {x : Int32} {off : Int} {tgt : Nat} (hd : decode cc pc = .ok (.ifCond .le off, 3)) (ht : (pc : Int) + off = (tgt : Int)) (q : ¬ x ≤ 0) (kf : Q l own cc nL d mc ms G (pc + 3) lf st h ce sl) : Q l own cc nL d mc ms G pc lf (.int x :: st) h ce sl := R_if_le hd ht (fun z => absurd z (by first | exact q | (intro z; exact z q))) (fun _ => kf)
theorem R_icmp_le {x y : Int32} {off : Int} {tgt : Nat} (hd : decode cc pc = .ok (.if_icmp .le off, 3)) (ht : (pc : Int) + off = (tgt : Int)) (kt : x ≤ y → Q l own cc nL d mc ms G tgt lf st h ce sl) (kf : ¬ x ≤ y → Q l own cc nL d mc ms G (pc + 3) lf st h ce sl) : Q l own cc nL d mc ms G pc lf (.int y :: .int x :: st) h ce sl := by
  intro p e R s m args below meth c D dA θ A QQ H locs ls cx g wd hl
  exact lv_icmp_le cx.1 cx.2.1 hd ht (fun q => kt q p e R s m args below meth c D dA θ A QQ H locs ls cx g wd hl) (fun q => kf q p e R s m args below meth c D dA θ A QQ H locs ls cx g wd hl)
theorem R_icmp_le_t {x y : Int32} {off : Int} {tgt : Nat} (hd : decode cc pc = .ok (.if_icmp .le off, 3)) (ht : (pc : Int) + off = (tgt : Int)) (q : x ≤ y) (kt : Q l own cc nL d mc ms G tgt lf st h ce sl) : Q l own cc nL d mc ms G pc lf (.int y :: .int x :: st) h ce sl := R_icmp_le hd ht (fun _ => kt) (fun z => absurd q (by first | exact z | (intro q; exact q z)))
theorem R_icmp_le_f {x y : Int32} {off : Int} {tgt : Nat} (hd : decode cc pc = .ok (.if_icmp .le off, 3)) (ht : (pc : Int) + off = (tgt : Int)) (q : ¬ x ≤ y) (kf : Q l own cc nL d mc ms G (pc + 3) lf st h ce sl) : Q l own cc nL d mc ms G pc lf (.int y :: .int x :: st) h ce sl := R_icmp_le hd ht (fun z => absurd z (by first | exact q | (intro z; exact z q))) (fun _ => kf)
theorem R_dup {v : Value} (hd : decode cc pc = .ok (.dup, 1)) (hv : v.category = 1) (k : Q l own cc nL d mc ms G (pc + 1) lf (v :: v :: st) h ce sl) : Q l own cc nL d mc ms G pc lf (v :: st) h ce sl := by
  intro p e R s m args below meth c D dA θ A QQ H locs ls cx g wd hl
  exact lv_dup cx.1 cx.2.1 hd (by rw [cvV_cat]; exact hv) (k p e R s m args below meth c D dA θ A QQ H locs ls cx g wd hl)
theorem R_dup2 {u v : Value} (hd : decode cc pc = .ok (.dup2, 1)) (hu : u.category = 1) (hv : v.category = 1) (k : Q l own cc nL d mc ms G (pc + 1) lf (v :: u :: v :: u :: st) h ce sl) : Q l own cc nL d mc ms G pc lf (v :: u :: st) h ce sl := by
  intro p e R s m args below meth c D dA θ A QQ H locs ls cx g wd hl
  exact lv_dup2_11 cx.1 cx.2.1 hd (by rw [cvV_cat]; first | exact hv | exact hu) (by rw [cvV_cat]; first | exact hu | exact hv) (k p e R s m args below meth c D dA θ A QQ H locs ls cx g wd hl)
theorem R_pop {v : Value} (hd : decode cc pc = .ok (.pop, 1)) (hv : v.category = 1) (k : Q l own cc nL d mc ms G (pc + 1) lf st h ce sl) : Q l own cc nL d mc ms G pc lf (v :: st) h ce sl := by
  intro p e R s m args below meth c D dA θ A QQ H locs ls cx g wd hl
  exact lv_pop cx.1 cx.2.1 hd (by rw [cvV_cat]; exact hv) (k p e R s m args below meth c D dA θ A QQ H locs ls cx g wd hl)
theorem R_tableOut {dflt lo hi : Int} {offs : Array Int} {len : Nat} {x : Int32} {tgt : Nat} (hd : decode cc pc = .ok (.tableswitch dflt lo hi offs, len)) (hx : x.toInt < lo ∨ hi < x.toInt) (ht : (pc : Int) + dflt = (tgt : Int)) (k : Q l own cc nL d mc ms G tgt lf st h ce sl) : Q l own cc nL d mc ms G pc lf (.int x :: st) h ce sl := by
  intro p e R s m args below meth c D dA θ A QQ H locs ls cx g wd hl
  exact lv_tableOut cx.1 cx.2.1 hd hx ht (k p e R s m args below meth c D dA θ A QQ H locs ls cx g wd hl)
theorem R_tableIn {dflt lo hi : Int} {offs : Array Int} {len : Nat} {x : Int32} {off : Int} {tgt : Nat} (hd : decode cc pc = .ok (.tableswitch dflt lo hi offs, len)) (h1 : ¬ x.toInt < lo) (h2 : ¬ hi < x.toInt) (ho : offs[(x.toInt - lo).toNat]? = some off) (ht : (pc : Int) + off = (tgt : Int)) (k : Q l own cc nL d mc ms G tgt lf st h ce sl) : Q l own cc nL d mc ms G pc lf (.int x :: st) h ce sl := by
  intro p e R s m args below meth c D dA θ A QQ H locs ls cx g wd hl
  exact lv_tableIn cx.1 cx.2.1 hd h1 h2 ho ht (k p e R s m args below meth c D dA θ A QQ H locs ls cx g wd hl)
theorem R_lookup {dflt : Int} {ps : Array (Int × Int)} {len : Nat} {x : Int32} {off : Int} {tgt : Nat} (hd : decode cc pc = .ok (.lookupswitch dflt ps, len)) (hp : (ps.toList.zip (ps.toList.drop 1)).all (fun (a, next) => a.1 < next.1) = true) (ho : Op.lookupswitch.offset ps.toList dflt x.toInt = off) (ht : (pc : Int) + off = (tgt : Int)) (k : Q l own cc nL d mc ms G tgt lf st h ce sl) : Q l own cc nL d mc ms G pc lf (.int x :: st) h ce sl := by
  intro p e R s m args below meth c D dA θ A QQ H locs ls cx g wd hl
  exact lv_lookup cx.1 cx.2.1 hd hp ho ht (k p e R s m args below meth c D dA θ A QQ H locs ls cx g wd hl)
theorem R_fconst0 (hd : decode cc pc = .ok (.fconst 0, 1)) (k : Q l own cc nL d mc ms G (pc + 1) lf (.float FP.fconst0 :: st) h ce sl) : Q l own cc nL d mc ms G pc lf st h ce sl := by
  intro p e R s m args below meth c D dA θ A QQ H locs ls cx g wd hl
  exact lv_fconst0 cx.1 cx.2.1 hd (k p e R s m args below meth c D dA θ A QQ H locs ls cx g wd hl)
theorem R_fconst1 (hd : decode cc pc = .ok (.fconst 1, 1)) (k : Q l own cc nL d mc ms G (pc + 1) lf (.float FP.fconst1 :: st) h ce sl) : Q l own cc nL d mc ms G pc lf st h ce sl := by
  intro p e R s m args below meth c D dA θ A QQ H locs ls cx g wd hl
  exact lv_fconst1 cx.1 cx.2.1 hd (k p e R s m args below meth c D dA θ A QQ H locs ls cx g wd hl)
theorem R_fconst2 (hd : decode cc pc = .ok (.fconst 2, 1)) (k : Q l own cc nL d mc ms G (pc + 1) lf (.float FP.fconst2 :: st) h ce sl) : Q l own cc nL d mc ms G pc lf st h ce sl := by
  intro p e R s m args below meth c D dA θ A QQ H locs ls cx g wd hl
  exact lv_fconst2 cx.1 cx.2.1 hd (k p e R s m args below meth c D dA θ A QQ H locs ls cx g wd hl)
theorem R_dconst0 (hd : decode cc pc = .ok (.dconst 0, 1)) (k : Q l own cc nL d mc ms G (pc + 1) lf (.double FP.dconst0 :: st) h ce sl) : Q l own cc nL d mc ms G pc lf st h ce sl := by
  intro p e R s m args below meth c D dA θ A QQ H locs ls cx g wd hl
  exact lv_dconst0 cx.1 cx.2.1 hd (k p e R s m args below meth c D dA θ A QQ H locs ls cx g wd hl)
theorem R_dstore {i : Nat} {x : UInt64} (hd : decode cc pc = .ok (.dstore i, 2)) (hn : i + 1 < nL) (hs : stO lf i (.double x) lf') (h2 : lf' (i + 1) = none) (k : Q l own cc nL d mc ms G (pc + 2) lf' st h ce sl) : Q l own cc nL d mc ms G pc lf (.double x :: st) h ce sl := by
  intro p e R s m args below meth c D dA θ A QQ H locs ls cx g wd hl
  refine lv_dstore cx.1 cx.2.1 hd hl hn rfl (fun ls9 hl9 => k p e R s m args below meth c D dA θ A QQ H locs ls9 cx g wd ⟨hl9.1, hl9.2.1, fun q hq => hl9.2.2 q ?_⟩)
  obtain ⟨h1, v, h2', h3⟩ := lcv_mem.mp hq
  by_cases he : q.1 = i
  · rw [he, hs.1] at h2'
    cases h2'
    exact List.mem_cons.mpr (Or.inl (by obtain ⟨a, b⟩ := q; dsimp only at he h3 ⊢; rw [he, h3]; rfl))
  · obtain ⟨h4, h5⟩ := hs.2 _ _ he h2'
    have h7 : q.1 ≠ i + 1 := fun e9 => by rw [e9, h2] at h2'; cases h2'
    refine List.mem_cons_of_mem _ (List.mem_filter.mpr ⟨lcv_mem.mpr ⟨h1, v, h4, h3⟩, ?_⟩)
    have h6 : ¬ (q.1 + 1 = i ∧ q.2.category = 2) := fun ⟨e1, e2⟩ => by rw [h3, cvV_cat, h5 e1] at e2; cases e2
    simp only [Bool.and_eq_true, Bool.not_eq_true', beq_eq_false_iff_ne, Bool.and_eq_false_iff, ne_eq]
    refine ⟨he, h7, ?_⟩
    by_cases e1 : q.1 + 1 = i
    · exact Or.inr (fun e2 => h6 ⟨e1, by simpa using e2⟩)
    · exact Or.inl (by simpa using e1)
theorem R_i2f {x : Int32} (hd : decode cc pc = .ok (.i2f, 1)) (k : Q l own cc nL d mc ms G (pc + 1) lf (.float (FP.i2f x) :: st) h ce sl) : Q l own cc nL d mc ms G pc lf (.int x :: st) h ce sl := by
  intro p e R s m args below meth c D dA θ A QQ H locs ls cx g wd hl
  exact lv_i2f cx.1 cx.2.1 hd (k p e R s m args below meth c D dA θ A QQ H locs ls cx g wd hl)
theorem R_i2d {x : Int32} (hd : decode cc pc = .ok (.i2d, 1)) (k : Q l own cc nL d mc ms G (pc + 1) lf (.double (FP.i2d x) :: st) h ce sl) : Q l own cc nL d mc ms G pc lf (.int x :: st) h ce sl := by
  intro p e R s m args below meth c D dA θ A QQ H locs ls cx g wd hl
  exact lv_i2d cx.1 cx.2.1 hd (k p e R s m args below meth c D dA θ A QQ H locs ls cx g wd hl)
theorem R_f2i {x : UInt32} (hd : decode cc pc = .ok (.f2i, 1)) (k : Q l own cc nL d mc ms G (pc + 1) lf (.int (FP.f2i x) :: st) h ce sl) : Q l own cc nL d mc ms G pc lf (.float x :: st) h ce sl := by
  intro p e R s m args below meth c D dA θ A QQ H locs ls cx g wd hl
  exact lv_f2i cx.1 cx.2.1 hd (k p e R s m args below meth c D dA θ A QQ H locs ls cx g wd hl)
theorem R_fdiv {x y : UInt32} (hd : decode cc pc = .ok (.fdiv, 1)) (hne : vf_n32 (FP.fdiv x y)) (k : Q l own cc nL d mc ms G (pc + 1) lf (.float (FP.fdiv x y) :: st) h ce sl) : Q l own cc nL d mc ms G pc lf (.float y :: .float x :: st) h ce sl := by
  intro p e R s m args below meth c D dA θ A QQ H locs ls cx g wd hl
  exact lv_fdiv cx.1 cx.2.1 hd hne (k p e R s m args below meth c D dA θ A QQ H locs ls cx g wd hl)
theorem R_fmul {x y : UInt32} (hd : decode cc pc = .ok (.fmul, 1)) (hne : vf_n32 (FP.fmul x y)) (k : Q l own cc nL d mc ms G (pc + 1) lf (.float (FP.fmul x y) :: st) h ce sl) : Q l own cc nL d mc ms G pc lf (.float y :: .float x :: st) h ce sl := by
  intro p e R s m args below meth c D dA θ A QQ H locs ls cx g wd hl
  exact lv_fmul cx.1 cx.2.1 hd hne (k p e R s m args below meth c D dA θ A QQ H locs ls cx g wd hl)
theorem R_fsub {x y : UInt32} (hd : decode cc pc = .ok (.fsub, 1)) (hne : vf_n32 (FP.fsub x y)) (k : Q l own cc nL d mc ms G (pc + 1) lf (.float (FP.fsub x y) :: st) h ce sl) : Q l own cc nL d mc ms G pc lf (.float y :: .float x :: st) h ce sl := by
  intro p e R s m args below meth c D dA θ A QQ H locs ls cx g wd hl
  exact lv_fsub cx.1 cx.2.1 hd hne (k p e R s m args below meth c D dA θ A QQ H locs ls cx g wd hl)
theorem R_ddiv {x y : UInt64} (hd : decode cc pc = .ok (.ddiv, 1)) (hne : vf_n64 (FP.ddiv x y)) (k : Q l own cc nL d mc ms G (pc + 1) lf (.double (FP.ddiv x y) :: st) h ce sl) : Q l own cc nL d mc ms G pc lf (.double y :: .double x :: st) h ce sl := by
  intro p e R s m args below meth c D dA θ A QQ H locs ls cx g wd hl
  exact lv_ddiv cx.1 cx.2.1 hd hne (k p e R s m args below meth c D dA θ A QQ H locs ls cx g wd hl)
theorem R_fcmp {x y : UInt32} {op : CmpOp} (hd : decode cc pc = .ok (.fcmp op, 1)) (k : Q l own cc nL d mc ms G (pc + 1) lf (.int (Op.cmpValue (FP.fcmp x y) op) :: st) h ce sl) : Q l own cc nL d mc ms G pc lf (.float y :: .float x :: st) h ce sl := by
  intro p e R s m args below meth c D dA θ A QQ H locs ls cx g wd hl
  exact lv_fcmp cx.1 cx.2.1 hd (k p e R s m args below meth c D dA θ A QQ H locs ls cx g wd hl)
theorem R_dcmp {x y : UInt64} {op : CmpOp} (hd : decode cc pc = .ok (.dcmp op, 1)) (k : Q l own cc nL d mc ms G (pc + 1) lf (.int (Op.cmpValue (FP.dcmp x y) op) :: st) h ce sl) : Q l own cc nL d mc ms G pc lf (.double y :: .double x :: st) h ce sl := by
  intro p e R s m args below meth c D dA θ A QQ H locs ls cx g wd hl
  exact lv_dcmp cx.1 cx.2.1 hd (k p e R s m args below meth c D dA θ A QQ H locs ls cx g wd hl)
end RW
