/-- an end: the answer x, or the k-th throw -/
def oc (k : Nat) (x : Int32) (E : Nat → String) (h1 : HP) : Option Value ⊕ String → HP → Prop := if k = 0 then VI x h1 else ZE (E k) h1
/-- a call of the class, and then of the reference: the same code, the same answer, and the cells alike again -/
def PAIRi (K : Nat) (M : MM) (p : Nat → Nat) (E : Nat → String) (VA VB : HP → (Option Value ⊕ String → HP → Prop) → Prop) : Prop := ∃ (k : Nat) (x y : Int32) (M1 M2 : MM) (p1 : Nat → Nat), (∀ o, VA (hp M (p, o)) (oc k x E (hp M1 (p1, o)))) ∧ (∀ o, VB (hp M1 (p1, o)) (VI y (hp M2 (p1, o)))) ∧ k ≤ K ∧ M2 464 9 = nI k ∧ (k = 0 → x = y) ∧ REL M2 p1
theorem PR_x {K : Nat} {M M1 M2 : MM} {p p1 : Nat → Nat} {E : Nat → String} {VA VB : HP → (Option Value ⊕ String → HP → Prop) → Prop} {k : Nat} {y : Int32} (hk : (k = 1 ∧ 1 ≤ K) ∨ (k = 2 ∧ 2 ≤ K)) (A : ∀ o, VA (hp M (p, o)) (ZE (E k) (hp M1 (p1, o)))) (B : ∀ o, VB (hp M1 (p1, o)) (VI y (hp M2 (p1, o)))) (e9 : M2 464 9 = nI k) (r : REL M2 p1) : PAIRi K M p E VA VB :=
  ⟨k, 0, y, M1, M2, p1, fun o => by rw [oc, if_neg (by omega)]; exact A o, B, by omega, e9, fun z => by omega, r⟩
theorem PR_v {K : Nat} {M M1 M2 : MM} {p p1 : Nat → Nat} {E : Nat → String} {VA VB : HP → (Option Value ⊕ String → HP → Prop) → Prop} {x y : Int32} (A : ∀ o, VA (hp M (p, o)) (VI x (hp M1 (p1, o)))) (B : ∀ o, VB (hp M1 (p1, o)) (VI y (hp M2 (p1, o)))) (e : x = y) (e9 : M2 464 9 = 0) (r : REL M2 p1) : PAIRi K M p E VA VB :=
  ⟨0, x, y, M1, M2, p1, fun o => by rw [oc, if_pos rfl]; exact A o, B, by omega, e9, fun _ => e, r⟩
section P51
variable {M : MM} {p : Nat → Nat} {n c : Nat}
theorem P_ch (h : REL M p) (h1 : HR M 1 n (M 465)) (hI : IV (M 465) n) (hK : rlK M p c) {w : Int32 × MM} {t : MM → Int32 × MM} {VA VB : HP → (Option Value ⊕ String → HP → Prop) → Prop} (A : ∀ o, VA (hp M (p, o)) (setZ w.1 w.2 (p, o) n)) (B : ∀ N o p1, N 465 0 = nI n → N 464 6 = nI c → dwn N n → VB (hp N (p1, o)) (VI (t N).1 (hp (t N).2 (p1, o)))) (hCH : ∀ N : MM, HR (hcp M 42 1 n) 1 n (N 465) → IV (N 465) n → CH (hcp M 42 1 n) N c w (t N)) : PAIRi 1 M p (fun _ => UOE) VA VB := by
  have hn := hI.2.1
  have hC : ∀ N : MM, (∀ y, N 465 y = M 465 y) → CH (hcp M 42 1 n) N c w (t N) := fun N e => hCH N (HR_fn (fun x _ x2 => hcp_1 hn (by omega)) hn (fun y _ => e y) h1) (IV_eq (fun y _ => e y) hI)
  obtain ⟨M1, eM⟩ : ∃ M1, M1 = if w.1 = -1 then w.2 else keepM w.2 p n := ⟨_, rfl⟩
  obtain ⟨p1, eP⟩ : ∃ p1, p1 = if w.1 = -1 then p else rotR p := ⟨_, rfl⟩
  obtain ⟨r1, r2, r3⟩ := rel_ch h h1 hI hK eM eP hC
  have fr := ch_fr h.1 hn eM (hC M (fun _ => rfl))
  have e5 : ∀ y, M1 465 y = M 465 y := fun y => by rw [fr 465 (by omega)]
  have hB := fun o => B M1 o p1 ((e5 0).trans hI.1) (by rw [fr 464 (by omega)]; exact hK.2.1) (iv_dwn (IV_eq (fun y _ => e5 y) hI))
  by_cases cw : w.1 = -1
  · rw [if_pos cw] at r1 eM eP
    refine PR_x (k := 1) (Or.inl ⟨rfl, by decide⟩) (fun o => ?_) hB r1 r3
    have z := A o
    rw [setZ, if_pos cw] at z
    rw [eM, eP]
    exact z
  · rw [if_neg cw] at r1 eM eP
    refine PR_v (x := w.1) (fun o => ?_) hB (r2 cw).symm r1 r3
    have z := A o
    rw [setZ, if_neg cw] at z
    rw [eM, eP]
    exact z
theorem P_fish {l : Launch} (hf : l.stackTraces = false) (h : REL M p) {x : Int32} : PAIRi 1 M p (fun _ => UOE) (fun h Z => V_X9_fish l [.ref 0, .int x] h Z) (fun h Z => V_X10_fish l [.ref 464, .int x] h Z) := by
  obtain ⟨n, h1, hI⟩ := h.2.1
  obtain ⟨c, hK⟩ := h.2.2.1
  have hn := hI.2.1
  exact P_ch h h1 hI hK (w := wLet (hcp M 42 1 n) n x) (t := fun N => tFis N n c x) (fun o => s_X9_fish (M := M) (r := (p, o)) hf hn (hr_g h1 hI) (rel_flg h1 hI) h.1.1) (fun N o p1 e0 e6 hd => s_X10_fish (M := N) (r := (p1, o)) hf hn e0 hK.1 e6) (fun N a b => c_Let a b)
theorem P_brine {l : Launch} (hf : l.stackTraces = false) (h : REL M p) {x : Int32} : PAIRi 1 M p (fun _ => UOE) (fun h Z => V_X9_brine l [.ref 0, .int x] h Z) (fun h Z => V_X10_brine l [.ref 464, .int x] h Z) := by
  obtain ⟨n, h1, hI⟩ := h.2.1
  obtain ⟨c, hK⟩ := h.2.2.1
  have hn := hI.2.1
  exact P_ch h h1 hI hK (w := wBri (hcp M 42 1 n) n x) (t := fun N => tBri N n c x) (fun o => s_X9_brine (M := M) (r := (p, o)) hf hn (hr_g h1 hI) (rel_flg h1 hI) h.1.1) (fun N o p1 e0 e6 hd => s_X10_brine (M := N) (r := (p1, o)) hf hn e0 hK.1 e6) (fun N a b => c_Bri a b)
theorem P_out {l : Launch} (hf : l.stackTraces = false) (h : REL M p) {x : Int32} : PAIRi 1 M p (fun _ => UOE) (fun h Z => V_X9_out l [.ref 0, .int x] h Z) (fun h Z => V_X10_out l [.ref 464, .int x] h Z) := by
  obtain ⟨n, h1, hI⟩ := h.2.1
  obtain ⟨c, hK⟩ := h.2.2.1
  have hn := hI.2.1
  exact P_ch h h1 hI hK (w := wOut (hcp M 42 1 n) x) (t := fun N => tOut N n c x) (fun o => s_X9_out (M := M) (r := (p, o)) hf hn (hr_g h1 hI) (rel_flg h1 hI) h.1.1) (fun N o p1 e0 e6 hd => s_X10_out (M := N) (r := (p1, o)) hf hn e0 hK.1 e6) (fun N a b => c_Out a b)
theorem P_hang {l : Launch} (hf : l.stackTraces = false) (h : REL M p) {x q s : Int32} : PAIRi 1 M p (fun _ => UOE) (fun h Z => V_X9_hang l [.ref 0, .int x, .int q, .int s] h Z) (fun h Z => V_X10_hang l [.ref 464, .int x, .int q, .int s] h Z) := by
  obtain ⟨n, h1, hI⟩ := h.2.1
  obtain ⟨c, hK⟩ := h.2.2.1
  have hn := hI.2.1
  exact P_ch h h1 hI hK (w := wHan (hcp M 42 1 n) n x q s) (t := fun N => tHan N n c x q s) (fun o => s_X9_hang (M := M) (r := (p, o)) hf hn (hr_g h1 hI) (rel_flg h1 hI) h.1.1) (fun N o p1 e0 e6 hd => s_X10_hang (M := N) (r := (p1, o)) hf hn e0 hK.1 e6) (fun N a b => c_Han a b)
theorem P_turn {l : Launch} (hf : l.stackTraces = false) (h : REL M p) {x : Int32} : PAIRi 1 M p (fun _ => UOE) (fun h Z => V_X9_turn l [.ref 0, .int x] h Z) (fun h Z => V_X10_turn l [.ref 464, .int x] h Z) := by
  obtain ⟨n, h1, hI⟩ := h.2.1
  obtain ⟨c, hK⟩ := h.2.2.1
  have hn := hI.2.1
  exact P_ch h h1 hI hK (w := wTur (hcp M 42 1 n) x) (t := fun N => tTur N n c x) (fun o => s_X9_turn (M := M) (r := (p, o)) hf hn (hr_g h1 hI) (rel_flg h1 hI) h.1.1) (fun N o p1 e0 e6 hd => s_X10_turn (M := N) (r := (p1, o)) hf hn e0 hK.1 e6) (fun N a b => c_Tur a b)
theorem P_turnAll {l : Launch} (hf : l.stackTraces = false) (h : REL M p) {x : Int32} : PAIRi 1 M p (fun _ => UOE) (fun h Z => V_X9_turnAll l [.ref 0, .int x] h Z) (fun h Z => V_X10_turnAll l [.ref 464, .int x] h Z) := by
  obtain ⟨n, h1, hI⟩ := h.2.1
  obtain ⟨c, hK⟩ := h.2.2.1
  have hn := hI.2.1
  exact P_ch h h1 hI hK (w := wTrk (hcp M 42 1 n) n x) (t := fun N => tTrk N n c x) (fun o => s_X9_turnAll (M := M) (r := (p, o)) hf hn (hr_g h1 hI) (rel_flg h1 hI) h.1.1) (fun N o p1 e0 e6 hd => s_X10_turnAll (M := N) (r := (p1, o)) hf hn e0 hK.1 e6) (fun N a b => c_Trk a b)
theorem P_logs {l : Launch} (hf : l.stackTraces = false) (h : REL M p) {x : Int32} : PAIRi 1 M p (fun _ => UOE) (fun h Z => V_X9_logs l [.ref 0, .int x] h Z) (fun h Z => V_X10_logs l [.ref 464, .int x] h Z) := by
  obtain ⟨n, h1, hI⟩ := h.2.1
  obtain ⟨c, hK⟩ := h.2.2.1
  have hn := hI.2.1
  exact P_ch h h1 hI hK (w := wLog (hcp M 42 1 n) x) (t := fun N => tLog N n c x) (fun o => s_X9_logs (M := M) (r := (p, o)) hf hn (hr_g h1 hI) (rel_flg h1 hI) h.1.1) (fun N o p1 e0 e6 hd => s_X10_logs (M := N) (r := (p1, o)) hf hn e0 hK.1 e6) (fun N a b => c_Log a b)
theorem P_wood {l : Launch} (hf : l.stackTraces = false) (h : REL M p) {x : Int32} : PAIRi 1 M p (fun _ => UOE) (fun h Z => V_X9_wood l [.ref 0, .int x] h Z) (fun h Z => V_X10_wood l [.ref 464, .int x] h Z) := by
  obtain ⟨n, h1, hI⟩ := h.2.1
  obtain ⟨c, hK⟩ := h.2.2.1
  have hn := hI.2.1
  exact P_ch h h1 hI hK (w := wWoo (hcp M 42 1 n) x) (t := fun N => tWoo N n c x) (fun o => s_X9_wood (M := M) (r := (p, o)) hf hn (hr_g h1 hI) (rel_flg h1 hI) h.1.1) (fun N o p1 e0 e6 hd => s_X10_wood (M := N) (r := (p1, o)) hf hn e0 hK.1 e6) (fun N a b => c_Woo a b)
theorem P_day {l : Launch} (hf : l.stackTraces = false) (h : REL M p) : PAIRi 1 M p (fun _ => UOE) (fun h Z => V_X9_day l [.ref 0] h Z) (fun h Z => V_X10_day l [.ref 464] h Z) := by
  obtain ⟨n, h1, hI⟩ := h.2.1
  obtain ⟨c, hK⟩ := h.2.2.1
  have hn := hI.2.1
  exact P_ch h h1 hI hK (w := wDay (hcp M 42 1 n) n) (t := fun N => tDay N n c) (fun o => s_X9_day (M := M) (r := (p, o)) hf hn (hr_g h1 hI) (rel_flg h1 hI) h.1.1) (fun N o p1 e0 e6 hd => s_X10_day (M := N) (r := (p1, o)) hf hn e0 hK.1 e6) (fun N a b => c_Day a b)
theorem P_hours {l : Launch} (hf : l.stackTraces = false) (h : REL M p) {x : Int32} : PAIRi 1 M p (fun _ => UOE) (fun h Z => V_X9_hours l [.ref 0, .int x] h Z) (fun h Z => V_X10_hours l [.ref 464, .int x] h Z) := by
  obtain ⟨n, h1, hI⟩ := h.2.1
  obtain ⟨c, hK⟩ := h.2.2.1
  have hn := hI.2.1
  exact P_ch h h1 hI hK (w := wHrs (hcp M 42 1 n) n x) (t := fun N => tHrs N n c x) (fun o => s_X9_hours (M := M) (r := (p, o)) hf hn (hr_g h1 hI) (rel_flg h1 hI) h.1.1) (fun N o p1 e0 e6 hd => s_X10_hours (M := N) (r := (p1, o)) hf hn e0 hK.1 e6 hd) (fun N a b => c_Hrs a b)
theorem P_sell {l : Launch} (hf : l.stackTraces = false) (h : REL M p) {x : Int32} : PAIRi 1 M p (fun _ => UOE) (fun h Z => V_X9_sell l [.ref 0, .int x] h Z) (fun h Z => V_X10_sell l [.ref 464, .int x] h Z) := by
  obtain ⟨n, h1, hI⟩ := h.2.1
  obtain ⟨c, hK⟩ := h.2.2.1
  have hn := hI.2.1
  exact P_ch h h1 hI hK (w := wSel (hcp M 42 1 n) n x) (t := fun N => tSel N n c x) (fun o => s_X9_sell (M := M) (r := (p, o)) hf hn (hr_g h1 hI) (rel_flg h1 hI) h.1.1) (fun N o p1 e0 e6 hd => s_X10_sell (M := N) (r := (p1, o)) hf hn e0 hK.1 e6) (fun N a b => c_Sel a b)
theorem P_throwAway {l : Launch} (hf : l.stackTraces = false) (h : REL M p) {x : Int32} : PAIRi 1 M p (fun _ => UOE) (fun h Z => V_X9_throwAway l [.ref 0, .int x] h Z) (fun h Z => V_X10_throwAway l [.ref 464, .int x] h Z) := by
  obtain ⟨n, h1, hI⟩ := h.2.1
  obtain ⟨c, hK⟩ := h.2.2.1
  have hn := hI.2.1
  exact P_ch h h1 hI hK (w := wDis (hcp M 42 1 n) n x) (t := fun N => tThr N n c x) (fun o => s_X9_throwAway (M := M) (r := (p, o)) hf hn (hr_g h1 hI) (rel_flg h1 hI) h.1.1) (fun N o p1 e0 e6 hd => s_X10_throwAway (M := N) (r := (p1, o)) hf hn e0 hK.1 e6) (fun N a b => c_Dis a b)
end P51
