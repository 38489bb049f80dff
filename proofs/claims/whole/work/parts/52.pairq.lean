theorem ite39 {α β : Type} {a b : Prop} [Decidable a] [Decidable b] {x y z : α} {m : β} : (if a then (x, m) else if b then (y, m) else (z, m)) = (if a then x else if b then y else z, m) := by
  by_cases h1 : a
  · rw [if_pos h1, if_pos h1]
  · rw [if_neg h1, if_neg h1]
    by_cases h2 : b
    · rw [if_pos h2, if_pos h2]
    · rw [if_neg h2, if_neg h2]
def EE (a b : String) (k : Nat) : String := if k = 1 then a else b
section P52
variable {M : MM} {p : Nat → Nat} {n k c : Nat}
theorem HR_9 {v : Int32} (h : HR M 1 n (M 465)) (hn : n ≤ 12) : HR M 1 n (mst M 464 9 v 465) := HR_fn (fun _ _ _ => rfl) hn (fun y _ => mst_ne1 (by decide)) h
theorem IV_9 {v : Int32} (h : IV (M 465) n) : IV (mst M 464 9 v 465) n := IV_eq (fun y _ => mst_ne1 (by decide)) h
theorem P_fishOf {l : Launch} (hf : l.stackTraces = false) (h : REL M p) {x q : Int32} : PAIRi 2 M p (EE IOB IAE) (fun h Z => V_X9_fishOf l [.ref 0, .int x, .int q] h Z) (fun h Z => V_X10_fishOf l [.ref 464, .int x, .int q] h Z) := by
  obtain ⟨n, h1, hI⟩ := h.2.1
  have hn := hI.2.1
  have hg := hr_g h1 hI
  have A := fun o => s_X9_fishOf (M := M) (r := (p, o)) hf hn hg (x := x) (q := q)
  have B := fun o => s_X10_fishOf (M := M) (r := (p, o)) hf hn hI.1 (x := x) (q := q)
  by_cases c1 : zb (inB x 0 (nI n - 1)) = 0
  · exact PR_x (k := 1) (M1 := M) (p1 := p) (Or.inl ⟨rfl, by decide⟩) (fun o => by have z := A o; rw [has_in hg hn, if_pos (zb_0.mp c1)] at z; exact z) (fun o => by have z := B o; rw [show aFi M n x q = (0, mst M 464 9 1) from by unfold aFi; rw [if_pos c1]] at z; exact z) (mst_eq _ _ _ _) (REL_9 h)
  have c1' : ¬ inB x 0 (nI n - 1) = false := fun z => c1 (zb_0.mpr z)
  obtain ⟨k, hk, rfl⟩ := inB_k hn c1
  have ek : (nI k).toNatClampNeg = k := nI_cl (by omega)
  have ok := iv_k hI hk
  have er := rng_n (x := q) (hi := 8) (h1 := 9) (j := 8) (by omega) (by decide) (by decide)
  by_cases c2 : zb (inB q 0 8) = 0
  · exact PR_x (k := 2) (M1 := M) (p1 := p) (Or.inr ⟨rfl, by decide⟩) (fun o => by have z := A o; rw [has_in hg hn, if_neg c1', if_pos (er.mpr c2)] at z; exact z) (fun o => by have z := B o; rw [show aFi M n (nI k) q = (0, mst M 464 9 2) from by unfold aFi; rw [if_neg c1, if_pos c2]] at z; exact z) (mst_eq _ _ _ _) (REL_9 h)
  have c2' : ¬ (q < 0 ∨ ¬ q < 9) := fun z => c2 (er.mp z)
  obtain ⟨j, hj, rfl⟩ := inB_8 (b := 8) (by omega) c2
  have ej : (nI j).toNatClampNeg = j := nI_cl (by omega)
  exact PR_v (M1 := M) (p1 := p) (x := fNum M (6 + 3 * k) (nI j)) (fun o => by have z := A o; rw [has_in hg hn, if_neg c1', if_neg c2'] at z; simp only [fx, ek] at z; exact z) (fun o => by have z := B o; rw [show aFi M n (nI k) (nI j) = (fNum M (6 + 3 * k) (nI j), mst M 464 9 0) from by unfold aFi; rw [if_neg c1, if_neg c2, num_eq h1 hI hk hj, ek, ej]; exact ite39] at z; exact z) (rfl) (mst_eq _ _ _ _) (REL_9 h)
theorem P_sideOf {l : Launch} (hf : l.stackTraces = false) (h : REL M p) {x q y : Int32} : PAIRi 2 M p (EE IOB IAE) (fun h Z => V_X9_sideOf l [.ref 0, .int x, .int q, .int y] h Z) (fun h Z => V_X10_sideOf l [.ref 464, .int x, .int q, .int y] h Z) := by
  obtain ⟨n, h1, hI⟩ := h.2.1
  have hn := hI.2.1
  have hg := hr_g h1 hI
  have A := fun o => s_X9_sideOf (M := M) (r := (p, o)) hf hn hg (x := x) (q := q) (y := y)
  have B := fun o => s_X10_sideOf (M := M) (r := (p, o)) hf hn hI.1 (x := x) (q := q) (y := y)
  by_cases c1 : zb (inB x 0 (nI n - 1)) = 0
  · exact PR_x (k := 1) (M1 := M) (p1 := p) (Or.inl ⟨rfl, by decide⟩) (fun o => by have z := A o; rw [has_in hg hn, if_pos (zb_0.mp c1)] at z; exact z) (fun o => by have z := B o; rw [show aSi M n x q y = (0, mst M 464 9 1) from by unfold aSi; rw [if_pos c1]] at z; exact z) (mst_eq _ _ _ _) (REL_9 h)
  have c1' : ¬ inB x 0 (nI n - 1) = false := fun z => c1 (zb_0.mpr z)
  obtain ⟨k, hk, rfl⟩ := inB_k hn c1
  have ek : (nI k).toNatClampNeg = k := nI_cl (by omega)
  have ok := iv_k hI hk
  have er := rng_n (x := q) (hi := 1) (h1 := 2) (j := 1) (by omega) (by decide) (by decide)
  by_cases c2 : zb (inB q 0 1) = 0
  · exact PR_x (k := 2) (M1 := M) (p1 := p) (Or.inr ⟨rfl, by decide⟩) (fun o => by have z := A o; rw [has_in hg hn, if_neg c1', if_pos (er.mpr c2)] at z; exact z) (fun o => by have z := B o; rw [show aSi M n (nI k) q y = (0, mst M 464 9 2) from by unfold aSi; rw [if_neg c1, if_pos c2]] at z; exact z) (mst_eq _ _ _ _) (REL_9 h)
  have c2' : ¬ (q < 0 ∨ ¬ q < 2) := fun z => c2 (er.mp z)
  obtain ⟨j, hj, rfl⟩ := inB_8 (b := 1) (by omega) c2
  have ej : (nI j).toNatClampNeg = j := nI_cl (by omega)
  have es : ∀ d, d < 2 → M (if nI j = 0 then 6 + 3 * k + 1 else 6 + 3 * k + 2) d = oF M k (7 + 2 * d + j) := fun d hd => by
    match j, hj, d, hd with
    | 0, _, 0, _ => exact hr_7 h1 hk
    | 0, _, 1, _ => exact hr_9 h1 hk
    | 1, _, 0, _ => exact hr_8 h1 hk
    | 1, _, 1, _ => exact hr_10 h1 hk
  by_cases cy : y = 0
  · exact PR_v (M1 := M) (p1 := p) (x := M (if nI j = 0 then 6 + 3 * k + 1 else 6 + 3 * k + 2) 0) (fun o => by have z := A o; rw [has_in hg hn, if_neg c1', if_neg c2', if_pos cy] at z; simp only [fx, ek] at z; exact z) (fun o => by have z := B o; rw [show aSi M n (nI k) (nI j) y = (oF M k (7 + j), mst M 464 9 0) from by unfold aSi; rw [if_neg c1, if_neg c2, if_pos cy, ek, ej]] at z; exact z) (es 0 (by omega)) (mst_eq _ _ _ _) (REL_9 h)
  · exact PR_v (M1 := M) (p1 := p) (x := M (if nI j = 0 then 6 + 3 * k + 1 else 6 + 3 * k + 2) 1) (fun o => by have z := A o; rw [has_in hg hn, if_neg c1', if_neg c2', if_neg cy] at z; simp only [fx, ek] at z; exact z) (fun o => by have z := B o; rw [show aSi M n (nI k) (nI j) y = (oF M k (9 + j), mst M 464 9 0) from by unfold aSi; rw [if_neg c1, if_neg c2, if_neg cy, ek, ej]] at z; exact z) (es 1 (by omega)) (mst_eq _ _ _ _) (REL_9 h)
theorem P_at {l : Launch} (hf : l.stackTraces = false) (h : REL M p) {x q : Int32} : PAIRi 2 M p (EE IOB NSE) (fun h Z => V_X9_at l [.ref 0, .int x, .int q] h Z) (fun h Z => V_X10_at l [.ref 464, .int x, .int q] h Z) := by
  obtain ⟨n, h1, hI⟩ := h.2.1
  have hn := hI.2.1
  have hg := hr_g h1 hI
  have A := fun o => s_X9_at (M := M) (r := (p, o)) hf hn hg (p := x) (q := q)
  have B := fun o => s_X10_at (M := M) (r := (p, o)) hf hn hI.1 (p := x) (q := q)
  by_cases c0 : zb (inB x 0 3 && inB q 0 9) = 0
  · have c0' : inB x 0 3 = false ∨ inB q 0 9 = false := by have := zb_0.mp c0; rcases Bool.and_eq_false_iff.mp this with z | z; exact Or.inl z; exact Or.inr z
    · exact PR_x (k := 1) (M1 := M) (p1 := p) (Or.inl ⟨rfl, by decide⟩) (fun o => by have z := A o; rw [inR_in (x := x) (j := 3) (by omega) (show (4 : Int32) = nI 4 by decide), inR_in (x := q) (j := 9) (by omega) (show (10 : Int32) = nI 10 by decide), show nI 3 = 3 from rfl, show nI 9 = 9 from rfl, if_pos c0'] at z; exact z) (fun o => by have z := B o; rw [show aAt M n x q = (0, mst M 464 9 1) from by unfold aAt; rw [if_pos c0]] at z; exact z) (mst_eq _ _ _ _) (REL_9 h)
  have c0' : ¬ (inB x 0 3 = false ∨ inB q 0 9 = false) := by have := zb_n0.mp c0; have := Bool.and_eq_true_iff.mp this; intro z; rcases z with z | z; rw [this.1] at z; cases z; rw [this.2] at z; cases z
  obtain ⟨a, b, ha, hb, rfl, rfl⟩ := ra_k c0
  by_cases c2 : rOn M (nI a) (nI b) n < 0
  · exact PR_x (k := 2) (M1 := M) (p1 := p) (Or.inr ⟨rfl, by decide⟩) (fun o => by have z := A o; rw [inR_in (x := nI a) (j := 3) (by omega) (show (4 : Int32) = nI 4 by decide), inR_in (x := nI b) (j := 9) (by omega) (show (10 : Int32) = nI 10 by decide), show nI 3 = 3 from rfl, show nI 9 = 9 from rfl, if_neg c0', e_on h1 hI ha, if_pos c2] at z; exact z) (fun o => by have z := B o; rw [show aAt M n (nI a) (nI b) = (0, mst M 464 9 2) from by unfold aAt; rw [if_neg c0, if_pos c2]] at z; exact z) (mst_eq _ _ _ _) (REL_9 h)
  · exact PR_v (M1 := M) (p1 := p) (x := rOn M (nI a) (nI b) n) (fun o => by have z := A o; rw [inR_in (x := nI a) (j := 3) (by omega) (show (4 : Int32) = nI 4 by decide), inR_in (x := nI b) (j := 9) (by omega) (show (10 : Int32) = nI 10 by decide), show nI 3 = 3 from rfl, show nI 9 = 9 from rfl, if_neg c0', e_on h1 hI ha, if_neg c2] at z; exact z) (fun o => by have z := B o; rw [show aAt M n (nI a) (nI b) = (rOn M (nI a) (nI b) n, mst M 464 9 0) from by unfold aAt; rw [if_neg c0, if_neg c2]] at z; exact z) rfl (mst_eq _ _ _ _) (REL_9 h)
theorem P_heat {l : Launch} (hf : l.stackTraces = false) (h : REL M p) {x : Int32} : PAIRi 1 M p (fun _ => IOB) (fun h Z => V_X9_heat l [.ref 0, .int x] h Z) (fun h Z => V_X10_heat l [.ref 464, .int x] h Z) := by
  obtain ⟨n, h1, hI⟩ := h.2.1
  have hn := hI.2.1
  have hg := hr_g h1 hI
  have A := fun o => s_X9_heat (M := M) (r := (p, o)) hf hn hg (p := x)
  have B := fun o => s_X10_heat (M := M) (r := (p, o)) hf hn hI.1 (p := x)
  by_cases c1 : zb (inB x 0 3) = 0
  · exact PR_x (k := 1) (M1 := M) (p1 := p) (Or.inl ⟨rfl, by decide⟩) (fun o => by have z := A o; rw [inR_in (x := x) (j := 3) (by omega) (show (4 : Int32) = nI 4 by decide), show nI 3 = 3 from rfl, if_pos (zb_0.mp c1)] at z; exact z) (fun o => by have z := B o; rw [show aHe M n x = (0, mst M 464 9 1) from by unfold aHe; rw [if_pos c1]] at z; exact z) (mst_eq _ _ _ _) (REL_9 h)
  have c1' : ¬ inB x 0 3 = false := fun z => c1 (zb_0.mpr z)
  obtain ⟨a, ha, rfl⟩ := inB_8 (b := 3) (by omega) c1
  exact PR_v (M1 := M) (p1 := p) (x := mx0 (M 1 3 - nI a)) (fun o => by have z := A o; rw [inR_in (x := nI a) (j := 3) (by omega) (show (4 : Int32) = nI 4 by decide), show nI 3 = 3 from rfl, if_neg c1'] at z; exact z) (fun o => by have z := B o; rw [show aHe M n (nI a) = (rHeat M (nI a), mst M 464 9 0) from by unfold aHe; rw [if_neg c1]] at z; exact z) (e_he h1 hI ha) (mst_eq _ _ _ _) (REL_9 h)
theorem P_isDone {l : Launch} (hf : l.stackTraces = false) (h : REL M p) {x : Int32} : PAIRi 1 M p (fun _ => IOB) (fun h Z => V_X9_isDone l [.ref 0, .int x] h Z) (fun h Z => V_X10_isDone l [.ref 464, .int x] h Z) := by
  obtain ⟨n, h1, hI⟩ := h.2.1
  have hn := hI.2.1
  have hg := hr_g h1 hI
  have A := fun o => s_X9_isDone (M := M) (r := (p, o)) hf hn hg (x := x)
  have B := fun o => s_X10_isDone (M := M) (r := (p, o)) hf hn hI.1 (x := x)
  by_cases c1 : zb (inB x 0 (nI n - 1)) = 0
  · exact PR_x (k := 1) (M1 := M) (p1 := p) (Or.inl ⟨rfl, by decide⟩) (fun o => by have z := A o; rw [has_in hg hn, if_pos (zb_0.mp c1)] at z; exact z) (fun o => by have z := B o; rw [show aDo M n x = (0, mst M 464 9 1) from by unfold aDo; rw [if_pos c1]] at z; exact z) (mst_eq _ _ _ _) (REL_9 h)
  have c1' : ¬ inB x 0 (nI n - 1) = false := fun z => c1 (zb_0.mpr z)
  obtain ⟨k, hk, rfl⟩ := inB_k hn c1
  have ek : (nI k).toNatClampNeg = k := nI_cl (by omega)
  have ok := iv_k hI hk
  exact PR_v (M1 := M) (p1 := p) (x := zb (fReady M (6 + 3 * k))) (fun o => by have z := A o; rw [has_in hg hn, if_neg c1'] at z; simp only [fx, ek] at z; exact z) (fun o => by have z := B o; rw [show aDo M n (nI k) = (zb (rReady M k), mst M 464 9 0) from by unfold aDo; rw [if_neg c1, ek]] at z; exact z) (by rw [e_re h1 hI hk]) (mst_eq _ _ _ _) (REL_9 h)
theorem P_isCrowded {l : Launch} (hf : l.stackTraces = false) (h : REL M p) {x : Int32} : PAIRi 1 M p (fun _ => IOB) (fun h Z => V_X9_isCrowded l [.ref 0, .int x] h Z) (fun h Z => V_X10_isCrowded l [.ref 464, .int x] h Z) := by
  obtain ⟨n, h1, hI⟩ := h.2.1
  have hn := hI.2.1
  have hg := hr_g h1 hI
  have A := fun o => s_X9_isCrowded (M := M) (r := (p, o)) hf hn hg (x := x)
  have B := fun o => s_X10_isCrowded (M := M) (r := (p, o)) hf hn hI.1 (x := x)
  by_cases c1 : zb (inB x 0 (nI n - 1)) = 0
  · exact PR_x (k := 1) (M1 := M) (p1 := p) (Or.inl ⟨rfl, by decide⟩) (fun o => by have z := A o; rw [has_in hg hn, if_pos (zb_0.mp c1)] at z; exact z) (fun o => by have z := B o; rw [show aCr M n x = (0, mst M 464 9 1) from by unfold aCr; rw [if_pos c1]] at z; exact z) (mst_eq _ _ _ _) (REL_9 h)
  have c1' : ¬ inB x 0 (nI n - 1) = false := fun z => c1 (zb_0.mpr z)
  obtain ⟨k, hk, rfl⟩ := inB_k hn c1
  have ek : (nI k).toNatClampNeg = k := nI_cl (by omega)
  have ok := iv_k hI hk
  exact PR_v (M1 := M) (p1 := p) (x := zb (tooNear M 1 k n)) (fun o => by have z := A o; rw [has_in hg hn, if_neg c1', ek] at z; exact z) (fun o => by have z := B o; rw [show aCr M n (nI k) = (zb (rNear (mst M 464 9 0) k n), mst M 464 9 0) from by unfold aCr; rw [if_neg c1, ek]] at z; exact z) (by rw [e_ne (HR_9 h1 hn) (IV_9 hI) hk]) (mst_eq _ _ _ _) (REL_9 h)
theorem P_nearest {l : Launch} (hf : l.stackTraces = false) (h : REL M p) {x : Int32} : PAIRi 2 M p (EE IOB NSE) (fun h Z => V_X9_nearest l [.ref 0, .int x] h Z) (fun h Z => V_X10_nearest l [.ref 464, .int x] h Z) := by
  obtain ⟨n, h1, hI⟩ := h.2.1
  have hn := hI.2.1
  have hg := hr_g h1 hI
  have A := fun o => s_X9_nearest (M := M) (r := (p, o)) hf hn hg (x := x)
  have B := fun o => s_X10_nearest (M := M) (r := (p, o)) hf hn hI.1 (x := x)
  by_cases c1 : zb (inB x 0 (nI n - 1)) = 0
  · exact PR_x (k := 1) (M1 := M) (p1 := p) (Or.inl ⟨rfl, by decide⟩) (fun o => by have z := A o; rw [has_in hg hn, if_pos (zb_0.mp c1)] at z; exact z) (fun o => by have z := B o; rw [show aNe M n x = (0, mst M 464 9 1) from by unfold aNe; rw [if_pos c1]] at z; exact z) (mst_eq _ _ _ _) (REL_9 h)
  have c1' : ¬ inB x 0 (nI n - 1) = false := fun z => c1 (zb_0.mpr z)
  obtain ⟨k, hk, rfl⟩ := inB_k hn c1
  have ek : (nI k).toNatClampNeg = k := nI_cl (by omega)
  have ok := iv_k hI hk
  have h9 := HR_9 (v := 0) h1 hn
  have I9 := IV_9 (v := 0) hI
  have o9 := iv_k I9 hk
  have q2 : M (6 + 3 * k) 4 = oF (mst M 464 9 0) k 2 := hr_2 h9 hk
  by_cases c2 : oF (mst M 464 9 0) k 2 = 2
  · have qb : (M (6 + 3 * k) 4 == 2) = true := beq_iff_eq.mpr (q2.trans c2)
    have rb : rHang (mst M 464 9 0) k = true := beq_iff_eq.mpr c2
    rcases o9.2.2.1 with ⟨_, a, b, ha, hb, e3, e4⟩ | ⟨z, _⟩
    · have A' : ∀ o, V_X9_nearest l [.ref 0, .int (nI k)] (hp M (p, o)) (if nearO M 1 (nI a) (nI b) (nI k) n = 10 then ZE NSE (hp M (p, o)) else VI (nearO M 1 (nI a) (nI b) (nI k) n) (hp M (p, o))) := fun o => by
        have z := A o
        rw [has_in hg hn, if_neg c1'] at z
        simp only [fx, ek] at z
        rw [qb, if_neg (show ¬ zb true = 0 by decide), hr_3 h9 hk, hr_4 h9 hk, e3, e4] at z
        exact z
      rcases e_fa h9 I9 ha hb (x := nI k) with ⟨f1, f2⟩ | ⟨d, hd, f1, f2⟩
      · exact PR_x (k := 2) (M1 := M) (p1 := p) (Or.inr ⟨rfl, by decide⟩) (fun o => by have z := A' o; rw [f1, if_pos rfl] at z; exact z) (fun o => by have z := B o; rw [show aNe M n (nI k) = (0, mst M 464 9 2) from by unfold aNe; rw [if_neg c1, ek, rb, if_neg (show ¬ zb true = 0 by decide), e3, e4, if_pos f2]] at z; exact z) (mst_eq _ _ _ _) (REL_9 h)
      · have d1 : ∀ d, d < 10 → ¬ nI d = 10 ∧ ¬ nI d = 99 := by decide +kernel
        have f3 : ¬ rFar (mst M 464 9 0) (nI k) (nI a) (nI b) n = 99 := by rw [f2]; exact (d1 d hd).2
        exact PR_v (M1 := M) (p1 := p) (x := nI d) (fun o => by have z := A' o; rw [f1, if_neg (d1 d hd).1] at z; exact z) (fun o => by have z := B o; rw [show aNe M n (nI k) = (nI d, mst M 464 9 0) from by unfold aNe; rw [if_neg c1, ek, rb, if_neg (show ¬ zb true = 0 by decide), e3, e4, if_neg f3, f2]] at z; exact z) rfl (mst_eq _ _ _ _) (REL_9 h)
    · rcases z with z | z <;> exact absurd (z.symm.trans c2) (by decide)
  · have qb : (M (6 + 3 * k) 4 == 2) = false := beq_eq_false_iff_ne.mpr (fun z => c2 (q2.symm.trans z))
    have rb : rHang (mst M 464 9 0) k = false := beq_eq_false_iff_ne.mpr c2
    exact PR_x (k := 2) (M1 := M) (p1 := p) (Or.inr ⟨rfl, by decide⟩) (fun o => by
        have z := A o
        rw [has_in hg hn, if_neg c1'] at z
        simp only [fx, ek] at z
        rw [qb, if_pos (show zb false = 0 from rfl), if_pos rfl] at z
        exact z) (fun o => by have z := B o; rw [show aNe M n (nI k) = (0, mst M 464 9 2) from by unfold aNe; rw [if_neg c1, ek, rb, if_pos (show zb false = 0 from rfl)]] at z; exact z) (mst_eq _ _ _ _) (REL_9 h)
theorem P_crowded {l : Launch} (hf : l.stackTraces = false) (h : REL M p) : PAIRi 1 M p (fun _ => IOB) (fun h Z => V_X9_crowded l [.ref 0] h Z) (fun h Z => V_X10_crowded l [.ref 464] h Z) := by
  obtain ⟨n, h1, hI⟩ := h.2.1
  have hn := hI.2.1
  have hg := hr_g h1 hI
  have A := fun o => s_X9_crowded (M := M) (r := (p, o)) hf hn hg
  have B := fun o => s_X10_crowded (M := M) (r := (p, o)) hf hn hI.1
  exact PR_v (M1 := M) (p1 := p) A B (crow_eq (HR_9 h1 hn) (IV_9 hI)) (mst_eq _ _ _ _) (REL_9 h)
theorem P_faultPosition {l : Launch} (hf : l.stackTraces = false) (h : REL M p) : PAIRi 1 M p (fun _ => IOB) (fun h Z => V_X9_faultPosition l [.ref 0] h Z) (fun h Z => V_X10_faultPosition l [.ref 464] h Z) := by
  obtain ⟨n, h1, hI⟩ := h.2.1
  have hn := hI.2.1
  have hg := hr_g h1 hI
  have A := fun o => s_X9_faultPosition (M := M) (r := (p, o)) hf hn hg
  have B := fun o => s_X10_faultPosition (M := M) (r := (p, o)) hf
  exact PR_v (M1 := M) (p1 := p) A B h.2.2.2.2.2.1.2.2.2 (mst_eq _ _ _ _) (REL_9 h)
theorem P_reason {l : Launch} (hf : l.stackTraces = false) (h : REL M p) {x : Int32} : PAIRi 2 M p (EE IAE NSE) (fun h Z => V_X9_reason l [.ref 0, .int x] h Z) (fun h Z => V_X10_reason l [.ref 464, .int x] h Z) := by
  obtain ⟨n, h1, hI⟩ := h.2.1
  have hn := hI.2.1
  have hg := hr_g h1 hI
  have A := fun o => s_X9_reason (M := M) (r := (p, o)) hf hn hg (q := x)
  have B := fun o => s_X10_reason (M := M) (r := (p, o)) hf (n := n) (q := x)
  have er := rng_n (x := x) (hi := 2) (h1 := 3) (j := 2) (by omega) (by decide) (by decide)
  by_cases c1 : zb (inB x 0 2) = 0
  · exact PR_x (k := 1) (M1 := M) (p1 := p) (Or.inl ⟨rfl, by decide⟩) (fun o => by have z := A o; rw [if_pos (er.mpr c1)] at z; exact z) (fun o => by have z := B o; rw [show aRe M n x = (0, mst M 464 9 1) from by unfold aRe; rw [if_pos c1]] at z; exact z) (mst_eq _ _ _ _) (REL_9 h)
  have c1' : ¬ (x < 0 ∨ ¬ x < 3) := fun z => c1 (er.mp z)
  rcases h.2.2.2.2.1.1 with ⟨r1, r2⟩ | ⟨r1, r2, r3, r4, r5⟩
  · exact PR_x (k := 2) (M1 := M) (p1 := p) (Or.inr ⟨rfl, by decide⟩) (fun o => by have z := A o; rw [if_neg c1', if_pos r1] at z; exact z) (fun o => by have z := B o; rw [show aRe M n x = (0, mst M 464 9 2) from by unfold aRe; rw [if_neg c1, if_pos r2]] at z; exact z) (mst_eq _ _ _ _) (REL_9 h)
  · have eb : aRe M n x = (if x = 0 then M 454 2 else if x = 1 then M 454 3 else M 454 4, mst M 464 9 0) := by
      unfold aRe
      rw [if_neg c1, if_neg r2, r3, r4, r5]
      by_cases z0 : x = 0
      · rw [if_pos z0, if_pos z0]
      · rw [if_neg z0, if_neg z0]
        by_cases z1 : x = 1
        · rw [if_pos z1, if_pos z1]
        · rw [if_neg z1, if_neg z1]
    exact PR_v (M1 := M) (p1 := p) (fun o => by have z := A o; rw [if_neg c1', if_neg r1] at z; exact z) (fun o => by have z := B o; rw [eb] at z; exact z) rfl (mst_eq _ _ _ _) (REL_9 h)
theorem P_account {l : Launch} (hf : l.stackTraces = false) (h : REL M p) {x : Int32} : PAIRi 1 M p (fun _ => IAE) (fun h Z => V_X9_account l [.ref 0, .int x] h Z) (fun h Z => V_X10_account l [.ref 464, .int x] h Z) := by
  obtain ⟨n, h1, hI⟩ := h.2.1
  have hn := hI.2.1
  have hg := hr_g h1 hI
  have A := fun o => s_X9_account (M := M) (r := (p, o)) hf hn hg (q := x)
  have B := fun o => s_X10_account (M := M) (r := (p, o)) hf hn hI.1 (q := x)
  have er := rng_n (x := x) (hi := 11) (h1 := 12) (j := 11) (by omega) (by decide) (by decide)
  by_cases c1 : zb (inB x 0 11) = 0
  · exact PR_x (k := 1) (M1 := M) (p1 := p) (Or.inl ⟨rfl, by decide⟩) (fun o => by have z := A o; rw [if_pos (er.mpr c1)] at z; exact z) (fun o => by have z := B o; rw [show aAc M n x = (0, mst M 464 9 1) from by unfold aAc; rw [if_pos c1]] at z; exact z) (mst_eq _ _ _ _) (REL_9 h)
  have c1' : ¬ (x < 0 ∨ ¬ x < 12) := fun z => c1 (er.mp z)
  obtain ⟨j, hj, rfl⟩ := inB_8 (b := 11) (by omega) c1
  obtain ⟨c, hK⟩ := h.2.2.1
  obtain ⟨L, -, t1, t2⟩ := h.2.2.2.2.2.1.1
  have h9 := HR_9 (v := 0) h1 hn
  have eb : aAc M n (nI j) = (acc M n (nI j), mst M 464 9 0) := by
    have q1 : itN (fun i s => s + (if M (1 + 5 + 3 * i) 4 = 1 then 1 else 0)) 0 n = rMany (mst M 464 9 0) 1 n := e_in h9
    have q2 : itN (fun i s => s + (if M (1 + 5 + 3 * i) 4 = 2 then 1 else 0)) 0 n = rMany (mst M 464 9 0) 2 n := e_in h9
    have r : ∀ i, i < 8 → M 1 (2 + i) = M 465 i := h1.1
    unfold aAc acc
    rw [if_neg c1, hg, q1, q2, t1, t2, hK.2.1, hK.2.2.1, show M 1 3 = M 465 1 from r 1 (by omega), show M 1 4 = M 465 2 from r 2 (by omega), show M 1 5 = M 465 3 from r 3 (by omega), show M 1 6 = M 465 4 from r 4 (by omega), show M 1 7 = M 465 5 from r 5 (by omega), show M 1 8 = M 465 6 from r 6 (by omega), show M 1 9 = M 465 7 from r 7 (by omega)]
    match j, hj with
    | 0, _ | 1, _ | 2, _ | 3, _ | 4, _ | 5, _ | 6, _ | 7, _ | 8, _ | 9, _ | 10, _ | 11, _ => rfl
  exact PR_v (M1 := M) (p1 := p) (fun o => by have z := A o; rw [if_neg c1'] at z; exact z) (fun o => by have z := B o; rw [eb] at z; exact z) rfl (mst_eq _ _ _ _) (REL_9 h)
theorem P_ranked {l : Launch} (hf : l.stackTraces = false) (h : REL M p) {x q : Int32} : PAIRi 2 M p (EE IAE NSE) (fun h Z => V_X9_ranked l [.ref 0, .int x, .int q] h Z) (fun h Z => V_X10_ranked l [.ref 464, .int x, .int q] h Z) := by
  obtain ⟨n, h1, hI⟩ := h.2.1
  have hn := hI.2.1
  have hg := hr_g h1 hI
  have A := fun o => s_X9_ranked (M := M) (r := (p, o)) hf hn hg (me := x) (pl := q)
  have B := fun o => s_X10_ranked (M := M) (r := (p, o)) hf hn hI.1 (q := x) (v := q)
  have er := rng_n (x := x) (hi := 4) (h1 := 5) (j := 4) (by omega) (by decide) (by decide)
  by_cases c1 : zb (inB x 0 4) = 0
  · exact PR_x (k := 1) (M1 := M) (p1 := p) (Or.inl ⟨rfl, by decide⟩) (fun o => by have z := A o; rw [if_pos (er.mpr c1)] at z; exact z) (fun o => by have z := B o; rw [show aRk M n x q = (0, mst M 464 9 1) from by unfold aRk; rw [if_pos c1]] at z; exact z) (mst_eq _ _ _ _) (REL_9 h)
  have c1' : ¬ (x < 0 ∨ ¬ x < 5) := fun z => c1 (er.mp z)
  have rk := rank_eq (HR_9 (v := 0) h1 hn) (IV_9 hI) (q := x) (v := q)
  by_cases c2 : rRk (mst M 464 9 0) n x q < 0
  · exact PR_x (k := 2) (M1 := M) (p1 := p) (Or.inr ⟨rfl, by decide⟩) (fun o => by have z := A o; rw [if_neg c1', rk, if_pos c2] at z; exact z) (fun o => by have z := B o; rw [show aRk M n x q = (0, mst M 464 9 2) from by unfold aRk; rw [if_neg c1, if_pos c2, if_pos c2, mst_464]] at z; exact z) (mst_eq _ _ _ _) (REL_9 h)
  · exact PR_v (M1 := M) (p1 := p) (fun o => by have z := A o; rw [if_neg c1', rk, if_neg c2] at z; exact z) (fun o => by have z := B o; rw [show aRk M n x q = (rRk (mst M 464 9 0) n x q, mst M 464 9 0) from by unfold aRk; rw [if_neg c1, if_neg c2, if_neg c2]] at z; exact z) rfl (mst_eq _ _ _ _) (REL_9 h)
theorem P_bestHook {l : Launch} (hf : l.stackTraces = false) (h : REL M p) {x q : Int32} : PAIRi 2 M p (EE IOB NSE) (fun h Z => V_X9_bestHook l [.ref 0, .int x, .int q] h Z) (fun h Z => V_X10_bestHook l [.ref 464, .int x, .int q] h Z) := by
  obtain ⟨n, h1, hI⟩ := h.2.1
  have hn := hI.2.1
  have hg := hr_g h1 hI
  have A := fun o => s_X9_bestHook (M := M) (r := (p, o)) hf hn hg (x := x) (p := q)
  have B := fun o => s_X10_bestHook (M := M) (r := (p, o)) hf hn hI.1 (x := x) (p := q)
  by_cases c1 : zb (inB x 0 (nI n - 1)) = 0
  · exact PR_x (k := 1) (M1 := M) (p1 := p) (Or.inl ⟨rfl, by decide⟩) (fun o => by have z := A o; rw [has_in hg hn, if_pos (zb_0.mp c1)] at z; exact z) (fun o => by have z := B o; rw [show aBe M n x q = (0, mst M 464 9 1) from by unfold aBe; rw [if_pos c1]] at z; exact z) (mst_eq _ _ _ _) (REL_9 h)
  have c1' : ¬ inB x 0 (nI n - 1) = false := fun z => c1 (zb_0.mpr z)
  obtain ⟨k, hk, rfl⟩ := inB_k hn c1
  have ek : (nI k).toNatClampNeg = k := nI_cl (by omega)
  have ok := iv_k hI hk
  by_cases c2 : zb (inB q 0 3) = 0
  · exact PR_x (k := 1) (M1 := M) (p1 := p) (Or.inl ⟨rfl, by decide⟩) (fun o => by have z := A o; rw [has_in hg hn, if_neg c1', inR_in (x := q) (j := 3) (by omega) (show (4 : Int32) = nI 4 by decide), show nI 3 = 3 from rfl, if_pos (zb_0.mp c2)] at z; exact z) (fun o => by have z := B o; rw [show aBe M n (nI k) q = (0, mst M 464 9 1) from by unfold aBe; rw [if_neg c1, if_pos c2]] at z; exact z) (mst_eq _ _ _ _) (REL_9 h)
  have c2' : ¬ inB q 0 3 = false := fun z => c2 (zb_0.mpr z)
  obtain ⟨a, ha, rfl⟩ := inB_8 (b := 3) (by omega) c2
  obtain ⟨b1, b2⟩ := best_eq (HR_9 (v := 0) h1 hn) (IV_9 hI) ha (x := nI k)
  by_cases c3 : (rBest (mst M 464 9 0) (nI k) (nI a) n 10).1 < 0
  · exact PR_x (k := 2) (M1 := M) (p1 := p) (Or.inr ⟨rfl, by decide⟩) (fun o => by have z := A o; rw [has_in hg hn, if_neg c1', inR_in (x := nI a) (j := 3) (by omega) (show (4 : Int32) = nI 4 by decide), show nI 3 = 3 from rfl, if_neg c2', b1, if_pos c3] at z; exact z) (fun o => by have z := B o; rw [show aBe M n (nI k) (nI a) = (0, mst M 464 9 2) from by unfold aBe; rw [if_neg c1, if_neg c2, if_pos c3, if_pos c3, mst_464]] at z; exact z) (mst_eq _ _ _ _) (REL_9 h)
  · exact PR_v (M1 := M) (p1 := p) (fun o => by have z := A o; rw [has_in hg hn, if_neg c1', inR_in (x := nI a) (j := 3) (by omega) (show (4 : Int32) = nI 4 by decide), show nI 3 = 3 from rfl, if_neg c2', b1, if_neg c3] at z; exact z) (fun o => by have z := B o; rw [show aBe M n (nI k) (nI a) = ((rBest (mst M 464 9 0) (nI k) (nI a) n 10).1, mst M 464 9 0) from by unfold aBe; rw [if_neg c1, if_neg c2, if_neg c3, if_neg c3, mst_464]] at z; exact z) rfl (mst_eq _ _ _ _) (REL_9 h)
end P52
