section P54
variable {M N : MM} {p : Nat → Nat} {n k c : Nat}
/-- a house that holds a row -/
def Jc (M : MM) : Prop := ∃ n f, HR M 1 n f ∧ IV f n
def Jr (N : MM) : Prop := ∃ n c, IV (N 465) n ∧ c ≤ 8 ∧ N 464 6 = nI c
theorem Jc_1 (M : MM) (h : Jc M) : ∃ n, n ≤ 12 ∧ M 1 2 = nI n ∧ flg M 1 n := by
  obtain ⟨n, f, a, b⟩ := h
  exact ⟨n, b.2.1, (a.1 0 (by omega)).trans b.1, rel_flg a b⟩
theorem Jc_2 (M M' : MM) (e : ∀ x, 1 ≤ x → x < 42 → M' x = M x) (h : Jc M) : Jc M' := by
  obtain ⟨n, f, a, b⟩ := h
  exact ⟨n, f, HR_fn (fun x x1 x2 => e x x1 (by omega)) b.2.1 (fun _ _ => rfl) a, b⟩
theorem Jc_3 (M : MM) (n : Nat) (h : Jc M) (hn : n ≤ 12) (hc : M 1 2 = nI n) : Jc (wCar M n).2 := by
  obtain ⟨n', f, a, b⟩ := h
  have en : n' = n := (nI_eq (by have := b.2.1; omega) (by omega)).mp (((a.1 0 (by omega)).trans b.1).symm.trans hc)
  subst en
  obtain ⟨N, eN⟩ : ∃ N : MM, N = fun x y => if x = 465 then f y else M 460 (5 + y) := ⟨_, rfl⟩
  have e1 : N 465 = f := by rw [eN]; funext y; exact if_pos rfl
  have e2 : N 472 = fun y => M 460 (5 + y) := by rw [eN]; funext y; exact if_neg (by decide)
  rcases c_Car (M := M) (N := N) (n := n') (c := 0) (q := 0) (by rw [e1]; exact a) (by rw [e1]; exact b) (by rw [e2]; exact ⟨rfl, fun _ => rfl, fun _ => ⟨rfl, rfl⟩⟩) with ⟨u, v, _, z, _⟩ | ⟨_, _, _, _, m, z1, z2⟩
  · rw [z]
    refine Jc_2 M _ (fun x x1 x2 => ?_) ⟨n', f, a, b⟩
    show ksR M u v x = M x
    unfold ksR
    rw [mst_fn (by omega), mst_fn (by omega), mst_fn (by omega), mst_fn (by omega)]
  · exact ⟨m, _, z1, z2⟩
theorem Jr_1 (N : MM) (h : Jr N) : ∃ n c, n ≤ 12 ∧ N 465 0 = nI n ∧ c ≤ 8 ∧ N 464 6 = nI c ∧ dwn N n := by
  obtain ⟨n, c, a, b, d⟩ := h
  exact ⟨n, c, a.2.1, a.1, b, d, iv_dwn a⟩
theorem Jr_2 (N : MM) (v : Int32) (h : Jr N) : Jr (mst N 464 8 v) := by
  obtain ⟨n, c, a, b, d⟩ := h
  exact ⟨n, c, IV_eq (fun y _ => mst_ne1 (by decide)) a, b, (mst_ne2 (by decide)).trans d⟩
/-- a class's memory that holds the reference's row -/
def mkC (N : MM) (q : Nat) : MM := fun x s => if x = 1 then N 465 (s - 2) else if x = 460 then N 472 (q + s - 5) else if (x - 6) % 3 = 0 then N 465 (8 + 11 * ((x - 6) / 3) + (s - 2)) else if (x - 6) % 3 = 1 then N 465 (8 + 11 * ((x - 6) / 3) + (7 + 2 * s)) else N 465 (8 + 11 * ((x - 6) / 3) + (8 + 2 * s))
theorem mkC_fish {q k s : Nat} (hk : k < 12) : mkC N q (6 + 3 * k) s = N 465 (8 + 11 * k + (s - 2)) ∧ mkC N q (6 + 3 * k + 1) s = N 465 (8 + 11 * k + (7 + 2 * s)) ∧ mkC N q (6 + 3 * k + 2) s = N 465 (8 + 11 * k + (8 + 2 * s)) := by
  refine ⟨?_, ?_, ?_⟩
  · unfold mkC
    rw [if_neg (by omega), if_neg (by omega), if_pos (by omega), show (6 + 3 * k - 6) / 3 = k by omega]
  · unfold mkC
    rw [if_neg (by omega), if_neg (by omega), if_neg (by omega), if_pos (by omega), show (6 + 3 * k + 1 - 6) / 3 = k by omega]
  · unfold mkC
    rw [if_neg (by omega), if_neg (by omega), if_neg (by omega), if_neg (by omega), show (6 + 3 * k + 2 - 6) / 3 = k by omega]
theorem mkC_HR {q : Nat} (hI : IV (N 465) n) : HR (mkC N q) 1 n (N 465) := by
  refine ⟨fun j hj => ?_, fun k hk w hw => ?_⟩
  · unfold mkC
    rw [if_pos rfl, show 2 + j - 2 = j by omega]
  · have hk12 : k < 12 := by have := hI.2.1; omega
    show fW (mkC N q) (6 + 3 * k) w = _
    match w, hw with
    | 0, _ | 1, _ | 2, _ | 3, _ | 4, _ | 5, _ | 6, _ => exact (mkC_fish hk12).1
    | 7, _ => exact (mkC_fish (s := 0) hk12).2.1
    | 8, _ => exact (mkC_fish (s := 0) hk12).2.2
    | 9, _ => exact (mkC_fish (s := 1) hk12).2.1
    | 10, _ => exact (mkC_fish (s := 1) hk12).2.2
theorem Jr_3 (N : MM) (n c q : Nat) (h : Jr N) (hn : n ≤ 12) (hg : N 465 0 = nI n) (hc : c ≤ 8) (h6 : N 464 6 = nI c) (_ : q + 3 < 128) : Jr (tCar N n c q).2 := by
  obtain ⟨n', c', a, b, d⟩ := h
  have en : n' = n := (nI_eq (by have := a.2.1; omega) (by omega)).mp (a.1.symm.trans hg)
  subst en
  have rg : rgs (mkC N q) (N 472) q := by
    have e : ∀ s, mkC N q 460 s = N 472 (q + s - 5) := fun s => by unfold mkC; rw [if_neg (by decide), if_pos rfl]
    refine ⟨?_, fun _ => ?_, fun _ => ⟨?_, ?_⟩⟩
    · rw [e]; rfl
    · rw [e]; rfl
    · rw [e]; rfl
    · rw [e]; rfl
  rcases c_Car (M := mkC N q) (N := N) (n := n') (c := c) (q := q) (mkC_HR a) a rg with ⟨u, v, _, _, z⟩ | ⟨_, _, _, z4, m, _, z2⟩
  · rw [z]
    show Jr (rfM N u v)
    exact ⟨n', c, IV_eq (fun y _ => show rfM N u v 465 y = N 465 y from rfM_fr (Or.inl (by decide))) a, hc, (show rfM N u v 464 6 = N 464 6 from rfM_fr (Or.inr (by decide))).trans h6⟩
  · by_cases h7 : N 464 7 = 0
    · exact ⟨m, _, z2, (show (if c = 8 then 7 else c) + 1 ≤ 8 by split <;> omega), (z4 464 6 (by decide)).trans (kp_row ⟨by decide, by decide⟩ hc h7).1⟩
    · refine ⟨m, c, z2, hc, (z4 464 6 (by decide)).trans ?_⟩
      unfold kpR
      rw [if_neg h7, mst_ne2 (by decide)]
      exact h6
theorem P_commands {l : Launch} (hf : l.stackTraces = false) (h : REL M p) : PAIRi 2 M p (EE IAE UOE) (fun h Z => V_X9_commands l [.ref 0] h Z) (fun h Z => V_X10_commands l [.ref 464] h Z) := by
  obtain ⟨n, h1, hI⟩ := h.2.1
  obtain ⟨c, hK⟩ := h.2.2.1
  obtain ⟨⟨L, hL60, hL, hL'⟩, hC, ht, hfa⟩ := h.2.2.2.2.2.1
  have hn := hI.2.1
  have hg := hr_g h1 hI
  have hz := rel_flg h1 hI
  have A := fun o => s_X9_commands (M := M) (r := (p, o)) hf (t := M 461) (L := L) (n := n) Jc_1 Jc_2 Jc_3 ⟨n, _, h1, hI⟩ hn hg hz h.1.1 rfl hL hL60 hC
  -- the reference, from a memory that is M's beyond 464
  have B := fun (M1 : MM) (p1 : Nat → Nat) (hM : ∀ x, 464 ≤ x → M1 x = M x) o => s_X10_commands (M := M1) (r := (p1, o)) hf (t := M 461) (L := L) Jr_1 Jr_2 Jr_3 ⟨n, c, IV_eq (fun y _ => by rw [rcB_fr (by decide) (by decide) (Or.inl (by decide)), hM 465 (by omega)]) hI, hK.1, by rw [rcB_fr (by decide) (by decide) (Or.inr (by decide)), hM 464 (by omega)]; exact hK.2.1⟩ (by rw [hM 470 (by omega)]; exact ht) (by rw [hM 464 (by omega)]; exact hL') hL60
  rcases rel_cm h h1 hI hK rfl hL60 hL hL' with ⟨c0, c1, c2⟩ | ⟨c0, tm, htm, et, c1⟩
  · have m1 : ∀ x, 464 ≤ x → mst (cmA (M 461) L M) 460 1 0 x = M x := fun x hx => by rw [mst_fn (by omega), cmA_fn (by omega)]
    exact PR_x (k := 1) (p1 := p) (Or.inl ⟨rfl, by decide⟩) (fun o => by have z := A o; rw [cmZ, if_pos c0] at z; exact z) (fun o => B _ p m1 o) c1 c2
  · -- the class's loop leaves the reference's cells alone
    obtain ⟨s, es⟩ : ∃ s, s = cmR (M 461) L tm 0 (0, cmB (M 461) L n M) := ⟨_, rfl⟩
    rw [← es] at c1
    have A' : ∀ o, V_X9_commands l [.ref 0] (hp M (p, o)) (cmE s tm n (p, o)) := fun o => by
      have z := A o
      rw [cmZ, if_neg (fun q => q c0), et, ← es] at z
      exact z
    have sx : ∀ x, 464 ≤ x → s.2 x = M x := fun x hx => by
      rw [es]
      have fr : ∀ (j i : Nat) (s : Int32 × MM), Jc s.2 → (cmR (M 461) L j i s).2 x = s.2 x := by
        intro j
        induction j with
        | zero => intro i s _; rfl
        | succ j ih =>
          intro i s hj
          unfold cmR
          split
          · rfl
          · have hj2 : Jc (mst (mst (pcM (M 461) s.2 L (pos (M 461) L 0 i)).2.2 460 4 (nI (pos (M 461) L 0 (i + 1)))) 454 1 (nI i)) := Jc_2 s.2 _ (fun x x1 x2 => stp_pre (by omega) (by omega)) hj
            obtain ⟨m, g1, g2, g3⟩ := Jc_1 _ hj
            have en : (s.2 1 2).toNatClampNeg = m := by rw [g2]; exact nI_cl (by omega)
            have g4 : mst (mst (pcM (M 461) s.2 L (pos (M 461) L 0 i)).2.2 460 4 (nI (pos (M 461) L 0 (i + 1)))) 454 1 (nI i) 1 2 = nI m := by rw [stp_pre (by decide) (by decide)]; exact g2
            have e9 : stp (M 461) L i s.2 = wCar (mst (mst (pcM (M 461) s.2 L (pos (M 461) L 0 i)).2.2 460 4 (nI (pos (M 461) L 0 (i + 1)))) 454 1 (nI i)) m := by rw [stp, en]
            rw [ih (i + 1) _ (by rw [e9]; exact Jc_3 _ m hj2 g1 g4), e9, outW_Car g1 g4 x (by omega), stp_pre (by omega) (by omega)]
      rw [fr tm 0 _ ⟨n, _, HR_fn (fun x x1 x2 => show cmB (M 461) L n M x = M x from by rw [cmB, mst_fn (by omega), hcp_out hn (by omega), cmA_fn (by omega)]) hn (fun _ _ => rfl) h1, hI⟩]
      show cmB (M 461) L n M x = M x
      rw [cmB, mst_fn (by omega), hcp_out hn (by omega), cmA_fn (by omega)]
    rcases c1 with ⟨d0, d1, d2⟩ | ⟨d0, d1, d2, d3⟩
    · have m1 : ∀ x, 464 ≤ x → hcp (cmF s.2) 1 42 n x = M x := fun x hx => by rw [hcp_out hn (by omega), cmF_fn (by omega) (by omega), sx x hx]
      exact PR_x (k := 2) (p1 := p) (Or.inr ⟨rfl, by decide⟩) (fun o => by have z := A' o; rw [cmE, if_pos d0] at z; exact z) (fun o => B _ p m1 o) d1 d2
    · have m1 : ∀ x, 464 ≤ x → keepM (cmF s.2) p n x = M x := fun x hx => by rw [keep_fn h.1 hn (by omega) (by omega), cmF_fn (by omega) (by omega), sx x hx]
      exact PR_v (p1 := rotR p) (x := nI tm) (fun o => by have z := A' o; rw [cmE, if_neg d0] at z; exact z) (fun o => B _ (rotR p) m1 o) d1.symm d2 d3
theorem P_meanSmoke {l : Launch} (hf : l.stackTraces = false) (h : REL M p) : PAIRi 1 M p (fun _ => ARE) (fun h Z => V_X9_meanSmoke l [.ref 0] h Z) (fun h Z => V_X10_meanSmoke l [.ref 464] h Z) := by
  obtain ⟨n, h1, hI⟩ := h.2.1
  have hn := hI.2.1
  have hg := hr_g h1 hI
  obtain ⟨d, hd, d1, d2⟩ := smoke_eq (N := mst M 464 9 0) (HR_9 h1 hn) (IV_9 hI)
  have q1 : qSm M n = FP.fdiv (FP.i2f (nI d)) (FP.i2f (nI (n * 2))) := by
    show FP.fdiv (FP.i2f (smS M n)) (FP.i2f (M 1 2 * 2)) = _
    rw [d1, hg, show (2 : Int32) = nI 2 from rfl, nI_mul2]
  have q2 : rQm (mst M 464 9 0) n = FP.fdiv (FP.i2f (nI d)) (FP.i2f (nI (n * 2))) := by
    show FP.fdiv (FP.i2f (itN (fun i s => s + rMea (mst M 464 9 0) i 2) 0 n)) (FP.i2f (2 * nI n)) = _
    rw [d2, show (2 : Int32) = nI 2 from rfl, nI_mul2, Nat.mul_comm]
  have q3 : n ≠ 0 → _ := fun n0 => q_ok (k := d) (d := n * 2) (by omega) (by omega) (by omega)
  have A := fun o => s_X9_meanSmoke (M := M) (r := (p, o)) hf hn hg (fun n0 => by rw [q1]; exact ⟨(q3 n0).1, (q3 n0).2.1⟩)
  have B := fun o => s_X10_meanSmoke (M := M) (r := (p, o)) hf hn hI.1 (fun n0 => by
    rw [q2]
    obtain ⟨cc, qq, hv⟩ := v_val (k := d) (d := n * 2) (by omega) (by omega) (by omega)
    exact ⟨fc_self hv, (q3 n0).1⟩)
  by_cases n0 : n = 0
  · exact PR_x (k := 1) (M1 := M) (p1 := p) (Or.inl ⟨rfl, by decide⟩) (fun o => by have z := A o; rw [if_pos n0] at z; exact z) (fun o => by have z := B o; rw [show aMe M n = (0, mst M 464 9 1) from by unfold aMe; rw [if_pos n0]] at z; exact z) (mst_eq _ _ _ _) (REL_9 h)
  · exact PR_v (M1 := M) (p1 := p) (fun o => by have z := A o; rw [if_neg n0] at z; exact z) (fun o => by have z := B o; rw [show aMe M n = ((rQm (mst M 464 9 0) n).toInt32, mst M 464 9 0) from by unfold aMe; rw [if_neg n0]] at z; exact z) (by rw [q1, q2]; exact (q3 n0).2.2) (mst_eq _ _ _ _) (REL_9 h)
theorem bu_d : ∀ m, m ≤ 12 → ∃ d, d ≤ m ∧ rBuC N m = nI d := by
  intro m
  induction m with
  | zero => intro _; exact ⟨0, Nat.le_refl _, rfl⟩
  | succ m ih =>
    intro hm
    obtain ⟨d, e1, e2⟩ := ih (by omega)
    show ∃ d, d ≤ m + 1 ∧ rBuC N m + (if zb (rBurnt N m) = 0 then 0 else 1) = nI d
    rw [e2]
    split
    · exact ⟨d, by omega, Int32.add_zero _⟩
    · exact ⟨d + 1, by omega, nI_1 d⟩
/-- the double of it -/
def PAIRd (M : MM) (p : Nat → Nat) (E : Nat → String) (VA VB : HP → (Option Value ⊕ String → HP → Prop) → Prop) : Prop := ∃ (k : Nat) (x y : UInt64) (M2 : MM), (∀ o, VA (hp M (p, o)) (if k = 0 then (fun z h2 => z = .inl (some (.double x)) ∧ h2 = hp M (p, o)) else ZE (E k) (hp M (p, o)))) ∧ (∀ o, VB (hp M (p, o)) (fun z h2 => z = .inl (some (.double y)) ∧ h2 = hp M2 (p, o))) ∧ k ≤ 1 ∧ M2 464 9 = nI k ∧ (k = 0 → x = y) ∧ REL M2 p
theorem P_burntShare {l : Launch} (hf : l.stackTraces = false) (h : REL M p) : PAIRd M p (fun _ => ARE) (fun h Z => V_X9_burntShare l [.ref 0] h Z) (fun h Z => V_X10_burntShare l [.ref 464] h Z) := by
  obtain ⟨n, h1, hI⟩ := h.2.1
  have hn := hI.2.1
  have hg := hr_g h1 hI
  obtain ⟨d, hd, d2⟩ := bu_d (N := mst M 464 9 0) n hn
  have e1 : buC M n = rBuC (mst M 464 9 0) n := e_bc (HR_9 h1 hn)
  have q1 : qBu M n = FP.ddiv (FP.i2d (nI d)) (FP.i2d (nI n)) := by
    show FP.ddiv (FP.i2d (buC M n)) (FP.i2d (M 1 2)) = _
    rw [e1, d2, hg]
  have ok : n ≠ 0 → n64 (FP.ddiv (FP.i2d (nI d)) (FP.i2d (nI n))) = true := fun n0 => b_ok d (by omega) n (by omega) n0
  have A := fun o => s_X9_burntShare (M := M) (r := (p, o)) hf hn hg (fun n0 => by rw [q1]; exact ok n0)
  have B := fun o => s_X10_burntShare (M := M) (r := (p, o)) hf hn hI.1 (fun n0 => by rw [d2]; exact ok n0)
  by_cases n0 : n = 0
  · exact ⟨1, 0, FP.dconst0, mst M 464 9 1, fun o => by have z := A o; rw [if_pos n0] at z; exact z, fun o => by have z := B o; rw [if_pos n0] at z; exact z, by omega, mst_eq _ _ _ _, fun z => by omega, REL_9 h⟩
  · exact ⟨0, qBu M n, FP.ddiv (FP.i2d (rBuC (mst M 464 9 0) n)) (FP.i2d (nI n)), mst M 464 9 0, fun o => by have z := A o; rw [if_neg n0] at z; exact z, fun o => by have z := B o; rw [if_neg n0] at z; exact z, by omega, mst_eq _ _ _ _, fun _ => by rw [q1, d2], REL_9 h⟩
end P54
