section P53
variable {M N M1 M2 M' : MM} {p : Nat → Nat} {n k c : Nat}
theorem tryF_fr {y : Int32} {x : Nat} (hx : x < 457 ∨ 460 ≤ x) : ∀ m, tryF y M m x = M x
  | 0 => rfl
  | m + 1 => by
    show smk (tryF y M m) 1 457 _ y x = M x
    rw [smk_ne (by omega) (by omega) (by omega)]
    exact tryF_fr hx m
theorem readU_fr {y : Int32} {x : Nat} (hx : x < 457 ∨ 460 ≤ x) : ∀ (j i : Nat) (M : MM), (readU y j i M).2 x = M x
  | 0, _, _ => rfl
  | j + 1, i, M => by
    unfold readU
    split
    · rfl
    · rw [readU_fr hx j, smk_ne (by omega) (by omega) (by omega)]
      exact fl_ne9 (by omega)
theorem fc_fr {a x : Nat} (hx : x < 457 ∨ 460 ≤ x) : fcp M 457 a x = M x := fcp_ne (by omega) (by omega) (by omega)
theorem hsR_out {x y : Nat} (hn : n ≤ 12) (hd : dwn M n) (h : x ≠ 465 ∨ 140 ≤ y) : ∀ m, hsR M n m x y = M x y
  | 0 => rfl
  | m + 1 => by
    rw [hsR_s, rHour_out hn (hsR_ok hd m).1 h]
    exact hsR_out hn hd h m
theorem REL_s (h : REL M p) (f1 : ∀ x, (x < 457 ∨ 460 ≤ x) → M1 x = M x) (f2 : ∀ x, x ≠ 464 → x ≠ 469 → M2 x = M1 x) (f3 : ∀ k, k ≠ 9 → M2 464 k = M1 464 k) : REL M2 p :=
  REL_q (fun x hx => by rw [f2 x (by omega) (by omega), f1 x (by omega)]) (fun k _ h9 => by rw [f3 k h9, f1 464 (by omega)]) h
theorem REL_tl (h : REL M p) (fx : ∀ x, (x < 457 ∨ (465 ≤ x ∧ x < 468)) → M' x = M x) (f4 : ∀ k, (k = 5 ∨ k = 6 ∨ k = 7 ∨ k = 10 ∨ k = 11 ∨ k = 12) → M' 464 k = M 464 k) (t : rlT M') (l : rlL M') : REL M' p := by
  obtain ⟨a, b, ⟨c, d⟩, e, f, _, _⟩ := h
  exact ⟨a, rlH_eq (fun x _ _ => fx x (by omega)) (fun y _ => by rw [fx 465 (by omega)]) b, ⟨c, rlK_eq a.1 (fun x _ _ => fx x (by omega)) (by rw [fx 124 (by omega)]) (f4 6 (by omega)) (fx 466 (by omega)) d⟩, rlS_eq (by rw [fx 0 (by omega)]) (f4 5 (by omega)) (fun x _ _ => fx x (by omega)) (fx 467 (by omega)) e, rlR_eq (fun k => by rw [fx 454 (by omega)]) (fun y hy => f4 y (by omega)) f, t, l⟩
theorem sp_x {x : Nat} (h : x ≠ 469) : spM M x = M x := funext fun y => cpR_ne h
theorem P_wouldChar {l : Launch} (hf : l.stackTraces = false) (h : REL M p) {x q : Int32} : PAIRi 2 M p (EE IOB IAE) (fun h Z => V_X9_wouldChar l [.ref 0, .int x, .int q] h Z) (fun h Z => V_X10_wouldChar l [.ref 464, .int x, .int q] h Z) := by
  obtain ⟨n, h1, hI⟩ := h.2.1
  have hn := hI.2.1
  have hg := hr_g h1 hI
  have hz := rel_flg h1 hI
  have A := fun o => s_X9_wouldChar (M := M) (r := (p, o)) hf hn hg hz (x := x) (m := q)
  by_cases c1 : zb (inB x 0 (nI n - 1)) = 0
  · exact PR_x (k := 1) (M1 := M) (p1 := p) (Or.inl ⟨rfl, by decide⟩) (fun o => by have z := A o; rw [has_in hg hn, if_pos (zb_0.mp c1)] at z; exact z) (fun o => by have z := s_X10_wouldChar (M := M) (r := (p, o)) hf hn hI.1 (iv_dwn hI) (x := x) (v := q); rw [show aWc M n x q = (0, mst M 464 9 1) from by unfold aWc; rw [if_pos c1]] at z; exact z) (mst_eq _ _ _ _) (REL_9 h)
  have c1' : ¬ inB x 0 (nI n - 1) = false := fun z => c1 (zb_0.mpr z)
  obtain ⟨k, hk, rfl⟩ := inB_k hn c1
  have ek : (nI k).toNatClampNeg = k := nI_cl (by omega)
  by_cases c2 : zb (inB q 0 24) = 0
  · exact PR_x (k := 2) (M1 := M) (p1 := p) (Or.inr ⟨rfl, by decide⟩) (fun o => by have z := A o; rw [has_in hg hn, if_neg c1', if_pos (rng_in.mpr c2)] at z; exact z) (fun o => by have z := s_X10_wouldChar (M := M) (r := (p, o)) hf hn hI.1 (iv_dwn hI) (x := nI k) (v := q); rw [show aWc M n (nI k) q = (0, mst M 464 9 2) from by unfold aWc; rw [if_neg c1, if_pos c2]] at z; exact z) (mst_eq _ _ _ _) (REL_9 h)
  have c2' : ¬ (q < 0 ∨ 24 < q) := fun z => c2 (rng_in.mp z)
  obtain ⟨m, hm, rfl⟩ := inB_8 (b := 24) (by omega) c2
  have em : (nI m).toNatClampNeg = m := nI_cl (by omega)
  obtain ⟨M1, eM⟩ : ∃ M1, M1 = tryF (zb (tooNear M 1 k n)) (fcp M 457 (6 + 3 * k)) m := ⟨_, rfl⟩
  have f1 : ∀ x, (x < 457 ∨ 460 ≤ x) → M1 x = M x := fun x hx => by rw [eM, tryF_fr hx, fc_fr hx]
  have row : ∀ y, mst M1 464 9 0 465 y = M 465 y := fun y => by rw [mst_ne1 (by decide), f1 465 (by omega)]
  have hRN : HR M 1 n (mst M1 464 9 0 465) := HR_fn (fun _ _ _ => rfl) hn (fun y _ => row y) h1
  have hIN : IV (mst M1 464 9 0 465) n := IV_eq (fun y _ => row y) hI
  have hI1 : IV (M1 465) n := IV_eq (fun y _ => by rw [f1 465 (by omega)]) hI
  have bk : rBk (hsR (spM (mst M1 464 9 0)) n m) = spM (mst M1 464 9 0) := rBk_sp (fun x y hxy => hsR_out hn (dwn_sp (iv_dwn hIN)) hxy m)
  have eb : aWc M1 n (nI k) (nI m) = (oF (hsR (spM (mst M1 464 9 0)) n m) k (9 + (oF (hsR (spM (mst M1 464 9 0)) n m) k 5).toNatClampNeg), spM (mst M1 464 9 0)) := by
    unfold aWc
    rw [if_neg c1, if_neg c2, ek, em, bk]
  refine PR_v (M1 := M1) (p1 := p) (x := M1 (dside M1 457) 1) (fun o => by have z := A o; rw [has_in hg hn, if_neg c1', if_neg c2', ek, em] at z; simp only [fx, ek] at z; rw [eM]; exact z) (fun o => by have z := s_X10_wouldChar (M := M1) (r := (p, o)) hf hn hI1.1 (iv_dwn hI1) (x := nI k) (v := nI m); rw [eb] at z; exact z) (by rw [eM]; rw [eM] at hRN hIN; exact e_wc hRN hIN hk (by omega)) ?_ ?_
  · show spM (mst M1 464 9 0) 464 9 = 0
    rw [sp_x (by decide), mst_eq]
  · exact REL_s h f1 (fun x a b => (sp_x b).trans (mst_fn a)) (fun k hk => show spM (mst M1 464 9 0) 464 k = M1 464 k from by rw [sp_x (by decide), mst_ne2 hk])
theorem P_wouldCharAgain {l : Launch} (hf : l.stackTraces = false) (h : REL M p) {x q : Int32} : PAIRi 2 M p (EE IOB IAE) (fun h Z => V_X9_wouldCharAgain l [.ref 0, .int x, .int q] h Z) (fun h Z => V_X10_wouldCharAgain l [.ref 464, .int x, .int q] h Z) := by
  obtain ⟨n, h1, hI⟩ := h.2.1
  have hn := hI.2.1
  have hg := hr_g h1 hI
  have hz := rel_flg h1 hI
  have A := fun o => s_X9_wouldCharAgain (M := M) (r := (p, o)) hf hn hg (x := x) (m := q)
  by_cases c1 : zb (inB x 0 (nI n - 1)) = 0
  · exact PR_x (k := 1) (M1 := M) (p1 := p) (Or.inl ⟨rfl, by decide⟩) (fun o => by have z := A o; rw [has_in hg hn, if_pos (zb_0.mp c1)] at z; exact z) (fun o => by have z := s_X10_wouldCharAgain (M := M) (r := (p, o)) hf hn hI.1 (iv_dwn hI) (x := x) (v := q); rw [show aWc M n x q = (0, mst M 464 9 1) from by unfold aWc; rw [if_pos c1]] at z; exact z) (mst_eq _ _ _ _) (REL_9 h)
  have c1' : ¬ inB x 0 (nI n - 1) = false := fun z => c1 (zb_0.mpr z)
  obtain ⟨k, hk, rfl⟩ := inB_k hn c1
  have ek : (nI k).toNatClampNeg = k := nI_cl (by omega)
  by_cases c2 : zb (inB q 0 24) = 0
  · exact PR_x (k := 2) (M1 := M) (p1 := p) (Or.inr ⟨rfl, by decide⟩) (fun o => by have z := A o; rw [has_in hg hn, if_neg c1', if_pos (rng_in.mpr c2)] at z; exact z) (fun o => by have z := s_X10_wouldCharAgain (M := M) (r := (p, o)) hf hn hI.1 (iv_dwn hI) (x := nI k) (v := q); rw [show aWc M n (nI k) q = (0, mst M 464 9 2) from by unfold aWc; rw [if_neg c1, if_pos c2]] at z; exact z) (mst_eq _ _ _ _) (REL_9 h)
  have c2' : ¬ (q < 0 ∨ 24 < q) := fun z => c2 (rng_in.mp z)
  obtain ⟨m, hm, rfl⟩ := inB_8 (b := 24) (by omega) c2
  have em : (nI m).toNatClampNeg = m := nI_cl (by omega)
  obtain ⟨M1, eM⟩ : ∃ M1, M1 = M := ⟨_, rfl⟩
  have f1 : ∀ x, (x < 457 ∨ 460 ≤ x) → M1 x = M x := fun x _ => by rw [eM]
  have row : ∀ y, mst M1 464 9 0 465 y = M 465 y := fun y => by rw [mst_ne1 (by decide), f1 465 (by omega)]
  have hRN : HR M 1 n (mst M1 464 9 0 465) := HR_fn (fun _ _ _ => rfl) hn (fun y _ => row y) h1
  have hIN : IV (mst M1 464 9 0 465) n := IV_eq (fun y _ => row y) hI
  have hI1 : IV (M1 465) n := IV_eq (fun y _ => by rw [f1 465 (by omega)]) hI
  have bk : rBk (hsR (spM (mst M1 464 9 0)) n m) = spM (mst M1 464 9 0) := rBk_sp (fun x y hxy => hsR_out hn (dwn_sp (iv_dwn hIN)) hxy m)
  have eb : aWc M1 n (nI k) (nI m) = (oF (hsR (spM (mst M1 464 9 0)) n m) k (9 + (oF (hsR (spM (mst M1 464 9 0)) n m) k 5).toNatClampNeg), spM (mst M1 464 9 0)) := by
    unfold aWc
    rw [if_neg c1, if_neg c2, ek, em, bk]
  refine PR_v (M1 := M1) (p1 := p) (fun o => by have z := A o; rw [has_in hg hn, if_neg c1', if_neg c2', ek] at z; rw [eM]; exact z) (fun o => by have z := s_X10_wouldCharAgain (M := M1) (r := (p, o)) hf hn hI1.1 (iv_dwn hI1) (x := nI k) (v := nI m); rw [eb] at z; exact z) (e_wa hRN hIN hk (by omega)) ?_ ?_
  · show spM (mst M1 464 9 0) 464 9 = 0
    rw [sp_x (by decide), mst_eq]
  · exact REL_s h f1 (fun x a b => (sp_x b).trans (mst_fn a)) (fun k hk => show spM (mst M1 464 9 0) 464 k = M1 464 k from by rw [sp_x (by decide), mst_ne2 hk])
theorem P_burnsIn {l : Launch} (hf : l.stackTraces = false) (h : REL M p) {x : Int32} : PAIRi 2 M p (EE IOB NSE) (fun h Z => V_X9_burnsIn l [.ref 0, .int x] h Z) (fun h Z => V_X10_burnsIn l [.ref 464, .int x] h Z) := by
  obtain ⟨n, h1, hI⟩ := h.2.1
  have hn := hI.2.1
  have hg := hr_g h1 hI
  have hz := rel_flg h1 hI
  have A := fun o => s_X9_burnsIn (M := M) (r := (p, o)) hf hn hg hz (x := x)
  obtain ⟨lg, hl, el⟩ := hI.2.2.1
  by_cases c1 : zb (inB x 0 (nI n - 1)) = 0
  · exact PR_x (k := 1) (M1 := M) (p1 := p) (Or.inl ⟨rfl, by decide⟩) (fun o => by have z := A o; rw [has_in hg hn, if_pos (zb_0.mp c1)] at z; exact z) (fun o => by have z := s_X10_burnsIn (M := M) (r := (p, o)) hf hn hI.1 (iv_dwn hI) el hl (x := x); rw [show aBu M n x = (0, mst M 464 9 1) from by unfold aBu; rw [if_pos c1]] at z; exact z) (mst_eq _ _ _ _) (REL_9 h)
  have c1' : ¬ inB x 0 (nI n - 1) = false := fun z => c1 (zb_0.mpr z)
  obtain ⟨k, hk, rfl⟩ := inB_k hn c1
  have ek : (nI k).toNatClampNeg = k := nI_cl (by omega)
  obtain ⟨b, eb⟩ : ∃ b, b = burnU (zb (tooNear M 1 k n)) 13 0 (fcp M 457 (6 + 3 * k)) := ⟨_, rfl⟩
  obtain ⟨M1, eM⟩ : ∃ M1, M1 = b.2 := ⟨_, rfl⟩
  have f1 : ∀ x, (x < 457 ∨ 460 ≤ x) → M1 x = M x := fun x hx => by rw [eM, eb, burnU_ne hx, fc_fr hx]
  have row : ∀ y, mst M1 464 9 0 465 y = M 465 y := fun y => by rw [mst_ne1 (by decide), f1 465 (by omega)]
  have hRN : HR M 1 n (mst M1 464 9 0 465) := HR_fn (fun _ _ _ => rfl) hn (fun y _ => row y) h1
  have hIN : IV (mst M1 464 9 0 465) n := IV_eq (fun y _ => row y) hI
  have hI1 : IV (M1 465) n := IV_eq (fun y _ => by rw [f1 465 (by omega)]) hI
  have el1 : M1 465 1 = nI lg := by rw [f1 465 (by omega)]; exact el
  have A' : ∀ o, V_X9_burnsIn l [.ref 0, .int (nI k)] (hp M (p, o)) (if b.1 < 0 then ZE NSE (hp M1 (p, o)) else VI b.1 (hp M1 (p, o))) := fun o => by
    have z := A o
    rw [has_in hg hn, if_neg c1'] at z
    simp only [fx, ek] at z
    rw [eM, eb]
    exact z
  have B := fun o => s_X10_burnsIn (M := M1) (r := (p, o)) hf hn hI1.1 (iv_dwn hI1) el1 hl (x := nI k)
  have rs : ∀ v, REL (mst (spM (mst M1 464 9 0)) 464 9 v) p := fun v => REL_s h f1 (fun x a b => (mst_fn a).trans ((sp_x b).trans (mst_fn a))) (fun k hk => by rw [mst_ne2 hk, sp_x (by decide), mst_ne2 hk])
  rcases e_bn hRN hIN hk with ⟨b1, b2, b3⟩ | ⟨d, hd, b1, b2, b3⟩
  · rw [← eb] at b1
    exact PR_x (k := 2) (M1 := M1) (p1 := p) (Or.inr ⟨rfl, by decide⟩) (fun o => by have z := A' o; rw [b1, if_pos (by decide)] at z; exact z) (fun o => by have z := B o; rw [show aBu M1 n (nI k) = (0, mst (spM (mst M1 464 9 0)) 464 9 2) from by unfold aBu; rw [if_neg c1, ek, if_pos b2]] at z; exact z) (mst_eq _ _ _ _) (rs 2)
  · rw [← eb] at b1
    have d9 : ∀ d, d < 13 → ¬ nI d = 99 := by decide +kernel
    have b4 : ¬ rBu (mst M1 464 9 0) n k = 99 := by rw [b2]; exact d9 d (by omega)
    exact PR_v (M1 := M1) (p1 := p) (x := nI d) (fun o => by have z := A' o; rw [b1, if_neg (nI_pos (by omega))] at z; exact z) (fun o => by have z := B o; rw [show aBu M1 n (nI k) = (nI d, mst (spM (mst M1 464 9 0)) 464 9 0) from by unfold aBu; rw [if_neg c1, ek, if_neg b4, b2]] at z; exact z) rfl (mst_eq _ _ _ _) (rs 0)
theorem P_doneIn {l : Launch} (hf : l.stackTraces = false) (h : REL M p) {x : Int32} : PAIRi 2 M p (EE IOB NSE) (fun h Z => V_X9_doneIn l [.ref 0, .int x] h Z) (fun h Z => V_X10_doneIn l [.ref 464, .int x] h Z) := by
  obtain ⟨n, h1, hI⟩ := h.2.1
  have hn := hI.2.1
  have hg := hr_g h1 hI
  have hz := rel_flg h1 hI
  have A := fun o => s_X9_doneIn (M := M) (r := (p, o)) hf hn hg hz (x := x)
  obtain ⟨lg, hl, el⟩ := hI.2.2.1
  by_cases c1 : zb (inB x 0 (nI n - 1)) = 0
  · exact PR_x (k := 1) (M1 := M) (p1 := p) (Or.inl ⟨rfl, by decide⟩) (fun o => by have z := A o; rw [has_in hg hn, if_pos (zb_0.mp c1)] at z; exact z) (fun o => by have z := s_X10_doneIn (M := M) (r := (p, o)) hf hn hI.1 (iv_dwn hI) el hl (x := x); rw [show aDn M n x = (0, mst M 464 9 1) from by unfold aDn; rw [if_pos c1]] at z; exact z) (mst_eq _ _ _ _) (REL_9 h)
  have c1' : ¬ inB x 0 (nI n - 1) = false := fun z => c1 (zb_0.mpr z)
  obtain ⟨k, hk, rfl⟩ := inB_k hn c1
  have ek : (nI k).toNatClampNeg = k := nI_cl (by omega)
  obtain ⟨b, eb⟩ : ∃ b, b = readU (zb (tooNear M 1 k n)) 13 0 (fcp M 457 (6 + 3 * k)) := ⟨_, rfl⟩
  obtain ⟨M1, eM⟩ : ∃ M1, M1 = b.2 := ⟨_, rfl⟩
  have f1 : ∀ x, (x < 457 ∨ 460 ≤ x) → M1 x = M x := fun x hx => by rw [eM, eb, readU_fr hx, fc_fr hx]
  have row : ∀ y, mst M1 464 9 0 465 y = M 465 y := fun y => by rw [mst_ne1 (by decide), f1 465 (by omega)]
  have hRN : HR M 1 n (mst M1 464 9 0 465) := HR_fn (fun _ _ _ => rfl) hn (fun y _ => row y) h1
  have hIN : IV (mst M1 464 9 0 465) n := IV_eq (fun y _ => row y) hI
  have hI1 : IV (M1 465) n := IV_eq (fun y _ => by rw [f1 465 (by omega)]) hI
  have el1 : M1 465 1 = nI lg := by rw [f1 465 (by omega)]; exact el
  have A' : ∀ o, V_X9_doneIn l [.ref 0, .int (nI k)] (hp M (p, o)) (if b.1 < 0 then ZE NSE (hp M1 (p, o)) else VI b.1 (hp M1 (p, o))) := fun o => by
    have z := A o
    rw [has_in hg hn, if_neg c1'] at z
    simp only [fx, ek] at z
    rw [eM, eb]
    exact z
  have B := fun o => s_X10_doneIn (M := M1) (r := (p, o)) hf hn hI1.1 (iv_dwn hI1) el1 hl (x := nI k)
  have rs : ∀ v, REL (mst (spM (mst M1 464 9 0)) 464 9 v) p := fun v => REL_s h f1 (fun x a b => (mst_fn a).trans ((sp_x b).trans (mst_fn a))) (fun k hk => by rw [mst_ne2 hk, sp_x (by decide), mst_ne2 hk])
  rcases e_dn hRN hIN hk with ⟨b1, b2⟩ | ⟨d, hd, b1, b2, b3⟩
  · rw [← eb] at b1
    exact PR_x (k := 2) (M1 := M1) (p1 := p) (Or.inr ⟨rfl, by decide⟩) (fun o => by have z := A' o; rw [b1, if_pos (by decide)] at z; exact z) (fun o => by have z := B o; rw [show aDn M1 n (nI k) = (0, mst (spM (mst M1 464 9 0)) 464 9 2) from by unfold aDn; rw [if_neg c1, ek, if_pos (by rw [b2]; rfl)]] at z; exact z) (mst_eq _ _ _ _) (rs 2)
  · rw [← eb] at b1
    exact PR_v (M1 := M1) (p1 := p) (x := nI d) (fun o => by have z := A' o; rw [b1, if_neg (nI_pos (by omega))] at z; exact z) (fun o => by have z := B o; rw [show aDn M1 n (nI k) = (nI d, mst (spM (mst M1 464 9 0)) 464 9 0) from by unfold aDn; rw [if_neg c1, ek, if_neg (by rw [b2]; decide), b3]] at z; exact z) rfl (mst_eq _ _ _ _) (rs 0)
theorem P_hottest {l : Launch} (hf : l.stackTraces = false) (h : REL M p) : PAIRi 1 M p (fun _ => NSE) (fun h Z => V_X9_hottest l [.ref 0] h Z) (fun h Z => V_X10_hottest l [.ref 464] h Z) := by
  obtain ⟨n, h1, hI⟩ := h.2.1
  have hn := hI.2.1
  have hg := hr_g h1 hI
  have hz := rel_flg h1 hI
  have A := fun o => s_X9_hottest (M := M) (r := (p, o)) hf hn hg hz
  obtain ⟨lg, hl, el⟩ := hI.2.2.1
  obtain ⟨M1, eM⟩ : ∃ M1, M1 = (firF M n n).2.2 := ⟨_, rfl⟩
  have f1 : ∀ x, (x < 457 ∨ 460 ≤ x) → M1 x = M x := fun x hx => by rw [eM, firF_ne hx]
  have hR1 : HR M 1 n (M1 465) := HR_fn (fun _ _ _ => rfl) hn (fun y _ => by rw [f1 465 (by omega)]) h1
  have hI1 : IV (M1 465) n := IV_eq (fun y _ => by rw [f1 465 (by omega)]) hI
  have el1 : M1 465 1 = nI lg := by rw [f1 465 (by omega)]; exact el
  have B := fun o => s_X10_hottest (M := M1) (r := (p, o)) hf hn hI1.1 (iv_dwn hI1) el1 hl
  obtain ⟨e1, -, e3⟩ := e_ho hR1 hI1 n (Nat.le_refl _)
  have rs : ∀ v, REL (mst (hoR M1 n n).2 464 9 v) p := fun v => REL_s h f1 (fun x a b => (mst_fn a).trans (funext fun y => hoR_fr b n)) (fun k hk => by rw [mst_ne2 hk]; exact hoR_fr (by decide) n)
  by_cases c1 : (firF M n n).1 < 0
  · have c2 : (hoR M1 n n).1.1 < 0 := by rw [← e1]; exact c1
    exact PR_x (k := 1) (M1 := M1) (p1 := p) (Or.inl ⟨rfl, by decide⟩) (fun o => by have z := A o; rw [if_pos c1] at z; rw [eM]; exact z) (fun o => by have z := B o; rw [if_pos c2, if_pos c2] at z; exact z) (mst_eq _ _ _ _) (rs 1)
  · have c2 : ¬ (hoR M1 n n).1.1 < 0 := by rw [← e1]; exact c1
    exact PR_v (M1 := M1) (p1 := p) (fun o => by have z := A o; rw [if_neg c1] at z; rw [eM]; exact z) (fun o => by have z := B o; rw [if_neg c2, if_neg c2] at z; exact z) e1 (mst_eq _ _ _ _) (rs 0)
theorem P_append {l : Launch} (hf : l.stackTraces = false) (h : REL M p) {x : Int32} (hx : isC x) : PAIRi 1 M p (fun _ => ISE) (fun h Z => V_X9_append l [.ref 0, .int x] h Z) (fun h Z => V_X10_append l [.ref 464, .int x] h Z) := by
  obtain ⟨n, h1, hI⟩ := h.2.1
  have hn := hI.2.1
  have hg := hr_g h1 hI
  have hz := rel_flg h1 hI
  obtain ⟨⟨L, hL60, hL, hL'⟩, hC, ht, hfa⟩ := h.2.2.2.2.2.1
  have A := fun o => s_X9_append (M := M) (r := (p, o)) hf hn hg hL hL60 (c := x)
  by_cases c1 : L = 60
  · subst c1
    exact PR_x (k := 1) (M1 := M) (p1 := p) (Or.inl ⟨rfl, by decide⟩) (fun o => by have z := A o; rw [if_pos rfl] at z; exact z) (fun o => by have z := s_X10_append (M := M) (r := (p, o)) hf hL' hL60 (y := x); rw [show aAp M 60 x = (0, mst M 464 9 1) from by unfold aAp; rw [if_pos (by rw [hL']; rfl)]] at z; exact z) (mst_eq _ _ _ _) (REL_9 h)
  have vx : vp_nar .char x = x := vn_C hx
  rw [vx] at A
  obtain ⟨M1, eM⟩ : ∃ M1, M1 = mst (mst M 461 L x) 460 1 (nI (L + 1)) := ⟨_, rfl⟩
  have m1 : ∀ x, x ≠ 460 → x ≠ 461 → M1 x = M x := fun x a b => by rw [eM, mst_fn a, mst_fn b]
  have B := fun o => s_X10_append (M := M1) (r := (p, o)) hf (n := L) (by rw [m1 464 (by omega) (by omega)]; exact hL') hL60 (y := x)
  have l60 : ¬ M1 464 14 = 60 := by
    rw [m1 464 (by omega) (by omega), hL']
    intro z
    exact c1 ((nI_eq (a := L) (b := 60) (by omega) (by omega)).mp z)
  obtain ⟨M2, e2⟩ : ∃ M2, M2 = mst (mst (mst M1 464 9 0) 470 L x) 464 14 (nI (L + 1)) := ⟨_, rfl⟩
  have k2 : ∀ y, y ≠ 464 → y ≠ 470 → M2 y = M1 y := fun y a b => by rw [e2, mst_fn a, mst_fn b, mst_fn a]
  have k4 : ∀ k, k ≠ 9 → k ≠ 14 → M2 464 k = M 464 k := fun k a b => by rw [e2, mst_ne2 b, mst_ne1 (by decide), mst_ne2 a, m1 464 (by omega) (by omega)]
  have t1 : M2 461 = fun k => if k = L then x else M 461 k := by
    rw [k2 461 (by omega) (by omega), eM, mst_fn (by decide)]
    funext k
    unfold mst
    by_cases z : k = L
    · rw [if_pos ⟨rfl, z⟩, if_pos z]
    · rw [if_neg (fun q => z q.2), if_neg z]
  have t2 : M2 470 = fun k => if k = L then x else M 461 k := by
    rw [e2, mst_fn (by decide)]
    funext k
    unfold mst
    by_cases z : k = L
    · rw [if_pos ⟨rfl, z⟩, if_pos z]
    · rw [if_neg (fun q => z q.2), if_neg z, if_neg (fun q => absurd q.1 (by decide)), m1 470 (by omega) (by omega), ht]
  refine PR_v (M1 := M1) (p1 := p) (fun o => by have z := A o; rw [if_neg c1] at z; rw [eM]; exact z) (fun o => by have z := B o; rw [show aAp M1 L x = (nI (L + 1), M2) from by unfold aAp; rw [if_neg l60, e2]] at z; exact z) rfl ?_ (REL_tl h (fun x hx => by rw [k2 x (by omega) (by omega), m1 x (by omega) (by omega)]) (fun k hk => k4 k (by omega) (by omega)) ⟨⟨L + 1, by omega, ?_, ?_⟩, ?_, ?_, ?_⟩ ?_)
  · rw [e2, mst_ne2 (by decide), mst_ne1 (by decide), mst_eq]
  · rw [k2 460 (by omega) (by omega), eM, mst_eq]
  · rw [e2, mst_eq]
  · intro k
    rw [t1]
    show isC (if k = L then x else M 461 k)
    split
    · exact hx
    · exact hC k
  · rw [t1, t2]
  · rw [k2 460 (by omega) (by omega), eM, mst_ne2 (by decide), mst_ne1 (by decide), k4 15 (by omega) (by omega)]
    exact hfa
  · exact rlL_eq (by rw [k2 462 (by omega) (by omega), m1 462 (by omega) (by omega)]) (k4 17 (by omega) (by omega)) (by rw [k2 463 (by omega) (by omega), m1 463 (by omega) (by omega)]) (by rw [k2 471 (by omega) (by omega), m1 471 (by omega) (by omega)]) h.2.2.2.2.2.2
theorem P_rack {l : Launch} (hf : l.stackTraces = false) (h : REL M p) {x : Int32} : PAIRi 1 M p (fun _ => IOB) (fun h Z => V_X9_rack l [.ref 0, .int x] h Z) (fun h Z => V_X10_rack l [.ref 464, .int x] h Z) := by
  obtain ⟨n, h1, hI⟩ := h.2.1
  have hn := hI.2.1
  have hg := hr_g h1 hI
  have hz := rel_flg h1 hI
  have A := fun o => s_X9_rack (M := M) (r := (p, o)) hf hn hg (p := x)
  by_cases c1 : zb (inB x 0 3) = 0
  · exact PR_x (k := 1) (M1 := M) (p1 := p) (Or.inl ⟨rfl, by decide⟩) (fun o => by have z := A o; rw [inR_in (x := x) (j := 3) (by omega) (show (4 : Int32) = nI 4 by decide), show nI 3 = 3 from rfl, if_pos (zb_0.mp c1)] at z; exact z) (fun o => by have z := s_X10_rack (M := M) (r := (p, o)) hf hn hI.1 (p := x); rw [show aRa M n x = (0, mst M 464 9 1) from by unfold aRa; rw [if_pos c1]] at z; exact z) (mst_eq _ _ _ _) (REL_9 h)
  have c1' : ¬ inB x 0 3 = false := fun z => c1 (zb_0.mpr z)
  obtain ⟨a, ha, rfl⟩ := inB_8 (b := 3) (by omega) c1
  obtain ⟨m, hm, l1, l2, lr⟩ := h.2.2.2.2.2.2
  obtain ⟨M1, eM⟩ : ∃ M1, M1 = rkS M (nI a) n 10 := ⟨_, rfl⟩
  have m1 : ∀ x, x ≠ 462 → x ≠ 463 → M1 x = M x := fun x u v => by rw [eM]; exact rkS_fr u v 10
  have row : ∀ y, mst M1 464 9 0 465 y = M 465 y := fun y => by rw [mst_ne1 (by decide), m1 465 (by omega) (by omega)]
  have hRN : HR M 1 n (mst M1 464 9 0 465) := HR_fn (fun _ _ _ => rfl) hn (fun y _ => row y) h1
  have hIN : IV (mst M1 464 9 0 465) n := IV_eq (fun y _ => row y) hI
  have l0 : LR M (mst M1 464 9 0) 0 := ⟨fun j hj => absurd hj (Nat.not_lt_zero j), lr.2.1, fun j => by rw [mst_ne1 (by decide), m1 471 (by omega) (by omega)]; exact lr.2.2 j⟩
  have lk := rk_rel hRN hIN ha l0 10
  obtain ⟨M2, e2⟩ : ∃ M2, M2 = rkW (mst M1 464 9 0) (nI a) n 10 := ⟨_, rfl⟩
  have k2 : ∀ x, x ≠ 464 → x ≠ 471 → M2 x = M1 x := fun x u v => funext fun y => by rw [e2, rkW_fr v (Or.inl u), mst_ne1 u]
  have k4 : ∀ k, k ≠ 9 → k ≠ 17 → M2 464 k = M 464 k := fun k u v => by rw [e2, rkW_fr (by decide) (Or.inr v), mst_ne2 u, m1 464 (by omega) (by omega)]
  refine PR_v (M1 := M1) (p1 := p) (x := nI 10) (fun o => by have z := A o; rw [inR_in (x := nI a) (j := 3) (by omega) (show (4 : Int32) = nI 4 by decide), show nI 3 = 3 from rfl, if_neg c1'] at z; rw [eM]; exact z) (fun o => by have z := s_X10_rack (M := M1) (r := (p, o)) hf hn (by rw [m1 465 (by omega) (by omega)]; exact hI.1) (p := nI a); rw [show aRa M1 n (nI a) = (nI 10, M2) from by unfold aRa; rw [if_neg c1, e2]] at z; exact z) rfl ?_ (REL_tl h (fun x hx => by rw [k2 x (by omega) (by omega), m1 x (by omega) (by omega)]) (fun k hk => k4 k (by omega) (by omega)) ?_ ⟨10, by omega, ?_, ?_, ?_⟩)
  · rw [e2, rkW_fr (by decide) (Or.inr (by decide)), mst_eq]
  · exact rlT_eq (by rw [k2 460 (by omega) (by omega), m1 460 (by omega) (by omega)]) (by rw [k2 460 (by omega) (by omega), m1 460 (by omega) (by omega)]) (by rw [k2 461 (by omega) (by omega), m1 461 (by omega) (by omega)]) (by rw [k2 470 (by omega) (by omega), m1 470 (by omega) (by omega)]) (k4 14 (by omega) (by omega)) (k4 15 (by omega) (by omega)) h.2.2.2.2.2.1
  · rw [k2 462 (by omega) (by omega), eM]; exact rkS_len 10
  · rw [e2]; exact rkW_len 10
  · exact LR_eq lk (by rw [k2 463 (by omega) (by omega), eM]) (by rw [e2])
theorem P_line {l : Launch} (hf : l.stackTraces = false) (h : REL M p) {x : Int32} : PAIRi 1 M p (fun _ => IOB) (fun h Z => V_X9_line l [.ref 0, .int x] h Z) (fun h Z => V_X10_line l [.ref 464, .int x] h Z) := by
  obtain ⟨n, h1, hI⟩ := h.2.1
  have hn := hI.2.1
  have hg := hr_g h1 hI
  have hz := rel_flg h1 hI
  have A := fun o => s_X9_line (M := M) (r := (p, o)) hf hn hg (fun k hk => oneF_ok h1 hI hk) (x := x)
  by_cases c1 : zb (inB x 0 (nI n - 1)) = 0
  · exact PR_x (k := 1) (M1 := M) (p1 := p) (Or.inl ⟨rfl, by decide⟩) (fun o => by have z := A o; rw [has_in hg hn, if_pos (zb_0.mp c1)] at z; exact z) (fun o => by have z := s_X10_line (M := M) (r := (p, o)) hf hn hI.1 (x := x); rw [show aLi M n x = (0, mst M 464 9 1) from by unfold aLi; rw [if_pos c1]] at z; exact z) (mst_eq _ _ _ _) (REL_9 h)
  have c1' : ¬ inB x 0 (nI n - 1) = false := fun z => c1 (zb_0.mpr z)
  obtain ⟨k, hk, rfl⟩ := inB_k hn c1
  have ek : (nI k).toNatClampNeg = k := nI_cl (by omega)
  obtain ⟨m, hm, l1, l2, lr⟩ := h.2.2.2.2.2.2
  obtain ⟨M1, eM⟩ : ∃ M1, M1 = lnL (mst M 462 1 0) 0 (liL M (6 + 3 * k)) := ⟨_, rfl⟩
  have m1 : ∀ x, x ≠ 462 → x ≠ 463 → M1 x = M x := fun x u v => by rw [eM, lnL_fr u v, mst_fn u]
  obtain ⟨N', eN⟩ : ∃ N', N' = mst (mst M1 464 9 0) 464 17 0 := ⟨_, rfl⟩
  have row : ∀ y, N' 465 y = M 465 y := fun y => by rw [eN, mst_ne1 (by decide), mst_ne1 (by decide), m1 465 (by omega) (by omega)]
  have hRN : HR M 1 n (N' 465) := HR_fn (fun _ _ _ => rfl) hn (fun y _ => row y) h1
  have hIN : IV (N' 465) n := IV_eq (fun y _ => row y) hI
  have le := li_eq hRN hIN hk
  have l0 : LR (mst M 462 1 0) N' 0 := ⟨fun j hj => absurd hj (Nat.not_lt_zero j), fun j => by rw [mst_ne1 (by decide)]; exact lr.2.1 j, fun j => by rw [eN, mst_ne1 (by decide), mst_ne1 (by decide), m1 471 (by omega) (by omega)]; exact lr.2.2 j⟩
  have lk := ln_rel (liX N' k) (mst M 462 1 0) N' 0 l0
  rw [← le, Nat.zero_add] at lk
  have ll : (liL M (6 + 3 * k)).length = (liX N' k).length := by rw [le, List.length_map]
  have l14 := liL_14 (oneF_ok h1 hI hk)
  obtain ⟨M2, e2⟩ : ∃ M2, M2 = wrL N' 0 (liX N' k) := ⟨_, rfl⟩
  have k2 : ∀ x, x ≠ 464 → x ≠ 471 → M2 x = M1 x := fun x u v => funext fun y => by rw [e2, wrL_fr v (Or.inl u), eN, mst_ne1 u, mst_ne1 u]
  have k4 : ∀ k, k ≠ 9 → k ≠ 17 → M2 464 k = M 464 k := fun k u v => by rw [e2, wrL_fr (by decide) (Or.inr v), eN, mst_ne2 v, mst_ne2 u, m1 464 (by omega) (by omega)]
  refine PR_v (M1 := M1) (p1 := p) (x := nI (liL M (6 + 3 * k)).length) (fun o => by have z := A o; rw [has_in hg hn, if_neg c1'] at z; simp only [fx, ek] at z; rw [eM]; exact z) (fun o => by have z := s_X10_line (M := M1) (r := (p, o)) hf hn (by rw [m1 465 (by omega) (by omega)]; exact hI.1) (x := nI k); rw [show aLi M1 n (nI k) = (nI (liX N' k).length, M2) from by unfold aLi; rw [if_neg c1, ek, ← eN, e2]] at z; exact z) (by rw [ll]) ?_ (REL_tl h (fun x hx => by rw [k2 x (by omega) (by omega), m1 x (by omega) (by omega)]) (fun k hk => k4 k (by omega) (by omega)) ?_ ⟨(liX N' k).length, by omega, ?_, ?_, ?_⟩)
  · rw [e2, wrL_fr (by decide) (Or.inr (by decide)), eN, mst_ne2 (by decide), mst_eq]
  · exact rlT_eq (by rw [k2 460 (by omega) (by omega), m1 460 (by omega) (by omega)]) (by rw [k2 460 (by omega) (by omega), m1 460 (by omega) (by omega)]) (by rw [k2 461 (by omega) (by omega), m1 461 (by omega) (by omega)]) (by rw [k2 470 (by omega) (by omega), m1 470 (by omega) (by omega)]) (k4 14 (by omega) (by omega)) (k4 15 (by omega) (by omega)) h.2.2.2.2.2.1
  · rw [k2 462 (by omega) (by omega), eM, lnL_len _ _ 0 (by rw [mst_eq]; rfl), Nat.zero_add, ll]
  · rw [e2, wrL_len _ 0 (by rw [eN, mst_eq]; rfl), Nat.zero_add]
  · exact LR_eq lk (by rw [k2 463 (by omega) (by omega), eM]) (by rw [e2])
theorem rng_m {x : Int32} {m : Nat} (hm : m ≤ 60) : (x < 0 ∨ ¬ x < nI m) ↔ zb (inB x 0 (nI m - 1)) = 0 := by
  have h1 : (nI m).toInt = (m : Int) := nI_toInt (by omega)
  have h2 : (nI m - 1).toInt = (m : Int) - 1 := by
    match m, hm with
    | 0, _ => decide
    | m + 1, hm => rw [nI_sub1 (by omega), nI_toInt (by omega)]; omega
  have e1 : (x < nI m) ↔ x.toInt < (m : Int) := by rw [Int32.lt_iff_toInt_lt, h1]
  have e2 : (nI m - 1 < x) ↔ (m : Int) - 1 < x.toInt := by rw [Int32.lt_iff_toInt_lt, h2]
  rw [← rng_in, e1, e2]
  constructor
  · intro z
    rcases z with z | z
    · exact Or.inl z
    · exact Or.inr (by omega)
  · intro z
    rcases z with z | z
    · exact Or.inl z
    · exact Or.inr (by omega)
theorem P_character {l : Launch} (hf : l.stackTraces = false) (h : REL M p) {x : Int32} : PAIRi 1 M p (fun _ => IOB) (fun h Z => V_X9_character l [.ref 0, .int x] h Z) (fun h Z => V_X10_character l [.ref 464, .int x] h Z) := by
  obtain ⟨n, h1, hI⟩ := h.2.1
  have hn := hI.2.1
  have hg := hr_g h1 hI
  have hz := rel_flg h1 hI
  obtain ⟨m, hm, l1, l2, lr⟩ := h.2.2.2.2.2.2
  have A := fun o => s_X9_character (M := M) (r := (p, o)) hf hn hg l1 hm lr.2.1 (x := x)
  have B := fun o => s_X10_character (M := M) (r := (p, o)) hf l2 (by omega) lr.2.2 (q := x)
  have er := rng_m (x := x) (m := m) (by omega)
  by_cases c1 : zb (inB x 0 (nI m - 1)) = 0
  · exact PR_x (k := 1) (M1 := M) (p1 := p) (y := 32) (Or.inl ⟨rfl, by decide⟩) (fun o => by have z := A o; rw [if_pos (er.mpr c1)] at z; exact z) (fun o => by have z := B o; rw [show aCh M m x = (32, mst M 464 9 1) from by unfold aCh; rw [if_pos c1]] at z; exact z) (mst_eq _ _ _ _) (REL_9 h)
  have c1' : ¬ (x < 0 ∨ ¬ x < nI m) := fun z => c1 (er.mp z)
  obtain ⟨j, hj, rfl⟩ := inB_q (by omega) c1
  have ej : (nI j).toNatClampNeg = j := nI_cl (by omega)
  exact PR_v (M1 := M) (p1 := p) (x := M 463 j) (fun o => by have z := A o; rw [if_neg c1', ej] at z; exact z) (fun o => by have z := B o; rw [show aCh M m (nI j) = (M 471 j, mst M 464 9 0) from by unfold aCh; rw [if_neg c1, ej]] at z; exact z) (lr.1 j hj) (mst_eq _ _ _ _) (REL_9 h)
theorem P_undo {l : Launch} (hf : l.stackTraces = false) (h : REL M p) : PAIRi 1 M p (fun _ => ISE) (fun h Z => V_X9_undo l [.ref 0] h Z) (fun h Z => V_X10_undo l [.ref 464] h Z) := by
  obtain ⟨n, h1, hI⟩ := h.2.1
  have hn := hI.2.1
  have hg := hr_g h1 hI
  have hz := rel_flg h1 hI
  obtain ⟨c, hK⟩ := h.2.2.1
  match c, hK with
  | 0, hK =>
    exact PR_x (k := 1) (M1 := M) (p1 := p) (Or.inl ⟨rfl, by decide⟩) (fun o => s_X9_undo_0 hf hK.2.2.1) (fun o => by have z := s_X10_undo (M := M) (r := (p, o)) hf hK.2.1 (by omega); rw [show aUn M 0 = (0, mst M 464 9 1) from by unfold aUn; rw [if_pos (show M 464 6 = 0 from hK.2.1)]] at z; exact z) (mst_eq _ _ _ _) (REL_9 h)
  | c + 1, hK =>
    obtain ⟨m, b1, b2⟩ := hK.2.2.2 0 (by omega)
    have hm : M (p 0) 2 = nI m := (b1.1 0 (by omega)).trans b2.1
    have n0 : ∀ c, c < 8 → ¬ nI (c + 1) = 0 := by decide +kernel
    have c8 : c < 8 := by have := hK.1; omega
    obtain ⟨M1, eM⟩ : ∃ M1, M1 = mst (hcp M 1 (p 0) m) 124 1 (mx0 (M 124 1 - 1)) := ⟨_, rfl⟩
    obtain ⟨r1, r2⟩ := rel_un h hK hm b2.2.1 eM
    have m6 : M1 464 6 = nI (c + 1) := by rw [eM, mst_ne1 (by decide), hcp_out b2.2.1 (by omega)]; exact hK.2.1
    exact PR_v (M1 := M1) (p1 := rotL p) (x := mx0 (M 124 1 - 1)) (fun o => by have z := s_X9_undo (M := M) (r := (p, o)) hf h.1.1 b2.2.1 hm (rel_flg b1 b2) (by rw [hK.2.2.1]; exact n0 c c8); rw [eM]; exact z) (fun o => by have z := s_X10_undo (M := M1) (r := (rotL p, o)) hf m6 hK.1; rw [show aUn M1 (c + 1) = (nI c, cpR (mst (mst M1 464 9 0) 464 6 (nI c)) 466 (140 * c) 465 0 140) from by unfold aUn; rw [if_neg (by rw [m6]; exact n0 c c8), Nat.add_sub_cancel]] at z; exact z) r1 (by rw [cpR_ne (by decide), mst_ne2 (by decide), mst_eq]) r2
theorem P_save {l : Launch} (hf : l.stackTraces = false) (h : REL M p) : PAIRi 1 M p (fun _ => ISE) (fun h Z => V_X9_save l [.ref 0] h Z) (fun h Z => V_X10_save l [.ref 464] h Z) := by
  obtain ⟨n, h1, hI⟩ := h.2.1
  have hn := hI.2.1
  have hg := hr_g h1 hI
  have hz := rel_flg h1 hI
  obtain ⟨M1, eM⟩ : ∃ M1, M1 = mst (hcp M 83 1 n) 0 9 1 := ⟨_, rfl⟩
  exact PR_v (M1 := M1) (p1 := p) (fun o => by have z := s_X9_save (M := M) (r := (p, o)) hf hn hg hz; rw [eM]; exact z) (fun o => s_X10_save (M := M1) (r := (p, o)) hf (n := n) (by rw [eM, mst_ne1 (by decide), hcp_out hn (by omega)]; exact hI.1)) rfl (by rw [cpR_ne (by decide), mst_ne2 (by decide), mst_eq]) (rel_sv h h1 hI eM)
theorem P_restore {l : Launch} (hf : l.stackTraces = false) (h : REL M p) : PAIRi 1 M p (fun _ => ISE) (fun h Z => V_X9_restore l [.ref 0] h Z) (fun h Z => V_X10_restore l [.ref 464] h Z) := by
  obtain ⟨n, h1, hI⟩ := h.2.1
  have hn := hI.2.1
  have hg := hr_g h1 hI
  have hz := rel_flg h1 hI
  rcases h.2.2.2.1 with ⟨s1, s2⟩ | ⟨s1, s2, m, b1, b2⟩
  · exact PR_x (k := 1) (M1 := M) (p1 := p) (Or.inl ⟨rfl, by decide⟩) (fun o => s_X9_restore_0 hf s1) (fun o => by have z := s_X10_restore (M := M) (r := (p, o)) hf (n := n); rw [show aRs M n = (0, mst M 464 9 1) from by unfold aRs; rw [if_pos s2]] at z; exact z) (mst_eq _ _ _ _) (REL_9 h)
  · have hm : M 83 2 = nI m := (b1.1 0 (by omega)).trans b2.1
    obtain ⟨M1, eM⟩ : ∃ M1, M1 = mst (hcp M 1 83 m) 124 1 0 := ⟨_, rfl⟩
    have m1 : ∀ x, 464 ≤ x → M1 x = M x := fun x hx => by rw [eM, mst_fn (by omega), hcp_out b2.2.1 (by omega)]
    exact PR_v (M1 := M1) (p1 := p) (x := nI m) (fun o => by have z := s_X9_restore (M := M) (r := (p, o)) hf b2.2.1 hm (rel_flg b1 b2) s1; rw [eM]; exact z) (fun o => by have z := s_X10_restore (M := M1) (r := (p, o)) hf (n := n); rw [show aRs M1 n = (M1 467 0, mst (cpR (mst M1 464 9 0) 467 0 465 0 140) 464 6 0) from by unfold aRs; rw [if_neg (by rw [m1 464 (by omega)]; exact s2)]] at z; exact z) (by rw [m1 467 (by omega)]; exact b2.1.symm) (by rw [mst_ne2 (by decide), cpR_ne (by decide), mst_eq]) (rel_rs h b1 b2 eM)
end P53
