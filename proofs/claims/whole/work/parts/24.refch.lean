/-- 140 numbers of the array a from p on, laid into c from q on: the first j of them -/
def cpR (M : MM) (a p c q j : Nat) : MM := fun x y => if x = c ∧ q ≤ y ∧ y < q + j then M a (p + (y - q)) else M x y
theorem cpR_0 {M : MM} {a p c q : Nat} : cpR M a p c q 0 = M := by
  funext x y
  rw [cpR, if_neg (by omega)]
theorem cpR_s {M : MM} {a p c q j : Nat} (h : a ≠ c) : mst (cpR M a p c q j) c (q + j) (cpR M a p c q j a (p + j)) = cpR M a p c q (j + 1) := by
  funext x y
  by_cases h1 : x = c ∧ y = q + j
  · obtain ⟨rfl, rfl⟩ := h1
    rw [mst_eq, cpR, cpR, if_neg (fun z => h z.1), if_pos ⟨rfl, by omega, by omega⟩]
    congr 1
    omega
  · rw [mst_ne (by omega), cpR, cpR]
    by_cases h2 : x = c ∧ q ≤ y ∧ y < q + j
    · rw [if_pos h2, if_pos (by omega)]
    · rw [if_neg h2, if_neg (by omega)]
theorem cpR_ne {M : MM} {a p c q j x y : Nat} (h : x ≠ c) : cpR M a p c q j x y = M x y := if_neg (fun z => h z.1)
section P24
variable {M : MM} {r : MR}
theorem L_X10_copies {l : Launch} (hf : l.stackTraces = false) {a c p q : Nat} (ha : sK a = 12) (hc : sK c = 12) (hac : a ≠ c) (hp1 : p + 140 ≤ sL a) (hq1 : q + 140 ≤ sL c) (hl1 : sL a ≤ 1120) (hl2 : sL c ≤ 1120) : ∀ (j i : Nat), i + j = 140 → Q_X10_copies l (VR none (hp (cpR M a p c q 140) r)) 3 (L9 (some (.ref a)) (some (.int (nI p))) (some (.ref c)) (some (.int (nI q))) (some (.int (nI i))) none none none none) [] (hp (cpR M a p c q i) r) := by
  intro j
  induction j with
  | zero =>
    intro i hi
    have hin : 140 = i := by omega
    subst hin
    refine R_iload dX10_copies_3 (by decide) rfl ?_
    refine R_sipush (v := 140) dX10_copies_5 (by decide) ?_
    refine R_icmp_ge_t (tgt := 29) dX10_copies_8 rfl (nI_le (a := 140) (by omega) (by omega)) ?_
    refine R_vret dX10_copies_29 (Nat.le_of_ble_eq_true rfl) (Nat.le_of_ble_eq_true rfl) ?_
    exact ⟨rfl, rfl⟩
  | succ j ih =>
    intro i hi
    have hi1 : i < 140 := by omega
    refine R_iload dX10_copies_3 (by decide) rfl ?_
    refine R_sipush (v := 140) dX10_copies_5 (by decide) ?_
    refine R_icmp_ge_f (tgt := 29) dX10_copies_8 rfl (nI_ge (b := 140) (by omega) (by omega)) ?_
    refine R_aload_n dX10_copies_11 rfl rfl ?_
    refine R_iload_n dX10_copies_12 rfl rfl ?_
    refine R_iload dX10_copies_13 (by decide) rfl ?_
    refine R_iadd dX10_copies_15 ?_
    rw [nI_add2]
    refine R_aload_n dX10_copies_16 rfl rfl ?_
    refine R_iload_n dX10_copies_17 rfl rfl ?_
    refine R_iload dX10_copies_18 (by decide) rfl ?_
    refine R_iadd dX10_copies_20 ?_
    rw [nI_add2]
    refine G_iald dX10_copies_21 (by first | exact rfl | assumption) (nI_in (by omega) (by omega)) ?_
    refine G_iast dX10_copies_22 (by first | exact rfl | assumption) (nI_in (by omega) (by omega)) ?_
    rw [nI_cl (by omega), nI_cl (by omega), cpR_s hac]
    first | refine R_iincN dX10_copies_23 (by decide) rfl (by decide) (st4 rfl) ?_ | refine R_iinc1 dX10_copies_23 (by decide) rfl (by decide) (st4 rfl) ?_
    refine R_goto (tgt := 3) dX10_copies_26 rfl ?_
    have h9 := ih (i + 1) (by omega)
    exact h9
theorem s_X10_copies {l : Launch} (hf : l.stackTraces = false) {a c p q : Nat} (ha : sK a = 12) (hc : sK c = 12) (hac : a ≠ c) (hp1 : p + 140 ≤ sL a) (hq1 : q + 140 ≤ sL c) (hl1 : sL a ≤ 1120) (hl2 : sL c ≤ 1120) : V_X10_copies l [.ref a, .int (nI p), .ref c, .int (nI q)] (hp M r) (VR none (hp (cpR M a p c q 140) r)) := by
  refine VM.intro (lf := L9 (some (.ref a)) (some (.int (nI p))) (some (.ref c)) (some (.int (nI q))) none none none none none) (by decide +kernel) hf (fun _ => (Nat.le_of_ble_eq_true rfl)) (fun _ => rfl) ?_
  refine R_iconst (v := 0) dX10_copies_0 (by decide) ?_
  refine R_istore dX10_copies_1 (by decide) (st4 rfl) ?_
  have h9 := L_X10_copies (M := M) (r := r) hf ha hc hac hp1 hq1 hl1 hl2 140 0 (by omega)
  rw [cpR_0, nI_0] at h9
  exact h9
end P24
