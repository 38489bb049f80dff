theorem arrV_cg {c : ClassId} {N : Nat} {f g : Nat → Value} (h : ∀ j, j < N → f j = g j) : arrV c N f = arrV c N g := by
  have e : (fun j : Fin N => f j.val) = fun j => g j.val := funext fun j => h j.val j.isLt
  unfold arrV
  rw [e]
theorem ws_some {θ : Nat → Nat} {dA : Nat → ClassId} {h : HP} {k : Nat} {q : Nat × va_E} (hq : (wsH θ dA h)[k]? = some q) : k < h.1 ∧ q = (θ k, cvE θ dA (h.2 k)) := by
  by_cases hk : k < h.1
  · rw [ws_at θ dA hk] at hq
    exact ⟨hk, (Option.some.inj hq).symm⟩
  · rw [List.getElem?_eq_none (by simpa [wsH] using hk)] at hq
    cases hq
/-- the built system, as the walks know it -/
theorem R_conv {l : Launch} {own : String} {cc : ByteArray} {nL d mc ms : Nat} {G : GT} {pc : Nat} {lf : Nat → Option Value} {st : List Value} {ce sl : Nat} {E : Nat → vE} (hE : ∀ a, a < 475 → E a = FN0 a) (k : Q l own cc nL d mc ms G pc lf st (hp M0 r0) ce sl) : Q l own cc nL d mc ms G pc lf st (475, E) ce sl := by
  intro p e R s m args below meth c D dA θ A QQ H locs ls cx g wd hl
  refine k p e R s m args below meth c D dA θ A QQ H locs ls cx g ⟨wd.1, fun i q hq => ?_, ⟨fun i j q r hi hj he => ?_, fun i q hq => ?_⟩, wd.2.2.2⟩ hl
  · obtain ⟨h1, rfl⟩ := ws_some hq
    have h1 : i < 475 := h1
    have h2 := wd.2.1 i _ (ws_at θ dA (h := (475, E)) h1)
    dsimp only at h2
    rw [hE i h1] at h2
    show va_at D CLs (θ i, cvE θ dA (cellK (sK i) i M0 r0)) H
    unfold FN0 at h2
    generalize sK i = c9 at h2 ⊢
    match c9, h2 with
    | 13, h2 =>
      refine Eq.trans h2 (congrArg some ?_)
      show arrV (dA 2) 12 (fun j => va_rf (((if j < 12 then some (i + 4 + 3 * j) else none) : Option Nat).map θ)) = arrV (dA 2) 12 (fun j => va_rf ((some (i + 4 + 3 * j) : Option Nat).map θ))
      exact arrV_cg fun j hj => by rw [if_pos hj]
    | 14, h2 =>
      refine Eq.trans h2 (congrArg some ?_)
      show arrV (dA 3) 8 (fun j => va_rf (((if j < 8 then some (126 + 41 * j) else none) : Option Nat).map θ)) = arrV (dA 3) 8 (fun j => va_rf ((some (126 + 41 * j) : Option Nat).map θ))
      exact arrV_cg fun j hj => by rw [if_pos hj]
    | 0, h2 | 1, h2 | 2, h2 | 3, h2 | 4, h2 | 5, h2 | 6, h2 | 7, h2 | 8, h2 | 9, h2 | 10, h2 | 11, h2 | 12, h2 | _ + 15, h2 => exact h2
  · obtain ⟨h1, rfl⟩ := ws_some hi
    obtain ⟨h2, rfl⟩ := ws_some hj
    exact wd.2.2.1.1 i j _ _ (ws_at θ dA (h := (475, E)) h1) (ws_at θ dA (h := (475, E)) h2) he
  · obtain ⟨h1, rfl⟩ := ws_some hq
    exact wd.2.2.1.2 i (θ i, cvE θ dA (E i)) (ws_at θ dA (h := (475, E)) h1)
theorem M0_z {a : Nat} (h1 : a ≠ 460) (h2 : a ≠ 464) : M0 a = fun _ => 0 := funext fun k => M0_0 h1 h2 k
theorem REL_0 : REL M0 r0.1 := by
  have z : ∀ {a}, a ≠ 460 → a ≠ 464 → ∀ k, M0 a k = 0 := fun h1 h2 k => M0_0 h1 h2 k
  refine ⟨⟨fun k hk => ⟨isH_k hk, by show 126 ≤ 126 + 41 * k; omega⟩, fun i j _ _ e => ?_⟩, ⟨0, ⟨fun j _ => ?_, fun k hk => absurd hk (by omega)⟩, ?_, by omega, ⟨0, by omega, ?_⟩, ⟨0, by omega, ?_⟩, fun k hk => absurd hk (by omega)⟩, ⟨0, by omega, rfl, rfl, fun j hj => absurd hj (by omega)⟩, Or.inl ⟨rfl, rfl⟩, ⟨Or.inl ⟨rfl, rfl⟩, rfl, rfl⟩, ⟨⟨0, by omega, rfl, rfl⟩, fun k => ?_, ?_, rfl⟩, ⟨0, by omega, rfl, rfl, fun j hj => absurd hj (by omega), fun j => ?_, fun j => ?_⟩⟩
  · have e : 126 + 41 * i = 126 + 41 * j := e
    omega
  · rw [z (by decide) (by decide), z (by decide) (by decide)]
  · rfl
  · rfl
  · rfl
  · rw [z (by decide) (by decide)]; rfl
  · rw [M0_z (by decide) (by decide), M0_z (by decide) (by decide)]
  · rw [z (by decide) (by decide)]; rfl
  · rw [z (by decide) (by decide)]; rfl
theorem cO5 {N : Nat} : cO N (some (.ref 475)) := Or.inr rfl
theorem law_start {l : Launch} {b L : Nat} {xs : Nat → Int32} (hf : l.stackTraces = false) (hL : L ≤ 2048) {E : Nat → vE} : Q l RL cL_law 9 19 RC9 RS9 (GW b L xs) 0 (L9 (some (.ref 475)) none none none none none none none none) [] (0, E) 0 0 := by
  have zc := RC9_lo
  have zs := RS9_lo
  have hC : CLO 0 E := fun a ha => absurd ha (by omega)
  refine R_new cok9 kl_L_8 kn_X9 wi_X9 kd_X9 (fun _ => rfl) dL_law_0 (GW_ext) hC (cLf9 cO5 trivial trivial trivial trivial trivial trivial trivial trivial) trivial (by omega) (by omega) (by omega) ?_
  have hC := CLO_new (x := .inr (9, [.null, .null, .null, .null, .null, .null, .null, .null, .null, .int 0])) hC ⟨trivial, trivial, trivial, trivial, trivial, trivial, trivial, trivial, trivial, trivial, trivial⟩
  refine R_dup dL_law_3 rfl ?_
  refine R_callI (As := []) ki_L_141 (k_X9_init hf hC (by rw [nE_eq (by omega)])) dL_law_4 (by omega) (by omega) (by omega) rfl rfl (Nat.le_of_ble_eq_true rfl) (GW_ext) (cLf9 cO5 trivial trivial trivial trivial trivial trivial trivial trivial) ⟨cVr (by omega), trivial⟩ (fun h1 hz => ?_)
  obtain ⟨N1, E1⟩ := h1
  obtain ⟨e1, hC1, hlo1, hhi1⟩ := hz
  dsimp only at e1 hC1 hlo1 hhi1
  subst e1
  have hC : CLO (464) E1 := hC1
  refine R_astore_n dL_law_7 rfl (by decide) (st1 rfl) ?_
  refine R_new cok10 kl_L_142 kn_X10 wi_X10 kd_X10 (fun _ => rfl) dL_law_8 (GW_ext) hC (cLf9 cO5 (cOr (by omega)) trivial trivial trivial trivial trivial trivial trivial) trivial (by omega) (by omega) (by omega) ?_
  have hC := CLO_new (x := .inr (10, [.null, .null, .null, .null, .null, .int 0, .int 0, .int 0, .int 0, .int 0, .int 0, .int 0, .int 0, .null, .int 0, .int 0, .null, .int 0, .int 0, .null, .int 0])) hC ⟨trivial, trivial, trivial, trivial, trivial, trivial, trivial, trivial, trivial, trivial, trivial, trivial, trivial, trivial, trivial, trivial, trivial, trivial, trivial, trivial, trivial, trivial⟩
  refine R_dup dL_law_11 rfl ?_
  refine R_callI (As := []) ki_L_144 (k_X10_init hf hC (by rw [nE_eq (by omega)])) dL_law_12 (by omega) (by omega) (by omega) rfl rfl (Nat.le_of_ble_eq_true rfl) (GW_ext) (cLf9 cO5 (cOr (by omega)) trivial trivial trivial trivial trivial trivial trivial) ⟨cVr (by omega), trivial⟩ (fun h1 hz => ?_)
  obtain ⟨N2, E2⟩ := h1
  obtain ⟨e2, hC2, hlo2, hhi2⟩ := hz
  dsimp only at e2 hC2 hlo2 hhi2
  subst e2
  have hC : CLO (473) E2 := hC2
  refine R_astore_n dL_law_15 rfl (by decide) (st2 rfl) ?_
  refine R_iconst (v := 1) dL_law_16 (by decide) ?_
  refine R_newa (t := 4) (N' := 1) (a0 := (1, .inr (.inl (fun _ => 0)))) (fun _ => rfl) rfl kc_long (fun _ => rfl) (fun _ => rfl) (by decide) rfl (by decide) dL_law_17 (GW_ext) hC (cLf9 cO5 (cOr (by omega)) (cOr (by omega)) trivial trivial trivial trivial trivial trivial) trivial (by omega) (by omega) (by omega) ?_
  have hC := CLO_new (x := .inl (4, (1, .inr (.inl (fun _ => 0))))) hC trivial
  refine R_astore_n dL_law_19 rfl (by decide) (st3 rfl) ?_
  refine R_iconst (v := 1) dL_law_20 (by decide) ?_
  refine R_newa (t := 5) (N' := 1) (a0 := (1, .inr (.inr (.inr (.inl (fun _ => 0)))))) (fun _ => rfl) rfl kc_double (fun _ => rfl) (fun _ => rfl) (by decide) rfl (by decide) dL_law_21 (GW_ext) hC (cLf9 cO5 (cOr (by omega)) (cOr (by omega)) (cOr (by omega)) trivial trivial trivial trivial trivial) trivial (by omega) (by omega) (by omega) ?_
  have hC := CLO_new (x := .inl (5, (1, .inr (.inr (.inr (.inl (fun _ => 0))))))) hC trivial
  refine R_astore dL_law_23 (by decide) (st4 rfl) ?_
  refine R_iconst (v := 0) dL_law_25 (by decide) ?_
  refine R_istore dL_law_26 (by decide) (st5 rfl) ?_
  refine R_conv (fun b hb => ?_) ?_
  · rcases (show b < 464 ∨ (464 ≤ b ∧ b < 473) ∨ b = 473 ∨ b = 474 by omega) with h4 | ⟨h3, h4⟩ | rfl | rfl
    · rw [nE_ne (by omega), nE_ne (by omega), hlo2 _ (by omega), nE_ne (by omega)]; exact hhi1 b (by omega) (by omega)
    · rw [nE_ne (by omega), nE_ne (by omega)]; exact hhi2 b (by omega) (by omega)
    · rw [nE_ne (by omega), nE_eq (by omega)]; rfl
    · rw [nE_eq (by omega)]; rfl
  · exact law_loop hf GW_scr GW_nc hL (fun i M p o ce sl hc hs => law_end i M p o ce sl hc hs) 512 0 M0 r0.1 r0.2 _ _ (by omega) (by omega) (by omega) (by omega) REL_0
