-- PREPARED: the words of the claim that the paper of the law gives
def R_law : String := "SmokeRacksLaw"
def lw_P (b : Addr) (xs : List Int32) (args : Array Value) (s : State) : Prop := args = #[.ref b] ∧ s.IntsAt b xs ∧ xs.length ≤ 2048 ∧ (Jvm.Cond.and given_1 narrow_1).before args s = true
/-- what a walk over the start with the record d0 says of its end, said of the start itself -/
theorem lw_closed {s t : State} {o : Outcome} {d0 : Drawn} {L : List Loc} {k n : Nat} (hd0 : s.drawn.sameBut d0 lw_cs) (hv : ∃ v, o = .returned v) (hW : (s.setDrawn d0).WarmedH t.vm) (hs : (s.setDrawn d0).sameButNew ({ t with vm := s.vm } : State) L k n) : State.butDraws s t lw_cs (fun t1 => Framed s o t1 L k n) := by
  have h2 : t.drawn = d0 := congrArg State.drawn hs.1
  refine ⟨⟨hv, hW, State.sameButNew.setDrawn hs s.drawn⟩, ?_, by decide⟩
  rw [h2]
  exact hd0
def lw_Q (_ : Array Value) (s : State) (o : Outcome) (t : State) : Prop := o = .returned (some (.int 1)) ∧ State.butDraws s t lw_cs (fun t1 => Framed s o t1 [] RC9 RS9)
def lw_Z (below : List Frame) (a : Array Value) (s : State) : State → Prop := fun t => ∃ o, t.status = .running ∧ Ended t below o ∧ lw_Q a s o t
/-- the law's own end, with 1 on the stack, nothing written that was there before, its room as the claim has it; d0: the record of draws at this point (at the entry s.drawn: begin with 'refine W.base ?_' and 'have hd0 := Drawn.sameBut.refl s.drawn lw_cs') -/
theorem lw_ret {p : Program} {l : Launch} {e : Env} {s : State} {m : MethodId} {below : List Frame} {meth : Method} {c : Code} {b : Nat} {d0 : Drawn} (hd0 : s.drawn.sameBut d0 lw_cs) (hx : p.tables.exec = Jvm.exec) (hb : c.code = code) (hr : meth.sig.returnType = ret) (hlocks : meth.locks = false) {pc : Nat} {H : Heap} {ls : Array Slot} (hdg : decode code pc = .ok (.ireturn, 1)) : W p l e room_1 (s.setDrawn d0) m #[Value.ref b] below meth c H [] RC9 RS9 (lw_Z below #[Value.ref b] s) (F0 m pc ls [.int 1]) := by
  intro T hT X
  obtain ⟨fs, hret, hrun, hended, hW, hframe⟩ := X.leave (v := some (.int 1)) (hlocks := hlocks) (fun h => by rw [hr] at h; cases h)
  have hmeth' : T.vm.method? m = some meth := X.method'
  refine ⟨T.setFrames fs, ?_, .returned (some (.int 1)), hrun, hended, rfl, lw_closed hd0 ⟨_, rfl⟩ hW hframe⟩
  jvm_step X.here [X.here.top, hx, hb, hdg, hmeth', hr, ret, narrow_b1]
  (try refine ⟨rfl, ?_⟩); (try refine ⟨rfl, ?_⟩)
  first | (intro acts; rw [hret _ acts rfl rfl rfl]) | rw [hret _ _ rfl rfl rfl]
  exact Steps.refl _
/-- what holds at the law's entry: the machine, the code, the tables' words (any of lw_tbl by 'hts w (by decide +kernel)'), the script of L ints xs at the cell b, what the Statement gives of the start (any of its parts by flat_of_before) -/
def lw_At (p : Program) (s : State) (m : MethodId) (meth : Method) (c : Code) (b L : Nat) (xs : Nat → Int32) : Prop :=
  p.tables.exec = Jvm.exec ∧ c.code = code ∧ meth.sig.returnType = ret ∧ c.maxLocals = 9 ∧ s.vm.findClass R_law = some m.cls ∧ (∀ w ∈ lw_tbl, w.before #[Value.ref b] s = true) ∧ va_X b L xs s s.heap ∧ b < s.heap.size ∧ meth.locks = false ∧ (Jvm.Cond.and given_1 narrow_1).before #[Value.ref b] s = true
/-- the machine around the law's body -/
def GW (b L : Nat) (xs : Nat → Int32) : GT := fun _ _ R s _ args below meth _ _ _ θ A QQ => (θ 475 = b ∧ va_X b L xs s s.heap ∧ b < s.heap.size ∧ ¬ A b) ∧ NCF s ∧ (∀ q, A q → s.heap.size ≤ q) ∧ R = room_1 ∧ args = #[.ref b] ∧ meth.sig.returnType = ret ∧ meth.locks = false ∧ QQ = lw_Z below #[Value.ref b] s
theorem GW_scr {b L : Nat} {xs : Nat → Int32} : SCR b L xs (GW b L xs) := fun _ _ _ _ _ _ _ _ _ _ _ _ _ _ g => g.1
theorem GW_nc {b L : Nat} {xs : Nat → Int32} : NCG (GW b L xs) := fun _ _ _ _ _ _ _ _ _ _ _ _ _ _ g => g.2.1
theorem R_lawend {l : Launch} {b L pc : Nat} {xs : Nat → Int32} {lf : Nat → Option Value} {h : HP} {ce sl : Nat} (hd : decode cL_law pc = .ok (.ireturn, 1)) (hc : ce ≤ RC9) (hs : sl ≤ RS9) : Q l RL cL_law 9 19 RC9 RS9 (GW b L xs) pc lf [.int 1] h ce sl := by
  intro p e R s m args below meth c D dA θ A QQ H locs ls cx g wd hl
  obtain ⟨-, -, g3, rfl, rfl, g6, g7, rfl⟩ := g
  exact va_forget (fun q hq => g3 _ (wd.2.2.2.2.2 q hq)) (W.widen hc hs (W.base (lw_ret (Drawn.sameBut.refl s.drawn lw_cs) cx.1 cx.2.1 g6 g7 hd)))
theorem nI_gt4 {L i : Nat} (hL : L ≤ 2048) (hi : i ≤ 2100) : nI L - 4 < nI i ↔ L < i + 4 := by
  have e : (nI L - 4).toInt = (L : Int) - 4 := by
    rw [Int32.toInt_sub, nI_toInt (by omega)]
    show ((L : Int) - 4).bmod (2 ^ 32) = _
    rw [Int.bmod_eq_of_le (by omega) (by omega)]
  rw [Int32.lt_iff_toInt_lt, e, nI_toInt (by omega)]
  omega
set_option maxRecDepth 20000 in
theorem law_tab {l : Launch} {b L : Nat} {xs : Nat → Int32} {G : GT} {M : MM} {p : Nat → Nat} {o : (Nat → Int64) × (Nat → UInt64)} {i ce sl : Nat} (hf : l.stackTraces = false) (hG : SCR b L xs G) (hN : NCG G) (hi : i + 4 ≤ L) (hL : L ≤ 2048) (hc : ce + 3 ≤ RC9) (hs : sl + 18 ≤ RS9) (h : REL M p) (K : ∀ M2 p1 o2, REL M2 p1 → Q l RL cL_law 9 19 RC9 RS9 G 2420 (LL (nI i)) [] (hp M2 (p1, o2)) (ce + 3) (sl + 18)) (x : Int32) : Q l RL cL_law 9 19 RC9 RS9 G 44 (LL (nI i)) [.int x] (hp M (p, o)) ce sl := by
  by_cases h1 : x.toInt < 0
  · exact R_tableOut (tgt := 2420) dL_law_44 (Or.inl h1) rfl (R_widen (by omega) (by omega) (K M p o h))
  by_cases h2 : 39 < x.toInt
  · exact R_tableOut (tgt := 2420) dL_law_44 (Or.inr h2) rfl (R_widen (by omega) (by omega) (K M p o h))
  obtain ⟨j, hj⟩ : ∃ j, (x.toInt - 0).toNat = j := ⟨_, rfl⟩
  have hj9 : j < 40 := by omega
  match j, hj, hj9 with
  | 0, hj, _ => exact R_tableIn (off := 176) (tgt := 220) dL_law_44 h1 h2 (by rw [hj]; rfl) rfl (lc_fish hf hG hN hi hL hc hs h K)
  | 1, hj, _ => exact R_tableIn (off := 232) (tgt := 276) dL_law_44 h1 h2 (by rw [hj]; rfl) rfl (lc_brine hf hG hN hi hL hc hs h K)
  | 2, hj, _ => exact R_tableIn (off := 288) (tgt := 332) dL_law_44 h1 h2 (by rw [hj]; rfl) rfl (lc_out hf hG hN hi hL hc hs h K)
  | 3, hj, _ => exact R_tableIn (off := 344) (tgt := 388) dL_law_44 h1 h2 (by rw [hj]; rfl) rfl (lc_hang hf hG hN hi hL hc hs h K)
  | 4, hj, _ => exact R_tableIn (off := 424) (tgt := 468) dL_law_44 h1 h2 (by rw [hj]; rfl) rfl (lc_turn hf hG hN hi hL hc hs h K)
  | 5, hj, _ => exact R_tableIn (off := 480) (tgt := 524) dL_law_44 h1 h2 (by rw [hj]; rfl) rfl (lc_turnAll hf hG hN hi hL hc hs h K)
  | 6, hj, _ => exact R_tableIn (off := 536) (tgt := 580) dL_law_44 h1 h2 (by rw [hj]; rfl) rfl (lc_logs hf hG hN hi hL hc hs h K)
  | 7, hj, _ => exact R_tableIn (off := 592) (tgt := 636) dL_law_44 h1 h2 (by rw [hj]; rfl) rfl (lc_wood hf hG hN hi hL hc hs h K)
  | 8, hj, _ => exact R_tableIn (off := 648) (tgt := 692) dL_law_44 h1 h2 (by rw [hj]; rfl) rfl (lc_day hf hG hN hi hL hc hs h K)
  | 9, hj, _ => exact R_tableIn (off := 692) (tgt := 736) dL_law_44 h1 h2 (by rw [hj]; rfl) rfl (lc_hours hf hG hN hi hL hc hs h K)
  | 10, hj, _ => exact R_tableIn (off := 748) (tgt := 792) dL_law_44 h1 h2 (by rw [hj]; rfl) rfl (lc_sell hf hG hN hi hL hc hs h K)
  | 11, hj, _ => exact R_tableIn (off := 804) (tgt := 848) dL_law_44 h1 h2 (by rw [hj]; rfl) rfl (lc_throwAway hf hG hN hi hL hc hs h K)
  | 12, hj, _ => exact R_tableIn (off := 860) (tgt := 904) dL_law_44 h1 h2 (by rw [hj]; rfl) rfl (lc_fishOf hf hG hN hi hL hc hs h K)
  | 13, hj, _ => exact R_tableIn (off := 928) (tgt := 972) dL_law_44 h1 h2 (by rw [hj]; rfl) rfl (lc_sideOf hf hG hN hi hL hc hs h K)
  | 14, hj, _ => exact R_tableIn (off := 1024) (tgt := 1068) dL_law_44 h1 h2 (by rw [hj]; rfl) rfl (lc_at hf hG hN hi hL hc hs h K)
  | 15, hj, _ => exact R_tableIn (off := 1092) (tgt := 1136) dL_law_44 h1 h2 (by rw [hj]; rfl) rfl (lc_heat hf hG hN hi hL hc hs h K)
  | 16, hj, _ => exact R_tableIn (off := 1148) (tgt := 1192) dL_law_44 h1 h2 (by rw [hj]; rfl) rfl (lc_nearest hf hG hN hi hL hc hs h K)
  | 17, hj, _ => exact R_tableIn (off := 1204) (tgt := 1248) dL_law_44 h1 h2 (by rw [hj]; rfl) rfl (lc_isCrowded hf hG hN hi hL hc hs h K)
  | 18, hj, _ => exact R_tableIn (off := 1267) (tgt := 1311) dL_law_44 h1 h2 (by rw [hj]; rfl) rfl (lc_isDone hf hG hN hi hL hc hs h K)
  | 19, hj, _ => exact R_tableIn (off := 1330) (tgt := 1374) dL_law_44 h1 h2 (by rw [hj]; rfl) rfl (lc_wouldChar hf hG hN hi hL hc hs h K)
  | 20, hj, _ => exact R_tableIn (off := 1398) (tgt := 1442) dL_law_44 h1 h2 (by rw [hj]; rfl) rfl (lc_wouldCharAgain hf hG hN hi hL hc hs h K)
  | 21, hj, _ => exact R_tableIn (off := 1466) (tgt := 1510) dL_law_44 h1 h2 (by rw [hj]; rfl) rfl (lc_burnsIn hf hG hN hi hL hc hs h K)
  | 22, hj, _ => exact R_tableIn (off := 1522) (tgt := 1566) dL_law_44 h1 h2 (by rw [hj]; rfl) rfl (lc_doneIn hf hG hN hi hL hc hs h K)
  | 23, hj, _ => exact R_tableIn (off := 1578) (tgt := 1622) dL_law_44 h1 h2 (by rw [hj]; rfl) rfl (lc_hottest hf hG hN hi hL hc hs h K)
  | 24, hj, _ => exact R_tableIn (off := 1622) (tgt := 1666) dL_law_44 h1 h2 (by rw [hj]; rfl) rfl (lc_bestHook hf hG hN hi hL hc hs h K)
  | 25, hj, _ => exact R_tableIn (off := 1690) (tgt := 1734) dL_law_44 h1 h2 (by rw [hj]; rfl) rfl (lc_crowded hf hG hN hi hL hc hs h K)
  | 26, hj, _ => exact R_tableIn (off := 1703) (tgt := 1747) dL_law_44 h1 h2 (by rw [hj]; rfl) rfl (lc_ranked hf hG hN hi hL hc hs h K)
  | 27, hj, _ => exact R_tableIn (off := 1771) (tgt := 1815) dL_law_44 h1 h2 (by rw [hj]; rfl) rfl (lc_append hf hG hN hi hL hc hs h K)
  | 28, hj, _ => exact R_tableIn (off := 1829) (tgt := 1873) dL_law_44 h1 h2 (by rw [hj]; rfl) rfl (lc_commands hf hG hN hi hL hc hs h K)
  | 29, hj, _ => exact R_tableIn (off := 1873) (tgt := 1917) dL_law_44 h1 h2 (by rw [hj]; rfl) rfl (lc_faultPosition hf hG hN hi hL hc hs h K)
  | 30, hj, _ => exact R_tableIn (off := 1886) (tgt := 1930) dL_law_44 h1 h2 (by rw [hj]; rfl) rfl (lc_reason hf hG hN hi hL hc hs h K)
  | 31, hj, _ => exact R_tableIn (off := 1942) (tgt := 1986) dL_law_44 h1 h2 (by rw [hj]; rfl) rfl (lc_rack hf hG hN hi hL hc hs h K)
  | 32, hj, _ => exact R_tableIn (off := 1998) (tgt := 2042) dL_law_44 h1 h2 (by rw [hj]; rfl) rfl (lc_line hf hG hN hi hL hc hs h K)
  | 33, hj, _ => exact R_tableIn (off := 2054) (tgt := 2098) dL_law_44 h1 h2 (by rw [hj]; rfl) rfl (lc_character hf hG hN hi hL hc hs h K)
  | 34, hj, _ => exact R_tableIn (off := 2110) (tgt := 2154) dL_law_44 h1 h2 (by rw [hj]; rfl) rfl (lc_meanSmoke hf hG hN hi hL hc hs h K)
  | 35, hj, _ => exact R_tableIn (off := 2154) (tgt := 2198) dL_law_44 h1 h2 (by rw [hj]; rfl) rfl (lc_burntShare hf hG hN hi hL hc hs h K)
  | 36, hj, _ => exact R_tableIn (off := 2219) (tgt := 2263) dL_law_44 h1 h2 (by rw [hj]; rfl) rfl (lc_account hf hG hN hi hL hc hs h K)
  | 37, hj, _ => exact R_tableIn (off := 2275) (tgt := 2319) dL_law_44 h1 h2 (by rw [hj]; rfl) rfl (lc_undo hf hG hN hi hL hc hs h K)
  | 38, hj, _ => exact R_tableIn (off := 2319) (tgt := 2363) dL_law_44 h1 h2 (by rw [hj]; rfl) rfl (lc_save hf hG hN hi hL hc hs h K)
  | 39, hj, _ => exact R_tableIn (off := 2332) (tgt := 2376) dL_law_44 h1 h2 (by rw [hj]; rfl) rfl (lc_restore hf hG hN hi hL hc hs h K)
  | n + 40, _, hn => omega
theorem law_loop {l : Launch} {b L : Nat} {xs : Nat → Int32} {G : GT} (hf : l.stackTraces = false) (hG : SCR b L xs G) (hN : NCG G) (hL : L ≤ 2048)
    (KE : ∀ i M p o ce sl, ce ≤ RC9 → sl ≤ RS9 → Q l RL cL_law 9 19 RC9 RS9 G 2426 (LL i) [] (hp M (p, o)) ce sl) :
    ∀ (f i : Nat) (M : MM) (p : Nat → Nat) (o : (Nat → Int64) × (Nat → UInt64)) (ce sl : Nat), L < i + 4 + 4 * f → i ≤ 2052 → ce + 3 * f ≤ RC9 → sl + 18 * f ≤ RS9 → REL M p → Q l RL cL_law 9 19 RC9 RS9 G 28 (LL (nI i)) [] (hp M (p, o)) ce sl := by
  intro f
  induction f with
  | zero =>
    intro i M p o ce sl h1 h2 h3 h4 hR
    refine R_iload (i := 5) dL_law_28 (by decide) rfl ?_
    refine R_aload_n (i := 0) dL_law_30 rfl rfl ?_
    refine R_slen hG dL_law_31 ?_
    refine R_iconst (v := 4) dL_law_32 rfl ?_
    refine R_isub dL_law_33 ?_
    exact R_icmp_gt_t (tgt := 2426) dL_law_34 rfl ((nI_gt4 hL (by omega)).mpr (by omega)) (KE _ _ _ _ _ _ (by omega) (by omega))
  | succ f ih =>
    intro i M p o ce sl h1 h2 h3 h4 hR
    refine R_iload (i := 5) dL_law_28 (by decide) rfl ?_
    refine R_aload_n (i := 0) dL_law_30 rfl rfl ?_
    refine R_slen hG dL_law_31 ?_
    refine R_iconst (v := 4) dL_law_32 rfl ?_
    refine R_isub dL_law_33 ?_
    refine R_icmp_gt (tgt := 2426) dL_law_34 rfl (fun _ => KE _ _ _ _ _ _ (by omega) (by omega)) (fun hq => ?_)
    have hi4 : i + 4 ≤ L := by
      refine Nat.not_lt.mp fun z => hq ((nI_gt4 hL (by omega)).mpr (by omega))
    refine R_aload_n (i := 0) dL_law_37 rfl rfl ?_
    refine R_iload (i := 5) dL_law_38 (by decide) rfl ?_
    refine R_sld hG dL_law_40 (vx_ix0 i hi4 hL) ?_
    refine R_bipush (v := 63) dL_law_41 rfl ?_
    refine R_iand dL_law_43 ?_
    refine law_tab hf hG hN hi4 hL (by omega) (by omega) hR (fun M2 p1 o2 hR2 => ?_) _
    refine R_iinc (i := 5) (v := nI (i + 4)) dL_law_2420 (by decide) rfl (nI_add2 i 4) (by decide) (st5 rfl) ?_
    refine R_goto (tgt := 28) dL_law_2423 rfl ?_
    exact ih (i + 4) M2 p1 o2 (ce + 3) (sl + 18) (by omega) (by omega) (by omega) (by omega) hR2
theorem law_end {l : Launch} {b L : Nat} {xs : Nat → Int32} (i : Int32) (M : MM) (p : Nat → Nat) (o : (Nat → Int64) × (Nat → UInt64)) (ce sl : Nat) (hc : ce ≤ RC9) (hs : sl ≤ RS9) : Q l RL cL_law 9 19 RC9 RS9 (GW b L xs) 2426 (LL i) [] (hp M (p, o)) ce sl :=
  R_iconst (v := 1) dL_law_2426 rfl (R_lawend dL_law_2427 hc hs)
