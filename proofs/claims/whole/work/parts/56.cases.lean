/-- a static method with a table of handlers -/
def CWL (own : String) (idx : Nat) (y : MethodName) (bytes : ByteArray) (maxL : Nat) (hh : HHT) (n : Nat) : Prop :=
  .methodLink own idx y ∈ TG ∧ .static y ∈ TG ∧ .initialized y.cls ∈ TG ∧ .codeWith y bytes maxL (some .int) hh ∈ TG ∧ (y.cls ≠ "java/lang/invoke/MethodHandle" ∧ y.cls ≠ "java/lang/invoke/VarHandle" ∧ (parseMethodDescriptor y.desc).map (fun d => d.parameters.length) = some n) ∧ maxL ≤ 40
section R56
variable {l : Launch} {own : String} {cc : ByteArray} {nL d mc ms : Nat} {G : GT} {pc : Nat} {lf lf' : Nat → Option Value} {st : List Value} {h : HP} {ce sl : Nat} {hh : HHT}
theorem R_callL {y : MethodName} {bytes : ByteArray} {maxL idx d' mc' ms' n : Nat} {As : List Value} {stk : List Value} {Z : Option Value ⊕ String → HP → Prop}
    (cw : CWL own idx y bytes maxL hh n) (hM : VL l y bytes maxL hh d' mc' ms' As h Z) (hnc : ∀ p e R s m args below meth c D dA θ A QQ, G p e R s m args below meth c D dA θ A QQ → NCF s) (hd : decode cc pc = .ok (.invokestatic idx, 3))
    (hdd : d' + 1 ≤ d) (hmc : ce + mc' ≤ mc) (hms : sl + ms' ≤ ms) (hn : As.length = n) (hstk : stk = As.reverse ++ st) (hcat : (st.map fun v => v.category).sum ≤ 8)
    (kk : ∀ v h1, Z (.inl v) h1 → Q l own cc nL d mc ms G (pc + 3) lf (v.toList ++ st) h1 (ce + mc') (sl + ms'))
    (kx : ∀ E h1, Z (.inr E) h1 → QX l own cc nL d mc ms G E pc lf st h1 (ce + mc') (sl + ms')) : Q l own cc nL d mc ms G pc lf stk h ce sl := by
  subst hstk
  intro p e R s m args below meth c D dA θ A QQ H locs ls cx g wd hl
  obtain ⟨w1, w2, w4, w5, w6, w7⟩ := cw
  obtain ⟨x1, x2, x3, x4, x5, x6, ⟨x7, x8, x9, x10⟩, x11, x12, x13, x14, x15, x16⟩ := id cx
  have hG : GoodIn TG (va_wsS own idx y (.codeWith y bytes maxL (some .int) hh :: TG)) := TG_in fun w hw => by
    rcases List.mem_append.mp hw with hw | hw
    · simp only [List.mem_cons, List.not_mem_nil, or_false] at hw
      rcases hw with rfl | rfl | rfl <;> assumption
    · rcases List.mem_cons.mp hw with rfl | hw
      · exact w5
      · exact hw
  have hcw := vx_cwSW (R := R) (s := s) (args := args) (own := own) (index := idx) (y := y) (bytes := bytes) (maxL := maxL) (ret := some .int) (hh := hh) (rm := rmD d' mc' ms') (mc := mc') (ms := ms') n x5 hG rfl rfl rfl w6 ⟨by show d' + 1 ≤ R.frames; omega, by show 8 + (maxL + 11) + 64 * d' ≤ R.locals; omega⟩
  have nc := hnc _ _ _ _ _ _ _ _ _ _ _ _ _ _ g
  have hbl : FrameBlind (va_Pc (As.map (cvV θ)) (BL D dA θ h H.size)) := by
    rintro a U g9 mk ⟨q0, q1, q2⟩
    have q3 := BM_blind (D := D) (dA := dA) (θ := θ) (h := h) (As := As.map (cvV θ)) (sz := H.size) a U g9 mk ⟨q0, q1⟩
    exact ⟨q0, q3.2, q2.moved (u := U) (U := U.calling g9 mk a) (Vm.Alike.refl U.vm)⟩
  refine R_after (a9 := (As.map (cvV θ)).toArray) cx g wd hl ?_ kk kx
  exact vx_runSX (As := As.map (cvV θ)) ⟨x1, x2, x3, x4, x5⟩ (hM D dA θ H.size) hcw ⟨hbl, fun U hU hW => ⟨rfl, BM_of cx wd hU hW, nc.moved hW.alike⟩⟩ rfl (by rw [List.length_map]; exact hn) hl.1 (by simp) (by show 2 * 0 + _ ≤ 8; rw [cat_sum]; omega) hd ⟨by omega, by omega⟩
/-- the script: a row of the start, at the number 475 -/
def SCR (b L : Nat) (xs : Nat → Int32) (G : GT) : Prop := ∀ p e R s m args below meth c D dA θ A QQ, G p e R s m args below meth c D dA θ A QQ → θ 475 = b ∧ va_X b L xs s s.heap ∧ b < s.heap.size ∧ ¬ A b
theorem R_sld {b L : Nat} {xs : Nat → Int32} {i : Int32} (hG : SCR b L xs G) (hd : decode cc pc = .ok (.iaload, 1)) (hi : vp_in i L) (kk : Q l own cc nL d mc ms G (pc + 1) lf (.int (xs i.toNatClampNeg) :: st) h ce sl) : Q l own cc nL d mc ms G pc lf (.int i :: .ref 475 :: st) h ce sl := by
  intro p e R s m args below meth c D dA θ A QQ H locs ls cx g wd hl
  obtain ⟨g1, g2, g3, g4⟩ := hG _ _ _ _ _ _ _ _ _ _ _ _ _ _ g
  subst g1
  exact va_sld cx.1 cx.2.1 g2 g3 g4 wd.2.2.2 hi hd (kk p e R s m args below meth c D dA θ A QQ H locs ls cx g wd hl)
theorem R_slen {b L : Nat} {xs : Nat → Int32} (hG : SCR b L xs G) (hd : decode cc pc = .ok (.arraylength, 1)) (kk : Q l own cc nL d mc ms G (pc + 1) lf (.int (nI L) :: st) h ce sl) : Q l own cc nL d mc ms G pc lf (.ref 475 :: st) h ce sl := by
  intro p e R s m args below meth c D dA θ A QQ H locs ls cx g wd hl
  obtain ⟨g1, g2, g3, g4⟩ := hG _ _ _ _ _ _ _ _ _ _ _ _ _ _ g
  subst g1
  exact va_slen cx.1 cx.2.1 g2 g3 g4 wd.2.2.2 hd (kk p e R s m args below meth c D dA θ A QQ H locs ls cx g wd hl)
end R56
abbrev LL (i : Int32) : Nat → Option Value := L9 (some (.ref 475)) (some (.ref 0)) (some (.ref 464)) (some (.ref 473)) (some (.ref 474)) (some (.int i)) none none none
abbrev NCG (G : GT) : Prop := ∀ p e R s m args below meth c D dA θ A QQ, G p e R s m args below meth c D dA θ A QQ → NCF s
theorem lg_self (x : Int64) : lg_cmp x x = 0 := by unfold lg_cmp; simp
theorem vu_0 (f : Nat → Int64) (x : Int64) : vp_updL f 0 x 0 = x := if_pos rfl
theorem vd_0 (f : Nat → UInt64) (x : UInt64) : vf_upd f 0 x 0 = x := if_pos rfl
theorem vx_ix0 (i : Nat) {L : Nat} (hi : i + 4 ≤ L) (hL : L ≤ 2048) : vp_in (nI i) L := nI_in (by omega) (by omega)
theorem vx_ix1 (i : Nat) {L : Nat} (hi : i + 4 ≤ L) (hL : L ≤ 2048) : vp_in (nI i + 1) L := by rw [show nI i + 1 = nI (i + 1) from nI_add2 i 1]; exact nI_in (by omega) (by omega)
theorem vx_ix2 (i : Nat) {L : Nat} (hi : i + 4 ≤ L) (hL : L ≤ 2048) : vp_in (nI i + 2) L := by rw [show nI i + 2 = nI (i + 2) from nI_add2 i 2]; exact nI_in (by omega) (by omega)
theorem vx_ix3 (i : Nat) {L : Nat} (hi : i + 4 ≤ L) (hL : L ≤ 2048) : vp_in (nI i + 3) L := by rw [show nI i + 3 = nI (i + 3) from nI_add2 i 3]; exact nI_in (by omega) (by omega)
theorem nI_n0 {k : Nat} (h : k ≤ 2) (h0 : ¬ k = 0) : ¬ nI k = 0 := by
  have : ∀ k, k < 3 → ¬ k = 0 → ¬ nI k = 0 := by decide +kernel
  exact this k (by omega) h0
theorem cx_145 : CWL RL 145 yL_fish cL_fish 4 hhL_fish 3 := ⟨tg (List.mem_of_getElem? (i := 413) (by decide +kernel)) (by decide +kernel), tg (List.mem_of_getElem? (i := 414) (by decide +kernel)) (by decide +kernel), wi_L, tg (List.mem_of_getElem? (i := 415) (by decide +kernel)) (by decide +kernel), by decide +kernel, by decide⟩
theorem cx_154 : CWL RL 154 yL_brine cL_brine 4 hhL_brine 3 := ⟨tg (List.mem_of_getElem? (i := 523) (by decide +kernel)) (by decide +kernel), tg (List.mem_of_getElem? (i := 524) (by decide +kernel)) (by decide +kernel), wi_L, tg (List.mem_of_getElem? (i := 525) (by decide +kernel)) (by decide +kernel), by decide +kernel, by decide⟩
theorem cx_157 : CWL RL 157 yL_out cL_out 4 hhL_out 3 := ⟨tg (List.mem_of_getElem? (i := 544) (by decide +kernel)) (by decide +kernel), tg (List.mem_of_getElem? (i := 545) (by decide +kernel)) (by decide +kernel), wi_L, tg (List.mem_of_getElem? (i := 546) (by decide +kernel)) (by decide +kernel), by decide +kernel, by decide⟩
theorem cx_160 : CWL RL 160 yL_hang cL_hang 6 hhL_hang 5 := ⟨tg (List.mem_of_getElem? (i := 555) (by decide +kernel)) (by decide +kernel), tg (List.mem_of_getElem? (i := 556) (by decide +kernel)) (by decide +kernel), wi_L, tg (List.mem_of_getElem? (i := 557) (by decide +kernel)) (by decide +kernel), by decide +kernel, by decide⟩
theorem cx_164 : CWL RL 164 yL_turn cL_turn 4 hhL_turn 3 := ⟨tg (List.mem_of_getElem? (i := 580) (by decide +kernel)) (by decide +kernel), tg (List.mem_of_getElem? (i := 581) (by decide +kernel)) (by decide +kernel), wi_L, tg (List.mem_of_getElem? (i := 582) (by decide +kernel)) (by decide +kernel), by decide +kernel, by decide⟩
theorem cx_167 : CWL RL 167 yL_turnAll cL_turnAll 4 hhL_turnAll 3 := ⟨tg (List.mem_of_getElem? (i := 596) (by decide +kernel)) (by decide +kernel), tg (List.mem_of_getElem? (i := 597) (by decide +kernel)) (by decide +kernel), wi_L, tg (List.mem_of_getElem? (i := 598) (by decide +kernel)) (by decide +kernel), by decide +kernel, by decide⟩
theorem cx_170 : CWL RL 170 yL_logs cL_logs 4 hhL_logs 3 := ⟨tg (List.mem_of_getElem? (i := 607) (by decide +kernel)) (by decide +kernel), tg (List.mem_of_getElem? (i := 608) (by decide +kernel)) (by decide +kernel), wi_L, tg (List.mem_of_getElem? (i := 609) (by decide +kernel)) (by decide +kernel), by decide +kernel, by decide⟩
theorem cx_173 : CWL RL 173 yL_wood cL_wood 4 hhL_wood 3 := ⟨tg (List.mem_of_getElem? (i := 618) (by decide +kernel)) (by decide +kernel), tg (List.mem_of_getElem? (i := 619) (by decide +kernel)) (by decide +kernel), wi_L, tg (List.mem_of_getElem? (i := 620) (by decide +kernel)) (by decide +kernel), by decide +kernel, by decide⟩
theorem cx_176 : CWL RL 176 yL_day cL_day 3 hhL_day 2 := ⟨tg (List.mem_of_getElem? (i := 629) (by decide +kernel)) (by decide +kernel), tg (List.mem_of_getElem? (i := 630) (by decide +kernel)) (by decide +kernel), wi_L, tg (List.mem_of_getElem? (i := 631) (by decide +kernel)) (by decide +kernel), by decide +kernel, by decide⟩
theorem cx_180 : CWL RL 180 yL_hours cL_hours 4 hhL_hours 3 := ⟨tg (List.mem_of_getElem? (i := 649) (by decide +kernel)) (by decide +kernel), tg (List.mem_of_getElem? (i := 650) (by decide +kernel)) (by decide +kernel), wi_L, tg (List.mem_of_getElem? (i := 651) (by decide +kernel)) (by decide +kernel), by decide +kernel, by decide⟩
theorem cx_183 : CWL RL 183 yL_sell cL_sell 4 hhL_sell 3 := ⟨tg (List.mem_of_getElem? (i := 709) (by decide +kernel)) (by decide +kernel), tg (List.mem_of_getElem? (i := 710) (by decide +kernel)) (by decide +kernel), wi_L, tg (List.mem_of_getElem? (i := 711) (by decide +kernel)) (by decide +kernel), by decide +kernel, by decide⟩
theorem cx_186 : CWL RL 186 yL_throwAway cL_throwAway 4 hhL_throwAway 3 := ⟨tg (List.mem_of_getElem? (i := 740) (by decide +kernel)) (by decide +kernel), tg (List.mem_of_getElem? (i := 741) (by decide +kernel)) (by decide +kernel), wi_L, tg (List.mem_of_getElem? (i := 742) (by decide +kernel)) (by decide +kernel), by decide +kernel, by decide⟩
theorem cx_189 : CWL RL 189 yL_fishOf cL_fishOf 5 hhL_fishOf 4 := ⟨tg (List.mem_of_getElem? (i := 751) (by decide +kernel)) (by decide +kernel), tg (List.mem_of_getElem? (i := 752) (by decide +kernel)) (by decide +kernel), wi_L, tg (List.mem_of_getElem? (i := 753) (by decide +kernel)) (by decide +kernel), by decide +kernel, by decide⟩
theorem cx_193 : CWL RL 193 yL_sideOf cL_sideOf 6 hhL_sideOf 5 := ⟨tg (List.mem_of_getElem? (i := 833) (by decide +kernel)) (by decide +kernel), tg (List.mem_of_getElem? (i := 834) (by decide +kernel)) (by decide +kernel), wi_L, tg (List.mem_of_getElem? (i := 835) (by decide +kernel)) (by decide +kernel), by decide +kernel, by decide⟩
theorem cx_197 : CWL RL 197 yL_at cL_at 5 hhL_at 4 := ⟨tg (List.mem_of_getElem? (i := 841) (by decide +kernel)) (by decide +kernel), tg (List.mem_of_getElem? (i := 842) (by decide +kernel)) (by decide +kernel), wi_L, tg (List.mem_of_getElem? (i := 843) (by decide +kernel)) (by decide +kernel), by decide +kernel, by decide⟩
theorem cx_200 : CWL RL 200 yL_heat cL_heat 4 hhL_heat 3 := ⟨tg (List.mem_of_getElem? (i := 871) (by decide +kernel)) (by decide +kernel), tg (List.mem_of_getElem? (i := 872) (by decide +kernel)) (by decide +kernel), wi_L, tg (List.mem_of_getElem? (i := 873) (by decide +kernel)) (by decide +kernel), by decide +kernel, by decide⟩
theorem cx_203 : CWL RL 203 yL_nearest cL_nearest 4 hhL_nearest 3 := ⟨tg (List.mem_of_getElem? (i := 883) (by decide +kernel)) (by decide +kernel), tg (List.mem_of_getElem? (i := 884) (by decide +kernel)) (by decide +kernel), wi_L, tg (List.mem_of_getElem? (i := 885) (by decide +kernel)) (by decide +kernel), by decide +kernel, by decide⟩
theorem cx_206 : CWL RL 206 yL_isCrowded cL_isCrowded 4 hhL_isCrowded 3 := ⟨tg (List.mem_of_getElem? (i := 894) (by decide +kernel)) (by decide +kernel), tg (List.mem_of_getElem? (i := 895) (by decide +kernel)) (by decide +kernel), wi_L, tg (List.mem_of_getElem? (i := 896) (by decide +kernel)) (by decide +kernel), by decide +kernel, by decide⟩
theorem cx_209 : CWL RL 209 yL_isDone cL_isDone 4 hhL_isDone 3 := ⟨tg (List.mem_of_getElem? (i := 901) (by decide +kernel)) (by decide +kernel), tg (List.mem_of_getElem? (i := 902) (by decide +kernel)) (by decide +kernel), wi_L, tg (List.mem_of_getElem? (i := 903) (by decide +kernel)) (by decide +kernel), by decide +kernel, by decide⟩
theorem cx_212 : CWL RL 212 yL_wouldChar cL_wouldChar 5 hhL_wouldChar 4 := ⟨tg (List.mem_of_getElem? (i := 909) (by decide +kernel)) (by decide +kernel), tg (List.mem_of_getElem? (i := 910) (by decide +kernel)) (by decide +kernel), wi_L, tg (List.mem_of_getElem? (i := 911) (by decide +kernel)) (by decide +kernel), by decide +kernel, by decide⟩
theorem cx_215 : CWL RL 215 yL_wouldCharAgain cL_wouldCharAgain 5 hhL_wouldCharAgain 4 := ⟨tg (List.mem_of_getElem? (i := 937) (by decide +kernel)) (by decide +kernel), tg (List.mem_of_getElem? (i := 938) (by decide +kernel)) (by decide +kernel), wi_L, tg (List.mem_of_getElem? (i := 939) (by decide +kernel)) (by decide +kernel), by decide +kernel, by decide⟩
theorem cx_218 : CWL RL 218 yL_burnsIn cL_burnsIn 4 hhL_burnsIn 3 := ⟨tg (List.mem_of_getElem? (i := 952) (by decide +kernel)) (by decide +kernel), tg (List.mem_of_getElem? (i := 953) (by decide +kernel)) (by decide +kernel), wi_L, tg (List.mem_of_getElem? (i := 954) (by decide +kernel)) (by decide +kernel), by decide +kernel, by decide⟩
theorem cx_221 : CWL RL 221 yL_doneIn cL_doneIn 4 hhL_doneIn 3 := ⟨tg (List.mem_of_getElem? (i := 964) (by decide +kernel)) (by decide +kernel), tg (List.mem_of_getElem? (i := 965) (by decide +kernel)) (by decide +kernel), wi_L, tg (List.mem_of_getElem? (i := 966) (by decide +kernel)) (by decide +kernel), by decide +kernel, by decide⟩
theorem cx_224 : CWL RL 224 yL_hottest cL_hottest 3 hhL_hottest 2 := ⟨tg (List.mem_of_getElem? (i := 977) (by decide +kernel)) (by decide +kernel), tg (List.mem_of_getElem? (i := 978) (by decide +kernel)) (by decide +kernel), wi_L, tg (List.mem_of_getElem? (i := 979) (by decide +kernel)) (by decide +kernel), by decide +kernel, by decide⟩
theorem cx_227 : CWL RL 227 yL_bestHook cL_bestHook 5 hhL_bestHook 4 := ⟨tg (List.mem_of_getElem? (i := 989) (by decide +kernel)) (by decide +kernel), tg (List.mem_of_getElem? (i := 990) (by decide +kernel)) (by decide +kernel), wi_L, tg (List.mem_of_getElem? (i := 991) (by decide +kernel)) (by decide +kernel), by decide +kernel, by decide⟩
theorem cx_234 : CWL RL 234 yL_ranked cL_ranked 5 hhL_ranked 4 := ⟨tg (List.mem_of_getElem? (i := 1000) (by decide +kernel)) (by decide +kernel), tg (List.mem_of_getElem? (i := 1001) (by decide +kernel)) (by decide +kernel), wi_L, tg (List.mem_of_getElem? (i := 1002) (by decide +kernel)) (by decide +kernel), by decide +kernel, by decide⟩
theorem cx_237 : CWL RL 237 yL_append cL_append 4 hhL_append 3 := ⟨tg (List.mem_of_getElem? (i := 1020) (by decide +kernel)) (by decide +kernel), tg (List.mem_of_getElem? (i := 1021) (by decide +kernel)) (by decide +kernel), wi_L, tg (List.mem_of_getElem? (i := 1022) (by decide +kernel)) (by decide +kernel), by decide +kernel, by decide⟩
theorem cx_241 : CWL RL 241 yL_commands cL_commands 3 hhL_commands 2 := ⟨tg (List.mem_of_getElem? (i := 1047) (by decide +kernel)) (by decide +kernel), tg (List.mem_of_getElem? (i := 1048) (by decide +kernel)) (by decide +kernel), wi_L, tg (List.mem_of_getElem? (i := 1049) (by decide +kernel)) (by decide +kernel), by decide +kernel, by decide⟩
theorem cx_248 : CWL RL 248 yL_reason cL_reason 4 hhL_reason 3 := ⟨tg (List.mem_of_getElem? (i := 1112) (by decide +kernel)) (by decide +kernel), tg (List.mem_of_getElem? (i := 1113) (by decide +kernel)) (by decide +kernel), wi_L, tg (List.mem_of_getElem? (i := 1114) (by decide +kernel)) (by decide +kernel), by decide +kernel, by decide⟩
theorem cx_251 : CWL RL 251 yL_rack cL_rack 4 hhL_rack 3 := ⟨tg (List.mem_of_getElem? (i := 1123) (by decide +kernel)) (by decide +kernel), tg (List.mem_of_getElem? (i := 1124) (by decide +kernel)) (by decide +kernel), wi_L, tg (List.mem_of_getElem? (i := 1125) (by decide +kernel)) (by decide +kernel), by decide +kernel, by decide⟩
theorem cx_254 : CWL RL 254 yL_line cL_line 4 hhL_line 3 := ⟨tg (List.mem_of_getElem? (i := 1143) (by decide +kernel)) (by decide +kernel), tg (List.mem_of_getElem? (i := 1144) (by decide +kernel)) (by decide +kernel), wi_L, tg (List.mem_of_getElem? (i := 1145) (by decide +kernel)) (by decide +kernel), by decide +kernel, by decide⟩
theorem cx_257 : CWL RL 257 yL_character cL_character 4 hhL_character 3 := ⟨tg (List.mem_of_getElem? (i := 1160) (by decide +kernel)) (by decide +kernel), tg (List.mem_of_getElem? (i := 1161) (by decide +kernel)) (by decide +kernel), wi_L, tg (List.mem_of_getElem? (i := 1162) (by decide +kernel)) (by decide +kernel), by decide +kernel, by decide⟩
theorem cx_260 : CWL RL 260 yL_meanSmoke cL_meanSmoke 3 hhL_meanSmoke 2 := ⟨tg (List.mem_of_getElem? (i := 1171) (by decide +kernel)) (by decide +kernel), tg (List.mem_of_getElem? (i := 1172) (by decide +kernel)) (by decide +kernel), wi_L, tg (List.mem_of_getElem? (i := 1173) (by decide +kernel)) (by decide +kernel), by decide +kernel, by decide⟩
theorem cx_263 : CWL RL 263 yL_burntShare cL_burntShare 3 hhL_burntShare 2 := ⟨tg (List.mem_of_getElem? (i := 1205) (by decide +kernel)) (by decide +kernel), tg (List.mem_of_getElem? (i := 1206) (by decide +kernel)) (by decide +kernel), wi_L, tg (List.mem_of_getElem? (i := 1207) (by decide +kernel)) (by decide +kernel), by decide +kernel, by decide⟩
theorem cx_267 : CWL RL 267 yL_account cL_account 4 hhL_account 3 := ⟨tg (List.mem_of_getElem? (i := 1213) (by decide +kernel)) (by decide +kernel), tg (List.mem_of_getElem? (i := 1214) (by decide +kernel)) (by decide +kernel), wi_L, tg (List.mem_of_getElem? (i := 1215) (by decide +kernel)) (by decide +kernel), by decide +kernel, by decide⟩
theorem cx_270 : CWL RL 270 yL_undo cL_undo 3 hhL_undo 2 := ⟨tg (List.mem_of_getElem? (i := 1221) (by decide +kernel)) (by decide +kernel), tg (List.mem_of_getElem? (i := 1222) (by decide +kernel)) (by decide +kernel), wi_L, tg (List.mem_of_getElem? (i := 1223) (by decide +kernel)) (by decide +kernel), by decide +kernel, by decide⟩
theorem cx_277 : CWL RL 277 yL_restore cL_restore 3 hhL_restore 2 := ⟨tg (List.mem_of_getElem? (i := 1233) (by decide +kernel)) (by decide +kernel), tg (List.mem_of_getElem? (i := 1234) (by decide +kernel)) (by decide +kernel), wi_L, tg (List.mem_of_getElem? (i := 1235) (by decide +kernel)) (by decide +kernel), by decide +kernel, by decide⟩
-- the room's cells and slots, by name: a claim turned anew may print other numbers
def RC9 : Nat := room_1.cells
def RS9 : Nat := room_1.slots
theorem RC9_lo : 100000 ≤ RC9 := Nat.le_of_ble_eq_true rfl
theorem RS9_lo : 1000000 ≤ RS9 := Nat.le_of_ble_eq_true rfl
section P56
variable {l : Launch} {b L : Nat} {xs : Nat → Int32} {G : GT} {M : MM} {p : Nat → Nat} {o : (Nat → Int64) × (Nat → UInt64)} {i ce sl : Nat}
theorem N_crowded {l : Launch} (hf : l.stackTraces = false) {M : MM} {p : Nat → Nat} (h : REL M p) (o : (Nat → Int64) × (Nat → UInt64)) : ∃ (x : Int32) (M1 M2 : MM), V_X9_crowded l [.ref 0] (hp M (p, o)) (VI x (hp M1 (p, o))) ∧ V_X10_crowded l [.ref 464] (hp M1 (p, o)) (VI x (hp M2 (p, o))) ∧ REL M2 p := by
  obtain ⟨n, h1, hI⟩ := h.2.1
  have hn := hI.2.1
  have hg := hr_g h1 hI
  exact ⟨_, M, _, s_X9_crowded hf hn hg, by have z := s_X10_crowded (M := M) (r := (p, o)) hf hn hI.1; rw [← crow_eq (HR_9 h1 hn) (IV_9 hI)] at z; exact z, REL_9 h⟩
theorem N_faultPosition {l : Launch} (hf : l.stackTraces = false) {M : MM} {p : Nat → Nat} (h : REL M p) (o : (Nat → Int64) × (Nat → UInt64)) : ∃ (x : Int32) (M1 M2 : MM), V_X9_faultPosition l [.ref 0] (hp M (p, o)) (VI x (hp M1 (p, o))) ∧ V_X10_faultPosition l [.ref 464] (hp M1 (p, o)) (VI x (hp M2 (p, o))) ∧ REL M2 p := by
  obtain ⟨n, h1, hI⟩ := h.2.1
  have hn := hI.2.1
  have hg := hr_g h1 hI
  exact ⟨_, M, _, s_X9_faultPosition hf hn hg, by have z := s_X10_faultPosition (M := M) (r := (p, o)) hf; rw [← h.2.2.2.2.2.1.2.2.2] at z; exact z, REL_9 h⟩
theorem N_save {l : Launch} (hf : l.stackTraces = false) {M : MM} {p : Nat → Nat} (h : REL M p) (o : (Nat → Int64) × (Nat → UInt64)) : ∃ (x : Int32) (M1 M2 : MM), V_X9_save l [.ref 0] (hp M (p, o)) (VI x (hp M1 (p, o))) ∧ V_X10_save l [.ref 464] (hp M1 (p, o)) (VI x (hp M2 (p, o))) ∧ REL M2 p := by
  obtain ⟨n, h1, hI⟩ := h.2.1
  have hn := hI.2.1
  have hg := hr_g h1 hI
  exact ⟨_, mst (hcp M 83 1 n) 0 9 1, _, s_X9_save hf hn hg (rel_flg h1 hI), s_X10_save hf (n := n) (by rw [mst_ne1 (by decide), hcp_out hn (by omega)]; exact hI.1), rel_sv h h1 hI rfl⟩
theorem lc_fish (hf : l.stackTraces = false) (hG : SCR b L xs G) (hN : NCG G) (hi : i + 4 ≤ L) (hL : L ≤ 2048) (hc : ce + 3 ≤ RC9) (hs : sl + 18 ≤ RS9) (h : REL M p) (K : ∀ M2 p1 o2, REL M2 p1 → Q l RL cL_law 9 19 RC9 RS9 G 2420 (LL (nI i)) [] (hp M2 (p1, o2)) (ce + 3) (sl + 18)) : Q l RL cL_law 9 19 RC9 RS9 G 220 (LL (nI i)) [] (hp M (p, o)) ce sl := by
  refine R_aload_n dL_law_220 rfl rfl ?_
  refine R_aload_n dL_law_221 rfl rfl ?_
  refine R_iload dL_law_222 (by decide) rfl ?_
  refine R_iconst (v := 1) dL_law_224 (by decide) ?_
  refine R_iadd dL_law_225 ?_
  refine R_sld hG dL_law_226 (vx_ix1 i hi hL) ?_
  refine R_aload_n dL_law_227 rfl rfl ?_
  obtain ⟨k9, x9, y9, M1, M2, p1, A9, B9, hk9, e9, exy, r9⟩ := P_fish hf h (x := (xs (nI i + 1).toNatClampNeg))
  refine R_callL (As := [.ref 0, .int (xs (nI i + 1).toNatClampNeg), .ref 473]) cx_145 (w_fish hf hk9 (A9 o)) hN dL_law_228 (by decide) (by omega) (by omega) rfl rfl (by decide) (fun v9 h9 hz => ?_) (fun E9 h9 hz => by cases hz.1)
  obtain ⟨e1, rfl⟩ := hz
  cases e1
  show Q _ _ _ _ _ _ _ _ _ _ [.int (nI k9)] _ _ _
  obtain ⟨o2, eo2⟩ : ∃ o2, o2 = (if k9 = 0 then (vp_updL o.1 0 (x9.toInt64), o.2) else o) := ⟨_, rfl⟩
  rw [← eo2]
  have B := B9 o2
  refine R_istore dL_law_231 (by decide) (st6 rfl) ?_
  refine R_aload_n dL_law_233 rfl rfl ?_
  refine R_aload_n dL_law_234 rfl rfl ?_
  refine R_iload dL_law_235 (by decide) rfl ?_
  refine R_iconst (v := 1) dL_law_237 (by decide) ?_
  refine R_iadd dL_law_238 ?_
  refine R_sld hG dL_law_239 (vx_ix1 i hi hL) ?_
  refine G_cV1 cw_L_150 B dL_law_240 (rcv cok10 rfl (Nat.le_of_ble_eq_true rfl)) ⟨by decide, by omega, by omega, by decide⟩ ?_
  refine R_istore dL_law_243 (by decide) (st7 rfl) ?_
  refine R_aload_n dL_law_245 rfl rfl ?_
  refine G_cV0 cw_L_151 (s_X10_thrown hf) dL_law_246 (rcv cok10 rfl (Nat.le_of_ble_eq_true rfl)) ⟨by decide, by omega, by omega, by decide⟩ ?_
  refine R_topE (show M2 464 9 = nI k9 from e9) ?_
  refine R_iload dL_law_249 (by decide) rfl ?_
  refine R_icmp_eq_t (tgt := 256) dL_law_251 rfl rfl ?_
  refine R_iload dL_law_256 (by decide) rfl ?_
  by_cases k0 : k9 = 0
  · subst k0
    obtain rfl := exy rfl
    rw [if_pos rfl] at eo2
    subst eo2
    refine R_if_ne_f (tgt := 273) dL_law_258 rfl rfl ?_
    refine R_aload_n dL_law_261 rfl rfl ?_
    refine R_iconst (v := 0) dL_law_262 (by decide) ?_
    refine G_lald dL_law_263 (show vp_in (0 : Int32) 1 from nI_in12 (k := 0) (n := 1) (by omega) (by omega)) ?_
    show Q _ _ _ _ _ _ _ _ _ _ [.long (vp_updL o.1 0 (x9.toInt64) 0)] _ _ _
    rw [vu_0]
    refine R_iload dL_law_264 (by decide) rfl ?_
    refine R_i2l dL_law_266 rfl ?_
    refine R_lcmp dL_law_267 ?_
    rw [lg_self]
    refine R_if_eq_t (tgt := 273) dL_law_268 rfl rfl ?_
    refine R_goto (tgt := 2420) dL_law_273 rfl ?_
    refine R_weak dr7 (R_weak dr6 ?_)
    refine R_widen (by omega) (by omega) (K _ _ _ r9)
  · refine R_if_ne_t (tgt := 273) dL_law_258 rfl (nI_n0 (by omega) k0) ?_
    refine R_goto (tgt := 2420) dL_law_273 rfl ?_
    refine R_weak dr7 (R_weak dr6 ?_)
    refine R_widen (by omega) (by omega) (K _ _ _ r9)
theorem lc_brine (hf : l.stackTraces = false) (hG : SCR b L xs G) (hN : NCG G) (hi : i + 4 ≤ L) (hL : L ≤ 2048) (hc : ce + 3 ≤ RC9) (hs : sl + 18 ≤ RS9) (h : REL M p) (K : ∀ M2 p1 o2, REL M2 p1 → Q l RL cL_law 9 19 RC9 RS9 G 2420 (LL (nI i)) [] (hp M2 (p1, o2)) (ce + 3) (sl + 18)) : Q l RL cL_law 9 19 RC9 RS9 G 276 (LL (nI i)) [] (hp M (p, o)) ce sl := by
  refine R_aload_n dL_law_276 rfl rfl ?_
  refine R_aload_n dL_law_277 rfl rfl ?_
  refine R_iload dL_law_278 (by decide) rfl ?_
  refine R_iconst (v := 1) dL_law_280 (by decide) ?_
  refine R_iadd dL_law_281 ?_
  refine R_sld hG dL_law_282 (vx_ix1 i hi hL) ?_
  refine R_aload_n dL_law_283 rfl rfl ?_
  obtain ⟨k9, x9, y9, M1, M2, p1, A9, B9, hk9, e9, exy, r9⟩ := P_brine hf h (x := (xs (nI i + 1).toNatClampNeg))
  refine R_callL (As := [.ref 0, .int (xs (nI i + 1).toNatClampNeg), .ref 473]) cx_154 (w_brine hf hk9 (A9 o)) hN dL_law_284 (by decide) (by omega) (by omega) rfl rfl (by decide) (fun v9 h9 hz => ?_) (fun E9 h9 hz => by cases hz.1)
  obtain ⟨e1, rfl⟩ := hz
  cases e1
  show Q _ _ _ _ _ _ _ _ _ _ [.int (nI k9)] _ _ _
  obtain ⟨o2, eo2⟩ : ∃ o2, o2 = (if k9 = 0 then (vp_updL o.1 0 (x9.toInt64), o.2) else o) := ⟨_, rfl⟩
  rw [← eo2]
  have B := B9 o2
  refine R_istore dL_law_287 (by decide) (st6 rfl) ?_
  refine R_aload_n dL_law_289 rfl rfl ?_
  refine R_aload_n dL_law_290 rfl rfl ?_
  refine R_iload dL_law_291 (by decide) rfl ?_
  refine R_iconst (v := 1) dL_law_293 (by decide) ?_
  refine R_iadd dL_law_294 ?_
  refine R_sld hG dL_law_295 (vx_ix1 i hi hL) ?_
  refine G_cV1 cw_L_156 B dL_law_296 (rcv cok10 rfl (Nat.le_of_ble_eq_true rfl)) ⟨by decide, by omega, by omega, by decide⟩ ?_
  refine R_istore dL_law_299 (by decide) (st7 rfl) ?_
  refine R_aload_n dL_law_301 rfl rfl ?_
  refine G_cV0 cw_L_151 (s_X10_thrown hf) dL_law_302 (rcv cok10 rfl (Nat.le_of_ble_eq_true rfl)) ⟨by decide, by omega, by omega, by decide⟩ ?_
  refine R_topE (show M2 464 9 = nI k9 from e9) ?_
  refine R_iload dL_law_305 (by decide) rfl ?_
  refine R_icmp_eq_t (tgt := 312) dL_law_307 rfl rfl ?_
  refine R_iload dL_law_312 (by decide) rfl ?_
  by_cases k0 : k9 = 0
  · subst k0
    obtain rfl := exy rfl
    rw [if_pos rfl] at eo2
    subst eo2
    refine R_if_ne_f (tgt := 329) dL_law_314 rfl rfl ?_
    refine R_aload_n dL_law_317 rfl rfl ?_
    refine R_iconst (v := 0) dL_law_318 (by decide) ?_
    refine G_lald dL_law_319 (show vp_in (0 : Int32) 1 from nI_in12 (k := 0) (n := 1) (by omega) (by omega)) ?_
    show Q _ _ _ _ _ _ _ _ _ _ [.long (vp_updL o.1 0 (x9.toInt64) 0)] _ _ _
    rw [vu_0]
    refine R_iload dL_law_320 (by decide) rfl ?_
    refine R_i2l dL_law_322 rfl ?_
    refine R_lcmp dL_law_323 ?_
    rw [lg_self]
    refine R_if_eq_t (tgt := 329) dL_law_324 rfl rfl ?_
    refine R_goto (tgt := 2420) dL_law_329 rfl ?_
    refine R_weak dr7 (R_weak dr6 ?_)
    refine R_widen (by omega) (by omega) (K _ _ _ r9)
  · refine R_if_ne_t (tgt := 329) dL_law_314 rfl (nI_n0 (by omega) k0) ?_
    refine R_goto (tgt := 2420) dL_law_329 rfl ?_
    refine R_weak dr7 (R_weak dr6 ?_)
    refine R_widen (by omega) (by omega) (K _ _ _ r9)
theorem lc_out (hf : l.stackTraces = false) (hG : SCR b L xs G) (hN : NCG G) (hi : i + 4 ≤ L) (hL : L ≤ 2048) (hc : ce + 3 ≤ RC9) (hs : sl + 18 ≤ RS9) (h : REL M p) (K : ∀ M2 p1 o2, REL M2 p1 → Q l RL cL_law 9 19 RC9 RS9 G 2420 (LL (nI i)) [] (hp M2 (p1, o2)) (ce + 3) (sl + 18)) : Q l RL cL_law 9 19 RC9 RS9 G 332 (LL (nI i)) [] (hp M (p, o)) ce sl := by
  refine R_aload_n dL_law_332 rfl rfl ?_
  refine R_aload_n dL_law_333 rfl rfl ?_
  refine R_iload dL_law_334 (by decide) rfl ?_
  refine R_iconst (v := 1) dL_law_336 (by decide) ?_
  refine R_iadd dL_law_337 ?_
  refine R_sld hG dL_law_338 (vx_ix1 i hi hL) ?_
  refine R_aload_n dL_law_339 rfl rfl ?_
  obtain ⟨k9, x9, y9, M1, M2, p1, A9, B9, hk9, e9, exy, r9⟩ := P_out hf h (x := (xs (nI i + 1).toNatClampNeg))
  refine R_callL (As := [.ref 0, .int (xs (nI i + 1).toNatClampNeg), .ref 473]) cx_157 (w_out hf hk9 (A9 o)) hN dL_law_340 (by decide) (by omega) (by omega) rfl rfl (by decide) (fun v9 h9 hz => ?_) (fun E9 h9 hz => by cases hz.1)
  obtain ⟨e1, rfl⟩ := hz
  cases e1
  show Q _ _ _ _ _ _ _ _ _ _ [.int (nI k9)] _ _ _
  obtain ⟨o2, eo2⟩ : ∃ o2, o2 = (if k9 = 0 then (vp_updL o.1 0 (x9.toInt64), o.2) else o) := ⟨_, rfl⟩
  rw [← eo2]
  have B := B9 o2
  refine R_istore dL_law_343 (by decide) (st6 rfl) ?_
  refine R_aload_n dL_law_345 rfl rfl ?_
  refine R_aload_n dL_law_346 rfl rfl ?_
  refine R_iload dL_law_347 (by decide) rfl ?_
  refine R_iconst (v := 1) dL_law_349 (by decide) ?_
  refine R_iadd dL_law_350 ?_
  refine R_sld hG dL_law_351 (vx_ix1 i hi hL) ?_
  refine G_cV1 cw_L_159 B dL_law_352 (rcv cok10 rfl (Nat.le_of_ble_eq_true rfl)) ⟨by decide, by omega, by omega, by decide⟩ ?_
  refine R_istore dL_law_355 (by decide) (st7 rfl) ?_
  refine R_aload_n dL_law_357 rfl rfl ?_
  refine G_cV0 cw_L_151 (s_X10_thrown hf) dL_law_358 (rcv cok10 rfl (Nat.le_of_ble_eq_true rfl)) ⟨by decide, by omega, by omega, by decide⟩ ?_
  refine R_topE (show M2 464 9 = nI k9 from e9) ?_
  refine R_iload dL_law_361 (by decide) rfl ?_
  refine R_icmp_eq_t (tgt := 368) dL_law_363 rfl rfl ?_
  refine R_iload dL_law_368 (by decide) rfl ?_
  by_cases k0 : k9 = 0
  · subst k0
    obtain rfl := exy rfl
    rw [if_pos rfl] at eo2
    subst eo2
    refine R_if_ne_f (tgt := 385) dL_law_370 rfl rfl ?_
    refine R_aload_n dL_law_373 rfl rfl ?_
    refine R_iconst (v := 0) dL_law_374 (by decide) ?_
    refine G_lald dL_law_375 (show vp_in (0 : Int32) 1 from nI_in12 (k := 0) (n := 1) (by omega) (by omega)) ?_
    show Q _ _ _ _ _ _ _ _ _ _ [.long (vp_updL o.1 0 (x9.toInt64) 0)] _ _ _
    rw [vu_0]
    refine R_iload dL_law_376 (by decide) rfl ?_
    refine R_i2l dL_law_378 rfl ?_
    refine R_lcmp dL_law_379 ?_
    rw [lg_self]
    refine R_if_eq_t (tgt := 385) dL_law_380 rfl rfl ?_
    refine R_goto (tgt := 2420) dL_law_385 rfl ?_
    refine R_weak dr7 (R_weak dr6 ?_)
    refine R_widen (by omega) (by omega) (K _ _ _ r9)
  · refine R_if_ne_t (tgt := 385) dL_law_370 rfl (nI_n0 (by omega) k0) ?_
    refine R_goto (tgt := 2420) dL_law_385 rfl ?_
    refine R_weak dr7 (R_weak dr6 ?_)
    refine R_widen (by omega) (by omega) (K _ _ _ r9)
theorem lc_hang (hf : l.stackTraces = false) (hG : SCR b L xs G) (hN : NCG G) (hi : i + 4 ≤ L) (hL : L ≤ 2048) (hc : ce + 3 ≤ RC9) (hs : sl + 18 ≤ RS9) (h : REL M p) (K : ∀ M2 p1 o2, REL M2 p1 → Q l RL cL_law 9 19 RC9 RS9 G 2420 (LL (nI i)) [] (hp M2 (p1, o2)) (ce + 3) (sl + 18)) : Q l RL cL_law 9 19 RC9 RS9 G 388 (LL (nI i)) [] (hp M (p, o)) ce sl := by
  refine R_aload_n dL_law_388 rfl rfl ?_
  refine R_aload_n dL_law_389 rfl rfl ?_
  refine R_iload dL_law_390 (by decide) rfl ?_
  refine R_iconst (v := 1) dL_law_392 (by decide) ?_
  refine R_iadd dL_law_393 ?_
  refine R_sld hG dL_law_394 (vx_ix1 i hi hL) ?_
  refine R_aload_n dL_law_395 rfl rfl ?_
  refine R_iload dL_law_396 (by decide) rfl ?_
  refine R_iconst (v := 2) dL_law_398 (by decide) ?_
  refine R_iadd dL_law_399 ?_
  refine R_sld hG dL_law_400 (vx_ix2 i hi hL) ?_
  refine R_aload_n dL_law_401 rfl rfl ?_
  refine R_iload dL_law_402 (by decide) rfl ?_
  refine R_iconst (v := 3) dL_law_404 (by decide) ?_
  refine R_iadd dL_law_405 ?_
  refine R_sld hG dL_law_406 (vx_ix3 i hi hL) ?_
  refine R_aload_n dL_law_407 rfl rfl ?_
  obtain ⟨k9, x9, y9, M1, M2, p1, A9, B9, hk9, e9, exy, r9⟩ := P_hang hf h (x := (xs (nI i + 1).toNatClampNeg)) (q := (xs (nI i + 2).toNatClampNeg)) (s := (xs (nI i + 3).toNatClampNeg))
  refine R_callL (As := [.ref 0, .int (xs (nI i + 1).toNatClampNeg), .int (xs (nI i + 2).toNatClampNeg), .int (xs (nI i + 3).toNatClampNeg), .ref 473]) cx_160 (w_hang hf hk9 (A9 o)) hN dL_law_408 (by decide) (by omega) (by omega) rfl rfl (by decide) (fun v9 h9 hz => ?_) (fun E9 h9 hz => by cases hz.1)
  obtain ⟨e1, rfl⟩ := hz
  cases e1
  show Q _ _ _ _ _ _ _ _ _ _ [.int (nI k9)] _ _ _
  obtain ⟨o2, eo2⟩ : ∃ o2, o2 = (if k9 = 0 then (vp_updL o.1 0 (x9.toInt64), o.2) else o) := ⟨_, rfl⟩
  rw [← eo2]
  have B := B9 o2
  refine R_istore dL_law_411 (by decide) (st6 rfl) ?_
  refine R_aload_n dL_law_413 rfl rfl ?_
  refine R_aload_n dL_law_414 rfl rfl ?_
  refine R_iload dL_law_415 (by decide) rfl ?_
  refine R_iconst (v := 1) dL_law_417 (by decide) ?_
  refine R_iadd dL_law_418 ?_
  refine R_sld hG dL_law_419 (vx_ix1 i hi hL) ?_
  refine R_aload_n dL_law_420 rfl rfl ?_
  refine R_iload dL_law_421 (by decide) rfl ?_
  refine R_iconst (v := 2) dL_law_423 (by decide) ?_
  refine R_iadd dL_law_424 ?_
  refine R_sld hG dL_law_425 (vx_ix2 i hi hL) ?_
  refine R_aload_n dL_law_426 rfl rfl ?_
  refine R_iload dL_law_427 (by decide) rfl ?_
  refine R_iconst (v := 3) dL_law_429 (by decide) ?_
  refine R_iadd dL_law_430 ?_
  refine R_sld hG dL_law_431 (vx_ix3 i hi hL) ?_
  refine G_cV3 cw_L_163 B dL_law_432 (rcv cok10 rfl (Nat.le_of_ble_eq_true rfl)) ⟨by decide, by omega, by omega, by decide⟩ ?_
  refine R_istore dL_law_435 (by decide) (st7 rfl) ?_
  refine R_aload_n dL_law_437 rfl rfl ?_
  refine G_cV0 cw_L_151 (s_X10_thrown hf) dL_law_438 (rcv cok10 rfl (Nat.le_of_ble_eq_true rfl)) ⟨by decide, by omega, by omega, by decide⟩ ?_
  refine R_topE (show M2 464 9 = nI k9 from e9) ?_
  refine R_iload dL_law_441 (by decide) rfl ?_
  refine R_icmp_eq_t (tgt := 448) dL_law_443 rfl rfl ?_
  refine R_iload dL_law_448 (by decide) rfl ?_
  by_cases k0 : k9 = 0
  · subst k0
    obtain rfl := exy rfl
    rw [if_pos rfl] at eo2
    subst eo2
    refine R_if_ne_f (tgt := 465) dL_law_450 rfl rfl ?_
    refine R_aload_n dL_law_453 rfl rfl ?_
    refine R_iconst (v := 0) dL_law_454 (by decide) ?_
    refine G_lald dL_law_455 (show vp_in (0 : Int32) 1 from nI_in12 (k := 0) (n := 1) (by omega) (by omega)) ?_
    show Q _ _ _ _ _ _ _ _ _ _ [.long (vp_updL o.1 0 (x9.toInt64) 0)] _ _ _
    rw [vu_0]
    refine R_iload dL_law_456 (by decide) rfl ?_
    refine R_i2l dL_law_458 rfl ?_
    refine R_lcmp dL_law_459 ?_
    rw [lg_self]
    refine R_if_eq_t (tgt := 465) dL_law_460 rfl rfl ?_
    refine R_goto (tgt := 2420) dL_law_465 rfl ?_
    refine R_weak dr7 (R_weak dr6 ?_)
    refine R_widen (by omega) (by omega) (K _ _ _ r9)
  · refine R_if_ne_t (tgt := 465) dL_law_450 rfl (nI_n0 (by omega) k0) ?_
    refine R_goto (tgt := 2420) dL_law_465 rfl ?_
    refine R_weak dr7 (R_weak dr6 ?_)
    refine R_widen (by omega) (by omega) (K _ _ _ r9)
theorem lc_turn (hf : l.stackTraces = false) (hG : SCR b L xs G) (hN : NCG G) (hi : i + 4 ≤ L) (hL : L ≤ 2048) (hc : ce + 3 ≤ RC9) (hs : sl + 18 ≤ RS9) (h : REL M p) (K : ∀ M2 p1 o2, REL M2 p1 → Q l RL cL_law 9 19 RC9 RS9 G 2420 (LL (nI i)) [] (hp M2 (p1, o2)) (ce + 3) (sl + 18)) : Q l RL cL_law 9 19 RC9 RS9 G 468 (LL (nI i)) [] (hp M (p, o)) ce sl := by
  refine R_aload_n dL_law_468 rfl rfl ?_
  refine R_aload_n dL_law_469 rfl rfl ?_
  refine R_iload dL_law_470 (by decide) rfl ?_
  refine R_iconst (v := 1) dL_law_472 (by decide) ?_
  refine R_iadd dL_law_473 ?_
  refine R_sld hG dL_law_474 (vx_ix1 i hi hL) ?_
  refine R_aload_n dL_law_475 rfl rfl ?_
  obtain ⟨k9, x9, y9, M1, M2, p1, A9, B9, hk9, e9, exy, r9⟩ := P_turn hf h (x := (xs (nI i + 1).toNatClampNeg))
  refine R_callL (As := [.ref 0, .int (xs (nI i + 1).toNatClampNeg), .ref 473]) cx_164 (w_turn hf hk9 (A9 o)) hN dL_law_476 (by decide) (by omega) (by omega) rfl rfl (by decide) (fun v9 h9 hz => ?_) (fun E9 h9 hz => by cases hz.1)
  obtain ⟨e1, rfl⟩ := hz
  cases e1
  show Q _ _ _ _ _ _ _ _ _ _ [.int (nI k9)] _ _ _
  obtain ⟨o2, eo2⟩ : ∃ o2, o2 = (if k9 = 0 then (vp_updL o.1 0 (x9.toInt64), o.2) else o) := ⟨_, rfl⟩
  rw [← eo2]
  have B := B9 o2
  refine R_istore dL_law_479 (by decide) (st6 rfl) ?_
  refine R_aload_n dL_law_481 rfl rfl ?_
  refine R_aload_n dL_law_482 rfl rfl ?_
  refine R_iload dL_law_483 (by decide) rfl ?_
  refine R_iconst (v := 1) dL_law_485 (by decide) ?_
  refine R_iadd dL_law_486 ?_
  refine R_sld hG dL_law_487 (vx_ix1 i hi hL) ?_
  refine G_cV1 cw_L_166 B dL_law_488 (rcv cok10 rfl (Nat.le_of_ble_eq_true rfl)) ⟨by decide, by omega, by omega, by decide⟩ ?_
  refine R_istore dL_law_491 (by decide) (st7 rfl) ?_
  refine R_aload_n dL_law_493 rfl rfl ?_
  refine G_cV0 cw_L_151 (s_X10_thrown hf) dL_law_494 (rcv cok10 rfl (Nat.le_of_ble_eq_true rfl)) ⟨by decide, by omega, by omega, by decide⟩ ?_
  refine R_topE (show M2 464 9 = nI k9 from e9) ?_
  refine R_iload dL_law_497 (by decide) rfl ?_
  refine R_icmp_eq_t (tgt := 504) dL_law_499 rfl rfl ?_
  refine R_iload dL_law_504 (by decide) rfl ?_
  by_cases k0 : k9 = 0
  · subst k0
    obtain rfl := exy rfl
    rw [if_pos rfl] at eo2
    subst eo2
    refine R_if_ne_f (tgt := 521) dL_law_506 rfl rfl ?_
    refine R_aload_n dL_law_509 rfl rfl ?_
    refine R_iconst (v := 0) dL_law_510 (by decide) ?_
    refine G_lald dL_law_511 (show vp_in (0 : Int32) 1 from nI_in12 (k := 0) (n := 1) (by omega) (by omega)) ?_
    show Q _ _ _ _ _ _ _ _ _ _ [.long (vp_updL o.1 0 (x9.toInt64) 0)] _ _ _
    rw [vu_0]
    refine R_iload dL_law_512 (by decide) rfl ?_
    refine R_i2l dL_law_514 rfl ?_
    refine R_lcmp dL_law_515 ?_
    rw [lg_self]
    refine R_if_eq_t (tgt := 521) dL_law_516 rfl rfl ?_
    refine R_goto (tgt := 2420) dL_law_521 rfl ?_
    refine R_weak dr7 (R_weak dr6 ?_)
    refine R_widen (by omega) (by omega) (K _ _ _ r9)
  · refine R_if_ne_t (tgt := 521) dL_law_506 rfl (nI_n0 (by omega) k0) ?_
    refine R_goto (tgt := 2420) dL_law_521 rfl ?_
    refine R_weak dr7 (R_weak dr6 ?_)
    refine R_widen (by omega) (by omega) (K _ _ _ r9)
theorem lc_turnAll (hf : l.stackTraces = false) (hG : SCR b L xs G) (hN : NCG G) (hi : i + 4 ≤ L) (hL : L ≤ 2048) (hc : ce + 3 ≤ RC9) (hs : sl + 18 ≤ RS9) (h : REL M p) (K : ∀ M2 p1 o2, REL M2 p1 → Q l RL cL_law 9 19 RC9 RS9 G 2420 (LL (nI i)) [] (hp M2 (p1, o2)) (ce + 3) (sl + 18)) : Q l RL cL_law 9 19 RC9 RS9 G 524 (LL (nI i)) [] (hp M (p, o)) ce sl := by
  refine R_aload_n dL_law_524 rfl rfl ?_
  refine R_aload_n dL_law_525 rfl rfl ?_
  refine R_iload dL_law_526 (by decide) rfl ?_
  refine R_iconst (v := 1) dL_law_528 (by decide) ?_
  refine R_iadd dL_law_529 ?_
  refine R_sld hG dL_law_530 (vx_ix1 i hi hL) ?_
  refine R_aload_n dL_law_531 rfl rfl ?_
  obtain ⟨k9, x9, y9, M1, M2, p1, A9, B9, hk9, e9, exy, r9⟩ := P_turnAll hf h (x := (xs (nI i + 1).toNatClampNeg))
  refine R_callL (As := [.ref 0, .int (xs (nI i + 1).toNatClampNeg), .ref 473]) cx_167 (w_turnAll hf hk9 (A9 o)) hN dL_law_532 (by decide) (by omega) (by omega) rfl rfl (by decide) (fun v9 h9 hz => ?_) (fun E9 h9 hz => by cases hz.1)
  obtain ⟨e1, rfl⟩ := hz
  cases e1
  show Q _ _ _ _ _ _ _ _ _ _ [.int (nI k9)] _ _ _
  obtain ⟨o2, eo2⟩ : ∃ o2, o2 = (if k9 = 0 then (vp_updL o.1 0 (x9.toInt64), o.2) else o) := ⟨_, rfl⟩
  rw [← eo2]
  have B := B9 o2
  refine R_istore dL_law_535 (by decide) (st6 rfl) ?_
  refine R_aload_n dL_law_537 rfl rfl ?_
  refine R_aload_n dL_law_538 rfl rfl ?_
  refine R_iload dL_law_539 (by decide) rfl ?_
  refine R_iconst (v := 1) dL_law_541 (by decide) ?_
  refine R_iadd dL_law_542 ?_
  refine R_sld hG dL_law_543 (vx_ix1 i hi hL) ?_
  refine G_cV1 cw_L_169 B dL_law_544 (rcv cok10 rfl (Nat.le_of_ble_eq_true rfl)) ⟨by decide, by omega, by omega, by decide⟩ ?_
  refine R_istore dL_law_547 (by decide) (st7 rfl) ?_
  refine R_aload_n dL_law_549 rfl rfl ?_
  refine G_cV0 cw_L_151 (s_X10_thrown hf) dL_law_550 (rcv cok10 rfl (Nat.le_of_ble_eq_true rfl)) ⟨by decide, by omega, by omega, by decide⟩ ?_
  refine R_topE (show M2 464 9 = nI k9 from e9) ?_
  refine R_iload dL_law_553 (by decide) rfl ?_
  refine R_icmp_eq_t (tgt := 560) dL_law_555 rfl rfl ?_
  refine R_iload dL_law_560 (by decide) rfl ?_
  by_cases k0 : k9 = 0
  · subst k0
    obtain rfl := exy rfl
    rw [if_pos rfl] at eo2
    subst eo2
    refine R_if_ne_f (tgt := 577) dL_law_562 rfl rfl ?_
    refine R_aload_n dL_law_565 rfl rfl ?_
    refine R_iconst (v := 0) dL_law_566 (by decide) ?_
    refine G_lald dL_law_567 (show vp_in (0 : Int32) 1 from nI_in12 (k := 0) (n := 1) (by omega) (by omega)) ?_
    show Q _ _ _ _ _ _ _ _ _ _ [.long (vp_updL o.1 0 (x9.toInt64) 0)] _ _ _
    rw [vu_0]
    refine R_iload dL_law_568 (by decide) rfl ?_
    refine R_i2l dL_law_570 rfl ?_
    refine R_lcmp dL_law_571 ?_
    rw [lg_self]
    refine R_if_eq_t (tgt := 577) dL_law_572 rfl rfl ?_
    refine R_goto (tgt := 2420) dL_law_577 rfl ?_
    refine R_weak dr7 (R_weak dr6 ?_)
    refine R_widen (by omega) (by omega) (K _ _ _ r9)
  · refine R_if_ne_t (tgt := 577) dL_law_562 rfl (nI_n0 (by omega) k0) ?_
    refine R_goto (tgt := 2420) dL_law_577 rfl ?_
    refine R_weak dr7 (R_weak dr6 ?_)
    refine R_widen (by omega) (by omega) (K _ _ _ r9)
theorem lc_logs (hf : l.stackTraces = false) (hG : SCR b L xs G) (hN : NCG G) (hi : i + 4 ≤ L) (hL : L ≤ 2048) (hc : ce + 3 ≤ RC9) (hs : sl + 18 ≤ RS9) (h : REL M p) (K : ∀ M2 p1 o2, REL M2 p1 → Q l RL cL_law 9 19 RC9 RS9 G 2420 (LL (nI i)) [] (hp M2 (p1, o2)) (ce + 3) (sl + 18)) : Q l RL cL_law 9 19 RC9 RS9 G 580 (LL (nI i)) [] (hp M (p, o)) ce sl := by
  refine R_aload_n dL_law_580 rfl rfl ?_
  refine R_aload_n dL_law_581 rfl rfl ?_
  refine R_iload dL_law_582 (by decide) rfl ?_
  refine R_iconst (v := 1) dL_law_584 (by decide) ?_
  refine R_iadd dL_law_585 ?_
  refine R_sld hG dL_law_586 (vx_ix1 i hi hL) ?_
  refine R_aload_n dL_law_587 rfl rfl ?_
  obtain ⟨k9, x9, y9, M1, M2, p1, A9, B9, hk9, e9, exy, r9⟩ := P_logs hf h (x := (xs (nI i + 1).toNatClampNeg))
  refine R_callL (As := [.ref 0, .int (xs (nI i + 1).toNatClampNeg), .ref 473]) cx_170 (w_logs hf hk9 (A9 o)) hN dL_law_588 (by decide) (by omega) (by omega) rfl rfl (by decide) (fun v9 h9 hz => ?_) (fun E9 h9 hz => by cases hz.1)
  obtain ⟨e1, rfl⟩ := hz
  cases e1
  show Q _ _ _ _ _ _ _ _ _ _ [.int (nI k9)] _ _ _
  obtain ⟨o2, eo2⟩ : ∃ o2, o2 = (if k9 = 0 then (vp_updL o.1 0 (x9.toInt64), o.2) else o) := ⟨_, rfl⟩
  rw [← eo2]
  have B := B9 o2
  refine R_istore dL_law_591 (by decide) (st6 rfl) ?_
  refine R_aload_n dL_law_593 rfl rfl ?_
  refine R_aload_n dL_law_594 rfl rfl ?_
  refine R_iload dL_law_595 (by decide) rfl ?_
  refine R_iconst (v := 1) dL_law_597 (by decide) ?_
  refine R_iadd dL_law_598 ?_
  refine R_sld hG dL_law_599 (vx_ix1 i hi hL) ?_
  refine G_cV1 cw_L_172 B dL_law_600 (rcv cok10 rfl (Nat.le_of_ble_eq_true rfl)) ⟨by decide, by omega, by omega, by decide⟩ ?_
  refine R_istore dL_law_603 (by decide) (st7 rfl) ?_
  refine R_aload_n dL_law_605 rfl rfl ?_
  refine G_cV0 cw_L_151 (s_X10_thrown hf) dL_law_606 (rcv cok10 rfl (Nat.le_of_ble_eq_true rfl)) ⟨by decide, by omega, by omega, by decide⟩ ?_
  refine R_topE (show M2 464 9 = nI k9 from e9) ?_
  refine R_iload dL_law_609 (by decide) rfl ?_
  refine R_icmp_eq_t (tgt := 616) dL_law_611 rfl rfl ?_
  refine R_iload dL_law_616 (by decide) rfl ?_
  by_cases k0 : k9 = 0
  · subst k0
    obtain rfl := exy rfl
    rw [if_pos rfl] at eo2
    subst eo2
    refine R_if_ne_f (tgt := 633) dL_law_618 rfl rfl ?_
    refine R_aload_n dL_law_621 rfl rfl ?_
    refine R_iconst (v := 0) dL_law_622 (by decide) ?_
    refine G_lald dL_law_623 (show vp_in (0 : Int32) 1 from nI_in12 (k := 0) (n := 1) (by omega) (by omega)) ?_
    show Q _ _ _ _ _ _ _ _ _ _ [.long (vp_updL o.1 0 (x9.toInt64) 0)] _ _ _
    rw [vu_0]
    refine R_iload dL_law_624 (by decide) rfl ?_
    refine R_i2l dL_law_626 rfl ?_
    refine R_lcmp dL_law_627 ?_
    rw [lg_self]
    refine R_if_eq_t (tgt := 633) dL_law_628 rfl rfl ?_
    refine R_goto (tgt := 2420) dL_law_633 rfl ?_
    refine R_weak dr7 (R_weak dr6 ?_)
    refine R_widen (by omega) (by omega) (K _ _ _ r9)
  · refine R_if_ne_t (tgt := 633) dL_law_618 rfl (nI_n0 (by omega) k0) ?_
    refine R_goto (tgt := 2420) dL_law_633 rfl ?_
    refine R_weak dr7 (R_weak dr6 ?_)
    refine R_widen (by omega) (by omega) (K _ _ _ r9)
theorem lc_wood (hf : l.stackTraces = false) (hG : SCR b L xs G) (hN : NCG G) (hi : i + 4 ≤ L) (hL : L ≤ 2048) (hc : ce + 3 ≤ RC9) (hs : sl + 18 ≤ RS9) (h : REL M p) (K : ∀ M2 p1 o2, REL M2 p1 → Q l RL cL_law 9 19 RC9 RS9 G 2420 (LL (nI i)) [] (hp M2 (p1, o2)) (ce + 3) (sl + 18)) : Q l RL cL_law 9 19 RC9 RS9 G 636 (LL (nI i)) [] (hp M (p, o)) ce sl := by
  refine R_aload_n dL_law_636 rfl rfl ?_
  refine R_aload_n dL_law_637 rfl rfl ?_
  refine R_iload dL_law_638 (by decide) rfl ?_
  refine R_iconst (v := 1) dL_law_640 (by decide) ?_
  refine R_iadd dL_law_641 ?_
  refine R_sld hG dL_law_642 (vx_ix1 i hi hL) ?_
  refine R_aload_n dL_law_643 rfl rfl ?_
  obtain ⟨k9, x9, y9, M1, M2, p1, A9, B9, hk9, e9, exy, r9⟩ := P_wood hf h (x := (xs (nI i + 1).toNatClampNeg))
  refine R_callL (As := [.ref 0, .int (xs (nI i + 1).toNatClampNeg), .ref 473]) cx_173 (w_wood hf hk9 (A9 o)) hN dL_law_644 (by decide) (by omega) (by omega) rfl rfl (by decide) (fun v9 h9 hz => ?_) (fun E9 h9 hz => by cases hz.1)
  obtain ⟨e1, rfl⟩ := hz
  cases e1
  show Q _ _ _ _ _ _ _ _ _ _ [.int (nI k9)] _ _ _
  obtain ⟨o2, eo2⟩ : ∃ o2, o2 = (if k9 = 0 then (vp_updL o.1 0 (x9.toInt64), o.2) else o) := ⟨_, rfl⟩
  rw [← eo2]
  have B := B9 o2
  refine R_istore dL_law_647 (by decide) (st6 rfl) ?_
  refine R_aload_n dL_law_649 rfl rfl ?_
  refine R_aload_n dL_law_650 rfl rfl ?_
  refine R_iload dL_law_651 (by decide) rfl ?_
  refine R_iconst (v := 1) dL_law_653 (by decide) ?_
  refine R_iadd dL_law_654 ?_
  refine R_sld hG dL_law_655 (vx_ix1 i hi hL) ?_
  refine G_cV1 cw_L_175 B dL_law_656 (rcv cok10 rfl (Nat.le_of_ble_eq_true rfl)) ⟨by decide, by omega, by omega, by decide⟩ ?_
  refine R_istore dL_law_659 (by decide) (st7 rfl) ?_
  refine R_aload_n dL_law_661 rfl rfl ?_
  refine G_cV0 cw_L_151 (s_X10_thrown hf) dL_law_662 (rcv cok10 rfl (Nat.le_of_ble_eq_true rfl)) ⟨by decide, by omega, by omega, by decide⟩ ?_
  refine R_topE (show M2 464 9 = nI k9 from e9) ?_
  refine R_iload dL_law_665 (by decide) rfl ?_
  refine R_icmp_eq_t (tgt := 672) dL_law_667 rfl rfl ?_
  refine R_iload dL_law_672 (by decide) rfl ?_
  by_cases k0 : k9 = 0
  · subst k0
    obtain rfl := exy rfl
    rw [if_pos rfl] at eo2
    subst eo2
    refine R_if_ne_f (tgt := 689) dL_law_674 rfl rfl ?_
    refine R_aload_n dL_law_677 rfl rfl ?_
    refine R_iconst (v := 0) dL_law_678 (by decide) ?_
    refine G_lald dL_law_679 (show vp_in (0 : Int32) 1 from nI_in12 (k := 0) (n := 1) (by omega) (by omega)) ?_
    show Q _ _ _ _ _ _ _ _ _ _ [.long (vp_updL o.1 0 (x9.toInt64) 0)] _ _ _
    rw [vu_0]
    refine R_iload dL_law_680 (by decide) rfl ?_
    refine R_i2l dL_law_682 rfl ?_
    refine R_lcmp dL_law_683 ?_
    rw [lg_self]
    refine R_if_eq_t (tgt := 689) dL_law_684 rfl rfl ?_
    refine R_goto (tgt := 2420) dL_law_689 rfl ?_
    refine R_weak dr7 (R_weak dr6 ?_)
    refine R_widen (by omega) (by omega) (K _ _ _ r9)
  · refine R_if_ne_t (tgt := 689) dL_law_674 rfl (nI_n0 (by omega) k0) ?_
    refine R_goto (tgt := 2420) dL_law_689 rfl ?_
    refine R_weak dr7 (R_weak dr6 ?_)
    refine R_widen (by omega) (by omega) (K _ _ _ r9)
theorem lc_day (hf : l.stackTraces = false) (hG : SCR b L xs G) (hN : NCG G) (hi : i + 4 ≤ L) (hL : L ≤ 2048) (hc : ce + 3 ≤ RC9) (hs : sl + 18 ≤ RS9) (h : REL M p) (K : ∀ M2 p1 o2, REL M2 p1 → Q l RL cL_law 9 19 RC9 RS9 G 2420 (LL (nI i)) [] (hp M2 (p1, o2)) (ce + 3) (sl + 18)) : Q l RL cL_law 9 19 RC9 RS9 G 692 (LL (nI i)) [] (hp M (p, o)) ce sl := by
  refine R_aload_n dL_law_692 rfl rfl ?_
  refine R_aload_n dL_law_693 rfl rfl ?_
  obtain ⟨k9, x9, y9, M1, M2, p1, A9, B9, hk9, e9, exy, r9⟩ := P_day hf h 
  refine R_callL (As := [.ref 0, .ref 473]) cx_176 (w_day hf hk9 (A9 o)) hN dL_law_694 (by decide) (by omega) (by omega) rfl rfl (by decide) (fun v9 h9 hz => ?_) (fun E9 h9 hz => by cases hz.1)
  obtain ⟨e1, rfl⟩ := hz
  cases e1
  show Q _ _ _ _ _ _ _ _ _ _ [.int (nI k9)] _ _ _
  obtain ⟨o2, eo2⟩ : ∃ o2, o2 = (if k9 = 0 then (vp_updL o.1 0 (x9.toInt64), o.2) else o) := ⟨_, rfl⟩
  rw [← eo2]
  have B := B9 o2
  refine R_istore dL_law_697 (by decide) (st6 rfl) ?_
  refine R_aload_n dL_law_699 rfl rfl ?_
  refine G_cV0 cw_L_179 B dL_law_700 (rcv cok10 rfl (Nat.le_of_ble_eq_true rfl)) ⟨by decide, by omega, by omega, by decide⟩ ?_
  refine R_istore dL_law_703 (by decide) (st7 rfl) ?_
  refine R_aload_n dL_law_705 rfl rfl ?_
  refine G_cV0 cw_L_151 (s_X10_thrown hf) dL_law_706 (rcv cok10 rfl (Nat.le_of_ble_eq_true rfl)) ⟨by decide, by omega, by omega, by decide⟩ ?_
  refine R_topE (show M2 464 9 = nI k9 from e9) ?_
  refine R_iload dL_law_709 (by decide) rfl ?_
  refine R_icmp_eq_t (tgt := 716) dL_law_711 rfl rfl ?_
  refine R_iload dL_law_716 (by decide) rfl ?_
  by_cases k0 : k9 = 0
  · subst k0
    obtain rfl := exy rfl
    rw [if_pos rfl] at eo2
    subst eo2
    refine R_if_ne_f (tgt := 733) dL_law_718 rfl rfl ?_
    refine R_aload_n dL_law_721 rfl rfl ?_
    refine R_iconst (v := 0) dL_law_722 (by decide) ?_
    refine G_lald dL_law_723 (show vp_in (0 : Int32) 1 from nI_in12 (k := 0) (n := 1) (by omega) (by omega)) ?_
    show Q _ _ _ _ _ _ _ _ _ _ [.long (vp_updL o.1 0 (x9.toInt64) 0)] _ _ _
    rw [vu_0]
    refine R_iload dL_law_724 (by decide) rfl ?_
    refine R_i2l dL_law_726 rfl ?_
    refine R_lcmp dL_law_727 ?_
    rw [lg_self]
    refine R_if_eq_t (tgt := 733) dL_law_728 rfl rfl ?_
    refine R_goto (tgt := 2420) dL_law_733 rfl ?_
    refine R_weak dr7 (R_weak dr6 ?_)
    refine R_widen (by omega) (by omega) (K _ _ _ r9)
  · refine R_if_ne_t (tgt := 733) dL_law_718 rfl (nI_n0 (by omega) k0) ?_
    refine R_goto (tgt := 2420) dL_law_733 rfl ?_
    refine R_weak dr7 (R_weak dr6 ?_)
    refine R_widen (by omega) (by omega) (K _ _ _ r9)
theorem lc_hours (hf : l.stackTraces = false) (hG : SCR b L xs G) (hN : NCG G) (hi : i + 4 ≤ L) (hL : L ≤ 2048) (hc : ce + 3 ≤ RC9) (hs : sl + 18 ≤ RS9) (h : REL M p) (K : ∀ M2 p1 o2, REL M2 p1 → Q l RL cL_law 9 19 RC9 RS9 G 2420 (LL (nI i)) [] (hp M2 (p1, o2)) (ce + 3) (sl + 18)) : Q l RL cL_law 9 19 RC9 RS9 G 736 (LL (nI i)) [] (hp M (p, o)) ce sl := by
  refine R_aload_n dL_law_736 rfl rfl ?_
  refine R_aload_n dL_law_737 rfl rfl ?_
  refine R_iload dL_law_738 (by decide) rfl ?_
  refine R_iconst (v := 1) dL_law_740 (by decide) ?_
  refine R_iadd dL_law_741 ?_
  refine R_sld hG dL_law_742 (vx_ix1 i hi hL) ?_
  refine R_aload_n dL_law_743 rfl rfl ?_
  obtain ⟨k9, x9, y9, M1, M2, p1, A9, B9, hk9, e9, exy, r9⟩ := P_hours hf h (x := (xs (nI i + 1).toNatClampNeg))
  refine R_callL (As := [.ref 0, .int (xs (nI i + 1).toNatClampNeg), .ref 473]) cx_180 (w_hours hf hk9 (A9 o)) hN dL_law_744 (by decide) (by omega) (by omega) rfl rfl (by decide) (fun v9 h9 hz => ?_) (fun E9 h9 hz => by cases hz.1)
  obtain ⟨e1, rfl⟩ := hz
  cases e1
  show Q _ _ _ _ _ _ _ _ _ _ [.int (nI k9)] _ _ _
  obtain ⟨o2, eo2⟩ : ∃ o2, o2 = (if k9 = 0 then (vp_updL o.1 0 (x9.toInt64), o.2) else o) := ⟨_, rfl⟩
  rw [← eo2]
  have B := B9 o2
  refine R_istore dL_law_747 (by decide) (st6 rfl) ?_
  refine R_aload_n dL_law_749 rfl rfl ?_
  refine R_aload_n dL_law_750 rfl rfl ?_
  refine R_iload dL_law_751 (by decide) rfl ?_
  refine R_iconst (v := 1) dL_law_753 (by decide) ?_
  refine R_iadd dL_law_754 ?_
  refine R_sld hG dL_law_755 (vx_ix1 i hi hL) ?_
  refine G_cV1 cw_L_182 B dL_law_756 (rcv cok10 rfl (Nat.le_of_ble_eq_true rfl)) ⟨by decide, by omega, by omega, by decide⟩ ?_
  refine R_istore dL_law_759 (by decide) (st7 rfl) ?_
  refine R_aload_n dL_law_761 rfl rfl ?_
  refine G_cV0 cw_L_151 (s_X10_thrown hf) dL_law_762 (rcv cok10 rfl (Nat.le_of_ble_eq_true rfl)) ⟨by decide, by omega, by omega, by decide⟩ ?_
  refine R_topE (show M2 464 9 = nI k9 from e9) ?_
  refine R_iload dL_law_765 (by decide) rfl ?_
  refine R_icmp_eq_t (tgt := 772) dL_law_767 rfl rfl ?_
  refine R_iload dL_law_772 (by decide) rfl ?_
  by_cases k0 : k9 = 0
  · subst k0
    obtain rfl := exy rfl
    rw [if_pos rfl] at eo2
    subst eo2
    refine R_if_ne_f (tgt := 789) dL_law_774 rfl rfl ?_
    refine R_aload_n dL_law_777 rfl rfl ?_
    refine R_iconst (v := 0) dL_law_778 (by decide) ?_
    refine G_lald dL_law_779 (show vp_in (0 : Int32) 1 from nI_in12 (k := 0) (n := 1) (by omega) (by omega)) ?_
    show Q _ _ _ _ _ _ _ _ _ _ [.long (vp_updL o.1 0 (x9.toInt64) 0)] _ _ _
    rw [vu_0]
    refine R_iload dL_law_780 (by decide) rfl ?_
    refine R_i2l dL_law_782 rfl ?_
    refine R_lcmp dL_law_783 ?_
    rw [lg_self]
    refine R_if_eq_t (tgt := 789) dL_law_784 rfl rfl ?_
    refine R_goto (tgt := 2420) dL_law_789 rfl ?_
    refine R_weak dr7 (R_weak dr6 ?_)
    refine R_widen (by omega) (by omega) (K _ _ _ r9)
  · refine R_if_ne_t (tgt := 789) dL_law_774 rfl (nI_n0 (by omega) k0) ?_
    refine R_goto (tgt := 2420) dL_law_789 rfl ?_
    refine R_weak dr7 (R_weak dr6 ?_)
    refine R_widen (by omega) (by omega) (K _ _ _ r9)
theorem lc_sell (hf : l.stackTraces = false) (hG : SCR b L xs G) (hN : NCG G) (hi : i + 4 ≤ L) (hL : L ≤ 2048) (hc : ce + 3 ≤ RC9) (hs : sl + 18 ≤ RS9) (h : REL M p) (K : ∀ M2 p1 o2, REL M2 p1 → Q l RL cL_law 9 19 RC9 RS9 G 2420 (LL (nI i)) [] (hp M2 (p1, o2)) (ce + 3) (sl + 18)) : Q l RL cL_law 9 19 RC9 RS9 G 792 (LL (nI i)) [] (hp M (p, o)) ce sl := by
  refine R_aload_n dL_law_792 rfl rfl ?_
  refine R_aload_n dL_law_793 rfl rfl ?_
  refine R_iload dL_law_794 (by decide) rfl ?_
  refine R_iconst (v := 1) dL_law_796 (by decide) ?_
  refine R_iadd dL_law_797 ?_
  refine R_sld hG dL_law_798 (vx_ix1 i hi hL) ?_
  refine R_aload_n dL_law_799 rfl rfl ?_
  obtain ⟨k9, x9, y9, M1, M2, p1, A9, B9, hk9, e9, exy, r9⟩ := P_sell hf h (x := (xs (nI i + 1).toNatClampNeg))
  refine R_callL (As := [.ref 0, .int (xs (nI i + 1).toNatClampNeg), .ref 473]) cx_183 (w_sell hf hk9 (A9 o)) hN dL_law_800 (by decide) (by omega) (by omega) rfl rfl (by decide) (fun v9 h9 hz => ?_) (fun E9 h9 hz => by cases hz.1)
  obtain ⟨e1, rfl⟩ := hz
  cases e1
  show Q _ _ _ _ _ _ _ _ _ _ [.int (nI k9)] _ _ _
  obtain ⟨o2, eo2⟩ : ∃ o2, o2 = (if k9 = 0 then (vp_updL o.1 0 (x9.toInt64), o.2) else o) := ⟨_, rfl⟩
  rw [← eo2]
  have B := B9 o2
  refine R_istore dL_law_803 (by decide) (st6 rfl) ?_
  refine R_aload_n dL_law_805 rfl rfl ?_
  refine R_aload_n dL_law_806 rfl rfl ?_
  refine R_iload dL_law_807 (by decide) rfl ?_
  refine R_iconst (v := 1) dL_law_809 (by decide) ?_
  refine R_iadd dL_law_810 ?_
  refine R_sld hG dL_law_811 (vx_ix1 i hi hL) ?_
  refine G_cV1 cw_L_185 B dL_law_812 (rcv cok10 rfl (Nat.le_of_ble_eq_true rfl)) ⟨by decide, by omega, by omega, by decide⟩ ?_
  refine R_istore dL_law_815 (by decide) (st7 rfl) ?_
  refine R_aload_n dL_law_817 rfl rfl ?_
  refine G_cV0 cw_L_151 (s_X10_thrown hf) dL_law_818 (rcv cok10 rfl (Nat.le_of_ble_eq_true rfl)) ⟨by decide, by omega, by omega, by decide⟩ ?_
  refine R_topE (show M2 464 9 = nI k9 from e9) ?_
  refine R_iload dL_law_821 (by decide) rfl ?_
  refine R_icmp_eq_t (tgt := 828) dL_law_823 rfl rfl ?_
  refine R_iload dL_law_828 (by decide) rfl ?_
  by_cases k0 : k9 = 0
  · subst k0
    obtain rfl := exy rfl
    rw [if_pos rfl] at eo2
    subst eo2
    refine R_if_ne_f (tgt := 845) dL_law_830 rfl rfl ?_
    refine R_aload_n dL_law_833 rfl rfl ?_
    refine R_iconst (v := 0) dL_law_834 (by decide) ?_
    refine G_lald dL_law_835 (show vp_in (0 : Int32) 1 from nI_in12 (k := 0) (n := 1) (by omega) (by omega)) ?_
    show Q _ _ _ _ _ _ _ _ _ _ [.long (vp_updL o.1 0 (x9.toInt64) 0)] _ _ _
    rw [vu_0]
    refine R_iload dL_law_836 (by decide) rfl ?_
    refine R_i2l dL_law_838 rfl ?_
    refine R_lcmp dL_law_839 ?_
    rw [lg_self]
    refine R_if_eq_t (tgt := 845) dL_law_840 rfl rfl ?_
    refine R_goto (tgt := 2420) dL_law_845 rfl ?_
    refine R_weak dr7 (R_weak dr6 ?_)
    refine R_widen (by omega) (by omega) (K _ _ _ r9)
  · refine R_if_ne_t (tgt := 845) dL_law_830 rfl (nI_n0 (by omega) k0) ?_
    refine R_goto (tgt := 2420) dL_law_845 rfl ?_
    refine R_weak dr7 (R_weak dr6 ?_)
    refine R_widen (by omega) (by omega) (K _ _ _ r9)
theorem lc_throwAway (hf : l.stackTraces = false) (hG : SCR b L xs G) (hN : NCG G) (hi : i + 4 ≤ L) (hL : L ≤ 2048) (hc : ce + 3 ≤ RC9) (hs : sl + 18 ≤ RS9) (h : REL M p) (K : ∀ M2 p1 o2, REL M2 p1 → Q l RL cL_law 9 19 RC9 RS9 G 2420 (LL (nI i)) [] (hp M2 (p1, o2)) (ce + 3) (sl + 18)) : Q l RL cL_law 9 19 RC9 RS9 G 848 (LL (nI i)) [] (hp M (p, o)) ce sl := by
  refine R_aload_n dL_law_848 rfl rfl ?_
  refine R_aload_n dL_law_849 rfl rfl ?_
  refine R_iload dL_law_850 (by decide) rfl ?_
  refine R_iconst (v := 1) dL_law_852 (by decide) ?_
  refine R_iadd dL_law_853 ?_
  refine R_sld hG dL_law_854 (vx_ix1 i hi hL) ?_
  refine R_aload_n dL_law_855 rfl rfl ?_
  obtain ⟨k9, x9, y9, M1, M2, p1, A9, B9, hk9, e9, exy, r9⟩ := P_throwAway hf h (x := (xs (nI i + 1).toNatClampNeg))
  refine R_callL (As := [.ref 0, .int (xs (nI i + 1).toNatClampNeg), .ref 473]) cx_186 (w_throwAway hf hk9 (A9 o)) hN dL_law_856 (by decide) (by omega) (by omega) rfl rfl (by decide) (fun v9 h9 hz => ?_) (fun E9 h9 hz => by cases hz.1)
  obtain ⟨e1, rfl⟩ := hz
  cases e1
  show Q _ _ _ _ _ _ _ _ _ _ [.int (nI k9)] _ _ _
  obtain ⟨o2, eo2⟩ : ∃ o2, o2 = (if k9 = 0 then (vp_updL o.1 0 (x9.toInt64), o.2) else o) := ⟨_, rfl⟩
  rw [← eo2]
  have B := B9 o2
  refine R_istore dL_law_859 (by decide) (st6 rfl) ?_
  refine R_aload_n dL_law_861 rfl rfl ?_
  refine R_aload_n dL_law_862 rfl rfl ?_
  refine R_iload dL_law_863 (by decide) rfl ?_
  refine R_iconst (v := 1) dL_law_865 (by decide) ?_
  refine R_iadd dL_law_866 ?_
  refine R_sld hG dL_law_867 (vx_ix1 i hi hL) ?_
  refine G_cV1 cw_L_188 B dL_law_868 (rcv cok10 rfl (Nat.le_of_ble_eq_true rfl)) ⟨by decide, by omega, by omega, by decide⟩ ?_
  refine R_istore dL_law_871 (by decide) (st7 rfl) ?_
  refine R_aload_n dL_law_873 rfl rfl ?_
  refine G_cV0 cw_L_151 (s_X10_thrown hf) dL_law_874 (rcv cok10 rfl (Nat.le_of_ble_eq_true rfl)) ⟨by decide, by omega, by omega, by decide⟩ ?_
  refine R_topE (show M2 464 9 = nI k9 from e9) ?_
  refine R_iload dL_law_877 (by decide) rfl ?_
  refine R_icmp_eq_t (tgt := 884) dL_law_879 rfl rfl ?_
  refine R_iload dL_law_884 (by decide) rfl ?_
  by_cases k0 : k9 = 0
  · subst k0
    obtain rfl := exy rfl
    rw [if_pos rfl] at eo2
    subst eo2
    refine R_if_ne_f (tgt := 901) dL_law_886 rfl rfl ?_
    refine R_aload_n dL_law_889 rfl rfl ?_
    refine R_iconst (v := 0) dL_law_890 (by decide) ?_
    refine G_lald dL_law_891 (show vp_in (0 : Int32) 1 from nI_in12 (k := 0) (n := 1) (by omega) (by omega)) ?_
    show Q _ _ _ _ _ _ _ _ _ _ [.long (vp_updL o.1 0 (x9.toInt64) 0)] _ _ _
    rw [vu_0]
    refine R_iload dL_law_892 (by decide) rfl ?_
    refine R_i2l dL_law_894 rfl ?_
    refine R_lcmp dL_law_895 ?_
    rw [lg_self]
    refine R_if_eq_t (tgt := 901) dL_law_896 rfl rfl ?_
    refine R_goto (tgt := 2420) dL_law_901 rfl ?_
    refine R_weak dr7 (R_weak dr6 ?_)
    refine R_widen (by omega) (by omega) (K _ _ _ r9)
  · refine R_if_ne_t (tgt := 901) dL_law_886 rfl (nI_n0 (by omega) k0) ?_
    refine R_goto (tgt := 2420) dL_law_901 rfl ?_
    refine R_weak dr7 (R_weak dr6 ?_)
    refine R_widen (by omega) (by omega) (K _ _ _ r9)
theorem lc_fishOf (hf : l.stackTraces = false) (hG : SCR b L xs G) (hN : NCG G) (hi : i + 4 ≤ L) (hL : L ≤ 2048) (hc : ce + 3 ≤ RC9) (hs : sl + 18 ≤ RS9) (h : REL M p) (K : ∀ M2 p1 o2, REL M2 p1 → Q l RL cL_law 9 19 RC9 RS9 G 2420 (LL (nI i)) [] (hp M2 (p1, o2)) (ce + 3) (sl + 18)) : Q l RL cL_law 9 19 RC9 RS9 G 904 (LL (nI i)) [] (hp M (p, o)) ce sl := by
  refine R_aload_n dL_law_904 rfl rfl ?_
  refine R_aload_n dL_law_905 rfl rfl ?_
  refine R_iload dL_law_906 (by decide) rfl ?_
  refine R_iconst (v := 1) dL_law_908 (by decide) ?_
  refine R_iadd dL_law_909 ?_
  refine R_sld hG dL_law_910 (vx_ix1 i hi hL) ?_
  refine R_aload_n dL_law_911 rfl rfl ?_
  refine R_iload dL_law_912 (by decide) rfl ?_
  refine R_iconst (v := 2) dL_law_914 (by decide) ?_
  refine R_iadd dL_law_915 ?_
  refine R_sld hG dL_law_916 (vx_ix2 i hi hL) ?_
  refine R_aload_n dL_law_917 rfl rfl ?_
  obtain ⟨k9, x9, y9, M1, M2, p1, A9, B9, hk9, e9, exy, r9⟩ := P_fishOf hf h (x := (xs (nI i + 1).toNatClampNeg)) (q := (xs (nI i + 2).toNatClampNeg))
  refine R_callL (As := [.ref 0, .int (xs (nI i + 1).toNatClampNeg), .int (xs (nI i + 2).toNatClampNeg), .ref 473]) cx_189 (w_fishOf hf hk9 (A9 o)) hN dL_law_918 (by decide) (by omega) (by omega) rfl rfl (by decide) (fun v9 h9 hz => ?_) (fun E9 h9 hz => by cases hz.1)
  obtain ⟨e1, rfl⟩ := hz
  cases e1
  show Q _ _ _ _ _ _ _ _ _ _ [.int (nI k9)] _ _ _
  obtain ⟨o2, eo2⟩ : ∃ o2, o2 = (if k9 = 0 then (vp_updL o.1 0 (x9.toInt64), o.2) else o) := ⟨_, rfl⟩
  rw [← eo2]
  have B := B9 o2
  refine R_istore dL_law_921 (by decide) (st6 rfl) ?_
  refine R_aload_n dL_law_923 rfl rfl ?_
  refine R_aload_n dL_law_924 rfl rfl ?_
  refine R_iload dL_law_925 (by decide) rfl ?_
  refine R_iconst (v := 1) dL_law_927 (by decide) ?_
  refine R_iadd dL_law_928 ?_
  refine R_sld hG dL_law_929 (vx_ix1 i hi hL) ?_
  refine R_aload_n dL_law_930 rfl rfl ?_
  refine R_iload dL_law_931 (by decide) rfl ?_
  refine R_iconst (v := 2) dL_law_933 (by decide) ?_
  refine R_iadd dL_law_934 ?_
  refine R_sld hG dL_law_935 (vx_ix2 i hi hL) ?_
  refine G_cV2 cw_L_192 B dL_law_936 (rcv cok10 rfl (Nat.le_of_ble_eq_true rfl)) ⟨by decide, by omega, by omega, by decide⟩ ?_
  refine R_istore dL_law_939 (by decide) (st7 rfl) ?_
  refine R_aload_n dL_law_941 rfl rfl ?_
  refine G_cV0 cw_L_151 (s_X10_thrown hf) dL_law_942 (rcv cok10 rfl (Nat.le_of_ble_eq_true rfl)) ⟨by decide, by omega, by omega, by decide⟩ ?_
  refine R_topE (show M2 464 9 = nI k9 from e9) ?_
  refine R_iload dL_law_945 (by decide) rfl ?_
  refine R_icmp_eq_t (tgt := 952) dL_law_947 rfl rfl ?_
  refine R_iload dL_law_952 (by decide) rfl ?_
  by_cases k0 : k9 = 0
  · subst k0
    obtain rfl := exy rfl
    rw [if_pos rfl] at eo2
    subst eo2
    refine R_if_ne_f (tgt := 969) dL_law_954 rfl rfl ?_
    refine R_aload_n dL_law_957 rfl rfl ?_
    refine R_iconst (v := 0) dL_law_958 (by decide) ?_
    refine G_lald dL_law_959 (show vp_in (0 : Int32) 1 from nI_in12 (k := 0) (n := 1) (by omega) (by omega)) ?_
    show Q _ _ _ _ _ _ _ _ _ _ [.long (vp_updL o.1 0 (x9.toInt64) 0)] _ _ _
    rw [vu_0]
    refine R_iload dL_law_960 (by decide) rfl ?_
    refine R_i2l dL_law_962 rfl ?_
    refine R_lcmp dL_law_963 ?_
    rw [lg_self]
    refine R_if_eq_t (tgt := 969) dL_law_964 rfl rfl ?_
    refine R_goto (tgt := 2420) dL_law_969 rfl ?_
    refine R_weak dr7 (R_weak dr6 ?_)
    refine R_widen (by omega) (by omega) (K _ _ _ r9)
  · refine R_if_ne_t (tgt := 969) dL_law_954 rfl (nI_n0 (by omega) k0) ?_
    refine R_goto (tgt := 2420) dL_law_969 rfl ?_
    refine R_weak dr7 (R_weak dr6 ?_)
    refine R_widen (by omega) (by omega) (K _ _ _ r9)
theorem lc_sideOf (hf : l.stackTraces = false) (hG : SCR b L xs G) (hN : NCG G) (hi : i + 4 ≤ L) (hL : L ≤ 2048) (hc : ce + 3 ≤ RC9) (hs : sl + 18 ≤ RS9) (h : REL M p) (K : ∀ M2 p1 o2, REL M2 p1 → Q l RL cL_law 9 19 RC9 RS9 G 2420 (LL (nI i)) [] (hp M2 (p1, o2)) (ce + 3) (sl + 18)) : Q l RL cL_law 9 19 RC9 RS9 G 972 (LL (nI i)) [] (hp M (p, o)) ce sl := by
  by_cases y0 : (xs (nI i + 3).toNatClampNeg) = 0
  · refine R_aload_n dL_law_972 rfl rfl ?_
    refine R_aload_n dL_law_973 rfl rfl ?_
    refine R_iload dL_law_974 (by decide) rfl ?_
    refine R_iconst (v := 1) dL_law_976 (by decide) ?_
    refine R_iadd dL_law_977 ?_
    refine R_sld hG dL_law_978 (vx_ix1 i hi hL) ?_
    refine R_aload_n dL_law_979 rfl rfl ?_
    refine R_iload dL_law_980 (by decide) rfl ?_
    refine R_iconst (v := 2) dL_law_982 (by decide) ?_
    refine R_iadd dL_law_983 ?_
    refine R_sld hG dL_law_984 (vx_ix2 i hi hL) ?_
    refine R_aload_n dL_law_985 rfl rfl ?_
    refine R_iload dL_law_986 (by decide) rfl ?_
    refine R_iconst (v := 3) dL_law_988 (by decide) ?_
    refine R_iadd dL_law_989 ?_
    refine R_sld hG dL_law_990 (vx_ix3 i hi hL) ?_
    refine R_if_eq_t (tgt := 998) dL_law_991 rfl y0 ?_
    refine R_iconst (v := 0) dL_law_998 (by decide) ?_
    refine R_aload_n dL_law_999 rfl rfl ?_
    obtain ⟨k9, x9, y9, M1, M2, p1, A9, B9, hk9, e9, exy, r9⟩ := P_sideOf hf h (x := (xs (nI i + 1).toNatClampNeg)) (q := (xs (nI i + 2).toNatClampNeg)) (y := 0)
    refine R_callL (As := [.ref 0, .int (xs (nI i + 1).toNatClampNeg), .int (xs (nI i + 2).toNatClampNeg), .int 0, .ref 473]) cx_193 (w_sideOf hf hk9 (A9 o)) hN dL_law_1000 (by decide) (by omega) (by omega) rfl rfl (by decide) (fun v9 h9 hz => ?_) (fun E9 h9 hz => by cases hz.1)
    obtain ⟨e1, rfl⟩ := hz
    cases e1
    show Q _ _ _ _ _ _ _ _ _ _ [.int (nI k9)] _ _ _
    obtain ⟨o2, eo2⟩ : ∃ o2, o2 = (if k9 = 0 then (vp_updL o.1 0 (x9.toInt64), o.2) else o) := ⟨_, rfl⟩
    rw [← eo2]
    have B := B9 o2
    refine R_istore dL_law_1003 (by decide) (st6 rfl) ?_
    refine R_aload_n dL_law_1005 rfl rfl ?_
    refine R_aload_n dL_law_1006 rfl rfl ?_
    refine R_iload dL_law_1007 (by decide) rfl ?_
    refine R_iconst (v := 1) dL_law_1009 (by decide) ?_
    refine R_iadd dL_law_1010 ?_
    refine R_sld hG dL_law_1011 (vx_ix1 i hi hL) ?_
    refine R_aload_n dL_law_1012 rfl rfl ?_
    refine R_iload dL_law_1013 (by decide) rfl ?_
    refine R_iconst (v := 2) dL_law_1015 (by decide) ?_
    refine R_iadd dL_law_1016 ?_
    refine R_sld hG dL_law_1017 (vx_ix2 i hi hL) ?_
    refine R_aload_n dL_law_1018 rfl rfl ?_
    refine R_iload dL_law_1019 (by decide) rfl ?_
    refine R_iconst (v := 3) dL_law_1021 (by decide) ?_
    refine R_iadd dL_law_1022 ?_
    refine R_sld hG dL_law_1023 (vx_ix3 i hi hL) ?_
    refine R_if_eq_t (tgt := 1031) dL_law_1024 rfl y0 ?_
    refine R_iconst (v := 0) dL_law_1031 (by decide) ?_
    refine G_cV3 cw_L_196 B dL_law_1032 (rcv cok10 rfl (Nat.le_of_ble_eq_true rfl)) ⟨by decide, by omega, by omega, by decide⟩ ?_
    refine R_istore dL_law_1035 (by decide) (st7 rfl) ?_
    refine R_aload_n dL_law_1037 rfl rfl ?_
    refine G_cV0 cw_L_151 (s_X10_thrown hf) dL_law_1038 (rcv cok10 rfl (Nat.le_of_ble_eq_true rfl)) ⟨by decide, by omega, by omega, by decide⟩ ?_
    refine R_topE (show M2 464 9 = nI k9 from e9) ?_
    refine R_iload dL_law_1041 (by decide) rfl ?_
    refine R_icmp_eq_t (tgt := 1048) dL_law_1043 rfl rfl ?_
    refine R_iload dL_law_1048 (by decide) rfl ?_
    by_cases k0 : k9 = 0
    · subst k0
      obtain rfl := exy rfl
      rw [if_pos rfl] at eo2
      subst eo2
      refine R_if_ne_f (tgt := 1065) dL_law_1050 rfl rfl ?_
      refine R_aload_n dL_law_1053 rfl rfl ?_
      refine R_iconst (v := 0) dL_law_1054 (by decide) ?_
      refine G_lald dL_law_1055 (show vp_in (0 : Int32) 1 from nI_in12 (k := 0) (n := 1) (by omega) (by omega)) ?_
      show Q _ _ _ _ _ _ _ _ _ _ [.long (vp_updL o.1 0 (x9.toInt64) 0)] _ _ _
      rw [vu_0]
      refine R_iload dL_law_1056 (by decide) rfl ?_
      refine R_i2l dL_law_1058 rfl ?_
      refine R_lcmp dL_law_1059 ?_
      rw [lg_self]
      refine R_if_eq_t (tgt := 1065) dL_law_1060 rfl rfl ?_
      refine R_goto (tgt := 2420) dL_law_1065 rfl ?_
      refine R_weak dr7 (R_weak dr6 ?_)
      refine R_widen (by omega) (by omega) (K _ _ _ r9)
    · refine R_if_ne_t (tgt := 1065) dL_law_1050 rfl (nI_n0 (by omega) k0) ?_
      refine R_goto (tgt := 2420) dL_law_1065 rfl ?_
      refine R_weak dr7 (R_weak dr6 ?_)
      refine R_widen (by omega) (by omega) (K _ _ _ r9)
  · refine R_aload_n dL_law_972 rfl rfl ?_
    refine R_aload_n dL_law_973 rfl rfl ?_
    refine R_iload dL_law_974 (by decide) rfl ?_
    refine R_iconst (v := 1) dL_law_976 (by decide) ?_
    refine R_iadd dL_law_977 ?_
    refine R_sld hG dL_law_978 (vx_ix1 i hi hL) ?_
    refine R_aload_n dL_law_979 rfl rfl ?_
    refine R_iload dL_law_980 (by decide) rfl ?_
    refine R_iconst (v := 2) dL_law_982 (by decide) ?_
    refine R_iadd dL_law_983 ?_
    refine R_sld hG dL_law_984 (vx_ix2 i hi hL) ?_
    refine R_aload_n dL_law_985 rfl rfl ?_
    refine R_iload dL_law_986 (by decide) rfl ?_
    refine R_iconst (v := 3) dL_law_988 (by decide) ?_
    refine R_iadd dL_law_989 ?_
    refine R_sld hG dL_law_990 (vx_ix3 i hi hL) ?_
    refine R_if_eq_f (tgt := 998) dL_law_991 rfl y0 ?_
    refine R_iconst (v := 1) dL_law_994 (by decide) ?_
    refine R_goto (tgt := 999) dL_law_995 rfl ?_
    refine R_aload_n dL_law_999 rfl rfl ?_
    obtain ⟨k9, x9, y9, M1, M2, p1, A9, B9, hk9, e9, exy, r9⟩ := P_sideOf hf h (x := (xs (nI i + 1).toNatClampNeg)) (q := (xs (nI i + 2).toNatClampNeg)) (y := 1)
    refine R_callL (As := [.ref 0, .int (xs (nI i + 1).toNatClampNeg), .int (xs (nI i + 2).toNatClampNeg), .int 1, .ref 473]) cx_193 (w_sideOf hf hk9 (A9 o)) hN dL_law_1000 (by decide) (by omega) (by omega) rfl rfl (by decide) (fun v9 h9 hz => ?_) (fun E9 h9 hz => by cases hz.1)
    obtain ⟨e1, rfl⟩ := hz
    cases e1
    show Q _ _ _ _ _ _ _ _ _ _ [.int (nI k9)] _ _ _
    obtain ⟨o2, eo2⟩ : ∃ o2, o2 = (if k9 = 0 then (vp_updL o.1 0 (x9.toInt64), o.2) else o) := ⟨_, rfl⟩
    rw [← eo2]
    have B := B9 o2
    refine R_istore dL_law_1003 (by decide) (st6 rfl) ?_
    refine R_aload_n dL_law_1005 rfl rfl ?_
    refine R_aload_n dL_law_1006 rfl rfl ?_
    refine R_iload dL_law_1007 (by decide) rfl ?_
    refine R_iconst (v := 1) dL_law_1009 (by decide) ?_
    refine R_iadd dL_law_1010 ?_
    refine R_sld hG dL_law_1011 (vx_ix1 i hi hL) ?_
    refine R_aload_n dL_law_1012 rfl rfl ?_
    refine R_iload dL_law_1013 (by decide) rfl ?_
    refine R_iconst (v := 2) dL_law_1015 (by decide) ?_
    refine R_iadd dL_law_1016 ?_
    refine R_sld hG dL_law_1017 (vx_ix2 i hi hL) ?_
    refine R_aload_n dL_law_1018 rfl rfl ?_
    refine R_iload dL_law_1019 (by decide) rfl ?_
    refine R_iconst (v := 3) dL_law_1021 (by decide) ?_
    refine R_iadd dL_law_1022 ?_
    refine R_sld hG dL_law_1023 (vx_ix3 i hi hL) ?_
    refine R_if_eq_f (tgt := 1031) dL_law_1024 rfl y0 ?_
    refine R_iconst (v := 1) dL_law_1027 (by decide) ?_
    refine R_goto (tgt := 1032) dL_law_1028 rfl ?_
    refine G_cV3 cw_L_196 B dL_law_1032 (rcv cok10 rfl (Nat.le_of_ble_eq_true rfl)) ⟨by decide, by omega, by omega, by decide⟩ ?_
    refine R_istore dL_law_1035 (by decide) (st7 rfl) ?_
    refine R_aload_n dL_law_1037 rfl rfl ?_
    refine G_cV0 cw_L_151 (s_X10_thrown hf) dL_law_1038 (rcv cok10 rfl (Nat.le_of_ble_eq_true rfl)) ⟨by decide, by omega, by omega, by decide⟩ ?_
    refine R_topE (show M2 464 9 = nI k9 from e9) ?_
    refine R_iload dL_law_1041 (by decide) rfl ?_
    refine R_icmp_eq_t (tgt := 1048) dL_law_1043 rfl rfl ?_
    refine R_iload dL_law_1048 (by decide) rfl ?_
    by_cases k0 : k9 = 0
    · subst k0
      obtain rfl := exy rfl
      rw [if_pos rfl] at eo2
      subst eo2
      refine R_if_ne_f (tgt := 1065) dL_law_1050 rfl rfl ?_
      refine R_aload_n dL_law_1053 rfl rfl ?_
      refine R_iconst (v := 0) dL_law_1054 (by decide) ?_
      refine G_lald dL_law_1055 (show vp_in (0 : Int32) 1 from nI_in12 (k := 0) (n := 1) (by omega) (by omega)) ?_
      show Q _ _ _ _ _ _ _ _ _ _ [.long (vp_updL o.1 0 (x9.toInt64) 0)] _ _ _
      rw [vu_0]
      refine R_iload dL_law_1056 (by decide) rfl ?_
      refine R_i2l dL_law_1058 rfl ?_
      refine R_lcmp dL_law_1059 ?_
      rw [lg_self]
      refine R_if_eq_t (tgt := 1065) dL_law_1060 rfl rfl ?_
      refine R_goto (tgt := 2420) dL_law_1065 rfl ?_
      refine R_weak dr7 (R_weak dr6 ?_)
      refine R_widen (by omega) (by omega) (K _ _ _ r9)
    · refine R_if_ne_t (tgt := 1065) dL_law_1050 rfl (nI_n0 (by omega) k0) ?_
      refine R_goto (tgt := 2420) dL_law_1065 rfl ?_
      refine R_weak dr7 (R_weak dr6 ?_)
      refine R_widen (by omega) (by omega) (K _ _ _ r9)
theorem lc_at (hf : l.stackTraces = false) (hG : SCR b L xs G) (hN : NCG G) (hi : i + 4 ≤ L) (hL : L ≤ 2048) (hc : ce + 3 ≤ RC9) (hs : sl + 18 ≤ RS9) (h : REL M p) (K : ∀ M2 p1 o2, REL M2 p1 → Q l RL cL_law 9 19 RC9 RS9 G 2420 (LL (nI i)) [] (hp M2 (p1, o2)) (ce + 3) (sl + 18)) : Q l RL cL_law 9 19 RC9 RS9 G 1068 (LL (nI i)) [] (hp M (p, o)) ce sl := by
  refine R_aload_n dL_law_1068 rfl rfl ?_
  refine R_aload_n dL_law_1069 rfl rfl ?_
  refine R_iload dL_law_1070 (by decide) rfl ?_
  refine R_iconst (v := 1) dL_law_1072 (by decide) ?_
  refine R_iadd dL_law_1073 ?_
  refine R_sld hG dL_law_1074 (vx_ix1 i hi hL) ?_
  refine R_aload_n dL_law_1075 rfl rfl ?_
  refine R_iload dL_law_1076 (by decide) rfl ?_
  refine R_iconst (v := 2) dL_law_1078 (by decide) ?_
  refine R_iadd dL_law_1079 ?_
  refine R_sld hG dL_law_1080 (vx_ix2 i hi hL) ?_
  refine R_aload_n dL_law_1081 rfl rfl ?_
  obtain ⟨k9, x9, y9, M1, M2, p1, A9, B9, hk9, e9, exy, r9⟩ := P_at hf h (x := (xs (nI i + 1).toNatClampNeg)) (q := (xs (nI i + 2).toNatClampNeg))
  refine R_callL (As := [.ref 0, .int (xs (nI i + 1).toNatClampNeg), .int (xs (nI i + 2).toNatClampNeg), .ref 473]) cx_197 (w_at hf hk9 (A9 o)) hN dL_law_1082 (by decide) (by omega) (by omega) rfl rfl (by decide) (fun v9 h9 hz => ?_) (fun E9 h9 hz => by cases hz.1)
  obtain ⟨e1, rfl⟩ := hz
  cases e1
  show Q _ _ _ _ _ _ _ _ _ _ [.int (nI k9)] _ _ _
  obtain ⟨o2, eo2⟩ : ∃ o2, o2 = (if k9 = 0 then (vp_updL o.1 0 (x9.toInt64), o.2) else o) := ⟨_, rfl⟩
  rw [← eo2]
  have B := B9 o2
  refine R_istore dL_law_1085 (by decide) (st6 rfl) ?_
  refine R_aload_n dL_law_1087 rfl rfl ?_
  refine R_aload_n dL_law_1088 rfl rfl ?_
  refine R_iload dL_law_1089 (by decide) rfl ?_
  refine R_iconst (v := 1) dL_law_1091 (by decide) ?_
  refine R_iadd dL_law_1092 ?_
  refine R_sld hG dL_law_1093 (vx_ix1 i hi hL) ?_
  refine R_aload_n dL_law_1094 rfl rfl ?_
  refine R_iload dL_law_1095 (by decide) rfl ?_
  refine R_iconst (v := 2) dL_law_1097 (by decide) ?_
  refine R_iadd dL_law_1098 ?_
  refine R_sld hG dL_law_1099 (vx_ix2 i hi hL) ?_
  refine G_cV2 cw_L_199 B dL_law_1100 (rcv cok10 rfl (Nat.le_of_ble_eq_true rfl)) ⟨by decide, by omega, by omega, by decide⟩ ?_
  refine R_istore dL_law_1103 (by decide) (st7 rfl) ?_
  refine R_aload_n dL_law_1105 rfl rfl ?_
  refine G_cV0 cw_L_151 (s_X10_thrown hf) dL_law_1106 (rcv cok10 rfl (Nat.le_of_ble_eq_true rfl)) ⟨by decide, by omega, by omega, by decide⟩ ?_
  refine R_topE (show M2 464 9 = nI k9 from e9) ?_
  refine R_iload dL_law_1109 (by decide) rfl ?_
  refine R_icmp_eq_t (tgt := 1116) dL_law_1111 rfl rfl ?_
  refine R_iload dL_law_1116 (by decide) rfl ?_
  by_cases k0 : k9 = 0
  · subst k0
    obtain rfl := exy rfl
    rw [if_pos rfl] at eo2
    subst eo2
    refine R_if_ne_f (tgt := 1133) dL_law_1118 rfl rfl ?_
    refine R_aload_n dL_law_1121 rfl rfl ?_
    refine R_iconst (v := 0) dL_law_1122 (by decide) ?_
    refine G_lald dL_law_1123 (show vp_in (0 : Int32) 1 from nI_in12 (k := 0) (n := 1) (by omega) (by omega)) ?_
    show Q _ _ _ _ _ _ _ _ _ _ [.long (vp_updL o.1 0 (x9.toInt64) 0)] _ _ _
    rw [vu_0]
    refine R_iload dL_law_1124 (by decide) rfl ?_
    refine R_i2l dL_law_1126 rfl ?_
    refine R_lcmp dL_law_1127 ?_
    rw [lg_self]
    refine R_if_eq_t (tgt := 1133) dL_law_1128 rfl rfl ?_
    refine R_goto (tgt := 2420) dL_law_1133 rfl ?_
    refine R_weak dr7 (R_weak dr6 ?_)
    refine R_widen (by omega) (by omega) (K _ _ _ r9)
  · refine R_if_ne_t (tgt := 1133) dL_law_1118 rfl (nI_n0 (by omega) k0) ?_
    refine R_goto (tgt := 2420) dL_law_1133 rfl ?_
    refine R_weak dr7 (R_weak dr6 ?_)
    refine R_widen (by omega) (by omega) (K _ _ _ r9)
theorem lc_heat (hf : l.stackTraces = false) (hG : SCR b L xs G) (hN : NCG G) (hi : i + 4 ≤ L) (hL : L ≤ 2048) (hc : ce + 3 ≤ RC9) (hs : sl + 18 ≤ RS9) (h : REL M p) (K : ∀ M2 p1 o2, REL M2 p1 → Q l RL cL_law 9 19 RC9 RS9 G 2420 (LL (nI i)) [] (hp M2 (p1, o2)) (ce + 3) (sl + 18)) : Q l RL cL_law 9 19 RC9 RS9 G 1136 (LL (nI i)) [] (hp M (p, o)) ce sl := by
  refine R_aload_n dL_law_1136 rfl rfl ?_
  refine R_aload_n dL_law_1137 rfl rfl ?_
  refine R_iload dL_law_1138 (by decide) rfl ?_
  refine R_iconst (v := 1) dL_law_1140 (by decide) ?_
  refine R_iadd dL_law_1141 ?_
  refine R_sld hG dL_law_1142 (vx_ix1 i hi hL) ?_
  refine R_aload_n dL_law_1143 rfl rfl ?_
  obtain ⟨k9, x9, y9, M1, M2, p1, A9, B9, hk9, e9, exy, r9⟩ := P_heat hf h (x := (xs (nI i + 1).toNatClampNeg))
  refine R_callL (As := [.ref 0, .int (xs (nI i + 1).toNatClampNeg), .ref 473]) cx_200 (w_heat hf hk9 (A9 o)) hN dL_law_1144 (by decide) (by omega) (by omega) rfl rfl (by decide) (fun v9 h9 hz => ?_) (fun E9 h9 hz => by cases hz.1)
  obtain ⟨e1, rfl⟩ := hz
  cases e1
  show Q _ _ _ _ _ _ _ _ _ _ [.int (nI k9)] _ _ _
  obtain ⟨o2, eo2⟩ : ∃ o2, o2 = (if k9 = 0 then (vp_updL o.1 0 (x9.toInt64), o.2) else o) := ⟨_, rfl⟩
  rw [← eo2]
  have B := B9 o2
  refine R_istore dL_law_1147 (by decide) (st6 rfl) ?_
  refine R_aload_n dL_law_1149 rfl rfl ?_
  refine R_aload_n dL_law_1150 rfl rfl ?_
  refine R_iload dL_law_1151 (by decide) rfl ?_
  refine R_iconst (v := 1) dL_law_1153 (by decide) ?_
  refine R_iadd dL_law_1154 ?_
  refine R_sld hG dL_law_1155 (vx_ix1 i hi hL) ?_
  refine G_cV1 cw_L_202 B dL_law_1156 (rcv cok10 rfl (Nat.le_of_ble_eq_true rfl)) ⟨by decide, by omega, by omega, by decide⟩ ?_
  refine R_istore dL_law_1159 (by decide) (st7 rfl) ?_
  refine R_aload_n dL_law_1161 rfl rfl ?_
  refine G_cV0 cw_L_151 (s_X10_thrown hf) dL_law_1162 (rcv cok10 rfl (Nat.le_of_ble_eq_true rfl)) ⟨by decide, by omega, by omega, by decide⟩ ?_
  refine R_topE (show M2 464 9 = nI k9 from e9) ?_
  refine R_iload dL_law_1165 (by decide) rfl ?_
  refine R_icmp_eq_t (tgt := 1172) dL_law_1167 rfl rfl ?_
  refine R_iload dL_law_1172 (by decide) rfl ?_
  by_cases k0 : k9 = 0
  · subst k0
    obtain rfl := exy rfl
    rw [if_pos rfl] at eo2
    subst eo2
    refine R_if_ne_f (tgt := 1189) dL_law_1174 rfl rfl ?_
    refine R_aload_n dL_law_1177 rfl rfl ?_
    refine R_iconst (v := 0) dL_law_1178 (by decide) ?_
    refine G_lald dL_law_1179 (show vp_in (0 : Int32) 1 from nI_in12 (k := 0) (n := 1) (by omega) (by omega)) ?_
    show Q _ _ _ _ _ _ _ _ _ _ [.long (vp_updL o.1 0 (x9.toInt64) 0)] _ _ _
    rw [vu_0]
    refine R_iload dL_law_1180 (by decide) rfl ?_
    refine R_i2l dL_law_1182 rfl ?_
    refine R_lcmp dL_law_1183 ?_
    rw [lg_self]
    refine R_if_eq_t (tgt := 1189) dL_law_1184 rfl rfl ?_
    refine R_goto (tgt := 2420) dL_law_1189 rfl ?_
    refine R_weak dr7 (R_weak dr6 ?_)
    refine R_widen (by omega) (by omega) (K _ _ _ r9)
  · refine R_if_ne_t (tgt := 1189) dL_law_1174 rfl (nI_n0 (by omega) k0) ?_
    refine R_goto (tgt := 2420) dL_law_1189 rfl ?_
    refine R_weak dr7 (R_weak dr6 ?_)
    refine R_widen (by omega) (by omega) (K _ _ _ r9)
theorem lc_nearest (hf : l.stackTraces = false) (hG : SCR b L xs G) (hN : NCG G) (hi : i + 4 ≤ L) (hL : L ≤ 2048) (hc : ce + 3 ≤ RC9) (hs : sl + 18 ≤ RS9) (h : REL M p) (K : ∀ M2 p1 o2, REL M2 p1 → Q l RL cL_law 9 19 RC9 RS9 G 2420 (LL (nI i)) [] (hp M2 (p1, o2)) (ce + 3) (sl + 18)) : Q l RL cL_law 9 19 RC9 RS9 G 1192 (LL (nI i)) [] (hp M (p, o)) ce sl := by
  refine R_aload_n dL_law_1192 rfl rfl ?_
  refine R_aload_n dL_law_1193 rfl rfl ?_
  refine R_iload dL_law_1194 (by decide) rfl ?_
  refine R_iconst (v := 1) dL_law_1196 (by decide) ?_
  refine R_iadd dL_law_1197 ?_
  refine R_sld hG dL_law_1198 (vx_ix1 i hi hL) ?_
  refine R_aload_n dL_law_1199 rfl rfl ?_
  obtain ⟨k9, x9, y9, M1, M2, p1, A9, B9, hk9, e9, exy, r9⟩ := P_nearest hf h (x := (xs (nI i + 1).toNatClampNeg))
  refine R_callL (As := [.ref 0, .int (xs (nI i + 1).toNatClampNeg), .ref 473]) cx_203 (w_nearest hf hk9 (A9 o)) hN dL_law_1200 (by decide) (by omega) (by omega) rfl rfl (by decide) (fun v9 h9 hz => ?_) (fun E9 h9 hz => by cases hz.1)
  obtain ⟨e1, rfl⟩ := hz
  cases e1
  show Q _ _ _ _ _ _ _ _ _ _ [.int (nI k9)] _ _ _
  obtain ⟨o2, eo2⟩ : ∃ o2, o2 = (if k9 = 0 then (vp_updL o.1 0 (x9.toInt64), o.2) else o) := ⟨_, rfl⟩
  rw [← eo2]
  have B := B9 o2
  refine R_istore dL_law_1203 (by decide) (st6 rfl) ?_
  refine R_aload_n dL_law_1205 rfl rfl ?_
  refine R_aload_n dL_law_1206 rfl rfl ?_
  refine R_iload dL_law_1207 (by decide) rfl ?_
  refine R_iconst (v := 1) dL_law_1209 (by decide) ?_
  refine R_iadd dL_law_1210 ?_
  refine R_sld hG dL_law_1211 (vx_ix1 i hi hL) ?_
  refine G_cV1 cw_L_205 B dL_law_1212 (rcv cok10 rfl (Nat.le_of_ble_eq_true rfl)) ⟨by decide, by omega, by omega, by decide⟩ ?_
  refine R_istore dL_law_1215 (by decide) (st7 rfl) ?_
  refine R_aload_n dL_law_1217 rfl rfl ?_
  refine G_cV0 cw_L_151 (s_X10_thrown hf) dL_law_1218 (rcv cok10 rfl (Nat.le_of_ble_eq_true rfl)) ⟨by decide, by omega, by omega, by decide⟩ ?_
  refine R_topE (show M2 464 9 = nI k9 from e9) ?_
  refine R_iload dL_law_1221 (by decide) rfl ?_
  refine R_icmp_eq_t (tgt := 1228) dL_law_1223 rfl rfl ?_
  refine R_iload dL_law_1228 (by decide) rfl ?_
  by_cases k0 : k9 = 0
  · subst k0
    obtain rfl := exy rfl
    rw [if_pos rfl] at eo2
    subst eo2
    refine R_if_ne_f (tgt := 1245) dL_law_1230 rfl rfl ?_
    refine R_aload_n dL_law_1233 rfl rfl ?_
    refine R_iconst (v := 0) dL_law_1234 (by decide) ?_
    refine G_lald dL_law_1235 (show vp_in (0 : Int32) 1 from nI_in12 (k := 0) (n := 1) (by omega) (by omega)) ?_
    show Q _ _ _ _ _ _ _ _ _ _ [.long (vp_updL o.1 0 (x9.toInt64) 0)] _ _ _
    rw [vu_0]
    refine R_iload dL_law_1236 (by decide) rfl ?_
    refine R_i2l dL_law_1238 rfl ?_
    refine R_lcmp dL_law_1239 ?_
    rw [lg_self]
    refine R_if_eq_t (tgt := 1245) dL_law_1240 rfl rfl ?_
    refine R_goto (tgt := 2420) dL_law_1245 rfl ?_
    refine R_weak dr7 (R_weak dr6 ?_)
    refine R_widen (by omega) (by omega) (K _ _ _ r9)
  · refine R_if_ne_t (tgt := 1245) dL_law_1230 rfl (nI_n0 (by omega) k0) ?_
    refine R_goto (tgt := 2420) dL_law_1245 rfl ?_
    refine R_weak dr7 (R_weak dr6 ?_)
    refine R_widen (by omega) (by omega) (K _ _ _ r9)
theorem lc_isCrowded (hf : l.stackTraces = false) (hG : SCR b L xs G) (hN : NCG G) (hi : i + 4 ≤ L) (hL : L ≤ 2048) (hc : ce + 3 ≤ RC9) (hs : sl + 18 ≤ RS9) (h : REL M p) (K : ∀ M2 p1 o2, REL M2 p1 → Q l RL cL_law 9 19 RC9 RS9 G 2420 (LL (nI i)) [] (hp M2 (p1, o2)) (ce + 3) (sl + 18)) : Q l RL cL_law 9 19 RC9 RS9 G 1248 (LL (nI i)) [] (hp M (p, o)) ce sl := by
  refine R_aload_n dL_law_1248 rfl rfl ?_
  refine R_aload_n dL_law_1249 rfl rfl ?_
  refine R_iload dL_law_1250 (by decide) rfl ?_
  refine R_iconst (v := 1) dL_law_1252 (by decide) ?_
  refine R_iadd dL_law_1253 ?_
  refine R_sld hG dL_law_1254 (vx_ix1 i hi hL) ?_
  refine R_aload_n dL_law_1255 rfl rfl ?_
  obtain ⟨k9, x9, y9, M1, M2, p1, A9, B9, hk9, e9, exy, r9⟩ := P_isCrowded hf h (x := (xs (nI i + 1).toNatClampNeg))
  refine R_callL (As := [.ref 0, .int (xs (nI i + 1).toNatClampNeg), .ref 473]) cx_206 (w_isCrowded hf hk9 (A9 o)) hN dL_law_1256 (by decide) (by omega) (by omega) rfl rfl (by decide) (fun v9 h9 hz => ?_) (fun E9 h9 hz => by cases hz.1)
  obtain ⟨e1, rfl⟩ := hz
  cases e1
  show Q _ _ _ _ _ _ _ _ _ _ [.int (nI k9)] _ _ _
  obtain ⟨o2, eo2⟩ : ∃ o2, o2 = (if k9 = 0 then (vp_updL o.1 0 (if x9 = 0 then 0 else 1), o.2) else o) := ⟨_, rfl⟩
  rw [← eo2]
  have B := B9 o2
  refine R_istore dL_law_1259 (by decide) (st6 rfl) ?_
  refine R_aload_n dL_law_1261 rfl rfl ?_
  refine R_aload_n dL_law_1262 rfl rfl ?_
  refine R_iload dL_law_1263 (by decide) rfl ?_
  refine R_iconst (v := 1) dL_law_1265 (by decide) ?_
  refine R_iadd dL_law_1266 ?_
  refine R_sld hG dL_law_1267 (vx_ix1 i hi hL) ?_
  refine G_cV1 cw_L_208 B dL_law_1268 (rcv cok10 rfl (Nat.le_of_ble_eq_true rfl)) ⟨by decide, by omega, by omega, by decide⟩ ?_
  refine R_istore dL_law_1271 (by decide) (st7 rfl) ?_
  refine R_aload_n dL_law_1273 rfl rfl ?_
  refine G_cV0 cw_L_151 (s_X10_thrown hf) dL_law_1274 (rcv cok10 rfl (Nat.le_of_ble_eq_true rfl)) ⟨by decide, by omega, by omega, by decide⟩ ?_
  refine R_topE (show M2 464 9 = nI k9 from e9) ?_
  refine R_iload dL_law_1277 (by decide) rfl ?_
  refine R_icmp_eq_t (tgt := 1284) dL_law_1279 rfl rfl ?_
  refine R_iload dL_law_1284 (by decide) rfl ?_
  by_cases k0 : k9 = 0
  · subst k0
    obtain rfl := exy rfl
    rw [if_pos rfl] at eo2
    subst eo2
    refine R_if_ne_f (tgt := 1308) dL_law_1286 rfl rfl ?_
    refine R_aload_n dL_law_1289 rfl rfl ?_
    refine R_iconst (v := 0) dL_law_1290 (by decide) ?_
    refine G_lald dL_law_1291 (show vp_in (0 : Int32) 1 from nI_in12 (k := 0) (n := 1) (by omega) (by omega)) ?_
    show Q _ _ _ _ _ _ _ _ _ _ [.long (vp_updL o.1 0 (if x9 = 0 then 0 else 1) 0)] _ _ _
    rw [vu_0]
    refine R_iload dL_law_1292 (by decide) rfl ?_
    by_cases x0 : x9 = 0
    · refine R_if_eq_t (tgt := 1301) dL_law_1294 rfl x0 ?_
      rw [if_pos x0]
      refine R_lconst (v := 0) dL_law_1301 rfl ?_
      refine R_lcmp dL_law_1302 ?_
      rw [lg_self]
      refine R_if_eq_t (tgt := 1308) dL_law_1303 rfl rfl ?_
      refine R_goto (tgt := 2420) dL_law_1308 rfl ?_
      refine R_weak dr7 (R_weak dr6 ?_)
      refine R_widen (by omega) (by omega) (K _ _ _ r9)
    · refine R_if_eq_f (tgt := 1301) dL_law_1294 rfl x0 ?_
      rw [if_neg x0]
      refine R_lconst (v := 1) dL_law_1297 rfl ?_
      refine R_goto (tgt := 1302) dL_law_1298 rfl ?_
      refine R_lcmp dL_law_1302 ?_
      rw [lg_self]
      refine R_if_eq_t (tgt := 1308) dL_law_1303 rfl rfl ?_
      refine R_goto (tgt := 2420) dL_law_1308 rfl ?_
      refine R_weak dr7 (R_weak dr6 ?_)
      refine R_widen (by omega) (by omega) (K _ _ _ r9)
  · refine R_if_ne_t (tgt := 1308) dL_law_1286 rfl (nI_n0 (by omega) k0) ?_
    refine R_goto (tgt := 2420) dL_law_1308 rfl ?_
    refine R_weak dr7 (R_weak dr6 ?_)
    refine R_widen (by omega) (by omega) (K _ _ _ r9)
theorem lc_isDone (hf : l.stackTraces = false) (hG : SCR b L xs G) (hN : NCG G) (hi : i + 4 ≤ L) (hL : L ≤ 2048) (hc : ce + 3 ≤ RC9) (hs : sl + 18 ≤ RS9) (h : REL M p) (K : ∀ M2 p1 o2, REL M2 p1 → Q l RL cL_law 9 19 RC9 RS9 G 2420 (LL (nI i)) [] (hp M2 (p1, o2)) (ce + 3) (sl + 18)) : Q l RL cL_law 9 19 RC9 RS9 G 1311 (LL (nI i)) [] (hp M (p, o)) ce sl := by
  refine R_aload_n dL_law_1311 rfl rfl ?_
  refine R_aload_n dL_law_1312 rfl rfl ?_
  refine R_iload dL_law_1313 (by decide) rfl ?_
  refine R_iconst (v := 1) dL_law_1315 (by decide) ?_
  refine R_iadd dL_law_1316 ?_
  refine R_sld hG dL_law_1317 (vx_ix1 i hi hL) ?_
  refine R_aload_n dL_law_1318 rfl rfl ?_
  obtain ⟨k9, x9, y9, M1, M2, p1, A9, B9, hk9, e9, exy, r9⟩ := P_isDone hf h (x := (xs (nI i + 1).toNatClampNeg))
  refine R_callL (As := [.ref 0, .int (xs (nI i + 1).toNatClampNeg), .ref 473]) cx_209 (w_isDone hf hk9 (A9 o)) hN dL_law_1319 (by decide) (by omega) (by omega) rfl rfl (by decide) (fun v9 h9 hz => ?_) (fun E9 h9 hz => by cases hz.1)
  obtain ⟨e1, rfl⟩ := hz
  cases e1
  show Q _ _ _ _ _ _ _ _ _ _ [.int (nI k9)] _ _ _
  obtain ⟨o2, eo2⟩ : ∃ o2, o2 = (if k9 = 0 then (vp_updL o.1 0 (if x9 = 0 then 0 else 1), o.2) else o) := ⟨_, rfl⟩
  rw [← eo2]
  have B := B9 o2
  refine R_istore dL_law_1322 (by decide) (st6 rfl) ?_
  refine R_aload_n dL_law_1324 rfl rfl ?_
  refine R_aload_n dL_law_1325 rfl rfl ?_
  refine R_iload dL_law_1326 (by decide) rfl ?_
  refine R_iconst (v := 1) dL_law_1328 (by decide) ?_
  refine R_iadd dL_law_1329 ?_
  refine R_sld hG dL_law_1330 (vx_ix1 i hi hL) ?_
  refine G_cV1 cw_L_211 B dL_law_1331 (rcv cok10 rfl (Nat.le_of_ble_eq_true rfl)) ⟨by decide, by omega, by omega, by decide⟩ ?_
  refine R_istore dL_law_1334 (by decide) (st7 rfl) ?_
  refine R_aload_n dL_law_1336 rfl rfl ?_
  refine G_cV0 cw_L_151 (s_X10_thrown hf) dL_law_1337 (rcv cok10 rfl (Nat.le_of_ble_eq_true rfl)) ⟨by decide, by omega, by omega, by decide⟩ ?_
  refine R_topE (show M2 464 9 = nI k9 from e9) ?_
  refine R_iload dL_law_1340 (by decide) rfl ?_
  refine R_icmp_eq_t (tgt := 1347) dL_law_1342 rfl rfl ?_
  refine R_iload dL_law_1347 (by decide) rfl ?_
  by_cases k0 : k9 = 0
  · subst k0
    obtain rfl := exy rfl
    rw [if_pos rfl] at eo2
    subst eo2
    refine R_if_ne_f (tgt := 1371) dL_law_1349 rfl rfl ?_
    refine R_aload_n dL_law_1352 rfl rfl ?_
    refine R_iconst (v := 0) dL_law_1353 (by decide) ?_
    refine G_lald dL_law_1354 (show vp_in (0 : Int32) 1 from nI_in12 (k := 0) (n := 1) (by omega) (by omega)) ?_
    show Q _ _ _ _ _ _ _ _ _ _ [.long (vp_updL o.1 0 (if x9 = 0 then 0 else 1) 0)] _ _ _
    rw [vu_0]
    refine R_iload dL_law_1355 (by decide) rfl ?_
    by_cases x0 : x9 = 0
    · refine R_if_eq_t (tgt := 1364) dL_law_1357 rfl x0 ?_
      rw [if_pos x0]
      refine R_lconst (v := 0) dL_law_1364 rfl ?_
      refine R_lcmp dL_law_1365 ?_
      rw [lg_self]
      refine R_if_eq_t (tgt := 1371) dL_law_1366 rfl rfl ?_
      refine R_goto (tgt := 2420) dL_law_1371 rfl ?_
      refine R_weak dr7 (R_weak dr6 ?_)
      refine R_widen (by omega) (by omega) (K _ _ _ r9)
    · refine R_if_eq_f (tgt := 1364) dL_law_1357 rfl x0 ?_
      rw [if_neg x0]
      refine R_lconst (v := 1) dL_law_1360 rfl ?_
      refine R_goto (tgt := 1365) dL_law_1361 rfl ?_
      refine R_lcmp dL_law_1365 ?_
      rw [lg_self]
      refine R_if_eq_t (tgt := 1371) dL_law_1366 rfl rfl ?_
      refine R_goto (tgt := 2420) dL_law_1371 rfl ?_
      refine R_weak dr7 (R_weak dr6 ?_)
      refine R_widen (by omega) (by omega) (K _ _ _ r9)
  · refine R_if_ne_t (tgt := 1371) dL_law_1349 rfl (nI_n0 (by omega) k0) ?_
    refine R_goto (tgt := 2420) dL_law_1371 rfl ?_
    refine R_weak dr7 (R_weak dr6 ?_)
    refine R_widen (by omega) (by omega) (K _ _ _ r9)
theorem lc_wouldChar (hf : l.stackTraces = false) (hG : SCR b L xs G) (hN : NCG G) (hi : i + 4 ≤ L) (hL : L ≤ 2048) (hc : ce + 3 ≤ RC9) (hs : sl + 18 ≤ RS9) (h : REL M p) (K : ∀ M2 p1 o2, REL M2 p1 → Q l RL cL_law 9 19 RC9 RS9 G 2420 (LL (nI i)) [] (hp M2 (p1, o2)) (ce + 3) (sl + 18)) : Q l RL cL_law 9 19 RC9 RS9 G 1374 (LL (nI i)) [] (hp M (p, o)) ce sl := by
  refine R_aload_n dL_law_1374 rfl rfl ?_
  refine R_aload_n dL_law_1375 rfl rfl ?_
  refine R_iload dL_law_1376 (by decide) rfl ?_
  refine R_iconst (v := 1) dL_law_1378 (by decide) ?_
  refine R_iadd dL_law_1379 ?_
  refine R_sld hG dL_law_1380 (vx_ix1 i hi hL) ?_
  refine R_aload_n dL_law_1381 rfl rfl ?_
  refine R_iload dL_law_1382 (by decide) rfl ?_
  refine R_iconst (v := 2) dL_law_1384 (by decide) ?_
  refine R_iadd dL_law_1385 ?_
  refine R_sld hG dL_law_1386 (vx_ix2 i hi hL) ?_
  refine R_aload_n dL_law_1387 rfl rfl ?_
  obtain ⟨k9, x9, y9, M1, M2, p1, A9, B9, hk9, e9, exy, r9⟩ := P_wouldChar hf h (x := (xs (nI i + 1).toNatClampNeg)) (q := (xs (nI i + 2).toNatClampNeg))
  refine R_callL (As := [.ref 0, .int (xs (nI i + 1).toNatClampNeg), .int (xs (nI i + 2).toNatClampNeg), .ref 473]) cx_212 (w_wouldChar hf hk9 (A9 o)) hN dL_law_1388 (by decide) (by omega) (by omega) rfl rfl (by decide) (fun v9 h9 hz => ?_) (fun E9 h9 hz => by cases hz.1)
  obtain ⟨e1, rfl⟩ := hz
  cases e1
  show Q _ _ _ _ _ _ _ _ _ _ [.int (nI k9)] _ _ _
  obtain ⟨o2, eo2⟩ : ∃ o2, o2 = (if k9 = 0 then (vp_updL o.1 0 (x9.toInt64), o.2) else o) := ⟨_, rfl⟩
  rw [← eo2]
  have B := B9 o2
  refine R_istore dL_law_1391 (by decide) (st6 rfl) ?_
  refine R_aload_n dL_law_1393 rfl rfl ?_
  refine R_aload_n dL_law_1394 rfl rfl ?_
  refine R_iload dL_law_1395 (by decide) rfl ?_
  refine R_iconst (v := 1) dL_law_1397 (by decide) ?_
  refine R_iadd dL_law_1398 ?_
  refine R_sld hG dL_law_1399 (vx_ix1 i hi hL) ?_
  refine R_aload_n dL_law_1400 rfl rfl ?_
  refine R_iload dL_law_1401 (by decide) rfl ?_
  refine R_iconst (v := 2) dL_law_1403 (by decide) ?_
  refine R_iadd dL_law_1404 ?_
  refine R_sld hG dL_law_1405 (vx_ix2 i hi hL) ?_
  refine G_cV2 cw_L_214 B dL_law_1406 (rcv cok10 rfl (Nat.le_of_ble_eq_true rfl)) ⟨by decide, by omega, by omega, by decide⟩ ?_
  refine R_istore dL_law_1409 (by decide) (st7 rfl) ?_
  refine R_aload_n dL_law_1411 rfl rfl ?_
  refine G_cV0 cw_L_151 (s_X10_thrown hf) dL_law_1412 (rcv cok10 rfl (Nat.le_of_ble_eq_true rfl)) ⟨by decide, by omega, by omega, by decide⟩ ?_
  refine R_topE (show M2 464 9 = nI k9 from e9) ?_
  refine R_iload dL_law_1415 (by decide) rfl ?_
  refine R_icmp_eq_t (tgt := 1422) dL_law_1417 rfl rfl ?_
  refine R_iload dL_law_1422 (by decide) rfl ?_
  by_cases k0 : k9 = 0
  · subst k0
    obtain rfl := exy rfl
    rw [if_pos rfl] at eo2
    subst eo2
    refine R_if_ne_f (tgt := 1439) dL_law_1424 rfl rfl ?_
    refine R_aload_n dL_law_1427 rfl rfl ?_
    refine R_iconst (v := 0) dL_law_1428 (by decide) ?_
    refine G_lald dL_law_1429 (show vp_in (0 : Int32) 1 from nI_in12 (k := 0) (n := 1) (by omega) (by omega)) ?_
    show Q _ _ _ _ _ _ _ _ _ _ [.long (vp_updL o.1 0 (x9.toInt64) 0)] _ _ _
    rw [vu_0]
    refine R_iload dL_law_1430 (by decide) rfl ?_
    refine R_i2l dL_law_1432 rfl ?_
    refine R_lcmp dL_law_1433 ?_
    rw [lg_self]
    refine R_if_eq_t (tgt := 1439) dL_law_1434 rfl rfl ?_
    refine R_goto (tgt := 2420) dL_law_1439 rfl ?_
    refine R_weak dr7 (R_weak dr6 ?_)
    refine R_widen (by omega) (by omega) (K _ _ _ r9)
  · refine R_if_ne_t (tgt := 1439) dL_law_1424 rfl (nI_n0 (by omega) k0) ?_
    refine R_goto (tgt := 2420) dL_law_1439 rfl ?_
    refine R_weak dr7 (R_weak dr6 ?_)
    refine R_widen (by omega) (by omega) (K _ _ _ r9)
theorem lc_wouldCharAgain (hf : l.stackTraces = false) (hG : SCR b L xs G) (hN : NCG G) (hi : i + 4 ≤ L) (hL : L ≤ 2048) (hc : ce + 3 ≤ RC9) (hs : sl + 18 ≤ RS9) (h : REL M p) (K : ∀ M2 p1 o2, REL M2 p1 → Q l RL cL_law 9 19 RC9 RS9 G 2420 (LL (nI i)) [] (hp M2 (p1, o2)) (ce + 3) (sl + 18)) : Q l RL cL_law 9 19 RC9 RS9 G 1442 (LL (nI i)) [] (hp M (p, o)) ce sl := by
  refine R_aload_n dL_law_1442 rfl rfl ?_
  refine R_aload_n dL_law_1443 rfl rfl ?_
  refine R_iload dL_law_1444 (by decide) rfl ?_
  refine R_iconst (v := 1) dL_law_1446 (by decide) ?_
  refine R_iadd dL_law_1447 ?_
  refine R_sld hG dL_law_1448 (vx_ix1 i hi hL) ?_
  refine R_aload_n dL_law_1449 rfl rfl ?_
  refine R_iload dL_law_1450 (by decide) rfl ?_
  refine R_iconst (v := 2) dL_law_1452 (by decide) ?_
  refine R_iadd dL_law_1453 ?_
  refine R_sld hG dL_law_1454 (vx_ix2 i hi hL) ?_
  refine R_aload_n dL_law_1455 rfl rfl ?_
  obtain ⟨k9, x9, y9, M1, M2, p1, A9, B9, hk9, e9, exy, r9⟩ := P_wouldCharAgain hf h (x := (xs (nI i + 1).toNatClampNeg)) (q := (xs (nI i + 2).toNatClampNeg))
  refine R_callL (As := [.ref 0, .int (xs (nI i + 1).toNatClampNeg), .int (xs (nI i + 2).toNatClampNeg), .ref 473]) cx_215 (w_wouldCharAgain hf hk9 (A9 o)) hN dL_law_1456 (by decide) (by omega) (by omega) rfl rfl (by decide) (fun v9 h9 hz => ?_) (fun E9 h9 hz => by cases hz.1)
  obtain ⟨e1, rfl⟩ := hz
  cases e1
  show Q _ _ _ _ _ _ _ _ _ _ [.int (nI k9)] _ _ _
  obtain ⟨o2, eo2⟩ : ∃ o2, o2 = (if k9 = 0 then (vp_updL o.1 0 (x9.toInt64), o.2) else o) := ⟨_, rfl⟩
  rw [← eo2]
  have B := B9 o2
  refine R_istore dL_law_1459 (by decide) (st6 rfl) ?_
  refine R_aload_n dL_law_1461 rfl rfl ?_
  refine R_aload_n dL_law_1462 rfl rfl ?_
  refine R_iload dL_law_1463 (by decide) rfl ?_
  refine R_iconst (v := 1) dL_law_1465 (by decide) ?_
  refine R_iadd dL_law_1466 ?_
  refine R_sld hG dL_law_1467 (vx_ix1 i hi hL) ?_
  refine R_aload_n dL_law_1468 rfl rfl ?_
  refine R_iload dL_law_1469 (by decide) rfl ?_
  refine R_iconst (v := 2) dL_law_1471 (by decide) ?_
  refine R_iadd dL_law_1472 ?_
  refine R_sld hG dL_law_1473 (vx_ix2 i hi hL) ?_
  refine G_cV2 cw_L_217 B dL_law_1474 (rcv cok10 rfl (Nat.le_of_ble_eq_true rfl)) ⟨by decide, by omega, by omega, by decide⟩ ?_
  refine R_istore dL_law_1477 (by decide) (st7 rfl) ?_
  refine R_aload_n dL_law_1479 rfl rfl ?_
  refine G_cV0 cw_L_151 (s_X10_thrown hf) dL_law_1480 (rcv cok10 rfl (Nat.le_of_ble_eq_true rfl)) ⟨by decide, by omega, by omega, by decide⟩ ?_
  refine R_topE (show M2 464 9 = nI k9 from e9) ?_
  refine R_iload dL_law_1483 (by decide) rfl ?_
  refine R_icmp_eq_t (tgt := 1490) dL_law_1485 rfl rfl ?_
  refine R_iload dL_law_1490 (by decide) rfl ?_
  by_cases k0 : k9 = 0
  · subst k0
    obtain rfl := exy rfl
    rw [if_pos rfl] at eo2
    subst eo2
    refine R_if_ne_f (tgt := 1507) dL_law_1492 rfl rfl ?_
    refine R_aload_n dL_law_1495 rfl rfl ?_
    refine R_iconst (v := 0) dL_law_1496 (by decide) ?_
    refine G_lald dL_law_1497 (show vp_in (0 : Int32) 1 from nI_in12 (k := 0) (n := 1) (by omega) (by omega)) ?_
    show Q _ _ _ _ _ _ _ _ _ _ [.long (vp_updL o.1 0 (x9.toInt64) 0)] _ _ _
    rw [vu_0]
    refine R_iload dL_law_1498 (by decide) rfl ?_
    refine R_i2l dL_law_1500 rfl ?_
    refine R_lcmp dL_law_1501 ?_
    rw [lg_self]
    refine R_if_eq_t (tgt := 1507) dL_law_1502 rfl rfl ?_
    refine R_goto (tgt := 2420) dL_law_1507 rfl ?_
    refine R_weak dr7 (R_weak dr6 ?_)
    refine R_widen (by omega) (by omega) (K _ _ _ r9)
  · refine R_if_ne_t (tgt := 1507) dL_law_1492 rfl (nI_n0 (by omega) k0) ?_
    refine R_goto (tgt := 2420) dL_law_1507 rfl ?_
    refine R_weak dr7 (R_weak dr6 ?_)
    refine R_widen (by omega) (by omega) (K _ _ _ r9)
theorem lc_burnsIn (hf : l.stackTraces = false) (hG : SCR b L xs G) (hN : NCG G) (hi : i + 4 ≤ L) (hL : L ≤ 2048) (hc : ce + 3 ≤ RC9) (hs : sl + 18 ≤ RS9) (h : REL M p) (K : ∀ M2 p1 o2, REL M2 p1 → Q l RL cL_law 9 19 RC9 RS9 G 2420 (LL (nI i)) [] (hp M2 (p1, o2)) (ce + 3) (sl + 18)) : Q l RL cL_law 9 19 RC9 RS9 G 1510 (LL (nI i)) [] (hp M (p, o)) ce sl := by
  refine R_aload_n dL_law_1510 rfl rfl ?_
  refine R_aload_n dL_law_1511 rfl rfl ?_
  refine R_iload dL_law_1512 (by decide) rfl ?_
  refine R_iconst (v := 1) dL_law_1514 (by decide) ?_
  refine R_iadd dL_law_1515 ?_
  refine R_sld hG dL_law_1516 (vx_ix1 i hi hL) ?_
  refine R_aload_n dL_law_1517 rfl rfl ?_
  obtain ⟨k9, x9, y9, M1, M2, p1, A9, B9, hk9, e9, exy, r9⟩ := P_burnsIn hf h (x := (xs (nI i + 1).toNatClampNeg))
  refine R_callL (As := [.ref 0, .int (xs (nI i + 1).toNatClampNeg), .ref 473]) cx_218 (w_burnsIn hf hk9 (A9 o)) hN dL_law_1518 (by decide) (by omega) (by omega) rfl rfl (by decide) (fun v9 h9 hz => ?_) (fun E9 h9 hz => by cases hz.1)
  obtain ⟨e1, rfl⟩ := hz
  cases e1
  show Q _ _ _ _ _ _ _ _ _ _ [.int (nI k9)] _ _ _
  obtain ⟨o2, eo2⟩ : ∃ o2, o2 = (if k9 = 0 then (vp_updL o.1 0 (x9.toInt64), o.2) else o) := ⟨_, rfl⟩
  rw [← eo2]
  have B := B9 o2
  refine R_istore dL_law_1521 (by decide) (st6 rfl) ?_
  refine R_aload_n dL_law_1523 rfl rfl ?_
  refine R_aload_n dL_law_1524 rfl rfl ?_
  refine R_iload dL_law_1525 (by decide) rfl ?_
  refine R_iconst (v := 1) dL_law_1527 (by decide) ?_
  refine R_iadd dL_law_1528 ?_
  refine R_sld hG dL_law_1529 (vx_ix1 i hi hL) ?_
  refine G_cV1 cw_L_220 B dL_law_1530 (rcv cok10 rfl (Nat.le_of_ble_eq_true rfl)) ⟨by decide, by omega, by omega, by decide⟩ ?_
  refine R_istore dL_law_1533 (by decide) (st7 rfl) ?_
  refine R_aload_n dL_law_1535 rfl rfl ?_
  refine G_cV0 cw_L_151 (s_X10_thrown hf) dL_law_1536 (rcv cok10 rfl (Nat.le_of_ble_eq_true rfl)) ⟨by decide, by omega, by omega, by decide⟩ ?_
  refine R_topE (show M2 464 9 = nI k9 from e9) ?_
  refine R_iload dL_law_1539 (by decide) rfl ?_
  refine R_icmp_eq_t (tgt := 1546) dL_law_1541 rfl rfl ?_
  refine R_iload dL_law_1546 (by decide) rfl ?_
  by_cases k0 : k9 = 0
  · subst k0
    obtain rfl := exy rfl
    rw [if_pos rfl] at eo2
    subst eo2
    refine R_if_ne_f (tgt := 1563) dL_law_1548 rfl rfl ?_
    refine R_aload_n dL_law_1551 rfl rfl ?_
    refine R_iconst (v := 0) dL_law_1552 (by decide) ?_
    refine G_lald dL_law_1553 (show vp_in (0 : Int32) 1 from nI_in12 (k := 0) (n := 1) (by omega) (by omega)) ?_
    show Q _ _ _ _ _ _ _ _ _ _ [.long (vp_updL o.1 0 (x9.toInt64) 0)] _ _ _
    rw [vu_0]
    refine R_iload dL_law_1554 (by decide) rfl ?_
    refine R_i2l dL_law_1556 rfl ?_
    refine R_lcmp dL_law_1557 ?_
    rw [lg_self]
    refine R_if_eq_t (tgt := 1563) dL_law_1558 rfl rfl ?_
    refine R_goto (tgt := 2420) dL_law_1563 rfl ?_
    refine R_weak dr7 (R_weak dr6 ?_)
    refine R_widen (by omega) (by omega) (K _ _ _ r9)
  · refine R_if_ne_t (tgt := 1563) dL_law_1548 rfl (nI_n0 (by omega) k0) ?_
    refine R_goto (tgt := 2420) dL_law_1563 rfl ?_
    refine R_weak dr7 (R_weak dr6 ?_)
    refine R_widen (by omega) (by omega) (K _ _ _ r9)
theorem lc_doneIn (hf : l.stackTraces = false) (hG : SCR b L xs G) (hN : NCG G) (hi : i + 4 ≤ L) (hL : L ≤ 2048) (hc : ce + 3 ≤ RC9) (hs : sl + 18 ≤ RS9) (h : REL M p) (K : ∀ M2 p1 o2, REL M2 p1 → Q l RL cL_law 9 19 RC9 RS9 G 2420 (LL (nI i)) [] (hp M2 (p1, o2)) (ce + 3) (sl + 18)) : Q l RL cL_law 9 19 RC9 RS9 G 1566 (LL (nI i)) [] (hp M (p, o)) ce sl := by
  refine R_aload_n dL_law_1566 rfl rfl ?_
  refine R_aload_n dL_law_1567 rfl rfl ?_
  refine R_iload dL_law_1568 (by decide) rfl ?_
  refine R_iconst (v := 1) dL_law_1570 (by decide) ?_
  refine R_iadd dL_law_1571 ?_
  refine R_sld hG dL_law_1572 (vx_ix1 i hi hL) ?_
  refine R_aload_n dL_law_1573 rfl rfl ?_
  obtain ⟨k9, x9, y9, M1, M2, p1, A9, B9, hk9, e9, exy, r9⟩ := P_doneIn hf h (x := (xs (nI i + 1).toNatClampNeg))
  refine R_callL (As := [.ref 0, .int (xs (nI i + 1).toNatClampNeg), .ref 473]) cx_221 (w_doneIn hf hk9 (A9 o)) hN dL_law_1574 (by decide) (by omega) (by omega) rfl rfl (by decide) (fun v9 h9 hz => ?_) (fun E9 h9 hz => by cases hz.1)
  obtain ⟨e1, rfl⟩ := hz
  cases e1
  show Q _ _ _ _ _ _ _ _ _ _ [.int (nI k9)] _ _ _
  obtain ⟨o2, eo2⟩ : ∃ o2, o2 = (if k9 = 0 then (vp_updL o.1 0 (x9.toInt64), o.2) else o) := ⟨_, rfl⟩
  rw [← eo2]
  have B := B9 o2
  refine R_istore dL_law_1577 (by decide) (st6 rfl) ?_
  refine R_aload_n dL_law_1579 rfl rfl ?_
  refine R_aload_n dL_law_1580 rfl rfl ?_
  refine R_iload dL_law_1581 (by decide) rfl ?_
  refine R_iconst (v := 1) dL_law_1583 (by decide) ?_
  refine R_iadd dL_law_1584 ?_
  refine R_sld hG dL_law_1585 (vx_ix1 i hi hL) ?_
  refine G_cV1 cw_L_223 B dL_law_1586 (rcv cok10 rfl (Nat.le_of_ble_eq_true rfl)) ⟨by decide, by omega, by omega, by decide⟩ ?_
  refine R_istore dL_law_1589 (by decide) (st7 rfl) ?_
  refine R_aload_n dL_law_1591 rfl rfl ?_
  refine G_cV0 cw_L_151 (s_X10_thrown hf) dL_law_1592 (rcv cok10 rfl (Nat.le_of_ble_eq_true rfl)) ⟨by decide, by omega, by omega, by decide⟩ ?_
  refine R_topE (show M2 464 9 = nI k9 from e9) ?_
  refine R_iload dL_law_1595 (by decide) rfl ?_
  refine R_icmp_eq_t (tgt := 1602) dL_law_1597 rfl rfl ?_
  refine R_iload dL_law_1602 (by decide) rfl ?_
  by_cases k0 : k9 = 0
  · subst k0
    obtain rfl := exy rfl
    rw [if_pos rfl] at eo2
    subst eo2
    refine R_if_ne_f (tgt := 1619) dL_law_1604 rfl rfl ?_
    refine R_aload_n dL_law_1607 rfl rfl ?_
    refine R_iconst (v := 0) dL_law_1608 (by decide) ?_
    refine G_lald dL_law_1609 (show vp_in (0 : Int32) 1 from nI_in12 (k := 0) (n := 1) (by omega) (by omega)) ?_
    show Q _ _ _ _ _ _ _ _ _ _ [.long (vp_updL o.1 0 (x9.toInt64) 0)] _ _ _
    rw [vu_0]
    refine R_iload dL_law_1610 (by decide) rfl ?_
    refine R_i2l dL_law_1612 rfl ?_
    refine R_lcmp dL_law_1613 ?_
    rw [lg_self]
    refine R_if_eq_t (tgt := 1619) dL_law_1614 rfl rfl ?_
    refine R_goto (tgt := 2420) dL_law_1619 rfl ?_
    refine R_weak dr7 (R_weak dr6 ?_)
    refine R_widen (by omega) (by omega) (K _ _ _ r9)
  · refine R_if_ne_t (tgt := 1619) dL_law_1604 rfl (nI_n0 (by omega) k0) ?_
    refine R_goto (tgt := 2420) dL_law_1619 rfl ?_
    refine R_weak dr7 (R_weak dr6 ?_)
    refine R_widen (by omega) (by omega) (K _ _ _ r9)
theorem lc_hottest (hf : l.stackTraces = false) (hG : SCR b L xs G) (hN : NCG G) (hi : i + 4 ≤ L) (hL : L ≤ 2048) (hc : ce + 3 ≤ RC9) (hs : sl + 18 ≤ RS9) (h : REL M p) (K : ∀ M2 p1 o2, REL M2 p1 → Q l RL cL_law 9 19 RC9 RS9 G 2420 (LL (nI i)) [] (hp M2 (p1, o2)) (ce + 3) (sl + 18)) : Q l RL cL_law 9 19 RC9 RS9 G 1622 (LL (nI i)) [] (hp M (p, o)) ce sl := by
  refine R_aload_n dL_law_1622 rfl rfl ?_
  refine R_aload_n dL_law_1623 rfl rfl ?_
  obtain ⟨k9, x9, y9, M1, M2, p1, A9, B9, hk9, e9, exy, r9⟩ := P_hottest hf h 
  refine R_callL (As := [.ref 0, .ref 473]) cx_224 (w_hottest hf hk9 (A9 o)) hN dL_law_1624 (by decide) (by omega) (by omega) rfl rfl (by decide) (fun v9 h9 hz => ?_) (fun E9 h9 hz => by cases hz.1)
  obtain ⟨e1, rfl⟩ := hz
  cases e1
  show Q _ _ _ _ _ _ _ _ _ _ [.int (nI k9)] _ _ _
  obtain ⟨o2, eo2⟩ : ∃ o2, o2 = (if k9 = 0 then (vp_updL o.1 0 (x9.toInt64), o.2) else o) := ⟨_, rfl⟩
  rw [← eo2]
  have B := B9 o2
  refine R_istore dL_law_1627 (by decide) (st6 rfl) ?_
  refine R_aload_n dL_law_1629 rfl rfl ?_
  refine G_cV0 cw_L_226 B dL_law_1630 (rcv cok10 rfl (Nat.le_of_ble_eq_true rfl)) ⟨by decide, by omega, by omega, by decide⟩ ?_
  refine R_istore dL_law_1633 (by decide) (st7 rfl) ?_
  refine R_aload_n dL_law_1635 rfl rfl ?_
  refine G_cV0 cw_L_151 (s_X10_thrown hf) dL_law_1636 (rcv cok10 rfl (Nat.le_of_ble_eq_true rfl)) ⟨by decide, by omega, by omega, by decide⟩ ?_
  refine R_topE (show M2 464 9 = nI k9 from e9) ?_
  refine R_iload dL_law_1639 (by decide) rfl ?_
  refine R_icmp_eq_t (tgt := 1646) dL_law_1641 rfl rfl ?_
  refine R_iload dL_law_1646 (by decide) rfl ?_
  by_cases k0 : k9 = 0
  · subst k0
    obtain rfl := exy rfl
    rw [if_pos rfl] at eo2
    subst eo2
    refine R_if_ne_f (tgt := 1663) dL_law_1648 rfl rfl ?_
    refine R_aload_n dL_law_1651 rfl rfl ?_
    refine R_iconst (v := 0) dL_law_1652 (by decide) ?_
    refine G_lald dL_law_1653 (show vp_in (0 : Int32) 1 from nI_in12 (k := 0) (n := 1) (by omega) (by omega)) ?_
    show Q _ _ _ _ _ _ _ _ _ _ [.long (vp_updL o.1 0 (x9.toInt64) 0)] _ _ _
    rw [vu_0]
    refine R_iload dL_law_1654 (by decide) rfl ?_
    refine R_i2l dL_law_1656 rfl ?_
    refine R_lcmp dL_law_1657 ?_
    rw [lg_self]
    refine R_if_eq_t (tgt := 1663) dL_law_1658 rfl rfl ?_
    refine R_goto (tgt := 2420) dL_law_1663 rfl ?_
    refine R_weak dr7 (R_weak dr6 ?_)
    refine R_widen (by omega) (by omega) (K _ _ _ r9)
  · refine R_if_ne_t (tgt := 1663) dL_law_1648 rfl (nI_n0 (by omega) k0) ?_
    refine R_goto (tgt := 2420) dL_law_1663 rfl ?_
    refine R_weak dr7 (R_weak dr6 ?_)
    refine R_widen (by omega) (by omega) (K _ _ _ r9)
theorem lc_bestHook (hf : l.stackTraces = false) (hG : SCR b L xs G) (hN : NCG G) (hi : i + 4 ≤ L) (hL : L ≤ 2048) (hc : ce + 3 ≤ RC9) (hs : sl + 18 ≤ RS9) (h : REL M p) (K : ∀ M2 p1 o2, REL M2 p1 → Q l RL cL_law 9 19 RC9 RS9 G 2420 (LL (nI i)) [] (hp M2 (p1, o2)) (ce + 3) (sl + 18)) : Q l RL cL_law 9 19 RC9 RS9 G 1666 (LL (nI i)) [] (hp M (p, o)) ce sl := by
  refine R_aload_n dL_law_1666 rfl rfl ?_
  refine R_aload_n dL_law_1667 rfl rfl ?_
  refine R_iload dL_law_1668 (by decide) rfl ?_
  refine R_iconst (v := 1) dL_law_1670 (by decide) ?_
  refine R_iadd dL_law_1671 ?_
  refine R_sld hG dL_law_1672 (vx_ix1 i hi hL) ?_
  refine R_aload_n dL_law_1673 rfl rfl ?_
  refine R_iload dL_law_1674 (by decide) rfl ?_
  refine R_iconst (v := 2) dL_law_1676 (by decide) ?_
  refine R_iadd dL_law_1677 ?_
  refine R_sld hG dL_law_1678 (vx_ix2 i hi hL) ?_
  refine R_aload_n dL_law_1679 rfl rfl ?_
  obtain ⟨k9, x9, y9, M1, M2, p1, A9, B9, hk9, e9, exy, r9⟩ := P_bestHook hf h (x := (xs (nI i + 1).toNatClampNeg)) (q := (xs (nI i + 2).toNatClampNeg))
  refine R_callL (As := [.ref 0, .int (xs (nI i + 1).toNatClampNeg), .int (xs (nI i + 2).toNatClampNeg), .ref 473]) cx_227 (w_bestHook hf hk9 (A9 o)) hN dL_law_1680 (by decide) (by omega) (by omega) rfl rfl (by decide) (fun v9 h9 hz => ?_) (fun E9 h9 hz => by cases hz.1)
  obtain ⟨e1, rfl⟩ := hz
  cases e1
  show Q _ _ _ _ _ _ _ _ _ _ [.int (nI k9)] _ _ _
  obtain ⟨o2, eo2⟩ : ∃ o2, o2 = (if k9 = 0 then (vp_updL o.1 0 (x9.toInt64), o.2) else o) := ⟨_, rfl⟩
  rw [← eo2]
  have B := B9 o2
  refine R_istore dL_law_1683 (by decide) (st6 rfl) ?_
  refine R_aload_n dL_law_1685 rfl rfl ?_
  refine R_aload_n dL_law_1686 rfl rfl ?_
  refine R_iload dL_law_1687 (by decide) rfl ?_
  refine R_iconst (v := 1) dL_law_1689 (by decide) ?_
  refine R_iadd dL_law_1690 ?_
  refine R_sld hG dL_law_1691 (vx_ix1 i hi hL) ?_
  refine R_aload_n dL_law_1692 rfl rfl ?_
  refine R_iload dL_law_1693 (by decide) rfl ?_
  refine R_iconst (v := 2) dL_law_1695 (by decide) ?_
  refine R_iadd dL_law_1696 ?_
  refine R_sld hG dL_law_1697 (vx_ix2 i hi hL) ?_
  refine G_cV2 cw_L_229 B dL_law_1698 (rcv cok10 rfl (Nat.le_of_ble_eq_true rfl)) ⟨by decide, by omega, by omega, by decide⟩ ?_
  refine R_istore dL_law_1701 (by decide) (st7 rfl) ?_
  refine R_aload_n dL_law_1703 rfl rfl ?_
  refine G_cV0 cw_L_151 (s_X10_thrown hf) dL_law_1704 (rcv cok10 rfl (Nat.le_of_ble_eq_true rfl)) ⟨by decide, by omega, by omega, by decide⟩ ?_
  refine R_topE (show M2 464 9 = nI k9 from e9) ?_
  refine R_iload dL_law_1707 (by decide) rfl ?_
  refine R_icmp_eq_t (tgt := 1714) dL_law_1709 rfl rfl ?_
  refine R_iload dL_law_1714 (by decide) rfl ?_
  by_cases k0 : k9 = 0
  · subst k0
    obtain rfl := exy rfl
    rw [if_pos rfl] at eo2
    subst eo2
    refine R_if_ne_f (tgt := 1731) dL_law_1716 rfl rfl ?_
    refine R_aload_n dL_law_1719 rfl rfl ?_
    refine R_iconst (v := 0) dL_law_1720 (by decide) ?_
    refine G_lald dL_law_1721 (show vp_in (0 : Int32) 1 from nI_in12 (k := 0) (n := 1) (by omega) (by omega)) ?_
    show Q _ _ _ _ _ _ _ _ _ _ [.long (vp_updL o.1 0 (x9.toInt64) 0)] _ _ _
    rw [vu_0]
    refine R_iload dL_law_1722 (by decide) rfl ?_
    refine R_i2l dL_law_1724 rfl ?_
    refine R_lcmp dL_law_1725 ?_
    rw [lg_self]
    refine R_if_eq_t (tgt := 1731) dL_law_1726 rfl rfl ?_
    refine R_goto (tgt := 2420) dL_law_1731 rfl ?_
    refine R_weak dr7 (R_weak dr6 ?_)
    refine R_widen (by omega) (by omega) (K _ _ _ r9)
  · refine R_if_ne_t (tgt := 1731) dL_law_1716 rfl (nI_n0 (by omega) k0) ?_
    refine R_goto (tgt := 2420) dL_law_1731 rfl ?_
    refine R_weak dr7 (R_weak dr6 ?_)
    refine R_widen (by omega) (by omega) (K _ _ _ r9)
theorem lc_crowded (hf : l.stackTraces = false) (hG : SCR b L xs G) (hN : NCG G) (hi : i + 4 ≤ L) (hL : L ≤ 2048) (hc : ce + 3 ≤ RC9) (hs : sl + 18 ≤ RS9) (h : REL M p) (K : ∀ M2 p1 o2, REL M2 p1 → Q l RL cL_law 9 19 RC9 RS9 G 2420 (LL (nI i)) [] (hp M2 (p1, o2)) (ce + 3) (sl + 18)) : Q l RL cL_law 9 19 RC9 RS9 G 1734 (LL (nI i)) [] (hp M (p, o)) ce sl := by
  obtain ⟨x9, M1, M2, A, B, r9⟩ := N_crowded hf h o
  refine R_aload_n dL_law_1734 rfl rfl ?_
  refine G_cV0 cw_L_230 A dL_law_1735 (rcv cok9 rfl (Nat.le_of_ble_eq_true rfl)) ⟨by decide, by omega, by omega, by decide⟩ ?_
  refine R_aload_n dL_law_1738 rfl rfl ?_
  refine G_cV0 cw_L_233 B dL_law_1739 (rcv cok10 rfl (Nat.le_of_ble_eq_true rfl)) ⟨by decide, by omega, by omega, show 1 ≤ 8 by decide⟩ ?_
  refine R_icmp_eq_t (tgt := 2420) dL_law_1742 rfl rfl ?_
  refine R_widen (by omega) (by omega) (K _ _ _ r9)
theorem lc_ranked (hf : l.stackTraces = false) (hG : SCR b L xs G) (hN : NCG G) (hi : i + 4 ≤ L) (hL : L ≤ 2048) (hc : ce + 3 ≤ RC9) (hs : sl + 18 ≤ RS9) (h : REL M p) (K : ∀ M2 p1 o2, REL M2 p1 → Q l RL cL_law 9 19 RC9 RS9 G 2420 (LL (nI i)) [] (hp M2 (p1, o2)) (ce + 3) (sl + 18)) : Q l RL cL_law 9 19 RC9 RS9 G 1747 (LL (nI i)) [] (hp M (p, o)) ce sl := by
  refine R_aload_n dL_law_1747 rfl rfl ?_
  refine R_aload_n dL_law_1748 rfl rfl ?_
  refine R_iload dL_law_1749 (by decide) rfl ?_
  refine R_iconst (v := 1) dL_law_1751 (by decide) ?_
  refine R_iadd dL_law_1752 ?_
  refine R_sld hG dL_law_1753 (vx_ix1 i hi hL) ?_
  refine R_aload_n dL_law_1754 rfl rfl ?_
  refine R_iload dL_law_1755 (by decide) rfl ?_
  refine R_iconst (v := 2) dL_law_1757 (by decide) ?_
  refine R_iadd dL_law_1758 ?_
  refine R_sld hG dL_law_1759 (vx_ix2 i hi hL) ?_
  refine R_aload_n dL_law_1760 rfl rfl ?_
  obtain ⟨k9, x9, y9, M1, M2, p1, A9, B9, hk9, e9, exy, r9⟩ := P_ranked hf h (x := (xs (nI i + 1).toNatClampNeg)) (q := (xs (nI i + 2).toNatClampNeg))
  refine R_callL (As := [.ref 0, .int (xs (nI i + 1).toNatClampNeg), .int (xs (nI i + 2).toNatClampNeg), .ref 473]) cx_234 (w_ranked hf hk9 (A9 o)) hN dL_law_1761 (by decide) (by omega) (by omega) rfl rfl (by decide) (fun v9 h9 hz => ?_) (fun E9 h9 hz => by cases hz.1)
  obtain ⟨e1, rfl⟩ := hz
  cases e1
  show Q _ _ _ _ _ _ _ _ _ _ [.int (nI k9)] _ _ _
  obtain ⟨o2, eo2⟩ : ∃ o2, o2 = (if k9 = 0 then (vp_updL o.1 0 (x9.toInt64), o.2) else o) := ⟨_, rfl⟩
  rw [← eo2]
  have B := B9 o2
  refine R_istore dL_law_1764 (by decide) (st6 rfl) ?_
  refine R_aload_n dL_law_1766 rfl rfl ?_
  refine R_aload_n dL_law_1767 rfl rfl ?_
  refine R_iload dL_law_1768 (by decide) rfl ?_
  refine R_iconst (v := 1) dL_law_1770 (by decide) ?_
  refine R_iadd dL_law_1771 ?_
  refine R_sld hG dL_law_1772 (vx_ix1 i hi hL) ?_
  refine R_aload_n dL_law_1773 rfl rfl ?_
  refine R_iload dL_law_1774 (by decide) rfl ?_
  refine R_iconst (v := 2) dL_law_1776 (by decide) ?_
  refine R_iadd dL_law_1777 ?_
  refine R_sld hG dL_law_1778 (vx_ix2 i hi hL) ?_
  refine G_cV2 cw_L_236 B dL_law_1779 (rcv cok10 rfl (Nat.le_of_ble_eq_true rfl)) ⟨by decide, by omega, by omega, by decide⟩ ?_
  refine R_istore dL_law_1782 (by decide) (st7 rfl) ?_
  refine R_aload_n dL_law_1784 rfl rfl ?_
  refine G_cV0 cw_L_151 (s_X10_thrown hf) dL_law_1785 (rcv cok10 rfl (Nat.le_of_ble_eq_true rfl)) ⟨by decide, by omega, by omega, by decide⟩ ?_
  refine R_topE (show M2 464 9 = nI k9 from e9) ?_
  refine R_iload dL_law_1788 (by decide) rfl ?_
  refine R_icmp_eq_t (tgt := 1795) dL_law_1790 rfl rfl ?_
  refine R_iload dL_law_1795 (by decide) rfl ?_
  by_cases k0 : k9 = 0
  · subst k0
    obtain rfl := exy rfl
    rw [if_pos rfl] at eo2
    subst eo2
    refine R_if_ne_f (tgt := 1812) dL_law_1797 rfl rfl ?_
    refine R_aload_n dL_law_1800 rfl rfl ?_
    refine R_iconst (v := 0) dL_law_1801 (by decide) ?_
    refine G_lald dL_law_1802 (show vp_in (0 : Int32) 1 from nI_in12 (k := 0) (n := 1) (by omega) (by omega)) ?_
    show Q _ _ _ _ _ _ _ _ _ _ [.long (vp_updL o.1 0 (x9.toInt64) 0)] _ _ _
    rw [vu_0]
    refine R_iload dL_law_1803 (by decide) rfl ?_
    refine R_i2l dL_law_1805 rfl ?_
    refine R_lcmp dL_law_1806 ?_
    rw [lg_self]
    refine R_if_eq_t (tgt := 1812) dL_law_1807 rfl rfl ?_
    refine R_goto (tgt := 2420) dL_law_1812 rfl ?_
    refine R_weak dr7 (R_weak dr6 ?_)
    refine R_widen (by omega) (by omega) (K _ _ _ r9)
  · refine R_if_ne_t (tgt := 1812) dL_law_1797 rfl (nI_n0 (by omega) k0) ?_
    refine R_goto (tgt := 2420) dL_law_1812 rfl ?_
    refine R_weak dr7 (R_weak dr6 ?_)
    refine R_widen (by omega) (by omega) (K _ _ _ r9)
theorem lc_append (hf : l.stackTraces = false) (hG : SCR b L xs G) (hN : NCG G) (hi : i + 4 ≤ L) (hL : L ≤ 2048) (hc : ce + 3 ≤ RC9) (hs : sl + 18 ≤ RS9) (h : REL M p) (K : ∀ M2 p1 o2, REL M2 p1 → Q l RL cL_law 9 19 RC9 RS9 G 2420 (LL (nI i)) [] (hp M2 (p1, o2)) (ce + 3) (sl + 18)) : Q l RL cL_law 9 19 RC9 RS9 G 1815 (LL (nI i)) [] (hp M (p, o)) ce sl := by
  refine R_aload_n dL_law_1815 rfl rfl ?_
  refine R_aload_n dL_law_1816 rfl rfl ?_
  refine R_iload dL_law_1817 (by decide) rfl ?_
  refine R_iconst (v := 1) dL_law_1819 (by decide) ?_
  refine R_iadd dL_law_1820 ?_
  refine R_sld hG dL_law_1821 (vx_ix1 i hi hL) ?_
  refine R_i2c (v := chr (xs (nI i + 1).toNatClampNeg)) dL_law_1822 rfl ?_
  refine R_aload_n dL_law_1823 rfl rfl ?_
  obtain ⟨k9, x9, y9, M1, M2, p1, A9, B9, hk9, e9, exy, r9⟩ := P_append hf h (x := (chr (xs (nI i + 1).toNatClampNeg))) (isC_chr _)
  refine R_callL (As := [.ref 0, .int (chr (xs (nI i + 1).toNatClampNeg)), .ref 473]) cx_237 (w_append hf hk9 (A9 o)) hN dL_law_1824 (by decide) (by omega) (by omega) rfl rfl (by decide) (fun v9 h9 hz => ?_) (fun E9 h9 hz => by cases hz.1)
  obtain ⟨e1, rfl⟩ := hz
  cases e1
  show Q _ _ _ _ _ _ _ _ _ _ [.int (nI k9)] _ _ _
  obtain ⟨o2, eo2⟩ : ∃ o2, o2 = (if k9 = 0 then (vp_updL o.1 0 (x9.toInt64), o.2) else o) := ⟨_, rfl⟩
  rw [← eo2]
  have B := B9 o2
  refine R_istore dL_law_1827 (by decide) (st6 rfl) ?_
  refine R_aload_n dL_law_1829 rfl rfl ?_
  refine R_aload_n dL_law_1830 rfl rfl ?_
  refine R_iload dL_law_1831 (by decide) rfl ?_
  refine R_iconst (v := 1) dL_law_1833 (by decide) ?_
  refine R_iadd dL_law_1834 ?_
  refine R_sld hG dL_law_1835 (vx_ix1 i hi hL) ?_
  refine R_i2c (v := chr (xs (nI i + 1).toNatClampNeg)) dL_law_1836 rfl ?_
  refine G_cV1 cw_L_240 B dL_law_1837 (rcv cok10 rfl (Nat.le_of_ble_eq_true rfl)) ⟨by decide, by omega, by omega, by decide⟩ ?_
  refine R_istore dL_law_1840 (by decide) (st7 rfl) ?_
  refine R_aload_n dL_law_1842 rfl rfl ?_
  refine G_cV0 cw_L_151 (s_X10_thrown hf) dL_law_1843 (rcv cok10 rfl (Nat.le_of_ble_eq_true rfl)) ⟨by decide, by omega, by omega, by decide⟩ ?_
  refine R_topE (show M2 464 9 = nI k9 from e9) ?_
  refine R_iload dL_law_1846 (by decide) rfl ?_
  refine R_icmp_eq_t (tgt := 1853) dL_law_1848 rfl rfl ?_
  refine R_iload dL_law_1853 (by decide) rfl ?_
  by_cases k0 : k9 = 0
  · subst k0
    obtain rfl := exy rfl
    rw [if_pos rfl] at eo2
    subst eo2
    refine R_if_ne_f (tgt := 1870) dL_law_1855 rfl rfl ?_
    refine R_aload_n dL_law_1858 rfl rfl ?_
    refine R_iconst (v := 0) dL_law_1859 (by decide) ?_
    refine G_lald dL_law_1860 (show vp_in (0 : Int32) 1 from nI_in12 (k := 0) (n := 1) (by omega) (by omega)) ?_
    show Q _ _ _ _ _ _ _ _ _ _ [.long (vp_updL o.1 0 (x9.toInt64) 0)] _ _ _
    rw [vu_0]
    refine R_iload dL_law_1861 (by decide) rfl ?_
    refine R_i2l dL_law_1863 rfl ?_
    refine R_lcmp dL_law_1864 ?_
    rw [lg_self]
    refine R_if_eq_t (tgt := 1870) dL_law_1865 rfl rfl ?_
    refine R_goto (tgt := 2420) dL_law_1870 rfl ?_
    refine R_weak dr7 (R_weak dr6 ?_)
    refine R_widen (by omega) (by omega) (K _ _ _ r9)
  · refine R_if_ne_t (tgt := 1870) dL_law_1855 rfl (nI_n0 (by omega) k0) ?_
    refine R_goto (tgt := 2420) dL_law_1870 rfl ?_
    refine R_weak dr7 (R_weak dr6 ?_)
    refine R_widen (by omega) (by omega) (K _ _ _ r9)
theorem lc_commands (hf : l.stackTraces = false) (hG : SCR b L xs G) (hN : NCG G) (hi : i + 4 ≤ L) (hL : L ≤ 2048) (hc : ce + 3 ≤ RC9) (hs : sl + 18 ≤ RS9) (h : REL M p) (K : ∀ M2 p1 o2, REL M2 p1 → Q l RL cL_law 9 19 RC9 RS9 G 2420 (LL (nI i)) [] (hp M2 (p1, o2)) (ce + 3) (sl + 18)) : Q l RL cL_law 9 19 RC9 RS9 G 1873 (LL (nI i)) [] (hp M (p, o)) ce sl := by
  refine R_aload_n dL_law_1873 rfl rfl ?_
  refine R_aload_n dL_law_1874 rfl rfl ?_
  obtain ⟨k9, x9, y9, M1, M2, p1, A9, B9, hk9, e9, exy, r9⟩ := P_commands hf h 
  refine R_callL (As := [.ref 0, .ref 473]) cx_241 (w_commands hf hk9 (A9 o)) hN dL_law_1875 (by decide) (by omega) (by omega) rfl rfl (by decide) (fun v9 h9 hz => ?_) (fun E9 h9 hz => by cases hz.1)
  obtain ⟨e1, rfl⟩ := hz
  cases e1
  show Q _ _ _ _ _ _ _ _ _ _ [.int (nI k9)] _ _ _
  obtain ⟨o2, eo2⟩ : ∃ o2, o2 = (if k9 = 0 then (vp_updL o.1 0 (x9.toInt64), o.2) else o) := ⟨_, rfl⟩
  rw [← eo2]
  have B := B9 o2
  refine R_istore dL_law_1878 (by decide) (st6 rfl) ?_
  refine R_aload_n dL_law_1880 rfl rfl ?_
  refine G_cV0 cw_L_243 B dL_law_1881 (rcv cok10 rfl (Nat.le_of_ble_eq_true rfl)) ⟨by decide, by omega, by omega, by decide⟩ ?_
  refine R_istore dL_law_1884 (by decide) (st7 rfl) ?_
  refine R_aload_n dL_law_1886 rfl rfl ?_
  refine G_cV0 cw_L_151 (s_X10_thrown hf) dL_law_1887 (rcv cok10 rfl (Nat.le_of_ble_eq_true rfl)) ⟨by decide, by omega, by omega, by decide⟩ ?_
  refine R_topE (show M2 464 9 = nI k9 from e9) ?_
  refine R_iload dL_law_1890 (by decide) rfl ?_
  refine R_icmp_eq_t (tgt := 1897) dL_law_1892 rfl rfl ?_
  refine R_iload dL_law_1897 (by decide) rfl ?_
  by_cases k0 : k9 = 0
  · subst k0
    obtain rfl := exy rfl
    rw [if_pos rfl] at eo2
    subst eo2
    refine R_if_ne_f (tgt := 1914) dL_law_1899 rfl rfl ?_
    refine R_aload_n dL_law_1902 rfl rfl ?_
    refine R_iconst (v := 0) dL_law_1903 (by decide) ?_
    refine G_lald dL_law_1904 (show vp_in (0 : Int32) 1 from nI_in12 (k := 0) (n := 1) (by omega) (by omega)) ?_
    show Q _ _ _ _ _ _ _ _ _ _ [.long (vp_updL o.1 0 (x9.toInt64) 0)] _ _ _
    rw [vu_0]
    refine R_iload dL_law_1905 (by decide) rfl ?_
    refine R_i2l dL_law_1907 rfl ?_
    refine R_lcmp dL_law_1908 ?_
    rw [lg_self]
    refine R_if_eq_t (tgt := 1914) dL_law_1909 rfl rfl ?_
    refine R_goto (tgt := 2420) dL_law_1914 rfl ?_
    refine R_weak dr7 (R_weak dr6 ?_)
    refine R_widen (by omega) (by omega) (K _ _ _ r9)
  · refine R_if_ne_t (tgt := 1914) dL_law_1899 rfl (nI_n0 (by omega) k0) ?_
    refine R_goto (tgt := 2420) dL_law_1914 rfl ?_
    refine R_weak dr7 (R_weak dr6 ?_)
    refine R_widen (by omega) (by omega) (K _ _ _ r9)
theorem lc_faultPosition (hf : l.stackTraces = false) (hG : SCR b L xs G) (hN : NCG G) (hi : i + 4 ≤ L) (hL : L ≤ 2048) (hc : ce + 3 ≤ RC9) (hs : sl + 18 ≤ RS9) (h : REL M p) (K : ∀ M2 p1 o2, REL M2 p1 → Q l RL cL_law 9 19 RC9 RS9 G 2420 (LL (nI i)) [] (hp M2 (p1, o2)) (ce + 3) (sl + 18)) : Q l RL cL_law 9 19 RC9 RS9 G 1917 (LL (nI i)) [] (hp M (p, o)) ce sl := by
  obtain ⟨x9, M1, M2, A, B, r9⟩ := N_faultPosition hf h o
  refine R_aload_n dL_law_1917 rfl rfl ?_
  refine G_cV0 cw_L_244 A dL_law_1918 (rcv cok9 rfl (Nat.le_of_ble_eq_true rfl)) ⟨by decide, by omega, by omega, by decide⟩ ?_
  refine R_aload_n dL_law_1921 rfl rfl ?_
  refine G_cV0 cw_L_247 B dL_law_1922 (rcv cok10 rfl (Nat.le_of_ble_eq_true rfl)) ⟨by decide, by omega, by omega, show 1 ≤ 8 by decide⟩ ?_
  refine R_icmp_eq_t (tgt := 2420) dL_law_1925 rfl rfl ?_
  refine R_widen (by omega) (by omega) (K _ _ _ r9)
theorem lc_reason (hf : l.stackTraces = false) (hG : SCR b L xs G) (hN : NCG G) (hi : i + 4 ≤ L) (hL : L ≤ 2048) (hc : ce + 3 ≤ RC9) (hs : sl + 18 ≤ RS9) (h : REL M p) (K : ∀ M2 p1 o2, REL M2 p1 → Q l RL cL_law 9 19 RC9 RS9 G 2420 (LL (nI i)) [] (hp M2 (p1, o2)) (ce + 3) (sl + 18)) : Q l RL cL_law 9 19 RC9 RS9 G 1930 (LL (nI i)) [] (hp M (p, o)) ce sl := by
  refine R_aload_n dL_law_1930 rfl rfl ?_
  refine R_aload_n dL_law_1931 rfl rfl ?_
  refine R_iload dL_law_1932 (by decide) rfl ?_
  refine R_iconst (v := 1) dL_law_1934 (by decide) ?_
  refine R_iadd dL_law_1935 ?_
  refine R_sld hG dL_law_1936 (vx_ix1 i hi hL) ?_
  refine R_aload_n dL_law_1937 rfl rfl ?_
  obtain ⟨k9, x9, y9, M1, M2, p1, A9, B9, hk9, e9, exy, r9⟩ := P_reason hf h (x := (xs (nI i + 1).toNatClampNeg))
  refine R_callL (As := [.ref 0, .int (xs (nI i + 1).toNatClampNeg), .ref 473]) cx_248 (w_reason hf hk9 (A9 o)) hN dL_law_1938 (by decide) (by omega) (by omega) rfl rfl (by decide) (fun v9 h9 hz => ?_) (fun E9 h9 hz => by cases hz.1)
  obtain ⟨e1, rfl⟩ := hz
  cases e1
  show Q _ _ _ _ _ _ _ _ _ _ [.int (nI k9)] _ _ _
  obtain ⟨o2, eo2⟩ : ∃ o2, o2 = (if k9 = 0 then (vp_updL o.1 0 (x9.toInt64), o.2) else o) := ⟨_, rfl⟩
  rw [← eo2]
  have B := B9 o2
  refine R_istore dL_law_1941 (by decide) (st6 rfl) ?_
  refine R_aload_n dL_law_1943 rfl rfl ?_
  refine R_aload_n dL_law_1944 rfl rfl ?_
  refine R_iload dL_law_1945 (by decide) rfl ?_
  refine R_iconst (v := 1) dL_law_1947 (by decide) ?_
  refine R_iadd dL_law_1948 ?_
  refine R_sld hG dL_law_1949 (vx_ix1 i hi hL) ?_
  refine G_cV1 cw_L_250 B dL_law_1950 (rcv cok10 rfl (Nat.le_of_ble_eq_true rfl)) ⟨by decide, by omega, by omega, by decide⟩ ?_
  refine R_istore dL_law_1953 (by decide) (st7 rfl) ?_
  refine R_aload_n dL_law_1955 rfl rfl ?_
  refine G_cV0 cw_L_151 (s_X10_thrown hf) dL_law_1956 (rcv cok10 rfl (Nat.le_of_ble_eq_true rfl)) ⟨by decide, by omega, by omega, by decide⟩ ?_
  refine R_topE (show M2 464 9 = nI k9 from e9) ?_
  refine R_iload dL_law_1959 (by decide) rfl ?_
  refine R_icmp_eq_t (tgt := 1966) dL_law_1961 rfl rfl ?_
  refine R_iload dL_law_1966 (by decide) rfl ?_
  by_cases k0 : k9 = 0
  · subst k0
    obtain rfl := exy rfl
    rw [if_pos rfl] at eo2
    subst eo2
    refine R_if_ne_f (tgt := 1983) dL_law_1968 rfl rfl ?_
    refine R_aload_n dL_law_1971 rfl rfl ?_
    refine R_iconst (v := 0) dL_law_1972 (by decide) ?_
    refine G_lald dL_law_1973 (show vp_in (0 : Int32) 1 from nI_in12 (k := 0) (n := 1) (by omega) (by omega)) ?_
    show Q _ _ _ _ _ _ _ _ _ _ [.long (vp_updL o.1 0 (x9.toInt64) 0)] _ _ _
    rw [vu_0]
    refine R_iload dL_law_1974 (by decide) rfl ?_
    refine R_i2l dL_law_1976 rfl ?_
    refine R_lcmp dL_law_1977 ?_
    rw [lg_self]
    refine R_if_eq_t (tgt := 1983) dL_law_1978 rfl rfl ?_
    refine R_goto (tgt := 2420) dL_law_1983 rfl ?_
    refine R_weak dr7 (R_weak dr6 ?_)
    refine R_widen (by omega) (by omega) (K _ _ _ r9)
  · refine R_if_ne_t (tgt := 1983) dL_law_1968 rfl (nI_n0 (by omega) k0) ?_
    refine R_goto (tgt := 2420) dL_law_1983 rfl ?_
    refine R_weak dr7 (R_weak dr6 ?_)
    refine R_widen (by omega) (by omega) (K _ _ _ r9)
theorem lc_rack (hf : l.stackTraces = false) (hG : SCR b L xs G) (hN : NCG G) (hi : i + 4 ≤ L) (hL : L ≤ 2048) (hc : ce + 3 ≤ RC9) (hs : sl + 18 ≤ RS9) (h : REL M p) (K : ∀ M2 p1 o2, REL M2 p1 → Q l RL cL_law 9 19 RC9 RS9 G 2420 (LL (nI i)) [] (hp M2 (p1, o2)) (ce + 3) (sl + 18)) : Q l RL cL_law 9 19 RC9 RS9 G 1986 (LL (nI i)) [] (hp M (p, o)) ce sl := by
  refine R_aload_n dL_law_1986 rfl rfl ?_
  refine R_aload_n dL_law_1987 rfl rfl ?_
  refine R_iload dL_law_1988 (by decide) rfl ?_
  refine R_iconst (v := 1) dL_law_1990 (by decide) ?_
  refine R_iadd dL_law_1991 ?_
  refine R_sld hG dL_law_1992 (vx_ix1 i hi hL) ?_
  refine R_aload_n dL_law_1993 rfl rfl ?_
  obtain ⟨k9, x9, y9, M1, M2, p1, A9, B9, hk9, e9, exy, r9⟩ := P_rack hf h (x := (xs (nI i + 1).toNatClampNeg))
  refine R_callL (As := [.ref 0, .int (xs (nI i + 1).toNatClampNeg), .ref 473]) cx_251 (w_rack hf hk9 (A9 o)) hN dL_law_1994 (by decide) (by omega) (by omega) rfl rfl (by decide) (fun v9 h9 hz => ?_) (fun E9 h9 hz => by cases hz.1)
  obtain ⟨e1, rfl⟩ := hz
  cases e1
  show Q _ _ _ _ _ _ _ _ _ _ [.int (nI k9)] _ _ _
  obtain ⟨o2, eo2⟩ : ∃ o2, o2 = (if k9 = 0 then (vp_updL o.1 0 (x9.toInt64), o.2) else o) := ⟨_, rfl⟩
  rw [← eo2]
  have B := B9 o2
  refine R_istore dL_law_1997 (by decide) (st6 rfl) ?_
  refine R_aload_n dL_law_1999 rfl rfl ?_
  refine R_aload_n dL_law_2000 rfl rfl ?_
  refine R_iload dL_law_2001 (by decide) rfl ?_
  refine R_iconst (v := 1) dL_law_2003 (by decide) ?_
  refine R_iadd dL_law_2004 ?_
  refine R_sld hG dL_law_2005 (vx_ix1 i hi hL) ?_
  refine G_cV1 cw_L_253 B dL_law_2006 (rcv cok10 rfl (Nat.le_of_ble_eq_true rfl)) ⟨by decide, by omega, by omega, by decide⟩ ?_
  refine R_istore dL_law_2009 (by decide) (st7 rfl) ?_
  refine R_aload_n dL_law_2011 rfl rfl ?_
  refine G_cV0 cw_L_151 (s_X10_thrown hf) dL_law_2012 (rcv cok10 rfl (Nat.le_of_ble_eq_true rfl)) ⟨by decide, by omega, by omega, by decide⟩ ?_
  refine R_topE (show M2 464 9 = nI k9 from e9) ?_
  refine R_iload dL_law_2015 (by decide) rfl ?_
  refine R_icmp_eq_t (tgt := 2022) dL_law_2017 rfl rfl ?_
  refine R_iload dL_law_2022 (by decide) rfl ?_
  by_cases k0 : k9 = 0
  · subst k0
    obtain rfl := exy rfl
    rw [if_pos rfl] at eo2
    subst eo2
    refine R_if_ne_f (tgt := 2039) dL_law_2024 rfl rfl ?_
    refine R_aload_n dL_law_2027 rfl rfl ?_
    refine R_iconst (v := 0) dL_law_2028 (by decide) ?_
    refine G_lald dL_law_2029 (show vp_in (0 : Int32) 1 from nI_in12 (k := 0) (n := 1) (by omega) (by omega)) ?_
    show Q _ _ _ _ _ _ _ _ _ _ [.long (vp_updL o.1 0 (x9.toInt64) 0)] _ _ _
    rw [vu_0]
    refine R_iload dL_law_2030 (by decide) rfl ?_
    refine R_i2l dL_law_2032 rfl ?_
    refine R_lcmp dL_law_2033 ?_
    rw [lg_self]
    refine R_if_eq_t (tgt := 2039) dL_law_2034 rfl rfl ?_
    refine R_goto (tgt := 2420) dL_law_2039 rfl ?_
    refine R_weak dr7 (R_weak dr6 ?_)
    refine R_widen (by omega) (by omega) (K _ _ _ r9)
  · refine R_if_ne_t (tgt := 2039) dL_law_2024 rfl (nI_n0 (by omega) k0) ?_
    refine R_goto (tgt := 2420) dL_law_2039 rfl ?_
    refine R_weak dr7 (R_weak dr6 ?_)
    refine R_widen (by omega) (by omega) (K _ _ _ r9)
theorem lc_line (hf : l.stackTraces = false) (hG : SCR b L xs G) (hN : NCG G) (hi : i + 4 ≤ L) (hL : L ≤ 2048) (hc : ce + 3 ≤ RC9) (hs : sl + 18 ≤ RS9) (h : REL M p) (K : ∀ M2 p1 o2, REL M2 p1 → Q l RL cL_law 9 19 RC9 RS9 G 2420 (LL (nI i)) [] (hp M2 (p1, o2)) (ce + 3) (sl + 18)) : Q l RL cL_law 9 19 RC9 RS9 G 2042 (LL (nI i)) [] (hp M (p, o)) ce sl := by
  refine R_aload_n dL_law_2042 rfl rfl ?_
  refine R_aload_n dL_law_2043 rfl rfl ?_
  refine R_iload dL_law_2044 (by decide) rfl ?_
  refine R_iconst (v := 1) dL_law_2046 (by decide) ?_
  refine R_iadd dL_law_2047 ?_
  refine R_sld hG dL_law_2048 (vx_ix1 i hi hL) ?_
  refine R_aload_n dL_law_2049 rfl rfl ?_
  obtain ⟨k9, x9, y9, M1, M2, p1, A9, B9, hk9, e9, exy, r9⟩ := P_line hf h (x := (xs (nI i + 1).toNatClampNeg))
  refine R_callL (As := [.ref 0, .int (xs (nI i + 1).toNatClampNeg), .ref 473]) cx_254 (w_line hf hk9 (A9 o)) hN dL_law_2050 (by decide) (by omega) (by omega) rfl rfl (by decide) (fun v9 h9 hz => ?_) (fun E9 h9 hz => by cases hz.1)
  obtain ⟨e1, rfl⟩ := hz
  cases e1
  show Q _ _ _ _ _ _ _ _ _ _ [.int (nI k9)] _ _ _
  obtain ⟨o2, eo2⟩ : ∃ o2, o2 = (if k9 = 0 then (vp_updL o.1 0 (x9.toInt64), o.2) else o) := ⟨_, rfl⟩
  rw [← eo2]
  have B := B9 o2
  refine R_istore dL_law_2053 (by decide) (st6 rfl) ?_
  refine R_aload_n dL_law_2055 rfl rfl ?_
  refine R_aload_n dL_law_2056 rfl rfl ?_
  refine R_iload dL_law_2057 (by decide) rfl ?_
  refine R_iconst (v := 1) dL_law_2059 (by decide) ?_
  refine R_iadd dL_law_2060 ?_
  refine R_sld hG dL_law_2061 (vx_ix1 i hi hL) ?_
  refine G_cV1 cw_L_256 B dL_law_2062 (rcv cok10 rfl (Nat.le_of_ble_eq_true rfl)) ⟨by decide, by omega, by omega, by decide⟩ ?_
  refine R_istore dL_law_2065 (by decide) (st7 rfl) ?_
  refine R_aload_n dL_law_2067 rfl rfl ?_
  refine G_cV0 cw_L_151 (s_X10_thrown hf) dL_law_2068 (rcv cok10 rfl (Nat.le_of_ble_eq_true rfl)) ⟨by decide, by omega, by omega, by decide⟩ ?_
  refine R_topE (show M2 464 9 = nI k9 from e9) ?_
  refine R_iload dL_law_2071 (by decide) rfl ?_
  refine R_icmp_eq_t (tgt := 2078) dL_law_2073 rfl rfl ?_
  refine R_iload dL_law_2078 (by decide) rfl ?_
  by_cases k0 : k9 = 0
  · subst k0
    obtain rfl := exy rfl
    rw [if_pos rfl] at eo2
    subst eo2
    refine R_if_ne_f (tgt := 2095) dL_law_2080 rfl rfl ?_
    refine R_aload_n dL_law_2083 rfl rfl ?_
    refine R_iconst (v := 0) dL_law_2084 (by decide) ?_
    refine G_lald dL_law_2085 (show vp_in (0 : Int32) 1 from nI_in12 (k := 0) (n := 1) (by omega) (by omega)) ?_
    show Q _ _ _ _ _ _ _ _ _ _ [.long (vp_updL o.1 0 (x9.toInt64) 0)] _ _ _
    rw [vu_0]
    refine R_iload dL_law_2086 (by decide) rfl ?_
    refine R_i2l dL_law_2088 rfl ?_
    refine R_lcmp dL_law_2089 ?_
    rw [lg_self]
    refine R_if_eq_t (tgt := 2095) dL_law_2090 rfl rfl ?_
    refine R_goto (tgt := 2420) dL_law_2095 rfl ?_
    refine R_weak dr7 (R_weak dr6 ?_)
    refine R_widen (by omega) (by omega) (K _ _ _ r9)
  · refine R_if_ne_t (tgt := 2095) dL_law_2080 rfl (nI_n0 (by omega) k0) ?_
    refine R_goto (tgt := 2420) dL_law_2095 rfl ?_
    refine R_weak dr7 (R_weak dr6 ?_)
    refine R_widen (by omega) (by omega) (K _ _ _ r9)
theorem lc_character (hf : l.stackTraces = false) (hG : SCR b L xs G) (hN : NCG G) (hi : i + 4 ≤ L) (hL : L ≤ 2048) (hc : ce + 3 ≤ RC9) (hs : sl + 18 ≤ RS9) (h : REL M p) (K : ∀ M2 p1 o2, REL M2 p1 → Q l RL cL_law 9 19 RC9 RS9 G 2420 (LL (nI i)) [] (hp M2 (p1, o2)) (ce + 3) (sl + 18)) : Q l RL cL_law 9 19 RC9 RS9 G 2098 (LL (nI i)) [] (hp M (p, o)) ce sl := by
  refine R_aload_n dL_law_2098 rfl rfl ?_
  refine R_aload_n dL_law_2099 rfl rfl ?_
  refine R_iload dL_law_2100 (by decide) rfl ?_
  refine R_iconst (v := 1) dL_law_2102 (by decide) ?_
  refine R_iadd dL_law_2103 ?_
  refine R_sld hG dL_law_2104 (vx_ix1 i hi hL) ?_
  refine R_aload_n dL_law_2105 rfl rfl ?_
  obtain ⟨k9, x9, y9, M1, M2, p1, A9, B9, hk9, e9, exy, r9⟩ := P_character hf h (x := (xs (nI i + 1).toNatClampNeg))
  refine R_callL (As := [.ref 0, .int (xs (nI i + 1).toNatClampNeg), .ref 473]) cx_257 (w_character hf hk9 (A9 o)) hN dL_law_2106 (by decide) (by omega) (by omega) rfl rfl (by decide) (fun v9 h9 hz => ?_) (fun E9 h9 hz => by cases hz.1)
  obtain ⟨e1, rfl⟩ := hz
  cases e1
  show Q _ _ _ _ _ _ _ _ _ _ [.int (nI k9)] _ _ _
  obtain ⟨o2, eo2⟩ : ∃ o2, o2 = (if k9 = 0 then (vp_updL o.1 0 (x9.toInt64), o.2) else o) := ⟨_, rfl⟩
  rw [← eo2]
  have B := B9 o2
  refine R_istore dL_law_2109 (by decide) (st6 rfl) ?_
  refine R_aload_n dL_law_2111 rfl rfl ?_
  refine R_aload_n dL_law_2112 rfl rfl ?_
  refine R_iload dL_law_2113 (by decide) rfl ?_
  refine R_iconst (v := 1) dL_law_2115 (by decide) ?_
  refine R_iadd dL_law_2116 ?_
  refine R_sld hG dL_law_2117 (vx_ix1 i hi hL) ?_
  refine G_cV1 cw_L_259 B dL_law_2118 (rcv cok10 rfl (Nat.le_of_ble_eq_true rfl)) ⟨by decide, by omega, by omega, by decide⟩ ?_
  refine R_istore dL_law_2121 (by decide) (st7 rfl) ?_
  refine R_aload_n dL_law_2123 rfl rfl ?_
  refine G_cV0 cw_L_151 (s_X10_thrown hf) dL_law_2124 (rcv cok10 rfl (Nat.le_of_ble_eq_true rfl)) ⟨by decide, by omega, by omega, by decide⟩ ?_
  refine R_topE (show M2 464 9 = nI k9 from e9) ?_
  refine R_iload dL_law_2127 (by decide) rfl ?_
  refine R_icmp_eq_t (tgt := 2134) dL_law_2129 rfl rfl ?_
  refine R_iload dL_law_2134 (by decide) rfl ?_
  by_cases k0 : k9 = 0
  · subst k0
    obtain rfl := exy rfl
    rw [if_pos rfl] at eo2
    subst eo2
    refine R_if_ne_f (tgt := 2151) dL_law_2136 rfl rfl ?_
    refine R_aload_n dL_law_2139 rfl rfl ?_
    refine R_iconst (v := 0) dL_law_2140 (by decide) ?_
    refine G_lald dL_law_2141 (show vp_in (0 : Int32) 1 from nI_in12 (k := 0) (n := 1) (by omega) (by omega)) ?_
    show Q _ _ _ _ _ _ _ _ _ _ [.long (vp_updL o.1 0 (x9.toInt64) 0)] _ _ _
    rw [vu_0]
    refine R_iload dL_law_2142 (by decide) rfl ?_
    refine R_i2l dL_law_2144 rfl ?_
    refine R_lcmp dL_law_2145 ?_
    rw [lg_self]
    refine R_if_eq_t (tgt := 2151) dL_law_2146 rfl rfl ?_
    refine R_goto (tgt := 2420) dL_law_2151 rfl ?_
    refine R_weak dr7 (R_weak dr6 ?_)
    refine R_widen (by omega) (by omega) (K _ _ _ r9)
  · refine R_if_ne_t (tgt := 2151) dL_law_2136 rfl (nI_n0 (by omega) k0) ?_
    refine R_goto (tgt := 2420) dL_law_2151 rfl ?_
    refine R_weak dr7 (R_weak dr6 ?_)
    refine R_widen (by omega) (by omega) (K _ _ _ r9)
theorem lc_meanSmoke (hf : l.stackTraces = false) (hG : SCR b L xs G) (hN : NCG G) (hi : i + 4 ≤ L) (hL : L ≤ 2048) (hc : ce + 3 ≤ RC9) (hs : sl + 18 ≤ RS9) (h : REL M p) (K : ∀ M2 p1 o2, REL M2 p1 → Q l RL cL_law 9 19 RC9 RS9 G 2420 (LL (nI i)) [] (hp M2 (p1, o2)) (ce + 3) (sl + 18)) : Q l RL cL_law 9 19 RC9 RS9 G 2154 (LL (nI i)) [] (hp M (p, o)) ce sl := by
  refine R_aload_n dL_law_2154 rfl rfl ?_
  refine R_aload_n dL_law_2155 rfl rfl ?_
  obtain ⟨k9, x9, y9, M1, M2, p1, A9, B9, hk9, e9, exy, r9⟩ := P_meanSmoke hf h 
  refine R_callL (As := [.ref 0, .ref 473]) cx_260 (w_meanSmoke hf hk9 (A9 o)) hN dL_law_2156 (by decide) (by omega) (by omega) rfl rfl (by decide) (fun v9 h9 hz => ?_) (fun E9 h9 hz => by cases hz.1)
  obtain ⟨e1, rfl⟩ := hz
  cases e1
  show Q _ _ _ _ _ _ _ _ _ _ [.int (nI k9)] _ _ _
  obtain ⟨o2, eo2⟩ : ∃ o2, o2 = (if k9 = 0 then (vp_updL o.1 0 (x9.toInt64), o.2) else o) := ⟨_, rfl⟩
  rw [← eo2]
  have B := B9 o2
  refine R_istore dL_law_2159 (by decide) (st6 rfl) ?_
  refine R_aload_n dL_law_2161 rfl rfl ?_
  refine G_cV0 cw_L_262 B dL_law_2162 (rcv cok10 rfl (Nat.le_of_ble_eq_true rfl)) ⟨by decide, by omega, by omega, by decide⟩ ?_
  refine R_istore dL_law_2165 (by decide) (st7 rfl) ?_
  refine R_aload_n dL_law_2167 rfl rfl ?_
  refine G_cV0 cw_L_151 (s_X10_thrown hf) dL_law_2168 (rcv cok10 rfl (Nat.le_of_ble_eq_true rfl)) ⟨by decide, by omega, by omega, by decide⟩ ?_
  refine R_topE (show M2 464 9 = nI k9 from e9) ?_
  refine R_iload dL_law_2171 (by decide) rfl ?_
  refine R_icmp_eq_t (tgt := 2178) dL_law_2173 rfl rfl ?_
  refine R_iload dL_law_2178 (by decide) rfl ?_
  by_cases k0 : k9 = 0
  · subst k0
    obtain rfl := exy rfl
    rw [if_pos rfl] at eo2
    subst eo2
    refine R_if_ne_f (tgt := 2195) dL_law_2180 rfl rfl ?_
    refine R_aload_n dL_law_2183 rfl rfl ?_
    refine R_iconst (v := 0) dL_law_2184 (by decide) ?_
    refine G_lald dL_law_2185 (show vp_in (0 : Int32) 1 from nI_in12 (k := 0) (n := 1) (by omega) (by omega)) ?_
    show Q _ _ _ _ _ _ _ _ _ _ [.long (vp_updL o.1 0 (x9.toInt64) 0)] _ _ _
    rw [vu_0]
    refine R_iload dL_law_2186 (by decide) rfl ?_
    refine R_i2l dL_law_2188 rfl ?_
    refine R_lcmp dL_law_2189 ?_
    rw [lg_self]
    refine R_if_eq_t (tgt := 2195) dL_law_2190 rfl rfl ?_
    refine R_goto (tgt := 2420) dL_law_2195 rfl ?_
    refine R_weak dr7 (R_weak dr6 ?_)
    refine R_widen (by omega) (by omega) (K _ _ _ r9)
  · refine R_if_ne_t (tgt := 2195) dL_law_2180 rfl (nI_n0 (by omega) k0) ?_
    refine R_goto (tgt := 2420) dL_law_2195 rfl ?_
    refine R_weak dr7 (R_weak dr6 ?_)
    refine R_widen (by omega) (by omega) (K _ _ _ r9)
theorem lc_burntShare (hf : l.stackTraces = false) (hG : SCR b L xs G) (hN : NCG G) (hi : i + 4 ≤ L) (hL : L ≤ 2048) (hc : ce + 3 ≤ RC9) (hs : sl + 18 ≤ RS9) (h : REL M p) (K : ∀ M2 p1 o2, REL M2 p1 → Q l RL cL_law 9 19 RC9 RS9 G 2420 (LL (nI i)) [] (hp M2 (p1, o2)) (ce + 3) (sl + 18)) : Q l RL cL_law 9 19 RC9 RS9 G 2198 (LL (nI i)) [] (hp M (p, o)) ce sl := by
  refine R_aload_n dL_law_2198 rfl rfl ?_
  refine R_aload dL_law_2199 (by decide) rfl ?_
  obtain ⟨k9, x9, y9, M2, A9, B9, hk9, e9, exy, r9⟩ := P_burntShare hf h 
  refine R_callL (As := [.ref 0, .ref 474]) cx_263 (w_burntShare hf hk9 (A9 o)) hN dL_law_2201 (by decide) (by omega) (by omega) rfl rfl (by decide) (fun v9 h9 hz => ?_) (fun E9 h9 hz => by cases hz.1)
  obtain ⟨e1, rfl⟩ := hz
  cases e1
  show Q _ _ _ _ _ _ _ _ _ _ [.int (nI k9)] _ _ _
  obtain ⟨o2, eo2⟩ : ∃ o2, o2 = (if k9 = 0 then (o.1, vf_upd o.2 0 x9) else o) := ⟨_, rfl⟩
  rw [← eo2]
  have B := B9 o2
  refine R_istore dL_law_2204 (by decide) (st6 rfl) ?_
  refine R_aload_n dL_law_2206 rfl rfl ?_
  refine R_cV (As := []) cw_L_266 B dL_law_2207 rfl (hp_obj (c := 10) rfl (by decide)) (hp_lt (c := 10) rfl (by decide)) (by decide) (by omega) (by omega) rfl rfl (by decide) ?_
  show Q _ _ _ _ _ _ _ _ _ _ [.double y9] _ _ _
  refine R_dstore dL_law_2210 (by decide) (st7 rfl) rfl ?_
  refine R_aload_n dL_law_2212 rfl rfl ?_
  refine G_cV0 cw_L_151 (s_X10_thrown hf) dL_law_2213 (rcv cok10 rfl (Nat.le_of_ble_eq_true rfl)) ⟨by decide, by omega, by omega, by decide⟩ ?_
  refine R_topE (show M2 464 9 = nI k9 from e9) ?_
  refine R_iload dL_law_2216 (by decide) rfl ?_
  refine R_icmp_eq_t (tgt := 2223) dL_law_2218 rfl rfl ?_
  refine R_iload dL_law_2223 (by decide) rfl ?_
  by_cases k0 : k9 = 0
  · subst k0
    obtain rfl := exy rfl
    rw [if_pos rfl] at eo2
    subst eo2
    refine R_if_ne_f (tgt := 2260) dL_law_2225 rfl rfl ?_
    refine R_aload dL_law_2228 (by decide) rfl ?_
    refine R_iconst (v := 0) dL_law_2230 (by decide) ?_
    refine G_dald dL_law_2231 (show vp_in (0 : Int32) 1 from nI_in12 (k := 0) (n := 1) (by omega) (by omega)) ?_
    show Q _ _ _ _ _ _ _ _ _ _ [.double (vf_upd o.2 0 x9 0)] _ _ _
    rw [vd_0]
    refine R_dload dL_law_2232 (by decide) rfl ?_
    refine R_dcmp dL_law_2234 ?_
    by_cases z9 : Op.cmpValue (FP.dcmp x9 x9) .l = 0
    · refine R_if_eq_t (tgt := 2260) dL_law_2235 rfl z9 ?_
      refine R_goto (tgt := 2420) dL_law_2260 rfl ?_
      refine R_weak dr7 (R_weak dr6 ?_)
      refine R_widen (by omega) (by omega) (K _ _ _ r9)
    · refine R_if_eq_f (tgt := 2260) dL_law_2235 rfl z9 ?_
      refine R_aload dL_law_2238 (by decide) rfl ?_
      refine R_iconst (v := 0) dL_law_2240 (by decide) ?_
      refine G_dald dL_law_2241 (show vp_in (0 : Int32) 1 from nI_in12 (k := 0) (n := 1) (by omega) (by omega)) ?_
      refine R_aload dL_law_2242 (by decide) rfl ?_
      refine R_iconst (v := 0) dL_law_2244 (by decide) ?_
      refine G_dald dL_law_2245 (show vp_in (0 : Int32) 1 from nI_in12 (k := 0) (n := 1) (by omega) (by omega)) ?_
      show Q _ _ _ _ _ _ _ _ _ _ [.double (vf_upd o.2 0 x9 0), .double (vf_upd o.2 0 x9 0)] _ _ _
      rw [vd_0]
      refine R_dcmp dL_law_2246 ?_
      refine R_if_eq_f (tgt := 2258) dL_law_2247 rfl z9 ?_
      refine R_dload dL_law_2250 (by decide) rfl ?_
      refine R_dload dL_law_2252 (by decide) rfl ?_
      refine R_dcmp dL_law_2254 ?_
      refine R_if_ne_t (tgt := 2260) dL_law_2255 rfl z9 ?_
      refine R_goto (tgt := 2420) dL_law_2260 rfl ?_
      refine R_weak dr7 (R_weak dr6 ?_)
      refine R_widen (by omega) (by omega) (K _ _ _ r9)
  · refine R_if_ne_t (tgt := 2260) dL_law_2225 rfl (nI_n0 (by omega) k0) ?_
    refine R_goto (tgt := 2420) dL_law_2260 rfl ?_
    refine R_weak dr7 (R_weak dr6 ?_)
    refine R_widen (by omega) (by omega) (K _ _ _ r9)
theorem lc_account (hf : l.stackTraces = false) (hG : SCR b L xs G) (hN : NCG G) (hi : i + 4 ≤ L) (hL : L ≤ 2048) (hc : ce + 3 ≤ RC9) (hs : sl + 18 ≤ RS9) (h : REL M p) (K : ∀ M2 p1 o2, REL M2 p1 → Q l RL cL_law 9 19 RC9 RS9 G 2420 (LL (nI i)) [] (hp M2 (p1, o2)) (ce + 3) (sl + 18)) : Q l RL cL_law 9 19 RC9 RS9 G 2263 (LL (nI i)) [] (hp M (p, o)) ce sl := by
  refine R_aload_n dL_law_2263 rfl rfl ?_
  refine R_aload_n dL_law_2264 rfl rfl ?_
  refine R_iload dL_law_2265 (by decide) rfl ?_
  refine R_iconst (v := 1) dL_law_2267 (by decide) ?_
  refine R_iadd dL_law_2268 ?_
  refine R_sld hG dL_law_2269 (vx_ix1 i hi hL) ?_
  refine R_aload_n dL_law_2270 rfl rfl ?_
  obtain ⟨k9, x9, y9, M1, M2, p1, A9, B9, hk9, e9, exy, r9⟩ := P_account hf h (x := (xs (nI i + 1).toNatClampNeg))
  refine R_callL (As := [.ref 0, .int (xs (nI i + 1).toNatClampNeg), .ref 473]) cx_267 (w_account hf hk9 (A9 o)) hN dL_law_2271 (by decide) (by omega) (by omega) rfl rfl (by decide) (fun v9 h9 hz => ?_) (fun E9 h9 hz => by cases hz.1)
  obtain ⟨e1, rfl⟩ := hz
  cases e1
  show Q _ _ _ _ _ _ _ _ _ _ [.int (nI k9)] _ _ _
  obtain ⟨o2, eo2⟩ : ∃ o2, o2 = (if k9 = 0 then (vp_updL o.1 0 (x9.toInt64), o.2) else o) := ⟨_, rfl⟩
  rw [← eo2]
  have B := B9 o2
  refine R_istore dL_law_2274 (by decide) (st6 rfl) ?_
  refine R_aload_n dL_law_2276 rfl rfl ?_
  refine R_aload_n dL_law_2277 rfl rfl ?_
  refine R_iload dL_law_2278 (by decide) rfl ?_
  refine R_iconst (v := 1) dL_law_2280 (by decide) ?_
  refine R_iadd dL_law_2281 ?_
  refine R_sld hG dL_law_2282 (vx_ix1 i hi hL) ?_
  refine G_cV1 cw_L_269 B dL_law_2283 (rcv cok10 rfl (Nat.le_of_ble_eq_true rfl)) ⟨by decide, by omega, by omega, by decide⟩ ?_
  refine R_istore dL_law_2286 (by decide) (st7 rfl) ?_
  refine R_aload_n dL_law_2288 rfl rfl ?_
  refine G_cV0 cw_L_151 (s_X10_thrown hf) dL_law_2289 (rcv cok10 rfl (Nat.le_of_ble_eq_true rfl)) ⟨by decide, by omega, by omega, by decide⟩ ?_
  refine R_topE (show M2 464 9 = nI k9 from e9) ?_
  refine R_iload dL_law_2292 (by decide) rfl ?_
  refine R_icmp_eq_t (tgt := 2299) dL_law_2294 rfl rfl ?_
  refine R_iload dL_law_2299 (by decide) rfl ?_
  by_cases k0 : k9 = 0
  · subst k0
    obtain rfl := exy rfl
    rw [if_pos rfl] at eo2
    subst eo2
    refine R_if_ne_f (tgt := 2316) dL_law_2301 rfl rfl ?_
    refine R_aload_n dL_law_2304 rfl rfl ?_
    refine R_iconst (v := 0) dL_law_2305 (by decide) ?_
    refine G_lald dL_law_2306 (show vp_in (0 : Int32) 1 from nI_in12 (k := 0) (n := 1) (by omega) (by omega)) ?_
    show Q _ _ _ _ _ _ _ _ _ _ [.long (vp_updL o.1 0 (x9.toInt64) 0)] _ _ _
    rw [vu_0]
    refine R_iload dL_law_2307 (by decide) rfl ?_
    refine R_i2l dL_law_2309 rfl ?_
    refine R_lcmp dL_law_2310 ?_
    rw [lg_self]
    refine R_if_eq_t (tgt := 2316) dL_law_2311 rfl rfl ?_
    refine R_goto (tgt := 2420) dL_law_2316 rfl ?_
    refine R_weak dr7 (R_weak dr6 ?_)
    refine R_widen (by omega) (by omega) (K _ _ _ r9)
  · refine R_if_ne_t (tgt := 2316) dL_law_2301 rfl (nI_n0 (by omega) k0) ?_
    refine R_goto (tgt := 2420) dL_law_2316 rfl ?_
    refine R_weak dr7 (R_weak dr6 ?_)
    refine R_widen (by omega) (by omega) (K _ _ _ r9)
theorem lc_undo (hf : l.stackTraces = false) (hG : SCR b L xs G) (hN : NCG G) (hi : i + 4 ≤ L) (hL : L ≤ 2048) (hc : ce + 3 ≤ RC9) (hs : sl + 18 ≤ RS9) (h : REL M p) (K : ∀ M2 p1 o2, REL M2 p1 → Q l RL cL_law 9 19 RC9 RS9 G 2420 (LL (nI i)) [] (hp M2 (p1, o2)) (ce + 3) (sl + 18)) : Q l RL cL_law 9 19 RC9 RS9 G 2319 (LL (nI i)) [] (hp M (p, o)) ce sl := by
  refine R_aload_n dL_law_2319 rfl rfl ?_
  refine R_aload_n dL_law_2320 rfl rfl ?_
  obtain ⟨k9, x9, y9, M1, M2, p1, A9, B9, hk9, e9, exy, r9⟩ := P_undo hf h 
  refine R_callL (As := [.ref 0, .ref 473]) cx_270 (w_undo hf hk9 (A9 o)) hN dL_law_2321 (by decide) (by omega) (by omega) rfl rfl (by decide) (fun v9 h9 hz => ?_) (fun E9 h9 hz => by cases hz.1)
  obtain ⟨e1, rfl⟩ := hz
  cases e1
  show Q _ _ _ _ _ _ _ _ _ _ [.int (nI k9)] _ _ _
  obtain ⟨o2, eo2⟩ : ∃ o2, o2 = (if k9 = 0 then (vp_updL o.1 0 (x9.toInt64), o.2) else o) := ⟨_, rfl⟩
  rw [← eo2]
  have B := B9 o2
  refine R_istore dL_law_2324 (by decide) (st6 rfl) ?_
  refine R_aload_n dL_law_2326 rfl rfl ?_
  refine G_cV0 cw_L_272 B dL_law_2327 (rcv cok10 rfl (Nat.le_of_ble_eq_true rfl)) ⟨by decide, by omega, by omega, by decide⟩ ?_
  refine R_istore dL_law_2330 (by decide) (st7 rfl) ?_
  refine R_aload_n dL_law_2332 rfl rfl ?_
  refine G_cV0 cw_L_151 (s_X10_thrown hf) dL_law_2333 (rcv cok10 rfl (Nat.le_of_ble_eq_true rfl)) ⟨by decide, by omega, by omega, by decide⟩ ?_
  refine R_topE (show M2 464 9 = nI k9 from e9) ?_
  refine R_iload dL_law_2336 (by decide) rfl ?_
  refine R_icmp_eq_t (tgt := 2343) dL_law_2338 rfl rfl ?_
  refine R_iload dL_law_2343 (by decide) rfl ?_
  by_cases k0 : k9 = 0
  · subst k0
    obtain rfl := exy rfl
    rw [if_pos rfl] at eo2
    subst eo2
    refine R_if_ne_f (tgt := 2360) dL_law_2345 rfl rfl ?_
    refine R_aload_n dL_law_2348 rfl rfl ?_
    refine R_iconst (v := 0) dL_law_2349 (by decide) ?_
    refine G_lald dL_law_2350 (show vp_in (0 : Int32) 1 from nI_in12 (k := 0) (n := 1) (by omega) (by omega)) ?_
    show Q _ _ _ _ _ _ _ _ _ _ [.long (vp_updL o.1 0 (x9.toInt64) 0)] _ _ _
    rw [vu_0]
    refine R_iload dL_law_2351 (by decide) rfl ?_
    refine R_i2l dL_law_2353 rfl ?_
    refine R_lcmp dL_law_2354 ?_
    rw [lg_self]
    refine R_if_eq_t (tgt := 2360) dL_law_2355 rfl rfl ?_
    refine R_goto (tgt := 2420) dL_law_2360 rfl ?_
    refine R_weak dr7 (R_weak dr6 ?_)
    refine R_widen (by omega) (by omega) (K _ _ _ r9)
  · refine R_if_ne_t (tgt := 2360) dL_law_2345 rfl (nI_n0 (by omega) k0) ?_
    refine R_goto (tgt := 2420) dL_law_2360 rfl ?_
    refine R_weak dr7 (R_weak dr6 ?_)
    refine R_widen (by omega) (by omega) (K _ _ _ r9)
theorem lc_save (hf : l.stackTraces = false) (hG : SCR b L xs G) (hN : NCG G) (hi : i + 4 ≤ L) (hL : L ≤ 2048) (hc : ce + 3 ≤ RC9) (hs : sl + 18 ≤ RS9) (h : REL M p) (K : ∀ M2 p1 o2, REL M2 p1 → Q l RL cL_law 9 19 RC9 RS9 G 2420 (LL (nI i)) [] (hp M2 (p1, o2)) (ce + 3) (sl + 18)) : Q l RL cL_law 9 19 RC9 RS9 G 2363 (LL (nI i)) [] (hp M (p, o)) ce sl := by
  obtain ⟨x9, M1, M2, A, B, r9⟩ := N_save hf h o
  refine R_aload_n dL_law_2363 rfl rfl ?_
  refine G_cV0 cw_L_273 A dL_law_2364 (rcv cok9 rfl (Nat.le_of_ble_eq_true rfl)) ⟨by decide, by omega, by omega, by decide⟩ ?_
  refine R_aload_n dL_law_2367 rfl rfl ?_
  refine G_cV0 cw_L_276 B dL_law_2368 (rcv cok10 rfl (Nat.le_of_ble_eq_true rfl)) ⟨by decide, by omega, by omega, show 1 ≤ 8 by decide⟩ ?_
  refine R_icmp_eq_t (tgt := 2420) dL_law_2371 rfl rfl ?_
  refine R_widen (by omega) (by omega) (K _ _ _ r9)
theorem lc_restore (hf : l.stackTraces = false) (hG : SCR b L xs G) (hN : NCG G) (hi : i + 4 ≤ L) (hL : L ≤ 2048) (hc : ce + 3 ≤ RC9) (hs : sl + 18 ≤ RS9) (h : REL M p) (K : ∀ M2 p1 o2, REL M2 p1 → Q l RL cL_law 9 19 RC9 RS9 G 2420 (LL (nI i)) [] (hp M2 (p1, o2)) (ce + 3) (sl + 18)) : Q l RL cL_law 9 19 RC9 RS9 G 2376 (LL (nI i)) [] (hp M (p, o)) ce sl := by
  refine R_aload_n dL_law_2376 rfl rfl ?_
  refine R_aload_n dL_law_2377 rfl rfl ?_
  obtain ⟨k9, x9, y9, M1, M2, p1, A9, B9, hk9, e9, exy, r9⟩ := P_restore hf h 
  refine R_callL (As := [.ref 0, .ref 473]) cx_277 (w_restore hf hk9 (A9 o)) hN dL_law_2378 (by decide) (by omega) (by omega) rfl rfl (by decide) (fun v9 h9 hz => ?_) (fun E9 h9 hz => by cases hz.1)
  obtain ⟨e1, rfl⟩ := hz
  cases e1
  show Q _ _ _ _ _ _ _ _ _ _ [.int (nI k9)] _ _ _
  obtain ⟨o2, eo2⟩ : ∃ o2, o2 = (if k9 = 0 then (vp_updL o.1 0 (x9.toInt64), o.2) else o) := ⟨_, rfl⟩
  rw [← eo2]
  have B := B9 o2
  refine R_istore dL_law_2381 (by decide) (st6 rfl) ?_
  refine R_aload_n dL_law_2383 rfl rfl ?_
  refine G_cV0 cw_L_279 B dL_law_2384 (rcv cok10 rfl (Nat.le_of_ble_eq_true rfl)) ⟨by decide, by omega, by omega, by decide⟩ ?_
  refine R_istore dL_law_2387 (by decide) (st7 rfl) ?_
  refine R_aload_n dL_law_2389 rfl rfl ?_
  refine G_cV0 cw_L_151 (s_X10_thrown hf) dL_law_2390 (rcv cok10 rfl (Nat.le_of_ble_eq_true rfl)) ⟨by decide, by omega, by omega, by decide⟩ ?_
  refine R_topE (show M2 464 9 = nI k9 from e9) ?_
  refine R_iload dL_law_2393 (by decide) rfl ?_
  refine R_icmp_eq_t (tgt := 2400) dL_law_2395 rfl rfl ?_
  refine R_iload dL_law_2400 (by decide) rfl ?_
  by_cases k0 : k9 = 0
  · subst k0
    obtain rfl := exy rfl
    rw [if_pos rfl] at eo2
    subst eo2
    refine R_if_ne_f (tgt := 2417) dL_law_2402 rfl rfl ?_
    refine R_aload_n dL_law_2405 rfl rfl ?_
    refine R_iconst (v := 0) dL_law_2406 (by decide) ?_
    refine G_lald dL_law_2407 (show vp_in (0 : Int32) 1 from nI_in12 (k := 0) (n := 1) (by omega) (by omega)) ?_
    show Q _ _ _ _ _ _ _ _ _ _ [.long (vp_updL o.1 0 (x9.toInt64) 0)] _ _ _
    rw [vu_0]
    refine R_iload dL_law_2408 (by decide) rfl ?_
    refine R_i2l dL_law_2410 rfl ?_
    refine R_lcmp dL_law_2411 ?_
    rw [lg_self]
    refine R_if_eq_t (tgt := 2417) dL_law_2412 rfl rfl ?_
    refine R_goto (tgt := 2420) dL_law_2417 rfl ?_
    refine R_weak dr7 (R_weak dr6 ?_)
    refine R_widen (by omega) (by omega) (K _ _ _ r9)
  · refine R_if_ne_t (tgt := 2417) dL_law_2402 rfl (nI_n0 (by omega) k0) ?_
    refine R_goto (tgt := 2420) dL_law_2417 rfl ?_
    refine R_weak dr7 (R_weak dr6 ?_)
    refine R_widen (by omega) (by omega) (K _ _ _ r9)
end P56
