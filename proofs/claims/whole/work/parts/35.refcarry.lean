def tCar (M : MM) (n c q : Nat) : Int32 × MM := if M 472 q = 97 then tTrk M n c (M 472 (q + 1)) else if M 472 q = 98 then tBri M n c (M 472 (q + 1)) else if M 472 q = 100 then tDay M n c else if M 472 q = 102 then tFis M n c (M 472 (q + 1)) else if M 472 q = 104 then tHan M n c (M 472 (q + 1)) (M 472 (q + 2)) (M 472 (q + 3)) else if M 472 q = 108 then tLog M n c (M 472 (q + 1)) else if M 472 q = 110 then tHrs M n c (M 472 (q + 1)) else if M 472 q = 111 then tOut M n c (M 472 (q + 1)) else if M 472 q = 115 then tSel M n c (M 472 (q + 1)) else if M 472 q = 116 then tTur M n c (M 472 (q + 1)) else if M 472 q = 119 then tWoo M n c (M 472 (q + 1)) else tThr M n c (M 472 (q + 1))
section P35
variable {M : MM} {r : MR}
theorem s_X10_carries {l : Launch} (hf : l.stackTraces = false) {n : Nat} (hn : n ≤ 12) (hg : M 465 0 = nI n) {c : Nat} (hc : c ≤ 8) (h6 : M 464 6 = nI c) (hd5 : dwn M n) {q : Nat} (hq : q + 3 < 128) : V_X10_carries l [.ref 464, .int (nI q)] (hp M r) (VI (tCar M n c q).1 (hp (tCar M n c q).2 r)) := by
  refine VM.intro (lf := L9 (some (.ref 464)) (some (.int (nI q))) none none none none none none none) (by decide +kernel) hf (fun _ => (Nat.le_of_ble_eq_true rfl)) (fun _ => rfl) ?_
  have eq9 : (nI q).toNatClampNeg = q := nI_cl (by omega)
  refine R_aload_n dX10_carries_0 rfl rfl ?_
  refine G_get cok10 19 wf_X10_36 dX10_carries_1 (by first | exact rfl | assumption) ⟨(Nat.le_of_ble_eq_true rfl), (Nat.le_of_ble_eq_true rfl)⟩ rfl ?_
  refine R_iload_n dX10_carries_4 rfl rfl ?_
  refine R_iconst (v := 1) dX10_carries_5 (by decide) ?_
  refine R_iadd dX10_carries_6 ?_
  refine R_topE (show nI q + 1 = nI (q + 1) from nI_add2 q 1) ?_
  refine G_iald dX10_carries_7 (by first | exact rfl | assumption) (show vp_in (nI (q + 1)) 128 from nI_in12 (by omega) (by omega)) ?_
  refine R_topE (show M 472 (nI (q + 1)).toNatClampNeg = M 472 (q + 1) from by rw [nI_cl (by omega)]) ?_
  refine R_istore_n dX10_carries_8 rfl (by decide) (st2 rfl) ?_
  refine R_aload_n dX10_carries_9 rfl rfl ?_
  refine G_get cok10 19 wf_X10_36 dX10_carries_10 (by first | exact rfl | assumption) ⟨(Nat.le_of_ble_eq_true rfl), (Nat.le_of_ble_eq_true rfl)⟩ rfl ?_
  refine R_iload_n dX10_carries_13 rfl rfl ?_
  refine G_iald dX10_carries_14 (by first | exact rfl | assumption) (show vp_in (nI q) 128 from nI_in12 (by omega) (by omega)) ?_
  refine R_topE (show M 472 (nI q).toNatClampNeg = M 472 q from by rw [eq9]) ?_
  by_cases e0 : M 472 q = 97
  · refine R_topE e0 ?_
    refine R_tableIn (tgt := 166) dX10_carries_15 (by decide) (by decide) rfl rfl ?_
    refine R_aload_n dX10_carries_166 rfl rfl ?_
    refine R_iload_n dX10_carries_167 rfl rfl ?_
    refine G_cV1 cw_X10_208 (s_X10_turnAll hf hn hg hc h6) dX10_carries_168 (rcv cok10 (by first | exact rfl | assumption) (Nat.le_of_ble_eq_true rfl)) ⟨(Nat.le_of_ble_eq_true rfl), (Nat.le_of_ble_eq_true rfl), (Nat.le_of_ble_eq_true rfl), (Nat.le_of_ble_eq_true rfl)⟩ ?_
    refine R_iret dX10_carries_171 rfl (Nat.le_of_ble_eq_true rfl) (Nat.le_of_ble_eq_true rfl) ?_
    have e99 : tCar M n c q = tTrk M n c (M 472 (q + 1)) := by unfold tCar; simp [*]
    rw [e99]
    exact ⟨rfl, rfl⟩
  · by_cases e1 : M 472 q = 98
    · refine R_topE e1 ?_
      refine R_tableIn (tgt := 126) dX10_carries_15 (by decide) (by decide) rfl rfl ?_
      refine R_aload_n dX10_carries_126 rfl rfl ?_
      refine R_iload_n dX10_carries_127 rfl rfl ?_
      refine G_cV1 cw_X10_196 (s_X10_brine hf hn hg hc h6) dX10_carries_128 (rcv cok10 (by first | exact rfl | assumption) (Nat.le_of_ble_eq_true rfl)) ⟨(Nat.le_of_ble_eq_true rfl), (Nat.le_of_ble_eq_true rfl), (Nat.le_of_ble_eq_true rfl), (Nat.le_of_ble_eq_true rfl)⟩ ?_
      refine R_iret dX10_carries_131 rfl (Nat.le_of_ble_eq_true rfl) (Nat.le_of_ble_eq_true rfl) ?_
      have e99 : tCar M n c q = tBri M n c (M 472 (q + 1)) := by unfold tCar; simp [*]
      rw [e99]
      exact ⟨rfl, rfl⟩
    · by_cases e2 : M 472 q = 99
      · refine R_topE e2 ?_
        refine R_tableIn (tgt := 201) dX10_carries_15 (by decide) (by decide) rfl rfl ?_
        refine R_aload_n dX10_carries_201 rfl rfl ?_
        refine R_iload_n dX10_carries_202 rfl rfl ?_
        refine G_cV1 cw_X10_226 (s_X10_throwAway hf hn hg hc h6) dX10_carries_203 (rcv cok10 (by first | exact rfl | assumption) (Nat.le_of_ble_eq_true rfl)) ⟨(Nat.le_of_ble_eq_true rfl), (Nat.le_of_ble_eq_true rfl), (Nat.le_of_ble_eq_true rfl), (Nat.le_of_ble_eq_true rfl)⟩ ?_
        refine R_iret dX10_carries_206 rfl (Nat.le_of_ble_eq_true rfl) (Nat.le_of_ble_eq_true rfl) ?_
        have e99 : tCar M n c q = tThr M n c (M 472 (q + 1)) := by unfold tCar; simp [*]
        rw [e99]
        exact ⟨rfl, rfl⟩
      · by_cases e3 : M 472 q = 100
        · refine R_topE e3 ?_
          refine R_tableIn (tgt := 184) dX10_carries_15 (by decide) (by decide) rfl rfl ?_
          refine R_aload_n dX10_carries_184 rfl rfl ?_
          refine G_cV0 cw_X10_217 (s_X10_day hf hn hg hc h6) dX10_carries_185 (rcv cok10 (by first | exact rfl | assumption) (Nat.le_of_ble_eq_true rfl)) ⟨(Nat.le_of_ble_eq_true rfl), (Nat.le_of_ble_eq_true rfl), (Nat.le_of_ble_eq_true rfl), (Nat.le_of_ble_eq_true rfl)⟩ ?_
          refine R_iret dX10_carries_188 rfl (Nat.le_of_ble_eq_true rfl) (Nat.le_of_ble_eq_true rfl) ?_
          have e99 : tCar M n c q = tDay M n c := by unfold tCar; simp [*]
          rw [e99]
          exact ⟨rfl, rfl⟩
        · by_cases e4 : M 472 q = 101
          · refine R_topE e4 ?_
            refine R_tableIn (tgt := 201) dX10_carries_15 (by decide) (by decide) rfl rfl ?_
            refine R_aload_n dX10_carries_201 rfl rfl ?_
            refine R_iload_n dX10_carries_202 rfl rfl ?_
            refine G_cV1 cw_X10_226 (s_X10_throwAway hf hn hg hc h6) dX10_carries_203 (rcv cok10 (by first | exact rfl | assumption) (Nat.le_of_ble_eq_true rfl)) ⟨(Nat.le_of_ble_eq_true rfl), (Nat.le_of_ble_eq_true rfl), (Nat.le_of_ble_eq_true rfl), (Nat.le_of_ble_eq_true rfl)⟩ ?_
            refine R_iret dX10_carries_206 rfl (Nat.le_of_ble_eq_true rfl) (Nat.le_of_ble_eq_true rfl) ?_
            have e99 : tCar M n c q = tThr M n c (M 472 (q + 1)) := by unfold tCar; simp [*]
            rw [e99]
            exact ⟨rfl, rfl⟩
          · by_cases e5 : M 472 q = 102
            · refine R_topE e5 ?_
              refine R_tableIn (tgt := 120) dX10_carries_15 (by decide) (by decide) rfl rfl ?_
              refine R_aload_n dX10_carries_120 rfl rfl ?_
              refine R_iload_n dX10_carries_121 rfl rfl ?_
              refine G_cV1 cw_X10_193 (s_X10_fish hf hn hg hc h6) dX10_carries_122 (rcv cok10 (by first | exact rfl | assumption) (Nat.le_of_ble_eq_true rfl)) ⟨(Nat.le_of_ble_eq_true rfl), (Nat.le_of_ble_eq_true rfl), (Nat.le_of_ble_eq_true rfl), (Nat.le_of_ble_eq_true rfl)⟩ ?_
              refine R_iret dX10_carries_125 rfl (Nat.le_of_ble_eq_true rfl) (Nat.le_of_ble_eq_true rfl) ?_
              have e99 : tCar M n c q = tFis M n c (M 472 (q + 1)) := by unfold tCar; simp [*]
              rw [e99]
              exact ⟨rfl, rfl⟩
            · by_cases e6 : M 472 q = 103
              · refine R_topE e6 ?_
                refine R_tableIn (tgt := 201) dX10_carries_15 (by decide) (by decide) rfl rfl ?_
                refine R_aload_n dX10_carries_201 rfl rfl ?_
                refine R_iload_n dX10_carries_202 rfl rfl ?_
                refine G_cV1 cw_X10_226 (s_X10_throwAway hf hn hg hc h6) dX10_carries_203 (rcv cok10 (by first | exact rfl | assumption) (Nat.le_of_ble_eq_true rfl)) ⟨(Nat.le_of_ble_eq_true rfl), (Nat.le_of_ble_eq_true rfl), (Nat.le_of_ble_eq_true rfl), (Nat.le_of_ble_eq_true rfl)⟩ ?_
                refine R_iret dX10_carries_206 rfl (Nat.le_of_ble_eq_true rfl) (Nat.le_of_ble_eq_true rfl) ?_
                have e99 : tCar M n c q = tThr M n c (M 472 (q + 1)) := by unfold tCar; simp [*]
                rw [e99]
                exact ⟨rfl, rfl⟩
              · by_cases e7 : M 472 q = 104
                · refine R_topE e7 ?_
                  refine R_tableIn (tgt := 138) dX10_carries_15 (by decide) (by decide) rfl rfl ?_
                  refine R_aload_n dX10_carries_138 rfl rfl ?_
                  refine R_iload_n dX10_carries_139 rfl rfl ?_
                  refine R_aload_n dX10_carries_140 rfl rfl ?_
                  refine G_get cok10 19 wf_X10_36 dX10_carries_141 (by first | exact rfl | assumption) ⟨(Nat.le_of_ble_eq_true rfl), (Nat.le_of_ble_eq_true rfl)⟩ rfl ?_
                  refine R_iload_n dX10_carries_144 rfl rfl ?_
                  refine R_iconst (v := 2) dX10_carries_145 (by decide) ?_
                  refine R_iadd dX10_carries_146 ?_
                  refine R_topE (show nI q + 2 = nI (q + 2) from nI_add2 q 2) ?_
                  refine G_iald dX10_carries_147 (by first | exact rfl | assumption) (show vp_in (nI (q + 2)) 128 from nI_in12 (by omega) (by omega)) ?_
                  refine R_topE (show M 472 (nI (q + 2)).toNatClampNeg = M 472 (q + 2) from by rw [nI_cl (by omega)]) ?_
                  refine R_aload_n dX10_carries_148 rfl rfl ?_
                  refine G_get cok10 19 wf_X10_36 dX10_carries_149 (by first | exact rfl | assumption) ⟨(Nat.le_of_ble_eq_true rfl), (Nat.le_of_ble_eq_true rfl)⟩ rfl ?_
                  refine R_iload_n dX10_carries_152 rfl rfl ?_
                  refine R_iconst (v := 3) dX10_carries_153 (by decide) ?_
                  refine R_iadd dX10_carries_154 ?_
                  refine R_topE (show nI q + 3 = nI (q + 3) from nI_add2 q 3) ?_
                  refine G_iald dX10_carries_155 (by first | exact rfl | assumption) (show vp_in (nI (q + 3)) 128 from nI_in12 (by omega) (by omega)) ?_
                  refine R_topE (show M 472 (nI (q + 3)).toNatClampNeg = M 472 (q + 3) from by rw [nI_cl (by omega)]) ?_
                  refine G_cV3 cw_X10_202 (s_X10_hang hf hn hg hc h6) dX10_carries_156 (rcv cok10 (by first | exact rfl | assumption) (Nat.le_of_ble_eq_true rfl)) ⟨(Nat.le_of_ble_eq_true rfl), (Nat.le_of_ble_eq_true rfl), (Nat.le_of_ble_eq_true rfl), (Nat.le_of_ble_eq_true rfl)⟩ ?_
                  refine R_iret dX10_carries_159 rfl (Nat.le_of_ble_eq_true rfl) (Nat.le_of_ble_eq_true rfl) ?_
                  have e99 : tCar M n c q = tHan M n c (M 472 (q + 1)) (M 472 (q + 2)) (M 472 (q + 3)) := by unfold tCar; simp [*]
                  rw [e99]
                  exact ⟨rfl, rfl⟩
                · by_cases e8 : M 472 q = 105
                  · refine R_topE e8 ?_
                    refine R_tableIn (tgt := 201) dX10_carries_15 (by decide) (by decide) rfl rfl ?_
                    refine R_aload_n dX10_carries_201 rfl rfl ?_
                    refine R_iload_n dX10_carries_202 rfl rfl ?_
                    refine G_cV1 cw_X10_226 (s_X10_throwAway hf hn hg hc h6) dX10_carries_203 (rcv cok10 (by first | exact rfl | assumption) (Nat.le_of_ble_eq_true rfl)) ⟨(Nat.le_of_ble_eq_true rfl), (Nat.le_of_ble_eq_true rfl), (Nat.le_of_ble_eq_true rfl), (Nat.le_of_ble_eq_true rfl)⟩ ?_
                    refine R_iret dX10_carries_206 rfl (Nat.le_of_ble_eq_true rfl) (Nat.le_of_ble_eq_true rfl) ?_
                    have e99 : tCar M n c q = tThr M n c (M 472 (q + 1)) := by unfold tCar; simp [*]
                    rw [e99]
                    exact ⟨rfl, rfl⟩
                  · by_cases e9 : M 472 q = 106
                    · refine R_topE e9 ?_
                      refine R_tableIn (tgt := 201) dX10_carries_15 (by decide) (by decide) rfl rfl ?_
                      refine R_aload_n dX10_carries_201 rfl rfl ?_
                      refine R_iload_n dX10_carries_202 rfl rfl ?_
                      refine G_cV1 cw_X10_226 (s_X10_throwAway hf hn hg hc h6) dX10_carries_203 (rcv cok10 (by first | exact rfl | assumption) (Nat.le_of_ble_eq_true rfl)) ⟨(Nat.le_of_ble_eq_true rfl), (Nat.le_of_ble_eq_true rfl), (Nat.le_of_ble_eq_true rfl), (Nat.le_of_ble_eq_true rfl)⟩ ?_
                      refine R_iret dX10_carries_206 rfl (Nat.le_of_ble_eq_true rfl) (Nat.le_of_ble_eq_true rfl) ?_
                      have e99 : tCar M n c q = tThr M n c (M 472 (q + 1)) := by unfold tCar; simp [*]
                      rw [e99]
                      exact ⟨rfl, rfl⟩
                    · by_cases e10 : M 472 q = 107
                      · refine R_topE e10 ?_
                        refine R_tableIn (tgt := 201) dX10_carries_15 (by decide) (by decide) rfl rfl ?_
                        refine R_aload_n dX10_carries_201 rfl rfl ?_
                        refine R_iload_n dX10_carries_202 rfl rfl ?_
                        refine G_cV1 cw_X10_226 (s_X10_throwAway hf hn hg hc h6) dX10_carries_203 (rcv cok10 (by first | exact rfl | assumption) (Nat.le_of_ble_eq_true rfl)) ⟨(Nat.le_of_ble_eq_true rfl), (Nat.le_of_ble_eq_true rfl), (Nat.le_of_ble_eq_true rfl), (Nat.le_of_ble_eq_true rfl)⟩ ?_
                        refine R_iret dX10_carries_206 rfl (Nat.le_of_ble_eq_true rfl) (Nat.le_of_ble_eq_true rfl) ?_
                        have e99 : tCar M n c q = tThr M n c (M 472 (q + 1)) := by unfold tCar; simp [*]
                        rw [e99]
                        exact ⟨rfl, rfl⟩
                      · by_cases e11 : M 472 q = 108
                        · refine R_topE e11 ?_
                          refine R_tableIn (tgt := 172) dX10_carries_15 (by decide) (by decide) rfl rfl ?_
                          refine R_aload_n dX10_carries_172 rfl rfl ?_
                          refine R_iload_n dX10_carries_173 rfl rfl ?_
                          refine G_cV1 cw_X10_211 (s_X10_logs hf hn hg hc h6) dX10_carries_174 (rcv cok10 (by first | exact rfl | assumption) (Nat.le_of_ble_eq_true rfl)) ⟨(Nat.le_of_ble_eq_true rfl), (Nat.le_of_ble_eq_true rfl), (Nat.le_of_ble_eq_true rfl), (Nat.le_of_ble_eq_true rfl)⟩ ?_
                          refine R_iret dX10_carries_177 rfl (Nat.le_of_ble_eq_true rfl) (Nat.le_of_ble_eq_true rfl) ?_
                          have e99 : tCar M n c q = tLog M n c (M 472 (q + 1)) := by unfold tCar; simp [*]
                          rw [e99]
                          exact ⟨rfl, rfl⟩
                        · by_cases e12 : M 472 q = 109
                          · refine R_topE e12 ?_
                            refine R_tableIn (tgt := 201) dX10_carries_15 (by decide) (by decide) rfl rfl ?_
                            refine R_aload_n dX10_carries_201 rfl rfl ?_
                            refine R_iload_n dX10_carries_202 rfl rfl ?_
                            refine G_cV1 cw_X10_226 (s_X10_throwAway hf hn hg hc h6) dX10_carries_203 (rcv cok10 (by first | exact rfl | assumption) (Nat.le_of_ble_eq_true rfl)) ⟨(Nat.le_of_ble_eq_true rfl), (Nat.le_of_ble_eq_true rfl), (Nat.le_of_ble_eq_true rfl), (Nat.le_of_ble_eq_true rfl)⟩ ?_
                            refine R_iret dX10_carries_206 rfl (Nat.le_of_ble_eq_true rfl) (Nat.le_of_ble_eq_true rfl) ?_
                            have e99 : tCar M n c q = tThr M n c (M 472 (q + 1)) := by unfold tCar; simp [*]
                            rw [e99]
                            exact ⟨rfl, rfl⟩
                          · by_cases e13 : M 472 q = 110
                            · refine R_topE e13 ?_
                              refine R_tableIn (tgt := 189) dX10_carries_15 (by decide) (by decide) rfl rfl ?_
                              refine R_aload_n dX10_carries_189 rfl rfl ?_
                              refine R_iload_n dX10_carries_190 rfl rfl ?_
                              refine G_cV1 cw_X10_220 (s_X10_hours hf hn hg hc h6 hd5) dX10_carries_191 (rcv cok10 (by first | exact rfl | assumption) (Nat.le_of_ble_eq_true rfl)) ⟨(Nat.le_of_ble_eq_true rfl), (Nat.le_of_ble_eq_true rfl), (Nat.le_of_ble_eq_true rfl), (Nat.le_of_ble_eq_true rfl)⟩ ?_
                              refine R_iret dX10_carries_194 rfl (Nat.le_of_ble_eq_true rfl) (Nat.le_of_ble_eq_true rfl) ?_
                              have e99 : tCar M n c q = tHrs M n c (M 472 (q + 1)) := by unfold tCar; simp [*]
                              rw [e99]
                              exact ⟨rfl, rfl⟩
                            · by_cases e14 : M 472 q = 111
                              · refine R_topE e14 ?_
                                refine R_tableIn (tgt := 132) dX10_carries_15 (by decide) (by decide) rfl rfl ?_
                                refine R_aload_n dX10_carries_132 rfl rfl ?_
                                refine R_iload_n dX10_carries_133 rfl rfl ?_
                                refine G_cV1 cw_X10_199 (s_X10_out hf hn hg hc h6) dX10_carries_134 (rcv cok10 (by first | exact rfl | assumption) (Nat.le_of_ble_eq_true rfl)) ⟨(Nat.le_of_ble_eq_true rfl), (Nat.le_of_ble_eq_true rfl), (Nat.le_of_ble_eq_true rfl), (Nat.le_of_ble_eq_true rfl)⟩ ?_
                                refine R_iret dX10_carries_137 rfl (Nat.le_of_ble_eq_true rfl) (Nat.le_of_ble_eq_true rfl) ?_
                                have e99 : tCar M n c q = tOut M n c (M 472 (q + 1)) := by unfold tCar; simp [*]
                                rw [e99]
                                exact ⟨rfl, rfl⟩
                              · by_cases e15 : M 472 q = 112
                                · refine R_topE e15 ?_
                                  refine R_tableIn (tgt := 201) dX10_carries_15 (by decide) (by decide) rfl rfl ?_
                                  refine R_aload_n dX10_carries_201 rfl rfl ?_
                                  refine R_iload_n dX10_carries_202 rfl rfl ?_
                                  refine G_cV1 cw_X10_226 (s_X10_throwAway hf hn hg hc h6) dX10_carries_203 (rcv cok10 (by first | exact rfl | assumption) (Nat.le_of_ble_eq_true rfl)) ⟨(Nat.le_of_ble_eq_true rfl), (Nat.le_of_ble_eq_true rfl), (Nat.le_of_ble_eq_true rfl), (Nat.le_of_ble_eq_true rfl)⟩ ?_
                                  refine R_iret dX10_carries_206 rfl (Nat.le_of_ble_eq_true rfl) (Nat.le_of_ble_eq_true rfl) ?_
                                  have e99 : tCar M n c q = tThr M n c (M 472 (q + 1)) := by unfold tCar; simp [*]
                                  rw [e99]
                                  exact ⟨rfl, rfl⟩
                                · by_cases e16 : M 472 q = 113
                                  · refine R_topE e16 ?_
                                    refine R_tableIn (tgt := 201) dX10_carries_15 (by decide) (by decide) rfl rfl ?_
                                    refine R_aload_n dX10_carries_201 rfl rfl ?_
                                    refine R_iload_n dX10_carries_202 rfl rfl ?_
                                    refine G_cV1 cw_X10_226 (s_X10_throwAway hf hn hg hc h6) dX10_carries_203 (rcv cok10 (by first | exact rfl | assumption) (Nat.le_of_ble_eq_true rfl)) ⟨(Nat.le_of_ble_eq_true rfl), (Nat.le_of_ble_eq_true rfl), (Nat.le_of_ble_eq_true rfl), (Nat.le_of_ble_eq_true rfl)⟩ ?_
                                    refine R_iret dX10_carries_206 rfl (Nat.le_of_ble_eq_true rfl) (Nat.le_of_ble_eq_true rfl) ?_
                                    have e99 : tCar M n c q = tThr M n c (M 472 (q + 1)) := by unfold tCar; simp [*]
                                    rw [e99]
                                    exact ⟨rfl, rfl⟩
                                  · by_cases e17 : M 472 q = 114
                                    · refine R_topE e17 ?_
                                      refine R_tableIn (tgt := 201) dX10_carries_15 (by decide) (by decide) rfl rfl ?_
                                      refine R_aload_n dX10_carries_201 rfl rfl ?_
                                      refine R_iload_n dX10_carries_202 rfl rfl ?_
                                      refine G_cV1 cw_X10_226 (s_X10_throwAway hf hn hg hc h6) dX10_carries_203 (rcv cok10 (by first | exact rfl | assumption) (Nat.le_of_ble_eq_true rfl)) ⟨(Nat.le_of_ble_eq_true rfl), (Nat.le_of_ble_eq_true rfl), (Nat.le_of_ble_eq_true rfl), (Nat.le_of_ble_eq_true rfl)⟩ ?_
                                      refine R_iret dX10_carries_206 rfl (Nat.le_of_ble_eq_true rfl) (Nat.le_of_ble_eq_true rfl) ?_
                                      have e99 : tCar M n c q = tThr M n c (M 472 (q + 1)) := by unfold tCar; simp [*]
                                      rw [e99]
                                      exact ⟨rfl, rfl⟩
                                    · by_cases e18 : M 472 q = 115
                                      · refine R_topE e18 ?_
                                        refine R_tableIn (tgt := 195) dX10_carries_15 (by decide) (by decide) rfl rfl ?_
                                        refine R_aload_n dX10_carries_195 rfl rfl ?_
                                        refine R_iload_n dX10_carries_196 rfl rfl ?_
                                        refine G_cV1 cw_X10_223 (s_X10_sell hf hn hg hc h6) dX10_carries_197 (rcv cok10 (by first | exact rfl | assumption) (Nat.le_of_ble_eq_true rfl)) ⟨(Nat.le_of_ble_eq_true rfl), (Nat.le_of_ble_eq_true rfl), (Nat.le_of_ble_eq_true rfl), (Nat.le_of_ble_eq_true rfl)⟩ ?_
                                        refine R_iret dX10_carries_200 rfl (Nat.le_of_ble_eq_true rfl) (Nat.le_of_ble_eq_true rfl) ?_
                                        have e99 : tCar M n c q = tSel M n c (M 472 (q + 1)) := by unfold tCar; simp [*]
                                        rw [e99]
                                        exact ⟨rfl, rfl⟩
                                      · by_cases e19 : M 472 q = 116
                                        · refine R_topE e19 ?_
                                          refine R_tableIn (tgt := 160) dX10_carries_15 (by decide) (by decide) rfl rfl ?_
                                          refine R_aload_n dX10_carries_160 rfl rfl ?_
                                          refine R_iload_n dX10_carries_161 rfl rfl ?_
                                          refine G_cV1 cw_X10_205 (s_X10_turn hf hn hg hc h6) dX10_carries_162 (rcv cok10 (by first | exact rfl | assumption) (Nat.le_of_ble_eq_true rfl)) ⟨(Nat.le_of_ble_eq_true rfl), (Nat.le_of_ble_eq_true rfl), (Nat.le_of_ble_eq_true rfl), (Nat.le_of_ble_eq_true rfl)⟩ ?_
                                          refine R_iret dX10_carries_165 rfl (Nat.le_of_ble_eq_true rfl) (Nat.le_of_ble_eq_true rfl) ?_
                                          have e99 : tCar M n c q = tTur M n c (M 472 (q + 1)) := by unfold tCar; simp [*]
                                          rw [e99]
                                          exact ⟨rfl, rfl⟩
                                        · by_cases e20 : M 472 q = 117
                                          · refine R_topE e20 ?_
                                            refine R_tableIn (tgt := 201) dX10_carries_15 (by decide) (by decide) rfl rfl ?_
                                            refine R_aload_n dX10_carries_201 rfl rfl ?_
                                            refine R_iload_n dX10_carries_202 rfl rfl ?_
                                            refine G_cV1 cw_X10_226 (s_X10_throwAway hf hn hg hc h6) dX10_carries_203 (rcv cok10 (by first | exact rfl | assumption) (Nat.le_of_ble_eq_true rfl)) ⟨(Nat.le_of_ble_eq_true rfl), (Nat.le_of_ble_eq_true rfl), (Nat.le_of_ble_eq_true rfl), (Nat.le_of_ble_eq_true rfl)⟩ ?_
                                            refine R_iret dX10_carries_206 rfl (Nat.le_of_ble_eq_true rfl) (Nat.le_of_ble_eq_true rfl) ?_
                                            have e99 : tCar M n c q = tThr M n c (M 472 (q + 1)) := by unfold tCar; simp [*]
                                            rw [e99]
                                            exact ⟨rfl, rfl⟩
                                          · by_cases e21 : M 472 q = 118
                                            · refine R_topE e21 ?_
                                              refine R_tableIn (tgt := 201) dX10_carries_15 (by decide) (by decide) rfl rfl ?_
                                              refine R_aload_n dX10_carries_201 rfl rfl ?_
                                              refine R_iload_n dX10_carries_202 rfl rfl ?_
                                              refine G_cV1 cw_X10_226 (s_X10_throwAway hf hn hg hc h6) dX10_carries_203 (rcv cok10 (by first | exact rfl | assumption) (Nat.le_of_ble_eq_true rfl)) ⟨(Nat.le_of_ble_eq_true rfl), (Nat.le_of_ble_eq_true rfl), (Nat.le_of_ble_eq_true rfl), (Nat.le_of_ble_eq_true rfl)⟩ ?_
                                              refine R_iret dX10_carries_206 rfl (Nat.le_of_ble_eq_true rfl) (Nat.le_of_ble_eq_true rfl) ?_
                                              have e99 : tCar M n c q = tThr M n c (M 472 (q + 1)) := by unfold tCar; simp [*]
                                              rw [e99]
                                              exact ⟨rfl, rfl⟩
                                            · by_cases e22 : M 472 q = 119
                                              · refine R_topE e22 ?_
                                                refine R_tableIn (tgt := 178) dX10_carries_15 (by decide) (by decide) rfl rfl ?_
                                                refine R_aload_n dX10_carries_178 rfl rfl ?_
                                                refine R_iload_n dX10_carries_179 rfl rfl ?_
                                                refine G_cV1 cw_X10_214 (s_X10_wood hf hn hg hc h6) dX10_carries_180 (rcv cok10 (by first | exact rfl | assumption) (Nat.le_of_ble_eq_true rfl)) ⟨(Nat.le_of_ble_eq_true rfl), (Nat.le_of_ble_eq_true rfl), (Nat.le_of_ble_eq_true rfl), (Nat.le_of_ble_eq_true rfl)⟩ ?_
                                                refine R_iret dX10_carries_183 rfl (Nat.le_of_ble_eq_true rfl) (Nat.le_of_ble_eq_true rfl) ?_
                                                have e99 : tCar M n c q = tWoo M n c (M 472 (q + 1)) := by unfold tCar; simp [*]
                                                rw [e99]
                                                exact ⟨rfl, rfl⟩
                                              · have t0 : (M 472 q).toInt ≠ 97 := fun e => e0 (Int32.toInt_inj.mp (by rw [e]; rfl))
                                                have t1 : (M 472 q).toInt ≠ 98 := fun e => e1 (Int32.toInt_inj.mp (by rw [e]; rfl))
                                                have t2 : (M 472 q).toInt ≠ 99 := fun e => e2 (Int32.toInt_inj.mp (by rw [e]; rfl))
                                                have t3 : (M 472 q).toInt ≠ 100 := fun e => e3 (Int32.toInt_inj.mp (by rw [e]; rfl))
                                                have t4 : (M 472 q).toInt ≠ 101 := fun e => e4 (Int32.toInt_inj.mp (by rw [e]; rfl))
                                                have t5 : (M 472 q).toInt ≠ 102 := fun e => e5 (Int32.toInt_inj.mp (by rw [e]; rfl))
                                                have t6 : (M 472 q).toInt ≠ 103 := fun e => e6 (Int32.toInt_inj.mp (by rw [e]; rfl))
                                                have t7 : (M 472 q).toInt ≠ 104 := fun e => e7 (Int32.toInt_inj.mp (by rw [e]; rfl))
                                                have t8 : (M 472 q).toInt ≠ 105 := fun e => e8 (Int32.toInt_inj.mp (by rw [e]; rfl))
                                                have t9 : (M 472 q).toInt ≠ 106 := fun e => e9 (Int32.toInt_inj.mp (by rw [e]; rfl))
                                                have t10 : (M 472 q).toInt ≠ 107 := fun e => e10 (Int32.toInt_inj.mp (by rw [e]; rfl))
                                                have t11 : (M 472 q).toInt ≠ 108 := fun e => e11 (Int32.toInt_inj.mp (by rw [e]; rfl))
                                                have t12 : (M 472 q).toInt ≠ 109 := fun e => e12 (Int32.toInt_inj.mp (by rw [e]; rfl))
                                                have t13 : (M 472 q).toInt ≠ 110 := fun e => e13 (Int32.toInt_inj.mp (by rw [e]; rfl))
                                                have t14 : (M 472 q).toInt ≠ 111 := fun e => e14 (Int32.toInt_inj.mp (by rw [e]; rfl))
                                                have t15 : (M 472 q).toInt ≠ 112 := fun e => e15 (Int32.toInt_inj.mp (by rw [e]; rfl))
                                                have t16 : (M 472 q).toInt ≠ 113 := fun e => e16 (Int32.toInt_inj.mp (by rw [e]; rfl))
                                                have t17 : (M 472 q).toInt ≠ 114 := fun e => e17 (Int32.toInt_inj.mp (by rw [e]; rfl))
                                                have t18 : (M 472 q).toInt ≠ 115 := fun e => e18 (Int32.toInt_inj.mp (by rw [e]; rfl))
                                                have t19 : (M 472 q).toInt ≠ 116 := fun e => e19 (Int32.toInt_inj.mp (by rw [e]; rfl))
                                                have t20 : (M 472 q).toInt ≠ 117 := fun e => e20 (Int32.toInt_inj.mp (by rw [e]; rfl))
                                                have t21 : (M 472 q).toInt ≠ 118 := fun e => e21 (Int32.toInt_inj.mp (by rw [e]; rfl))
                                                have t22 : (M 472 q).toInt ≠ 119 := fun e => e22 (Int32.toInt_inj.mp (by rw [e]; rfl))
                                                refine R_tableOut (tgt := 201) dX10_carries_15 (by omega) rfl ?_
                                                refine R_aload_n dX10_carries_201 rfl rfl ?_
                                                refine R_iload_n dX10_carries_202 rfl rfl ?_
                                                refine G_cV1 cw_X10_226 (s_X10_throwAway hf hn hg hc h6) dX10_carries_203 (rcv cok10 (by first | exact rfl | assumption) (Nat.le_of_ble_eq_true rfl)) ⟨(Nat.le_of_ble_eq_true rfl), (Nat.le_of_ble_eq_true rfl), (Nat.le_of_ble_eq_true rfl), (Nat.le_of_ble_eq_true rfl)⟩ ?_
                                                refine R_iret dX10_carries_206 rfl (Nat.le_of_ble_eq_true rfl) (Nat.le_of_ble_eq_true rfl) ?_
                                                have e99 : tCar M n c q = tThr M n c (M 472 (q + 1)) := by unfold tCar; simp [*]
                                                rw [e99]
                                                exact ⟨rfl, rfl⟩
end P35
