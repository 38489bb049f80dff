/-- the sign at the place p, or -1 behind the last -/
def hrR (t : Nat → Int32) (L p : Nat) : Int32 := if p < L then t p else -1
section P32
variable {M : MM} {r : MR}
theorem s_X10_here {l : Launch} (hf : l.stackTraces = false) {t : Nat → Int32} (ht : M 470 = t) {L p : Nat} (hL : M 464 14 = nI L) (hL60 : L ≤ 60) (ha : M 464 18 = nI p) (hp61 : p ≤ 61) : V_X10_here l [.ref 464] (hp M r) (VI (hrR t L p) (hp M r)) := by
  refine VM.intro (lf := L9 (some (.ref 464)) none none none none none none none none) (by decide +kernel) hf (fun _ => (Nat.le_of_ble_eq_true rfl)) (fun _ => rfl) ?_
  have hlt : M 464 18 < M 464 14 → p < L := fun q => by rw [ha, hL] at q; exact (nI_ltI (by omega) (by omega)).mp q
  have hge : ¬ M 464 18 < M 464 14 → ¬ p < L := fun q z => q (by rw [ha, hL]; exact nI_lt z (by omega))
  refine R_aload_n dX10_here_0 rfl rfl ?_
  refine G_get cok10 18 wf_X10_171 dX10_here_1 (by first | exact rfl | assumption) ⟨(Nat.le_of_ble_eq_true rfl), (Nat.le_of_ble_eq_true rfl)⟩ rfl ?_
  refine R_aload_n dX10_here_4 rfl rfl ?_
  refine G_get cok10 14 wf_X10_168 dX10_here_5 (by first | exact rfl | assumption) ⟨(Nat.le_of_ble_eq_true rfl), (Nat.le_of_ble_eq_true rfl)⟩ rfl ?_
  refine R_icmp_geN (tgt := 23) dX10_here_8 rfl (fun c1 => ?_) (fun c1 => ?_)
  · refine R_iconst (v := (-1)) dX10_here_23 (by decide) ?_
    refine R_iret dX10_here_24 rfl (Nat.le_of_ble_eq_true rfl) (Nat.le_of_ble_eq_true rfl) ?_
    first | (rw [hrR, if_pos (hlt (by assumption)), nI_cl (by omega), ht]; exact ⟨rfl, rfl⟩) | (rw [hrR, if_neg (hge (by assumption))]; exact ⟨rfl, rfl⟩)
  · refine R_aload_n dX10_here_11 rfl rfl ?_
    refine G_get cok10 13 wf_X10_25 dX10_here_12 (by first | exact rfl | assumption) ⟨(Nat.le_of_ble_eq_true rfl), (Nat.le_of_ble_eq_true rfl)⟩ rfl ?_
    refine R_aload_n dX10_here_15 rfl rfl ?_
    refine G_get cok10 18 wf_X10_171 dX10_here_16 (by first | exact rfl | assumption) ⟨(Nat.le_of_ble_eq_true rfl), (Nat.le_of_ble_eq_true rfl)⟩ rfl ?_
    have hpl := hlt (by assumption)
    rw [ha]
    refine G_iald dX10_here_19 (by first | exact rfl | assumption) (show vp_in (nI p) 60 from nI_in12 (by omega) (by omega)) ?_
    refine R_goto (tgt := 24) dX10_here_20 rfl ?_
    refine R_iret dX10_here_24 rfl (Nat.le_of_ble_eq_true rfl) (Nat.le_of_ble_eq_true rfl) ?_
    first | (rw [hrR, if_pos (hlt (by assumption)), nI_cl (by omega), ht]; exact ⟨rfl, rfl⟩) | (rw [hrR, if_neg (hge (by assumption))]; exact ⟨rfl, rfl⟩)
theorem s_X10_skips_y {l : Launch} (hf : l.stackTraces = false) {t : Nat → Int32} (ht : M 470 = t) {L p : Nat} (hL : M 464 14 = nI L) (hL60 : L ≤ 60) (ha : M 464 18 = nI p) (hp61 : p ≤ 61) {c : Int32} (h : hrR t L p = c) : V_X10_skips l [.ref 464, .int c] (hp M r) (VI 1 (hp (mst M 464 18 (nI (p + 1))) r)) := by
  refine VM.intro (lf := L9 (some (.ref 464)) (some (.int c)) none none none none none none none) (by decide +kernel) hf (fun _ => (Nat.le_of_ble_eq_true rfl)) (fun _ => rfl) ?_
  refine R_aload_n dX10_skips_0 rfl rfl ?_
  refine G_cV0 cw_X10_174 (s_X10_here hf ht hL hL60 ha hp61) dX10_skips_1 (rcv cok10 (by first | exact rfl | assumption) (Nat.le_of_ble_eq_true rfl)) ⟨(Nat.le_of_ble_eq_true rfl), (Nat.le_of_ble_eq_true rfl), (Nat.le_of_ble_eq_true rfl), (Nat.le_of_ble_eq_true rfl)⟩ ?_
  refine R_iload_n dX10_skips_4 rfl rfl ?_
  refine R_icmp_eq_t (tgt := 10) dX10_skips_5 rfl h ?_
  refine R_aload_n dX10_skips_10 rfl rfl ?_
  refine R_dup dX10_skips_11 rfl ?_
  refine G_get cok10 18 wf_X10_171 dX10_skips_12 (by first | exact rfl | assumption) ⟨(Nat.le_of_ble_eq_true rfl), (Nat.le_of_ble_eq_true rfl)⟩ rfl ?_
  refine R_iconst (v := 1) dX10_skips_15 (by decide) ?_
  refine R_iadd dX10_skips_16 ?_
  refine R_topE (show M 464 18 + 1 = nI (p + 1) from by rw [ha, nI_1]) ?_
  refine G_put cok10 18 wf_X10_171 dX10_skips_17 (by first | exact rfl | assumption) rfl ⟨(Nat.le_of_ble_eq_true rfl), rfl, (Nat.le_of_ble_eq_true rfl)⟩ ⟨rfl, rfl⟩ ?_
  refine R_iconst (v := 1) dX10_skips_20 (by decide) ?_
  refine R_iret dX10_skips_21 rfl (Nat.le_of_ble_eq_true rfl) (Nat.le_of_ble_eq_true rfl) ?_
  exact ⟨rfl, rfl⟩
theorem s_X10_skips_n {l : Launch} (hf : l.stackTraces = false) {t : Nat → Int32} (ht : M 470 = t) {L p : Nat} (hL : M 464 14 = nI L) (hL60 : L ≤ 60) (ha : M 464 18 = nI p) (hp61 : p ≤ 61) {c : Int32} (h : ¬ hrR t L p = c) : V_X10_skips l [.ref 464, .int c] (hp M r) (VI 0 (hp M r)) := by
  refine VM.intro (lf := L9 (some (.ref 464)) (some (.int c)) none none none none none none none) (by decide +kernel) hf (fun _ => (Nat.le_of_ble_eq_true rfl)) (fun _ => rfl) ?_
  refine R_aload_n dX10_skips_0 rfl rfl ?_
  refine G_cV0 cw_X10_174 (s_X10_here hf ht hL hL60 ha hp61) dX10_skips_1 (rcv cok10 (by first | exact rfl | assumption) (Nat.le_of_ble_eq_true rfl)) ⟨(Nat.le_of_ble_eq_true rfl), (Nat.le_of_ble_eq_true rfl), (Nat.le_of_ble_eq_true rfl), (Nat.le_of_ble_eq_true rfl)⟩ ?_
  refine R_iload_n dX10_skips_4 rfl rfl ?_
  refine R_icmp_eq_f (tgt := 10) dX10_skips_5 rfl h ?_
  refine R_iconst (v := 0) dX10_skips_8 (by decide) ?_
  refine R_iret dX10_skips_9 rfl (Nat.le_of_ble_eq_true rfl) (Nat.le_of_ble_eq_true rfl) ?_
  exact ⟨rfl, rfl⟩
def two (c : Int32) : Bool := c == 98 || c == 111 || c == 116 || c == 108 || c == 110 || c == 115 || c == 120
theorem s_X10_hasTwo {l : Launch} (hf : l.stackTraces = false) {t : Nat → Int32} (ht : M 470 = t) {L p : Nat} (hL : M 464 14 = nI L) (hL60 : L ≤ 60) (ha : M 464 18 = nI p) (hp61 : p ≤ 61) : V_X10_hasTwo l [.ref 464] (hp M r) (VI (zb (two (hrR t L p))) (hp (if two (hrR t L p) = true then mst M 464 18 (nI (p + 1)) else M) r)) := by
  refine VM.intro (lf := L9 (some (.ref 464)) none none none none none none none none) (by decide +kernel) hf (fun _ => (Nat.le_of_ble_eq_true rfl)) (fun _ => rfl) ?_
  refine R_aload_n dX10_hasTwo_0 rfl rfl ?_
  refine R_bipush (v := 98) dX10_hasTwo_1 (by decide) ?_
  by_cases s3 : hrR t L p = 98
  · refine G_cV1 cw_X10_177 (s_X10_skips_y hf ht hL hL60 ha hp61 s3) dX10_hasTwo_3 (rcv cok10 rfl (Nat.le_of_ble_eq_true rfl)) ⟨(Nat.le_of_ble_eq_true rfl), (Nat.le_of_ble_eq_true rfl), (Nat.le_of_ble_eq_true rfl), (Nat.le_of_ble_eq_true rfl)⟩ ?_
    refine R_if_ne_t (tgt := 63) dX10_hasTwo_6 rfl (by decide) ?_
    refine R_iconst (v := 1) dX10_hasTwo_63 (by decide) ?_
    refine R_goto (tgt := 68) dX10_hasTwo_64 rfl ?_
    refine R_iret dX10_hasTwo_68 (by first | rfl | decide) (Nat.le_of_ble_eq_true rfl) (Nat.le_of_ble_eq_true rfl) ?_
    first | (have e : two (hrR t L p) = true := by simp [two, *]; done) | skip
    by_cases e : two (hrR t L p) = true
    · rw [if_pos e, e]; first | exact ⟨rfl, rfl⟩ | (exfalso; simp_all [two]; done)
    · rw [if_neg e]; first | (rw [show two (hrR t L p) = false from by simpa using e]; exact ⟨rfl, rfl⟩) | (exfalso; exact e (by simp [two, *]))
  · refine G_cV1 cw_X10_177 (s_X10_skips_n hf ht hL hL60 ha hp61 s3) dX10_hasTwo_3 (rcv cok10 rfl (Nat.le_of_ble_eq_true rfl)) ⟨(Nat.le_of_ble_eq_true rfl), (Nat.le_of_ble_eq_true rfl), (Nat.le_of_ble_eq_true rfl), (Nat.le_of_ble_eq_true rfl)⟩ ?_
    refine R_if_ne_f (tgt := 63) dX10_hasTwo_6 rfl (by decide) ?_
    refine R_aload_n dX10_hasTwo_9 rfl rfl ?_
    refine R_bipush (v := 111) dX10_hasTwo_10 (by decide) ?_
    by_cases s12 : hrR t L p = 111
    · refine G_cV1 cw_X10_177 (s_X10_skips_y hf ht hL hL60 ha hp61 s12) dX10_hasTwo_12 (rcv cok10 rfl (Nat.le_of_ble_eq_true rfl)) ⟨(Nat.le_of_ble_eq_true rfl), (Nat.le_of_ble_eq_true rfl), (Nat.le_of_ble_eq_true rfl), (Nat.le_of_ble_eq_true rfl)⟩ ?_
      refine R_if_ne_t (tgt := 63) dX10_hasTwo_15 rfl (by decide) ?_
      refine R_iconst (v := 1) dX10_hasTwo_63 (by decide) ?_
      refine R_goto (tgt := 68) dX10_hasTwo_64 rfl ?_
      refine R_iret dX10_hasTwo_68 (by first | rfl | decide) (Nat.le_of_ble_eq_true rfl) (Nat.le_of_ble_eq_true rfl) ?_
      first | (have e : two (hrR t L p) = true := by simp [two, *]; done) | skip
      by_cases e : two (hrR t L p) = true
      · rw [if_pos e, e]; first | exact ⟨rfl, rfl⟩ | (exfalso; simp_all [two]; done)
      · rw [if_neg e]; first | (rw [show two (hrR t L p) = false from by simpa using e]; exact ⟨rfl, rfl⟩) | (exfalso; exact e (by simp [two, *]))
    · refine G_cV1 cw_X10_177 (s_X10_skips_n hf ht hL hL60 ha hp61 s12) dX10_hasTwo_12 (rcv cok10 rfl (Nat.le_of_ble_eq_true rfl)) ⟨(Nat.le_of_ble_eq_true rfl), (Nat.le_of_ble_eq_true rfl), (Nat.le_of_ble_eq_true rfl), (Nat.le_of_ble_eq_true rfl)⟩ ?_
      refine R_if_ne_f (tgt := 63) dX10_hasTwo_15 rfl (by decide) ?_
      refine R_aload_n dX10_hasTwo_18 rfl rfl ?_
      refine R_bipush (v := 116) dX10_hasTwo_19 (by decide) ?_
      by_cases s21 : hrR t L p = 116
      · refine G_cV1 cw_X10_177 (s_X10_skips_y hf ht hL hL60 ha hp61 s21) dX10_hasTwo_21 (rcv cok10 rfl (Nat.le_of_ble_eq_true rfl)) ⟨(Nat.le_of_ble_eq_true rfl), (Nat.le_of_ble_eq_true rfl), (Nat.le_of_ble_eq_true rfl), (Nat.le_of_ble_eq_true rfl)⟩ ?_
        refine R_if_ne_t (tgt := 63) dX10_hasTwo_24 rfl (by decide) ?_
        refine R_iconst (v := 1) dX10_hasTwo_63 (by decide) ?_
        refine R_goto (tgt := 68) dX10_hasTwo_64 rfl ?_
        refine R_iret dX10_hasTwo_68 (by first | rfl | decide) (Nat.le_of_ble_eq_true rfl) (Nat.le_of_ble_eq_true rfl) ?_
        first | (have e : two (hrR t L p) = true := by simp [two, *]; done) | skip
        by_cases e : two (hrR t L p) = true
        · rw [if_pos e, e]; first | exact ⟨rfl, rfl⟩ | (exfalso; simp_all [two]; done)
        · rw [if_neg e]; first | (rw [show two (hrR t L p) = false from by simpa using e]; exact ⟨rfl, rfl⟩) | (exfalso; exact e (by simp [two, *]))
      · refine G_cV1 cw_X10_177 (s_X10_skips_n hf ht hL hL60 ha hp61 s21) dX10_hasTwo_21 (rcv cok10 rfl (Nat.le_of_ble_eq_true rfl)) ⟨(Nat.le_of_ble_eq_true rfl), (Nat.le_of_ble_eq_true rfl), (Nat.le_of_ble_eq_true rfl), (Nat.le_of_ble_eq_true rfl)⟩ ?_
        refine R_if_ne_f (tgt := 63) dX10_hasTwo_24 rfl (by decide) ?_
        refine R_aload_n dX10_hasTwo_27 rfl rfl ?_
        refine R_bipush (v := 108) dX10_hasTwo_28 (by decide) ?_
        by_cases s30 : hrR t L p = 108
        · refine G_cV1 cw_X10_177 (s_X10_skips_y hf ht hL hL60 ha hp61 s30) dX10_hasTwo_30 (rcv cok10 rfl (Nat.le_of_ble_eq_true rfl)) ⟨(Nat.le_of_ble_eq_true rfl), (Nat.le_of_ble_eq_true rfl), (Nat.le_of_ble_eq_true rfl), (Nat.le_of_ble_eq_true rfl)⟩ ?_
          refine R_if_ne_t (tgt := 63) dX10_hasTwo_33 rfl (by decide) ?_
          refine R_iconst (v := 1) dX10_hasTwo_63 (by decide) ?_
          refine R_goto (tgt := 68) dX10_hasTwo_64 rfl ?_
          refine R_iret dX10_hasTwo_68 (by first | rfl | decide) (Nat.le_of_ble_eq_true rfl) (Nat.le_of_ble_eq_true rfl) ?_
          first | (have e : two (hrR t L p) = true := by simp [two, *]; done) | skip
          by_cases e : two (hrR t L p) = true
          · rw [if_pos e, e]; first | exact ⟨rfl, rfl⟩ | (exfalso; simp_all [two]; done)
          · rw [if_neg e]; first | (rw [show two (hrR t L p) = false from by simpa using e]; exact ⟨rfl, rfl⟩) | (exfalso; exact e (by simp [two, *]))
        · refine G_cV1 cw_X10_177 (s_X10_skips_n hf ht hL hL60 ha hp61 s30) dX10_hasTwo_30 (rcv cok10 rfl (Nat.le_of_ble_eq_true rfl)) ⟨(Nat.le_of_ble_eq_true rfl), (Nat.le_of_ble_eq_true rfl), (Nat.le_of_ble_eq_true rfl), (Nat.le_of_ble_eq_true rfl)⟩ ?_
          refine R_if_ne_f (tgt := 63) dX10_hasTwo_33 rfl (by decide) ?_
          refine R_aload_n dX10_hasTwo_36 rfl rfl ?_
          refine R_bipush (v := 110) dX10_hasTwo_37 (by decide) ?_
          by_cases s39 : hrR t L p = 110
          · refine G_cV1 cw_X10_177 (s_X10_skips_y hf ht hL hL60 ha hp61 s39) dX10_hasTwo_39 (rcv cok10 rfl (Nat.le_of_ble_eq_true rfl)) ⟨(Nat.le_of_ble_eq_true rfl), (Nat.le_of_ble_eq_true rfl), (Nat.le_of_ble_eq_true rfl), (Nat.le_of_ble_eq_true rfl)⟩ ?_
            refine R_if_ne_t (tgt := 63) dX10_hasTwo_42 rfl (by decide) ?_
            refine R_iconst (v := 1) dX10_hasTwo_63 (by decide) ?_
            refine R_goto (tgt := 68) dX10_hasTwo_64 rfl ?_
            refine R_iret dX10_hasTwo_68 (by first | rfl | decide) (Nat.le_of_ble_eq_true rfl) (Nat.le_of_ble_eq_true rfl) ?_
            first | (have e : two (hrR t L p) = true := by simp [two, *]; done) | skip
            by_cases e : two (hrR t L p) = true
            · rw [if_pos e, e]; first | exact ⟨rfl, rfl⟩ | (exfalso; simp_all [two]; done)
            · rw [if_neg e]; first | (rw [show two (hrR t L p) = false from by simpa using e]; exact ⟨rfl, rfl⟩) | (exfalso; exact e (by simp [two, *]))
          · refine G_cV1 cw_X10_177 (s_X10_skips_n hf ht hL hL60 ha hp61 s39) dX10_hasTwo_39 (rcv cok10 rfl (Nat.le_of_ble_eq_true rfl)) ⟨(Nat.le_of_ble_eq_true rfl), (Nat.le_of_ble_eq_true rfl), (Nat.le_of_ble_eq_true rfl), (Nat.le_of_ble_eq_true rfl)⟩ ?_
            refine R_if_ne_f (tgt := 63) dX10_hasTwo_42 rfl (by decide) ?_
            refine R_aload_n dX10_hasTwo_45 rfl rfl ?_
            refine R_bipush (v := 115) dX10_hasTwo_46 (by decide) ?_
            by_cases s48 : hrR t L p = 115
            · refine G_cV1 cw_X10_177 (s_X10_skips_y hf ht hL hL60 ha hp61 s48) dX10_hasTwo_48 (rcv cok10 rfl (Nat.le_of_ble_eq_true rfl)) ⟨(Nat.le_of_ble_eq_true rfl), (Nat.le_of_ble_eq_true rfl), (Nat.le_of_ble_eq_true rfl), (Nat.le_of_ble_eq_true rfl)⟩ ?_
              refine R_if_ne_t (tgt := 63) dX10_hasTwo_51 rfl (by decide) ?_
              refine R_iconst (v := 1) dX10_hasTwo_63 (by decide) ?_
              refine R_goto (tgt := 68) dX10_hasTwo_64 rfl ?_
              refine R_iret dX10_hasTwo_68 (by first | rfl | decide) (Nat.le_of_ble_eq_true rfl) (Nat.le_of_ble_eq_true rfl) ?_
              first | (have e : two (hrR t L p) = true := by simp [two, *]; done) | skip
              by_cases e : two (hrR t L p) = true
              · rw [if_pos e, e]; first | exact ⟨rfl, rfl⟩ | (exfalso; simp_all [two]; done)
              · rw [if_neg e]; first | (rw [show two (hrR t L p) = false from by simpa using e]; exact ⟨rfl, rfl⟩) | (exfalso; exact e (by simp [two, *]))
            · refine G_cV1 cw_X10_177 (s_X10_skips_n hf ht hL hL60 ha hp61 s48) dX10_hasTwo_48 (rcv cok10 rfl (Nat.le_of_ble_eq_true rfl)) ⟨(Nat.le_of_ble_eq_true rfl), (Nat.le_of_ble_eq_true rfl), (Nat.le_of_ble_eq_true rfl), (Nat.le_of_ble_eq_true rfl)⟩ ?_
              refine R_if_ne_f (tgt := 63) dX10_hasTwo_51 rfl (by decide) ?_
              refine R_aload_n dX10_hasTwo_54 rfl rfl ?_
              refine R_bipush (v := 120) dX10_hasTwo_55 (by decide) ?_
              by_cases s57 : hrR t L p = 120
              · refine G_cV1 cw_X10_177 (s_X10_skips_y hf ht hL hL60 ha hp61 s57) dX10_hasTwo_57 (rcv cok10 rfl (Nat.le_of_ble_eq_true rfl)) ⟨(Nat.le_of_ble_eq_true rfl), (Nat.le_of_ble_eq_true rfl), (Nat.le_of_ble_eq_true rfl), (Nat.le_of_ble_eq_true rfl)⟩ ?_
                refine R_if_eq_f (tgt := 67) dX10_hasTwo_60 rfl (by decide) ?_
                refine R_iconst (v := 1) dX10_hasTwo_63 (by decide) ?_
                refine R_goto (tgt := 68) dX10_hasTwo_64 rfl ?_
                refine R_iret dX10_hasTwo_68 (by first | rfl | decide) (Nat.le_of_ble_eq_true rfl) (Nat.le_of_ble_eq_true rfl) ?_
                first | (have e : two (hrR t L p) = true := by simp [two, *]; done) | skip
                by_cases e : two (hrR t L p) = true
                · rw [if_pos e, e]; first | exact ⟨rfl, rfl⟩ | (exfalso; simp_all [two]; done)
                · rw [if_neg e]; first | (rw [show two (hrR t L p) = false from by simpa using e]; exact ⟨rfl, rfl⟩) | (exfalso; exact e (by simp [two, *]))
              · refine G_cV1 cw_X10_177 (s_X10_skips_n hf ht hL hL60 ha hp61 s57) dX10_hasTwo_57 (rcv cok10 rfl (Nat.le_of_ble_eq_true rfl)) ⟨(Nat.le_of_ble_eq_true rfl), (Nat.le_of_ble_eq_true rfl), (Nat.le_of_ble_eq_true rfl), (Nat.le_of_ble_eq_true rfl)⟩ ?_
                refine R_if_eq_t (tgt := 67) dX10_hasTwo_60 rfl (by decide) ?_
                refine R_iconst (v := 0) dX10_hasTwo_67 (by decide) ?_
                refine R_iret dX10_hasTwo_68 (by first | rfl | decide) (Nat.le_of_ble_eq_true rfl) (Nat.le_of_ble_eq_true rfl) ?_
                first | (have e : two (hrR t L p) = true := by simp [two, *]; done) | skip
                by_cases e : two (hrR t L p) = true
                · rw [if_pos e, e]; first | exact ⟨rfl, rfl⟩ | (exfalso; simp_all [two]; done)
                · rw [if_neg e]; first | (rw [show two (hrR t L p) = false from by simpa using e]; exact ⟨rfl, rfl⟩) | (exfalso; exact e (by simp [two, *]))
def dgR (c : Int32) : Bool := inB c 48 57
/-- the number at p, and the place behind it -/
def fgR (t : Nat → Int32) (L m p : Nat) : Int32 × Nat := if m = 1 then (10 * 0 + hrR t L p - 48, p + 1) else if zb (dgR (hrR t L (p + 1))) = 0 then (10 * 0 + hrR t L p - 48, p + 1) else (10 * (10 * 0 + hrR t L p - 48) + hrR t L (p + 1) - 48, p + 2)
def fgM (t : Nat → Int32) (M : MM) (L m p q : Nat) : MM := mst (mst M 472 q (fgR t L m p).1) 464 18 (nI (fgR t L m p).2)
theorem dgR_lt {t : Nat → Int32} {L p : Nat} (h : ¬ zb (dgR (hrR t L p)) = 0) : p < L := by
  by_cases hp : p < L
  · exact hp
  · rw [hrR, if_neg hp] at h
    exact absurd (by decide) h
theorem mst_cm {M : MM} {a b j k : Nat} {x y : Int32} (h : a ≠ b ∨ j ≠ k) : mst (mst M a j x) b k y = mst (mst M b k y) a j x := by
  funext u v
  by_cases h1 : u = a ∧ v = j
  · obtain ⟨rfl, rfl⟩ := h1
    rw [mst_eq, mst_ne (by omega), mst_eq]
  · by_cases h2 : u = b ∧ v = k
    · obtain ⟨rfl, rfl⟩ := h2
      rw [mst_eq, mst_ne (by omega), mst_eq]
    · rw [mst_ne (by omega), mst_ne (by omega), mst_ne (by omega), mst_ne (by omega)]
theorem s_X10_figures_n {l : Launch} (hf : l.stackTraces = false) {t : Nat → Int32} (ht : M 470 = t) {L p : Nat} (hL : M 464 14 = nI L) (hL60 : L ≤ 60) (ha : M 464 18 = nI p) (hp61 : p ≤ 61) {q : Nat} (hq : q < 128) {v : Int32} (hno : zb (dgR (hrR t L p)) = 0) : V_X10_figures l [.ref 464, .int (nI q), .int v] (hp M r) (VI 0 (hp M r)) := by
  refine VM.intro (lf := L9 (some (.ref 464)) (some (.int (nI q))) (some (.int v)) none none none none none none) (by decide +kernel) hf (fun _ => (Nat.le_of_ble_eq_true rfl)) (fun _ => rfl) ?_
  refine R_aload_n dX10_figures_0 rfl rfl ?_
  refine G_cV0 cw_X10_174 (s_X10_here hf ht hL hL60 ha hp61) dX10_figures_1 (rcv cok10 (by first | exact rfl | assumption) (Nat.le_of_ble_eq_true rfl)) ⟨(Nat.le_of_ble_eq_true rfl), (Nat.le_of_ble_eq_true rfl), (Nat.le_of_ble_eq_true rfl), (Nat.le_of_ble_eq_true rfl)⟩ ?_
  refine R_bipush (v := 48) dX10_figures_4 (by decide) ?_
  refine R_bipush (v := 57) dX10_figures_6 (by decide) ?_
  refine G_cS3 cw_X10_65 (s_X10_in hf) dX10_figures_8 ⟨(Nat.le_of_ble_eq_true rfl), (Nat.le_of_ble_eq_true rfl), (Nat.le_of_ble_eq_true rfl), (Nat.le_of_ble_eq_true rfl)⟩ ?_
  refine R_if_ne_f (tgt := 16) dX10_figures_11 rfl hno ?_
  refine R_iconst (v := 0) dX10_figures_14 (by decide) ?_
  refine R_iret dX10_figures_15 rfl (Nat.le_of_ble_eq_true rfl) (Nat.le_of_ble_eq_true rfl) ?_
  exact ⟨rfl, rfl⟩
theorem s_X10_figures_1 {l : Launch} (hf : l.stackTraces = false) {t : Nat → Int32} (ht : M 470 = t) {L p : Nat} (hL : M 464 14 = nI L) (hL60 : L ≤ 60) (ha : M 464 18 = nI p) (hp61 : p ≤ 61) {q : Nat} (hq : q < 128) (h1 : ¬ zb (dgR (hrR t L p)) = 0) : V_X10_figures l [.ref 464, .int (nI q), .int 1] (hp M r) (VI 1 (hp (fgM t M L 1 p q) r)) := by
  refine VM.intro (lf := L9 (some (.ref 464)) (some (.int (nI q))) (some (.int 1)) none none none none none none) (by decide +kernel) hf (fun _ => (Nat.le_of_ble_eq_true rfl)) (fun _ => rfl) ?_
  have hpl := dgR_lt h1
  have eq9 : (nI q).toNatClampNeg = q := nI_cl (by omega)
  refine R_aload_n dX10_figures_0 rfl rfl ?_
  refine G_cV0 cw_X10_174 (s_X10_here hf (M := M) (t := t) (L := L) (p := p) (by first | exact ht | (simp only [mst_fn (show (470 : Nat) ≠ 472 by decide), mst_fn (show (470 : Nat) ≠ 464 by decide)]; exact ht)) (by simpa [mst] using hL) hL60 (by first | simpa [mst] using ha | simp [mst]) (by omega)) dX10_figures_1 (rcv cok10 rfl (Nat.le_of_ble_eq_true rfl)) ⟨(Nat.le_of_ble_eq_true rfl), (Nat.le_of_ble_eq_true rfl), (Nat.le_of_ble_eq_true rfl), (Nat.le_of_ble_eq_true rfl)⟩ ?_
  refine R_bipush (v := 48) dX10_figures_4 (by decide) ?_
  refine R_bipush (v := 57) dX10_figures_6 (by decide) ?_
  refine G_cS3 cw_X10_65 (s_X10_in hf) dX10_figures_8 ⟨(Nat.le_of_ble_eq_true rfl), (Nat.le_of_ble_eq_true rfl), (Nat.le_of_ble_eq_true rfl), (Nat.le_of_ble_eq_true rfl)⟩ ?_
  refine R_if_ne_t (tgt := 16) dX10_figures_11 rfl h1 ?_
  refine R_aload_n dX10_figures_16 rfl rfl ?_
  refine G_get cok10 19 wf_X10_36 dX10_figures_17 (by first | exact rfl | assumption) ⟨(Nat.le_of_ble_eq_true rfl), (Nat.le_of_ble_eq_true rfl)⟩ rfl ?_
  refine R_iload_n dX10_figures_20 rfl rfl ?_
  refine R_iconst (v := 0) dX10_figures_21 (by decide) ?_
  refine G_iast dX10_figures_22 (by first | exact rfl | assumption) (show vp_in (nI q) 128 from nI_in12 hq (by omega)) ?_
  rw [eq9]
  refine R_iconst (v := 0) dX10_figures_23 (by decide) ?_
  refine R_istore_n dX10_figures_24 rfl (by decide) (st3 rfl) ?_
  refine R_iload_n dX10_figures_25 rfl rfl ?_
  refine R_iload_n dX10_figures_26 rfl rfl ?_
  refine R_icmp_ge_f (tgt := 83) dX10_figures_27 rfl (by decide) ?_
  refine R_aload_n dX10_figures_30 rfl rfl ?_
  refine G_cV0 cw_X10_174 (s_X10_here hf (M := mst M 472 q 0) (t := t) (L := L) (p := p) (by first | exact ht | (simp only [mst_fn (show (470 : Nat) ≠ 472 by decide), mst_fn (show (470 : Nat) ≠ 464 by decide)]; exact ht)) (by simpa [mst] using hL) hL60 (by first | simpa [mst] using ha | simp [mst]) (by omega)) dX10_figures_31 (rcv cok10 rfl (Nat.le_of_ble_eq_true rfl)) ⟨(Nat.le_of_ble_eq_true rfl), (Nat.le_of_ble_eq_true rfl), (Nat.le_of_ble_eq_true rfl), (Nat.le_of_ble_eq_true rfl)⟩ ?_
  refine R_bipush (v := 48) dX10_figures_34 (by decide) ?_
  refine R_bipush (v := 57) dX10_figures_36 (by decide) ?_
  refine G_cS3 cw_X10_65 (s_X10_in hf) dX10_figures_38 ⟨(Nat.le_of_ble_eq_true rfl), (Nat.le_of_ble_eq_true rfl), (Nat.le_of_ble_eq_true rfl), (Nat.le_of_ble_eq_true rfl)⟩ ?_
  refine R_if_eq_f (tgt := 83) dX10_figures_41 rfl h1 ?_
  refine R_aload_n dX10_figures_44 rfl rfl ?_
  refine G_get cok10 19 wf_X10_36 dX10_figures_45 (by first | exact rfl | assumption) ⟨(Nat.le_of_ble_eq_true rfl), (Nat.le_of_ble_eq_true rfl)⟩ rfl ?_
  refine R_iload_n dX10_figures_48 rfl rfl ?_
  refine R_bipush (v := 10) dX10_figures_49 (by decide) ?_
  refine R_aload_n dX10_figures_51 rfl rfl ?_
  refine G_get cok10 19 wf_X10_36 dX10_figures_52 (by first | exact rfl | assumption) ⟨(Nat.le_of_ble_eq_true rfl), (Nat.le_of_ble_eq_true rfl)⟩ rfl ?_
  refine R_iload_n dX10_figures_55 rfl rfl ?_
  refine G_iald dX10_figures_56 (by first | exact rfl | assumption) (show vp_in (nI q) 128 from nI_in12 hq (by omega)) ?_
  rw [eq9]
  refine R_topE (by first | exact mst_eq _ _ _ _ | exact (mst_ne1 (by decide)).trans (mst_eq _ _ _ _)) ?_
  refine R_imul dX10_figures_57 ?_
  refine R_aload_n dX10_figures_58 rfl rfl ?_
  refine G_cV0 cw_X10_174 (s_X10_here hf (M := mst M 472 q 0) (t := t) (L := L) (p := p) (by first | exact ht | (simp only [mst_fn (show (470 : Nat) ≠ 472 by decide), mst_fn (show (470 : Nat) ≠ 464 by decide)]; exact ht)) (by simpa [mst] using hL) hL60 (by first | simpa [mst] using ha | simp [mst]) (by omega)) dX10_figures_59 (rcv cok10 rfl (Nat.le_of_ble_eq_true rfl)) ⟨(Nat.le_of_ble_eq_true rfl), (Nat.le_of_ble_eq_true rfl), (Nat.le_of_ble_eq_true rfl), (Nat.le_of_ble_eq_true rfl)⟩ ?_
  refine R_iadd dX10_figures_62 ?_
  refine R_bipush (v := 48) dX10_figures_63 (by decide) ?_
  refine R_isub dX10_figures_65 ?_
  refine G_iast dX10_figures_66 (by first | exact rfl | assumption) (show vp_in (nI q) 128 from nI_in12 hq (by omega)) ?_
  rw [eq9]
  first | rw [mst_mst] | skip
  refine R_aload_n dX10_figures_67 rfl rfl ?_
  refine R_dup dX10_figures_68 rfl ?_
  refine G_get cok10 18 wf_X10_171 dX10_figures_69 (by first | exact rfl | assumption) ⟨(Nat.le_of_ble_eq_true rfl), (Nat.le_of_ble_eq_true rfl)⟩ rfl ?_
  refine R_iconst (v := 1) dX10_figures_72 (by decide) ?_
  refine R_iadd dX10_figures_73 ?_
  refine R_topE (y := nI (p + 1)) (by first | (rw [mst_ne1 (by decide), ha, nI_1]; done) | (rw [mst_ne1 (by decide), mst_eq, nI_1]; done)) ?_
  refine G_put cok10 18 wf_X10_171 dX10_figures_74 (by first | exact rfl | assumption) rfl ⟨(Nat.le_of_ble_eq_true rfl), rfl, (Nat.le_of_ble_eq_true rfl)⟩ ⟨rfl, rfl⟩ ?_
  first | refine R_iincN dX10_figures_77 (by decide) rfl (by decide) (st3 rfl) ?_ | refine R_iinc1 dX10_figures_77 (by decide) rfl (by decide) (st3 rfl) ?_
  refine R_goto (tgt := 25) dX10_figures_80 rfl ?_
  refine R_iload_n dX10_figures_25 rfl rfl ?_
  refine R_iload_n dX10_figures_26 rfl rfl ?_
  refine R_icmp_ge_t (tgt := 83) dX10_figures_27 rfl (by decide) ?_
  refine R_iconst (v := 1) dX10_figures_83 (by decide) ?_
  refine R_iret dX10_figures_84 rfl (Nat.le_of_ble_eq_true rfl) (Nat.le_of_ble_eq_true rfl) ?_
  have e9 : fgR t L 1 p = ((10 * 0 + hrR t L p - 48), p + 1) := if_pos rfl
  rw [fgM, e9]
  exact ⟨rfl, rfl⟩
theorem s_X10_figures_2a {l : Launch} (hf : l.stackTraces = false) {t : Nat → Int32} (ht : M 470 = t) {L p : Nat} (hL : M 464 14 = nI L) (hL60 : L ≤ 60) (ha : M 464 18 = nI p) (hp61 : p ≤ 61) {q : Nat} (hq : q < 128) (h1 : ¬ zb (dgR (hrR t L p)) = 0) (h2 : zb (dgR (hrR t L (p + 1))) = 0) : V_X10_figures l [.ref 464, .int (nI q), .int 2] (hp M r) (VI 1 (hp (fgM t M L 2 p q) r)) := by
  refine VM.intro (lf := L9 (some (.ref 464)) (some (.int (nI q))) (some (.int 2)) none none none none none none) (by decide +kernel) hf (fun _ => (Nat.le_of_ble_eq_true rfl)) (fun _ => rfl) ?_
  have hpl := dgR_lt h1
  have eq9 : (nI q).toNatClampNeg = q := nI_cl (by omega)
  refine R_aload_n dX10_figures_0 rfl rfl ?_
  refine G_cV0 cw_X10_174 (s_X10_here hf (M := M) (t := t) (L := L) (p := p) (by first | exact ht | (simp only [mst_fn (show (470 : Nat) ≠ 472 by decide), mst_fn (show (470 : Nat) ≠ 464 by decide)]; exact ht)) (by simpa [mst] using hL) hL60 (by first | simpa [mst] using ha | simp [mst]) (by omega)) dX10_figures_1 (rcv cok10 rfl (Nat.le_of_ble_eq_true rfl)) ⟨(Nat.le_of_ble_eq_true rfl), (Nat.le_of_ble_eq_true rfl), (Nat.le_of_ble_eq_true rfl), (Nat.le_of_ble_eq_true rfl)⟩ ?_
  refine R_bipush (v := 48) dX10_figures_4 (by decide) ?_
  refine R_bipush (v := 57) dX10_figures_6 (by decide) ?_
  refine G_cS3 cw_X10_65 (s_X10_in hf) dX10_figures_8 ⟨(Nat.le_of_ble_eq_true rfl), (Nat.le_of_ble_eq_true rfl), (Nat.le_of_ble_eq_true rfl), (Nat.le_of_ble_eq_true rfl)⟩ ?_
  refine R_if_ne_t (tgt := 16) dX10_figures_11 rfl h1 ?_
  refine R_aload_n dX10_figures_16 rfl rfl ?_
  refine G_get cok10 19 wf_X10_36 dX10_figures_17 (by first | exact rfl | assumption) ⟨(Nat.le_of_ble_eq_true rfl), (Nat.le_of_ble_eq_true rfl)⟩ rfl ?_
  refine R_iload_n dX10_figures_20 rfl rfl ?_
  refine R_iconst (v := 0) dX10_figures_21 (by decide) ?_
  refine G_iast dX10_figures_22 (by first | exact rfl | assumption) (show vp_in (nI q) 128 from nI_in12 hq (by omega)) ?_
  rw [eq9]
  refine R_iconst (v := 0) dX10_figures_23 (by decide) ?_
  refine R_istore_n dX10_figures_24 rfl (by decide) (st3 rfl) ?_
  refine R_iload_n dX10_figures_25 rfl rfl ?_
  refine R_iload_n dX10_figures_26 rfl rfl ?_
  refine R_icmp_ge_f (tgt := 83) dX10_figures_27 rfl (by decide) ?_
  refine R_aload_n dX10_figures_30 rfl rfl ?_
  refine G_cV0 cw_X10_174 (s_X10_here hf (M := mst M 472 q 0) (t := t) (L := L) (p := p) (by first | exact ht | (simp only [mst_fn (show (470 : Nat) ≠ 472 by decide), mst_fn (show (470 : Nat) ≠ 464 by decide)]; exact ht)) (by simpa [mst] using hL) hL60 (by first | simpa [mst] using ha | simp [mst]) (by omega)) dX10_figures_31 (rcv cok10 rfl (Nat.le_of_ble_eq_true rfl)) ⟨(Nat.le_of_ble_eq_true rfl), (Nat.le_of_ble_eq_true rfl), (Nat.le_of_ble_eq_true rfl), (Nat.le_of_ble_eq_true rfl)⟩ ?_
  refine R_bipush (v := 48) dX10_figures_34 (by decide) ?_
  refine R_bipush (v := 57) dX10_figures_36 (by decide) ?_
  refine G_cS3 cw_X10_65 (s_X10_in hf) dX10_figures_38 ⟨(Nat.le_of_ble_eq_true rfl), (Nat.le_of_ble_eq_true rfl), (Nat.le_of_ble_eq_true rfl), (Nat.le_of_ble_eq_true rfl)⟩ ?_
  refine R_if_eq_f (tgt := 83) dX10_figures_41 rfl h1 ?_
  refine R_aload_n dX10_figures_44 rfl rfl ?_
  refine G_get cok10 19 wf_X10_36 dX10_figures_45 (by first | exact rfl | assumption) ⟨(Nat.le_of_ble_eq_true rfl), (Nat.le_of_ble_eq_true rfl)⟩ rfl ?_
  refine R_iload_n dX10_figures_48 rfl rfl ?_
  refine R_bipush (v := 10) dX10_figures_49 (by decide) ?_
  refine R_aload_n dX10_figures_51 rfl rfl ?_
  refine G_get cok10 19 wf_X10_36 dX10_figures_52 (by first | exact rfl | assumption) ⟨(Nat.le_of_ble_eq_true rfl), (Nat.le_of_ble_eq_true rfl)⟩ rfl ?_
  refine R_iload_n dX10_figures_55 rfl rfl ?_
  refine G_iald dX10_figures_56 (by first | exact rfl | assumption) (show vp_in (nI q) 128 from nI_in12 hq (by omega)) ?_
  rw [eq9]
  refine R_topE (by first | exact mst_eq _ _ _ _ | exact (mst_ne1 (by decide)).trans (mst_eq _ _ _ _)) ?_
  refine R_imul dX10_figures_57 ?_
  refine R_aload_n dX10_figures_58 rfl rfl ?_
  refine G_cV0 cw_X10_174 (s_X10_here hf (M := mst M 472 q 0) (t := t) (L := L) (p := p) (by first | exact ht | (simp only [mst_fn (show (470 : Nat) ≠ 472 by decide), mst_fn (show (470 : Nat) ≠ 464 by decide)]; exact ht)) (by simpa [mst] using hL) hL60 (by first | simpa [mst] using ha | simp [mst]) (by omega)) dX10_figures_59 (rcv cok10 rfl (Nat.le_of_ble_eq_true rfl)) ⟨(Nat.le_of_ble_eq_true rfl), (Nat.le_of_ble_eq_true rfl), (Nat.le_of_ble_eq_true rfl), (Nat.le_of_ble_eq_true rfl)⟩ ?_
  refine R_iadd dX10_figures_62 ?_
  refine R_bipush (v := 48) dX10_figures_63 (by decide) ?_
  refine R_isub dX10_figures_65 ?_
  refine G_iast dX10_figures_66 (by first | exact rfl | assumption) (show vp_in (nI q) 128 from nI_in12 hq (by omega)) ?_
  rw [eq9]
  first | rw [mst_mst] | skip
  refine R_aload_n dX10_figures_67 rfl rfl ?_
  refine R_dup dX10_figures_68 rfl ?_
  refine G_get cok10 18 wf_X10_171 dX10_figures_69 (by first | exact rfl | assumption) ⟨(Nat.le_of_ble_eq_true rfl), (Nat.le_of_ble_eq_true rfl)⟩ rfl ?_
  refine R_iconst (v := 1) dX10_figures_72 (by decide) ?_
  refine R_iadd dX10_figures_73 ?_
  refine R_topE (y := nI (p + 1)) (by first | (rw [mst_ne1 (by decide), ha, nI_1]; done) | (rw [mst_ne1 (by decide), mst_eq, nI_1]; done)) ?_
  refine G_put cok10 18 wf_X10_171 dX10_figures_74 (by first | exact rfl | assumption) rfl ⟨(Nat.le_of_ble_eq_true rfl), rfl, (Nat.le_of_ble_eq_true rfl)⟩ ⟨rfl, rfl⟩ ?_
  first | refine R_iincN dX10_figures_77 (by decide) rfl (by decide) (st3 rfl) ?_ | refine R_iinc1 dX10_figures_77 (by decide) rfl (by decide) (st3 rfl) ?_
  refine R_goto (tgt := 25) dX10_figures_80 rfl ?_
  refine R_iload_n dX10_figures_25 rfl rfl ?_
  refine R_iload_n dX10_figures_26 rfl rfl ?_
  refine R_icmp_ge_f (tgt := 83) dX10_figures_27 rfl (by decide) ?_
  refine R_aload_n dX10_figures_30 rfl rfl ?_
  refine G_cV0 cw_X10_174 (s_X10_here hf (M := mst (mst M 472 q (10 * 0 + hrR t L p - 48)) 464 18 (nI (p + 1))) (t := t) (L := L) (p := p + 1) (by first | exact ht | (simp only [mst_fn (show (470 : Nat) ≠ 472 by decide), mst_fn (show (470 : Nat) ≠ 464 by decide)]; exact ht)) (by simpa [mst] using hL) hL60 (by first | simpa [mst] using ha | simp [mst]) (by omega)) dX10_figures_31 (rcv cok10 rfl (Nat.le_of_ble_eq_true rfl)) ⟨(Nat.le_of_ble_eq_true rfl), (Nat.le_of_ble_eq_true rfl), (Nat.le_of_ble_eq_true rfl), (Nat.le_of_ble_eq_true rfl)⟩ ?_
  refine R_bipush (v := 48) dX10_figures_34 (by decide) ?_
  refine R_bipush (v := 57) dX10_figures_36 (by decide) ?_
  refine G_cS3 cw_X10_65 (s_X10_in hf) dX10_figures_38 ⟨(Nat.le_of_ble_eq_true rfl), (Nat.le_of_ble_eq_true rfl), (Nat.le_of_ble_eq_true rfl), (Nat.le_of_ble_eq_true rfl)⟩ ?_
  refine R_if_eq_t (tgt := 83) dX10_figures_41 rfl h2 ?_
  refine R_iconst (v := 1) dX10_figures_83 (by decide) ?_
  refine R_iret dX10_figures_84 rfl (Nat.le_of_ble_eq_true rfl) (Nat.le_of_ble_eq_true rfl) ?_
  have e9 : fgR t L 2 p = ((10 * 0 + hrR t L p - 48), p + 1) := (if_neg (by decide)).trans (if_pos h2)
  rw [fgM, e9]
  exact ⟨rfl, rfl⟩
theorem s_X10_figures_2b {l : Launch} (hf : l.stackTraces = false) {t : Nat → Int32} (ht : M 470 = t) {L p : Nat} (hL : M 464 14 = nI L) (hL60 : L ≤ 60) (ha : M 464 18 = nI p) (hp61 : p ≤ 61) {q : Nat} (hq : q < 128) (h1 : ¬ zb (dgR (hrR t L p)) = 0) (h2 : ¬ zb (dgR (hrR t L (p + 1))) = 0) : V_X10_figures l [.ref 464, .int (nI q), .int 2] (hp M r) (VI 1 (hp (fgM t M L 2 p q) r)) := by
  refine VM.intro (lf := L9 (some (.ref 464)) (some (.int (nI q))) (some (.int 2)) none none none none none none) (by decide +kernel) hf (fun _ => (Nat.le_of_ble_eq_true rfl)) (fun _ => rfl) ?_
  have hpl := dgR_lt h1
  have eq9 : (nI q).toNatClampNeg = q := nI_cl (by omega)
  refine R_aload_n dX10_figures_0 rfl rfl ?_
  refine G_cV0 cw_X10_174 (s_X10_here hf (M := M) (t := t) (L := L) (p := p) (by first | exact ht | (simp only [mst_fn (show (470 : Nat) ≠ 472 by decide), mst_fn (show (470 : Nat) ≠ 464 by decide)]; exact ht)) (by simpa [mst] using hL) hL60 (by first | simpa [mst] using ha | simp [mst]) (by omega)) dX10_figures_1 (rcv cok10 rfl (Nat.le_of_ble_eq_true rfl)) ⟨(Nat.le_of_ble_eq_true rfl), (Nat.le_of_ble_eq_true rfl), (Nat.le_of_ble_eq_true rfl), (Nat.le_of_ble_eq_true rfl)⟩ ?_
  refine R_bipush (v := 48) dX10_figures_4 (by decide) ?_
  refine R_bipush (v := 57) dX10_figures_6 (by decide) ?_
  refine G_cS3 cw_X10_65 (s_X10_in hf) dX10_figures_8 ⟨(Nat.le_of_ble_eq_true rfl), (Nat.le_of_ble_eq_true rfl), (Nat.le_of_ble_eq_true rfl), (Nat.le_of_ble_eq_true rfl)⟩ ?_
  refine R_if_ne_t (tgt := 16) dX10_figures_11 rfl h1 ?_
  refine R_aload_n dX10_figures_16 rfl rfl ?_
  refine G_get cok10 19 wf_X10_36 dX10_figures_17 (by first | exact rfl | assumption) ⟨(Nat.le_of_ble_eq_true rfl), (Nat.le_of_ble_eq_true rfl)⟩ rfl ?_
  refine R_iload_n dX10_figures_20 rfl rfl ?_
  refine R_iconst (v := 0) dX10_figures_21 (by decide) ?_
  refine G_iast dX10_figures_22 (by first | exact rfl | assumption) (show vp_in (nI q) 128 from nI_in12 hq (by omega)) ?_
  rw [eq9]
  refine R_iconst (v := 0) dX10_figures_23 (by decide) ?_
  refine R_istore_n dX10_figures_24 rfl (by decide) (st3 rfl) ?_
  refine R_iload_n dX10_figures_25 rfl rfl ?_
  refine R_iload_n dX10_figures_26 rfl rfl ?_
  refine R_icmp_ge_f (tgt := 83) dX10_figures_27 rfl (by decide) ?_
  refine R_aload_n dX10_figures_30 rfl rfl ?_
  refine G_cV0 cw_X10_174 (s_X10_here hf (M := mst M 472 q 0) (t := t) (L := L) (p := p) (by first | exact ht | (simp only [mst_fn (show (470 : Nat) ≠ 472 by decide), mst_fn (show (470 : Nat) ≠ 464 by decide)]; exact ht)) (by simpa [mst] using hL) hL60 (by first | simpa [mst] using ha | simp [mst]) (by omega)) dX10_figures_31 (rcv cok10 rfl (Nat.le_of_ble_eq_true rfl)) ⟨(Nat.le_of_ble_eq_true rfl), (Nat.le_of_ble_eq_true rfl), (Nat.le_of_ble_eq_true rfl), (Nat.le_of_ble_eq_true rfl)⟩ ?_
  refine R_bipush (v := 48) dX10_figures_34 (by decide) ?_
  refine R_bipush (v := 57) dX10_figures_36 (by decide) ?_
  refine G_cS3 cw_X10_65 (s_X10_in hf) dX10_figures_38 ⟨(Nat.le_of_ble_eq_true rfl), (Nat.le_of_ble_eq_true rfl), (Nat.le_of_ble_eq_true rfl), (Nat.le_of_ble_eq_true rfl)⟩ ?_
  refine R_if_eq_f (tgt := 83) dX10_figures_41 rfl h1 ?_
  refine R_aload_n dX10_figures_44 rfl rfl ?_
  refine G_get cok10 19 wf_X10_36 dX10_figures_45 (by first | exact rfl | assumption) ⟨(Nat.le_of_ble_eq_true rfl), (Nat.le_of_ble_eq_true rfl)⟩ rfl ?_
  refine R_iload_n dX10_figures_48 rfl rfl ?_
  refine R_bipush (v := 10) dX10_figures_49 (by decide) ?_
  refine R_aload_n dX10_figures_51 rfl rfl ?_
  refine G_get cok10 19 wf_X10_36 dX10_figures_52 (by first | exact rfl | assumption) ⟨(Nat.le_of_ble_eq_true rfl), (Nat.le_of_ble_eq_true rfl)⟩ rfl ?_
  refine R_iload_n dX10_figures_55 rfl rfl ?_
  refine G_iald dX10_figures_56 (by first | exact rfl | assumption) (show vp_in (nI q) 128 from nI_in12 hq (by omega)) ?_
  rw [eq9]
  refine R_topE (by first | exact mst_eq _ _ _ _ | exact (mst_ne1 (by decide)).trans (mst_eq _ _ _ _)) ?_
  refine R_imul dX10_figures_57 ?_
  refine R_aload_n dX10_figures_58 rfl rfl ?_
  refine G_cV0 cw_X10_174 (s_X10_here hf (M := mst M 472 q 0) (t := t) (L := L) (p := p) (by first | exact ht | (simp only [mst_fn (show (470 : Nat) ≠ 472 by decide), mst_fn (show (470 : Nat) ≠ 464 by decide)]; exact ht)) (by simpa [mst] using hL) hL60 (by first | simpa [mst] using ha | simp [mst]) (by omega)) dX10_figures_59 (rcv cok10 rfl (Nat.le_of_ble_eq_true rfl)) ⟨(Nat.le_of_ble_eq_true rfl), (Nat.le_of_ble_eq_true rfl), (Nat.le_of_ble_eq_true rfl), (Nat.le_of_ble_eq_true rfl)⟩ ?_
  refine R_iadd dX10_figures_62 ?_
  refine R_bipush (v := 48) dX10_figures_63 (by decide) ?_
  refine R_isub dX10_figures_65 ?_
  refine G_iast dX10_figures_66 (by first | exact rfl | assumption) (show vp_in (nI q) 128 from nI_in12 hq (by omega)) ?_
  rw [eq9]
  first | rw [mst_mst] | skip
  refine R_aload_n dX10_figures_67 rfl rfl ?_
  refine R_dup dX10_figures_68 rfl ?_
  refine G_get cok10 18 wf_X10_171 dX10_figures_69 (by first | exact rfl | assumption) ⟨(Nat.le_of_ble_eq_true rfl), (Nat.le_of_ble_eq_true rfl)⟩ rfl ?_
  refine R_iconst (v := 1) dX10_figures_72 (by decide) ?_
  refine R_iadd dX10_figures_73 ?_
  refine R_topE (y := nI (p + 1)) (by first | (rw [mst_ne1 (by decide), ha, nI_1]; done) | (rw [mst_ne1 (by decide), mst_eq, nI_1]; done)) ?_
  refine G_put cok10 18 wf_X10_171 dX10_figures_74 (by first | exact rfl | assumption) rfl ⟨(Nat.le_of_ble_eq_true rfl), rfl, (Nat.le_of_ble_eq_true rfl)⟩ ⟨rfl, rfl⟩ ?_
  first | refine R_iincN dX10_figures_77 (by decide) rfl (by decide) (st3 rfl) ?_ | refine R_iinc1 dX10_figures_77 (by decide) rfl (by decide) (st3 rfl) ?_
  refine R_goto (tgt := 25) dX10_figures_80 rfl ?_
  refine R_iload_n dX10_figures_25 rfl rfl ?_
  refine R_iload_n dX10_figures_26 rfl rfl ?_
  refine R_icmp_ge_f (tgt := 83) dX10_figures_27 rfl (by decide) ?_
  refine R_aload_n dX10_figures_30 rfl rfl ?_
  refine G_cV0 cw_X10_174 (s_X10_here hf (M := mst (mst M 472 q (10 * 0 + hrR t L p - 48)) 464 18 (nI (p + 1))) (t := t) (L := L) (p := p + 1) (by first | exact ht | (simp only [mst_fn (show (470 : Nat) ≠ 472 by decide), mst_fn (show (470 : Nat) ≠ 464 by decide)]; exact ht)) (by simpa [mst] using hL) hL60 (by first | simpa [mst] using ha | simp [mst]) (by omega)) dX10_figures_31 (rcv cok10 rfl (Nat.le_of_ble_eq_true rfl)) ⟨(Nat.le_of_ble_eq_true rfl), (Nat.le_of_ble_eq_true rfl), (Nat.le_of_ble_eq_true rfl), (Nat.le_of_ble_eq_true rfl)⟩ ?_
  refine R_bipush (v := 48) dX10_figures_34 (by decide) ?_
  refine R_bipush (v := 57) dX10_figures_36 (by decide) ?_
  refine G_cS3 cw_X10_65 (s_X10_in hf) dX10_figures_38 ⟨(Nat.le_of_ble_eq_true rfl), (Nat.le_of_ble_eq_true rfl), (Nat.le_of_ble_eq_true rfl), (Nat.le_of_ble_eq_true rfl)⟩ ?_
  refine R_if_eq_f (tgt := 83) dX10_figures_41 rfl h2 ?_
  refine R_aload_n dX10_figures_44 rfl rfl ?_
  refine G_get cok10 19 wf_X10_36 dX10_figures_45 (by first | exact rfl | assumption) ⟨(Nat.le_of_ble_eq_true rfl), (Nat.le_of_ble_eq_true rfl)⟩ rfl ?_
  refine R_iload_n dX10_figures_48 rfl rfl ?_
  refine R_bipush (v := 10) dX10_figures_49 (by decide) ?_
  refine R_aload_n dX10_figures_51 rfl rfl ?_
  refine G_get cok10 19 wf_X10_36 dX10_figures_52 (by first | exact rfl | assumption) ⟨(Nat.le_of_ble_eq_true rfl), (Nat.le_of_ble_eq_true rfl)⟩ rfl ?_
  refine R_iload_n dX10_figures_55 rfl rfl ?_
  refine G_iald dX10_figures_56 (by first | exact rfl | assumption) (show vp_in (nI q) 128 from nI_in12 hq (by omega)) ?_
  rw [eq9]
  refine R_topE (by first | exact mst_eq _ _ _ _ | exact (mst_ne1 (by decide)).trans (mst_eq _ _ _ _)) ?_
  refine R_imul dX10_figures_57 ?_
  refine R_aload_n dX10_figures_58 rfl rfl ?_
  refine G_cV0 cw_X10_174 (s_X10_here hf (M := mst (mst M 472 q (10 * 0 + hrR t L p - 48)) 464 18 (nI (p + 1))) (t := t) (L := L) (p := p + 1) (by first | exact ht | (simp only [mst_fn (show (470 : Nat) ≠ 472 by decide), mst_fn (show (470 : Nat) ≠ 464 by decide)]; exact ht)) (by simpa [mst] using hL) hL60 (by first | simpa [mst] using ha | simp [mst]) (by omega)) dX10_figures_59 (rcv cok10 rfl (Nat.le_of_ble_eq_true rfl)) ⟨(Nat.le_of_ble_eq_true rfl), (Nat.le_of_ble_eq_true rfl), (Nat.le_of_ble_eq_true rfl), (Nat.le_of_ble_eq_true rfl)⟩ ?_
  refine R_iadd dX10_figures_62 ?_
  refine R_bipush (v := 48) dX10_figures_63 (by decide) ?_
  refine R_isub dX10_figures_65 ?_
  refine G_iast dX10_figures_66 (by first | exact rfl | assumption) (show vp_in (nI q) 128 from nI_in12 hq (by omega)) ?_
  rw [eq9]
  first | rw [mst_mst] | skip
  refine R_aload_n dX10_figures_67 rfl rfl ?_
  refine R_dup dX10_figures_68 rfl ?_
  refine G_get cok10 18 wf_X10_171 dX10_figures_69 (by first | exact rfl | assumption) ⟨(Nat.le_of_ble_eq_true rfl), (Nat.le_of_ble_eq_true rfl)⟩ rfl ?_
  refine R_iconst (v := 1) dX10_figures_72 (by decide) ?_
  refine R_iadd dX10_figures_73 ?_
  refine R_topE (y := nI (p + 1 + 1)) (by first | (rw [mst_ne1 (by decide), ha, nI_1]; done) | (rw [mst_ne1 (by decide), mst_eq, nI_1]; done)) ?_
  refine G_put cok10 18 wf_X10_171 dX10_figures_74 (by first | exact rfl | assumption) rfl ⟨(Nat.le_of_ble_eq_true rfl), rfl, (Nat.le_of_ble_eq_true rfl)⟩ ⟨rfl, rfl⟩ ?_
  first | refine R_iincN dX10_figures_77 (by decide) rfl (by decide) (st3 rfl) ?_ | refine R_iinc1 dX10_figures_77 (by decide) rfl (by decide) (st3 rfl) ?_
  refine R_goto (tgt := 25) dX10_figures_80 rfl ?_
  refine R_iload_n dX10_figures_25 rfl rfl ?_
  refine R_iload_n dX10_figures_26 rfl rfl ?_
  refine R_icmp_ge_t (tgt := 83) dX10_figures_27 rfl (by decide) ?_
  refine R_iconst (v := 1) dX10_figures_83 (by decide) ?_
  refine R_iret dX10_figures_84 rfl (Nat.le_of_ble_eq_true rfl) (Nat.le_of_ble_eq_true rfl) ?_
  have e9 : fgR t L 2 p = ((10 * (10 * 0 + hrR t L p - 48) + hrR t L (p + 1) - 48), p + 2) := (if_neg (by decide)).trans (if_neg h2)
  rw [fgM, e9]
  refine ⟨rfl, congrArg (fun z => hp z r) ?_⟩
  rw [mst_cm (a := 464) (b := 472) (Or.inl (by decide)), mst_mst, mst_mst]
end P32
