/-! the system's cells by number: 0 the SmokeRacks; houses of 41 cells at 1, 42, 83 and 126 + 41 j (j < 8); 124, 125 History and its row; 454 Refusal, 455 Work, 456 Forecast with its fish 457; 460 Script, 462 Line with their signs; 464 the model with its rows; 473, 474 the law's two rows -/
def pK (r : Nat) : Nat := if r = 0 then 3 else if r = 1 then 13 else if (r - 2) % 3 = 0 then 0 else 7
def sK (a : Nat) : Nat := if a = 0 then 9 else if a < 124 then pK ((a - 1) % 41) else if a = 124 then 2 else if a = 125 then 14 else if a < 454 then pK ((a - 126) % 41) else if a = 454 then 5 else if a = 455 then 8 else if a = 456 then 1 else if a = 457 then 0 else if a < 460 then 7 else if a = 460 then 6 else if a = 461 then 11 else if a = 462 then 4 else if a = 463 then 11 else if a = 464 then 10 else if a = 471 then 11 else if a < 473 then 12 else if a = 473 then 15 else if a = 474 then 16 else 99
def sL (a : Nat) : Nat := if a = 461 then 60 else if a = 463 then 14 else if a = 466 then 1120 else if a = 470 then 60 else if a = 471 then 30 else if a = 472 then 128 else 140
abbrev MM : Type := Nat → Nat → Int32
abbrev MR : Type := (Nat → Nat) × (Nat → Int64) × (Nat → UInt64)
def fl (c a : Nat) (M : MM) : List Value := match c with
  | 0 => [.ref (a + 1), .ref (a + 2), .int (M a 2), .int (M a 3), .int (M a 4), .int (M a 5), .int (M a 6), .int (M a 7), .int (M a 8)]
  | 1 => [.ref 1, .ref 457]
  | 2 => [.ref 125, .int (M a 1)]
  | 3 => [.ref (a + 1), .ref (a + 2), .int (M a 2), .int (M a 3), .int (M a 4), .int (M a 5), .int (M a 6), .int (M a 7), .int (M a 8), .int (M a 9)]
  | 4 => [.ref 463, .int (M a 1)]
  | 5 => [.int (M a 0), .int (M a 1), .int (M a 2), .int (M a 3), .int (M a 4)]
  | 6 => [.ref 461, .int (M a 1), .int (M a 2), .int (M a 3), .int (M a 4), .int (M a 5), .int (M a 6), .int (M a 7), .int (M a 8)]
  | 7 => [.int (M a 0), .int (M a 1)]
  | 8 => [.ref 1, .ref 454]
  | 9 => [.ref 1, .ref 42, .ref 83, .ref 124, .ref 454, .ref 455, .ref 456, .ref 460, .ref 462, .int (M a 9)]
  | 10 => [.ref 465, .ref 466, .ref 467, .ref 468, .ref 469, .int (M a 5), .int (M a 6), .int (M a 7), .int (M a 8), .int (M a 9), .int (M a 10), .int (M a 11), .int (M a 12), .ref 470, .int (M a 14), .int (M a 15), .ref 471, .int (M a 17), .int (M a 18), .ref 472, .int (M a 20)]
  | _ => []
def cellK (c a : Nat) (M : MM) (r : MR) : vE := match c with
  | 11 => .inl (0, sL a, .inl (M a))
  | 12 => .inl (1, sL a, .inl (M a))
  | 13 => .inl (2, 12, .inr (.inr (.inr (.inr (fun k => some (a + 4 + 3 * k))))))
  | 14 => .inl (3, 8, .inr (.inr (.inr (.inr (fun k => some (r.1 k))))))
  | 15 => .inl (4, 1, .inr (.inl r.2.1))
  | 16 => .inl (5, 1, .inr (.inr (.inr (.inl r.2.2))))
  | c => .inr (c, fl c a M)
def hp (M : MM) (r : MR) : HP := (475, fun a => cellK (sK a) a M r)
def mst (M : MM) (a k : Nat) (x : Int32) : MM := fun b j => if b = a ∧ j = k then x else M b j
theorem mst_eq (M : MM) (a k : Nat) (x : Int32) : mst M a k x a k = x := by simp [mst]
theorem mst_ne {M : MM} {a k b j : Nat} {x : Int32} (h : b ≠ a ∨ j ≠ k) : mst M a k x b j = M b j := by
  simp only [mst]
  rw [if_neg]
  rintro ⟨h1, h2⟩
  rcases h with h | h <;> contradiction
theorem mst_ne1 {M : MM} {a k b j : Nat} {x : Int32} (h : b ≠ a) : mst M a k x b j = M b j := mst_ne (Or.inl h)
theorem mst_ne2 {M : MM} {a k b j : Nat} {x : Int32} (h : j ≠ k) : mst M a k x b j = M b j := mst_ne (Or.inr h)
theorem sK_lt {a : Nat} (h : sK a ≤ 16) : a < 475 := by
  unfold sK at h
  by_cases h1 : a < 475
  · exact h1
  · simp only [show ¬ a = 0 by omega, show ¬ a < 124 by omega, show ¬ a = 124 by omega, show ¬ a = 125 by omega, show ¬ a < 454 by omega, show ¬ a = 454 by omega, show ¬ a = 455 by omega, show ¬ a = 456 by omega, show ¬ a = 457 by omega, show ¬ a < 460 by omega, show ¬ a = 460 by omega, show ¬ a = 461 by omega, show ¬ a = 462 by omega, show ¬ a = 463 by omega, show ¬ a = 464 by omega, show ¬ a = 471 by omega, show ¬ a < 473 by omega, show ¬ a = 473 by omega, show ¬ a = 474 by omega, if_false] at h
    omega
theorem cellK_obj {c a : Nat} {M : MM} {r : MR} (h : c ≤ 10) : cellK c a M r = .inr (c, fl c a M) := by
  match c, h with
  | 0, _ | 1, _ | 2, _ | 3, _ | 4, _ | 5, _ | 6, _ | 7, _ | 8, _ | 9, _ | 10, _ => rfl
theorem hp_obj {c a : Nat} {M : MM} {r : MR} (hs : sK a = c) (h : c ≤ 10) : (hp M r).2 a = .inr (c, fl c a M) := by
  show cellK (sK a) a M r = _
  rw [hs, cellK_obj h]
theorem hp_lt {c a : Nat} {M : MM} {r : MR} (hs : sK a = c) (h : c ≤ 16) : a < (hp M r).1 := sK_lt (by omega)
theorem hp_is {c a : Nat} {M : MM} {r : MR} (hs : sK a = c) : (hp M r).2 a = cellK c a M r := by
  show cellK (sK a) a M r = _
  rw [hs]
def isI (c k : Nat) : Bool := decide ((c, k) ∈ [(0, 2), (0, 3), (0, 4), (0, 5), (0, 6), (0, 7), (0, 8), (2, 1), (3, 2), (3, 3), (3, 4), (3, 5), (3, 6), (3, 7), (3, 8), (3, 9), (4, 1), (5, 0), (5, 1), (5, 2), (5, 3), (5, 4), (6, 1), (6, 2), (6, 3), (6, 4), (6, 5), (6, 6), (6, 7), (6, 8), (7, 0), (7, 1), (9, 9), (10, 5), (10, 6), (10, 7), (10, 8), (10, 9), (10, 10), (10, 11), (10, 12), (10, 14), (10, 15), (10, 17), (10, 18), (10, 20)])
theorem fl_set {c k a : Nat} {M : MM} {x : Int32} (h : isI c k = true) : fl c a (mst M a k x) = (fl c a M).set k (.int x) := by
  have h := of_decide_eq_true h
  simp only [List.mem_cons, Prod.mk.injEq, List.not_mem_nil, or_false] at h
  rcases h with ⟨rfl, rfl⟩ | ⟨rfl, rfl⟩ | ⟨rfl, rfl⟩ | ⟨rfl, rfl⟩ | ⟨rfl, rfl⟩ | ⟨rfl, rfl⟩ | ⟨rfl, rfl⟩ | ⟨rfl, rfl⟩ | ⟨rfl, rfl⟩ | ⟨rfl, rfl⟩ | ⟨rfl, rfl⟩ | ⟨rfl, rfl⟩ | ⟨rfl, rfl⟩ | ⟨rfl, rfl⟩ | ⟨rfl, rfl⟩ | ⟨rfl, rfl⟩ | ⟨rfl, rfl⟩ | ⟨rfl, rfl⟩ | ⟨rfl, rfl⟩ | ⟨rfl, rfl⟩ | ⟨rfl, rfl⟩ | ⟨rfl, rfl⟩ | ⟨rfl, rfl⟩ | ⟨rfl, rfl⟩ | ⟨rfl, rfl⟩ | ⟨rfl, rfl⟩ | ⟨rfl, rfl⟩ | ⟨rfl, rfl⟩ | ⟨rfl, rfl⟩ | ⟨rfl, rfl⟩ | ⟨rfl, rfl⟩ | ⟨rfl, rfl⟩ | ⟨rfl, rfl⟩ | ⟨rfl, rfl⟩ | ⟨rfl, rfl⟩ | ⟨rfl, rfl⟩ | ⟨rfl, rfl⟩ | ⟨rfl, rfl⟩ | ⟨rfl, rfl⟩ | ⟨rfl, rfl⟩ | ⟨rfl, rfl⟩ | ⟨rfl, rfl⟩ | ⟨rfl, rfl⟩ | ⟨rfl, rfl⟩ | ⟨rfl, rfl⟩ | ⟨rfl, rfl⟩ <;> simp [fl, mst]
theorem isI_le {c k : Nat} (h : isI c k = true) : c ≤ 10 := by
  have h := of_decide_eq_true h
  simp only [List.mem_cons, Prod.mk.injEq, List.not_mem_nil, or_false] at h
  omega
theorem fl_ne {c a b k : Nat} {M : MM} {x : Int32} (h : b ≠ a) : fl c b (mst M a k x) = fl c b M := by
  have h1 : ∀ j, mst M a k x b j = M b j := fun j => mst_ne1 h
  unfold fl
  split <;> simp only [h1]
theorem cellK_ne {c a b k : Nat} {M : MM} {r : MR} {x : Int32} (h : b ≠ a) : cellK c b (mst M a k x) r = cellK c b M r := by
  have h1 : mst M a k x b = M b := funext fun j => mst_ne1 h
  unfold cellK
  split <;> simp only [h1, fl_ne h]
theorem hset_obj {c k a : Nat} {M : MM} {r : MR} {x : Int32} (hs : sK a = c) (h : isI c k = true) : hset (hp M r) a (.inr (c, (fl c a M).set k (.int x))) = hp (mst M a k x) r := by
  unfold hset hp
  refine Prod.ext rfl (funext fun b => ?_)
  dsimp only
  by_cases hb : b = a
  · subst hb
    rw [if_pos rfl, hs, cellK_obj (isI_le h), fl_set h]
  · rw [if_neg hb, cellK_ne hb]
theorem hset_arr {c a k : Nat} {M : MM} {r : MR} {x : Int32} (hs : sK a = c) (hc : c = 11 ∨ c = 12) : hset (hp M r) a (.inl (c - 11, sL a, .inl (upd (M a) k x))) = hp (mst M a k x) r := by
  unfold hset hp
  refine Prod.ext rfl (funext fun b => ?_)
  dsimp only
  by_cases hb : b = a
  · subst hb
    have h1 : mst M b k x b = upd (M b) k x := by
      funext j
      by_cases hj : j = k <;> simp [mst, upd, hj]
    rw [if_pos rfl, hs]
    rcases hc with rfl | rfl <;> simp [cellK, h1]
  · rw [if_neg hb, cellK_ne hb]
theorem cellK_r {c b : Nat} {M : MM} {r r' : MR} (h : (c = 14 → r.1 = r'.1) ∧ (c = 15 → r.2.1 = r'.2.1) ∧ (c = 16 → r.2.2 = r'.2.2)) : cellK c b M r = cellK c b M r' := by
  obtain ⟨h1, h2, h3⟩ := h
  by_cases e1 : c = 14
  · subst e1; simp [cellK, h1 rfl]
  · by_cases e2 : c = 15
    · subst e2; simp [cellK, h2 rfl]
    · by_cases e3 : c = 16
      · subst e3; simp [cellK, h3 rfl]
      · unfold cellK
        split <;> first | rfl | (exfalso; omega)
theorem sK_one : ∀ a, a < 475 → (sK a = 14 → a = 125) ∧ (sK a = 15 → a = 473) ∧ (sK a = 16 → a = 474) := by decide +kernel
theorem hset_r {a : Nat} {M : MM} {r r' : MR} (ha : a < 475) (he : ∀ b, b ≠ a → cellK (sK b) b M r' = cellK (sK b) b M r) : hset (hp M r) a (cellK (sK a) a M r') = hp M r' := by
  unfold hset hp
  refine Prod.ext rfl (funext fun b => ?_)
  dsimp only
  by_cases hb : b = a
  · subst hb
    rw [if_pos rfl]
  · rw [if_neg hb, he b hb]
section RM
variable {l : Launch} {own : String} {cc : ByteArray} {nL d mc ms : Nat} {G : GT} {pc : Nat} {lf lf' : Nat → Option Value} {st : List Value} {M : MM} {r : MR} {ce sl : Nat}
/-- a field read -/
theorem G_get {c : Nat} {C : String} {T : u_T} {N : Nat} {ty : Nat → FieldType} {a idx : Nat} {v : Value} (ok : clsOK c C T N ty) (k : Nat) (hw : Cond.fieldLink own idx (T k).1 (T k).2.1 (T k).2.2.1 ∈ TG) (hd : decode cc pc = .ok (.getfield idx, 3)) (hs : sK a = c) (hk : k < N ∧ c ≤ 10) (hv : (fl c a M)[k]? = some v)
    (kk : Q l own cc nL d mc ms G (pc + 3) lf (v :: st) (hp M r) ce sl) : Q l own cc nL d mc ms G pc lf (.ref a :: st) (hp M r) ce sl :=
  R_get ok hk.1 hw hd (hp_obj hs hk.2) (hp_lt hs (by omega)) hv kk
/-- a field of whole numbers, written -/
theorem G_put {c : Nat} {C : String} {T : u_T} {N : Nat} {ty : Nat → FieldType} {a idx : Nat} {x : Int32} (ok : clsOK c C T N ty) (k : Nat) (hw : Cond.fieldLink own idx (T k).1 (T k).2.1 (T k).2.2.1 ∈ TG) (hd : decode cc pc = .ok (.putfield idx, 3)) (hs : sK a = c) (hI : isI c k = true) (hk : k < N ∧ (T k).2.2.2 = false ∧ k < (fl c a M).length)
    (hn : narrow (ty k) (.int x) = .int x ∧ fits (ty k) (.int x) = true) (kk : Q l own cc nL d mc ms G (pc + 3) lf st (hp (mst M a k x) r) ce sl) : Q l own cc nL d mc ms G pc lf (.int x :: .ref a :: st) (hp M r) ce sl :=
  R_put ok hk.1 hw hk.2.1 hn.1 hn.2 hd (hp_obj hs (isI_le hI)) (hp_lt hs (by have := isI_le hI; omega)) hk.2.2 (by rw [hset_obj hs hI]; exact kk)
theorem G_iald {a : Nat} {i : Int32} (hd : decode cc pc = .ok (.iaload, 1)) (hs : sK a = 12) (hi : vp_in i (sL a)) (kk : Q l own cc nL d mc ms G (pc + 1) lf (.int (M a i.toNatClampNeg) :: st) (hp M r) ce sl) : Q l own cc nL d mc ms G pc lf (.int i :: .ref a :: st) (hp M r) ce sl :=
  R_iald hd (hp_is hs) (hp_lt hs (by omega)) hi kk
theorem G_cald {a : Nat} {i : Int32} (hd : decode cc pc = .ok (.caload, 1)) (hs : sK a = 11) (hi : vp_in i (sL a)) (kk : Q l own cc nL d mc ms G (pc + 1) lf (.int (M a i.toNatClampNeg) :: st) (hp M r) ce sl) : Q l own cc nL d mc ms G pc lf (.int i :: .ref a :: st) (hp M r) ce sl :=
  R_cald hd (hp_is hs) (hp_lt hs (by omega)) hi kk
theorem G_iast {a : Nat} {i x : Int32} (hd : decode cc pc = .ok (.iastore, 1)) (hs : sK a = 12) (hi : vp_in i (sL a)) (kk : Q l own cc nL d mc ms G (pc + 1) lf st (hp (mst M a i.toNatClampNeg x) r) ce sl) : Q l own cc nL d mc ms G pc lf (.int x :: .int i :: .ref a :: st) (hp M r) ce sl :=
  R_iast hd (hp_is hs) (hp_lt hs (by omega)) hi (by rw [hset_arr hs (Or.inr rfl)]; exact kk)
theorem G_cast {a : Nat} {i x : Int32} (hd : decode cc pc = .ok (.castore, 1)) (hs : sK a = 11) (hi : vp_in i (sL a)) (kk : Q l own cc nL d mc ms G (pc + 1) lf st (hp (mst M a i.toNatClampNeg (vp_nar .char x)) r) ce sl) : Q l own cc nL d mc ms G pc lf (.int x :: .int i :: .ref a :: st) (hp M r) ce sl :=
  R_cast hd (hp_is hs) (hp_lt hs (by omega)) hi (by rw [hset_arr hs (Or.inl rfl)]; exact kk)
/-- the fish of a house's row -/
theorem G_fish {a : Nat} {i : Int32} (hd : decode cc pc = .ok (.aaload, 1)) (hs : sK a = 13) (hi : vp_in i 12) (kk : Q l own cc nL d mc ms G (pc + 1) lf (.ref (a + 4 + 3 * i.toNatClampNeg) :: st) (hp M r) ce sl) : Q l own cc nL d mc ms G pc lf (.int i :: .ref a :: st) (hp M r) ce sl :=
  R_aald (fun _ => rfl) hd (hp_is hs) (hp_lt hs (by omega)) hi rfl kk
theorem G_house {i : Int32} (hd : decode cc pc = .ok (.aaload, 1)) (hi : vp_in i 8) (kk : Q l own cc nL d mc ms G (pc + 1) lf (.ref (r.1 i.toNatClampNeg) :: st) (hp M r) ce sl) : Q l own cc nL d mc ms G pc lf (.int i :: .ref 125 :: st) (hp M r) ce sl :=
  R_aald (fun _ => rfl) hd (hp_is (show sK 125 = 14 from rfl)) (hp_lt (show sK 125 = 14 from rfl) (by omega)) hi rfl kk
theorem G_houses {i : Int32} {v : Nat} (hd : decode cc pc = .ok (.aastore, 1)) (hv : sK v = 3) (hi : vp_in i 8) (kk : Q l own cc nL d mc ms G (pc + 1) lf st (hp M (va_up r.1 i.toNatClampNeg v, r.2)) ce sl) : Q l own cc nL d mc ms G pc lf (.ref v :: .int i :: .ref 125 :: st) (hp M r) ce sl := by
  refine R_aast (r := (RX3, TX3, 10)) (fun _ => rfl) hd (hp_is (show sK 125 = 14 from rfl)) (hp_lt (show sK 125 = 14 from rfl) (by omega)) (hp_obj hv (by omega)) (hp_lt hv (by omega)) rfl hi ?_
  have h9 := hset_r (a := 125) (M := M) (r := r) (r' := (va_up r.1 i.toNatClampNeg v, r.2)) (by omega) (fun b hb => cellK_r ⟨fun e => by
    exact absurd ((sK_one b (sK_lt (by omega))).1 e) hb, fun _ => rfl, fun _ => rfl⟩)
  have h8 : cellK (sK 125) 125 M (va_up r.1 i.toNatClampNeg v, r.2) = .inl (3, 8, .inr (.inr (.inr (.inr (va_up (fun k => some (r.1 k)) i.toNatClampNeg (some v)))))) := by
    have : va_up (fun k => some (r.1 k)) i.toNatClampNeg (some v) = fun k => some (va_up r.1 i.toNatClampNeg v k) := by
      funext k
      by_cases hk : k = i.toNatClampNeg <;> simp [va_up, hk]
    rw [this]
    rfl
  rw [h8] at h9
  rw [h9]
  exact kk
theorem G_lald {i : Int32} (hd : decode cc pc = .ok (.laload, 1)) (hi : vp_in i 1) (kk : Q l own cc nL d mc ms G (pc + 1) lf (.long (r.2.1 i.toNatClampNeg) :: st) (hp M r) ce sl) : Q l own cc nL d mc ms G pc lf (.int i :: .ref 473 :: st) (hp M r) ce sl :=
  R_lald hd (hp_is (show sK 473 = 15 from rfl)) (hp_lt (show sK 473 = 15 from rfl) (by omega)) hi kk
theorem G_dald {i : Int32} (hd : decode cc pc = .ok (.daload, 1)) (hi : vp_in i 1) (kk : Q l own cc nL d mc ms G (pc + 1) lf (.double (r.2.2 i.toNatClampNeg) :: st) (hp M r) ce sl) : Q l own cc nL d mc ms G pc lf (.int i :: .ref 474 :: st) (hp M r) ce sl :=
  R_dald hd (hp_is (show sK 474 = 16 from rfl)) (hp_lt (show sK 474 = 16 from rfl) (by omega)) hi kk
theorem G_last {i : Int32} {x : Int64} (hd : decode cc pc = .ok (.lastore, 1)) (hi : vp_in i 1) (kk : Q l own cc nL d mc ms G (pc + 1) lf st (hp M (r.1, vp_updL r.2.1 i.toNatClampNeg x, r.2.2)) ce sl) : Q l own cc nL d mc ms G pc lf (.long x :: .int i :: .ref 473 :: st) (hp M r) ce sl := by
  refine R_last hd (hp_is (show sK 473 = 15 from rfl)) (hp_lt (show sK 473 = 15 from rfl) (by omega)) hi ?_
  have h9 := hset_r (a := 473) (M := M) (r := r) (r' := (r.1, vp_updL r.2.1 i.toNatClampNeg x, r.2.2)) (by omega) (fun b hb => cellK_r ⟨fun _ => rfl, fun e => by
    exact absurd ((sK_one b (sK_lt (by omega))).2.1 e) hb, fun _ => rfl⟩)
  rw [show (Sum.inl (4, 1, .inr (.inl (vp_updL r.2.1 i.toNatClampNeg x))) : vE) = cellK (sK 473) 473 M (r.1, vp_updL r.2.1 i.toNatClampNeg x, r.2.2) from rfl, h9]
  exact kk
theorem G_dast {i : Int32} {x : UInt64} (hd : decode cc pc = .ok (.dastore, 1)) (hi : vp_in i 1) (kk : Q l own cc nL d mc ms G (pc + 1) lf st (hp M (r.1, r.2.1, vf_upd r.2.2 i.toNatClampNeg x)) ce sl) : Q l own cc nL d mc ms G pc lf (.double x :: .int i :: .ref 474 :: st) (hp M r) ce sl := by
  refine R_dast hd (hp_is (show sK 474 = 16 from rfl)) (hp_lt (show sK 474 = 16 from rfl) (by omega)) hi ?_
  have h9 := hset_r (a := 474) (M := M) (r := r) (r' := (r.1, r.2.1, vf_upd r.2.2 i.toNatClampNeg x)) (by omega) (fun b hb => cellK_r ⟨fun _ => rfl, fun _ => rfl, fun e => by
    exact absurd ((sK_one b (sK_lt (by omega))).2.2 e) hb⟩)
  rw [show (Sum.inl (5, 1, .inr (.inr (.inr (.inl (vf_upd r.2.2 i.toNatClampNeg x))))) : vE) = cellK (sK 474) 474 M (r.1, r.2.1, vf_upd r.2.2 i.toNatClampNeg x) from rfl, h9]
  exact kk
theorem G_alen {a t n : Nat} {ty : FieldType} {c : Nat} {x : vp_A} {v : Int32} (hd : decode cc pc = .ok (.arraylength, 1)) (hs : sK a = c) (hc : c ≤ 16) (ht : ∀ dA, (tysA dA)[t]? = some (dA t, ty)) (hx : cellK c a M r = .inl (t, x)) (hn : x.1 = n) (hv : Int32.ofNat n = v) (kk : Q l own cc nL d mc ms G (pc + 1) lf (.int v :: st) (hp M r) ce sl) : Q l own cc nL d mc ms G pc lf (.ref a :: st) (hp M r) ce sl :=
  R_alen ht hd ((hp_is hs).trans hx) (hp_lt hs hc) hn hv kk
theorem R_min {h : HP} {idx : Nat} {x y : Int32} (hw : Cond.methodLink own idx Lib.Math.min.name ∈ TG) (hw2 : Cond.static Lib.Math.min.name ∈ TG ∧ Cond.initialized "java/lang/Math" ∈ TG ∧ Cond.code Lib.Math.min.name Lib.Math.min.code 2 (some .int) ∈ TG) (hd : decode cc pc = .ok (.invokestatic idx, 3)) (hdd : 1 ≤ d) (hc : ce ≤ mc) (hs : sl ≤ ms) (hcat : (st.map fun v => v.category).sum ≤ 8)
    (k : Q l own cc nL d mc ms G (pc + 3) lf (.int (if y < x then y else x) :: st) h ce sl) : Q l own cc nL d mc ms G pc lf (.int y :: .int x :: st) h ce sl := by
  intro p e R s m args below meth c D dA θ A QQ H locs ls cx g wd hl
  obtain ⟨x1, x2, x3, x4, x5, x6, ⟨x7, x8, x9, x10⟩, x11, x12, x13, x14, x15, x16⟩ := id cx
  exact va_mmin x1 x2 (x3.trans hl.1.symm) x4 (x5 _ hw) (x5 _ hw2.1) (x5 _ hw2.2.1) (x5 _ hw2.2.2) (by omega) (by rw [cat_sum]; omega) (by omega) (by omega) hd (k p e R s m args below meth c D dA θ A QQ H locs ls cx g wd hl)
theorem R_max {h : HP} {idx : Nat} {x y : Int32} (hw : Cond.methodLink own idx Lib.Math.max.name ∈ TG) (hw2 : Cond.static Lib.Math.max.name ∈ TG ∧ Cond.initialized "java/lang/Math" ∈ TG ∧ Cond.code Lib.Math.max.name Lib.Math.max.code 2 (some .int) ∈ TG) (hd : decode cc pc = .ok (.invokestatic idx, 3)) (hdd : 1 ≤ d) (hc : ce ≤ mc) (hs : sl ≤ ms) (hcat : (st.map fun v => v.category).sum ≤ 8)
    (k : Q l own cc nL d mc ms G (pc + 3) lf (.int (if x < y then y else x) :: st) h ce sl) : Q l own cc nL d mc ms G pc lf (.int y :: .int x :: st) h ce sl := by
  intro p e R s m args below meth c D dA θ A QQ H locs ls cx g wd hl
  obtain ⟨x1, x2, x3, x4, x5, x6, ⟨x7, x8, x9, x10⟩, x11, x12, x13, x14, x15, x16⟩ := id cx
  exact va_mmax x1 x2 (x3.trans hl.1.symm) x4 (x5 _ hw) (x5 _ hw2.1) (x5 _ hw2.2.1) (x5 _ hw2.2.2) (by omega) (by rw [cat_sum]; omega) (by omega) (by omega) hd (k p e R s m args below meth c D dA θ A QQ H locs ls cx g wd hl)
theorem R_abs {h : HP} {idx : Nat} {x : Int32} (hw : Cond.methodLink own idx Lib.Math.abs.name ∈ TG) (hw2 : Cond.static Lib.Math.abs.name ∈ TG ∧ Cond.initialized "java/lang/Math" ∈ TG ∧ Cond.code Lib.Math.abs.name Lib.Math.abs.code 1 (some .int) ∈ TG) (hd : decode cc pc = .ok (.invokestatic idx, 3)) (hdd : 1 ≤ d) (hc : ce ≤ mc) (hs : sl ≤ ms) (hcat : (st.map fun v => v.category).sum ≤ 8)
    (k : Q l own cc nL d mc ms G (pc + 3) lf (.int (if 0 ≤ x then x else 0 - x) :: st) h ce sl) : Q l own cc nL d mc ms G pc lf (.int x :: st) h ce sl := by
  intro p e R s m args below meth c D dA θ A QQ H locs ls cx g wd hl
  obtain ⟨x1, x2, x3, x4, x5, x6, ⟨x7, x8, x9, x10⟩, x11, x12, x13, x14, x15, x16⟩ := id cx
  exact va_mabs x1 x2 (x3.trans hl.1.symm) x4 (x5 _ hw) (x5 _ hw2.1) (x5 _ hw2.2.1) (x5 _ hw2.2.2) (by omega) (by rw [cat_sum]; omega) (by omega) (by omega) hd (k p e R s m args below meth c D dA θ A QQ H locs ls cx g wd hl)
/-- a contract with one end: it returns v, and leaves h1 -/
abbrev VD (l : Launch) (y : MethodName) (cc : ByteArray) (nL : Nat) (ret : Option FieldType) (d : Nat) (As : List Value) (h : HP) (v : Option Value) (h1 : HP) : Prop := VM l y cc nL ret d 0 0 As h (fun o h2 => o = .inl v ∧ h2 = h1)
theorem R_cV {h h1 : HP} {y : MethodName} {bytes : ByteArray} {maxL idx d' n a ci : Nat} {ret : Option FieldType} {As : List Value} {fs : List Value} {T : u_T} {N : Nat} {stk : List Value} {v : Option Value}
    (cw : CWV own idx y bytes maxL ret n) (hM : VD l y bytes maxL ret d' (.ref a :: As) h v h1) (hd : decode cc pc = .ok (.invokevirtual idx, 3)) (hcl : CLs[ci]? = some (y.cls, T, N)) (ha : h.2 a = .inr (ci, fs)) (hN : a < h.1)
    (hdd : d' + 1 ≤ d) (hmc : ce ≤ mc) (hms : sl ≤ ms) (hn : As.length = n) (hstk : stk = As.reverse ++ .ref a :: st) (hcat : (st.map fun v => v.category).sum ≤ 8)
    (kk : Q l own cc nL d mc ms G (pc + 3) lf (v.toList ++ st) h1 ce sl) : Q l own cc nL d mc ms G pc lf stk h ce sl :=
  R_callV cw hM hd hcl ha hN hdd hmc hms hn hstk hcat (fun v9 h9 hz => by obtain ⟨e1, rfl⟩ := hz; cases e1; exact kk) (fun E h9 hz => by cases hz.1)
theorem R_cS {h h1 : HP} {y : MethodName} {bytes : ByteArray} {maxL idx d' n : Nat} {ret : Option FieldType} {As : List Value} {stk : List Value} {v : Option Value}
    (cw : CWS own idx y bytes maxL ret n) (hM : VD l y bytes maxL ret d' As h v h1) (hd : decode cc pc = .ok (.invokestatic idx, 3))
    (hdd : d' + 1 ≤ d) (hmc : ce ≤ mc) (hms : sl ≤ ms) (hn : As.length = n) (hstk : stk = As.reverse ++ st) (hcat : (st.map fun v => v.category).sum ≤ 8)
    (kk : Q l own cc nL d mc ms G (pc + 3) lf (v.toList ++ st) h1 ce sl) : Q l own cc nL d mc ms G pc lf stk h ce sl :=
  R_callS cw hM hd hdd hmc hms hn hstk hcat (fun v9 h9 hz => by obtain ⟨e1, rfl⟩ := hz; cases e1; exact kk) (fun E h9 hz => by cases hz.1)
theorem R_cN {h h1 : HP} {y : MethodName} {host : String} {bytes : ByteArray} {maxL idx d' n : Nat} {ret : Option FieldType} {As : List Value} {stk : List Value} {v : Option Value}
    (cw : CWN own idx y host bytes maxL ret n) (hM : VD l y bytes maxL ret d' As h v h1) (hd : decode cc pc = .ok (.invokestatic idx, 3))
    (hdd : d' + 1 ≤ d) (hmc : ce ≤ mc) (hms : sl ≤ ms) (hn : As.length = n) (hstk : stk = As.reverse ++ st) (hcat : (st.map fun v => v.category).sum ≤ 8)
    (kk : Q l own cc nL d mc ms G (pc + 3) lf (v.toList ++ st) h1 ce sl) : Q l own cc nL d mc ms G pc lf stk h ce sl :=
  R_callN cw hM (fun E h9 hz => by cases hz.1) hd hdd hmc hms hn hstk hcat (fun v9 h9 hz => by obtain ⟨e1, rfl⟩ := hz; cases e1; exact kk)
theorem G_cV0 {h h1 : HP} {y : MethodName} {bytes : ByteArray} {maxL idx d' a ci : Nat} {ret : Option FieldType} {fs : List Value} {T : u_T} {N : Nat} {v : Value} (cw : CWV own idx y bytes maxL ret 0) (hM : VD l y bytes maxL ret d' [.ref a] h (some v) h1) (hd : decode cc pc = .ok (.invokevirtual idx, 3)) (hr : CLs[ci]? = some (y.cls, T, N) ∧ h.2 a = .inr (ci, fs) ∧ a < h.1)
    (hn : d' + 1 ≤ d ∧ ce ≤ mc ∧ sl ≤ ms ∧ (st.map fun v => v.category).sum ≤ 8) (kk : Q l own cc nL d mc ms G (pc + 3) lf (v :: st) h1 ce sl) : Q l own cc nL d mc ms G pc lf (.ref a :: st) h ce sl :=
  R_cV (As := []) cw hM hd hr.1 hr.2.1 hr.2.2 hn.1 hn.2.1 hn.2.2.1 rfl rfl hn.2.2.2 kk
theorem G_cS0 {h h1 : HP} {y : MethodName} {bytes : ByteArray} {maxL idx d' : Nat} {ret : Option FieldType} {v : Value} (cw : CWS own idx y bytes maxL ret 0) (hM : VD l y bytes maxL ret d' [] h (some v) h1) (hd : decode cc pc = .ok (.invokestatic idx, 3))
    (hn : d' + 1 ≤ d ∧ ce ≤ mc ∧ sl ≤ ms ∧ (st.map fun v => v.category).sum ≤ 8) (kk : Q l own cc nL d mc ms G (pc + 3) lf (v :: st) h1 ce sl) : Q l own cc nL d mc ms G pc lf (st) h ce sl :=
  R_cS (As := []) cw hM hd hn.1 hn.2.1 hn.2.2.1 rfl rfl hn.2.2.2 kk
theorem G_cV0v {h h1 : HP} {y : MethodName} {bytes : ByteArray} {maxL idx d' a ci : Nat} {ret : Option FieldType} {fs : List Value} {T : u_T} {N : Nat} (cw : CWV own idx y bytes maxL ret 0) (hM : VD l y bytes maxL ret d' [.ref a] h none h1) (hd : decode cc pc = .ok (.invokevirtual idx, 3)) (hr : CLs[ci]? = some (y.cls, T, N) ∧ h.2 a = .inr (ci, fs) ∧ a < h.1)
    (hn : d' + 1 ≤ d ∧ ce ≤ mc ∧ sl ≤ ms ∧ (st.map fun v => v.category).sum ≤ 8) (kk : Q l own cc nL d mc ms G (pc + 3) lf st h1 ce sl) : Q l own cc nL d mc ms G pc lf (.ref a :: st) h ce sl :=
  R_cV (As := []) cw hM hd hr.1 hr.2.1 hr.2.2 hn.1 hn.2.1 hn.2.2.1 rfl rfl hn.2.2.2 kk
theorem G_cS0v {h h1 : HP} {y : MethodName} {bytes : ByteArray} {maxL idx d' : Nat} {ret : Option FieldType} (cw : CWS own idx y bytes maxL ret 0) (hM : VD l y bytes maxL ret d' [] h none h1) (hd : decode cc pc = .ok (.invokestatic idx, 3))
    (hn : d' + 1 ≤ d ∧ ce ≤ mc ∧ sl ≤ ms ∧ (st.map fun v => v.category).sum ≤ 8) (kk : Q l own cc nL d mc ms G (pc + 3) lf st h1 ce sl) : Q l own cc nL d mc ms G pc lf (st) h ce sl :=
  R_cS (As := []) cw hM hd hn.1 hn.2.1 hn.2.2.1 rfl rfl hn.2.2.2 kk
theorem G_cV1 {h h1 : HP} {y : MethodName} {bytes : ByteArray} {maxL idx d' a ci : Nat} {ret : Option FieldType} {fs : List Value} {T : u_T} {N : Nat} {v : Value} {v0 : Value} (cw : CWV own idx y bytes maxL ret 1) (hM : VD l y bytes maxL ret d' [.ref a, v0] h (some v) h1) (hd : decode cc pc = .ok (.invokevirtual idx, 3)) (hr : CLs[ci]? = some (y.cls, T, N) ∧ h.2 a = .inr (ci, fs) ∧ a < h.1)
    (hn : d' + 1 ≤ d ∧ ce ≤ mc ∧ sl ≤ ms ∧ (st.map fun v => v.category).sum ≤ 8) (kk : Q l own cc nL d mc ms G (pc + 3) lf (v :: st) h1 ce sl) : Q l own cc nL d mc ms G pc lf (v0 :: .ref a :: st) h ce sl :=
  R_cV (As := [v0]) cw hM hd hr.1 hr.2.1 hr.2.2 hn.1 hn.2.1 hn.2.2.1 rfl rfl hn.2.2.2 kk
theorem G_cS1 {h h1 : HP} {y : MethodName} {bytes : ByteArray} {maxL idx d' : Nat} {ret : Option FieldType} {v : Value} {v0 : Value} (cw : CWS own idx y bytes maxL ret 1) (hM : VD l y bytes maxL ret d' [v0] h (some v) h1) (hd : decode cc pc = .ok (.invokestatic idx, 3))
    (hn : d' + 1 ≤ d ∧ ce ≤ mc ∧ sl ≤ ms ∧ (st.map fun v => v.category).sum ≤ 8) (kk : Q l own cc nL d mc ms G (pc + 3) lf (v :: st) h1 ce sl) : Q l own cc nL d mc ms G pc lf (v0 :: st) h ce sl :=
  R_cS (As := [v0]) cw hM hd hn.1 hn.2.1 hn.2.2.1 rfl rfl hn.2.2.2 kk
theorem G_cN1 {h h1 : HP} {y : MethodName} {host : String} {bytes : ByteArray} {maxL idx d' : Nat} {ret : Option FieldType} {v : Value} {v0 : Value} (cw : CWN own idx y host bytes maxL ret 1) (hM : VD l y bytes maxL ret d' [v0] h (some v) h1) (hd : decode cc pc = .ok (.invokestatic idx, 3))
    (hn : d' + 1 ≤ d ∧ ce ≤ mc ∧ sl ≤ ms ∧ (st.map fun v => v.category).sum ≤ 8) (kk : Q l own cc nL d mc ms G (pc + 3) lf (v :: st) h1 ce sl) : Q l own cc nL d mc ms G pc lf (v0 :: st) h ce sl :=
  R_cN (As := [v0]) cw hM hd hn.1 hn.2.1 hn.2.2.1 rfl rfl hn.2.2.2 kk
theorem G_cV1v {h h1 : HP} {y : MethodName} {bytes : ByteArray} {maxL idx d' a ci : Nat} {ret : Option FieldType} {fs : List Value} {T : u_T} {N : Nat} {v0 : Value} (cw : CWV own idx y bytes maxL ret 1) (hM : VD l y bytes maxL ret d' [.ref a, v0] h none h1) (hd : decode cc pc = .ok (.invokevirtual idx, 3)) (hr : CLs[ci]? = some (y.cls, T, N) ∧ h.2 a = .inr (ci, fs) ∧ a < h.1)
    (hn : d' + 1 ≤ d ∧ ce ≤ mc ∧ sl ≤ ms ∧ (st.map fun v => v.category).sum ≤ 8) (kk : Q l own cc nL d mc ms G (pc + 3) lf st h1 ce sl) : Q l own cc nL d mc ms G pc lf (v0 :: .ref a :: st) h ce sl :=
  R_cV (As := [v0]) cw hM hd hr.1 hr.2.1 hr.2.2 hn.1 hn.2.1 hn.2.2.1 rfl rfl hn.2.2.2 kk
theorem G_cS1v {h h1 : HP} {y : MethodName} {bytes : ByteArray} {maxL idx d' : Nat} {ret : Option FieldType} {v0 : Value} (cw : CWS own idx y bytes maxL ret 1) (hM : VD l y bytes maxL ret d' [v0] h none h1) (hd : decode cc pc = .ok (.invokestatic idx, 3))
    (hn : d' + 1 ≤ d ∧ ce ≤ mc ∧ sl ≤ ms ∧ (st.map fun v => v.category).sum ≤ 8) (kk : Q l own cc nL d mc ms G (pc + 3) lf st h1 ce sl) : Q l own cc nL d mc ms G pc lf (v0 :: st) h ce sl :=
  R_cS (As := [v0]) cw hM hd hn.1 hn.2.1 hn.2.2.1 rfl rfl hn.2.2.2 kk
theorem G_cV2 {h h1 : HP} {y : MethodName} {bytes : ByteArray} {maxL idx d' a ci : Nat} {ret : Option FieldType} {fs : List Value} {T : u_T} {N : Nat} {v : Value} {v0 v1 : Value} (cw : CWV own idx y bytes maxL ret 2) (hM : VD l y bytes maxL ret d' [.ref a, v0, v1] h (some v) h1) (hd : decode cc pc = .ok (.invokevirtual idx, 3)) (hr : CLs[ci]? = some (y.cls, T, N) ∧ h.2 a = .inr (ci, fs) ∧ a < h.1)
    (hn : d' + 1 ≤ d ∧ ce ≤ mc ∧ sl ≤ ms ∧ (st.map fun v => v.category).sum ≤ 8) (kk : Q l own cc nL d mc ms G (pc + 3) lf (v :: st) h1 ce sl) : Q l own cc nL d mc ms G pc lf (v1 :: v0 :: .ref a :: st) h ce sl :=
  R_cV (As := [v0, v1]) cw hM hd hr.1 hr.2.1 hr.2.2 hn.1 hn.2.1 hn.2.2.1 rfl rfl hn.2.2.2 kk
theorem G_cS2 {h h1 : HP} {y : MethodName} {bytes : ByteArray} {maxL idx d' : Nat} {ret : Option FieldType} {v : Value} {v0 v1 : Value} (cw : CWS own idx y bytes maxL ret 2) (hM : VD l y bytes maxL ret d' [v0, v1] h (some v) h1) (hd : decode cc pc = .ok (.invokestatic idx, 3))
    (hn : d' + 1 ≤ d ∧ ce ≤ mc ∧ sl ≤ ms ∧ (st.map fun v => v.category).sum ≤ 8) (kk : Q l own cc nL d mc ms G (pc + 3) lf (v :: st) h1 ce sl) : Q l own cc nL d mc ms G pc lf (v1 :: v0 :: st) h ce sl :=
  R_cS (As := [v0, v1]) cw hM hd hn.1 hn.2.1 hn.2.2.1 rfl rfl hn.2.2.2 kk
theorem G_cN2 {h h1 : HP} {y : MethodName} {host : String} {bytes : ByteArray} {maxL idx d' : Nat} {ret : Option FieldType} {v : Value} {v0 v1 : Value} (cw : CWN own idx y host bytes maxL ret 2) (hM : VD l y bytes maxL ret d' [v0, v1] h (some v) h1) (hd : decode cc pc = .ok (.invokestatic idx, 3))
    (hn : d' + 1 ≤ d ∧ ce ≤ mc ∧ sl ≤ ms ∧ (st.map fun v => v.category).sum ≤ 8) (kk : Q l own cc nL d mc ms G (pc + 3) lf (v :: st) h1 ce sl) : Q l own cc nL d mc ms G pc lf (v1 :: v0 :: st) h ce sl :=
  R_cN (As := [v0, v1]) cw hM hd hn.1 hn.2.1 hn.2.2.1 rfl rfl hn.2.2.2 kk
theorem G_cV2v {h h1 : HP} {y : MethodName} {bytes : ByteArray} {maxL idx d' a ci : Nat} {ret : Option FieldType} {fs : List Value} {T : u_T} {N : Nat} {v0 v1 : Value} (cw : CWV own idx y bytes maxL ret 2) (hM : VD l y bytes maxL ret d' [.ref a, v0, v1] h none h1) (hd : decode cc pc = .ok (.invokevirtual idx, 3)) (hr : CLs[ci]? = some (y.cls, T, N) ∧ h.2 a = .inr (ci, fs) ∧ a < h.1)
    (hn : d' + 1 ≤ d ∧ ce ≤ mc ∧ sl ≤ ms ∧ (st.map fun v => v.category).sum ≤ 8) (kk : Q l own cc nL d mc ms G (pc + 3) lf st h1 ce sl) : Q l own cc nL d mc ms G pc lf (v1 :: v0 :: .ref a :: st) h ce sl :=
  R_cV (As := [v0, v1]) cw hM hd hr.1 hr.2.1 hr.2.2 hn.1 hn.2.1 hn.2.2.1 rfl rfl hn.2.2.2 kk
theorem G_cS2v {h h1 : HP} {y : MethodName} {bytes : ByteArray} {maxL idx d' : Nat} {ret : Option FieldType} {v0 v1 : Value} (cw : CWS own idx y bytes maxL ret 2) (hM : VD l y bytes maxL ret d' [v0, v1] h none h1) (hd : decode cc pc = .ok (.invokestatic idx, 3))
    (hn : d' + 1 ≤ d ∧ ce ≤ mc ∧ sl ≤ ms ∧ (st.map fun v => v.category).sum ≤ 8) (kk : Q l own cc nL d mc ms G (pc + 3) lf st h1 ce sl) : Q l own cc nL d mc ms G pc lf (v1 :: v0 :: st) h ce sl :=
  R_cS (As := [v0, v1]) cw hM hd hn.1 hn.2.1 hn.2.2.1 rfl rfl hn.2.2.2 kk
theorem G_cV3 {h h1 : HP} {y : MethodName} {bytes : ByteArray} {maxL idx d' a ci : Nat} {ret : Option FieldType} {fs : List Value} {T : u_T} {N : Nat} {v : Value} {v0 v1 v2 : Value} (cw : CWV own idx y bytes maxL ret 3) (hM : VD l y bytes maxL ret d' [.ref a, v0, v1, v2] h (some v) h1) (hd : decode cc pc = .ok (.invokevirtual idx, 3)) (hr : CLs[ci]? = some (y.cls, T, N) ∧ h.2 a = .inr (ci, fs) ∧ a < h.1)
    (hn : d' + 1 ≤ d ∧ ce ≤ mc ∧ sl ≤ ms ∧ (st.map fun v => v.category).sum ≤ 8) (kk : Q l own cc nL d mc ms G (pc + 3) lf (v :: st) h1 ce sl) : Q l own cc nL d mc ms G pc lf (v2 :: v1 :: v0 :: .ref a :: st) h ce sl :=
  R_cV (As := [v0, v1, v2]) cw hM hd hr.1 hr.2.1 hr.2.2 hn.1 hn.2.1 hn.2.2.1 rfl rfl hn.2.2.2 kk
theorem G_cS3 {h h1 : HP} {y : MethodName} {bytes : ByteArray} {maxL idx d' : Nat} {ret : Option FieldType} {v : Value} {v0 v1 v2 : Value} (cw : CWS own idx y bytes maxL ret 3) (hM : VD l y bytes maxL ret d' [v0, v1, v2] h (some v) h1) (hd : decode cc pc = .ok (.invokestatic idx, 3))
    (hn : d' + 1 ≤ d ∧ ce ≤ mc ∧ sl ≤ ms ∧ (st.map fun v => v.category).sum ≤ 8) (kk : Q l own cc nL d mc ms G (pc + 3) lf (v :: st) h1 ce sl) : Q l own cc nL d mc ms G pc lf (v2 :: v1 :: v0 :: st) h ce sl :=
  R_cS (As := [v0, v1, v2]) cw hM hd hn.1 hn.2.1 hn.2.2.1 rfl rfl hn.2.2.2 kk
theorem G_cV3v {h h1 : HP} {y : MethodName} {bytes : ByteArray} {maxL idx d' a ci : Nat} {ret : Option FieldType} {fs : List Value} {T : u_T} {N : Nat} {v0 v1 v2 : Value} (cw : CWV own idx y bytes maxL ret 3) (hM : VD l y bytes maxL ret d' [.ref a, v0, v1, v2] h none h1) (hd : decode cc pc = .ok (.invokevirtual idx, 3)) (hr : CLs[ci]? = some (y.cls, T, N) ∧ h.2 a = .inr (ci, fs) ∧ a < h.1)
    (hn : d' + 1 ≤ d ∧ ce ≤ mc ∧ sl ≤ ms ∧ (st.map fun v => v.category).sum ≤ 8) (kk : Q l own cc nL d mc ms G (pc + 3) lf st h1 ce sl) : Q l own cc nL d mc ms G pc lf (v2 :: v1 :: v0 :: .ref a :: st) h ce sl :=
  R_cV (As := [v0, v1, v2]) cw hM hd hr.1 hr.2.1 hr.2.2 hn.1 hn.2.1 hn.2.2.1 rfl rfl hn.2.2.2 kk
theorem G_cS3v {h h1 : HP} {y : MethodName} {bytes : ByteArray} {maxL idx d' : Nat} {ret : Option FieldType} {v0 v1 v2 : Value} (cw : CWS own idx y bytes maxL ret 3) (hM : VD l y bytes maxL ret d' [v0, v1, v2] h none h1) (hd : decode cc pc = .ok (.invokestatic idx, 3))
    (hn : d' + 1 ≤ d ∧ ce ≤ mc ∧ sl ≤ ms ∧ (st.map fun v => v.category).sum ≤ 8) (kk : Q l own cc nL d mc ms G (pc + 3) lf st h1 ce sl) : Q l own cc nL d mc ms G pc lf (v2 :: v1 :: v0 :: st) h ce sl :=
  R_cS (As := [v0, v1, v2]) cw hM hd hn.1 hn.2.1 hn.2.2.1 rfl rfl hn.2.2.2 kk
theorem G_cS4 {h h1 : HP} {y : MethodName} {bytes : ByteArray} {maxL idx d' : Nat} {ret : Option FieldType} {v : Value} {v0 v1 v2 v3 : Value} (cw : CWS own idx y bytes maxL ret 4) (hM : VD l y bytes maxL ret d' [v0, v1, v2, v3] h (some v) h1) (hd : decode cc pc = .ok (.invokestatic idx, 3))
    (hn : d' + 1 ≤ d ∧ ce ≤ mc ∧ sl ≤ ms ∧ (st.map fun v => v.category).sum ≤ 8) (kk : Q l own cc nL d mc ms G (pc + 3) lf (v :: st) h1 ce sl) : Q l own cc nL d mc ms G pc lf (v3 :: v2 :: v1 :: v0 :: st) h ce sl :=
  R_cS (As := [v0, v1, v2, v3]) cw hM hd hn.1 hn.2.1 hn.2.2.1 rfl rfl hn.2.2.2 kk
theorem G_cS4v {h h1 : HP} {y : MethodName} {bytes : ByteArray} {maxL idx d' : Nat} {ret : Option FieldType} {v0 v1 v2 v3 : Value} (cw : CWS own idx y bytes maxL ret 4) (hM : VD l y bytes maxL ret d' [v0, v1, v2, v3] h none h1) (hd : decode cc pc = .ok (.invokestatic idx, 3))
    (hn : d' + 1 ≤ d ∧ ce ≤ mc ∧ sl ≤ ms ∧ (st.map fun v => v.category).sum ≤ 8) (kk : Q l own cc nL d mc ms G (pc + 3) lf st h1 ce sl) : Q l own cc nL d mc ms G pc lf (v3 :: v2 :: v1 :: v0 :: st) h ce sl :=
  R_cS (As := [v0, v1, v2, v3]) cw hM hd hn.1 hn.2.1 hn.2.2.1 rfl rfl hn.2.2.2 kk
theorem G_houseV {i : Int32} {b : Nat} (hd : decode cc pc = .ok (.aaload, 1)) (hi : vp_in i 8) (hb : r.1 i.toNatClampNeg = b) (kk : Q l own cc nL d mc ms G (pc + 1) lf (.ref b :: st) (hp M r) ce sl) : Q l own cc nL d mc ms G pc lf (.int i :: .ref 125 :: st) (hp M r) ce sl := G_house hd hi (by rw [hb]; exact kk)
theorem R_rE {r' : MR} (e : r = r') (k : Q l own cc nL d mc ms G pc lf st (hp M r') ce sl) : Q l own cc nL d mc ms G pc lf st (hp M r) ce sl := e ▸ k
theorem R_memE {M' : MM} (e : M = M') (k : Q l own cc nL d mc ms G pc lf st (hp M' r) ce sl) : Q l own cc nL d mc ms G pc lf st (hp M r) ce sl := e ▸ k
theorem R_icmp_leN {h : HP} {x y : Int32} {off : Int} {tgt : Nat} (hd : decode cc pc = .ok (.if_icmp .le off, 3)) (ht : (pc : Int) + off = (tgt : Int)) (kt : ¬ y < x → Q l own cc nL d mc ms G tgt lf st h ce sl) (kf : y < x → Q l own cc nL d mc ms G (pc + 3) lf st h ce sl) : Q l own cc nL d mc ms G pc lf (.int y :: .int x :: st) h ce sl := R_icmp_le hd ht (fun q => kt (Int32.not_lt.mpr q)) (fun q => kf (Int32.not_le.mp q))
theorem R_icmp_geN {h : HP} {x y : Int32} {off : Int} {tgt : Nat} (hd : decode cc pc = .ok (.if_icmp .ge off, 3)) (ht : (pc : Int) + off = (tgt : Int)) (kt : ¬ x < y → Q l own cc nL d mc ms G tgt lf st h ce sl) (kf : x < y → Q l own cc nL d mc ms G (pc + 3) lf st h ce sl) : Q l own cc nL d mc ms G pc lf (.int y :: .int x :: st) h ce sl := R_icmp_ge hd ht (fun q => kt (Int32.not_lt.mpr q)) (fun q => kf (Int32.not_le.mp q))
theorem R_if_leN {h : HP} {x : Int32} {off : Int} {tgt : Nat} (hd : decode cc pc = .ok (.ifCond .le off, 3)) (ht : (pc : Int) + off = (tgt : Int)) (kt : ¬ 0 < x → Q l own cc nL d mc ms G tgt lf st h ce sl) (kf : 0 < x → Q l own cc nL d mc ms G (pc + 3) lf st h ce sl) : Q l own cc nL d mc ms G pc lf (.int x :: st) h ce sl := R_if_le hd ht (fun q => kt (Int32.not_lt.mpr q)) (fun q => kf (Int32.not_le.mp q))
theorem R_if_geN {h : HP} {x : Int32} {off : Int} {tgt : Nat} (hd : decode cc pc = .ok (.ifCond .ge off, 3)) (ht : (pc : Int) + off = (tgt : Int)) (kt : ¬ x < 0 → Q l own cc nL d mc ms G tgt lf st h ce sl) (kf : x < 0 → Q l own cc nL d mc ms G (pc + 3) lf st h ce sl) : Q l own cc nL d mc ms G pc lf (.int x :: st) h ce sl := R_if_ge hd ht (fun q => kt (Int32.not_lt.mpr q)) (fun q => kf (Int32.not_le.mp q))
theorem R_topE {h : HP} {x y : Int32} (e : x = y) (k : Q l own cc nL d mc ms G pc lf (.int y :: st) h ce sl) : Q l own cc nL d mc ms G pc lf (.int x :: st) h ce sl := e ▸ k
/-- the receiver, by its number -/
theorem rcv {c a : Nat} {C : String} {T : u_T} {N : Nat} {ty : Nat → FieldType} (ok : clsOK c C T N ty) (hs : sK a = c) (hc : c ≤ 10) : CLs[c]? = some (C, T, N) ∧ (hp M r).2 a = .inr (c, fl c a M) ∧ a < (hp M r).1 := ⟨ok.1, hp_obj hs hc, hp_lt hs (by omega)⟩
end RM
