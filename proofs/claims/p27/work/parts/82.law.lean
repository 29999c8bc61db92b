/-! the law over any script -/
abbrev l_Q : Option Value → aM → Prop := fun u _ => u = some (.int 1)
set_option maxRecDepth 100000 in
theorem aw_sl {Ln : Nat} {xs : Nat → Int32} {fr : Nat} {cd : List aR} {pc q nx ax wp : Nat} {L r : List Value} {M : aM} {Q : Option Value → aM → Prop} {j : Int32} (hf : a_find cd pc = some (q, .iaload, nx, ax, wp)) (h0 : 0 ≤ j.toInt) (h1 : j.toInt < Ln) (k : aw (wA, Ln, xs) fr cd nx L (.int (xs j.toInt.toNat) :: r) M Q) : aw (wA, Ln, xs) fr cd pc L (.int j :: .ref a_scr :: r) M Q := by
  obtain ⟨c1, c2⟩ := h_clamp h0
  refine aw_e hf rfl ?_ k
  show a_ial (wA, Ln, xs) nx L (.int j :: .ref a_scr :: r) M = _
  unfold a_ial a_ald
  simp only
  rw [if_pos trivial, if_pos ⟨rfl, c1, by rw [c2]; omega⟩]
  simp only [c2]
set_option maxRecDepth 100000 in
theorem h_tswL (pc : Nat) (d lo hi : Int) (offs : Array Int) (L : List Value) (x : Int32) (M : aM) : (a_tsw pc d lo hi offs L [.int x] M).map (fun z => z.1) = (a_tsw pc d lo hi offs [] [.int x] M).map (fun z => z.1) := by
  have hj : ∀ off : Int, (a_jmp pc off L [] M).map (fun z => z.1) = (a_jmp pc off [] [] M).map (fun z => z.1) := by
    intro off
    unfold a_jmp
    split <;> rfl
  unfold a_tsw
  simp only
  split
  next => exact hj _
  next =>
    split
    next => exact hj _
    next => rfl
set_option maxRecDepth 100000 in
theorem aw_tl {w : aW} {fr : Nat} {cd : List aR} {pc q nx ax wp : Nat} {L : List Value} {M : aM} {Q : Option Value → aM → Prop} {x : Int32} {d lo hi : Int} {offs : Array Int} {t : Nat} (hf : a_find cd pc = some (q, .tableswitch d lo hi offs, nx, ax, wp)) (ht : (a_tsw pc d lo hi offs [] [.int x] a_M0).map (fun z => z.1) = some t) (k : aw w fr cd t L [] M Q) : aw w fr cd pc L [.int x] M Q := aw_tk hf (by rw [h_tswL]; exact ht) k
set_option maxRecDepth 100000 in
theorem h_ix {i : Int32} {c : Int} (hc : c = 1 ∨ c = 2 ∨ c = 3) (h0 : 0 ≤ i.toInt) (h1 : i.toInt ≤ 2044) : (i + Int32.ofInt c).toInt = i.toInt + c := by
  have e : (Int32.ofInt c).toInt = c := by rcases hc with rfl | rfl | rfl <;> decide
  rw [Int32.toInt_add, e]
  exact x_bm (by rw [x_mn_e]; omega) (by rw [x_mx_e]; omega)
set_option maxRecDepth 100000 in
theorem h_i4 {i : Int32} (h0 : 0 ≤ i.toInt) (h1 : i.toInt ≤ 2044) : (i + Int32.ofInt 4).toInt = i.toInt + 4 := by
  have e : (Int32.ofInt 4).toInt = 4 := by decide
  rw [Int32.toInt_add, e]
  exact x_bm (by rw [x_mn_e]; omega) (by rw [x_mx_e]; omega)
set_option maxRecDepth 100000 in
theorem l_end {w : aW} {L : List Value} {M : aM} : aw w 9 a_claw 1262 L [] M l_Q := by
  refine aw_e rfl rfl rfl ?_
  exact aw_ri rfl (Or.inr (by decide +kernel)) (congrArg (fun z => some (Value.int z)) (by decide +kernel))
/-- the next call -/
def l_nx (Ln : Nat) (xs : Nat → Int32) (i : Int32) : Prop := ∀ M, h_Inv M → aw (wA, Ln, xs) 9 a_claw 1256 [.ref a_scr, .ref 0, .ref a_mo, .int i] [] M l_Q
set_option maxRecDepth 100000 in
theorem l_0 {Ln : Nat} {xs : Nat → Int32} {i : Int32} (h0 : 0 ≤ i.toInt) (h1 : i.toInt ≤ 2044) (h2 : i.toInt + 4 ≤ Ln) (K : l_nx Ln xs i) {M : aM} (I : h_Inv M) : aw (wA, Ln, xs) 9 a_claw 224 [.ref a_scr, .ref 0, .ref a_mo, .int i] [] M l_Q := by
  refine aw_e rfl rfl rfl ?_
  refine aw_e rfl rfl rfl ?_
  refine aw_e rfl rfl rfl ?_
  refine aw_e rfl rfl rfl ?_
  refine aw_e rfl rfl rfl ?_
  refine aw_sl rfl (by rw [h_ix (by decide) h0 h1]; omega) (by rw [h_ix (by decide) h0 h1]; omega) ?_
  refine aw_cm2 (fr := 8) (k := 0) rfl rfl (by decide) rfl (hx_feedC I.1 I.2.1 (xs (i + Int32.ofInt 1).toInt.toNat)) rfl (fun v M1 hu => ?_)
  obtain ⟨J1, D1, F1, n1, ⟨x1, rfl, r1⟩⟩ := hu
  refine aw_e rfl rfl rfl ?_
  refine aw_e rfl rfl rfl ?_
  refine aw_e rfl rfl rfl ?_
  refine aw_e rfl rfl rfl ?_
  refine aw_e rfl rfl rfl ?_
  refine aw_e rfl rfl rfl ?_
  refine aw_sl rfl (by rw [h_ix (by decide) h0 h1]; omega) (by rw [h_ix (by decide) h0 h1]; omega) ?_
  have em : M1 61 18 = M 61 18 := F1 61 18 (by decide +kernel)
  have ec : M 19 1 = M 61 18 := I.2.2.2.1
  refine aw_cm2 (fr := 8) (k := 0) rfl rfl (by decide) rfl (hx_feedM J1 D1 (xs (i + Int32.ofInt 1).toInt.toNat)) rfl (fun v M2 hu => ?_)
  obtain ⟨J2, D2, F2, n2, ⟨x2, rfl, r2⟩⟩ := hu
  have er : x1.toInt = x2.toInt := by rw [r1, r2, em, ec]
  have en : M2 19 1 = M2 61 18 := Int32.toInt_inj.mp (by
    rw [n2, F2 19 1 (by decide +kernel), n1, em, ec])
  have I : h_Inv M2 := by
    refine ⟨J2, D2, ?_, en, fun k hk => ?_⟩
    · rw [F2 0 11 (by decide +kernel), F2 61 46 (by decide +kernel), F1 0 11 (by decide +kernel), F1 61 46 (by decide +kernel)]
      exact I.2.2.1
    · have q1 : ∀ k, k < 12 → x_in hw_feedC 59 k = false ∧ x_in hw_feedC 88 k = false ∧ x_in hw_feedM 59 k = false ∧ x_in hw_feedM 88 k = false := by decide +kernel
      obtain ⟨t1, t2, t3, t4⟩ := q1 k hk
      rw [F2 59 k t3, F2 88 k t4, F1 59 k t1, F1 88 k t2]
      exact I.2.2.2.2 k hk
  refine aw_e rfl rfl rfl ?_
  refine aw_e rfl rfl rfl ?_
  exact K _ I
set_option maxRecDepth 100000 in
theorem l_1 {Ln : Nat} {xs : Nat → Int32} {i : Int32} (h0 : 0 ≤ i.toInt) (h1 : i.toInt ≤ 2044) (h2 : i.toInt + 4 ≤ Ln) (K : l_nx Ln xs i) {M : aM} (I : h_Inv M) : aw (wA, Ln, xs) 9 a_claw 247 [.ref a_scr, .ref 0, .ref a_mo, .int i] [] M l_Q := by
  refine aw_e rfl rfl rfl ?_
  refine aw_cm2 (fr := 8) (k := 0) rfl rfl (by decide) rfl (hx_kitC I.1 I.2.1) rfl (fun v M1 hu => ?_)
  obtain ⟨J1, D1, F1, n1, x1, rfl⟩ := hu
  refine aw_e rfl rfl rfl ?_
  refine aw_e rfl rfl rfl ?_
  refine aw_cm2 (fr := 8) (k := 0) rfl rfl (by decide) rfl (hm_kitchen0 J1 D1) rfl (fun v M2 hu => ?_)
  obtain ⟨J2, D2, F2, n2, x2, rfl⟩ := hu
  have I : h_Inv M2 := by
    refine ⟨J2, D2, ?_, ?_, fun k hk => ?_⟩
    · rw [F2 0 11 (by decide +kernel), F2 61 46 (by decide +kernel), F1 0 11 (by decide +kernel), F1 61 46 (by decide +kernel)]
      exact I.2.2.1
    · exact Int32.toInt_inj.mp (by rw [n2, F2 19 1 (by decide +kernel), n1])
    · have q1 : ∀ k, k < 12 → x_in hw_kitC 59 k = false ∧ x_in hw_kitC 88 k = false ∧ x_in h_wki 59 k = false ∧ x_in h_wki 88 k = false := by decide +kernel
      obtain ⟨t1, t2, t3, t4⟩ := q1 k hk
      rw [F2 59 k t3, F2 88 k t4, F1 59 k t1, F1 88 k t2]
      exact I.2.2.2.2 k hk
  refine aw_e rfl rfl rfl ?_
  refine aw_e rfl rfl rfl ?_
  exact K _ I
set_option maxRecDepth 100000 in
theorem l_2 {Ln : Nat} {xs : Nat → Int32} {i : Int32} (h0 : 0 ≤ i.toInt) (h1 : i.toInt ≤ 2044) (h2 : i.toInt + 4 ≤ Ln) (K : l_nx Ln xs i) {M : aM} (I : h_Inv M) : aw (wA, Ln, xs) 9 a_claw 260 [.ref a_scr, .ref 0, .ref a_mo, .int i] [] M l_Q := by
  refine aw_e rfl rfl rfl ?_
  refine aw_e rfl rfl rfl ?_
  refine aw_e rfl rfl rfl ?_
  refine aw_e rfl rfl rfl ?_
  refine aw_e rfl rfl rfl ?_
  refine aw_sl rfl (by rw [h_ix (by decide) h0 h1]; omega) (by rw [h_ix (by decide) h0 h1]; omega) ?_
  refine aw_e rfl rfl rfl ?_
  refine aw_e rfl rfl rfl ?_
  refine aw_e rfl rfl rfl ?_
  refine aw_e rfl rfl rfl ?_
  refine aw_sl rfl (by rw [h_ix (by decide) h0 h1]; omega) (by rw [h_ix (by decide) h0 h1]; omega) ?_
  refine aw_cm2 (fr := 8) (k := 0) rfl rfl (by decide) rfl (h_cl hc_thing (by decide +kernel) I (h_av2 0 _ _)) rfl (fun v M1 hu => ?_)
  obtain ⟨I, x1, rfl⟩ := hu
  refine aw_e rfl rfl rfl ?_
  refine aw_e rfl rfl rfl ?_
  refine aw_e rfl rfl rfl ?_
  refine aw_e rfl rfl rfl ?_
  refine aw_e rfl rfl rfl ?_
  refine aw_e rfl rfl rfl ?_
  refine aw_sl rfl (by rw [h_ix (by decide) h0 h1]; omega) (by rw [h_ix (by decide) h0 h1]; omega) ?_
  refine aw_e rfl rfl rfl ?_
  refine aw_e rfl rfl rfl ?_
  refine aw_e rfl rfl rfl ?_
  refine aw_e rfl rfl rfl ?_
  refine aw_sl rfl (by rw [h_ix (by decide) h0 h1]; omega) (by rw [h_ix (by decide) h0 h1]; omega) ?_
  refine aw_cm2 (fr := 8) (k := 0) rfl rfl (by decide) rfl (h_cl hm_thing (by decide +kernel) I (h_av2 61 _ _)) rfl (fun v M2 hu => ?_)
  obtain ⟨I, x2, rfl⟩ := hu
  refine aw_e rfl rfl rfl ?_
  refine aw_e rfl rfl rfl ?_
  exact K _ I
set_option maxRecDepth 100000 in
theorem l_3 {Ln : Nat} {xs : Nat → Int32} {i : Int32} (h0 : 0 ≤ i.toInt) (h1 : i.toInt ≤ 2044) (h2 : i.toInt + 4 ≤ Ln) (K : l_nx Ln xs i) {M : aM} (I : h_Inv M) : aw (wA, Ln, xs) 9 a_claw 293 [.ref a_scr, .ref 0, .ref a_mo, .int i] [] M l_Q := by
  refine aw_e rfl rfl rfl ?_
  refine aw_e rfl rfl rfl ?_
  refine aw_e rfl rfl rfl ?_
  refine aw_e rfl rfl rfl ?_
  refine aw_e rfl rfl rfl ?_
  refine aw_sl rfl (by rw [h_ix (by decide) h0 h1]; omega) (by rw [h_ix (by decide) h0 h1]; omega) ?_
  refine aw_e rfl rfl rfl ?_
  refine aw_e rfl rfl rfl ?_
  refine aw_e rfl rfl rfl ?_
  refine aw_e rfl rfl rfl ?_
  refine aw_sl rfl (by rw [h_ix (by decide) h0 h1]; omega) (by rw [h_ix (by decide) h0 h1]; omega) ?_
  refine aw_e rfl rfl rfl ?_
  refine aw_e rfl rfl rfl ?_
  refine aw_e rfl rfl rfl ?_
  refine aw_e rfl rfl rfl ?_
  refine aw_sl rfl (by rw [h_ix (by decide) h0 h1]; omega) (by rw [h_ix (by decide) h0 h1]; omega) ?_
  refine aw_cm2 (fr := 8) (k := 0) rfl rfl (by decide) rfl (h_cl hc_washing (by decide +kernel) I (h_av3 0 _ _ _)) rfl (fun v M1 hu => ?_)
  obtain ⟨I, x1, rfl⟩ := hu
  refine aw_e rfl rfl rfl ?_
  refine aw_e rfl rfl rfl ?_
  refine aw_e rfl rfl rfl ?_
  refine aw_e rfl rfl rfl ?_
  refine aw_e rfl rfl rfl ?_
  refine aw_e rfl rfl rfl ?_
  refine aw_sl rfl (by rw [h_ix (by decide) h0 h1]; omega) (by rw [h_ix (by decide) h0 h1]; omega) ?_
  refine aw_e rfl rfl rfl ?_
  refine aw_e rfl rfl rfl ?_
  refine aw_e rfl rfl rfl ?_
  refine aw_e rfl rfl rfl ?_
  refine aw_sl rfl (by rw [h_ix (by decide) h0 h1]; omega) (by rw [h_ix (by decide) h0 h1]; omega) ?_
  refine aw_e rfl rfl rfl ?_
  refine aw_e rfl rfl rfl ?_
  refine aw_e rfl rfl rfl ?_
  refine aw_e rfl rfl rfl ?_
  refine aw_sl rfl (by rw [h_ix (by decide) h0 h1]; omega) (by rw [h_ix (by decide) h0 h1]; omega) ?_
  refine aw_cm2 (fr := 8) (k := 0) rfl rfl (by decide) rfl (h_cl hm_washing (by decide +kernel) I (h_av3 61 _ _ _)) rfl (fun v M2 hu => ?_)
  obtain ⟨I, x2, rfl⟩ := hu
  refine aw_e rfl rfl rfl ?_
  refine aw_e rfl rfl rfl ?_
  exact K _ I
set_option maxRecDepth 100000 in
theorem l_4 {Ln : Nat} {xs : Nat → Int32} {i : Int32} (h0 : 0 ≤ i.toInt) (h1 : i.toInt ≤ 2044) (h2 : i.toInt + 4 ≤ Ln) (K : l_nx Ln xs i) {M : aM} (I : h_Inv M) : aw (wA, Ln, xs) 9 a_claw 336 [.ref a_scr, .ref 0, .ref a_mo, .int i] [] M l_Q := by
  refine aw_e rfl rfl rfl ?_
  refine aw_e rfl rfl rfl ?_
  refine aw_e rfl rfl rfl ?_
  refine aw_e rfl rfl rfl ?_
  refine aw_e rfl rfl rfl ?_
  refine aw_sl rfl (by rw [h_ix (by decide) h0 h1]; omega) (by rw [h_ix (by decide) h0 h1]; omega) ?_
  refine aw_e rfl rfl rfl ?_
  refine aw_e rfl rfl rfl ?_
  refine aw_e rfl rfl rfl ?_
  refine aw_e rfl rfl rfl ?_
  refine aw_sl rfl (by rw [h_ix (by decide) h0 h1]; omega) (by rw [h_ix (by decide) h0 h1]; omega) ?_
  refine aw_cm2 (fr := 8) (k := 0) rfl rfl (by decide) rfl (h_cl hc_set (by decide +kernel) I (h_av2 0 _ _)) rfl (fun v M1 hu => ?_)
  obtain ⟨I, x1, rfl⟩ := hu
  refine aw_e rfl rfl rfl ?_
  refine aw_e rfl rfl rfl ?_
  refine aw_e rfl rfl rfl ?_
  refine aw_e rfl rfl rfl ?_
  refine aw_e rfl rfl rfl ?_
  refine aw_e rfl rfl rfl ?_
  refine aw_sl rfl (by rw [h_ix (by decide) h0 h1]; omega) (by rw [h_ix (by decide) h0 h1]; omega) ?_
  refine aw_e rfl rfl rfl ?_
  refine aw_e rfl rfl rfl ?_
  refine aw_e rfl rfl rfl ?_
  refine aw_e rfl rfl rfl ?_
  refine aw_sl rfl (by rw [h_ix (by decide) h0 h1]; omega) (by rw [h_ix (by decide) h0 h1]; omega) ?_
  refine aw_cm2 (fr := 8) (k := 0) rfl rfl (by decide) rfl (h_cl hm_set (by decide +kernel) I (h_av2 61 _ _)) rfl (fun v M2 hu => ?_)
  obtain ⟨I, x2, rfl⟩ := hu
  refine aw_e rfl rfl rfl ?_
  refine aw_e rfl rfl rfl ?_
  exact K _ I
set_option maxRecDepth 100000 in
theorem l_5 {Ln : Nat} {xs : Nat → Int32} {i : Int32} (h0 : 0 ≤ i.toInt) (h1 : i.toInt ≤ 2044) (h2 : i.toInt + 4 ≤ Ln) (K : l_nx Ln xs i) {M : aM} (I : h_Inv M) : aw (wA, Ln, xs) 9 a_claw 369 [.ref a_scr, .ref 0, .ref a_mo, .int i] [] M l_Q := by
  refine aw_e rfl rfl rfl ?_
  refine aw_e rfl rfl rfl ?_
  refine aw_e rfl rfl rfl ?_
  refine aw_e rfl rfl rfl ?_
  refine aw_e rfl rfl rfl ?_
  refine aw_sl rfl (by rw [h_ix (by decide) h0 h1]; omega) (by rw [h_ix (by decide) h0 h1]; omega) ?_
  refine aw_cm2 (fr := 8) (k := 0) rfl rfl (by decide) rfl (h_cl hc_put (by decide +kernel) I (h_av1 0 _)) rfl (fun v M1 hu => ?_)
  obtain ⟨I, x1, rfl⟩ := hu
  refine aw_e rfl rfl rfl ?_
  refine aw_e rfl rfl rfl ?_
  refine aw_e rfl rfl rfl ?_
  refine aw_e rfl rfl rfl ?_
  refine aw_e rfl rfl rfl ?_
  refine aw_e rfl rfl rfl ?_
  refine aw_sl rfl (by rw [h_ix (by decide) h0 h1]; omega) (by rw [h_ix (by decide) h0 h1]; omega) ?_
  refine aw_cm2 (fr := 8) (k := 0) rfl rfl (by decide) rfl (h_cl hm_put (by decide +kernel) I (h_av1 61 _)) rfl (fun v M2 hu => ?_)
  obtain ⟨I, x2, rfl⟩ := hu
  refine aw_e rfl rfl rfl ?_
  refine aw_e rfl rfl rfl ?_
  exact K _ I
set_option maxRecDepth 100000 in
theorem l_6 {Ln : Nat} {xs : Nat → Int32} {i : Int32} (h0 : 0 ≤ i.toInt) (h1 : i.toInt ≤ 2044) (h2 : i.toInt + 4 ≤ Ln) (K : l_nx Ln xs i) {M : aM} (I : h_Inv M) : aw (wA, Ln, xs) 9 a_claw 392 [.ref a_scr, .ref 0, .ref a_mo, .int i] [] M l_Q := by
  refine aw_e rfl rfl rfl ?_
  refine aw_cm2 (fr := 8) (k := 0) rfl rfl (by decide) rfl (h_cl hc_take (by decide +kernel) I (h_av0 0)) rfl (fun v M1 hu => ?_)
  obtain ⟨I, x1, rfl⟩ := hu
  refine aw_e rfl rfl rfl ?_
  refine aw_e rfl rfl rfl ?_
  refine aw_cm2 (fr := 8) (k := 0) rfl rfl (by decide) rfl (h_cl hm_take (by decide +kernel) I (h_av0 61)) rfl (fun v M2 hu => ?_)
  obtain ⟨I, x2, rfl⟩ := hu
  refine aw_e rfl rfl rfl ?_
  refine aw_e rfl rfl rfl ?_
  exact K _ I
set_option maxRecDepth 100000 in
theorem l_7 {Ln : Nat} {xs : Nat → Int32} {i : Int32} (h0 : 0 ≤ i.toInt) (h1 : i.toInt ≤ 2044) (h2 : i.toInt + 4 ≤ Ln) (K : l_nx Ln xs i) {M : aM} (I : h_Inv M) : aw (wA, Ln, xs) 9 a_claw 405 [.ref a_scr, .ref 0, .ref a_mo, .int i] [] M l_Q := by
  refine aw_e rfl rfl rfl ?_
  refine aw_e rfl rfl rfl ?_
  refine aw_e rfl rfl rfl ?_
  refine aw_e rfl rfl rfl ?_
  refine aw_e rfl rfl rfl ?_
  refine aw_sl rfl (by rw [h_ix (by decide) h0 h1]; omega) (by rw [h_ix (by decide) h0 h1]; omega) ?_
  refine aw_cm2 (fr := 8) (k := 0) rfl rfl (by decide) rfl (h_cl hc_fresh (by decide +kernel) I (h_av1 0 _)) rfl (fun v M1 hu => ?_)
  obtain ⟨I, x1, rfl⟩ := hu
  refine aw_e rfl rfl rfl ?_
  refine aw_e rfl rfl rfl ?_
  refine aw_e rfl rfl rfl ?_
  refine aw_e rfl rfl rfl ?_
  refine aw_e rfl rfl rfl ?_
  refine aw_e rfl rfl rfl ?_
  refine aw_sl rfl (by rw [h_ix (by decide) h0 h1]; omega) (by rw [h_ix (by decide) h0 h1]; omega) ?_
  refine aw_cm2 (fr := 8) (k := 0) rfl rfl (by decide) rfl (h_cl hm_fresh (by decide +kernel) I (h_av1 61 _)) rfl (fun v M2 hu => ?_)
  obtain ⟨I, x2, rfl⟩ := hu
  refine aw_e rfl rfl rfl ?_
  refine aw_e rfl rfl rfl ?_
  exact K _ I
set_option maxRecDepth 100000 in
theorem l_8 {Ln : Nat} {xs : Nat → Int32} {i : Int32} (h0 : 0 ≤ i.toInt) (h1 : i.toInt ≤ 2044) (h2 : i.toInt + 4 ≤ Ln) (K : l_nx Ln xs i) {M : aM} (I : h_Inv M) : aw (wA, Ln, xs) 9 a_claw 428 [.ref a_scr, .ref 0, .ref a_mo, .int i] [] M l_Q := by
  refine aw_e rfl rfl rfl ?_
  refine aw_e rfl rfl rfl ?_
  refine aw_e rfl rfl rfl ?_
  refine aw_e rfl rfl rfl ?_
  refine aw_e rfl rfl rfl ?_
  refine aw_sl rfl (by rw [h_ix (by decide) h0 h1]; omega) (by rw [h_ix (by decide) h0 h1]; omega) ?_
  refine aw_e rfl rfl rfl ?_
  refine aw_e rfl rfl rfl ?_
  refine aw_e rfl rfl rfl ?_
  refine aw_e rfl rfl rfl ?_
  refine aw_sl rfl (by rw [h_ix (by decide) h0 h1]; omega) (by rw [h_ix (by decide) h0 h1]; omega) ?_
  refine aw_cm2 (fr := 8) (k := 0) rfl rfl (by decide) rfl (h_cl hc_place (by decide +kernel) I (h_av2 0 _ _)) rfl (fun v M1 hu => ?_)
  obtain ⟨I, x1, rfl⟩ := hu
  refine aw_e rfl rfl rfl ?_
  refine aw_e rfl rfl rfl ?_
  refine aw_e rfl rfl rfl ?_
  refine aw_e rfl rfl rfl ?_
  refine aw_e rfl rfl rfl ?_
  refine aw_e rfl rfl rfl ?_
  refine aw_sl rfl (by rw [h_ix (by decide) h0 h1]; omega) (by rw [h_ix (by decide) h0 h1]; omega) ?_
  refine aw_e rfl rfl rfl ?_
  refine aw_e rfl rfl rfl ?_
  refine aw_e rfl rfl rfl ?_
  refine aw_e rfl rfl rfl ?_
  refine aw_sl rfl (by rw [h_ix (by decide) h0 h1]; omega) (by rw [h_ix (by decide) h0 h1]; omega) ?_
  refine aw_cm2 (fr := 8) (k := 0) rfl rfl (by decide) rfl (h_cl hm_place (by decide +kernel) I (h_av2 61 _ _)) rfl (fun v M2 hu => ?_)
  obtain ⟨I, x2, rfl⟩ := hu
  refine aw_e rfl rfl rfl ?_
  refine aw_e rfl rfl rfl ?_
  exact K _ I
set_option maxRecDepth 100000 in
theorem l_9 {Ln : Nat} {xs : Nat → Int32} {i : Int32} (h0 : 0 ≤ i.toInt) (h1 : i.toInt ≤ 2044) (h2 : i.toInt + 4 ≤ Ln) (K : l_nx Ln xs i) {M : aM} (I : h_Inv M) : aw (wA, Ln, xs) 9 a_claw 461 [.ref a_scr, .ref 0, .ref a_mo, .int i] [] M l_Q := by
  refine aw_e rfl rfl rfl ?_
  refine aw_cm2 (fr := 8) (k := 0) rfl rfl (by decide) rfl (h_cl hc_clear (by decide +kernel) I (h_av0 0)) rfl (fun v M1 hu => ?_)
  obtain ⟨I, x1, rfl⟩ := hu
  refine aw_e rfl rfl rfl ?_
  refine aw_e rfl rfl rfl ?_
  refine aw_cm2 (fr := 8) (k := 0) rfl rfl (by decide) rfl (h_cl hm_clear (by decide +kernel) I (h_av0 61)) rfl (fun v M2 hu => ?_)
  obtain ⟨I, x2, rfl⟩ := hu
  refine aw_e rfl rfl rfl ?_
  refine aw_e rfl rfl rfl ?_
  exact K _ I
set_option maxRecDepth 100000 in
theorem l_10 {Ln : Nat} {xs : Nat → Int32} {i : Int32} (h0 : 0 ≤ i.toInt) (h1 : i.toInt ≤ 2044) (h2 : i.toInt + 4 ≤ Ln) (K : l_nx Ln xs i) {M : aM} (I : h_Inv M) : aw (wA, Ln, xs) 9 a_claw 474 [.ref a_scr, .ref 0, .ref a_mo, .int i] [] M l_Q := by
  refine aw_e rfl rfl rfl ?_
  refine aw_cm2 (fr := 8) (k := 0) rfl rfl (by decide) rfl (h_cl hc_may (by decide +kernel) I (h_av0 0)) rfl (fun v M1 hu => ?_)
  obtain ⟨I, x1, rfl⟩ := hu
  refine aw_e rfl rfl rfl ?_
  refine aw_e rfl rfl rfl ?_
  refine aw_cm2 (fr := 8) (k := 0) rfl rfl (by decide) rfl (h_cl hm_may (by decide +kernel) I (h_av0 61)) rfl (fun v M2 hu => ?_)
  obtain ⟨I, x2, rfl⟩ := hu
  refine aw_e rfl rfl rfl ?_
  refine aw_e rfl rfl rfl ?_
  exact K _ I
set_option maxRecDepth 100000 in
theorem l_11 {Ln : Nat} {xs : Nat → Int32} {i : Int32} (h0 : 0 ≤ i.toInt) (h1 : i.toInt ≤ 2044) (h2 : i.toInt + 4 ≤ Ln) (K : l_nx Ln xs i) {M : aM} (I : h_Inv M) : aw (wA, Ln, xs) 9 a_claw 487 [.ref a_scr, .ref 0, .ref a_mo, .int i] [] M l_Q := by
  refine aw_e rfl rfl rfl ?_
  refine aw_e rfl rfl rfl ?_
  refine aw_e rfl rfl rfl ?_
  refine aw_e rfl rfl rfl ?_
  refine aw_e rfl rfl rfl ?_
  refine aw_sl rfl (by rw [h_ix (by decide) h0 h1]; omega) (by rw [h_ix (by decide) h0 h1]; omega) ?_
  refine aw_e rfl rfl rfl ?_
  refine aw_e rfl rfl rfl ?_
  refine aw_e rfl rfl rfl ?_
  refine aw_e rfl rfl rfl ?_
  refine aw_sl rfl (by rw [h_ix (by decide) h0 h1]; omega) (by rw [h_ix (by decide) h0 h1]; omega) ?_
  refine aw_cm2 (fr := 8) (k := 0) rfl rfl (by decide) rfl (h_cl hc_when (by decide +kernel) I (h_av2 0 _ _)) rfl (fun v M1 hu => ?_)
  obtain ⟨I, x1, rfl⟩ := hu
  refine aw_e rfl rfl rfl ?_
  refine aw_e rfl rfl rfl ?_
  refine aw_e rfl rfl rfl ?_
  refine aw_e rfl rfl rfl ?_
  refine aw_e rfl rfl rfl ?_
  refine aw_e rfl rfl rfl ?_
  refine aw_sl rfl (by rw [h_ix (by decide) h0 h1]; omega) (by rw [h_ix (by decide) h0 h1]; omega) ?_
  refine aw_e rfl rfl rfl ?_
  refine aw_e rfl rfl rfl ?_
  refine aw_e rfl rfl rfl ?_
  refine aw_e rfl rfl rfl ?_
  refine aw_sl rfl (by rw [h_ix (by decide) h0 h1]; omega) (by rw [h_ix (by decide) h0 h1]; omega) ?_
  refine aw_cm2 (fr := 8) (k := 0) rfl rfl (by decide) rfl (h_cl hm_when (by decide +kernel) I (h_av2 61 _ _)) rfl (fun v M2 hu => ?_)
  obtain ⟨I, x2, rfl⟩ := hu
  refine aw_e rfl rfl rfl ?_
  refine aw_e rfl rfl rfl ?_
  exact K _ I
set_option maxRecDepth 100000 in
theorem l_12 {Ln : Nat} {xs : Nat → Int32} {i : Int32} (h0 : 0 ≤ i.toInt) (h1 : i.toInt ≤ 2044) (h2 : i.toInt + 4 ≤ Ln) (K : l_nx Ln xs i) {M : aM} (I : h_Inv M) : aw (wA, Ln, xs) 9 a_claw 520 [.ref a_scr, .ref 0, .ref a_mo, .int i] [] M l_Q := by
  refine aw_e rfl rfl rfl ?_
  refine aw_cm2 (fr := 8) (k := 0) rfl rfl (by decide) rfl (h_cl hc_through (by decide +kernel) I (h_av0 0)) rfl (fun v M1 hu => ?_)
  obtain ⟨I, x1, rfl⟩ := hu
  refine aw_e rfl rfl rfl ?_
  refine aw_e rfl rfl rfl ?_
  refine aw_cm2 (fr := 8) (k := 0) rfl rfl (by decide) rfl (h_cl hm_through (by decide +kernel) I (h_av0 61)) rfl (fun v M2 hu => ?_)
  obtain ⟨I, x2, rfl⟩ := hu
  refine aw_e rfl rfl rfl ?_
  refine aw_e rfl rfl rfl ?_
  exact K _ I
set_option maxRecDepth 100000 in
theorem l_13 {Ln : Nat} {xs : Nat → Int32} {i : Int32} (h0 : 0 ≤ i.toInt) (h1 : i.toInt ≤ 2044) (h2 : i.toInt + 4 ≤ Ln) (K : l_nx Ln xs i) {M : aM} (I : h_Inv M) : aw (wA, Ln, xs) 9 a_claw 533 [.ref a_scr, .ref 0, .ref a_mo, .int i] [] M l_Q := by
  refine aw_e rfl rfl rfl ?_
  refine aw_e rfl rfl rfl ?_
  refine aw_e rfl rfl rfl ?_
  refine aw_e rfl rfl rfl ?_
  refine aw_e rfl rfl rfl ?_
  refine aw_sl rfl (by rw [h_ix (by decide) h0 h1]; omega) (by rw [h_ix (by decide) h0 h1]; omega) ?_
  refine aw_cm2 (fr := 8) (k := 0) rfl rfl (by decide) rfl (h_cl hc_waits (by decide +kernel) I (h_av1 0 _)) rfl (fun v M1 hu => ?_)
  obtain ⟨I, x1, rfl⟩ := hu
  refine aw_e rfl rfl rfl ?_
  refine aw_e rfl rfl rfl ?_
  refine aw_e rfl rfl rfl ?_
  refine aw_e rfl rfl rfl ?_
  refine aw_e rfl rfl rfl ?_
  refine aw_e rfl rfl rfl ?_
  refine aw_sl rfl (by rw [h_ix (by decide) h0 h1]; omega) (by rw [h_ix (by decide) h0 h1]; omega) ?_
  refine aw_cm2 (fr := 8) (k := 0) rfl rfl (by decide) rfl (h_cl hm_waits (by decide +kernel) I (h_av1 61 _)) rfl (fun v M2 hu => ?_)
  obtain ⟨I, x2, rfl⟩ := hu
  refine aw_e rfl rfl rfl ?_
  refine aw_e rfl rfl rfl ?_
  exact K _ I
set_option maxRecDepth 100000 in
theorem l_14 {Ln : Nat} {xs : Nat → Int32} {i : Int32} (h0 : 0 ≤ i.toInt) (h1 : i.toInt ≤ 2044) (h2 : i.toInt + 4 ≤ Ln) (K : l_nx Ln xs i) {M : aM} (I : h_Inv M) : aw (wA, Ln, xs) 9 a_claw 556 [.ref a_scr, .ref 0, .ref a_mo, .int i] [] M l_Q := by
  refine aw_e rfl rfl rfl ?_
  refine aw_e rfl rfl rfl ?_
  refine aw_e rfl rfl rfl ?_
  refine aw_e rfl rfl rfl ?_
  refine aw_e rfl rfl rfl ?_
  refine aw_sl rfl (by rw [h_ix (by decide) h0 h1]; omega) (by rw [h_ix (by decide) h0 h1]; omega) ?_
  refine aw_cm2 (fr := 8) (k := 0) rfl rfl (by decide) rfl (h_cl hc_wet (by decide +kernel) I (h_av1 0 _)) rfl (fun v M1 hu => ?_)
  obtain ⟨I, x1, rfl⟩ := hu
  refine aw_e rfl rfl rfl ?_
  refine aw_e rfl rfl rfl ?_
  refine aw_e rfl rfl rfl ?_
  refine aw_e rfl rfl rfl ?_
  refine aw_e rfl rfl rfl ?_
  refine aw_e rfl rfl rfl ?_
  refine aw_sl rfl (by rw [h_ix (by decide) h0 h1]; omega) (by rw [h_ix (by decide) h0 h1]; omega) ?_
  refine aw_cm2 (fr := 8) (k := 0) rfl rfl (by decide) rfl (h_cl hm_wet (by decide +kernel) I (h_av1 61 _)) rfl (fun v M2 hu => ?_)
  obtain ⟨I, x2, rfl⟩ := hu
  refine aw_e rfl rfl rfl ?_
  refine aw_e rfl rfl rfl ?_
  exact K _ I
set_option maxRecDepth 100000 in
theorem l_15 {Ln : Nat} {xs : Nat → Int32} {i : Int32} (h0 : 0 ≤ i.toInt) (h1 : i.toInt ≤ 2044) (h2 : i.toInt + 4 ≤ Ln) (K : l_nx Ln xs i) {M : aM} (I : h_Inv M) : aw (wA, Ln, xs) 9 a_claw 579 [.ref a_scr, .ref 0, .ref a_mo, .int i] [] M l_Q := by
  refine aw_e rfl rfl rfl ?_
  refine aw_e rfl rfl rfl ?_
  refine aw_e rfl rfl rfl ?_
  refine aw_e rfl rfl rfl ?_
  refine aw_e rfl rfl rfl ?_
  refine aw_sl rfl (by rw [h_ix (by decide) h0 h1]; omega) (by rw [h_ix (by decide) h0 h1]; omega) ?_
  refine aw_cm2 (fr := 8) (k := 0) rfl rfl (by decide) rfl (h_cl hc_hands (by decide +kernel) I (h_av1 0 _)) rfl (fun v M1 hu => ?_)
  obtain ⟨I, x1, rfl⟩ := hu
  refine aw_e rfl rfl rfl ?_
  refine aw_e rfl rfl rfl ?_
  refine aw_e rfl rfl rfl ?_
  refine aw_e rfl rfl rfl ?_
  refine aw_e rfl rfl rfl ?_
  refine aw_e rfl rfl rfl ?_
  refine aw_sl rfl (by rw [h_ix (by decide) h0 h1]; omega) (by rw [h_ix (by decide) h0 h1]; omega) ?_
  refine aw_cm2 (fr := 8) (k := 0) rfl rfl (by decide) rfl (h_cl hm_hands (by decide +kernel) I (h_av1 61 _)) rfl (fun v M2 hu => ?_)
  obtain ⟨I, x2, rfl⟩ := hu
  refine aw_e rfl rfl rfl ?_
  refine aw_e rfl rfl rfl ?_
  exact K _ I
set_option maxRecDepth 100000 in
theorem l_16 {Ln : Nat} {xs : Nat → Int32} {i : Int32} (h0 : 0 ≤ i.toInt) (h1 : i.toInt ≤ 2044) (h2 : i.toInt + 4 ≤ Ln) (K : l_nx Ln xs i) {M : aM} (I : h_Inv M) : aw (wA, Ln, xs) 9 a_claw 602 [.ref a_scr, .ref 0, .ref a_mo, .int i] [] M l_Q := by
  refine aw_e rfl rfl rfl ?_
  refine aw_e rfl rfl rfl ?_
  refine aw_e rfl rfl rfl ?_
  refine aw_e rfl rfl rfl ?_
  refine aw_e rfl rfl rfl ?_
  refine aw_sl rfl (by rw [h_ix (by decide) h0 h1]; omega) (by rw [h_ix (by decide) h0 h1]; omega) ?_
  refine aw_cm2 (fr := 8) (k := 0) rfl rfl (by decide) rfl (h_cl hc_soonest (by decide +kernel) I (h_av1 0 _)) rfl (fun v M1 hu => ?_)
  obtain ⟨I, x1, rfl⟩ := hu
  refine aw_e rfl rfl rfl ?_
  refine aw_e rfl rfl rfl ?_
  refine aw_e rfl rfl rfl ?_
  refine aw_e rfl rfl rfl ?_
  refine aw_e rfl rfl rfl ?_
  refine aw_e rfl rfl rfl ?_
  refine aw_sl rfl (by rw [h_ix (by decide) h0 h1]; omega) (by rw [h_ix (by decide) h0 h1]; omega) ?_
  refine aw_cm2 (fr := 8) (k := 0) rfl rfl (by decide) rfl (h_cl hm_soonest (by decide +kernel) I (h_av1 61 _)) rfl (fun v M2 hu => ?_)
  obtain ⟨I, x2, rfl⟩ := hu
  refine aw_e rfl rfl rfl ?_
  refine aw_e rfl rfl rfl ?_
  exact K _ I
set_option maxRecDepth 100000 in
theorem l_17 {Ln : Nat} {xs : Nat → Int32} {i : Int32} (h0 : 0 ≤ i.toInt) (h1 : i.toInt ≤ 2044) (h2 : i.toInt + 4 ≤ Ln) (K : l_nx Ln xs i) {M : aM} (I : h_Inv M) : aw (wA, Ln, xs) 9 a_claw 625 [.ref a_scr, .ref 0, .ref a_mo, .int i] [] M l_Q := by
  refine aw_e rfl rfl rfl ?_
  refine aw_e rfl rfl rfl ?_
  refine aw_e rfl rfl rfl ?_
  refine aw_e rfl rfl rfl ?_
  refine aw_e rfl rfl rfl ?_
  refine aw_sl rfl (by rw [h_ix (by decide) h0 h1]; omega) (by rw [h_ix (by decide) h0 h1]; omega) ?_
  refine aw_cm2 (fr := 8) (k := 0) rfl rfl (by decide) rfl (h_cl hc_rack (by decide +kernel) I (h_av1 0 _)) rfl (fun v M1 hu => ?_)
  obtain ⟨I, x1, rfl⟩ := hu
  refine aw_e rfl rfl rfl ?_
  refine aw_e rfl rfl rfl ?_
  refine aw_e rfl rfl rfl ?_
  refine aw_e rfl rfl rfl ?_
  refine aw_e rfl rfl rfl ?_
  refine aw_e rfl rfl rfl ?_
  refine aw_sl rfl (by rw [h_ix (by decide) h0 h1]; omega) (by rw [h_ix (by decide) h0 h1]; omega) ?_
  refine aw_cm2 (fr := 8) (k := 0) rfl rfl (by decide) rfl (h_cl hm_rack (by decide +kernel) I (h_av1 61 _)) rfl (fun v M2 hu => ?_)
  obtain ⟨I, x2, rfl⟩ := hu
  refine aw_e rfl rfl rfl ?_
  refine aw_e rfl rfl rfl ?_
  exact K _ I
set_option maxRecDepth 100000 in
theorem l_18 {Ln : Nat} {xs : Nat → Int32} {i : Int32} (h0 : 0 ≤ i.toInt) (h1 : i.toInt ≤ 2044) (h2 : i.toInt + 4 ≤ Ln) (K : l_nx Ln xs i) {M : aM} (I : h_Inv M) : aw (wA, Ln, xs) 9 a_claw 648 [.ref a_scr, .ref 0, .ref a_mo, .int i] [] M l_Q := by
  refine aw_e rfl rfl rfl ?_
  refine aw_e rfl rfl rfl ?_
  refine aw_e rfl rfl rfl ?_
  refine aw_e rfl rfl rfl ?_
  refine aw_e rfl rfl rfl ?_
  refine aw_sl rfl (by rw [h_ix (by decide) h0 h1]; omega) (by rw [h_ix (by decide) h0 h1]; omega) ?_
  refine aw_cm2 (fr := 8) (k := 0) rfl rfl (by decide) rfl (h_cl hc_water (by decide +kernel) I (h_av1 0 _)) rfl (fun v M1 hu => ?_)
  obtain ⟨I, x1, rfl⟩ := hu
  refine aw_e rfl rfl rfl ?_
  refine aw_e rfl rfl rfl ?_
  refine aw_e rfl rfl rfl ?_
  refine aw_e rfl rfl rfl ?_
  refine aw_e rfl rfl rfl ?_
  refine aw_e rfl rfl rfl ?_
  refine aw_sl rfl (by rw [h_ix (by decide) h0 h1]; omega) (by rw [h_ix (by decide) h0 h1]; omega) ?_
  refine aw_cm2 (fr := 8) (k := 0) rfl rfl (by decide) rfl (h_cl hm_water (by decide +kernel) I (h_av1 61 _)) rfl (fun v M2 hu => ?_)
  obtain ⟨I, x2, rfl⟩ := hu
  refine aw_e rfl rfl rfl ?_
  refine aw_e rfl rfl rfl ?_
  exact K _ I
set_option maxRecDepth 100000 in
theorem l_19 {Ln : Nat} {xs : Nat → Int32} {i : Int32} (h0 : 0 ≤ i.toInt) (h1 : i.toInt ≤ 2044) (h2 : i.toInt + 4 ≤ Ln) (K : l_nx Ln xs i) {M : aM} (I : h_Inv M) : aw (wA, Ln, xs) 9 a_claw 671 [.ref a_scr, .ref 0, .ref a_mo, .int i] [] M l_Q := by
  refine aw_e rfl rfl rfl ?_
  refine aw_cm2 (fr := 8) (k := 0) rfl rfl (by decide) rfl (h_cl hc_cloths (by decide +kernel) I (h_av0 0)) rfl (fun v M1 hu => ?_)
  obtain ⟨I, x1, rfl⟩ := hu
  refine aw_e rfl rfl rfl ?_
  refine aw_e rfl rfl rfl ?_
  refine aw_cm2 (fr := 8) (k := 0) rfl rfl (by decide) rfl (h_cl hm_cloths (by decide +kernel) I (h_av0 61)) rfl (fun v M2 hu => ?_)
  obtain ⟨I, x2, rfl⟩ := hu
  refine aw_e rfl rfl rfl ?_
  refine aw_e rfl rfl rfl ?_
  exact K _ I
set_option maxRecDepth 100000 in
theorem l_20 {Ln : Nat} {xs : Nat → Int32} {i : Int32} (h0 : 0 ≤ i.toInt) (h1 : i.toInt ≤ 2044) (h2 : i.toInt + 4 ≤ Ln) (K : l_nx Ln xs i) {M : aM} (I : h_Inv M) : aw (wA, Ln, xs) 9 a_claw 684 [.ref a_scr, .ref 0, .ref a_mo, .int i] [] M l_Q := by
  refine aw_e rfl rfl rfl ?_
  refine aw_cm2 (fr := 8) (k := 0) rfl rfl (by decide) rfl (h_cl hc_changed (by decide +kernel) I (h_av0 0)) rfl (fun v M1 hu => ?_)
  obtain ⟨I, x1, rfl⟩ := hu
  refine aw_e rfl rfl rfl ?_
  refine aw_e rfl rfl rfl ?_
  refine aw_cm2 (fr := 8) (k := 0) rfl rfl (by decide) rfl (h_cl hm_changed (by decide +kernel) I (h_av0 61)) rfl (fun v M2 hu => ?_)
  obtain ⟨I, x2, rfl⟩ := hu
  refine aw_e rfl rfl rfl ?_
  refine aw_e rfl rfl rfl ?_
  exact K _ I
set_option maxRecDepth 100000 in
theorem l_21 {Ln : Nat} {xs : Nat → Int32} {i : Int32} (h0 : 0 ≤ i.toInt) (h1 : i.toInt ≤ 2044) (h2 : i.toInt + 4 ≤ Ln) (K : l_nx Ln xs i) {M : aM} (I : h_Inv M) : aw (wA, Ln, xs) 9 a_claw 697 [.ref a_scr, .ref 0, .ref a_mo, .int i] [] M l_Q := by
  refine aw_e rfl rfl rfl ?_
  refine aw_e rfl rfl rfl ?_
  refine aw_e rfl rfl rfl ?_
  refine aw_e rfl rfl rfl ?_
  refine aw_e rfl rfl rfl ?_
  refine aw_sl rfl (by rw [h_ix (by decide) h0 h1]; omega) (by rw [h_ix (by decide) h0 h1]; omega) ?_
  refine aw_cm2 (fr := 8) (k := 0) rfl rfl (by decide) rfl (h_cl hc_where (by decide +kernel) I (h_av1 0 _)) rfl (fun v M1 hu => ?_)
  obtain ⟨I, x1, rfl⟩ := hu
  refine aw_e rfl rfl rfl ?_
  refine aw_e rfl rfl rfl ?_
  refine aw_e rfl rfl rfl ?_
  refine aw_e rfl rfl rfl ?_
  refine aw_e rfl rfl rfl ?_
  refine aw_e rfl rfl rfl ?_
  refine aw_sl rfl (by rw [h_ix (by decide) h0 h1]; omega) (by rw [h_ix (by decide) h0 h1]; omega) ?_
  refine aw_cm2 (fr := 8) (k := 0) rfl rfl (by decide) rfl (h_cl hm_where (by decide +kernel) I (h_av1 61 _)) rfl (fun v M2 hu => ?_)
  obtain ⟨I, x2, rfl⟩ := hu
  refine aw_e rfl rfl rfl ?_
  refine aw_e rfl rfl rfl ?_
  exact K _ I
set_option maxRecDepth 100000 in
theorem l_22 {Ln : Nat} {xs : Nat → Int32} {i : Int32} (h0 : 0 ≤ i.toInt) (h1 : i.toInt ≤ 2044) (h2 : i.toInt + 4 ≤ Ln) (K : l_nx Ln xs i) {M : aM} (I : h_Inv M) : aw (wA, Ln, xs) 9 a_claw 720 [.ref a_scr, .ref 0, .ref a_mo, .int i] [] M l_Q := by
  refine aw_e rfl rfl rfl ?_
  refine aw_cm2 (fr := 8) (k := 0) rfl rfl (by decide) rfl (h_cl hc_either (by decide +kernel) I (h_av0 0)) rfl (fun v M1 hu => ?_)
  obtain ⟨I, x1, rfl⟩ := hu
  refine aw_e rfl rfl rfl ?_
  refine aw_e rfl rfl rfl ?_
  refine aw_cm2 (fr := 8) (k := 0) rfl rfl (by decide) rfl (h_cl hm_either (by decide +kernel) I (h_av0 61)) rfl (fun v M2 hu => ?_)
  obtain ⟨I, x2, rfl⟩ := hu
  refine aw_e rfl rfl rfl ?_
  refine aw_e rfl rfl rfl ?_
  exact K _ I
set_option maxRecDepth 100000 in
theorem l_23 {Ln : Nat} {xs : Nat → Int32} {i : Int32} (h0 : 0 ≤ i.toInt) (h1 : i.toInt ≤ 2044) (h2 : i.toInt + 4 ≤ Ln) (K : l_nx Ln xs i) {M : aM} (I : h_Inv M) : aw (wA, Ln, xs) 9 a_claw 733 [.ref a_scr, .ref 0, .ref a_mo, .int i] [] M l_Q := by
  refine aw_e rfl rfl rfl ?_
  refine aw_e rfl rfl rfl ?_
  refine aw_e rfl rfl rfl ?_
  refine aw_e rfl rfl rfl ?_
  refine aw_e rfl rfl rfl ?_
  refine aw_sl rfl (by rw [h_ix (by decide) h0 h1]; omega) (by rw [h_ix (by decide) h0 h1]; omega) ?_
  refine aw_cm2 (fr := 8) (k := 0) rfl rfl (by decide) rfl (h_cl hc_alone (by decide +kernel) I (h_av1 0 _)) rfl (fun v M1 hu => ?_)
  obtain ⟨I, x1, rfl⟩ := hu
  refine aw_e rfl rfl rfl ?_
  refine aw_e rfl rfl rfl ?_
  refine aw_e rfl rfl rfl ?_
  refine aw_e rfl rfl rfl ?_
  refine aw_e rfl rfl rfl ?_
  refine aw_e rfl rfl rfl ?_
  refine aw_sl rfl (by rw [h_ix (by decide) h0 h1]; omega) (by rw [h_ix (by decide) h0 h1]; omega) ?_
  refine aw_cm2 (fr := 8) (k := 0) rfl rfl (by decide) rfl (h_cl hm_alone (by decide +kernel) I (h_av1 61 _)) rfl (fun v M2 hu => ?_)
  obtain ⟨I, x2, rfl⟩ := hu
  refine aw_e rfl rfl rfl ?_
  refine aw_e rfl rfl rfl ?_
  exact K _ I
set_option maxRecDepth 100000 in
theorem l_24 {Ln : Nat} {xs : Nat → Int32} {i : Int32} (h0 : 0 ≤ i.toInt) (h1 : i.toInt ≤ 2044) (h2 : i.toInt + 4 ≤ Ln) (K : l_nx Ln xs i) {M : aM} (I : h_Inv M) : aw (wA, Ln, xs) 9 a_claw 756 [.ref a_scr, .ref 0, .ref a_mo, .int i] [] M l_Q := by
  refine aw_e rfl rfl rfl ?_
  refine aw_cm2 (fr := 8) (k := 0) rfl rfl (by decide) rfl (h_cl hc_third (by decide +kernel) I (h_av0 0)) rfl (fun v M1 hu => ?_)
  obtain ⟨I, x1, rfl⟩ := hu
  refine aw_e rfl rfl rfl ?_
  refine aw_e rfl rfl rfl ?_
  refine aw_cm2 (fr := 8) (k := 0) rfl rfl (by decide) rfl (h_cl hm_third (by decide +kernel) I (h_av0 61)) rfl (fun v M2 hu => ?_)
  obtain ⟨I, x2, rfl⟩ := hu
  refine aw_e rfl rfl rfl ?_
  refine aw_e rfl rfl rfl ?_
  exact K _ I
set_option maxRecDepth 100000 in
theorem l_25 {Ln : Nat} {xs : Nat → Int32} {i : Int32} (h0 : 0 ≤ i.toInt) (h1 : i.toInt ≤ 2044) (h2 : i.toInt + 4 ≤ Ln) (K : l_nx Ln xs i) {M : aM} (I : h_Inv M) : aw (wA, Ln, xs) 9 a_claw 769 [.ref a_scr, .ref 0, .ref a_mo, .int i] [] M l_Q := by
  refine aw_e rfl rfl rfl ?_
  refine aw_e rfl rfl rfl ?_
  refine aw_e rfl rfl rfl ?_
  refine aw_e rfl rfl rfl ?_
  refine aw_e rfl rfl rfl ?_
  refine aw_sl rfl (by rw [h_ix (by decide) h0 h1]; omega) (by rw [h_ix (by decide) h0 h1]; omega) ?_
  refine aw_cm2 (fr := 8) (k := 0) rfl rfl (by decide) rfl (am_and (hc_week Ln xs M _ I.1 I.2.1 (h_av1 0 (xs (i + Int32.ofInt 1).toInt.toNat))) (k_C I.1 (xs (i + Int32.ofInt 1).toInt.toNat))) rfl (fun v M1 hu => ?_)
  obtain ⟨⟨J1, D1, F1, x1, rfl⟩, hx1⟩ := hu
  refine aw_e rfl rfl rfl ?_
  refine aw_e rfl rfl rfl ?_
  refine aw_e rfl rfl rfl ?_
  refine aw_e rfl rfl rfl ?_
  refine aw_e rfl rfl rfl ?_
  refine aw_sl rfl (by rw [h_ix (by decide) h0 h1]; omega) (by rw [h_ix (by decide) h0 h1]; omega) ?_
  refine aw_cm2 (fr := 8) (k := 0) rfl rfl (by decide) rfl (am_and (hm_week Ln xs M1 _ J1 D1 (h_av1 61 (xs (i + Int32.ofInt 1).toInt.toNat))) (k_M J1 (xs (i + Int32.ofInt 1).toInt.toNat))) rfl (fun v M2 hu => ?_)
  obtain ⟨⟨J2, D2, F2, x2, rfl⟩, hx2⟩ := hu
  have er : x1.toInt = x2.toInt := by
    have e1 := Value.int.inj (Option.some.inj hx1)
    have e2 := Value.int.inj (Option.some.inj hx2)
    rw [e1, e2, F1 61 46 (by decide +kernel), I.2.2.1]
    rw [k_ansc (g := fun k => M1 88 k) (fun k hk => ?_)]
    have hq : ∀ k, k < 12 → x_in [(54, 0, 2), (60, 2, 4)] 88 k = false := by decide +kernel
    show M 59 k = M1 88 k
    rw [F1 88 k (hq k (by omega)), I.2.2.2.2 k (by omega)]
  have I : h_Inv M2 := ⟨J2, D2, h_fre_ok F2 (by decide +kernel) (h_fre_ok F1 (by decide +kernel) I.2.2)⟩
  refine aw_i2t rfl (decide_eq_true (Int32.toInt_inj.mp (by omega))) ?_
  exact K _ I
set_option maxRecDepth 100000 in
theorem l_26 {Ln : Nat} {xs : Nat → Int32} {i : Int32} (h0 : 0 ≤ i.toInt) (h1 : i.toInt ≤ 2044) (h2 : i.toInt + 4 ≤ Ln) (K : l_nx Ln xs i) {M : aM} (I : h_Inv M) : aw (wA, Ln, xs) 9 a_claw 792 [.ref a_scr, .ref 0, .ref a_mo, .int i] [] M l_Q := by
  refine aw_e rfl rfl rfl ?_
  refine aw_e rfl rfl rfl ?_
  refine aw_e rfl rfl rfl ?_
  refine aw_e rfl rfl rfl ?_
  refine aw_e rfl rfl rfl ?_
  refine aw_sl rfl (by rw [h_ix (by decide) h0 h1]; omega) (by rw [h_ix (by decide) h0 h1]; omega) ?_
  refine aw_e rfl rfl rfl ?_
  refine aw_e rfl rfl rfl ?_
  refine aw_e rfl rfl rfl ?_
  refine aw_e rfl rfl rfl ?_
  refine aw_sl rfl (by rw [h_ix (by decide) h0 h1]; omega) (by rw [h_ix (by decide) h0 h1]; omega) ?_
  refine aw_cm2 (fr := 8) (k := 0) rfl rfl (by decide) rfl (h_cl hc_rule (by decide +kernel) I (h_av2 0 _ _)) rfl (fun v M1 hu => ?_)
  obtain ⟨I, x1, rfl⟩ := hu
  refine aw_e rfl rfl rfl ?_
  refine aw_e rfl rfl rfl ?_
  refine aw_e rfl rfl rfl ?_
  refine aw_e rfl rfl rfl ?_
  refine aw_e rfl rfl rfl ?_
  refine aw_e rfl rfl rfl ?_
  refine aw_sl rfl (by rw [h_ix (by decide) h0 h1]; omega) (by rw [h_ix (by decide) h0 h1]; omega) ?_
  refine aw_e rfl rfl rfl ?_
  refine aw_e rfl rfl rfl ?_
  refine aw_e rfl rfl rfl ?_
  refine aw_e rfl rfl rfl ?_
  refine aw_sl rfl (by rw [h_ix (by decide) h0 h1]; omega) (by rw [h_ix (by decide) h0 h1]; omega) ?_
  refine aw_cm2 (fr := 8) (k := 0) rfl rfl (by decide) rfl (h_cl hm_rule (by decide +kernel) I (h_av2 61 _ _)) rfl (fun v M2 hu => ?_)
  obtain ⟨I, x2, rfl⟩ := hu
  refine aw_e rfl rfl rfl ?_
  refine aw_e rfl rfl rfl ?_
  exact K _ I
set_option maxRecDepth 100000 in
theorem l_27 {Ln : Nat} {xs : Nat → Int32} {i : Int32} (h0 : 0 ≤ i.toInt) (h1 : i.toInt ≤ 2044) (h2 : i.toInt + 4 ≤ Ln) (K : l_nx Ln xs i) {M : aM} (I : h_Inv M) : aw (wA, Ln, xs) 9 a_claw 825 [.ref a_scr, .ref 0, .ref a_mo, .int i] [] M l_Q := by
  refine aw_e rfl rfl rfl ?_
  refine aw_cm2 (fr := 8) (k := 0) rfl rfl (by decide) rfl (h_cl hc_best (by decide +kernel) I (h_av0 0)) rfl (fun v M1 hu => ?_)
  obtain ⟨I, x1, rfl⟩ := hu
  refine aw_e rfl rfl rfl ?_
  refine aw_e rfl rfl rfl ?_
  refine aw_cm2 (fr := 8) (k := 0) rfl rfl (by decide) rfl (h_cl hm_best (by decide +kernel) I (h_av0 61)) rfl (fun v M2 hu => ?_)
  obtain ⟨I, x2, rfl⟩ := hu
  refine aw_e rfl rfl rfl ?_
  refine aw_e rfl rfl rfl ?_
  exact K _ I
set_option maxRecDepth 100000 in
theorem l_28 {Ln : Nat} {xs : Nat → Int32} {i : Int32} (h0 : 0 ≤ i.toInt) (h1 : i.toInt ≤ 2044) (h2 : i.toInt + 4 ≤ Ln) (K : l_nx Ln xs i) {M : aM} (I : h_Inv M) : aw (wA, Ln, xs) 9 a_claw 838 [.ref a_scr, .ref 0, .ref a_mo, .int i] [] M l_Q := by
  refine aw_e rfl rfl rfl ?_
  refine aw_e rfl rfl rfl ?_
  refine aw_e rfl rfl rfl ?_
  refine aw_e rfl rfl rfl ?_
  refine aw_e rfl rfl rfl ?_
  refine aw_sl rfl (by rw [h_ix (by decide) h0 h1]; omega) (by rw [h_ix (by decide) h0 h1]; omega) ?_
  refine aw_e rfl rfl rfl ?_
  refine aw_e rfl rfl rfl ?_
  refine aw_e rfl rfl rfl ?_
  refine aw_e rfl rfl rfl ?_
  refine aw_sl rfl (by rw [h_ix (by decide) h0 h1]; omega) (by rw [h_ix (by decide) h0 h1]; omega) ?_
  refine aw_e rfl rfl rfl ?_
  refine aw_e rfl rfl rfl ?_
  refine aw_e rfl rfl rfl ?_
  refine aw_e rfl rfl rfl ?_
  refine aw_sl rfl (by rw [h_ix (by decide) h0 h1]; omega) (by rw [h_ix (by decide) h0 h1]; omega) ?_
  refine aw_cm2 (fr := 8) (k := 0) rfl rfl (by decide) rfl (h_cl hc_fits (by decide +kernel) I (h_av3 0 _ _ _)) rfl (fun v M1 hu => ?_)
  obtain ⟨I, x1, rfl⟩ := hu
  refine aw_e rfl rfl rfl ?_
  refine aw_e rfl rfl rfl ?_
  refine aw_e rfl rfl rfl ?_
  refine aw_e rfl rfl rfl ?_
  refine aw_e rfl rfl rfl ?_
  refine aw_e rfl rfl rfl ?_
  refine aw_sl rfl (by rw [h_ix (by decide) h0 h1]; omega) (by rw [h_ix (by decide) h0 h1]; omega) ?_
  refine aw_e rfl rfl rfl ?_
  refine aw_e rfl rfl rfl ?_
  refine aw_e rfl rfl rfl ?_
  refine aw_e rfl rfl rfl ?_
  refine aw_sl rfl (by rw [h_ix (by decide) h0 h1]; omega) (by rw [h_ix (by decide) h0 h1]; omega) ?_
  refine aw_e rfl rfl rfl ?_
  refine aw_e rfl rfl rfl ?_
  refine aw_e rfl rfl rfl ?_
  refine aw_e rfl rfl rfl ?_
  refine aw_sl rfl (by rw [h_ix (by decide) h0 h1]; omega) (by rw [h_ix (by decide) h0 h1]; omega) ?_
  refine aw_cm2 (fr := 8) (k := 0) rfl rfl (by decide) rfl (h_cl hm_fits (by decide +kernel) I (h_av3 61 _ _ _)) rfl (fun v M2 hu => ?_)
  obtain ⟨I, x2, rfl⟩ := hu
  refine aw_e rfl rfl rfl ?_
  refine aw_e rfl rfl rfl ?_
  exact K _ I
set_option maxRecDepth 100000 in
theorem l_29 {Ln : Nat} {xs : Nat → Int32} {i : Int32} (h0 : 0 ≤ i.toInt) (h1 : i.toInt ≤ 2044) (h2 : i.toInt + 4 ≤ Ln) (K : l_nx Ln xs i) {M : aM} (I : h_Inv M) : aw (wA, Ln, xs) 9 a_claw 881 [.ref a_scr, .ref 0, .ref a_mo, .int i] [] M l_Q := by
  refine aw_e rfl rfl rfl ?_
  refine aw_e rfl rfl rfl ?_
  refine aw_e rfl rfl rfl ?_
  refine aw_e rfl rfl rfl ?_
  refine aw_e rfl rfl rfl ?_
  refine aw_sl rfl (by rw [h_ix (by decide) h0 h1]; omega) (by rw [h_ix (by decide) h0 h1]; omega) ?_
  refine aw_cm2 (fr := 8) (k := 0) rfl rfl (by decide) rfl (hx_rowC I.1 I.2.1 (xs (i + Int32.ofInt 1).toInt.toNat)) rfl (fun v M1 hu => ?_)
  obtain ⟨J1, D1, F1, n1, ⟨x1, rfl, r1⟩, c1⟩ := hu
  refine aw_e rfl rfl rfl ?_
  refine aw_e rfl rfl rfl ?_
  refine aw_e rfl rfl rfl ?_
  refine aw_e rfl rfl rfl ?_
  refine aw_e rfl rfl rfl ?_
  refine aw_e rfl rfl rfl ?_
  refine aw_sl rfl (by rw [h_ix (by decide) h0 h1]; omega) (by rw [h_ix (by decide) h0 h1]; omega) ?_
  have em : M1 61 46 = M 61 46 := F1 61 46 (by decide +kernel)
  have ec : M 0 11 = M 61 46 := I.2.2.1
  refine aw_cm2 (fr := 8) (k := 0) rfl rfl (by decide) rfl (hx_rowM J1 D1 (xs (i + Int32.ofInt 1).toInt.toNat)) rfl (fun v M2 hu => ?_)
  obtain ⟨J2, D2, F2, n2, ⟨x2, rfl, r2⟩, c2⟩ := hu
  have er : x1.toInt = x2.toInt := by rw [r1, r2, em, ec]
  have en : M2 0 11 = M2 61 46 := Int32.toInt_inj.mp (by
    rw [n2, F2 0 11 (by decide +kernel), n1, em, ec])
  have I : h_Inv M2 := by
    refine ⟨J2, D2, en, ?_, fun k hk => ?_⟩
    · rw [F2 19 1 (by decide +kernel), F2 61 18 (by decide +kernel), F1 19 1 (by decide +kernel), F1 61 18 (by decide +kernel)]
      exact I.2.2.2.1
    · have q1 : ∀ k, k < 12 → x_in hw_rowC 88 k = false ∧ x_in hw_rowM 59 k = false := by decide +kernel
      obtain ⟨t2, t3⟩ := q1 k hk
      rw [F2 59 k t3, c2 k hk, c1 k hk, F1 88 k t2, em, ec, I.2.2.2.2 k hk]
  refine aw_e rfl rfl rfl ?_
  refine aw_e rfl rfl rfl ?_
  exact K _ I
set_option maxRecDepth 100000 in
theorem l_30 {Ln : Nat} {xs : Nat → Int32} {i : Int32} (h0 : 0 ≤ i.toInt) (h1 : i.toInt ≤ 2044) (h2 : i.toInt + 4 ≤ Ln) (K : l_nx Ln xs i) {M : aM} (I : h_Inv M) : aw (wA, Ln, xs) 9 a_claw 904 [.ref a_scr, .ref 0, .ref a_mo, .int i] [] M l_Q := by
  refine aw_e rfl rfl rfl ?_
  refine aw_cm2 (fr := 8) (k := 0) rfl rfl (by decide) rfl (hx_judgeC I.1 I.2.1) rfl (fun v M1 hu => ?_)
  obtain ⟨J1, D1, F1, n1, x1, rfl⟩ := hu
  refine aw_e rfl rfl rfl ?_
  refine aw_e rfl rfl rfl ?_
  refine aw_cm2 (fr := 8) (k := 0) rfl rfl (by decide) rfl (hx_judgeM J1 D1) rfl (fun v M2 hu => ?_)
  obtain ⟨J2, D2, F2, n2, x2, rfl⟩ := hu
  have I : h_Inv M2 := by
    refine ⟨J2, D2, ?_, ?_, fun k hk => ?_⟩
    · exact Int32.toInt_inj.mp (by rw [n2, F2 0 11 (by decide +kernel), n1])
    · rw [F2 19 1 (by decide +kernel), F2 61 18 (by decide +kernel), F1 19 1 (by decide +kernel), F1 61 18 (by decide +kernel)]
      exact I.2.2.2.1
    · have q1 : ∀ k, k < 12 → x_in hw_judgeC 59 k = false ∧ x_in hw_judgeC 88 k = false ∧ x_in hw_judgeM 59 k = false ∧ x_in hw_judgeM 88 k = false := by decide +kernel
      obtain ⟨t1, t2, t3, t4⟩ := q1 k hk
      rw [F2 59 k t3, F2 88 k t4, F1 59 k t1, F1 88 k t2]
      exact I.2.2.2.2 k hk
  refine aw_e rfl rfl rfl ?_
  refine aw_e rfl rfl rfl ?_
  exact K _ I
set_option maxRecDepth 100000 in
theorem l_31 {Ln : Nat} {xs : Nat → Int32} {i : Int32} (h0 : 0 ≤ i.toInt) (h1 : i.toInt ≤ 2044) (h2 : i.toInt + 4 ≤ Ln) (K : l_nx Ln xs i) {M : aM} (I : h_Inv M) : aw (wA, Ln, xs) 9 a_claw 917 [.ref a_scr, .ref 0, .ref a_mo, .int i] [] M l_Q := by
  refine aw_e rfl rfl rfl ?_
  refine aw_cm2 (fr := 8) (k := 0) rfl rfl (by decide) rfl (hx_dropC I.1 I.2.1) rfl (fun v M1 hu => ?_)
  obtain ⟨J1, D1, F1, n1, x1, rfl, r1⟩ := hu
  refine aw_e rfl rfl rfl ?_
  refine aw_e rfl rfl rfl ?_
  refine aw_cm2 (fr := 8) (k := 0) rfl rfl (by decide) rfl (hx_dropM J1 D1) rfl (fun v M2 hu => ?_)
  obtain ⟨J2, D2, F2, n2, x2, rfl, r2⟩ := hu
  have er : x1.toInt = x2.toInt := by rw [r1, r2, F1 61 46 (by decide +kernel), I.2.2.1]
  have I : h_Inv M2 := by
    refine ⟨J2, D2, ?_, ?_, fun k hk => ?_⟩
    · exact Int32.toInt_inj.mp (by rw [n2, F2 0 11 (by decide +kernel), n1])
    · rw [F2 19 1 (by decide +kernel), F2 61 18 (by decide +kernel), F1 19 1 (by decide +kernel), F1 61 18 (by decide +kernel)]
      exact I.2.2.2.1
    · have q1 : ∀ k, k < 12 → x_in hw_dropC 59 k = false ∧ x_in hw_dropC 88 k = false ∧ x_in hw_dropM 59 k = false ∧ x_in hw_dropM 88 k = false := by decide +kernel
      obtain ⟨t1, t2, t3, t4⟩ := q1 k hk
      rw [F2 59 k t3, F2 88 k t4, F1 59 k t1, F1 88 k t2]
      exact I.2.2.2.2 k hk
  refine aw_e rfl rfl rfl ?_
  refine aw_e rfl rfl rfl ?_
  exact K _ I
set_option maxRecDepth 100000 in
theorem l_32 {Ln : Nat} {xs : Nat → Int32} {i : Int32} (h0 : 0 ≤ i.toInt) (h1 : i.toInt ≤ 2044) (h2 : i.toInt + 4 ≤ Ln) (K : l_nx Ln xs i) {M : aM} (I : h_Inv M) : aw (wA, Ln, xs) 9 a_claw 930 [.ref a_scr, .ref 0, .ref a_mo, .int i] [] M l_Q := by
  refine aw_e rfl rfl rfl ?_
  refine aw_e rfl rfl rfl ?_
  refine aw_e rfl rfl rfl ?_
  refine aw_e rfl rfl rfl ?_
  refine aw_e rfl rfl rfl ?_
  refine aw_sl rfl (by rw [h_ix (by decide) h0 h1]; omega) (by rw [h_ix (by decide) h0 h1]; omega) ?_
  refine aw_e rfl rfl rfl ?_
  refine aw_e rfl rfl rfl ?_
  refine aw_e rfl rfl rfl ?_
  refine aw_e rfl rfl rfl ?_
  refine aw_sl rfl (by rw [h_ix (by decide) h0 h1]; omega) (by rw [h_ix (by decide) h0 h1]; omega) ?_
  refine aw_e rfl rfl rfl ?_
  refine aw_e rfl rfl rfl ?_
  refine aw_e rfl rfl rfl ?_
  refine aw_e rfl rfl rfl ?_
  refine aw_sl rfl (by rw [h_ix (by decide) h0 h1]; omega) (by rw [h_ix (by decide) h0 h1]; omega) ?_
  refine aw_cm2 (fr := 8) (k := 0) rfl rfl (by decide) rfl (h_cl hc_seeds (by decide +kernel) I (h_av3 0 _ _ _)) rfl (fun v M1 hu => ?_)
  obtain ⟨I, x1, rfl⟩ := hu
  refine aw_e rfl rfl rfl ?_
  refine aw_e rfl rfl rfl ?_
  refine aw_e rfl rfl rfl ?_
  refine aw_e rfl rfl rfl ?_
  refine aw_e rfl rfl rfl ?_
  refine aw_e rfl rfl rfl ?_
  refine aw_sl rfl (by rw [h_ix (by decide) h0 h1]; omega) (by rw [h_ix (by decide) h0 h1]; omega) ?_
  refine aw_e rfl rfl rfl ?_
  refine aw_e rfl rfl rfl ?_
  refine aw_e rfl rfl rfl ?_
  refine aw_e rfl rfl rfl ?_
  refine aw_sl rfl (by rw [h_ix (by decide) h0 h1]; omega) (by rw [h_ix (by decide) h0 h1]; omega) ?_
  refine aw_e rfl rfl rfl ?_
  refine aw_e rfl rfl rfl ?_
  refine aw_e rfl rfl rfl ?_
  refine aw_e rfl rfl rfl ?_
  refine aw_sl rfl (by rw [h_ix (by decide) h0 h1]; omega) (by rw [h_ix (by decide) h0 h1]; omega) ?_
  refine aw_cm2 (fr := 8) (k := 0) rfl rfl (by decide) rfl (h_cl hm_seeds (by decide +kernel) I (h_av3 61 _ _ _)) rfl (fun v M2 hu => ?_)
  obtain ⟨I, x2, rfl⟩ := hu
  refine aw_e rfl rfl rfl ?_
  refine aw_e rfl rfl rfl ?_
  exact K _ I
set_option maxRecDepth 100000 in
theorem l_33 {Ln : Nat} {xs : Nat → Int32} {i : Int32} (h0 : 0 ≤ i.toInt) (h1 : i.toInt ≤ 2044) (h2 : i.toInt + 4 ≤ Ln) (K : l_nx Ln xs i) {M : aM} (I : h_Inv M) : aw (wA, Ln, xs) 9 a_claw 973 [.ref a_scr, .ref 0, .ref a_mo, .int i] [] M l_Q := by
  refine aw_e rfl rfl rfl ?_
  refine aw_cm2 (fr := 8) (k := 0) rfl rfl (by decide) rfl (h_cl hc_undo (by decide +kernel) I (h_av0 0)) rfl (fun v M1 hu => ?_)
  obtain ⟨I, x1, rfl⟩ := hu
  refine aw_e rfl rfl rfl ?_
  refine aw_e rfl rfl rfl ?_
  refine aw_cm2 (fr := 8) (k := 0) rfl rfl (by decide) rfl (h_cl hm_undo (by decide +kernel) I (h_av0 61)) rfl (fun v M2 hu => ?_)
  obtain ⟨I, x2, rfl⟩ := hu
  refine aw_e rfl rfl rfl ?_
  refine aw_e rfl rfl rfl ?_
  exact K _ I
set_option maxRecDepth 100000 in
theorem l_34 {Ln : Nat} {xs : Nat → Int32} {i : Int32} (h0 : 0 ≤ i.toInt) (h1 : i.toInt ≤ 2044) (h2 : i.toInt + 4 ≤ Ln) (K : l_nx Ln xs i) {M : aM} (I : h_Inv M) : aw (wA, Ln, xs) 9 a_claw 986 [.ref a_scr, .ref 0, .ref a_mo, .int i] [] M l_Q := by
  refine aw_e rfl rfl rfl ?_
  refine aw_e rfl rfl rfl ?_
  refine aw_e rfl rfl rfl ?_
  refine aw_e rfl rfl rfl ?_
  refine aw_e rfl rfl rfl ?_
  refine aw_sl rfl (by rw [h_ix (by decide) h0 h1]; omega) (by rw [h_ix (by decide) h0 h1]; omega) ?_
  refine aw_e rfl rfl rfl ?_
  refine aw_e rfl rfl rfl ?_
  refine aw_e rfl rfl rfl ?_
  refine aw_e rfl rfl rfl ?_
  refine aw_sl rfl (by rw [h_ix (by decide) h0 h1]; omega) (by rw [h_ix (by decide) h0 h1]; omega) ?_
  refine aw_cm2 (fr := 8) (k := 0) rfl rfl (by decide) rfl (h_cl hc_tomorrow (by decide +kernel) I (h_av2 0 _ _)) rfl (fun v M1 hu => ?_)
  obtain ⟨I, x1, rfl⟩ := hu
  refine aw_e rfl rfl rfl ?_
  refine aw_e rfl rfl rfl ?_
  refine aw_e rfl rfl rfl ?_
  refine aw_e rfl rfl rfl ?_
  refine aw_e rfl rfl rfl ?_
  refine aw_e rfl rfl rfl ?_
  refine aw_sl rfl (by rw [h_ix (by decide) h0 h1]; omega) (by rw [h_ix (by decide) h0 h1]; omega) ?_
  refine aw_e rfl rfl rfl ?_
  refine aw_e rfl rfl rfl ?_
  refine aw_e rfl rfl rfl ?_
  refine aw_e rfl rfl rfl ?_
  refine aw_sl rfl (by rw [h_ix (by decide) h0 h1]; omega) (by rw [h_ix (by decide) h0 h1]; omega) ?_
  refine aw_cm2 (fr := 8) (k := 0) rfl rfl (by decide) rfl (h_cl hm_tomorrow (by decide +kernel) I (h_av2 61 _ _)) rfl (fun v M2 hu => ?_)
  obtain ⟨I, x2, rfl⟩ := hu
  refine aw_e rfl rfl rfl ?_
  refine aw_e rfl rfl rfl ?_
  exact K _ I
set_option maxRecDepth 100000 in
theorem l_35 {Ln : Nat} {xs : Nat → Int32} {i : Int32} (h0 : 0 ≤ i.toInt) (h1 : i.toInt ≤ 2044) (h2 : i.toInt + 4 ≤ Ln) (K : l_nx Ln xs i) {M : aM} (I : h_Inv M) : aw (wA, Ln, xs) 9 a_claw 1019 [.ref a_scr, .ref 0, .ref a_mo, .int i] [] M l_Q := by
  refine aw_e rfl rfl rfl ?_
  refine aw_e rfl rfl rfl ?_
  refine aw_e rfl rfl rfl ?_
  refine aw_e rfl rfl rfl ?_
  refine aw_e rfl rfl rfl ?_
  refine aw_sl rfl (by rw [h_ix (by decide) h0 h1]; omega) (by rw [h_ix (by decide) h0 h1]; omega) ?_
  refine aw_e rfl rfl rfl ?_
  refine aw_e rfl rfl rfl ?_
  refine aw_e rfl rfl rfl ?_
  refine aw_e rfl rfl rfl ?_
  refine aw_sl rfl (by rw [h_ix (by decide) h0 h1]; omega) (by rw [h_ix (by decide) h0 h1]; omega) ?_
  refine aw_cm2 (fr := 8) (k := 0) rfl rfl (by decide) rfl (h_cl hc_stopped (by decide +kernel) I (h_av2 0 _ _)) rfl (fun v M1 hu => ?_)
  obtain ⟨I, x1, rfl⟩ := hu
  refine aw_e rfl rfl rfl ?_
  refine aw_e rfl rfl rfl ?_
  refine aw_e rfl rfl rfl ?_
  refine aw_e rfl rfl rfl ?_
  refine aw_e rfl rfl rfl ?_
  refine aw_e rfl rfl rfl ?_
  refine aw_sl rfl (by rw [h_ix (by decide) h0 h1]; omega) (by rw [h_ix (by decide) h0 h1]; omega) ?_
  refine aw_e rfl rfl rfl ?_
  refine aw_e rfl rfl rfl ?_
  refine aw_e rfl rfl rfl ?_
  refine aw_e rfl rfl rfl ?_
  refine aw_sl rfl (by rw [h_ix (by decide) h0 h1]; omega) (by rw [h_ix (by decide) h0 h1]; omega) ?_
  refine aw_cm2 (fr := 8) (k := 0) rfl rfl (by decide) rfl (h_cl hm_stopped (by decide +kernel) I (h_av2 61 _ _)) rfl (fun v M2 hu => ?_)
  obtain ⟨I, x2, rfl⟩ := hu
  refine aw_e rfl rfl rfl ?_
  refine aw_e rfl rfl rfl ?_
  exact K _ I
set_option maxRecDepth 100000 in
theorem l_36 {Ln : Nat} {xs : Nat → Int32} {i : Int32} (h0 : 0 ≤ i.toInt) (h1 : i.toInt ≤ 2044) (h2 : i.toInt + 4 ≤ Ln) (K : l_nx Ln xs i) {M : aM} (I : h_Inv M) : aw (wA, Ln, xs) 9 a_claw 1052 [.ref a_scr, .ref 0, .ref a_mo, .int i] [] M l_Q := by
  refine aw_e rfl rfl rfl ?_
  refine aw_e rfl rfl rfl ?_
  refine aw_e rfl rfl rfl ?_
  refine aw_e rfl rfl rfl ?_
  refine aw_e rfl rfl rfl ?_
  refine aw_sl rfl (by rw [h_ix (by decide) h0 h1]; omega) (by rw [h_ix (by decide) h0 h1]; omega) ?_
  refine aw_cm2 (fr := 8) (k := 0) rfl rfl (by decide) rfl (h_cl hc_picked (by decide +kernel) I (h_av1 0 _)) rfl (fun v M1 hu => ?_)
  obtain ⟨I, x1, rfl⟩ := hu
  refine aw_e rfl rfl rfl ?_
  refine aw_e rfl rfl rfl ?_
  refine aw_e rfl rfl rfl ?_
  refine aw_e rfl rfl rfl ?_
  refine aw_e rfl rfl rfl ?_
  refine aw_e rfl rfl rfl ?_
  refine aw_sl rfl (by rw [h_ix (by decide) h0 h1]; omega) (by rw [h_ix (by decide) h0 h1]; omega) ?_
  refine aw_cm2 (fr := 8) (k := 0) rfl rfl (by decide) rfl (h_cl hm_picked (by decide +kernel) I (h_av1 61 _)) rfl (fun v M2 hu => ?_)
  obtain ⟨I, x2, rfl⟩ := hu
  refine aw_e rfl rfl rfl ?_
  refine aw_e rfl rfl rfl ?_
  exact K _ I
set_option maxRecDepth 100000 in
theorem l_37 {Ln : Nat} {xs : Nat → Int32} {i : Int32} (h0 : 0 ≤ i.toInt) (h1 : i.toInt ≤ 2044) (h2 : i.toInt + 4 ≤ Ln) (K : l_nx Ln xs i) {M : aM} (I : h_Inv M) : aw (wA, Ln, xs) 9 a_claw 1075 [.ref a_scr, .ref 0, .ref a_mo, .int i] [] M l_Q := by
  refine aw_e rfl rfl rfl ?_
  refine aw_e rfl rfl rfl ?_
  refine aw_e rfl rfl rfl ?_
  refine aw_e rfl rfl rfl ?_
  refine aw_e rfl rfl rfl ?_
  refine aw_sl rfl (by rw [h_ix (by decide) h0 h1]; omega) (by rw [h_ix (by decide) h0 h1]; omega) ?_
  refine aw_cm2 (fr := 8) (k := 0) rfl rfl (by decide) rfl (h_cl hc_steps (by decide +kernel) I (h_av1 0 _)) rfl (fun v M1 hu => ?_)
  obtain ⟨I, x1, rfl⟩ := hu
  refine aw_e rfl rfl rfl ?_
  refine aw_e rfl rfl rfl ?_
  refine aw_e rfl rfl rfl ?_
  refine aw_e rfl rfl rfl ?_
  refine aw_e rfl rfl rfl ?_
  refine aw_e rfl rfl rfl ?_
  refine aw_sl rfl (by rw [h_ix (by decide) h0 h1]; omega) (by rw [h_ix (by decide) h0 h1]; omega) ?_
  refine aw_cm2 (fr := 8) (k := 0) rfl rfl (by decide) rfl (h_cl hm_steps (by decide +kernel) I (h_av1 61 _)) rfl (fun v M2 hu => ?_)
  obtain ⟨I, x2, rfl⟩ := hu
  refine aw_e rfl rfl rfl ?_
  refine aw_e rfl rfl rfl ?_
  exact K _ I
set_option maxRecDepth 100000 in
theorem l_38 {Ln : Nat} {xs : Nat → Int32} {i : Int32} (h0 : 0 ≤ i.toInt) (h1 : i.toInt ≤ 2044) (h2 : i.toInt + 4 ≤ Ln) (K : l_nx Ln xs i) {M : aM} (I : h_Inv M) : aw (wA, Ln, xs) 9 a_claw 1098 [.ref a_scr, .ref 0, .ref a_mo, .int i] [] M l_Q := by
  refine aw_e rfl rfl rfl ?_
  refine aw_e rfl rfl rfl ?_
  refine aw_e rfl rfl rfl ?_
  refine aw_e rfl rfl rfl ?_
  refine aw_e rfl rfl rfl ?_
  refine aw_sl rfl (by rw [h_ix (by decide) h0 h1]; omega) (by rw [h_ix (by decide) h0 h1]; omega) ?_
  refine aw_cm2 (fr := 8) (k := 0) rfl rfl (by decide) rfl (h_cl hc_later (by decide +kernel) I (h_av1 0 _)) rfl (fun v M1 hu => ?_)
  obtain ⟨I, x1, rfl⟩ := hu
  refine aw_e rfl rfl rfl ?_
  refine aw_e rfl rfl rfl ?_
  refine aw_e rfl rfl rfl ?_
  refine aw_e rfl rfl rfl ?_
  refine aw_e rfl rfl rfl ?_
  refine aw_e rfl rfl rfl ?_
  refine aw_sl rfl (by rw [h_ix (by decide) h0 h1]; omega) (by rw [h_ix (by decide) h0 h1]; omega) ?_
  refine aw_cm2 (fr := 8) (k := 0) rfl rfl (by decide) rfl (h_cl hm_later (by decide +kernel) I (h_av1 61 _)) rfl (fun v M2 hu => ?_)
  obtain ⟨I, x2, rfl⟩ := hu
  refine aw_e rfl rfl rfl ?_
  refine aw_e rfl rfl rfl ?_
  exact K _ I
set_option maxRecDepth 100000 in
theorem l_39 {Ln : Nat} {xs : Nat → Int32} {i : Int32} (h0 : 0 ≤ i.toInt) (h1 : i.toInt ≤ 2044) (h2 : i.toInt + 4 ≤ Ln) (K : l_nx Ln xs i) {M : aM} (I : h_Inv M) : aw (wA, Ln, xs) 9 a_claw 1121 [.ref a_scr, .ref 0, .ref a_mo, .int i] [] M l_Q := by
  refine aw_e rfl rfl rfl ?_
  refine aw_e rfl rfl rfl ?_
  refine aw_e rfl rfl rfl ?_
  refine aw_e rfl rfl rfl ?_
  refine aw_e rfl rfl rfl ?_
  refine aw_sl rfl (by rw [h_ix (by decide) h0 h1]; omega) (by rw [h_ix (by decide) h0 h1]; omega) ?_
  refine aw_e rfl rfl rfl ?_
  refine aw_e rfl rfl rfl ?_
  refine aw_e rfl rfl rfl ?_
  refine aw_e rfl rfl rfl ?_
  refine aw_sl rfl (by rw [h_ix (by decide) h0 h1]; omega) (by rw [h_ix (by decide) h0 h1]; omega) ?_
  refine aw_e rfl rfl rfl ?_
  refine aw_e rfl rfl rfl ?_
  refine aw_e rfl rfl rfl ?_
  refine aw_e rfl rfl rfl ?_
  refine aw_sl rfl (by rw [h_ix (by decide) h0 h1]; omega) (by rw [h_ix (by decide) h0 h1]; omega) ?_
  refine aw_cm2 (fr := 8) (k := 0) rfl rfl (by decide) rfl (h_cl hc_dear (by decide +kernel) I (h_av3 0 _ _ _)) rfl (fun v M1 hu => ?_)
  obtain ⟨I, x1, rfl⟩ := hu
  refine aw_e rfl rfl rfl ?_
  refine aw_e rfl rfl rfl ?_
  refine aw_e rfl rfl rfl ?_
  refine aw_e rfl rfl rfl ?_
  refine aw_e rfl rfl rfl ?_
  refine aw_e rfl rfl rfl ?_
  refine aw_sl rfl (by rw [h_ix (by decide) h0 h1]; omega) (by rw [h_ix (by decide) h0 h1]; omega) ?_
  refine aw_e rfl rfl rfl ?_
  refine aw_e rfl rfl rfl ?_
  refine aw_e rfl rfl rfl ?_
  refine aw_e rfl rfl rfl ?_
  refine aw_sl rfl (by rw [h_ix (by decide) h0 h1]; omega) (by rw [h_ix (by decide) h0 h1]; omega) ?_
  refine aw_e rfl rfl rfl ?_
  refine aw_e rfl rfl rfl ?_
  refine aw_e rfl rfl rfl ?_
  refine aw_e rfl rfl rfl ?_
  refine aw_sl rfl (by rw [h_ix (by decide) h0 h1]; omega) (by rw [h_ix (by decide) h0 h1]; omega) ?_
  refine aw_cm2 (fr := 8) (k := 0) rfl rfl (by decide) rfl (h_cl hm_dear (by decide +kernel) I (h_av3 61 _ _ _)) rfl (fun v M2 hu => ?_)
  obtain ⟨I, x2, rfl⟩ := hu
  refine aw_e rfl rfl rfl ?_
  refine aw_e rfl rfl rfl ?_
  exact K _ I
set_option maxRecDepth 100000 in
theorem l_40 {Ln : Nat} {xs : Nat → Int32} {i : Int32} (h0 : 0 ≤ i.toInt) (h1 : i.toInt ≤ 2044) (h2 : i.toInt + 4 ≤ Ln) (K : l_nx Ln xs i) {M : aM} (I : h_Inv M) : aw (wA, Ln, xs) 9 a_claw 1164 [.ref a_scr, .ref 0, .ref a_mo, .int i] [] M l_Q := by
  refine aw_e rfl rfl rfl ?_
  refine aw_e rfl rfl rfl ?_
  refine aw_e rfl rfl rfl ?_
  refine aw_e rfl rfl rfl ?_
  refine aw_e rfl rfl rfl ?_
  refine aw_sl rfl (by rw [h_ix (by decide) h0 h1]; omega) (by rw [h_ix (by decide) h0 h1]; omega) ?_
  refine aw_e rfl rfl rfl ?_
  refine aw_e rfl rfl rfl ?_
  refine aw_e rfl rfl rfl ?_
  refine aw_e rfl rfl rfl ?_
  refine aw_sl rfl (by rw [h_ix (by decide) h0 h1]; omega) (by rw [h_ix (by decide) h0 h1]; omega) ?_
  refine aw_e rfl rfl rfl ?_
  refine aw_e rfl rfl rfl ?_
  refine aw_e rfl rfl rfl ?_
  refine aw_e rfl rfl rfl ?_
  refine aw_sl rfl (by rw [h_ix (by decide) h0 h1]; omega) (by rw [h_ix (by decide) h0 h1]; omega) ?_
  refine aw_cm2 (fr := 8) (k := 0) rfl rfl (by decide) rfl (h_cl hc_over (by decide +kernel) I (h_av3 0 _ _ _)) rfl (fun v M1 hu => ?_)
  obtain ⟨I, x1, rfl⟩ := hu
  refine aw_e rfl rfl rfl ?_
  refine aw_e rfl rfl rfl ?_
  refine aw_e rfl rfl rfl ?_
  refine aw_e rfl rfl rfl ?_
  refine aw_e rfl rfl rfl ?_
  refine aw_e rfl rfl rfl ?_
  refine aw_sl rfl (by rw [h_ix (by decide) h0 h1]; omega) (by rw [h_ix (by decide) h0 h1]; omega) ?_
  refine aw_e rfl rfl rfl ?_
  refine aw_e rfl rfl rfl ?_
  refine aw_e rfl rfl rfl ?_
  refine aw_e rfl rfl rfl ?_
  refine aw_sl rfl (by rw [h_ix (by decide) h0 h1]; omega) (by rw [h_ix (by decide) h0 h1]; omega) ?_
  refine aw_e rfl rfl rfl ?_
  refine aw_e rfl rfl rfl ?_
  refine aw_e rfl rfl rfl ?_
  refine aw_e rfl rfl rfl ?_
  refine aw_sl rfl (by rw [h_ix (by decide) h0 h1]; omega) (by rw [h_ix (by decide) h0 h1]; omega) ?_
  refine aw_cm2 (fr := 8) (k := 0) rfl rfl (by decide) rfl (h_cl hm_over (by decide +kernel) I (h_av3 61 _ _ _)) rfl (fun v M2 hu => ?_)
  obtain ⟨I, x2, rfl⟩ := hu
  refine aw_e rfl rfl rfl ?_
  refine aw_e rfl rfl rfl ?_
  exact K _ I
set_option maxRecDepth 100000 in
theorem l_41 {Ln : Nat} {xs : Nat → Int32} {i : Int32} (h0 : 0 ≤ i.toInt) (h1 : i.toInt ≤ 2044) (h2 : i.toInt + 4 ≤ Ln) (K : l_nx Ln xs i) {M : aM} (I : h_Inv M) : aw (wA, Ln, xs) 9 a_claw 1207 [.ref a_scr, .ref 0, .ref a_mo, .int i] [] M l_Q := by
  refine aw_e rfl rfl rfl ?_
  refine aw_cm2 (fr := 8) (k := 0) rfl rfl (by decide) rfl (h_cl hc_image (by decide +kernel) I (h_av0 0)) rfl (fun v M1 hu => ?_)
  obtain ⟨I, x1, rfl⟩ := hu
  refine aw_e rfl rfl rfl ?_
  refine aw_e rfl rfl rfl ?_
  refine aw_cm2 (fr := 8) (k := 0) rfl rfl (by decide) rfl (h_cl hm_image (by decide +kernel) I (h_av0 61)) rfl (fun v M2 hu => ?_)
  obtain ⟨I, x2, rfl⟩ := hu
  refine aw_e rfl rfl rfl ?_
  refine aw_e rfl rfl rfl ?_
  exact K _ I
set_option maxRecDepth 100000 in
theorem l_42 {Ln : Nat} {xs : Nat → Int32} {i : Int32} (h0 : 0 ≤ i.toInt) (h1 : i.toInt ≤ 2044) (h2 : i.toInt + 4 ≤ Ln) (K : l_nx Ln xs i) {M : aM} (I : h_Inv M) : aw (wA, Ln, xs) 9 a_claw 1220 [.ref a_scr, .ref 0, .ref a_mo, .int i] [] M l_Q := by
  refine aw_e rfl rfl rfl ?_
  refine aw_cm2 (fr := 8) (k := 0) rfl rfl (by decide) rfl (h_cl hc_restore (by decide +kernel) I (h_av0 0)) rfl (fun v M1 hu => ?_)
  obtain ⟨I, x1, rfl⟩ := hu
  refine aw_e rfl rfl rfl ?_
  refine aw_e rfl rfl rfl ?_
  refine aw_cm2 (fr := 8) (k := 0) rfl rfl (by decide) rfl (h_cl hm_restore (by decide +kernel) I (h_av0 61)) rfl (fun v M2 hu => ?_)
  obtain ⟨I, x2, rfl⟩ := hu
  refine aw_e rfl rfl rfl ?_
  refine aw_e rfl rfl rfl ?_
  exact K _ I
set_option maxRecDepth 100000 in
theorem l_43 {Ln : Nat} {xs : Nat → Int32} {i : Int32} (h0 : 0 ≤ i.toInt) (h1 : i.toInt ≤ 2044) (h2 : i.toInt + 4 ≤ Ln) (K : l_nx Ln xs i) {M : aM} (I : h_Inv M) : aw (wA, Ln, xs) 9 a_claw 1233 [.ref a_scr, .ref 0, .ref a_mo, .int i] [] M l_Q := by
  refine aw_e rfl rfl rfl ?_
  refine aw_e rfl rfl rfl ?_
  refine aw_e rfl rfl rfl ?_
  refine aw_e rfl rfl rfl ?_
  refine aw_e rfl rfl rfl ?_
  refine aw_sl rfl (by rw [h_ix (by decide) h0 h1]; omega) (by rw [h_ix (by decide) h0 h1]; omega) ?_
  refine aw_cm2 (fr := 8) (k := 0) rfl rfl (by decide) rfl (h_cl hc_count (by decide +kernel) I (h_av1 0 _)) rfl (fun v M1 hu => ?_)
  obtain ⟨I, x1, rfl⟩ := hu
  refine aw_e rfl rfl rfl ?_
  refine aw_e rfl rfl rfl ?_
  refine aw_e rfl rfl rfl ?_
  refine aw_e rfl rfl rfl ?_
  refine aw_e rfl rfl rfl ?_
  refine aw_e rfl rfl rfl ?_
  refine aw_sl rfl (by rw [h_ix (by decide) h0 h1]; omega) (by rw [h_ix (by decide) h0 h1]; omega) ?_
  refine aw_cm2 (fr := 8) (k := 0) rfl rfl (by decide) rfl (h_cl hm_count (by decide +kernel) I (h_av1 61 _)) rfl (fun v M2 hu => ?_)
  obtain ⟨I, x2, rfl⟩ := hu
  refine aw_e rfl rfl rfl ?_
  refine aw_e rfl rfl rfl ?_
  exact K _ I
set_option maxRecDepth 100000 in
theorem l_sw {Ln : Nat} {xs : Nat → Int32} {i : Int32} (h0 : 0 ≤ i.toInt) (h1 : i.toInt ≤ 2044) (h2 : i.toInt + 4 ≤ Ln) (K : l_nx Ln xs i) {M : aM} (I : h_Inv M) : ∀ j, j < 64 → aw (wA, Ln, xs) 9 a_claw 32 [.ref a_scr, .ref 0, .ref a_mo, .int i] [.int (nI j)] M l_Q := by
  intro j hj
  match j, hj with
  | 0, _ => exact aw_tl (t := 224) rfl (by decide +kernel) (l_0 h0 h1 h2 K I)
  | 1, _ => exact aw_tl (t := 247) rfl (by decide +kernel) (l_1 h0 h1 h2 K I)
  | 2, _ => exact aw_tl (t := 260) rfl (by decide +kernel) (l_2 h0 h1 h2 K I)
  | 3, _ => exact aw_tl (t := 293) rfl (by decide +kernel) (l_3 h0 h1 h2 K I)
  | 4, _ => exact aw_tl (t := 336) rfl (by decide +kernel) (l_4 h0 h1 h2 K I)
  | 5, _ => exact aw_tl (t := 369) rfl (by decide +kernel) (l_5 h0 h1 h2 K I)
  | 6, _ => exact aw_tl (t := 392) rfl (by decide +kernel) (l_6 h0 h1 h2 K I)
  | 7, _ => exact aw_tl (t := 405) rfl (by decide +kernel) (l_7 h0 h1 h2 K I)
  | 8, _ => exact aw_tl (t := 428) rfl (by decide +kernel) (l_8 h0 h1 h2 K I)
  | 9, _ => exact aw_tl (t := 461) rfl (by decide +kernel) (l_9 h0 h1 h2 K I)
  | 10, _ => exact aw_tl (t := 474) rfl (by decide +kernel) (l_10 h0 h1 h2 K I)
  | 11, _ => exact aw_tl (t := 487) rfl (by decide +kernel) (l_11 h0 h1 h2 K I)
  | 12, _ => exact aw_tl (t := 520) rfl (by decide +kernel) (l_12 h0 h1 h2 K I)
  | 13, _ => exact aw_tl (t := 533) rfl (by decide +kernel) (l_13 h0 h1 h2 K I)
  | 14, _ => exact aw_tl (t := 556) rfl (by decide +kernel) (l_14 h0 h1 h2 K I)
  | 15, _ => exact aw_tl (t := 579) rfl (by decide +kernel) (l_15 h0 h1 h2 K I)
  | 16, _ => exact aw_tl (t := 602) rfl (by decide +kernel) (l_16 h0 h1 h2 K I)
  | 17, _ => exact aw_tl (t := 625) rfl (by decide +kernel) (l_17 h0 h1 h2 K I)
  | 18, _ => exact aw_tl (t := 648) rfl (by decide +kernel) (l_18 h0 h1 h2 K I)
  | 19, _ => exact aw_tl (t := 671) rfl (by decide +kernel) (l_19 h0 h1 h2 K I)
  | 20, _ => exact aw_tl (t := 684) rfl (by decide +kernel) (l_20 h0 h1 h2 K I)
  | 21, _ => exact aw_tl (t := 697) rfl (by decide +kernel) (l_21 h0 h1 h2 K I)
  | 22, _ => exact aw_tl (t := 720) rfl (by decide +kernel) (l_22 h0 h1 h2 K I)
  | 23, _ => exact aw_tl (t := 733) rfl (by decide +kernel) (l_23 h0 h1 h2 K I)
  | 24, _ => exact aw_tl (t := 756) rfl (by decide +kernel) (l_24 h0 h1 h2 K I)
  | 25, _ => exact aw_tl (t := 769) rfl (by decide +kernel) (l_25 h0 h1 h2 K I)
  | 26, _ => exact aw_tl (t := 792) rfl (by decide +kernel) (l_26 h0 h1 h2 K I)
  | 27, _ => exact aw_tl (t := 825) rfl (by decide +kernel) (l_27 h0 h1 h2 K I)
  | 28, _ => exact aw_tl (t := 838) rfl (by decide +kernel) (l_28 h0 h1 h2 K I)
  | 29, _ => exact aw_tl (t := 881) rfl (by decide +kernel) (l_29 h0 h1 h2 K I)
  | 30, _ => exact aw_tl (t := 904) rfl (by decide +kernel) (l_30 h0 h1 h2 K I)
  | 31, _ => exact aw_tl (t := 917) rfl (by decide +kernel) (l_31 h0 h1 h2 K I)
  | 32, _ => exact aw_tl (t := 930) rfl (by decide +kernel) (l_32 h0 h1 h2 K I)
  | 33, _ => exact aw_tl (t := 973) rfl (by decide +kernel) (l_33 h0 h1 h2 K I)
  | 34, _ => exact aw_tl (t := 986) rfl (by decide +kernel) (l_34 h0 h1 h2 K I)
  | 35, _ => exact aw_tl (t := 1019) rfl (by decide +kernel) (l_35 h0 h1 h2 K I)
  | 36, _ => exact aw_tl (t := 1052) rfl (by decide +kernel) (l_36 h0 h1 h2 K I)
  | 37, _ => exact aw_tl (t := 1075) rfl (by decide +kernel) (l_37 h0 h1 h2 K I)
  | 38, _ => exact aw_tl (t := 1098) rfl (by decide +kernel) (l_38 h0 h1 h2 K I)
  | 39, _ => exact aw_tl (t := 1121) rfl (by decide +kernel) (l_39 h0 h1 h2 K I)
  | 40, _ => exact aw_tl (t := 1164) rfl (by decide +kernel) (l_40 h0 h1 h2 K I)
  | 41, _ => exact aw_tl (t := 1207) rfl (by decide +kernel) (l_41 h0 h1 h2 K I)
  | 42, _ => exact aw_tl (t := 1220) rfl (by decide +kernel) (l_42 h0 h1 h2 K I)
  | 43, _ => exact aw_tl (t := 1233) rfl (by decide +kernel) (l_43 h0 h1 h2 K I)
  | 44, _ => exact aw_tl (t := 1256) rfl (by decide +kernel) (K M I)
  | 45, _ => exact aw_tl (t := 1256) rfl (by decide +kernel) (K M I)
  | 46, _ => exact aw_tl (t := 1256) rfl (by decide +kernel) (K M I)
  | 47, _ => exact aw_tl (t := 1256) rfl (by decide +kernel) (K M I)
  | 48, _ => exact aw_tl (t := 1256) rfl (by decide +kernel) (K M I)
  | 49, _ => exact aw_tl (t := 1256) rfl (by decide +kernel) (K M I)
  | 50, _ => exact aw_tl (t := 1256) rfl (by decide +kernel) (K M I)
  | 51, _ => exact aw_tl (t := 1256) rfl (by decide +kernel) (K M I)
  | 52, _ => exact aw_tl (t := 1256) rfl (by decide +kernel) (K M I)
  | 53, _ => exact aw_tl (t := 1256) rfl (by decide +kernel) (K M I)
  | 54, _ => exact aw_tl (t := 1256) rfl (by decide +kernel) (K M I)
  | 55, _ => exact aw_tl (t := 1256) rfl (by decide +kernel) (K M I)
  | 56, _ => exact aw_tl (t := 1256) rfl (by decide +kernel) (K M I)
  | 57, _ => exact aw_tl (t := 1256) rfl (by decide +kernel) (K M I)
  | 58, _ => exact aw_tl (t := 1256) rfl (by decide +kernel) (K M I)
  | 59, _ => exact aw_tl (t := 1256) rfl (by decide +kernel) (K M I)
  | 60, _ => exact aw_tl (t := 1256) rfl (by decide +kernel) (K M I)
  | 61, _ => exact aw_tl (t := 1256) rfl (by decide +kernel) (K M I)
  | 62, _ => exact aw_tl (t := 1256) rfl (by decide +kernel) (K M I)
  | 63, _ => exact aw_tl (t := 1256) rfl (by decide +kernel) (K M I)
  | n + 64, hj => omega
set_option maxRecDepth 100000 in
theorem l_loop {Ln : Nat} {xs : Nat → Int32} (hL : Ln ≤ 2048) : ∀ (m : Nat) (i : Int32) (M : aM), 0 ≤ i.toInt → i.toInt ≤ 2048 → (2048 - i.toInt).toNat = m → h_Inv M → aw (wA, Ln, xs) 9 a_claw 18 [.ref a_scr, .ref 0, .ref a_mo, .int i] [] M l_Q := by
  intro m
  induction m using Nat.strongRecOn with
  | ind m ih =>
    intro i M h0 h1 hm I
    have eL : (Int32.ofNat Ln).toInt = (Ln : Int) := Int32.toInt_ofNat_of_lt (by omega)
    have e4 : (Int32.ofInt 4).toInt = 4 := by decide
    have hd : (Int32.ofNat Ln - Int32.ofInt 4).toInt = (Ln : Int) - 4 := by
      rw [Int32.toInt_sub, eL, e4]
      exact x_bm (by rw [x_mn_e]; omega) (by rw [x_mx_e]; omega)
    refine aw_e rfl rfl rfl ?_
    refine aw_e rfl rfl rfl ?_
    refine aw_e (st' := [.int (Int32.ofNat Ln), .int i]) rfl rfl (by simp only [a_eff, a_aln, a_alen]; rfl) ?_
    refine aw_e rfl rfl rfl ?_
    refine aw_e rfl rfl rfl ?_
    by_cases hgt : (Ln : Int) - 4 < i.toInt
    · refine aw_i2t rfl (decide_eq_true (Int32.lt_iff_toInt_lt.mpr (show (Int32.ofNat Ln - Int32.ofInt 4).toInt < i.toInt by omega))) ?_
      exact l_end
    · refine aw_i2f rfl (decide_eq_false (fun q => hgt (by have : (Int32.ofNat Ln - Int32.ofInt 4).toInt < i.toInt := Int32.lt_iff_toInt_lt.mp q; omega))) ?_
      have h44 : i.toInt ≤ 2044 := by omega
      refine aw_e rfl rfl rfl ?_
      refine aw_e rfl rfl rfl ?_
      refine aw_sl rfl h0 (by omega) ?_
      refine aw_e rfl rfl rfl ?_
      refine aw_e rfl rfl rfl ?_
      obtain ⟨j, hj, e⟩ := pk_andE (xs i.toInt.toNat) (m := 63) 6 (by decide +kernel)
      have e2 := l_sw (Ln := Ln) (xs := xs) h0 h44 (by omega) (fun M2 I2 => ?_) I j hj
      · rw [← e] at e2
        exact e2
      · have hi4 := h_i4 h0 h44
        refine aw_e rfl rfl rfl ?_
        refine aw_e rfl rfl rfl ?_
        exact ih ((2048 - (i + Int32.ofInt 4).toInt).toNat) (by omega) (i + Int32.ofInt 4) M2 (by omega) (by omega) rfl I2
set_option maxRecDepth 100000 in
theorem h_DM0 : h_DM a_M0 := by
  intro u hu i j hij hj
  have h : ∀ u, u < 10 → (h_o a_M0 u 8).toInt = 0 := by decide +kernel
  rw [h u hu] at hj
  omega
set_option maxRecDepth 100000 in
theorem h_eqs0 : h_eqs a_M0 := ⟨by decide +kernel, by decide +kernel, by decide +kernel⟩
set_option maxRecDepth 100000 in
theorem c_main {L : Nat} {xs : Nat → Int32} (hL : L ≤ 2048) : c_law wA L xs := by
  have key : aw (wA, L, xs) 9 a_claw 18 [.ref a_scr, .ref 0, .ref a_mo, .int 0] [] a_M0 l_Q := l_loop hL 2048 0 a_M0 (by decide) (by decide) (by decide) ⟨x_B0, h_DM0, h_eqs0⟩
  obtain ⟨n, v, M', h, hv⟩ := key
  exact ⟨n, M', by rw [h, hv]⟩
