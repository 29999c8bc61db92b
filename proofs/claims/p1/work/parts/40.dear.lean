/-- prices: what the cheapest offers are worth -/
theorem d_val {a b r c : Int32} {x y R C : Int} (ha : a.toInt = x) (hb : b.toInt = y) (h1 : 0 ≤ x ∧ x ≤ 99) (h2 : 0 ≤ y ∧ y ≤ 99) (hr : r.toInt = R) (hc : c.toInt = C) (h3 : 0 ≤ R ∧ R ≤ 12) (h4 : 1 ≤ C ∧ C ≤ 3) : (a * r + b * c).toInt = x * R + y * C := by
  have e1 : 0 ≤ x * R := Int.mul_nonneg h1.1 h3.1
  have e2 : x * R ≤ 99 * 12 := Int.mul_le_mul h1.2 h3.2 h3.1 (by decide)
  have e3 : 0 ≤ y * C := Int.mul_nonneg h2.1 (by omega)
  have e4 : y * C ≤ 99 * 3 := Int.mul_le_mul h2.2 h4.2 (by omega) (by decide)
  rw [Int32.toInt_add, Int32.toInt_mul, Int32.toInt_mul, ha, hb, hr, hc]
  rw [Int.bmod_eq_of_le (n := x * R) (by omega) (by omega), Int.bmod_eq_of_le (n := y * C) (by omega) (by omega), Int.bmod_eq_of_le (by omega) (by omega)]
theorem d_lt {a b r c y : Int32} {R C Y : Int} (h1 : 0 ≤ a.toInt ∧ a.toInt ≤ 99) (h2 : 0 ≤ b.toInt ∧ b.toInt ≤ 99) (hr : r.toInt = R) (hc : c.toInt = C) (h3 : 0 ≤ R ∧ R ≤ 12) (h4 : 1 ≤ C ∧ C ≤ 3) (hy : y.toInt = Y) (h5 : 10000 ≤ Y) : a_cf2 .ge (a * r + b * c) y = false := by
  have e := d_val rfl rfl h1 h2 hr hc h3 h4
  have e2 : a.toInt * R ≤ 99 * 12 := Int.mul_le_mul h1.2 h3.2 h3.1 (by decide)
  have e4 : b.toInt * C ≤ 99 * 3 := Int.mul_le_mul h2.2 h4.2 (by omega) (by decide)
  exact q2_ge_f hy (by rw [e]; omega)
theorem d_ge {a b r c y : Int32} {R C : Int} (h1 : 0 ≤ a.toInt ∧ a.toInt ≤ 99) (h2 : 0 ≤ b.toInt ∧ b.toInt ≤ 99) (hr : r.toInt = R) (hc : c.toInt = C) (h3 : 0 ≤ R ∧ R ≤ 12) (h4 : 1 ≤ C ∧ C ≤ 3) (hy : y.toInt = b.toInt) : a_cf2 .ge (a * r + b * c) y = true := by
  have e := d_val rfl rfl h1 h2 hr hc h3 h4
  have e1 : 0 ≤ a.toInt * R := Int.mul_nonneg h1.1 h3.1
  have e4 : b.toInt * 1 ≤ b.toInt * C := Int.mul_le_mul_of_nonneg_left h4.1 h2.1
  exact q2_ge_t hy (by rw [e]; omega)
theorem d_one {a b r c : Int32} (h1 : 0 ≤ a.toInt ∧ a.toInt ≤ 99) (h2 : 0 ≤ b.toInt ∧ b.toInt ≤ 99) (hr : r.toInt = 0) (hc : c.toInt = 1) : (a * r + b * c).toInt = b.toInt := by
  rw [d_val rfl rfl h1 h2 hr hc (by decide) (by decide)]
  omega
theorem aw_gen {w : aW} {fr : Nat} {cd : List aR} {pc : Nat} {L st : List Value} {M : aM} {Q : Option Value → aM → Prop} {P : aM → Prop} (h : P M) (k : ∀ M1, P M1 → aw w fr cd pc L st M1 Q) : aw w fr cd pc L st M Q := k M h
theorem aw_cm2 {w : aW} {fr : Nat} {cd : List aR} {pc q nx ax wp : Nat} {ins : Instr} {L st : List Value} {M : aM} {Q : Option Value → aM → Prop} {As st2 : List Value} {k : Nat} {P : Option Value → aM → Prop} {mt : aMt} (hf : a_find cd pc = some (q, ins, nx, ax, wp)) (hk : a_kind ins ax = k + 1) (h2 : k < 2) (hm : a_mth[ax]? = some mt) (hc : am w fr ax As M P) (ha : a_args (k + 1) mt st = some (As, st2))
    (kk : ∀ v M1, P v M1 → aw w (fr + 1) cd nx L (v.toList ++ st2) M1 Q) : aw w (fr + 1) cd pc L st M Q := by
  obtain ⟨mt2, hm2, hc⟩ := hc
  rw [hm] at hm2
  cases hm2
  exact aw_ck hf hk h2 hm ha hc kk
theorem dC_it (a b c : Int32) (ha0 : 0 ≤ a.toInt) (ha1 : a.toInt ≤ 999) (hb0 : 0 ≤ b.toInt) (hb1 : b.toInt ≤ 99) (hc0 : 0 ≤ c.toInt) (hc1 : c.toInt ≤ 99) {r k : Int32} {R C : Int} (hr : r.toInt = R) (hR : 0 ≤ R ∧ R ≤ 12) (hk : k.toInt = C) (hC : 1 ≤ C ∧ C ≤ 3) {M : aM} (h4 : M 4 1 = 0) (hw : M 44 0 = 1) (hv : (M 44 1).toInt = c.toInt) {Q : Option Value → aM → Prop} (K : ∀ M1 : aM, M1 4 1 = 0 → M1 44 0 = 1 → (M1 44 1).toInt = c.toInt → aw wC 7 a_e125.2.1 22 [.ref 43, .int a, .int b, .int c, .int r, .int (k + Int32.ofInt 1)] [] M1 Q) : aw wC 7 a_e125.2.1 22 [.ref 43, .int a, .int b, .int c, .int r, .int k] [] M Q := by
  refine aw_e rfl rfl rfl ?_
  refine aw_e rfl rfl rfl ?_
  refine aw_i2f rfl (q2_gt_f (z := 3) (by decide +kernel) (by omega)) ?_
  refine aw_e rfl rfl rfl ?_
  refine aw_e rfl rfl rfl ?_
  refine aw_e rfl rfl rfl ?_
  refine aw_cm2 rfl rfl (by decide) rfl (e_C _ h4 _ _) rfl (fun u M1 hu => ?_)
  obtain ⟨rfl, g4, g44⟩ := hu
  refine aw_e rfl rfl rfl ?_
  refine aw_i2f rfl (q2r_gt_f (z := 0) (by decide +kernel) (by omega)) ?_
  refine aw_e rfl rfl rfl ?_
  refine aw_e rfl rfl rfl ?_
  refine aw_e rfl rfl rfl ?_
  refine aw_e rfl rfl rfl ?_
  refine aw_e rfl rfl rfl ?_
  refine aw_e rfl rfl rfl ?_
  refine aw_e rfl rfl rfl ?_
  refine aw_e rfl rfl rfl ?_
  refine aw_e rfl rfl rfl ?_
  refine aw_e rfl rfl rfl ?_
  refine aw_e rfl rfl rfl ?_
  refine aw_e rfl rfl rfl ?_
  refine aw_e rfl rfl rfl ?_
  refine aw_e rfl rfl rfl ?_
  refine aw_ci rfl rfl (by decide) rfl rfl ?_
  refine aw_e rfl rfl rfl ?_
  refine aw_e rfl rfl rfl ?_
  refine aw_e rfl rfl rfl ?_
  refine aw_i2t rfl (d_ge ⟨hb0, hb1⟩ ⟨hc0, hc1⟩ hr hk hR hC (by rw [g44]; exact hv)) ?_
  refine aw_rv rfl ?_
  refine aw_e rfl rfl rfl ?_
  refine aw_e rfl rfl rfl ?_
  exact K M1 g4 (by rw [g44]; exact hw) (by rw [g44]; exact hv)
theorem dC_row (a b c : Int32) (ha0 : 0 ≤ a.toInt) (ha1 : a.toInt ≤ 999) (hb0 : 0 ≤ b.toInt) (hb1 : b.toInt ≤ 99) (hc0 : 0 ≤ c.toInt) (hc1 : c.toInt ≤ 99) {r : Int32} {x : Value} {R : Int} (hr : r.toInt = R) (hR : 0 ≤ R ∧ R ≤ 12) {M : aM} (h4 : M 4 1 = 0) (hw : M 44 0 = 1) (hv : (M 44 1).toInt = c.toInt) {Q : Option Value → aM → Prop} (K : ∀ M1 : aM, M1 4 1 = 0 → M1 44 0 = 1 → (M1 44 1).toInt = c.toInt → aw wC 7 a_e125.2.1 12 [.ref 43, .int a, .int b, .int c, .int (r + Int32.ofInt 1), .int (Int32.ofInt 1 + Int32.ofInt 1 + Int32.ofInt 1 + Int32.ofInt 1)] [] M1 Q) : aw wC 7 a_e125.2.1 12 [.ref 43, .int a, .int b, .int c, .int r, x] [] M Q := by
  refine aw_e rfl rfl rfl ?_
  refine aw_e rfl rfl rfl ?_
  refine aw_i2f rfl (q2_gt_f (z := 12) (by decide +kernel) (by omega)) ?_
  refine aw_e rfl rfl rfl ?_
  refine aw_e rfl rfl rfl ?_
  refine dC_it a b c ha0 ha1 hb0 hb1 hc0 hc1 (k := Int32.ofInt 1) (C := 1) hr hR (by decide +kernel) (by decide) h4 hw hv (fun M1 h4 hw hv => ?_)
  refine dC_it a b c ha0 ha1 hb0 hb1 hc0 hc1 (C := 2) hr hR (by decide +kernel) (by decide) h4 hw hv (fun M1 h4 hw hv => ?_)
  refine dC_it a b c ha0 ha1 hb0 hb1 hc0 hc1 (C := 3) hr hR (by decide +kernel) (by decide) h4 hw hv (fun M1 h4 hw hv => ?_)
  refine aw_e rfl rfl rfl ?_
  refine aw_e rfl rfl rfl ?_
  refine aw_i2t rfl (by decide +kernel) ?_
  refine aw_e rfl rfl rfl ?_
  refine aw_e rfl rfl rfl ?_
  exact K _ h4 hw hv
set_option maxRecDepth 1000000 in
theorem pC_dear_in (a b c : Int32) (ha0 : 0 ≤ a.toInt) (ha1 : a.toInt ≤ 999) (hb0 : 0 ≤ b.toInt) (hb1 : b.toInt ≤ 99) (hc0 : 0 ≤ c.toInt) (hc1 : c.toInt ≤ 99) : am wC 8 25 [.ref 0, .int a, .int b, .int c] a_M0 (fun u _ => u = some (.int 1)) := by
  refine ⟨_, rfl, ?_⟩
  refine aw_e rfl rfl rfl ?_
  refine aw_i1f rfl (q1_lt_f (by omega)) ?_
  refine aw_e rfl rfl rfl ?_
  refine aw_i1f rfl (q1_lt_f (by omega)) ?_
  refine aw_e rfl rfl rfl ?_
  refine aw_i1t rfl (q1_ge_t (by omega)) ?_
  refine aw_e rfl rfl rfl ?_
  refine aw_e rfl rfl rfl ?_
  refine aw_i2f rfl (q2_gt_f (z := 999) (by decide +kernel) (by omega)) ?_
  refine aw_e rfl rfl rfl ?_
  refine aw_e rfl rfl rfl ?_
  refine aw_i2f rfl (q2_gt_f (z := 99) (by decide +kernel) (by omega)) ?_
  refine aw_e rfl rfl rfl ?_
  refine aw_e rfl rfl rfl ?_
  refine aw_i2t rfl (q2_le_t (z := 99) (by decide +kernel) (by omega)) ?_
  refine aw_e rfl rfl rfl ?_
  refine aw_e rfl rfl rfl ?_
  refine aw_e rfl rfl rfl ?_
  refine aw_e rfl rfl rfl ?_
  refine aw_e rfl rfl rfl ?_
  refine aw_ci rfl rfl (by decide) rfl rfl ?_
  refine aw_e rfl rfl rfl ?_
  refine aw_e rfl rfl rfl ?_
  refine aw_e rfl rfl rfl ?_
  refine aw_ci rfl rfl (by decide) rfl rfl ?_
  refine aw_e rfl rfl rfl ?_
  refine aw_e rfl rfl rfl ?_
  refine aw_e rfl rfl rfl ?_
  refine aw_e rfl rfl rfl ?_
  refine aw_e rfl rfl rfl ?_
  refine aw_e rfl rfl rfl ?_
  refine aw_rv rfl ?_
  refine aw_e rfl rfl rfl ?_
  refine aw_e rfl rfl rfl ?_
  refine aw_e rfl rfl rfl ?_
  refine aw_e rfl rfl rfl ?_
  refine aw_i2f rfl (by decide +kernel) ?_
  refine aw_e rfl rfl rfl ?_
  refine aw_e rfl rfl rfl ?_
  refine aw_e rfl rfl rfl ?_
  refine aw_e rfl rfl rfl ?_
  refine aw_i2f rfl (by decide +kernel) ?_
  refine aw_e rfl rfl rfl ?_
  refine aw_e rfl rfl rfl ?_
  refine aw_e rfl rfl rfl ?_
  refine aw_cm2 rfl rfl (by decide) rfl (e_C _ (by first | (simp [a_up_ap, a_M0]; done) | (simp [a_up_ap]; decide +kernel)) _ _) rfl (fun u M1 hu => ?_)
  obtain ⟨rfl, g4, g44⟩ := hu
  refine aw_e rfl rfl rfl ?_
  refine aw_i2f rfl (q2r_gt_f (z := 0) (by decide +kernel) (by omega)) ?_
  refine aw_e rfl rfl rfl ?_
  refine aw_e rfl rfl rfl ?_
  refine aw_e rfl rfl rfl ?_
  refine aw_e rfl rfl rfl ?_
  refine aw_e rfl rfl rfl ?_
  refine aw_e rfl rfl rfl ?_
  refine aw_e rfl rfl rfl ?_
  refine aw_e rfl rfl rfl ?_
  refine aw_e rfl rfl rfl ?_
  refine aw_e rfl rfl rfl ?_
  refine aw_e rfl rfl rfl ?_
  refine aw_e rfl rfl rfl ?_
  refine aw_e rfl rfl rfl ?_
  refine aw_e rfl rfl rfl ?_
  refine aw_ci rfl rfl (by decide) rfl rfl ?_
  refine aw_e rfl rfl rfl ?_
  refine aw_e rfl rfl rfl ?_
  refine aw_e rfl rfl rfl ?_
  refine aw_i2f rfl (d_lt (Y := 1000000000) (by omega) (by omega) (R := 0) (C := 1) (by decide +kernel) (by decide +kernel) (by decide) (by decide) (by rw [g44]; first | (simp [a_up_ap]; done) | (simp [a_up_ap]; decide +kernel)) (by decide)) ?_
  refine aw_e rfl rfl rfl ?_
  refine aw_e rfl rfl rfl ?_
  refine aw_e rfl rfl rfl ?_
  refine aw_e rfl rfl rfl ?_
  refine aw_e rfl rfl rfl ?_
  refine aw_e rfl rfl rfl ?_
  refine aw_rv rfl ?_
  refine aw_gen (P := fun M => M 4 1 = 0 ∧ M 44 0 = 1 ∧ (M 44 1).toInt = c.toInt) ⟨by simp [a_up_ap, g4], by first | (simp [a_up_ap]; done) | (simp [a_up_ap]; decide +kernel), by first | (simp only [a_up_ap]; simp; exact d_one (by omega) (by omega) (by decide +kernel) (by decide +kernel)) | (simp [a_up_ap]; done)⟩ (fun M h => ?_)
  obtain ⟨h4, hw, hv⟩ := h
  refine aw_e rfl rfl rfl ?_
  refine aw_e rfl rfl rfl ?_
  refine dC_it a b c ha0 ha1 hb0 hb1 hc0 hc1 (r := Int32.ofInt 0) (k := Int32.ofInt 1 + Int32.ofInt 1) (R := 0) (C := 2) (by decide +kernel) (by decide) (by decide +kernel) (by decide) h4 hw hv (fun M1 h4 hw hv => ?_)
  refine dC_it a b c ha0 ha1 hb0 hb1 hc0 hc1 (r := Int32.ofInt 0) (k := Int32.ofInt 1 + Int32.ofInt 1 + Int32.ofInt 1) (R := 0) (C := 3) (by decide +kernel) (by decide) (by decide +kernel) (by decide) h4 hw hv (fun M1 h4 hw hv => ?_)
  refine aw_e rfl rfl rfl ?_
  refine aw_e rfl rfl rfl ?_
  refine aw_i2t rfl (by decide +kernel) ?_
  refine aw_e rfl rfl rfl ?_
  refine aw_e rfl rfl rfl ?_
  refine dC_row a b c ha0 ha1 hb0 hb1 hc0 hc1 (R := 1) (r := Int32.ofInt 0 + Int32.ofInt 1) (x := .int (Int32.ofInt 1 + Int32.ofInt 1 + Int32.ofInt 1 + Int32.ofInt 1)) (by decide +kernel) (by decide) h4 hw hv (fun M1 h4 hw hv => ?_)
  refine dC_row a b c ha0 ha1 hb0 hb1 hc0 hc1 (R := 2) (by decide +kernel) (by decide) h4 hw hv (fun M1 h4 hw hv => ?_)
  refine dC_row a b c ha0 ha1 hb0 hb1 hc0 hc1 (R := 3) (by decide +kernel) (by decide) h4 hw hv (fun M1 h4 hw hv => ?_)
  refine dC_row a b c ha0 ha1 hb0 hb1 hc0 hc1 (R := 4) (by decide +kernel) (by decide) h4 hw hv (fun M1 h4 hw hv => ?_)
  refine dC_row a b c ha0 ha1 hb0 hb1 hc0 hc1 (R := 5) (by decide +kernel) (by decide) h4 hw hv (fun M1 h4 hw hv => ?_)
  refine dC_row a b c ha0 ha1 hb0 hb1 hc0 hc1 (R := 6) (by decide +kernel) (by decide) h4 hw hv (fun M1 h4 hw hv => ?_)
  refine dC_row a b c ha0 ha1 hb0 hb1 hc0 hc1 (R := 7) (by decide +kernel) (by decide) h4 hw hv (fun M1 h4 hw hv => ?_)
  refine dC_row a b c ha0 ha1 hb0 hb1 hc0 hc1 (R := 8) (by decide +kernel) (by decide) h4 hw hv (fun M1 h4 hw hv => ?_)
  refine dC_row a b c ha0 ha1 hb0 hb1 hc0 hc1 (R := 9) (by decide +kernel) (by decide) h4 hw hv (fun M1 h4 hw hv => ?_)
  refine dC_row a b c ha0 ha1 hb0 hb1 hc0 hc1 (R := 10) (by decide +kernel) (by decide) h4 hw hv (fun M1 h4 hw hv => ?_)
  refine dC_row a b c ha0 ha1 hb0 hb1 hc0 hc1 (R := 11) (by decide +kernel) (by decide) h4 hw hv (fun M1 h4 hw hv => ?_)
  refine dC_row a b c ha0 ha1 hb0 hb1 hc0 hc1 (R := 12) (by decide +kernel) (by decide) h4 hw hv (fun M1 h4 hw hv => ?_)
  refine aw_e rfl rfl rfl ?_
  refine aw_e rfl rfl rfl ?_
  refine aw_i2t rfl (by decide +kernel) ?_
  refine aw_rv rfl ?_
  refine aw_e rfl rfl rfl ?_
  refine aw_e rfl rfl rfl ?_
  refine aw_e rfl rfl rfl ?_
  refine aw_e rfl rfl rfl ?_
  refine aw_ri rfl (by first | exact Or.inl rfl | exact Or.inr (by decide +kernel)) ?_
  exact congrArg (fun z => some (Value.int z)) hw
theorem dM_kd : ∀ n : Nat, n < 39 → (Int32.ofNat n / Int32.ofInt 3).toInt = ((n / 3 : Nat) : Int) ∧ (Int32.ofNat n - Int32.ofNat n / Int32.ofInt 3 * Int32.ofInt 3 + Int32.ofInt 1).toInt = ((n % 3 + 1 : Nat) : Int) := by decide +kernel
theorem dM_kk {k : Int32} {K : Nat} (hk : k.toInt = (K : Int)) (h : K < 39) : (k / Int32.ofInt 3).toInt = ((K / 3 : Nat) : Int) ∧ (k - k / Int32.ofInt 3 * Int32.ofInt 3 + Int32.ofInt 1).toInt = ((K % 3 + 1 : Nat) : Int) := by
  have e : k = Int32.ofNat K := Int32.toInt_inj.mp (by rw [Int32.toInt_ofNat_of_lt (by omega)]; exact hk)
  rw [e]
  exact dM_kd K h
theorem dM_it (a b c : Int32) (ha0 : 0 ≤ a.toInt) (ha1 : a.toInt ≤ 999) (hb0 : 0 ≤ b.toInt) (hb1 : b.toInt ≤ 99) (hc0 : 0 ≤ c.toInt) (hc1 : c.toInt ≤ 99) {k y : Int32} {v4 v5 v6 v7 v10 : Value} {K : Nat} (hk : k.toInt = (K : Int)) (hK : K < 39) (hy : y.toInt = c.toInt) {M : aM} {Q : Option Value → aM → Prop} (KK : ∀ (M1 : aM) (x : Int32), aw wM 8 a_e237.2.1 84 [.ref a_mo, .int a, .int b, .int c, v4, v5, v6, v7, .int y, .int (k + Int32.ofInt 1), .int x] [] M1 Q) : aw wM 8 a_e237.2.1 84 [.ref a_mo, .int a, .int b, .int c, v4, v5, v6, v7, .int y, .int k, v10] [] M Q := by
  obtain ⟨k1, k2⟩ := dM_kk hk hK
  refine aw_e rfl rfl rfl ?_
  refine aw_e rfl rfl rfl ?_
  refine aw_i2f rfl (q2_ge_f (z := 39) (by decide +kernel) (by omega)) ?_
  refine aw_e rfl rfl rfl ?_
  refine aw_e rfl rfl rfl ?_
  refine aw_e rfl rfl rfl ?_
  refine aw_e rfl rfl rfl ?_
  refine aw_e rfl rfl rfl ?_
  refine aw_dd rfl (by decide +kernel) ?_
  refine aw_e rfl rfl rfl ?_
  refine aw_e rfl rfl rfl ?_
  refine aw_e rfl rfl rfl ?_
  refine aw_e rfl rfl rfl ?_
  refine aw_e rfl rfl rfl ?_
  refine aw_e rfl rfl rfl ?_
  refine aw_dr rfl (by decide +kernel) ?_
  refine aw_e rfl rfl rfl ?_
  refine aw_e rfl rfl rfl ?_
  refine aw_e rfl rfl rfl ?_
  refine aw_e rfl rfl rfl ?_
  refine aw_e rfl rfl rfl ?_
  refine aw_e rfl rfl rfl ?_
  refine aw_dd rfl (by decide +kernel) ?_
  refine aw_e rfl rfl rfl ?_
  refine aw_e rfl rfl rfl ?_
  refine aw_e rfl rfl rfl ?_
  refine aw_e rfl rfl rfl ?_
  refine aw_dr rfl (by decide +kernel) ?_
  refine aw_e rfl rfl rfl ?_
  refine aw_e rfl rfl rfl ?_
  refine aw_e rfl rfl rfl ?_
  refine aw_e rfl rfl rfl ?_
  refine aw_e rfl rfl rfl ?_
  refine aw_e rfl rfl rfl ?_
  refine aw_e rfl rfl rfl ?_
  refine aw_i2t rfl (d_ge ⟨hb0, hb1⟩ ⟨hc0, hc1⟩ k1 k2 (by omega) (by omega) hy) ?_
  refine aw_e rfl rfl rfl ?_
  refine aw_e rfl rfl rfl ?_
  exact KK _ _
set_option maxRecDepth 1000000 in
theorem pM_dear_in (a b c : Int32) (ha0 : 0 ≤ a.toInt) (ha1 : a.toInt ≤ 999) (hb0 : 0 ≤ b.toInt) (hb1 : b.toInt ≤ 99) (hc0 : 0 ≤ c.toInt) (hc1 : c.toInt ≤ 99) : am wM 8 237 [.ref a_mo, .int a, .int b, .int c] a_M0 (fun u _ => u = some (.int 1)) := by
  refine ⟨_, rfl, ?_⟩
  refine aw_e rfl rfl rfl ?_
  refine aw_i1f rfl (q1_lt_f (by omega)) ?_
  refine aw_e rfl rfl rfl ?_
  refine aw_i1f rfl (q1_lt_f (by omega)) ?_
  refine aw_e rfl rfl rfl ?_
  refine aw_i1t rfl (q1_ge_t (by omega)) ?_
  refine aw_e rfl rfl rfl ?_
  refine aw_e rfl rfl rfl ?_
  refine aw_i2f rfl (q2_gt_f (z := 999) (by decide +kernel) (by omega)) ?_
  refine aw_e rfl rfl rfl ?_
  refine aw_e rfl rfl rfl ?_
  refine aw_i2f rfl (q2_gt_f (z := 99) (by decide +kernel) (by omega)) ?_
  refine aw_e rfl rfl rfl ?_
  refine aw_e rfl rfl rfl ?_
  refine aw_i2t rfl (q2_le_t (z := 99) (by decide +kernel) (by omega)) ?_
  refine aw_e rfl rfl rfl ?_
  refine aw_e rfl rfl rfl ?_
  refine aw_e rfl rfl rfl ?_
  refine aw_i1t rfl (by decide +kernel) ?_
  refine aw_e rfl rfl rfl ?_
  refine aw_e rfl rfl rfl ?_
  refine aw_e rfl rfl rfl ?_
  refine aw_e rfl rfl rfl ?_
  refine aw_e rfl rfl rfl ?_
  refine aw_e rfl rfl rfl ?_
  refine aw_e rfl rfl rfl ?_
  refine aw_e rfl rfl rfl ?_
  refine aw_e rfl rfl rfl ?_
  refine aw_e rfl rfl rfl ?_
  refine aw_e rfl rfl rfl ?_
  refine aw_e rfl rfl rfl ?_
  refine aw_e rfl rfl rfl ?_
  refine aw_e rfl rfl rfl ?_
  refine aw_e rfl rfl rfl ?_
  refine aw_e rfl rfl rfl ?_
  refine aw_e rfl rfl rfl ?_
  refine aw_e rfl rfl rfl ?_
  refine aw_i2f rfl (by decide +kernel) ?_
  refine aw_e rfl rfl rfl ?_
  refine aw_e rfl rfl rfl ?_
  refine aw_e rfl rfl rfl ?_
  refine aw_e rfl rfl rfl ?_
  refine aw_e rfl rfl rfl ?_
  refine aw_dd rfl (by decide +kernel) ?_
  refine aw_e rfl rfl rfl ?_
  refine aw_e rfl rfl rfl ?_
  refine aw_e rfl rfl rfl ?_
  refine aw_e rfl rfl rfl ?_
  refine aw_e rfl rfl rfl ?_
  refine aw_e rfl rfl rfl ?_
  refine aw_dr rfl (by decide +kernel) ?_
  refine aw_e rfl rfl rfl ?_
  refine aw_e rfl rfl rfl ?_
  refine aw_e rfl rfl rfl ?_
  refine aw_e rfl rfl rfl ?_
  refine aw_e rfl rfl rfl ?_
  refine aw_e rfl rfl rfl ?_
  refine aw_dd rfl (by decide +kernel) ?_
  refine aw_e rfl rfl rfl ?_
  refine aw_e rfl rfl rfl ?_
  refine aw_e rfl rfl rfl ?_
  refine aw_e rfl rfl rfl ?_
  refine aw_dr rfl (by decide +kernel) ?_
  refine aw_e rfl rfl rfl ?_
  refine aw_e rfl rfl rfl ?_
  refine aw_e rfl rfl rfl ?_
  refine aw_e rfl rfl rfl ?_
  refine aw_e rfl rfl rfl ?_
  refine aw_e rfl rfl rfl ?_
  refine aw_e rfl rfl rfl ?_
  refine aw_i2f rfl (d_lt (Y := 100000000) (by omega) (by omega) (R := 0) (C := 1) (by decide +kernel) (by decide +kernel) (by decide) (by decide) (by decide +kernel) (by decide)) ?_
  refine aw_e rfl rfl rfl ?_
  refine aw_cm2 rfl rfl (by decide) rfl (e_M _ (by first | (simp [a_up_ap]; done) | (simp [a_up_ap]; decide +kernel)) (by first | (simp [a_up_ap]; done) | (simp [a_up_ap]; decide +kernel))) rfl (fun u M1 hu => ?_)
  obtain ⟨rfl, g4, g5⟩ := hu
  refine aw_e rfl rfl rfl ?_
  refine aw_i2t rfl (q2r_le_t (z := 0) (by decide +kernel) (by omega)) ?_
  refine aw_e rfl rfl rfl ?_
  refine aw_e rfl rfl rfl ?_
  refine aw_e rfl rfl rfl ?_
  refine aw_dd rfl (by decide +kernel) ?_
  refine aw_e rfl rfl rfl ?_
  refine aw_e rfl rfl rfl ?_
  refine aw_e rfl rfl rfl ?_
  refine aw_dr rfl (by decide +kernel) ?_
  refine aw_e rfl rfl rfl ?_
  refine aw_e rfl rfl rfl ?_
  refine aw_e rfl rfl rfl ?_
  refine aw_e rfl rfl rfl ?_
  refine aw_e rfl rfl rfl ?_
  refine aw_e rfl rfl rfl ?_
  refine aw_e rfl rfl rfl ?_
  refine aw_e rfl rfl rfl ?_
  refine dM_it a b c ha0 ha1 hb0 hb1 hc0 hc1 (K := 1) (by decide +kernel) (by decide) (d_one ⟨hb0, hb1⟩ ⟨hc0, hc1⟩ (by decide +kernel) (by decide +kernel)) (fun M1 x => ?_)
  refine dM_it a b c ha0 ha1 hb0 hb1 hc0 hc1 (K := 2) (by decide +kernel) (by decide) (d_one ⟨hb0, hb1⟩ ⟨hc0, hc1⟩ (by decide +kernel) (by decide +kernel)) (fun M1 x => ?_)
  refine dM_it a b c ha0 ha1 hb0 hb1 hc0 hc1 (K := 3) (by decide +kernel) (by decide) (d_one ⟨hb0, hb1⟩ ⟨hc0, hc1⟩ (by decide +kernel) (by decide +kernel)) (fun M1 x => ?_)
  refine dM_it a b c ha0 ha1 hb0 hb1 hc0 hc1 (K := 4) (by decide +kernel) (by decide) (d_one ⟨hb0, hb1⟩ ⟨hc0, hc1⟩ (by decide +kernel) (by decide +kernel)) (fun M1 x => ?_)
  refine dM_it a b c ha0 ha1 hb0 hb1 hc0 hc1 (K := 5) (by decide +kernel) (by decide) (d_one ⟨hb0, hb1⟩ ⟨hc0, hc1⟩ (by decide +kernel) (by decide +kernel)) (fun M1 x => ?_)
  refine dM_it a b c ha0 ha1 hb0 hb1 hc0 hc1 (K := 6) (by decide +kernel) (by decide) (d_one ⟨hb0, hb1⟩ ⟨hc0, hc1⟩ (by decide +kernel) (by decide +kernel)) (fun M1 x => ?_)
  refine dM_it a b c ha0 ha1 hb0 hb1 hc0 hc1 (K := 7) (by decide +kernel) (by decide) (d_one ⟨hb0, hb1⟩ ⟨hc0, hc1⟩ (by decide +kernel) (by decide +kernel)) (fun M1 x => ?_)
  refine dM_it a b c ha0 ha1 hb0 hb1 hc0 hc1 (K := 8) (by decide +kernel) (by decide) (d_one ⟨hb0, hb1⟩ ⟨hc0, hc1⟩ (by decide +kernel) (by decide +kernel)) (fun M1 x => ?_)
  refine dM_it a b c ha0 ha1 hb0 hb1 hc0 hc1 (K := 9) (by decide +kernel) (by decide) (d_one ⟨hb0, hb1⟩ ⟨hc0, hc1⟩ (by decide +kernel) (by decide +kernel)) (fun M1 x => ?_)
  refine dM_it a b c ha0 ha1 hb0 hb1 hc0 hc1 (K := 10) (by decide +kernel) (by decide) (d_one ⟨hb0, hb1⟩ ⟨hc0, hc1⟩ (by decide +kernel) (by decide +kernel)) (fun M1 x => ?_)
  refine dM_it a b c ha0 ha1 hb0 hb1 hc0 hc1 (K := 11) (by decide +kernel) (by decide) (d_one ⟨hb0, hb1⟩ ⟨hc0, hc1⟩ (by decide +kernel) (by decide +kernel)) (fun M1 x => ?_)
  refine dM_it a b c ha0 ha1 hb0 hb1 hc0 hc1 (K := 12) (by decide +kernel) (by decide) (d_one ⟨hb0, hb1⟩ ⟨hc0, hc1⟩ (by decide +kernel) (by decide +kernel)) (fun M1 x => ?_)
  refine dM_it a b c ha0 ha1 hb0 hb1 hc0 hc1 (K := 13) (by decide +kernel) (by decide) (d_one ⟨hb0, hb1⟩ ⟨hc0, hc1⟩ (by decide +kernel) (by decide +kernel)) (fun M1 x => ?_)
  refine dM_it a b c ha0 ha1 hb0 hb1 hc0 hc1 (K := 14) (by decide +kernel) (by decide) (d_one ⟨hb0, hb1⟩ ⟨hc0, hc1⟩ (by decide +kernel) (by decide +kernel)) (fun M1 x => ?_)
  refine dM_it a b c ha0 ha1 hb0 hb1 hc0 hc1 (K := 15) (by decide +kernel) (by decide) (d_one ⟨hb0, hb1⟩ ⟨hc0, hc1⟩ (by decide +kernel) (by decide +kernel)) (fun M1 x => ?_)
  refine dM_it a b c ha0 ha1 hb0 hb1 hc0 hc1 (K := 16) (by decide +kernel) (by decide) (d_one ⟨hb0, hb1⟩ ⟨hc0, hc1⟩ (by decide +kernel) (by decide +kernel)) (fun M1 x => ?_)
  refine dM_it a b c ha0 ha1 hb0 hb1 hc0 hc1 (K := 17) (by decide +kernel) (by decide) (d_one ⟨hb0, hb1⟩ ⟨hc0, hc1⟩ (by decide +kernel) (by decide +kernel)) (fun M1 x => ?_)
  refine dM_it a b c ha0 ha1 hb0 hb1 hc0 hc1 (K := 18) (by decide +kernel) (by decide) (d_one ⟨hb0, hb1⟩ ⟨hc0, hc1⟩ (by decide +kernel) (by decide +kernel)) (fun M1 x => ?_)
  refine dM_it a b c ha0 ha1 hb0 hb1 hc0 hc1 (K := 19) (by decide +kernel) (by decide) (d_one ⟨hb0, hb1⟩ ⟨hc0, hc1⟩ (by decide +kernel) (by decide +kernel)) (fun M1 x => ?_)
  refine dM_it a b c ha0 ha1 hb0 hb1 hc0 hc1 (K := 20) (by decide +kernel) (by decide) (d_one ⟨hb0, hb1⟩ ⟨hc0, hc1⟩ (by decide +kernel) (by decide +kernel)) (fun M1 x => ?_)
  refine dM_it a b c ha0 ha1 hb0 hb1 hc0 hc1 (K := 21) (by decide +kernel) (by decide) (d_one ⟨hb0, hb1⟩ ⟨hc0, hc1⟩ (by decide +kernel) (by decide +kernel)) (fun M1 x => ?_)
  refine dM_it a b c ha0 ha1 hb0 hb1 hc0 hc1 (K := 22) (by decide +kernel) (by decide) (d_one ⟨hb0, hb1⟩ ⟨hc0, hc1⟩ (by decide +kernel) (by decide +kernel)) (fun M1 x => ?_)
  refine dM_it a b c ha0 ha1 hb0 hb1 hc0 hc1 (K := 23) (by decide +kernel) (by decide) (d_one ⟨hb0, hb1⟩ ⟨hc0, hc1⟩ (by decide +kernel) (by decide +kernel)) (fun M1 x => ?_)
  refine dM_it a b c ha0 ha1 hb0 hb1 hc0 hc1 (K := 24) (by decide +kernel) (by decide) (d_one ⟨hb0, hb1⟩ ⟨hc0, hc1⟩ (by decide +kernel) (by decide +kernel)) (fun M1 x => ?_)
  refine dM_it a b c ha0 ha1 hb0 hb1 hc0 hc1 (K := 25) (by decide +kernel) (by decide) (d_one ⟨hb0, hb1⟩ ⟨hc0, hc1⟩ (by decide +kernel) (by decide +kernel)) (fun M1 x => ?_)
  refine dM_it a b c ha0 ha1 hb0 hb1 hc0 hc1 (K := 26) (by decide +kernel) (by decide) (d_one ⟨hb0, hb1⟩ ⟨hc0, hc1⟩ (by decide +kernel) (by decide +kernel)) (fun M1 x => ?_)
  refine dM_it a b c ha0 ha1 hb0 hb1 hc0 hc1 (K := 27) (by decide +kernel) (by decide) (d_one ⟨hb0, hb1⟩ ⟨hc0, hc1⟩ (by decide +kernel) (by decide +kernel)) (fun M1 x => ?_)
  refine dM_it a b c ha0 ha1 hb0 hb1 hc0 hc1 (K := 28) (by decide +kernel) (by decide) (d_one ⟨hb0, hb1⟩ ⟨hc0, hc1⟩ (by decide +kernel) (by decide +kernel)) (fun M1 x => ?_)
  refine dM_it a b c ha0 ha1 hb0 hb1 hc0 hc1 (K := 29) (by decide +kernel) (by decide) (d_one ⟨hb0, hb1⟩ ⟨hc0, hc1⟩ (by decide +kernel) (by decide +kernel)) (fun M1 x => ?_)
  refine dM_it a b c ha0 ha1 hb0 hb1 hc0 hc1 (K := 30) (by decide +kernel) (by decide) (d_one ⟨hb0, hb1⟩ ⟨hc0, hc1⟩ (by decide +kernel) (by decide +kernel)) (fun M1 x => ?_)
  refine dM_it a b c ha0 ha1 hb0 hb1 hc0 hc1 (K := 31) (by decide +kernel) (by decide) (d_one ⟨hb0, hb1⟩ ⟨hc0, hc1⟩ (by decide +kernel) (by decide +kernel)) (fun M1 x => ?_)
  refine dM_it a b c ha0 ha1 hb0 hb1 hc0 hc1 (K := 32) (by decide +kernel) (by decide) (d_one ⟨hb0, hb1⟩ ⟨hc0, hc1⟩ (by decide +kernel) (by decide +kernel)) (fun M1 x => ?_)
  refine dM_it a b c ha0 ha1 hb0 hb1 hc0 hc1 (K := 33) (by decide +kernel) (by decide) (d_one ⟨hb0, hb1⟩ ⟨hc0, hc1⟩ (by decide +kernel) (by decide +kernel)) (fun M1 x => ?_)
  refine dM_it a b c ha0 ha1 hb0 hb1 hc0 hc1 (K := 34) (by decide +kernel) (by decide) (d_one ⟨hb0, hb1⟩ ⟨hc0, hc1⟩ (by decide +kernel) (by decide +kernel)) (fun M1 x => ?_)
  refine dM_it a b c ha0 ha1 hb0 hb1 hc0 hc1 (K := 35) (by decide +kernel) (by decide) (d_one ⟨hb0, hb1⟩ ⟨hc0, hc1⟩ (by decide +kernel) (by decide +kernel)) (fun M1 x => ?_)
  refine dM_it a b c ha0 ha1 hb0 hb1 hc0 hc1 (K := 36) (by decide +kernel) (by decide) (d_one ⟨hb0, hb1⟩ ⟨hc0, hc1⟩ (by decide +kernel) (by decide +kernel)) (fun M1 x => ?_)
  refine dM_it a b c ha0 ha1 hb0 hb1 hc0 hc1 (K := 37) (by decide +kernel) (by decide) (d_one ⟨hb0, hb1⟩ ⟨hc0, hc1⟩ (by decide +kernel) (by decide +kernel)) (fun M1 x => ?_)
  refine dM_it a b c ha0 ha1 hb0 hb1 hc0 hc1 (K := 38) (by decide +kernel) (by decide) (d_one ⟨hb0, hb1⟩ ⟨hc0, hc1⟩ (by decide +kernel) (by decide +kernel)) (fun M1 x => ?_)
  refine aw_e rfl rfl rfl ?_
  refine aw_e rfl rfl rfl ?_
  refine aw_i2t rfl (by decide +kernel) ?_
  refine aw_e rfl rfl rfl ?_
  refine aw_e rfl rfl rfl ?_
  refine aw_e rfl rfl rfl ?_
  refine aw_e rfl rfl rfl ?_
  refine aw_e rfl rfl rfl ?_
  refine aw_e rfl rfl rfl ?_
  refine aw_e rfl rfl rfl ?_
  refine aw_e rfl rfl rfl ?_
  refine aw_e rfl rfl rfl ?_
  refine aw_e rfl rfl rfl ?_
  refine aw_e rfl rfl rfl ?_
  refine aw_ri rfl (by first | exact Or.inl rfl | exact Or.inr (by decide +kernel)) ?_
  exact congrArg (fun z => some (Value.int z)) (by decide +kernel)
theorem pC_dear_0 (a : Int32) (ha1 : a.toInt ≤ (-1)) (b : Int32) (c : Int32) : am wC 8 25 [.ref 0, .int a, .int b, .int c] a_M0 (fun u _ => u = some (.int (-4))) := by
  refine ⟨_, rfl, ?_⟩
  refine aw_e rfl rfl rfl ?_
  refine aw_i1t rfl (q1_lt_t (by omega)) ?_
  refine aw_e rfl rfl rfl ?_
  refine aw_e rfl rfl rfl ?_
  refine aw_ck (P := fun u _ => u = some (.int (-4))) rfl rfl (by decide) rfl rfl (aw_k 100000 (by decide +kernel)) (fun u M1 hu => ?_)
  subst hu
  refine aw_ri rfl (by first | exact Or.inl rfl | exact Or.inr (by decide +kernel)) ?_
  exact congrArg (fun z => some (Value.int z)) (by first | decide +kernel | (simp only [a_up_ap]; decide +kernel) | (simp +decide only [a_up_ap]; decide +kernel) | rfl | (simp [a_up_ap]; done))
theorem pM_dear_0 (a : Int32) (ha1 : a.toInt ≤ (-1)) (b : Int32) (c : Int32) : am wM 8 237 [.ref a_mo, .int a, .int b, .int c] a_M0 (fun u _ => u = some (.int (-4))) := by
  refine ⟨_, rfl, ?_⟩
  refine aw_e rfl rfl rfl ?_
  refine aw_i1t rfl (q1_lt_t (by omega)) ?_
  refine aw_e rfl rfl rfl ?_
  refine aw_e rfl rfl rfl ?_
  refine aw_e rfl rfl rfl ?_
  refine aw_e rfl rfl rfl ?_
  refine aw_i1f rfl (by decide +kernel) ?_
  refine aw_e rfl rfl rfl ?_
  refine aw_e rfl rfl rfl ?_
  refine aw_ck (P := fun u _ => u = some (.int (-4))) rfl rfl (by decide) rfl rfl (aw_k 100000 (by decide +kernel)) (fun u M1 hu => ?_)
  subst hu
  refine aw_ri rfl (by first | exact Or.inl rfl | exact Or.inr (by decide +kernel)) ?_
  exact congrArg (fun z => some (Value.int z)) (by first | decide +kernel | (simp only [a_up_ap]; decide +kernel) | (simp +decide only [a_up_ap]; decide +kernel) | rfl | (simp [a_up_ap]; done))
theorem pC_dear_1 (a : Int32) (ha0 : 0 ≤ a.toInt) (ha1 : a.toInt ≤ 999) (b : Int32) (hb1 : b.toInt ≤ (-1)) (c : Int32) : am wC 8 25 [.ref 0, .int a, .int b, .int c] a_M0 (fun u _ => u = some (.int (-4))) := by
  refine ⟨_, rfl, ?_⟩
  refine aw_e rfl rfl rfl ?_
  refine aw_i1f rfl (q1_lt_f (by omega)) ?_
  refine aw_e rfl rfl rfl ?_
  refine aw_i1t rfl (q1_lt_t (by omega)) ?_
  refine aw_e rfl rfl rfl ?_
  refine aw_e rfl rfl rfl ?_
  refine aw_ck (P := fun u _ => u = some (.int (-4))) rfl rfl (by decide) rfl rfl (aw_k 100000 (by decide +kernel)) (fun u M1 hu => ?_)
  subst hu
  refine aw_ri rfl (by first | exact Or.inl rfl | exact Or.inr (by decide +kernel)) ?_
  exact congrArg (fun z => some (Value.int z)) (by first | decide +kernel | (simp only [a_up_ap]; decide +kernel) | (simp +decide only [a_up_ap]; decide +kernel) | rfl | (simp [a_up_ap]; done))
theorem pM_dear_1 (a : Int32) (ha0 : 0 ≤ a.toInt) (ha1 : a.toInt ≤ 999) (b : Int32) (hb1 : b.toInt ≤ (-1)) (c : Int32) : am wM 8 237 [.ref a_mo, .int a, .int b, .int c] a_M0 (fun u _ => u = some (.int (-4))) := by
  refine ⟨_, rfl, ?_⟩
  refine aw_e rfl rfl rfl ?_
  refine aw_i1f rfl (q1_lt_f (by omega)) ?_
  refine aw_e rfl rfl rfl ?_
  refine aw_i1t rfl (q1_lt_t (by omega)) ?_
  refine aw_e rfl rfl rfl ?_
  refine aw_e rfl rfl rfl ?_
  refine aw_e rfl rfl rfl ?_
  refine aw_e rfl rfl rfl ?_
  refine aw_i1f rfl (by decide +kernel) ?_
  refine aw_e rfl rfl rfl ?_
  refine aw_e rfl rfl rfl ?_
  refine aw_ck (P := fun u _ => u = some (.int (-4))) rfl rfl (by decide) rfl rfl (aw_k 100000 (by decide +kernel)) (fun u M1 hu => ?_)
  subst hu
  refine aw_ri rfl (by first | exact Or.inl rfl | exact Or.inr (by decide +kernel)) ?_
  exact congrArg (fun z => some (Value.int z)) (by first | decide +kernel | (simp only [a_up_ap]; decide +kernel) | (simp +decide only [a_up_ap]; decide +kernel) | rfl | (simp [a_up_ap]; done))
theorem pC_dear_2 (a : Int32) (ha0 : 0 ≤ a.toInt) (ha1 : a.toInt ≤ 999) (b : Int32) (hb0 : 0 ≤ b.toInt) (hb1 : b.toInt ≤ 99) (c : Int32) (hc1 : c.toInt ≤ (-1)) : am wC 8 25 [.ref 0, .int a, .int b, .int c] a_M0 (fun u _ => u = some (.int (-4))) := by
  refine ⟨_, rfl, ?_⟩
  refine aw_e rfl rfl rfl ?_
  refine aw_i1f rfl (q1_lt_f (by omega)) ?_
  refine aw_e rfl rfl rfl ?_
  refine aw_i1f rfl (q1_lt_f (by omega)) ?_
  refine aw_e rfl rfl rfl ?_
  refine aw_i1f rfl (q1_ge_f (by omega)) ?_
  refine aw_e rfl rfl rfl ?_
  refine aw_e rfl rfl rfl ?_
  refine aw_ck (P := fun u _ => u = some (.int (-4))) rfl rfl (by decide) rfl rfl (aw_k 100000 (by decide +kernel)) (fun u M1 hu => ?_)
  subst hu
  refine aw_ri rfl (by first | exact Or.inl rfl | exact Or.inr (by decide +kernel)) ?_
  exact congrArg (fun z => some (Value.int z)) (by first | decide +kernel | (simp only [a_up_ap]; decide +kernel) | (simp +decide only [a_up_ap]; decide +kernel) | rfl | (simp [a_up_ap]; done))
theorem pM_dear_2 (a : Int32) (ha0 : 0 ≤ a.toInt) (ha1 : a.toInt ≤ 999) (b : Int32) (hb0 : 0 ≤ b.toInt) (hb1 : b.toInt ≤ 99) (c : Int32) (hc1 : c.toInt ≤ (-1)) : am wM 8 237 [.ref a_mo, .int a, .int b, .int c] a_M0 (fun u _ => u = some (.int (-4))) := by
  refine ⟨_, rfl, ?_⟩
  refine aw_e rfl rfl rfl ?_
  refine aw_i1f rfl (q1_lt_f (by omega)) ?_
  refine aw_e rfl rfl rfl ?_
  refine aw_i1f rfl (q1_lt_f (by omega)) ?_
  refine aw_e rfl rfl rfl ?_
  refine aw_i1f rfl (q1_ge_f (by omega)) ?_
  refine aw_e rfl rfl rfl ?_
  refine aw_e rfl rfl rfl ?_
  refine aw_e rfl rfl rfl ?_
  refine aw_e rfl rfl rfl ?_
  refine aw_i1f rfl (by decide +kernel) ?_
  refine aw_e rfl rfl rfl ?_
  refine aw_e rfl rfl rfl ?_
  refine aw_ck (P := fun u _ => u = some (.int (-4))) rfl rfl (by decide) rfl rfl (aw_k 100000 (by decide +kernel)) (fun u M1 hu => ?_)
  subst hu
  refine aw_ri rfl (by first | exact Or.inl rfl | exact Or.inr (by decide +kernel)) ?_
  exact congrArg (fun z => some (Value.int z)) (by first | decide +kernel | (simp only [a_up_ap]; decide +kernel) | (simp +decide only [a_up_ap]; decide +kernel) | rfl | (simp [a_up_ap]; done))
theorem pC_dear_3 (a : Int32) (ha0 : 0 ≤ a.toInt) (ha1 : a.toInt ≤ 999) (b : Int32) (hb0 : 0 ≤ b.toInt) (hb1 : b.toInt ≤ 99) (c : Int32) (hc0 : 100 ≤ c.toInt) : am wC 8 25 [.ref 0, .int a, .int b, .int c] a_M0 (fun u _ => u = some (.int (-6))) := by
  refine ⟨_, rfl, ?_⟩
  refine aw_e rfl rfl rfl ?_
  refine aw_i1f rfl (q1_lt_f (by omega)) ?_
  refine aw_e rfl rfl rfl ?_
  refine aw_i1f rfl (q1_lt_f (by omega)) ?_
  refine aw_e rfl rfl rfl ?_
  refine aw_i1t rfl (q1_ge_t (by omega)) ?_
  refine aw_e rfl rfl rfl ?_
  refine aw_e rfl rfl rfl ?_
  refine aw_i2f rfl (q2_gt_f (z := 999) (by decide +kernel) (by omega)) ?_
  refine aw_e rfl rfl rfl ?_
  refine aw_e rfl rfl rfl ?_
  refine aw_i2f rfl (q2_gt_f (z := 99) (by decide +kernel) (by omega)) ?_
  refine aw_e rfl rfl rfl ?_
  refine aw_e rfl rfl rfl ?_
  refine aw_i2f rfl (q2_le_f (z := 99) (by decide +kernel) (by omega)) ?_
  refine aw_e rfl rfl rfl ?_
  refine aw_e rfl rfl rfl ?_
  refine aw_ck (P := fun u _ => u = some (.int (-6))) rfl rfl (by decide) rfl rfl (aw_k 100000 (by decide +kernel)) (fun u M1 hu => ?_)
  subst hu
  refine aw_ri rfl (by first | exact Or.inl rfl | exact Or.inr (by decide +kernel)) ?_
  exact congrArg (fun z => some (Value.int z)) (by first | decide +kernel | (simp only [a_up_ap]; decide +kernel) | (simp +decide only [a_up_ap]; decide +kernel) | rfl | (simp [a_up_ap]; done))
theorem pM_dear_3 (a : Int32) (ha0 : 0 ≤ a.toInt) (ha1 : a.toInt ≤ 999) (b : Int32) (hb0 : 0 ≤ b.toInt) (hb1 : b.toInt ≤ 99) (c : Int32) (hc0 : 100 ≤ c.toInt) : am wM 8 237 [.ref a_mo, .int a, .int b, .int c] a_M0 (fun u _ => u = some (.int (-6))) := by
  refine ⟨_, rfl, ?_⟩
  refine aw_e rfl rfl rfl ?_
  refine aw_i1f rfl (q1_lt_f (by omega)) ?_
  refine aw_e rfl rfl rfl ?_
  refine aw_i1f rfl (q1_lt_f (by omega)) ?_
  refine aw_e rfl rfl rfl ?_
  refine aw_i1t rfl (q1_ge_t (by omega)) ?_
  refine aw_e rfl rfl rfl ?_
  refine aw_e rfl rfl rfl ?_
  refine aw_i2f rfl (q2_gt_f (z := 999) (by decide +kernel) (by omega)) ?_
  refine aw_e rfl rfl rfl ?_
  refine aw_e rfl rfl rfl ?_
  refine aw_i2f rfl (q2_gt_f (z := 99) (by decide +kernel) (by omega)) ?_
  refine aw_e rfl rfl rfl ?_
  refine aw_e rfl rfl rfl ?_
  refine aw_i2f rfl (q2_le_f (z := 99) (by decide +kernel) (by omega)) ?_
  refine aw_e rfl rfl rfl ?_
  refine aw_e rfl rfl rfl ?_
  refine aw_e rfl rfl rfl ?_
  refine aw_e rfl rfl rfl ?_
  refine aw_i1f rfl (by decide +kernel) ?_
  refine aw_e rfl rfl rfl ?_
  refine aw_e rfl rfl rfl ?_
  refine aw_ck (P := fun u _ => u = some (.int (-6))) rfl rfl (by decide) rfl rfl (aw_k 100000 (by decide +kernel)) (fun u M1 hu => ?_)
  subst hu
  refine aw_ri rfl (by first | exact Or.inl rfl | exact Or.inr (by decide +kernel)) ?_
  exact congrArg (fun z => some (Value.int z)) (by first | decide +kernel | (simp only [a_up_ap]; decide +kernel) | (simp +decide only [a_up_ap]; decide +kernel) | rfl | (simp [a_up_ap]; done))
theorem pC_dear_4 (a : Int32) (ha0 : 0 ≤ a.toInt) (ha1 : a.toInt ≤ 999) (b : Int32) (hb0 : 100 ≤ b.toInt) (c : Int32) (hc1 : c.toInt ≤ (-1)) : am wC 8 25 [.ref 0, .int a, .int b, .int c] a_M0 (fun u _ => u = some (.int (-4))) := by
  refine ⟨_, rfl, ?_⟩
  refine aw_e rfl rfl rfl ?_
  refine aw_i1f rfl (q1_lt_f (by omega)) ?_
  refine aw_e rfl rfl rfl ?_
  refine aw_i1f rfl (q1_lt_f (by omega)) ?_
  refine aw_e rfl rfl rfl ?_
  refine aw_i1f rfl (q1_ge_f (by omega)) ?_
  refine aw_e rfl rfl rfl ?_
  refine aw_e rfl rfl rfl ?_
  refine aw_ck (P := fun u _ => u = some (.int (-4))) rfl rfl (by decide) rfl rfl (aw_k 100000 (by decide +kernel)) (fun u M1 hu => ?_)
  subst hu
  refine aw_ri rfl (by first | exact Or.inl rfl | exact Or.inr (by decide +kernel)) ?_
  exact congrArg (fun z => some (Value.int z)) (by first | decide +kernel | (simp only [a_up_ap]; decide +kernel) | (simp +decide only [a_up_ap]; decide +kernel) | rfl | (simp [a_up_ap]; done))
theorem pM_dear_4 (a : Int32) (ha0 : 0 ≤ a.toInt) (ha1 : a.toInt ≤ 999) (b : Int32) (hb0 : 100 ≤ b.toInt) (c : Int32) (hc1 : c.toInt ≤ (-1)) : am wM 8 237 [.ref a_mo, .int a, .int b, .int c] a_M0 (fun u _ => u = some (.int (-4))) := by
  refine ⟨_, rfl, ?_⟩
  refine aw_e rfl rfl rfl ?_
  refine aw_i1f rfl (q1_lt_f (by omega)) ?_
  refine aw_e rfl rfl rfl ?_
  refine aw_i1f rfl (q1_lt_f (by omega)) ?_
  refine aw_e rfl rfl rfl ?_
  refine aw_i1f rfl (q1_ge_f (by omega)) ?_
  refine aw_e rfl rfl rfl ?_
  refine aw_e rfl rfl rfl ?_
  refine aw_e rfl rfl rfl ?_
  refine aw_e rfl rfl rfl ?_
  refine aw_i1f rfl (by decide +kernel) ?_
  refine aw_e rfl rfl rfl ?_
  refine aw_e rfl rfl rfl ?_
  refine aw_ck (P := fun u _ => u = some (.int (-4))) rfl rfl (by decide) rfl rfl (aw_k 100000 (by decide +kernel)) (fun u M1 hu => ?_)
  subst hu
  refine aw_ri rfl (by first | exact Or.inl rfl | exact Or.inr (by decide +kernel)) ?_
  exact congrArg (fun z => some (Value.int z)) (by first | decide +kernel | (simp only [a_up_ap]; decide +kernel) | (simp +decide only [a_up_ap]; decide +kernel) | rfl | (simp [a_up_ap]; done))
theorem pC_dear_5 (a : Int32) (ha0 : 0 ≤ a.toInt) (ha1 : a.toInt ≤ 999) (b : Int32) (hb0 : 100 ≤ b.toInt) (c : Int32) (hc0 : 0 ≤ c.toInt) : am wC 8 25 [.ref 0, .int a, .int b, .int c] a_M0 (fun u _ => u = some (.int (-6))) := by
  refine ⟨_, rfl, ?_⟩
  refine aw_e rfl rfl rfl ?_
  refine aw_i1f rfl (q1_lt_f (by omega)) ?_
  refine aw_e rfl rfl rfl ?_
  refine aw_i1f rfl (q1_lt_f (by omega)) ?_
  refine aw_e rfl rfl rfl ?_
  refine aw_i1t rfl (q1_ge_t (by omega)) ?_
  refine aw_e rfl rfl rfl ?_
  refine aw_e rfl rfl rfl ?_
  refine aw_i2f rfl (q2_gt_f (z := 999) (by decide +kernel) (by omega)) ?_
  refine aw_e rfl rfl rfl ?_
  refine aw_e rfl rfl rfl ?_
  refine aw_i2t rfl (q2_gt_t (z := 99) (by decide +kernel) (by omega)) ?_
  refine aw_e rfl rfl rfl ?_
  refine aw_e rfl rfl rfl ?_
  refine aw_ck (P := fun u _ => u = some (.int (-6))) rfl rfl (by decide) rfl rfl (aw_k 100000 (by decide +kernel)) (fun u M1 hu => ?_)
  subst hu
  refine aw_ri rfl (by first | exact Or.inl rfl | exact Or.inr (by decide +kernel)) ?_
  exact congrArg (fun z => some (Value.int z)) (by first | decide +kernel | (simp only [a_up_ap]; decide +kernel) | (simp +decide only [a_up_ap]; decide +kernel) | rfl | (simp [a_up_ap]; done))
theorem pM_dear_5 (a : Int32) (ha0 : 0 ≤ a.toInt) (ha1 : a.toInt ≤ 999) (b : Int32) (hb0 : 100 ≤ b.toInt) (c : Int32) (hc0 : 0 ≤ c.toInt) : am wM 8 237 [.ref a_mo, .int a, .int b, .int c] a_M0 (fun u _ => u = some (.int (-6))) := by
  refine ⟨_, rfl, ?_⟩
  refine aw_e rfl rfl rfl ?_
  refine aw_i1f rfl (q1_lt_f (by omega)) ?_
  refine aw_e rfl rfl rfl ?_
  refine aw_i1f rfl (q1_lt_f (by omega)) ?_
  refine aw_e rfl rfl rfl ?_
  refine aw_i1t rfl (q1_ge_t (by omega)) ?_
  refine aw_e rfl rfl rfl ?_
  refine aw_e rfl rfl rfl ?_
  refine aw_i2f rfl (q2_gt_f (z := 999) (by decide +kernel) (by omega)) ?_
  refine aw_e rfl rfl rfl ?_
  refine aw_e rfl rfl rfl ?_
  refine aw_i2t rfl (q2_gt_t (z := 99) (by decide +kernel) (by omega)) ?_
  refine aw_e rfl rfl rfl ?_
  refine aw_e rfl rfl rfl ?_
  refine aw_e rfl rfl rfl ?_
  refine aw_e rfl rfl rfl ?_
  refine aw_i1f rfl (by decide +kernel) ?_
  refine aw_e rfl rfl rfl ?_
  refine aw_e rfl rfl rfl ?_
  refine aw_ck (P := fun u _ => u = some (.int (-6))) rfl rfl (by decide) rfl rfl (aw_k 100000 (by decide +kernel)) (fun u M1 hu => ?_)
  subst hu
  refine aw_ri rfl (by first | exact Or.inl rfl | exact Or.inr (by decide +kernel)) ?_
  exact congrArg (fun z => some (Value.int z)) (by first | decide +kernel | (simp only [a_up_ap]; decide +kernel) | (simp +decide only [a_up_ap]; decide +kernel) | rfl | (simp [a_up_ap]; done))
theorem pC_dear_6 (a : Int32) (ha0 : 1000 ≤ a.toInt) (b : Int32) (hb1 : b.toInt ≤ (-1)) (c : Int32) : am wC 8 25 [.ref 0, .int a, .int b, .int c] a_M0 (fun u _ => u = some (.int (-4))) := by
  refine ⟨_, rfl, ?_⟩
  refine aw_e rfl rfl rfl ?_
  refine aw_i1f rfl (q1_lt_f (by omega)) ?_
  refine aw_e rfl rfl rfl ?_
  refine aw_i1t rfl (q1_lt_t (by omega)) ?_
  refine aw_e rfl rfl rfl ?_
  refine aw_e rfl rfl rfl ?_
  refine aw_ck (P := fun u _ => u = some (.int (-4))) rfl rfl (by decide) rfl rfl (aw_k 100000 (by decide +kernel)) (fun u M1 hu => ?_)
  subst hu
  refine aw_ri rfl (by first | exact Or.inl rfl | exact Or.inr (by decide +kernel)) ?_
  exact congrArg (fun z => some (Value.int z)) (by first | decide +kernel | (simp only [a_up_ap]; decide +kernel) | (simp +decide only [a_up_ap]; decide +kernel) | rfl | (simp [a_up_ap]; done))
theorem pM_dear_6 (a : Int32) (ha0 : 1000 ≤ a.toInt) (b : Int32) (hb1 : b.toInt ≤ (-1)) (c : Int32) : am wM 8 237 [.ref a_mo, .int a, .int b, .int c] a_M0 (fun u _ => u = some (.int (-4))) := by
  refine ⟨_, rfl, ?_⟩
  refine aw_e rfl rfl rfl ?_
  refine aw_i1f rfl (q1_lt_f (by omega)) ?_
  refine aw_e rfl rfl rfl ?_
  refine aw_i1t rfl (q1_lt_t (by omega)) ?_
  refine aw_e rfl rfl rfl ?_
  refine aw_e rfl rfl rfl ?_
  refine aw_e rfl rfl rfl ?_
  refine aw_e rfl rfl rfl ?_
  refine aw_i1f rfl (by decide +kernel) ?_
  refine aw_e rfl rfl rfl ?_
  refine aw_e rfl rfl rfl ?_
  refine aw_ck (P := fun u _ => u = some (.int (-4))) rfl rfl (by decide) rfl rfl (aw_k 100000 (by decide +kernel)) (fun u M1 hu => ?_)
  subst hu
  refine aw_ri rfl (by first | exact Or.inl rfl | exact Or.inr (by decide +kernel)) ?_
  exact congrArg (fun z => some (Value.int z)) (by first | decide +kernel | (simp only [a_up_ap]; decide +kernel) | (simp +decide only [a_up_ap]; decide +kernel) | rfl | (simp [a_up_ap]; done))
theorem pC_dear_7 (a : Int32) (ha0 : 1000 ≤ a.toInt) (b : Int32) (hb0 : 0 ≤ b.toInt) (c : Int32) (hc1 : c.toInt ≤ (-1)) : am wC 8 25 [.ref 0, .int a, .int b, .int c] a_M0 (fun u _ => u = some (.int (-4))) := by
  refine ⟨_, rfl, ?_⟩
  refine aw_e rfl rfl rfl ?_
  refine aw_i1f rfl (q1_lt_f (by omega)) ?_
  refine aw_e rfl rfl rfl ?_
  refine aw_i1f rfl (q1_lt_f (by omega)) ?_
  refine aw_e rfl rfl rfl ?_
  refine aw_i1f rfl (q1_ge_f (by omega)) ?_
  refine aw_e rfl rfl rfl ?_
  refine aw_e rfl rfl rfl ?_
  refine aw_ck (P := fun u _ => u = some (.int (-4))) rfl rfl (by decide) rfl rfl (aw_k 100000 (by decide +kernel)) (fun u M1 hu => ?_)
  subst hu
  refine aw_ri rfl (by first | exact Or.inl rfl | exact Or.inr (by decide +kernel)) ?_
  exact congrArg (fun z => some (Value.int z)) (by first | decide +kernel | (simp only [a_up_ap]; decide +kernel) | (simp +decide only [a_up_ap]; decide +kernel) | rfl | (simp [a_up_ap]; done))
theorem pM_dear_7 (a : Int32) (ha0 : 1000 ≤ a.toInt) (b : Int32) (hb0 : 0 ≤ b.toInt) (c : Int32) (hc1 : c.toInt ≤ (-1)) : am wM 8 237 [.ref a_mo, .int a, .int b, .int c] a_M0 (fun u _ => u = some (.int (-4))) := by
  refine ⟨_, rfl, ?_⟩
  refine aw_e rfl rfl rfl ?_
  refine aw_i1f rfl (q1_lt_f (by omega)) ?_
  refine aw_e rfl rfl rfl ?_
  refine aw_i1f rfl (q1_lt_f (by omega)) ?_
  refine aw_e rfl rfl rfl ?_
  refine aw_i1f rfl (q1_ge_f (by omega)) ?_
  refine aw_e rfl rfl rfl ?_
  refine aw_e rfl rfl rfl ?_
  refine aw_e rfl rfl rfl ?_
  refine aw_e rfl rfl rfl ?_
  refine aw_i1f rfl (by decide +kernel) ?_
  refine aw_e rfl rfl rfl ?_
  refine aw_e rfl rfl rfl ?_
  refine aw_ck (P := fun u _ => u = some (.int (-4))) rfl rfl (by decide) rfl rfl (aw_k 100000 (by decide +kernel)) (fun u M1 hu => ?_)
  subst hu
  refine aw_ri rfl (by first | exact Or.inl rfl | exact Or.inr (by decide +kernel)) ?_
  exact congrArg (fun z => some (Value.int z)) (by first | decide +kernel | (simp only [a_up_ap]; decide +kernel) | (simp +decide only [a_up_ap]; decide +kernel) | rfl | (simp [a_up_ap]; done))
theorem pC_dear_8 (a : Int32) (ha0 : 1000 ≤ a.toInt) (b : Int32) (hb0 : 0 ≤ b.toInt) (c : Int32) (hc0 : 0 ≤ c.toInt) : am wC 8 25 [.ref 0, .int a, .int b, .int c] a_M0 (fun u _ => u = some (.int (-6))) := by
  refine ⟨_, rfl, ?_⟩
  refine aw_e rfl rfl rfl ?_
  refine aw_i1f rfl (q1_lt_f (by omega)) ?_
  refine aw_e rfl rfl rfl ?_
  refine aw_i1f rfl (q1_lt_f (by omega)) ?_
  refine aw_e rfl rfl rfl ?_
  refine aw_i1t rfl (q1_ge_t (by omega)) ?_
  refine aw_e rfl rfl rfl ?_
  refine aw_e rfl rfl rfl ?_
  refine aw_i2t rfl (q2_gt_t (z := 999) (by decide +kernel) (by omega)) ?_
  refine aw_e rfl rfl rfl ?_
  refine aw_e rfl rfl rfl ?_
  refine aw_ck (P := fun u _ => u = some (.int (-6))) rfl rfl (by decide) rfl rfl (aw_k 100000 (by decide +kernel)) (fun u M1 hu => ?_)
  subst hu
  refine aw_ri rfl (by first | exact Or.inl rfl | exact Or.inr (by decide +kernel)) ?_
  exact congrArg (fun z => some (Value.int z)) (by first | decide +kernel | (simp only [a_up_ap]; decide +kernel) | (simp +decide only [a_up_ap]; decide +kernel) | rfl | (simp [a_up_ap]; done))
theorem pM_dear_8 (a : Int32) (ha0 : 1000 ≤ a.toInt) (b : Int32) (hb0 : 0 ≤ b.toInt) (c : Int32) (hc0 : 0 ≤ c.toInt) : am wM 8 237 [.ref a_mo, .int a, .int b, .int c] a_M0 (fun u _ => u = some (.int (-6))) := by
  refine ⟨_, rfl, ?_⟩
  refine aw_e rfl rfl rfl ?_
  refine aw_i1f rfl (q1_lt_f (by omega)) ?_
  refine aw_e rfl rfl rfl ?_
  refine aw_i1f rfl (q1_lt_f (by omega)) ?_
  refine aw_e rfl rfl rfl ?_
  refine aw_i1t rfl (q1_ge_t (by omega)) ?_
  refine aw_e rfl rfl rfl ?_
  refine aw_e rfl rfl rfl ?_
  refine aw_i2t rfl (q2_gt_t (z := 999) (by decide +kernel) (by omega)) ?_
  refine aw_e rfl rfl rfl ?_
  refine aw_e rfl rfl rfl ?_
  refine aw_e rfl rfl rfl ?_
  refine aw_e rfl rfl rfl ?_
  refine aw_i1f rfl (by decide +kernel) ?_
  refine aw_e rfl rfl rfl ?_
  refine aw_e rfl rfl rfl ?_
  refine aw_ck (P := fun u _ => u = some (.int (-6))) rfl rfl (by decide) rfl rfl (aw_k 100000 (by decide +kernel)) (fun u M1 hu => ?_)
  subst hu
  refine aw_ri rfl (by first | exact Or.inl rfl | exact Or.inr (by decide +kernel)) ?_
  exact congrArg (fun z => some (Value.int z)) (by first | decide +kernel | (simp only [a_up_ap]; decide +kernel) | (simp +decide only [a_up_ap]; decide +kernel) | rfl | (simp [a_up_ap]; done))
theorem op_dear (a b c : Int32) : op_ok 25 237 [.int a, .int b, .int c] := by
  have ba0 := Int32.le_toInt a
  have ba1 := Int32.toInt_lt a
  have bb0 := Int32.le_toInt b
  have bb1 := Int32.toInt_lt b
  have bc0 := Int32.le_toInt c
  have bc1 := Int32.toInt_lt c
  rcases (show a.toInt ≤ (-1) ∨ (0 ≤ a.toInt ∧ a.toInt ≤ 999) ∨ 1000 ≤ a.toInt by omega) with ha | ha | ha
  · exact ⟨_, pC_dear_0 a (by omega) b c, pM_dear_0 a (by omega) b c⟩
  · rcases (show b.toInt ≤ (-1) ∨ (0 ≤ b.toInt ∧ b.toInt ≤ 99) ∨ 100 ≤ b.toInt by omega) with hb | hb | hb
    · exact ⟨_, pC_dear_1 a (by omega) (by omega) b (by omega) c, pM_dear_1 a (by omega) (by omega) b (by omega) c⟩
    · rcases (show c.toInt ≤ (-1) ∨ (0 ≤ c.toInt ∧ c.toInt ≤ 99) ∨ 100 ≤ c.toInt by omega) with hc | hc | hc
      · exact ⟨_, pC_dear_2 a (by omega) (by omega) b (by omega) (by omega) c (by omega), pM_dear_2 a (by omega) (by omega) b (by omega) (by omega) c (by omega)⟩
      · exact ⟨_, pC_dear_in a b c (by omega) (by omega) (by omega) (by omega) (by omega) (by omega), pM_dear_in a b c (by omega) (by omega) (by omega) (by omega) (by omega) (by omega)⟩
      · exact ⟨_, pC_dear_3 a (by omega) (by omega) b (by omega) (by omega) c (by omega), pM_dear_3 a (by omega) (by omega) b (by omega) (by omega) c (by omega)⟩
    · rcases (show c.toInt ≤ (-1) ∨ 0 ≤ c.toInt by omega) with hc | hc
      · exact ⟨_, pC_dear_4 a (by omega) (by omega) b (by omega) c (by omega), pM_dear_4 a (by omega) (by omega) b (by omega) c (by omega)⟩
      · exact ⟨_, pC_dear_5 a (by omega) (by omega) b (by omega) c (by omega), pM_dear_5 a (by omega) (by omega) b (by omega) c (by omega)⟩
  · rcases (show b.toInt ≤ (-1) ∨ 0 ≤ b.toInt by omega) with hb | hb
    · exact ⟨_, pC_dear_6 a (by omega) b (by omega) c, pM_dear_6 a (by omega) b (by omega) c⟩
    · rcases (show c.toInt ≤ (-1) ∨ 0 ≤ c.toInt by omega) with hc | hc
      · exact ⟨_, pC_dear_7 a (by omega) b (by omega) c (by omega), pM_dear_7 a (by omega) b (by omega) c (by omega)⟩
      · exact ⟨_, pC_dear_8 a (by omega) b (by omega) c (by omega), pM_dear_8 a (by omega) b (by omega) c (by omega)⟩
