/-! comparisons by whole numbers -/
theorem q_z0 : (0 : Int32).toInt = 0 := by decide
theorem q2_eq_t {x y : Int32} {z : Int} (hy : y.toInt = z) (h : (x.toInt = z)) : a_cf2 .eq x y = true := decide_eq_true (by rw [← Int32.toInt_inj]; omega)
theorem q2r_eq_t {x y : Int32} {z : Int} (hx : x.toInt = z) (h : (z = y.toInt)) : a_cf2 .eq x y = true := decide_eq_true (by rw [← Int32.toInt_inj]; omega)
theorem q1_eq_t {x : Int32} (h : (x.toInt = 0)) : a_cf1 .eq x = true := decide_eq_true (by rw [← Int32.toInt_inj]; have h0 := q_z0; omega)
theorem q2_eq_f {x y : Int32} {z : Int} (hy : y.toInt = z) (h : ¬ (x.toInt = z)) : a_cf2 .eq x y = false := decide_eq_false (by rw [← Int32.toInt_inj]; omega)
theorem q2r_eq_f {x y : Int32} {z : Int} (hx : x.toInt = z) (h : ¬ (z = y.toInt)) : a_cf2 .eq x y = false := decide_eq_false (by rw [← Int32.toInt_inj]; omega)
theorem q1_eq_f {x : Int32} (h : ¬ (x.toInt = 0)) : a_cf1 .eq x = false := decide_eq_false (by rw [← Int32.toInt_inj]; have h0 := q_z0; omega)
theorem q2_ne_t {x y : Int32} {z : Int} (hy : y.toInt = z) (h : (¬ x.toInt = z)) : a_cf2 .ne x y = true := decide_eq_true (by rw [← Int32.toInt_inj]; omega)
theorem q2r_ne_t {x y : Int32} {z : Int} (hx : x.toInt = z) (h : (¬ z = y.toInt)) : a_cf2 .ne x y = true := decide_eq_true (by rw [← Int32.toInt_inj]; omega)
theorem q1_ne_t {x : Int32} (h : (¬ x.toInt = 0)) : a_cf1 .ne x = true := decide_eq_true (by rw [← Int32.toInt_inj]; have h0 := q_z0; omega)
theorem q2_ne_f {x y : Int32} {z : Int} (hy : y.toInt = z) (h : ¬ (¬ x.toInt = z)) : a_cf2 .ne x y = false := decide_eq_false (by rw [← Int32.toInt_inj]; omega)
theorem q2r_ne_f {x y : Int32} {z : Int} (hx : x.toInt = z) (h : ¬ (¬ z = y.toInt)) : a_cf2 .ne x y = false := decide_eq_false (by rw [← Int32.toInt_inj]; omega)
theorem q1_ne_f {x : Int32} (h : ¬ (¬ x.toInt = 0)) : a_cf1 .ne x = false := decide_eq_false (by rw [← Int32.toInt_inj]; have h0 := q_z0; omega)
theorem q2_lt_t {x y : Int32} {z : Int} (hy : y.toInt = z) (h : (x.toInt < z)) : a_cf2 .lt x y = true := decide_eq_true (by rw [Int32.lt_iff_toInt_lt]; omega)
theorem q2r_lt_t {x y : Int32} {z : Int} (hx : x.toInt = z) (h : (z < y.toInt)) : a_cf2 .lt x y = true := decide_eq_true (by rw [Int32.lt_iff_toInt_lt]; omega)
theorem q1_lt_t {x : Int32} (h : (x.toInt < 0)) : a_cf1 .lt x = true := decide_eq_true (by rw [Int32.lt_iff_toInt_lt]; have h0 := q_z0; omega)
theorem q2_lt_f {x y : Int32} {z : Int} (hy : y.toInt = z) (h : ¬ (x.toInt < z)) : a_cf2 .lt x y = false := decide_eq_false (by rw [Int32.lt_iff_toInt_lt]; omega)
theorem q2r_lt_f {x y : Int32} {z : Int} (hx : x.toInt = z) (h : ¬ (z < y.toInt)) : a_cf2 .lt x y = false := decide_eq_false (by rw [Int32.lt_iff_toInt_lt]; omega)
theorem q1_lt_f {x : Int32} (h : ¬ (x.toInt < 0)) : a_cf1 .lt x = false := decide_eq_false (by rw [Int32.lt_iff_toInt_lt]; have h0 := q_z0; omega)
theorem q2_ge_t {x y : Int32} {z : Int} (hy : y.toInt = z) (h : (z ≤ x.toInt)) : a_cf2 .ge x y = true := decide_eq_true (by rw [Int32.le_iff_toInt_le]; omega)
theorem q2r_ge_t {x y : Int32} {z : Int} (hx : x.toInt = z) (h : (y.toInt ≤ z)) : a_cf2 .ge x y = true := decide_eq_true (by rw [Int32.le_iff_toInt_le]; omega)
theorem q1_ge_t {x : Int32} (h : (0 ≤ x.toInt)) : a_cf1 .ge x = true := decide_eq_true (by rw [Int32.le_iff_toInt_le]; have h0 := q_z0; omega)
theorem q2_ge_f {x y : Int32} {z : Int} (hy : y.toInt = z) (h : ¬ (z ≤ x.toInt)) : a_cf2 .ge x y = false := decide_eq_false (by rw [Int32.le_iff_toInt_le]; omega)
theorem q2r_ge_f {x y : Int32} {z : Int} (hx : x.toInt = z) (h : ¬ (y.toInt ≤ z)) : a_cf2 .ge x y = false := decide_eq_false (by rw [Int32.le_iff_toInt_le]; omega)
theorem q1_ge_f {x : Int32} (h : ¬ (0 ≤ x.toInt)) : a_cf1 .ge x = false := decide_eq_false (by rw [Int32.le_iff_toInt_le]; have h0 := q_z0; omega)
theorem q2_gt_t {x y : Int32} {z : Int} (hy : y.toInt = z) (h : (z < x.toInt)) : a_cf2 .gt x y = true := decide_eq_true (by rw [Int32.lt_iff_toInt_lt]; omega)
theorem q2r_gt_t {x y : Int32} {z : Int} (hx : x.toInt = z) (h : (y.toInt < z)) : a_cf2 .gt x y = true := decide_eq_true (by rw [Int32.lt_iff_toInt_lt]; omega)
theorem q1_gt_t {x : Int32} (h : (0 < x.toInt)) : a_cf1 .gt x = true := decide_eq_true (by rw [Int32.lt_iff_toInt_lt]; have h0 := q_z0; omega)
theorem q2_gt_f {x y : Int32} {z : Int} (hy : y.toInt = z) (h : ¬ (z < x.toInt)) : a_cf2 .gt x y = false := decide_eq_false (by rw [Int32.lt_iff_toInt_lt]; omega)
theorem q2r_gt_f {x y : Int32} {z : Int} (hx : x.toInt = z) (h : ¬ (y.toInt < z)) : a_cf2 .gt x y = false := decide_eq_false (by rw [Int32.lt_iff_toInt_lt]; omega)
theorem q1_gt_f {x : Int32} (h : ¬ (0 < x.toInt)) : a_cf1 .gt x = false := decide_eq_false (by rw [Int32.lt_iff_toInt_lt]; have h0 := q_z0; omega)
theorem q2_le_t {x y : Int32} {z : Int} (hy : y.toInt = z) (h : (x.toInt ≤ z)) : a_cf2 .le x y = true := decide_eq_true (by rw [Int32.le_iff_toInt_le]; omega)
theorem q2r_le_t {x y : Int32} {z : Int} (hx : x.toInt = z) (h : (z ≤ y.toInt)) : a_cf2 .le x y = true := decide_eq_true (by rw [Int32.le_iff_toInt_le]; omega)
theorem q1_le_t {x : Int32} (h : (x.toInt ≤ 0)) : a_cf1 .le x = true := decide_eq_true (by rw [Int32.le_iff_toInt_le]; have h0 := q_z0; omega)
theorem q2_le_f {x y : Int32} {z : Int} (hy : y.toInt = z) (h : ¬ (x.toInt ≤ z)) : a_cf2 .le x y = false := decide_eq_false (by rw [Int32.le_iff_toInt_le]; omega)
theorem q2r_le_f {x y : Int32} {z : Int} (hx : x.toInt = z) (h : ¬ (z ≤ y.toInt)) : a_cf2 .le x y = false := decide_eq_false (by rw [Int32.le_iff_toInt_le]; omega)
theorem q1_le_f {x : Int32} (h : ¬ (x.toInt ≤ 0)) : a_cf1 .le x = false := decide_eq_false (by rw [Int32.le_iff_toInt_le]; have h0 := q_z0; omega)
theorem q_val {x k : Int32} {z : Int} (hk : k.toInt = z) (h : x.toInt = z) : x = k := Int32.toInt_inj.mp (h.trans hk.symm)
theorem a_tsw_ls {pc : Nat} {d lo hi : Int} {offs : Array Int} {L r : List Value} {x : Int32} {M : aM} {z : aS} (h : a_tsw pc d lo hi offs L (.int x :: r) M = some z) : z.2.1 = L ∧ z.2.2.1 = r := by
  obtain ⟨z1, z2, z3, z4⟩ := z
  unfold a_tsw at h
  simp only at h
  split at h
  next =>
    obtain ⟨-, h1, h2, -⟩ := a_jmp_ok h
    exact ⟨h1.symm, h2.symm⟩
  next =>
    split at h
    next =>
      obtain ⟨-, h1, h2, -⟩ := a_jmp_ok h
      exact ⟨h1.symm, h2.symm⟩
    next => cases h
section AWX
variable {w : aW} {fr : Nat} {cd : List aR} {pc q nx ax wp pc' : Nat} {L L' st' : List Value} {M M' : aM} {Q : Option Value → aM → Prop}
theorem aw_dd {x y : Int32} {r : List Value} (hf : a_find cd pc = some (q, .idiv, nx, ax, wp)) (hy : ¬ y = 0) (k : aw w fr cd nx L (.int (x / y) :: r) M Q) : aw w fr cd pc L (.int y :: .int x :: r) M Q := aw_e hf rfl (by simp only [a_eff, a_d2]; rw [if_neg hy]) k
theorem aw_dr {x y : Int32} {r : List Value} (hf : a_find cd pc = some (q, .irem, nx, ax, wp)) (hy : ¬ y = 0) (k : aw w fr cd nx L (.int (x - x / y * y) :: r) M Q) : aw w fr cd pc L (.int y :: .int x :: r) M Q := aw_e hf rfl (by simp only [a_eff, a_d2]; rw [if_neg hy]) k
theorem aw_sh0 {x y : Int32} {r : List Value} (hf : a_find cd pc = some (q, .ishr, nx, ax, wp)) (hy : y = 0) (k : aw w fr cd nx L (.int x :: r) M Q) : aw w fr cd pc L (.int y :: .int x :: r) M Q := by
  refine aw_e hf rfl rfl ?_
  subst hy
  show aw w fr cd nx L (.int (x >>> ((0 : Int32) &&& 31)) :: r) M Q
  rw [sb_shr0]
  exact k
theorem aw_tk {x : Int32} {d lo hi : Int} {offs : Array Int} {r : List Value} {t : Nat} (hf : a_find cd pc = some (q, .tableswitch d lo hi offs, nx, ax, wp)) (ht : (a_tsw pc d lo hi offs L (.int x :: r) a_M0).map (fun z => z.1) = some t) (k : aw w fr cd t L r M Q) : aw w fr cd pc L (.int x :: r) M Q := by
  have e := p_tsw pc d lo hi offs L (.int x :: r) M a_M0
  refine aw_e hf rfl (L' := L) (st' := r) (M' := M) (pc' := t) ?_ k
  show a_tsw pc d lo hi offs L (.int x :: r) M = _
  rw [e]
  cases h : a_tsw pc d lo hi offs L (.int x :: r) a_M0 with
  | none => rw [h] at ht; cases ht
  | some z =>
    rw [h] at ht
    have h2 := a_tsw_ls h
    obtain ⟨z1, z2, z3, z4⟩ := z
    simp only [Option.map_some, Option.some.injEq] at ht h2
    obtain ⟨h3, h4⟩ := h2
    subst ht
    subst h3
    subst h4
    rfl
theorem aw_to {x : Int32} {d lo hi : Int} {offs : Array Int} {r : List Value} {t : Nat} (hf : a_find cd pc = some (q, .tableswitch d lo hi offs, nx, ax, wp)) (hx : x.toInt < lo ∨ hi < x.toInt) (ht : (pc : Int) + d = Int.ofNat t) (k : aw w fr cd t L r M Q) : aw w fr cd pc L (.int x :: r) M Q := by
  refine aw_e hf rfl (L' := L) (st' := r) (M' := M) (pc' := t) ?_ k
  show a_tsw pc d lo hi offs L (.int x :: r) M = _
  unfold a_tsw
  simp only
  rw [if_pos hx]
  unfold a_jmp
  rw [ht]
end AWX
