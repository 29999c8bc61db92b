theorem pC_later_0 (a : Int32) (ha1 : a.toInt ≤ (-1)) : am wC 8 24 [.ref 0, .int a] a_M0 (fun u _ => u = some (.int (-2))) := by
  refine ⟨_, rfl, ?_⟩
  refine aw_e rfl rfl rfl ?_
  refine aw_e rfl rfl rfl ?_
  refine aw_ci rfl rfl (by decide) rfl rfl ?_
  refine aw_e rfl rfl rfl ?_
  refine aw_i1f rfl (q1_eq_f (by omega)) ?_
  refine aw_e rfl rfl rfl ?_
  refine aw_e rfl rfl rfl ?_
  refine aw_i2t rfl (q2_ne_t (z := 1) (by decide +kernel) (by omega)) ?_
  refine aw_e rfl rfl rfl ?_
  refine aw_ri rfl (by first | exact Or.inl rfl | exact Or.inr (by decide +kernel)) ?_
  refine aw_i1f rfl (by decide +kernel) ?_
  refine aw_e rfl rfl rfl ?_
  refine aw_e rfl rfl rfl ?_
  refine aw_ck (P := fun u _ => u = some (.int (-2))) rfl rfl (by decide) rfl rfl (aw_k 100000 (by decide +kernel)) (fun u M1 hu => ?_)
  subst hu
  refine aw_ri rfl (by first | exact Or.inl rfl | exact Or.inr (by decide +kernel)) ?_
  exact congrArg (fun z => some (Value.int z)) (by first | decide +kernel | (simp only [a_up_ap]; decide +kernel) | (simp +decide only [a_up_ap]; decide +kernel) | rfl | (simp [a_up_ap]; done))
theorem pM_later_0 (a : Int32) (ha1 : a.toInt ≤ (-1)) : am wM 8 236 [.ref a_mo, .int a] a_M0 (fun u _ => u = some (.int (-2))) := by
  refine ⟨_, rfl, ?_⟩
  refine aw_e rfl rfl rfl ?_
  refine aw_e rfl rfl rfl ?_
  refine aw_e rfl rfl rfl ?_
  refine aw_ci rfl rfl (by decide) rfl rfl ?_
  refine aw_e rfl rfl rfl ?_
  refine aw_e rfl rfl rfl ?_
  refine aw_i2t rfl (q2_lt_t (z := 0) (by decide +kernel) (by omega)) ?_
  refine aw_e rfl rfl rfl ?_
  refine aw_ri rfl (by first | exact Or.inl rfl | exact Or.inr (by decide +kernel)) ?_
  refine aw_i1f rfl (by decide +kernel) ?_
  refine aw_e rfl rfl rfl ?_
  refine aw_e rfl rfl rfl ?_
  refine aw_ck (P := fun u _ => u = some (.int (-2))) rfl rfl (by decide) rfl rfl (aw_k 100000 (by decide +kernel)) (fun u M1 hu => ?_)
  subst hu
  refine aw_ri rfl (by first | exact Or.inl rfl | exact Or.inr (by decide +kernel)) ?_
  exact congrArg (fun z => some (Value.int z)) (by first | decide +kernel | (simp only [a_up_ap]; decide +kernel) | (simp +decide only [a_up_ap]; decide +kernel) | rfl | (simp [a_up_ap]; done))
theorem pC_later_1 : am wC 8 24 [.ref 0, .int 0] a_M0 (fun u _ => u = some (.int 0)) := am_k 1000000 (by decide +kernel)
theorem pM_later_1 : am wM 8 236 [.ref a_mo, .int 0] a_M0 (fun u _ => u = some (.int 0)) := am_k 1000000 (by decide +kernel)
theorem pC_later_2 : am wC 8 24 [.ref 0, .int 1] a_M0 (fun u _ => u = some (.int 0)) := am_k 1000000 (by decide +kernel)
theorem pM_later_2 : am wM 8 236 [.ref a_mo, .int 1] a_M0 (fun u _ => u = some (.int 0)) := am_k 1000000 (by decide +kernel)
theorem pC_later_3 (a : Int32) (ha0 : 2 ≤ a.toInt) : am wC 8 24 [.ref 0, .int a] a_M0 (fun u _ => u = some (.int (-2))) := by
  refine ⟨_, rfl, ?_⟩
  refine aw_e rfl rfl rfl ?_
  refine aw_e rfl rfl rfl ?_
  refine aw_ci rfl rfl (by decide) rfl rfl ?_
  refine aw_e rfl rfl rfl ?_
  refine aw_i1f rfl (q1_eq_f (by omega)) ?_
  refine aw_e rfl rfl rfl ?_
  refine aw_e rfl rfl rfl ?_
  refine aw_i2t rfl (q2_ne_t (z := 1) (by decide +kernel) (by omega)) ?_
  refine aw_e rfl rfl rfl ?_
  refine aw_ri rfl (by first | exact Or.inl rfl | exact Or.inr (by decide +kernel)) ?_
  refine aw_i1f rfl (by decide +kernel) ?_
  refine aw_e rfl rfl rfl ?_
  refine aw_e rfl rfl rfl ?_
  refine aw_ck (P := fun u _ => u = some (.int (-2))) rfl rfl (by decide) rfl rfl (aw_k 100000 (by decide +kernel)) (fun u M1 hu => ?_)
  subst hu
  refine aw_ri rfl (by first | exact Or.inl rfl | exact Or.inr (by decide +kernel)) ?_
  exact congrArg (fun z => some (Value.int z)) (by first | decide +kernel | (simp only [a_up_ap]; decide +kernel) | (simp +decide only [a_up_ap]; decide +kernel) | rfl | (simp [a_up_ap]; done))
theorem pM_later_3 (a : Int32) (ha0 : 2 ≤ a.toInt) : am wM 8 236 [.ref a_mo, .int a] a_M0 (fun u _ => u = some (.int (-2))) := by
  refine ⟨_, rfl, ?_⟩
  refine aw_e rfl rfl rfl ?_
  refine aw_e rfl rfl rfl ?_
  refine aw_e rfl rfl rfl ?_
  refine aw_ci rfl rfl (by decide) rfl rfl ?_
  refine aw_e rfl rfl rfl ?_
  refine aw_e rfl rfl rfl ?_
  refine aw_i2f rfl (q2_lt_f (z := 0) (by decide +kernel) (by omega)) ?_
  refine aw_e rfl rfl rfl ?_
  refine aw_e rfl rfl rfl ?_
  refine aw_i2t rfl (q2_gt_t (z := 1) (by decide +kernel) (by omega)) ?_
  refine aw_e rfl rfl rfl ?_
  refine aw_ri rfl (by first | exact Or.inl rfl | exact Or.inr (by decide +kernel)) ?_
  refine aw_i1f rfl (by decide +kernel) ?_
  refine aw_e rfl rfl rfl ?_
  refine aw_e rfl rfl rfl ?_
  refine aw_ck (P := fun u _ => u = some (.int (-2))) rfl rfl (by decide) rfl rfl (aw_k 100000 (by decide +kernel)) (fun u M1 hu => ?_)
  subst hu
  refine aw_ri rfl (by first | exact Or.inl rfl | exact Or.inr (by decide +kernel)) ?_
  exact congrArg (fun z => some (Value.int z)) (by first | decide +kernel | (simp only [a_up_ap]; decide +kernel) | (simp +decide only [a_up_ap]; decide +kernel) | rfl | (simp [a_up_ap]; done))
theorem op_later (a : Int32) : op_ok 24 236 [.int a] := by
  have ba0 := Int32.le_toInt a
  have ba1 := Int32.toInt_lt a
  rcases (show a.toInt ≤ (-1) ∨ a.toInt = 0 ∨ a.toInt = 1 ∨ 2 ≤ a.toInt by omega) with ha | ha | ha | ha
  · exact ⟨_, pC_later_0 a (by omega), pM_later_0 a (by omega)⟩
  · obtain rfl : a = 0 := q_val (z := 0) (by decide) ha
    exact ⟨_, pC_later_1 , pM_later_1 ⟩
  · obtain rfl : a = 1 := q_val (z := 1) (by decide) ha
    exact ⟨_, pC_later_2 , pM_later_2 ⟩
  · exact ⟨_, pC_later_3 a (by omega), pM_later_3 a (by omega)⟩
theorem pC_stopped_0 (a : Int32) (ha1 : a.toInt ≤ (-1)) (b : Int32) : am wC 8 17 [.ref 0, .int a, .int b] a_M0 (fun u _ => u = some (.int (-4))) := by
  refine ⟨_, rfl, ?_⟩
  refine aw_e rfl rfl rfl ?_
  refine aw_i1f rfl (q1_ge_f (by omega)) ?_
  refine aw_e rfl rfl rfl ?_
  refine aw_e rfl rfl rfl ?_
  refine aw_ck (P := fun u _ => u = some (.int (-4))) rfl rfl (by decide) rfl rfl (aw_k 100000 (by decide +kernel)) (fun u M1 hu => ?_)
  subst hu
  refine aw_ri rfl (by first | exact Or.inl rfl | exact Or.inr (by decide +kernel)) ?_
  exact congrArg (fun z => some (Value.int z)) (by first | decide +kernel | (simp only [a_up_ap]; decide +kernel) | (simp +decide only [a_up_ap]; decide +kernel) | rfl | (simp [a_up_ap]; done))
theorem pM_stopped_0 (a : Int32) (ha1 : a.toInt ≤ (-1)) (b : Int32) : am wM 8 230 [.ref a_mo, .int a, .int b] a_M0 (fun u _ => u = some (.int (-4))) := by
  refine ⟨_, rfl, ?_⟩
  refine aw_e rfl rfl rfl ?_
  refine aw_i1f rfl (q1_ge_f (by omega)) ?_
  refine aw_e rfl rfl rfl ?_
  refine aw_e rfl rfl rfl ?_
  refine aw_e rfl rfl rfl ?_
  refine aw_e rfl rfl rfl ?_
  refine aw_i1f rfl (by decide +kernel) ?_
  refine aw_e rfl rfl rfl ?_
  refine aw_e rfl rfl rfl ?_
  refine aw_ck (P := fun u _ => u = some (.int (-4))) rfl rfl (by decide) rfl rfl (aw_k 100000 (by decide +kernel)) (fun u M1 hu => ?_)
  subst hu
  refine aw_ri rfl (by first | exact Or.inl rfl | exact Or.inr (by decide +kernel)) ?_
  exact congrArg (fun z => some (Value.int z)) (by first | decide +kernel | (simp only [a_up_ap]; decide +kernel) | (simp +decide only [a_up_ap]; decide +kernel) | rfl | (simp [a_up_ap]; done))
theorem pC_stopped_1 (b : Int32) (hb1 : b.toInt ≤ (-1)) : am wC 8 17 [.ref 0, .int 0, .int b] a_M0 (fun u _ => u = some (.int (-2))) := by
  refine ⟨_, rfl, ?_⟩
  refine aw_e rfl rfl rfl ?_
  refine aw_i1t rfl (by decide +kernel) ?_
  refine aw_e rfl rfl rfl ?_
  refine aw_e rfl rfl rfl ?_
  refine aw_e rfl rfl rfl ?_
  refine aw_e rfl rfl rfl ?_
  refine aw_ci rfl rfl (by decide) rfl rfl ?_
  refine aw_e rfl rfl rfl ?_
  refine aw_e rfl rfl rfl ?_
  refine aw_e rfl rfl rfl ?_
  refine aw_e rfl rfl rfl ?_
  refine aw_e rfl rfl rfl ?_
  refine aw_e rfl rfl rfl ?_
  refine aw_ri rfl (by first | exact Or.inl rfl | exact Or.inr (by decide +kernel)) ?_
  refine aw_i2t rfl (by decide +kernel) ?_
  refine aw_e rfl rfl rfl ?_
  refine aw_e rfl rfl rfl ?_
  refine aw_ci rfl rfl (by decide) rfl rfl ?_
  refine aw_e rfl rfl rfl ?_
  refine aw_i1f rfl (q1_eq_f (by omega)) ?_
  refine aw_e rfl rfl rfl ?_
  refine aw_e rfl rfl rfl ?_
  refine aw_i2t rfl (q2_ne_t (z := 1) (by decide +kernel) (by omega)) ?_
  refine aw_e rfl rfl rfl ?_
  refine aw_ri rfl (by first | exact Or.inl rfl | exact Or.inr (by decide +kernel)) ?_
  refine aw_i1f rfl (by decide +kernel) ?_
  refine aw_e rfl rfl rfl ?_
  refine aw_e rfl rfl rfl ?_
  refine aw_ci rfl rfl (by decide) rfl rfl ?_
  refine aw_e rfl rfl rfl ?_
  refine aw_e rfl rfl rfl ?_
  refine aw_e rfl rfl rfl ?_
  refine aw_e rfl rfl rfl ?_
  refine aw_e rfl rfl rfl ?_
  refine aw_e rfl rfl rfl ?_
  refine aw_e rfl rfl rfl ?_
  refine aw_e rfl rfl rfl ?_
  refine aw_ci rfl rfl (by decide) rfl rfl ?_
  refine aw_e rfl rfl rfl ?_
  refine aw_e rfl rfl rfl ?_
  refine aw_e rfl rfl rfl ?_
  refine aw_i1f rfl (by decide +kernel) ?_
  refine aw_e rfl rfl rfl ?_
  refine aw_e rfl rfl rfl ?_
  refine aw_e rfl rfl rfl ?_
  refine aw_i2f rfl (by decide +kernel) ?_
  refine aw_e rfl rfl rfl ?_
  refine aw_e rfl rfl rfl ?_
  refine aw_e rfl rfl rfl ?_
  refine aw_e rfl rfl rfl ?_
  refine aw_ri rfl (by first | exact Or.inl rfl | exact Or.inr (by decide +kernel)) ?_
  refine aw_e rfl rfl rfl ?_
  refine aw_e rfl rfl rfl ?_
  refine aw_ci rfl rfl (by decide) rfl rfl ?_
  refine aw_e rfl rfl rfl ?_
  refine aw_e rfl rfl rfl ?_
  refine aw_e rfl rfl rfl ?_
  refine aw_i1f rfl (by decide +kernel) ?_
  refine aw_e rfl rfl rfl ?_
  refine aw_e rfl rfl rfl ?_
  refine aw_e rfl rfl rfl ?_
  refine aw_i2f rfl (by decide +kernel) ?_
  refine aw_e rfl rfl rfl ?_
  refine aw_e rfl rfl rfl ?_
  refine aw_e rfl rfl rfl ?_
  refine aw_e rfl rfl rfl ?_
  refine aw_rv rfl ?_
  refine aw_e rfl rfl rfl ?_
  refine aw_ri rfl (by first | exact Or.inl rfl | exact Or.inr (by decide +kernel)) ?_
  refine aw_ri rfl (by first | exact Or.inl rfl | exact Or.inr (by decide +kernel)) ?_
  exact congrArg (fun z => some (Value.int z)) (by first | decide +kernel | (simp only [a_up_ap]; decide +kernel) | (simp +decide only [a_up_ap]; decide +kernel) | rfl | (simp [a_up_ap]; done))
theorem pM_stopped_1 (b : Int32) (hb1 : b.toInt ≤ (-1)) : am wM 8 230 [.ref a_mo, .int 0, .int b] a_M0 (fun u _ => u = some (.int (-2))) := by
  refine ⟨_, rfl, ?_⟩
  refine aw_e rfl rfl rfl ?_
  refine aw_i1t rfl (by decide +kernel) ?_
  refine aw_e rfl rfl rfl ?_
  refine aw_e rfl rfl rfl ?_
  refine aw_e rfl rfl rfl ?_
  refine aw_e rfl rfl rfl ?_
  refine aw_i1t rfl (by decide +kernel) ?_
  refine aw_e rfl rfl rfl ?_
  refine aw_e rfl rfl rfl ?_
  refine aw_e rfl rfl rfl ?_
  refine aw_ci rfl rfl (by decide) rfl rfl ?_
  refine aw_e rfl rfl rfl ?_
  refine aw_e rfl rfl rfl ?_
  refine aw_i2t rfl (q2_lt_t (z := 0) (by decide +kernel) (by omega)) ?_
  refine aw_e rfl rfl rfl ?_
  refine aw_ri rfl (by first | exact Or.inl rfl | exact Or.inr (by decide +kernel)) ?_
  refine aw_i1f rfl (by decide +kernel) ?_
  refine aw_e rfl rfl rfl ?_
  refine aw_e rfl rfl rfl ?_
  refine aw_e rfl rfl rfl ?_
  refine aw_e rfl rfl rfl ?_
  refine aw_i1f rfl (by decide +kernel) ?_
  refine aw_e rfl rfl rfl ?_
  refine aw_e rfl rfl rfl ?_
  refine aw_ck (P := fun u _ => u = some (.int (-2))) rfl rfl (by decide) rfl rfl (aw_k 100000 (by decide +kernel)) (fun u M1 hu => ?_)
  subst hu
  refine aw_ri rfl (by first | exact Or.inl rfl | exact Or.inr (by decide +kernel)) ?_
  exact congrArg (fun z => some (Value.int z)) (by first | decide +kernel | (simp only [a_up_ap]; decide +kernel) | (simp +decide only [a_up_ap]; decide +kernel) | rfl | (simp [a_up_ap]; done))
theorem pC_stopped_2 : am wC 8 17 [.ref 0, .int 0, .int 0] a_M0 (fun u _ => u = some (.int 0)) := am_k 1000000 (by decide +kernel)
theorem pM_stopped_2 : am wM 8 230 [.ref a_mo, .int 0, .int 0] a_M0 (fun u _ => u = some (.int 0)) := am_k 1000000 (by decide +kernel)
theorem pC_stopped_3 : am wC 8 17 [.ref 0, .int 0, .int 1] a_M0 (fun u _ => u = some (.int 1000)) := am_k 1000000 (by decide +kernel)
theorem pM_stopped_3 : am wM 8 230 [.ref a_mo, .int 0, .int 1] a_M0 (fun u _ => u = some (.int 1000)) := am_k 1000000 (by decide +kernel)
theorem pC_stopped_4 (b : Int32) (hb0 : 2 ≤ b.toInt) : am wC 8 17 [.ref 0, .int 0, .int b] a_M0 (fun u _ => u = some (.int (-2))) := by
  refine ⟨_, rfl, ?_⟩
  refine aw_e rfl rfl rfl ?_
  refine aw_i1t rfl (by decide +kernel) ?_
  refine aw_e rfl rfl rfl ?_
  refine aw_e rfl rfl rfl ?_
  refine aw_e rfl rfl rfl ?_
  refine aw_e rfl rfl rfl ?_
  refine aw_ci rfl rfl (by decide) rfl rfl ?_
  refine aw_e rfl rfl rfl ?_
  refine aw_e rfl rfl rfl ?_
  refine aw_e rfl rfl rfl ?_
  refine aw_e rfl rfl rfl ?_
  refine aw_e rfl rfl rfl ?_
  refine aw_e rfl rfl rfl ?_
  refine aw_ri rfl (by first | exact Or.inl rfl | exact Or.inr (by decide +kernel)) ?_
  refine aw_i2t rfl (by decide +kernel) ?_
  refine aw_e rfl rfl rfl ?_
  refine aw_e rfl rfl rfl ?_
  refine aw_ci rfl rfl (by decide) rfl rfl ?_
  refine aw_e rfl rfl rfl ?_
  refine aw_i1f rfl (q1_eq_f (by omega)) ?_
  refine aw_e rfl rfl rfl ?_
  refine aw_e rfl rfl rfl ?_
  refine aw_i2t rfl (q2_ne_t (z := 1) (by decide +kernel) (by omega)) ?_
  refine aw_e rfl rfl rfl ?_
  refine aw_ri rfl (by first | exact Or.inl rfl | exact Or.inr (by decide +kernel)) ?_
  refine aw_i1f rfl (by decide +kernel) ?_
  refine aw_e rfl rfl rfl ?_
  refine aw_e rfl rfl rfl ?_
  refine aw_ci rfl rfl (by decide) rfl rfl ?_
  refine aw_e rfl rfl rfl ?_
  refine aw_e rfl rfl rfl ?_
  refine aw_e rfl rfl rfl ?_
  refine aw_e rfl rfl rfl ?_
  refine aw_e rfl rfl rfl ?_
  refine aw_e rfl rfl rfl ?_
  refine aw_e rfl rfl rfl ?_
  refine aw_e rfl rfl rfl ?_
  refine aw_ci rfl rfl (by decide) rfl rfl ?_
  refine aw_e rfl rfl rfl ?_
  refine aw_e rfl rfl rfl ?_
  refine aw_e rfl rfl rfl ?_
  refine aw_i1f rfl (by decide +kernel) ?_
  refine aw_e rfl rfl rfl ?_
  refine aw_e rfl rfl rfl ?_
  refine aw_e rfl rfl rfl ?_
  refine aw_i2f rfl (by decide +kernel) ?_
  refine aw_e rfl rfl rfl ?_
  refine aw_e rfl rfl rfl ?_
  refine aw_e rfl rfl rfl ?_
  refine aw_e rfl rfl rfl ?_
  refine aw_ri rfl (by first | exact Or.inl rfl | exact Or.inr (by decide +kernel)) ?_
  refine aw_e rfl rfl rfl ?_
  refine aw_e rfl rfl rfl ?_
  refine aw_ci rfl rfl (by decide) rfl rfl ?_
  refine aw_e rfl rfl rfl ?_
  refine aw_e rfl rfl rfl ?_
  refine aw_e rfl rfl rfl ?_
  refine aw_i1f rfl (by decide +kernel) ?_
  refine aw_e rfl rfl rfl ?_
  refine aw_e rfl rfl rfl ?_
  refine aw_e rfl rfl rfl ?_
  refine aw_i2f rfl (by decide +kernel) ?_
  refine aw_e rfl rfl rfl ?_
  refine aw_e rfl rfl rfl ?_
  refine aw_e rfl rfl rfl ?_
  refine aw_e rfl rfl rfl ?_
  refine aw_rv rfl ?_
  refine aw_e rfl rfl rfl ?_
  refine aw_ri rfl (by first | exact Or.inl rfl | exact Or.inr (by decide +kernel)) ?_
  refine aw_ri rfl (by first | exact Or.inl rfl | exact Or.inr (by decide +kernel)) ?_
  exact congrArg (fun z => some (Value.int z)) (by first | decide +kernel | (simp only [a_up_ap]; decide +kernel) | (simp +decide only [a_up_ap]; decide +kernel) | rfl | (simp [a_up_ap]; done))
theorem pM_stopped_4 (b : Int32) (hb0 : 2 ≤ b.toInt) : am wM 8 230 [.ref a_mo, .int 0, .int b] a_M0 (fun u _ => u = some (.int (-2))) := by
  refine ⟨_, rfl, ?_⟩
  refine aw_e rfl rfl rfl ?_
  refine aw_i1t rfl (by decide +kernel) ?_
  refine aw_e rfl rfl rfl ?_
  refine aw_e rfl rfl rfl ?_
  refine aw_e rfl rfl rfl ?_
  refine aw_e rfl rfl rfl ?_
  refine aw_i1t rfl (by decide +kernel) ?_
  refine aw_e rfl rfl rfl ?_
  refine aw_e rfl rfl rfl ?_
  refine aw_e rfl rfl rfl ?_
  refine aw_ci rfl rfl (by decide) rfl rfl ?_
  refine aw_e rfl rfl rfl ?_
  refine aw_e rfl rfl rfl ?_
  refine aw_i2f rfl (q2_lt_f (z := 0) (by decide +kernel) (by omega)) ?_
  refine aw_e rfl rfl rfl ?_
  refine aw_e rfl rfl rfl ?_
  refine aw_i2t rfl (q2_gt_t (z := 1) (by decide +kernel) (by omega)) ?_
  refine aw_e rfl rfl rfl ?_
  refine aw_ri rfl (by first | exact Or.inl rfl | exact Or.inr (by decide +kernel)) ?_
  refine aw_i1f rfl (by decide +kernel) ?_
  refine aw_e rfl rfl rfl ?_
  refine aw_e rfl rfl rfl ?_
  refine aw_e rfl rfl rfl ?_
  refine aw_e rfl rfl rfl ?_
  refine aw_i1f rfl (by decide +kernel) ?_
  refine aw_e rfl rfl rfl ?_
  refine aw_e rfl rfl rfl ?_
  refine aw_ck (P := fun u _ => u = some (.int (-2))) rfl rfl (by decide) rfl rfl (aw_k 100000 (by decide +kernel)) (fun u M1 hu => ?_)
  subst hu
  refine aw_ri rfl (by first | exact Or.inl rfl | exact Or.inr (by decide +kernel)) ?_
  exact congrArg (fun z => some (Value.int z)) (by first | decide +kernel | (simp only [a_up_ap]; decide +kernel) | (simp +decide only [a_up_ap]; decide +kernel) | rfl | (simp [a_up_ap]; done))
theorem pC_stopped_5 (a : Int32) (ha0 : 1 ≤ a.toInt) (b : Int32) : am wC 8 17 [.ref 0, .int a, .int b] a_M0 (fun u _ => u = some (.int (-6))) := by
  refine ⟨_, rfl, ?_⟩
  refine aw_e rfl rfl rfl ?_
  refine aw_i1t rfl (q1_ge_t (by omega)) ?_
  refine aw_e rfl rfl rfl ?_
  refine aw_e rfl rfl rfl ?_
  refine aw_e rfl rfl rfl ?_
  refine aw_e rfl rfl rfl ?_
  refine aw_ci rfl rfl (by decide) rfl rfl ?_
  refine aw_e rfl rfl rfl ?_
  refine aw_e rfl rfl rfl ?_
  refine aw_e rfl rfl rfl ?_
  refine aw_e rfl rfl rfl ?_
  refine aw_e rfl rfl rfl ?_
  refine aw_e rfl rfl rfl ?_
  refine aw_ri rfl (by first | exact Or.inl rfl | exact Or.inr (by decide +kernel)) ?_
  refine aw_i2f rfl (q2_le_f (z := 0) (by decide +kernel) (by omega)) ?_
  refine aw_e rfl rfl rfl ?_
  refine aw_e rfl rfl rfl ?_
  refine aw_ci rfl rfl (by decide) rfl rfl ?_
  refine aw_e rfl rfl rfl ?_
  refine aw_e rfl rfl rfl ?_
  refine aw_e rfl rfl rfl ?_
  refine aw_e rfl rfl rfl ?_
  refine aw_e rfl rfl rfl ?_
  refine aw_e rfl rfl rfl ?_
  refine aw_e rfl rfl rfl ?_
  refine aw_e rfl rfl rfl ?_
  refine aw_ci rfl rfl (by decide) rfl rfl ?_
  refine aw_e rfl rfl rfl ?_
  refine aw_e rfl rfl rfl ?_
  refine aw_e rfl rfl rfl ?_
  refine aw_i1f rfl (by decide +kernel) ?_
  refine aw_e rfl rfl rfl ?_
  refine aw_e rfl rfl rfl ?_
  refine aw_e rfl rfl rfl ?_
  refine aw_i2f rfl (by decide +kernel) ?_
  refine aw_e rfl rfl rfl ?_
  refine aw_e rfl rfl rfl ?_
  refine aw_e rfl rfl rfl ?_
  refine aw_e rfl rfl rfl ?_
  refine aw_ri rfl (by first | exact Or.inl rfl | exact Or.inr (by decide +kernel)) ?_
  refine aw_e rfl rfl rfl ?_
  refine aw_e rfl rfl rfl ?_
  refine aw_ci rfl rfl (by decide) rfl rfl ?_
  refine aw_e rfl rfl rfl ?_
  refine aw_e rfl rfl rfl ?_
  refine aw_e rfl rfl rfl ?_
  refine aw_i1f rfl (by decide +kernel) ?_
  refine aw_e rfl rfl rfl ?_
  refine aw_e rfl rfl rfl ?_
  refine aw_e rfl rfl rfl ?_
  refine aw_i2f rfl (by decide +kernel) ?_
  refine aw_e rfl rfl rfl ?_
  refine aw_e rfl rfl rfl ?_
  refine aw_e rfl rfl rfl ?_
  refine aw_e rfl rfl rfl ?_
  refine aw_rv rfl ?_
  refine aw_e rfl rfl rfl ?_
  refine aw_ri rfl (by first | exact Or.inl rfl | exact Or.inr (by decide +kernel)) ?_
  refine aw_ri rfl (by first | exact Or.inl rfl | exact Or.inr (by decide +kernel)) ?_
  exact congrArg (fun z => some (Value.int z)) (by first | decide +kernel | (simp only [a_up_ap]; decide +kernel) | (simp +decide only [a_up_ap]; decide +kernel) | rfl | (simp [a_up_ap]; done))
theorem pM_stopped_5 (a : Int32) (ha0 : 1 ≤ a.toInt) (b : Int32) : am wM 8 230 [.ref a_mo, .int a, .int b] a_M0 (fun u _ => u = some (.int (-6))) := by
  refine ⟨_, rfl, ?_⟩
  refine aw_e rfl rfl rfl ?_
  refine aw_i1t rfl (q1_ge_t (by omega)) ?_
  refine aw_e rfl rfl rfl ?_
  refine aw_e rfl rfl rfl ?_
  refine aw_e rfl rfl rfl ?_
  refine aw_sh0 rfl (by decide +kernel) ?_
  refine aw_i1f rfl (q1_eq_f (by omega)) ?_
  refine aw_e rfl rfl rfl ?_
  refine aw_e rfl rfl rfl ?_
  refine aw_e rfl rfl rfl ?_
  refine aw_e rfl rfl rfl ?_
  refine aw_i1f rfl (by decide +kernel) ?_
  refine aw_e rfl rfl rfl ?_
  refine aw_e rfl rfl rfl ?_
  refine aw_ck (P := fun u _ => u = some (.int (-6))) rfl rfl (by decide) rfl rfl (aw_k 100000 (by decide +kernel)) (fun u M1 hu => ?_)
  subst hu
  refine aw_ri rfl (by first | exact Or.inl rfl | exact Or.inr (by decide +kernel)) ?_
  exact congrArg (fun z => some (Value.int z)) (by first | decide +kernel | (simp only [a_up_ap]; decide +kernel) | (simp +decide only [a_up_ap]; decide +kernel) | rfl | (simp [a_up_ap]; done))
theorem op_stopped (a b : Int32) : op_ok 17 230 [.int a, .int b] := by
  have ba0 := Int32.le_toInt a
  have ba1 := Int32.toInt_lt a
  have bb0 := Int32.le_toInt b
  have bb1 := Int32.toInt_lt b
  rcases (show a.toInt ≤ (-1) ∨ a.toInt = 0 ∨ 1 ≤ a.toInt by omega) with ha | ha | ha
  · exact ⟨_, pC_stopped_0 a (by omega) b, pM_stopped_0 a (by omega) b⟩
  · obtain rfl : a = 0 := q_val (z := 0) (by decide) ha
    rcases (show b.toInt ≤ (-1) ∨ b.toInt = 0 ∨ b.toInt = 1 ∨ 2 ≤ b.toInt by omega) with hb | hb | hb | hb
    · exact ⟨_, pC_stopped_1 b (by omega), pM_stopped_1 b (by omega)⟩
    · obtain rfl : b = 0 := q_val (z := 0) (by decide) hb
      exact ⟨_, pC_stopped_2 , pM_stopped_2 ⟩
    · obtain rfl : b = 1 := q_val (z := 1) (by decide) hb
      exact ⟨_, pC_stopped_3 , pM_stopped_3 ⟩
    · exact ⟨_, pC_stopped_4 b (by omega), pM_stopped_4 b (by omega)⟩
  · exact ⟨_, pC_stopped_5 a (by omega) b, pM_stopped_5 a (by omega) b⟩
