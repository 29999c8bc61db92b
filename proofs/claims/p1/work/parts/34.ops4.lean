theorem pC_water_0 (a : Int32) (ha1 : a.toInt ≤ (-1)) : am wC 8 19 [.ref 0, .int a] a_M0 (fun u _ => u = some (.int (-2))) := by
  refine ⟨_, rfl, ?_⟩
  refine aw_e rfl rfl rfl ?_
  refine aw_e rfl rfl rfl ?_
  refine aw_ci rfl rfl (by decide) rfl rfl ?_
  refine aw_e rfl rfl rfl ?_
  refine aw_i1f rfl (q1_eq_f (by omega)) ?_
  refine aw_e rfl rfl rfl ?_
  refine aw_e rfl rfl rfl ?_
  refine aw_i2t rfl (q2_ne_t (z := 1) (by decide +kernel) (by omega)) ?_
  refine aw_e rfl rfl rfl ?_
  refine aw_ri rfl (by first | exact Or.inl rfl | exact Or.inr (by decide +kernel)) ?_
  refine aw_i1f rfl (by decide +kernel) ?_
  refine aw_e rfl rfl rfl ?_
  refine aw_e rfl rfl rfl ?_
  refine aw_ck (P := fun u _ => u = some (.int (-2))) rfl rfl (by decide) rfl rfl (aw_k 100000 (by decide +kernel)) (fun u M1 hu => ?_)
  subst hu
  refine aw_ri rfl (by first | exact Or.inl rfl | exact Or.inr (by decide +kernel)) ?_
  exact congrArg (fun z => some (Value.int z)) (by first | decide +kernel | (simp only [a_up_ap]; decide +kernel) | (simp +decide only [a_up_ap]; decide +kernel) | rfl | (simp [a_up_ap]; done))
theorem pM_water_0 (a : Int32) (ha1 : a.toInt ≤ (-1)) : am wM 8 218 [.ref a_mo, .int a] a_M0 (fun u _ => u = some (.int (-2))) := by
  refine ⟨_, rfl, ?_⟩
  refine aw_e rfl rfl rfl ?_
  refine aw_e rfl rfl rfl ?_
  refine aw_e rfl rfl rfl ?_
  refine aw_ci rfl rfl (by decide) rfl rfl ?_
  refine aw_e rfl rfl rfl ?_
  refine aw_e rfl rfl rfl ?_
  refine aw_i2t rfl (q2_lt_t (z := 0) (by decide +kernel) (by omega)) ?_
  refine aw_e rfl rfl rfl ?_
  refine aw_ri rfl (by first | exact Or.inl rfl | exact Or.inr (by decide +kernel)) ?_
  refine aw_i1f rfl (by decide +kernel) ?_
  refine aw_e rfl rfl rfl ?_
  refine aw_e rfl rfl rfl ?_
  refine aw_ck (P := fun u _ => u = some (.int (-2))) rfl rfl (by decide) rfl rfl (aw_k 100000 (by decide +kernel)) (fun u M1 hu => ?_)
  subst hu
  refine aw_ri rfl (by first | exact Or.inl rfl | exact Or.inr (by decide +kernel)) ?_
  exact congrArg (fun z => some (Value.int z)) (by first | decide +kernel | (simp only [a_up_ap]; decide +kernel) | (simp +decide only [a_up_ap]; decide +kernel) | rfl | (simp [a_up_ap]; done))
theorem pC_water_1 : am wC 8 19 [.ref 0, .int 0] a_M0 (fun u _ => u = some (.int 0)) := am_k 1000000 (by decide +kernel)
theorem pM_water_1 : am wM 8 218 [.ref a_mo, .int 0] a_M0 (fun u _ => u = some (.int 0)) := am_k 1000000 (by decide +kernel)
theorem pC_water_2 : am wC 8 19 [.ref 0, .int 1] a_M0 (fun u _ => u = some (.int 0)) := am_k 1000000 (by decide +kernel)
theorem pM_water_2 : am wM 8 218 [.ref a_mo, .int 1] a_M0 (fun u _ => u = some (.int 0)) := am_k 1000000 (by decide +kernel)
theorem pC_water_3 (a : Int32) (ha0 : 2 ≤ a.toInt) : am wC 8 19 [.ref 0, .int a] a_M0 (fun u _ => u = some (.int (-2))) := by
  refine ⟨_, rfl, ?_⟩
  refine aw_e rfl rfl rfl ?_
  refine aw_e rfl rfl rfl ?_
  refine aw_ci rfl rfl (by decide) rfl rfl ?_
  refine aw_e rfl rfl rfl ?_
  refine aw_i1f rfl (q1_eq_f (by omega)) ?_
  refine aw_e rfl rfl rfl ?_
  refine aw_e rfl rfl rfl ?_
  refine aw_i2t rfl (q2_ne_t (z := 1) (by decide +kernel) (by omega)) ?_
  refine aw_e rfl rfl rfl ?_
  refine aw_ri rfl (by first | exact Or.inl rfl | exact Or.inr (by decide +kernel)) ?_
  refine aw_i1f rfl (by decide +kernel) ?_
  refine aw_e rfl rfl rfl ?_
  refine aw_e rfl rfl rfl ?_
  refine aw_ck (P := fun u _ => u = some (.int (-2))) rfl rfl (by decide) rfl rfl (aw_k 100000 (by decide +kernel)) (fun u M1 hu => ?_)
  subst hu
  refine aw_ri rfl (by first | exact Or.inl rfl | exact Or.inr (by decide +kernel)) ?_
  exact congrArg (fun z => some (Value.int z)) (by first | decide +kernel | (simp only [a_up_ap]; decide +kernel) | (simp +decide only [a_up_ap]; decide +kernel) | rfl | (simp [a_up_ap]; done))
theorem pM_water_3 (a : Int32) (ha0 : 2 ≤ a.toInt) : am wM 8 218 [.ref a_mo, .int a] a_M0 (fun u _ => u = some (.int (-2))) := by
  refine ⟨_, rfl, ?_⟩
  refine aw_e rfl rfl rfl ?_
  refine aw_e rfl rfl rfl ?_
  refine aw_e rfl rfl rfl ?_
  refine aw_ci rfl rfl (by decide) rfl rfl ?_
  refine aw_e rfl rfl rfl ?_
  refine aw_e rfl rfl rfl ?_
  refine aw_i2f rfl (q2_lt_f (z := 0) (by decide +kernel) (by omega)) ?_
  refine aw_e rfl rfl rfl ?_
  refine aw_e rfl rfl rfl ?_
  refine aw_i2t rfl (q2_gt_t (z := 1) (by decide +kernel) (by omega)) ?_
  refine aw_e rfl rfl rfl ?_
  refine aw_ri rfl (by first | exact Or.inl rfl | exact Or.inr (by decide +kernel)) ?_
  refine aw_i1f rfl (by decide +kernel) ?_
  refine aw_e rfl rfl rfl ?_
  refine aw_e rfl rfl rfl ?_
  refine aw_ck (P := fun u _ => u = some (.int (-2))) rfl rfl (by decide) rfl rfl (aw_k 100000 (by decide +kernel)) (fun u M1 hu => ?_)
  subst hu
  refine aw_ri rfl (by first | exact Or.inl rfl | exact Or.inr (by decide +kernel)) ?_
  exact congrArg (fun z => some (Value.int z)) (by first | decide +kernel | (simp only [a_up_ap]; decide +kernel) | (simp +decide only [a_up_ap]; decide +kernel) | rfl | (simp [a_up_ap]; done))
theorem op_water (a : Int32) : op_ok 19 218 [.int a] := by
  have ba0 := Int32.le_toInt a
  have ba1 := Int32.toInt_lt a
  rcases (show a.toInt ≤ (-1) ∨ a.toInt = 0 ∨ a.toInt = 1 ∨ 2 ≤ a.toInt by omega) with ha | ha | ha | ha
  · exact ⟨_, pC_water_0 a (by omega), pM_water_0 a (by omega)⟩
  · obtain rfl : a = 0 := q_val (z := 0) (by decide) ha
    exact ⟨_, pC_water_1 , pM_water_1 ⟩
  · obtain rfl : a = 1 := q_val (z := 1) (by decide) ha
    exact ⟨_, pC_water_2 , pM_water_2 ⟩
  · exact ⟨_, pC_water_3 a (by omega), pM_water_3 a (by omega)⟩
theorem pC_alone_0 (a : Int32) (ha1 : a.toInt ≤ (-1)) : am wC 8 34 [.ref 0, .int a] a_M0 (fun u _ => u = some (.int (-2))) := by
  refine ⟨_, rfl, ?_⟩
  refine aw_e rfl rfl rfl ?_
  refine aw_e rfl rfl rfl ?_
  refine aw_ci rfl rfl (by decide) rfl rfl ?_
  refine aw_e rfl rfl rfl ?_
  refine aw_i1f rfl (q1_eq_f (by omega)) ?_
  refine aw_e rfl rfl rfl ?_
  refine aw_e rfl rfl rfl ?_
  refine aw_i2t rfl (q2_ne_t (z := 1) (by decide +kernel) (by omega)) ?_
  refine aw_e rfl rfl rfl ?_
  refine aw_ri rfl (by first | exact Or.inl rfl | exact Or.inr (by decide +kernel)) ?_
  refine aw_i1f rfl (by decide +kernel) ?_
  refine aw_e rfl rfl rfl ?_
  refine aw_e rfl rfl rfl ?_
  refine aw_ck (P := fun u _ => u = some (.int (-2))) rfl rfl (by decide) rfl rfl (aw_k 100000 (by decide +kernel)) (fun u M1 hu => ?_)
  subst hu
  refine aw_ri rfl (by first | exact Or.inl rfl | exact Or.inr (by decide +kernel)) ?_
  exact congrArg (fun z => some (Value.int z)) (by first | decide +kernel | (simp only [a_up_ap]; decide +kernel) | (simp +decide only [a_up_ap]; decide +kernel) | rfl | (simp [a_up_ap]; done))
theorem pM_alone_0 (a : Int32) (ha1 : a.toInt ≤ (-1)) : am wM 8 226 [.ref a_mo, .int a] a_M0 (fun u _ => u = some (.int (-2))) := by
  refine ⟨_, rfl, ?_⟩
  refine aw_e rfl rfl rfl ?_
  refine aw_e rfl rfl rfl ?_
  refine aw_e rfl rfl rfl ?_
  refine aw_ci rfl rfl (by decide) rfl rfl ?_
  refine aw_e rfl rfl rfl ?_
  refine aw_e rfl rfl rfl ?_
  refine aw_i2t rfl (q2_lt_t (z := 0) (by decide +kernel) (by omega)) ?_
  refine aw_e rfl rfl rfl ?_
  refine aw_ri rfl (by first | exact Or.inl rfl | exact Or.inr (by decide +kernel)) ?_
  refine aw_i1f rfl (by decide +kernel) ?_
  refine aw_e rfl rfl rfl ?_
  refine aw_e rfl rfl rfl ?_
  refine aw_e rfl rfl rfl ?_
  refine aw_e rfl rfl rfl ?_
  refine aw_i1f rfl (by decide +kernel) ?_
  refine aw_e rfl rfl rfl ?_
  refine aw_e rfl rfl rfl ?_
  refine aw_ck (P := fun u _ => u = some (.int (-2))) rfl rfl (by decide) rfl rfl (aw_k 100000 (by decide +kernel)) (fun u M1 hu => ?_)
  subst hu
  refine aw_ri rfl (by first | exact Or.inl rfl | exact Or.inr (by decide +kernel)) ?_
  exact congrArg (fun z => some (Value.int z)) (by first | decide +kernel | (simp only [a_up_ap]; decide +kernel) | (simp +decide only [a_up_ap]; decide +kernel) | rfl | (simp [a_up_ap]; done))
theorem pC_alone_1 : am wC 8 34 [.ref 0, .int 0] a_M0 (fun u _ => u = some (.int (-3))) := am_k 1000000 (by decide +kernel)
theorem pM_alone_1 : am wM 8 226 [.ref a_mo, .int 0] a_M0 (fun u _ => u = some (.int (-3))) := am_k 1000000 (by decide +kernel)
theorem pC_alone_2 : am wC 8 34 [.ref 0, .int 1] a_M0 (fun u _ => u = some (.int (-3))) := am_k 1000000 (by decide +kernel)
theorem pM_alone_2 : am wM 8 226 [.ref a_mo, .int 1] a_M0 (fun u _ => u = some (.int (-3))) := am_k 1000000 (by decide +kernel)
theorem pC_alone_3 (a : Int32) (ha0 : 2 ≤ a.toInt) : am wC 8 34 [.ref 0, .int a] a_M0 (fun u _ => u = some (.int (-2))) := by
  refine ⟨_, rfl, ?_⟩
  refine aw_e rfl rfl rfl ?_
  refine aw_e rfl rfl rfl ?_
  refine aw_ci rfl rfl (by decide) rfl rfl ?_
  refine aw_e rfl rfl rfl ?_
  refine aw_i1f rfl (q1_eq_f (by omega)) ?_
  refine aw_e rfl rfl rfl ?_
  refine aw_e rfl rfl rfl ?_
  refine aw_i2t rfl (q2_ne_t (z := 1) (by decide +kernel) (by omega)) ?_
  refine aw_e rfl rfl rfl ?_
  refine aw_ri rfl (by first | exact Or.inl rfl | exact Or.inr (by decide +kernel)) ?_
  refine aw_i1f rfl (by decide +kernel) ?_
  refine aw_e rfl rfl rfl ?_
  refine aw_e rfl rfl rfl ?_
  refine aw_ck (P := fun u _ => u = some (.int (-2))) rfl rfl (by decide) rfl rfl (aw_k 100000 (by decide +kernel)) (fun u M1 hu => ?_)
  subst hu
  refine aw_ri rfl (by first | exact Or.inl rfl | exact Or.inr (by decide +kernel)) ?_
  exact congrArg (fun z => some (Value.int z)) (by first | decide +kernel | (simp only [a_up_ap]; decide +kernel) | (simp +decide only [a_up_ap]; decide +kernel) | rfl | (simp [a_up_ap]; done))
theorem pM_alone_3 (a : Int32) (ha0 : 2 ≤ a.toInt) : am wM 8 226 [.ref a_mo, .int a] a_M0 (fun u _ => u = some (.int (-2))) := by
  refine ⟨_, rfl, ?_⟩
  refine aw_e rfl rfl rfl ?_
  refine aw_e rfl rfl rfl ?_
  refine aw_e rfl rfl rfl ?_
  refine aw_ci rfl rfl (by decide) rfl rfl ?_
  refine aw_e rfl rfl rfl ?_
  refine aw_e rfl rfl rfl ?_
  refine aw_i2f rfl (q2_lt_f (z := 0) (by decide +kernel) (by omega)) ?_
  refine aw_e rfl rfl rfl ?_
  refine aw_e rfl rfl rfl ?_
  refine aw_i2t rfl (q2_gt_t (z := 1) (by decide +kernel) (by omega)) ?_
  refine aw_e rfl rfl rfl ?_
  refine aw_ri rfl (by first | exact Or.inl rfl | exact Or.inr (by decide +kernel)) ?_
  refine aw_i1f rfl (by decide +kernel) ?_
  refine aw_e rfl rfl rfl ?_
  refine aw_e rfl rfl rfl ?_
  refine aw_e rfl rfl rfl ?_
  refine aw_e rfl rfl rfl ?_
  refine aw_i1f rfl (by decide +kernel) ?_
  refine aw_e rfl rfl rfl ?_
  refine aw_e rfl rfl rfl ?_
  refine aw_ck (P := fun u _ => u = some (.int (-2))) rfl rfl (by decide) rfl rfl (aw_k 100000 (by decide +kernel)) (fun u M1 hu => ?_)
  subst hu
  refine aw_ri rfl (by first | exact Or.inl rfl | exact Or.inr (by decide +kernel)) ?_
  exact congrArg (fun z => some (Value.int z)) (by first | decide +kernel | (simp only [a_up_ap]; decide +kernel) | (simp +decide only [a_up_ap]; decide +kernel) | rfl | (simp [a_up_ap]; done))
theorem op_alone (a : Int32) : op_ok 34 226 [.int a] := by
  have ba0 := Int32.le_toInt a
  have ba1 := Int32.toInt_lt a
  rcases (show a.toInt ≤ (-1) ∨ a.toInt = 0 ∨ a.toInt = 1 ∨ 2 ≤ a.toInt by omega) with ha | ha | ha | ha
  · exact ⟨_, pC_alone_0 a (by omega), pM_alone_0 a (by omega)⟩
  · obtain rfl : a = 0 := q_val (z := 0) (by decide) ha
    exact ⟨_, pC_alone_1 , pM_alone_1 ⟩
  · obtain rfl : a = 1 := q_val (z := 1) (by decide) ha
    exact ⟨_, pC_alone_2 , pM_alone_2 ⟩
  · exact ⟨_, pC_alone_3 a (by omega), pM_alone_3 a (by omega)⟩
theorem pC_week_0 (a : Int32) (ha1 : a.toInt ≤ (-1)) : am wC 8 40 [.ref 0, .int a] a_M0 (fun u _ => u = some (.int (-2))) := by
  refine ⟨_, rfl, ?_⟩
  refine aw_e rfl rfl rfl ?_
  refine aw_e rfl rfl rfl ?_
  refine aw_ci rfl rfl (by decide) rfl rfl ?_
  refine aw_e rfl rfl rfl ?_
  refine aw_i1f rfl (q1_eq_f (by omega)) ?_
  refine aw_e rfl rfl rfl ?_
  refine aw_e rfl rfl rfl ?_
  refine aw_i2t rfl (q2_ne_t (z := 1) (by decide +kernel) (by omega)) ?_
  refine aw_e rfl rfl rfl ?_
  refine aw_ri rfl (by first | exact Or.inl rfl | exact Or.inr (by decide +kernel)) ?_
  refine aw_i1f rfl (by decide +kernel) ?_
  refine aw_e rfl rfl rfl ?_
  refine aw_e rfl rfl rfl ?_
  refine aw_ck (P := fun u _ => u = some (.int (-2))) rfl rfl (by decide) rfl rfl (aw_k 100000 (by decide +kernel)) (fun u M1 hu => ?_)
  subst hu
  refine aw_ri rfl (by first | exact Or.inl rfl | exact Or.inr (by decide +kernel)) ?_
  exact congrArg (fun z => some (Value.int z)) (by first | decide +kernel | (simp only [a_up_ap]; decide +kernel) | (simp +decide only [a_up_ap]; decide +kernel) | rfl | (simp [a_up_ap]; done))
theorem pM_week_0 (a : Int32) (ha1 : a.toInt ≤ (-1)) : am wM 8 242 [.ref a_mo, .int a] a_M0 (fun u _ => u = some (.int (-2))) := by
  refine ⟨_, rfl, ?_⟩
  refine aw_e rfl rfl rfl ?_
  refine aw_e rfl rfl rfl ?_
  refine aw_e rfl rfl rfl ?_
  refine aw_ci rfl rfl (by decide) rfl rfl ?_
  refine aw_e rfl rfl rfl ?_
  refine aw_e rfl rfl rfl ?_
  refine aw_i2t rfl (q2_lt_t (z := 0) (by decide +kernel) (by omega)) ?_
  refine aw_e rfl rfl rfl ?_
  refine aw_ri rfl (by first | exact Or.inl rfl | exact Or.inr (by decide +kernel)) ?_
  refine aw_i1f rfl (by decide +kernel) ?_
  refine aw_e rfl rfl rfl ?_
  refine aw_e rfl rfl rfl ?_
  refine aw_e rfl rfl rfl ?_
  refine aw_e rfl rfl rfl ?_
  refine aw_i1f rfl (by decide +kernel) ?_
  refine aw_e rfl rfl rfl ?_
  refine aw_e rfl rfl rfl ?_
  refine aw_ck (P := fun u _ => u = some (.int (-2))) rfl rfl (by decide) rfl rfl (aw_k 100000 (by decide +kernel)) (fun u M1 hu => ?_)
  subst hu
  refine aw_ri rfl (by first | exact Or.inl rfl | exact Or.inr (by decide +kernel)) ?_
  exact congrArg (fun z => some (Value.int z)) (by first | decide +kernel | (simp only [a_up_ap]; decide +kernel) | (simp +decide only [a_up_ap]; decide +kernel) | rfl | (simp [a_up_ap]; done))
theorem pC_week_1 : am wC 8 40 [.ref 0, .int 0] a_M0 (fun u _ => u = some (.int (-3))) := am_k 1000000 (by decide +kernel)
theorem pM_week_1 : am wM 8 242 [.ref a_mo, .int 0] a_M0 (fun u _ => u = some (.int (-3))) := am_k 1000000 (by decide +kernel)
theorem pC_week_2 : am wC 8 40 [.ref 0, .int 1] a_M0 (fun u _ => u = some (.int (-3))) := am_k 1000000 (by decide +kernel)
theorem pM_week_2 : am wM 8 242 [.ref a_mo, .int 1] a_M0 (fun u _ => u = some (.int (-3))) := am_k 1000000 (by decide +kernel)
theorem pC_week_3 (a : Int32) (ha0 : 2 ≤ a.toInt) : am wC 8 40 [.ref 0, .int a] a_M0 (fun u _ => u = some (.int (-2))) := by
  refine ⟨_, rfl, ?_⟩
  refine aw_e rfl rfl rfl ?_
  refine aw_e rfl rfl rfl ?_
  refine aw_ci rfl rfl (by decide) rfl rfl ?_
  refine aw_e rfl rfl rfl ?_
  refine aw_i1f rfl (q1_eq_f (by omega)) ?_
  refine aw_e rfl rfl rfl ?_
  refine aw_e rfl rfl rfl ?_
  refine aw_i2t rfl (q2_ne_t (z := 1) (by decide +kernel) (by omega)) ?_
  refine aw_e rfl rfl rfl ?_
  refine aw_ri rfl (by first | exact Or.inl rfl | exact Or.inr (by decide +kernel)) ?_
  refine aw_i1f rfl (by decide +kernel) ?_
  refine aw_e rfl rfl rfl ?_
  refine aw_e rfl rfl rfl ?_
  refine aw_ck (P := fun u _ => u = some (.int (-2))) rfl rfl (by decide) rfl rfl (aw_k 100000 (by decide +kernel)) (fun u M1 hu => ?_)
  subst hu
  refine aw_ri rfl (by first | exact Or.inl rfl | exact Or.inr (by decide +kernel)) ?_
  exact congrArg (fun z => some (Value.int z)) (by first | decide +kernel | (simp only [a_up_ap]; decide +kernel) | (simp +decide only [a_up_ap]; decide +kernel) | rfl | (simp [a_up_ap]; done))
theorem pM_week_3 (a : Int32) (ha0 : 2 ≤ a.toInt) : am wM 8 242 [.ref a_mo, .int a] a_M0 (fun u _ => u = some (.int (-2))) := by
  refine ⟨_, rfl, ?_⟩
  refine aw_e rfl rfl rfl ?_
  refine aw_e rfl rfl rfl ?_
  refine aw_e rfl rfl rfl ?_
  refine aw_ci rfl rfl (by decide) rfl rfl ?_
  refine aw_e rfl rfl rfl ?_
  refine aw_e rfl rfl rfl ?_
  refine aw_i2f rfl (q2_lt_f (z := 0) (by decide +kernel) (by omega)) ?_
  refine aw_e rfl rfl rfl ?_
  refine aw_e rfl rfl rfl ?_
  refine aw_i2t rfl (q2_gt_t (z := 1) (by decide +kernel) (by omega)) ?_
  refine aw_e rfl rfl rfl ?_
  refine aw_ri rfl (by first | exact Or.inl rfl | exact Or.inr (by decide +kernel)) ?_
  refine aw_i1f rfl (by decide +kernel) ?_
  refine aw_e rfl rfl rfl ?_
  refine aw_e rfl rfl rfl ?_
  refine aw_e rfl rfl rfl ?_
  refine aw_e rfl rfl rfl ?_
  refine aw_i1f rfl (by decide +kernel) ?_
  refine aw_e rfl rfl rfl ?_
  refine aw_e rfl rfl rfl ?_
  refine aw_ck (P := fun u _ => u = some (.int (-2))) rfl rfl (by decide) rfl rfl (aw_k 100000 (by decide +kernel)) (fun u M1 hu => ?_)
  subst hu
  refine aw_ri rfl (by first | exact Or.inl rfl | exact Or.inr (by decide +kernel)) ?_
  exact congrArg (fun z => some (Value.int z)) (by first | decide +kernel | (simp only [a_up_ap]; decide +kernel) | (simp +decide only [a_up_ap]; decide +kernel) | rfl | (simp [a_up_ap]; done))
theorem op_week (a : Int32) : op_ok 40 242 [.int a] := by
  have ba0 := Int32.le_toInt a
  have ba1 := Int32.toInt_lt a
  rcases (show a.toInt ≤ (-1) ∨ a.toInt = 0 ∨ a.toInt = 1 ∨ 2 ≤ a.toInt by omega) with ha | ha | ha | ha
  · exact ⟨_, pC_week_0 a (by omega), pM_week_0 a (by omega)⟩
  · obtain rfl : a = 0 := q_val (z := 0) (by decide) ha
    exact ⟨_, pC_week_1 , pM_week_1 ⟩
  · obtain rfl : a = 1 := q_val (z := 1) (by decide) ha
    exact ⟨_, pC_week_2 , pM_week_2 ⟩
  · exact ⟨_, pC_week_3 a (by omega), pM_week_3 a (by omega)⟩
theorem pC_picked_0 (a : Int32) (ha1 : a.toInt ≤ (-1)) : am wC 8 36 [.ref 0, .int a] a_M0 (fun u _ => u = some (.int 1000000002)) := by
  refine ⟨_, rfl, ?_⟩
  refine aw_e rfl rfl rfl ?_
  refine aw_e rfl rfl rfl ?_
  refine aw_ci rfl rfl (by decide) rfl rfl ?_
  refine aw_e rfl rfl rfl ?_
  refine aw_i1f rfl (q1_eq_f (by omega)) ?_
  refine aw_e rfl rfl rfl ?_
  refine aw_e rfl rfl rfl ?_
  refine aw_i2t rfl (q2_ne_t (z := 1) (by decide +kernel) (by omega)) ?_
  refine aw_e rfl rfl rfl ?_
  refine aw_ri rfl (by first | exact Or.inl rfl | exact Or.inr (by decide +kernel)) ?_
  refine aw_i1f rfl (by decide +kernel) ?_
  refine aw_e rfl rfl rfl ?_
  refine aw_e rfl rfl rfl ?_
  refine aw_e rfl rfl rfl ?_
  refine aw_ck (P := fun u _ => u = some (.int (-2))) rfl rfl (by decide) rfl rfl (aw_k 100000 (by decide +kernel)) (fun u M1 hu => ?_)
  subst hu
  refine aw_e rfl rfl rfl ?_
  refine aw_ri rfl (by first | exact Or.inl rfl | exact Or.inr (by decide +kernel)) ?_
  exact congrArg (fun z => some (Value.int z)) (by first | decide +kernel | (simp only [a_up_ap]; decide +kernel) | (simp +decide only [a_up_ap]; decide +kernel) | rfl | (simp [a_up_ap]; done))
theorem pM_picked_0 (a : Int32) (ha1 : a.toInt ≤ (-1)) : am wM 8 232 [.ref a_mo, .int a] a_M0 (fun u _ => u = some (.int 1000000002)) := by
  refine ⟨_, rfl, ?_⟩
  refine aw_e rfl rfl rfl ?_
  refine aw_e rfl rfl rfl ?_
  refine aw_e rfl rfl rfl ?_
  refine aw_ci rfl rfl (by decide) rfl rfl ?_
  refine aw_e rfl rfl rfl ?_
  refine aw_e rfl rfl rfl ?_
  refine aw_i2t rfl (q2_lt_t (z := 0) (by decide +kernel) (by omega)) ?_
  refine aw_e rfl rfl rfl ?_
  refine aw_ri rfl (by first | exact Or.inl rfl | exact Or.inr (by decide +kernel)) ?_
  refine aw_i1f rfl (by decide +kernel) ?_
  refine aw_e rfl rfl rfl ?_
  refine aw_e rfl rfl rfl ?_
  refine aw_ck (P := fun u _ => u = some (.int 1000000002)) rfl rfl (by decide) rfl rfl (aw_k 100000 (by decide +kernel)) (fun u M1 hu => ?_)
  subst hu
  refine aw_ri rfl (by first | exact Or.inl rfl | exact Or.inr (by decide +kernel)) ?_
  exact congrArg (fun z => some (Value.int z)) (by first | decide +kernel | (simp only [a_up_ap]; decide +kernel) | (simp +decide only [a_up_ap]; decide +kernel) | rfl | (simp [a_up_ap]; done))
theorem pC_picked_1 : am wC 8 36 [.ref 0, .int 0] a_M0 (fun u _ => u = some (.int 0)) := am_k 1000000 (by decide +kernel)
theorem pM_picked_1 : am wM 8 232 [.ref a_mo, .int 0] a_M0 (fun u _ => u = some (.int 0)) := am_k 1000000 (by decide +kernel)
theorem pC_picked_2 : am wC 8 36 [.ref 0, .int 1] a_M0 (fun u _ => u = some (.int (-9))) := am_k 1000000 (by decide +kernel)
theorem pM_picked_2 : am wM 8 232 [.ref a_mo, .int 1] a_M0 (fun u _ => u = some (.int (-9))) := am_k 1000000 (by decide +kernel)
theorem pC_picked_3 (a : Int32) (ha0 : 2 ≤ a.toInt) : am wC 8 36 [.ref 0, .int a] a_M0 (fun u _ => u = some (.int 1000000002)) := by
  refine ⟨_, rfl, ?_⟩
  refine aw_e rfl rfl rfl ?_
  refine aw_e rfl rfl rfl ?_
  refine aw_ci rfl rfl (by decide) rfl rfl ?_
  refine aw_e rfl rfl rfl ?_
  refine aw_i1f rfl (q1_eq_f (by omega)) ?_
  refine aw_e rfl rfl rfl ?_
  refine aw_e rfl rfl rfl ?_
  refine aw_i2t rfl (q2_ne_t (z := 1) (by decide +kernel) (by omega)) ?_
  refine aw_e rfl rfl rfl ?_
  refine aw_ri rfl (by first | exact Or.inl rfl | exact Or.inr (by decide +kernel)) ?_
  refine aw_i1f rfl (by decide +kernel) ?_
  refine aw_e rfl rfl rfl ?_
  refine aw_e rfl rfl rfl ?_
  refine aw_e rfl rfl rfl ?_
  refine aw_ck (P := fun u _ => u = some (.int (-2))) rfl rfl (by decide) rfl rfl (aw_k 100000 (by decide +kernel)) (fun u M1 hu => ?_)
  subst hu
  refine aw_e rfl rfl rfl ?_
  refine aw_ri rfl (by first | exact Or.inl rfl | exact Or.inr (by decide +kernel)) ?_
  exact congrArg (fun z => some (Value.int z)) (by first | decide +kernel | (simp only [a_up_ap]; decide +kernel) | (simp +decide only [a_up_ap]; decide +kernel) | rfl | (simp [a_up_ap]; done))
theorem pM_picked_3 (a : Int32) (ha0 : 2 ≤ a.toInt) : am wM 8 232 [.ref a_mo, .int a] a_M0 (fun u _ => u = some (.int 1000000002)) := by
  refine ⟨_, rfl, ?_⟩
  refine aw_e rfl rfl rfl ?_
  refine aw_e rfl rfl rfl ?_
  refine aw_e rfl rfl rfl ?_
  refine aw_ci rfl rfl (by decide) rfl rfl ?_
  refine aw_e rfl rfl rfl ?_
  refine aw_e rfl rfl rfl ?_
  refine aw_i2f rfl (q2_lt_f (z := 0) (by decide +kernel) (by omega)) ?_
  refine aw_e rfl rfl rfl ?_
  refine aw_e rfl rfl rfl ?_
  refine aw_i2t rfl (q2_gt_t (z := 1) (by decide +kernel) (by omega)) ?_
  refine aw_e rfl rfl rfl ?_
  refine aw_ri rfl (by first | exact Or.inl rfl | exact Or.inr (by decide +kernel)) ?_
  refine aw_i1f rfl (by decide +kernel) ?_
  refine aw_e rfl rfl rfl ?_
  refine aw_e rfl rfl rfl ?_
  refine aw_ck (P := fun u _ => u = some (.int 1000000002)) rfl rfl (by decide) rfl rfl (aw_k 100000 (by decide +kernel)) (fun u M1 hu => ?_)
  subst hu
  refine aw_ri rfl (by first | exact Or.inl rfl | exact Or.inr (by decide +kernel)) ?_
  exact congrArg (fun z => some (Value.int z)) (by first | decide +kernel | (simp only [a_up_ap]; decide +kernel) | (simp +decide only [a_up_ap]; decide +kernel) | rfl | (simp [a_up_ap]; done))
theorem op_picked (a : Int32) : op_ok 36 232 [.int a] := by
  have ba0 := Int32.le_toInt a
  have ba1 := Int32.toInt_lt a
  rcases (show a.toInt ≤ (-1) ∨ a.toInt = 0 ∨ a.toInt = 1 ∨ 2 ≤ a.toInt by omega) with ha | ha | ha | ha
  · exact ⟨_, pC_picked_0 a (by omega), pM_picked_0 a (by omega)⟩
  · obtain rfl : a = 0 := q_val (z := 0) (by decide) ha
    exact ⟨_, pC_picked_1 , pM_picked_1 ⟩
  · obtain rfl : a = 1 := q_val (z := 1) (by decide) ha
    exact ⟨_, pC_picked_2 , pM_picked_2 ⟩
  · exact ⟨_, pC_picked_3 a (by omega), pM_picked_3 a (by omega)⟩
theorem pC_steps_0 (a : Int32) (ha1 : a.toInt ≤ (-1)) : am wC 8 28 [.ref 0, .int a] a_M0 (fun u _ => u = some (.int (-2))) := by
  refine ⟨_, rfl, ?_⟩
  refine aw_e rfl rfl rfl ?_
  refine aw_i1t rfl (q1_lt_t (by omega)) ?_
  refine aw_e rfl rfl rfl ?_
  refine aw_e rfl rfl rfl ?_
  refine aw_ck (P := fun u _ => u = some (.int (-2))) rfl rfl (by decide) rfl rfl (aw_k 100000 (by decide +kernel)) (fun u M1 hu => ?_)
  subst hu
  refine aw_ri rfl (by first | exact Or.inl rfl | exact Or.inr (by decide +kernel)) ?_
  exact congrArg (fun z => some (Value.int z)) (by first | decide +kernel | (simp only [a_up_ap]; decide +kernel) | (simp +decide only [a_up_ap]; decide +kernel) | rfl | (simp [a_up_ap]; done))
theorem pM_steps_0 (a : Int32) (ha1 : a.toInt ≤ (-1)) : am wM 8 234 [.ref a_mo, .int a] a_M0 (fun u _ => u = some (.int (-2))) := by
  refine ⟨_, rfl, ?_⟩
  refine aw_e rfl rfl rfl ?_
  refine aw_e rfl rfl rfl ?_
  refine aw_e rfl rfl rfl ?_
  refine aw_ci rfl rfl (by decide) rfl rfl ?_
  refine aw_e rfl rfl rfl ?_
  refine aw_e rfl rfl rfl ?_
  refine aw_i2t rfl (q2_lt_t (z := 0) (by decide +kernel) (by omega)) ?_
  refine aw_e rfl rfl rfl ?_
  refine aw_ri rfl (by first | exact Or.inl rfl | exact Or.inr (by decide +kernel)) ?_
  refine aw_i1f rfl (by decide +kernel) ?_
  refine aw_e rfl rfl rfl ?_
  refine aw_e rfl rfl rfl ?_
  refine aw_e rfl rfl rfl ?_
  refine aw_e rfl rfl rfl ?_
  refine aw_i1f rfl (by decide +kernel) ?_
  refine aw_e rfl rfl rfl ?_
  refine aw_e rfl rfl rfl ?_
  refine aw_ck (P := fun u _ => u = some (.int (-2))) rfl rfl (by decide) rfl rfl (aw_k 100000 (by decide +kernel)) (fun u M1 hu => ?_)
  subst hu
  refine aw_ri rfl (by first | exact Or.inl rfl | exact Or.inr (by decide +kernel)) ?_
  exact congrArg (fun z => some (Value.int z)) (by first | decide +kernel | (simp only [a_up_ap]; decide +kernel) | (simp +decide only [a_up_ap]; decide +kernel) | rfl | (simp [a_up_ap]; done))
theorem pC_steps_1 : am wC 8 28 [.ref 0, .int 0] a_M0 (fun u _ => u = some (.int 0)) := am_k 1000000 (by decide +kernel)
theorem pM_steps_1 : am wM 8 234 [.ref a_mo, .int 0] a_M0 (fun u _ => u = some (.int 0)) := am_k 1000000 (by decide +kernel)
theorem pC_steps_2 : am wC 8 28 [.ref 0, .int 1] a_M0 (fun u _ => u = some (.int (-3))) := am_k 1000000 (by decide +kernel)
theorem pM_steps_2 : am wM 8 234 [.ref a_mo, .int 1] a_M0 (fun u _ => u = some (.int (-3))) := am_k 1000000 (by decide +kernel)
theorem pC_steps_3 : am wC 8 28 [.ref 0, .int 2] a_M0 (fun u _ => u = some (.int (-3))) := am_k 1000000 (by decide +kernel)
theorem pM_steps_3 : am wM 8 234 [.ref a_mo, .int 2] a_M0 (fun u _ => u = some (.int (-3))) := am_k 1000000 (by decide +kernel)
theorem pC_steps_4 (a : Int32) (ha0 : 3 ≤ a.toInt) : am wC 8 28 [.ref 0, .int a] a_M0 (fun u _ => u = some (.int (-2))) := by
  refine ⟨_, rfl, ?_⟩
  refine aw_e rfl rfl rfl ?_
  refine aw_i1f rfl (q1_lt_f (by omega)) ?_
  refine aw_e rfl rfl rfl ?_
  refine aw_e rfl rfl rfl ?_
  refine aw_i2f rfl (q2_le_f (z := 2) (by decide +kernel) (by omega)) ?_
  refine aw_e rfl rfl rfl ?_
  refine aw_e rfl rfl rfl ?_
  refine aw_ck (P := fun u _ => u = some (.int (-2))) rfl rfl (by decide) rfl rfl (aw_k 100000 (by decide +kernel)) (fun u M1 hu => ?_)
  subst hu
  refine aw_ri rfl (by first | exact Or.inl rfl | exact Or.inr (by decide +kernel)) ?_
  exact congrArg (fun z => some (Value.int z)) (by first | decide +kernel | (simp only [a_up_ap]; decide +kernel) | (simp +decide only [a_up_ap]; decide +kernel) | rfl | (simp [a_up_ap]; done))
theorem pM_steps_4 (a : Int32) (ha0 : 3 ≤ a.toInt) : am wM 8 234 [.ref a_mo, .int a] a_M0 (fun u _ => u = some (.int (-2))) := by
  refine ⟨_, rfl, ?_⟩
  refine aw_e rfl rfl rfl ?_
  refine aw_e rfl rfl rfl ?_
  refine aw_e rfl rfl rfl ?_
  refine aw_ci rfl rfl (by decide) rfl rfl ?_
  refine aw_e rfl rfl rfl ?_
  refine aw_e rfl rfl rfl ?_
  refine aw_i2f rfl (q2_lt_f (z := 0) (by decide +kernel) (by omega)) ?_
  refine aw_e rfl rfl rfl ?_
  refine aw_e rfl rfl rfl ?_
  refine aw_i2t rfl (q2_gt_t (z := 2) (by decide +kernel) (by omega)) ?_
  refine aw_e rfl rfl rfl ?_
  refine aw_ri rfl (by first | exact Or.inl rfl | exact Or.inr (by decide +kernel)) ?_
  refine aw_i1f rfl (by decide +kernel) ?_
  refine aw_e rfl rfl rfl ?_
  refine aw_e rfl rfl rfl ?_
  refine aw_e rfl rfl rfl ?_
  refine aw_e rfl rfl rfl ?_
  refine aw_i1f rfl (by decide +kernel) ?_
  refine aw_e rfl rfl rfl ?_
  refine aw_e rfl rfl rfl ?_
  refine aw_ck (P := fun u _ => u = some (.int (-2))) rfl rfl (by decide) rfl rfl (aw_k 100000 (by decide +kernel)) (fun u M1 hu => ?_)
  subst hu
  refine aw_ri rfl (by first | exact Or.inl rfl | exact Or.inr (by decide +kernel)) ?_
  exact congrArg (fun z => some (Value.int z)) (by first | decide +kernel | (simp only [a_up_ap]; decide +kernel) | (simp +decide only [a_up_ap]; decide +kernel) | rfl | (simp [a_up_ap]; done))
theorem op_steps (a : Int32) : op_ok 28 234 [.int a] := by
  have ba0 := Int32.le_toInt a
  have ba1 := Int32.toInt_lt a
  rcases (show a.toInt ≤ (-1) ∨ a.toInt = 0 ∨ a.toInt = 1 ∨ a.toInt = 2 ∨ 3 ≤ a.toInt by omega) with ha | ha | ha | ha | ha
  · exact ⟨_, pC_steps_0 a (by omega), pM_steps_0 a (by omega)⟩
  · obtain rfl : a = 0 := q_val (z := 0) (by decide) ha
    exact ⟨_, pC_steps_1 , pM_steps_1 ⟩
  · obtain rfl : a = 1 := q_val (z := 1) (by decide) ha
    exact ⟨_, pC_steps_2 , pM_steps_2 ⟩
  · obtain rfl : a = 2 := q_val (z := 2) (by decide) ha
    exact ⟨_, pC_steps_3 , pM_steps_3 ⟩
  · exact ⟨_, pC_steps_4 a (by omega), pM_steps_4 a (by omega)⟩
theorem pC_seeds_0 (a : Int32) (ha1 : a.toInt ≤ 0) (b : Int32) (c : Int32) : am wC 8 31 [.ref 0, .int a, .int b, .int c] a_M0 (fun u _ => u = some (.int (-4))) := by
  refine ⟨_, rfl, ?_⟩
  refine aw_e rfl rfl rfl ?_
  refine aw_e rfl rfl rfl ?_
  refine aw_i2f rfl (q2_ge_f (z := 1) (by decide +kernel) (by omega)) ?_
  refine aw_e rfl rfl rfl ?_
  refine aw_e rfl rfl rfl ?_
  refine aw_ck (P := fun u _ => u = some (.int (-4))) rfl rfl (by decide) rfl rfl (aw_k 100000 (by decide +kernel)) (fun u M1 hu => ?_)
  subst hu
  refine aw_ri rfl (by first | exact Or.inl rfl | exact Or.inr (by decide +kernel)) ?_
  exact congrArg (fun z => some (Value.int z)) (by first | decide +kernel | (simp only [a_up_ap]; decide +kernel) | (simp +decide only [a_up_ap]; decide +kernel) | rfl | (simp [a_up_ap]; done))
theorem pM_seeds_0 (a : Int32) (ha1 : a.toInt ≤ 0) (b : Int32) (c : Int32) : am wM 8 247 [.ref a_mo, .int a, .int b, .int c] a_M0 (fun u _ => u = some (.int (-4))) := by
  refine ⟨_, rfl, ?_⟩
  refine aw_e rfl rfl rfl ?_
  refine aw_e rfl rfl rfl ?_
  refine aw_e rfl rfl rfl ?_
  refine aw_ci rfl rfl (by decide) rfl rfl ?_
  refine aw_e rfl rfl rfl ?_
  refine aw_e rfl rfl rfl ?_
  refine aw_i2f rfl (q2_ge_f (z := 1) (by decide +kernel) (by omega)) ?_
  refine aw_e rfl rfl rfl ?_
  refine aw_e rfl rfl rfl ?_
  refine aw_ri rfl (by first | exact Or.inl rfl | exact Or.inr (by decide +kernel)) ?_
  refine aw_e rfl rfl rfl ?_
  refine aw_e rfl rfl rfl ?_
  refine aw_i1t rfl (by decide +kernel) ?_
  refine aw_e rfl rfl rfl ?_
  refine aw_i1f rfl (by decide +kernel) ?_
  refine aw_e rfl rfl rfl ?_
  refine aw_e rfl rfl rfl ?_
  refine aw_ck (P := fun u _ => u = some (.int (-4))) rfl rfl (by decide) rfl rfl (aw_k 100000 (by decide +kernel)) (fun u M1 hu => ?_)
  subst hu
  refine aw_ri rfl (by first | exact Or.inl rfl | exact Or.inr (by decide +kernel)) ?_
  exact congrArg (fun z => some (Value.int z)) (by first | decide +kernel | (simp only [a_up_ap]; decide +kernel) | (simp +decide only [a_up_ap]; decide +kernel) | rfl | (simp [a_up_ap]; done))
theorem pC_seeds_1 (a : Int32) (ha0 : 1 ≤ a.toInt) (ha1 : a.toInt ≤ 20) (b : Int32) (c : Int32) (hc1 : c.toInt ≤ (-1)) : am wC 8 31 [.ref 0, .int a, .int b, .int c] a_M0 (fun u _ => u = some (.int (-2))) := by
  refine ⟨_, rfl, ?_⟩
  refine aw_e rfl rfl rfl ?_
  refine aw_e rfl rfl rfl ?_
  refine aw_i2t rfl (q2_ge_t (z := 1) (by decide +kernel) (by omega)) ?_
  refine aw_e rfl rfl rfl ?_
  refine aw_e rfl rfl rfl ?_
  refine aw_i2t rfl (q2_le_t (z := 20) (by decide +kernel) (by omega)) ?_
  refine aw_e rfl rfl rfl ?_
  refine aw_e rfl rfl rfl ?_
  refine aw_ci rfl rfl (by decide) rfl rfl ?_
  refine aw_e rfl rfl rfl ?_
  refine aw_i1f rfl (q1_eq_f (by omega)) ?_
  refine aw_e rfl rfl rfl ?_
  refine aw_e rfl rfl rfl ?_
  refine aw_i2t rfl (q2_ne_t (z := 1) (by decide +kernel) (by omega)) ?_
  refine aw_e rfl rfl rfl ?_
  refine aw_ri rfl (by first | exact Or.inl rfl | exact Or.inr (by decide +kernel)) ?_
  refine aw_i1f rfl (by decide +kernel) ?_
  refine aw_e rfl rfl rfl ?_
  refine aw_e rfl rfl rfl ?_
  refine aw_ck (P := fun u _ => u = some (.int (-2))) rfl rfl (by decide) rfl rfl (aw_k 100000 (by decide +kernel)) (fun u M1 hu => ?_)
  subst hu
  refine aw_ri rfl (by first | exact Or.inl rfl | exact Or.inr (by decide +kernel)) ?_
  exact congrArg (fun z => some (Value.int z)) (by first | decide +kernel | (simp only [a_up_ap]; decide +kernel) | (simp +decide only [a_up_ap]; decide +kernel) | rfl | (simp [a_up_ap]; done))
theorem pM_seeds_1 (a : Int32) (ha0 : 1 ≤ a.toInt) (ha1 : a.toInt ≤ 20) (b : Int32) (c : Int32) (hc1 : c.toInt ≤ (-1)) : am wM 8 247 [.ref a_mo, .int a, .int b, .int c] a_M0 (fun u _ => u = some (.int (-2))) := by
  refine ⟨_, rfl, ?_⟩
  refine aw_e rfl rfl rfl ?_
  refine aw_e rfl rfl rfl ?_
  refine aw_e rfl rfl rfl ?_
  refine aw_ci rfl rfl (by decide) rfl rfl ?_
  refine aw_e rfl rfl rfl ?_
  refine aw_e rfl rfl rfl ?_
  refine aw_i2t rfl (q2_ge_t (z := 1) (by decide +kernel) (by omega)) ?_
  refine aw_e rfl rfl rfl ?_
  refine aw_e rfl rfl rfl ?_
  refine aw_i2t rfl (q2_le_t (z := 20) (by decide +kernel) (by omega)) ?_
  refine aw_e rfl rfl rfl ?_
  refine aw_ri rfl (by first | exact Or.inl rfl | exact Or.inr (by decide +kernel)) ?_
  refine aw_e rfl rfl rfl ?_
  refine aw_e rfl rfl rfl ?_
  refine aw_i1f rfl (by decide +kernel) ?_
  refine aw_e rfl rfl rfl ?_
  refine aw_e rfl rfl rfl ?_
  refine aw_e rfl rfl rfl ?_
  refine aw_ci rfl rfl (by decide) rfl rfl ?_
  refine aw_e rfl rfl rfl ?_
  refine aw_e rfl rfl rfl ?_
  refine aw_i2t rfl (q2_lt_t (z := 0) (by decide +kernel) (by omega)) ?_
  refine aw_e rfl rfl rfl ?_
  refine aw_ri rfl (by first | exact Or.inl rfl | exact Or.inr (by decide +kernel)) ?_
  refine aw_i1f rfl (by decide +kernel) ?_
  refine aw_e rfl rfl rfl ?_
  refine aw_e rfl rfl rfl ?_
  refine aw_e rfl rfl rfl ?_
  refine aw_e rfl rfl rfl ?_
  refine aw_i1f rfl (by decide +kernel) ?_
  refine aw_e rfl rfl rfl ?_
  refine aw_e rfl rfl rfl ?_
  refine aw_ck (P := fun u _ => u = some (.int (-2))) rfl rfl (by decide) rfl rfl (aw_k 100000 (by decide +kernel)) (fun u M1 hu => ?_)
  subst hu
  refine aw_ri rfl (by first | exact Or.inl rfl | exact Or.inr (by decide +kernel)) ?_
  exact congrArg (fun z => some (Value.int z)) (by first | decide +kernel | (simp only [a_up_ap]; decide +kernel) | (simp +decide only [a_up_ap]; decide +kernel) | rfl | (simp [a_up_ap]; done))
theorem pC_seeds_2 (a : Int32) (ha0 : 1 ≤ a.toInt) (ha1 : a.toInt ≤ 20) (b : Int32) : am wC 8 31 [.ref 0, .int a, .int b, .int 0] a_M0 (fun u _ => u = some (.int (-3))) := by
  refine ⟨_, rfl, ?_⟩
  refine aw_e rfl rfl rfl ?_
  refine aw_e rfl rfl rfl ?_
  refine aw_i2t rfl (q2_ge_t (z := 1) (by decide +kernel) (by omega)) ?_
  refine aw_e rfl rfl rfl ?_
  refine aw_e rfl rfl rfl ?_
  refine aw_i2t rfl (q2_le_t (z := 20) (by decide +kernel) (by omega)) ?_
  refine aw_e rfl rfl rfl ?_
  refine aw_e rfl rfl rfl ?_
  refine aw_ci rfl rfl (by decide) rfl rfl ?_
  refine aw_e rfl rfl rfl ?_
  refine aw_i1t rfl (by decide +kernel) ?_
  refine aw_e rfl rfl rfl ?_
  refine aw_e rfl rfl rfl ?_
  refine aw_ri rfl (by first | exact Or.inl rfl | exact Or.inr (by decide +kernel)) ?_
  refine aw_i1t rfl (by decide +kernel) ?_
  refine aw_e rfl rfl rfl ?_
  refine aw_e rfl rfl rfl ?_
  refine aw_e rfl rfl rfl ?_
  refine aw_e rfl rfl rfl ?_
  refine aw_i1f rfl (by decide +kernel) ?_
  refine aw_e rfl rfl rfl ?_
  refine aw_e rfl rfl rfl ?_
  refine aw_ci rfl rfl (by decide) rfl rfl ?_
  refine aw_e rfl rfl rfl ?_
  refine aw_e rfl rfl rfl ?_
  refine aw_e rfl rfl rfl ?_
  refine aw_e rfl rfl rfl ?_
  refine aw_e rfl rfl rfl ?_
  refine aw_e rfl rfl rfl ?_
  refine aw_e rfl rfl rfl ?_
  refine aw_e rfl rfl rfl ?_
  refine aw_ci rfl rfl (by decide) rfl rfl ?_
  refine aw_e rfl rfl rfl ?_
  refine aw_e rfl rfl rfl ?_
  refine aw_e rfl rfl rfl ?_
  refine aw_i1f rfl (by decide +kernel) ?_
  refine aw_e rfl rfl rfl ?_
  refine aw_e rfl rfl rfl ?_
  refine aw_e rfl rfl rfl ?_
  refine aw_i2f rfl (by decide +kernel) ?_
  refine aw_e rfl rfl rfl ?_
  refine aw_e rfl rfl rfl ?_
  refine aw_e rfl rfl rfl ?_
  refine aw_e rfl rfl rfl ?_
  refine aw_ri rfl (by first | exact Or.inl rfl | exact Or.inr (by decide +kernel)) ?_
  refine aw_e rfl rfl rfl ?_
  refine aw_e rfl rfl rfl ?_
  refine aw_ci rfl rfl (by decide) rfl rfl ?_
  refine aw_e rfl rfl rfl ?_
  refine aw_e rfl rfl rfl ?_
  refine aw_e rfl rfl rfl ?_
  refine aw_i1f rfl (by decide +kernel) ?_
  refine aw_e rfl rfl rfl ?_
  refine aw_e rfl rfl rfl ?_
  refine aw_e rfl rfl rfl ?_
  refine aw_i2f rfl (by decide +kernel) ?_
  refine aw_e rfl rfl rfl ?_
  refine aw_e rfl rfl rfl ?_
  refine aw_e rfl rfl rfl ?_
  refine aw_e rfl rfl rfl ?_
  refine aw_rv rfl ?_
  refine aw_e rfl rfl rfl ?_
  refine aw_ri rfl (by first | exact Or.inl rfl | exact Or.inr (by decide +kernel)) ?_
  refine aw_ri rfl (by first | exact Or.inl rfl | exact Or.inr (by decide +kernel)) ?_
  exact congrArg (fun z => some (Value.int z)) (by first | decide +kernel | (simp only [a_up_ap]; decide +kernel) | (simp +decide only [a_up_ap]; decide +kernel) | rfl | (simp [a_up_ap]; done))
theorem pM_seeds_2 (a : Int32) (ha0 : 1 ≤ a.toInt) (ha1 : a.toInt ≤ 20) (b : Int32) : am wM 8 247 [.ref a_mo, .int a, .int b, .int 0] a_M0 (fun u _ => u = some (.int (-3))) := by
  refine ⟨_, rfl, ?_⟩
  refine aw_e rfl rfl rfl ?_
  refine aw_e rfl rfl rfl ?_
  refine aw_e rfl rfl rfl ?_
  refine aw_ci rfl rfl (by decide) rfl rfl ?_
  refine aw_e rfl rfl rfl ?_
  refine aw_e rfl rfl rfl ?_
  refine aw_i2t rfl (q2_ge_t (z := 1) (by decide +kernel) (by omega)) ?_
  refine aw_e rfl rfl rfl ?_
  refine aw_e rfl rfl rfl ?_
  refine aw_i2t rfl (q2_le_t (z := 20) (by decide +kernel) (by omega)) ?_
  refine aw_e rfl rfl rfl ?_
  refine aw_ri rfl (by first | exact Or.inl rfl | exact Or.inr (by decide +kernel)) ?_
  refine aw_e rfl rfl rfl ?_
  refine aw_e rfl rfl rfl ?_
  refine aw_i1f rfl (by decide +kernel) ?_
  refine aw_e rfl rfl rfl ?_
  refine aw_e rfl rfl rfl ?_
  refine aw_e rfl rfl rfl ?_
  refine aw_ci rfl rfl (by decide) rfl rfl ?_
  refine aw_e rfl rfl rfl ?_
  refine aw_e rfl rfl rfl ?_
  refine aw_i2f rfl (by decide +kernel) ?_
  refine aw_e rfl rfl rfl ?_
  refine aw_e rfl rfl rfl ?_
  refine aw_i2f rfl (by decide +kernel) ?_
  refine aw_e rfl rfl rfl ?_
  refine aw_e rfl rfl rfl ?_
  refine aw_ri rfl (by first | exact Or.inl rfl | exact Or.inr (by decide +kernel)) ?_
  refine aw_i1t rfl (by decide +kernel) ?_
  refine aw_e rfl rfl rfl ?_
  refine aw_e rfl rfl rfl ?_
  refine aw_i1f rfl (by decide +kernel) ?_
  refine aw_e rfl rfl rfl ?_
  refine aw_e rfl rfl rfl ?_
  refine aw_e rfl rfl rfl ?_
  refine aw_e rfl rfl rfl ?_
  refine aw_i1f rfl (by decide +kernel) ?_
  refine aw_e rfl rfl rfl ?_
  refine aw_e rfl rfl rfl ?_
  refine aw_ci rfl rfl (by decide) rfl rfl ?_
  refine aw_e rfl rfl rfl ?_
  refine aw_e rfl rfl rfl ?_
  refine aw_e rfl rfl rfl ?_
  refine aw_e rfl rfl rfl ?_
  refine aw_e rfl rfl rfl ?_
  refine aw_e rfl rfl rfl ?_
  refine aw_e rfl rfl rfl ?_
  refine aw_e rfl rfl rfl ?_
  refine aw_e rfl rfl rfl ?_
  refine aw_e rfl rfl rfl ?_
  refine aw_ri rfl (by first | exact Or.inl rfl | exact Or.inr (by decide +kernel)) ?_
  refine aw_ri rfl (by first | exact Or.inl rfl | exact Or.inr (by decide +kernel)) ?_
  exact congrArg (fun z => some (Value.int z)) (by first | decide +kernel | (simp only [a_up_ap]; decide +kernel) | (simp +decide only [a_up_ap]; decide +kernel) | rfl | (simp [a_up_ap]; done))
theorem pC_seeds_3 (a : Int32) (ha0 : 1 ≤ a.toInt) (ha1 : a.toInt ≤ 20) (b : Int32) : am wC 8 31 [.ref 0, .int a, .int b, .int 1] a_M0 (fun u _ => u = some (.int (-3))) := by
  refine ⟨_, rfl, ?_⟩
  refine aw_e rfl rfl rfl ?_
  refine aw_e rfl rfl rfl ?_
  refine aw_i2t rfl (q2_ge_t (z := 1) (by decide +kernel) (by omega)) ?_
  refine aw_e rfl rfl rfl ?_
  refine aw_e rfl rfl rfl ?_
  refine aw_i2t rfl (q2_le_t (z := 20) (by decide +kernel) (by omega)) ?_
  refine aw_e rfl rfl rfl ?_
  refine aw_e rfl rfl rfl ?_
  refine aw_ci rfl rfl (by decide) rfl rfl ?_
  refine aw_e rfl rfl rfl ?_
  refine aw_i1f rfl (by decide +kernel) ?_
  refine aw_e rfl rfl rfl ?_
  refine aw_e rfl rfl rfl ?_
  refine aw_i2f rfl (by decide +kernel) ?_
  refine aw_e rfl rfl rfl ?_
  refine aw_e rfl rfl rfl ?_
  refine aw_ri rfl (by first | exact Or.inl rfl | exact Or.inr (by decide +kernel)) ?_
  refine aw_i1t rfl (by decide +kernel) ?_
  refine aw_e rfl rfl rfl ?_
  refine aw_e rfl rfl rfl ?_
  refine aw_e rfl rfl rfl ?_
  refine aw_e rfl rfl rfl ?_
  refine aw_i1f rfl (by decide +kernel) ?_
  refine aw_e rfl rfl rfl ?_
  refine aw_e rfl rfl rfl ?_
  refine aw_ci rfl rfl (by decide) rfl rfl ?_
  refine aw_e rfl rfl rfl ?_
  refine aw_e rfl rfl rfl ?_
  refine aw_e rfl rfl rfl ?_
  refine aw_e rfl rfl rfl ?_
  refine aw_e rfl rfl rfl ?_
  refine aw_e rfl rfl rfl ?_
  refine aw_e rfl rfl rfl ?_
  refine aw_e rfl rfl rfl ?_
  refine aw_ci rfl rfl (by decide) rfl rfl ?_
  refine aw_e rfl rfl rfl ?_
  refine aw_e rfl rfl rfl ?_
  refine aw_e rfl rfl rfl ?_
  refine aw_i1f rfl (by decide +kernel) ?_
  refine aw_e rfl rfl rfl ?_
  refine aw_e rfl rfl rfl ?_
  refine aw_e rfl rfl rfl ?_
  refine aw_i2f rfl (by decide +kernel) ?_
  refine aw_e rfl rfl rfl ?_
  refine aw_e rfl rfl rfl ?_
  refine aw_e rfl rfl rfl ?_
  refine aw_e rfl rfl rfl ?_
  refine aw_ri rfl (by first | exact Or.inl rfl | exact Or.inr (by decide +kernel)) ?_
  refine aw_e rfl rfl rfl ?_
  refine aw_e rfl rfl rfl ?_
  refine aw_ci rfl rfl (by decide) rfl rfl ?_
  refine aw_e rfl rfl rfl ?_
  refine aw_e rfl rfl rfl ?_
  refine aw_e rfl rfl rfl ?_
  refine aw_i1f rfl (by decide +kernel) ?_
  refine aw_e rfl rfl rfl ?_
  refine aw_e rfl rfl rfl ?_
  refine aw_e rfl rfl rfl ?_
  refine aw_i2f rfl (by decide +kernel) ?_
  refine aw_e rfl rfl rfl ?_
  refine aw_e rfl rfl rfl ?_
  refine aw_e rfl rfl rfl ?_
  refine aw_e rfl rfl rfl ?_
  refine aw_rv rfl ?_
  refine aw_e rfl rfl rfl ?_
  refine aw_ri rfl (by first | exact Or.inl rfl | exact Or.inr (by decide +kernel)) ?_
  refine aw_ri rfl (by first | exact Or.inl rfl | exact Or.inr (by decide +kernel)) ?_
  exact congrArg (fun z => some (Value.int z)) (by first | decide +kernel | (simp only [a_up_ap]; decide +kernel) | (simp +decide only [a_up_ap]; decide +kernel) | rfl | (simp [a_up_ap]; done))
theorem pM_seeds_3 (a : Int32) (ha0 : 1 ≤ a.toInt) (ha1 : a.toInt ≤ 20) (b : Int32) : am wM 8 247 [.ref a_mo, .int a, .int b, .int 1] a_M0 (fun u _ => u = some (.int (-3))) := by
  refine ⟨_, rfl, ?_⟩
  refine aw_e rfl rfl rfl ?_
  refine aw_e rfl rfl rfl ?_
  refine aw_e rfl rfl rfl ?_
  refine aw_ci rfl rfl (by decide) rfl rfl ?_
  refine aw_e rfl rfl rfl ?_
  refine aw_e rfl rfl rfl ?_
  refine aw_i2t rfl (q2_ge_t (z := 1) (by decide +kernel) (by omega)) ?_
  refine aw_e rfl rfl rfl ?_
  refine aw_e rfl rfl rfl ?_
  refine aw_i2t rfl (q2_le_t (z := 20) (by decide +kernel) (by omega)) ?_
  refine aw_e rfl rfl rfl ?_
  refine aw_ri rfl (by first | exact Or.inl rfl | exact Or.inr (by decide +kernel)) ?_
  refine aw_e rfl rfl rfl ?_
  refine aw_e rfl rfl rfl ?_
  refine aw_i1f rfl (by decide +kernel) ?_
  refine aw_e rfl rfl rfl ?_
  refine aw_e rfl rfl rfl ?_
  refine aw_e rfl rfl rfl ?_
  refine aw_ci rfl rfl (by decide) rfl rfl ?_
  refine aw_e rfl rfl rfl ?_
  refine aw_e rfl rfl rfl ?_
  refine aw_i2f rfl (by decide +kernel) ?_
  refine aw_e rfl rfl rfl ?_
  refine aw_e rfl rfl rfl ?_
  refine aw_i2f rfl (by decide +kernel) ?_
  refine aw_e rfl rfl rfl ?_
  refine aw_e rfl rfl rfl ?_
  refine aw_ri rfl (by first | exact Or.inl rfl | exact Or.inr (by decide +kernel)) ?_
  refine aw_i1t rfl (by decide +kernel) ?_
  refine aw_e rfl rfl rfl ?_
  refine aw_e rfl rfl rfl ?_
  refine aw_i1f rfl (by decide +kernel) ?_
  refine aw_e rfl rfl rfl ?_
  refine aw_e rfl rfl rfl ?_
  refine aw_e rfl rfl rfl ?_
  refine aw_e rfl rfl rfl ?_
  refine aw_i1f rfl (by decide +kernel) ?_
  refine aw_e rfl rfl rfl ?_
  refine aw_e rfl rfl rfl ?_
  refine aw_ci rfl rfl (by decide) rfl rfl ?_
  refine aw_e rfl rfl rfl ?_
  refine aw_e rfl rfl rfl ?_
  refine aw_e rfl rfl rfl ?_
  refine aw_e rfl rfl rfl ?_
  refine aw_e rfl rfl rfl ?_
  refine aw_e rfl rfl rfl ?_
  refine aw_e rfl rfl rfl ?_
  refine aw_e rfl rfl rfl ?_
  refine aw_e rfl rfl rfl ?_
  refine aw_e rfl rfl rfl ?_
  refine aw_ri rfl (by first | exact Or.inl rfl | exact Or.inr (by decide +kernel)) ?_
  refine aw_ri rfl (by first | exact Or.inl rfl | exact Or.inr (by decide +kernel)) ?_
  exact congrArg (fun z => some (Value.int z)) (by first | decide +kernel | (simp only [a_up_ap]; decide +kernel) | (simp +decide only [a_up_ap]; decide +kernel) | rfl | (simp [a_up_ap]; done))
theorem pC_seeds_4 (a : Int32) (ha0 : 1 ≤ a.toInt) (ha1 : a.toInt ≤ 20) (b : Int32) (c : Int32) (hc0 : 2 ≤ c.toInt) : am wC 8 31 [.ref 0, .int a, .int b, .int c] a_M0 (fun u _ => u = some (.int (-2))) := by
  refine ⟨_, rfl, ?_⟩
  refine aw_e rfl rfl rfl ?_
  refine aw_e rfl rfl rfl ?_
  refine aw_i2t rfl (q2_ge_t (z := 1) (by decide +kernel) (by omega)) ?_
  refine aw_e rfl rfl rfl ?_
  refine aw_e rfl rfl rfl ?_
  refine aw_i2t rfl (q2_le_t (z := 20) (by decide +kernel) (by omega)) ?_
  refine aw_e rfl rfl rfl ?_
  refine aw_e rfl rfl rfl ?_
  refine aw_ci rfl rfl (by decide) rfl rfl ?_
  refine aw_e rfl rfl rfl ?_
  refine aw_i1f rfl (q1_eq_f (by omega)) ?_
  refine aw_e rfl rfl rfl ?_
  refine aw_e rfl rfl rfl ?_
  refine aw_i2t rfl (q2_ne_t (z := 1) (by decide +kernel) (by omega)) ?_
  refine aw_e rfl rfl rfl ?_
  refine aw_ri rfl (by first | exact Or.inl rfl | exact Or.inr (by decide +kernel)) ?_
  refine aw_i1f rfl (by decide +kernel) ?_
  refine aw_e rfl rfl rfl ?_
  refine aw_e rfl rfl rfl ?_
  refine aw_ck (P := fun u _ => u = some (.int (-2))) rfl rfl (by decide) rfl rfl (aw_k 100000 (by decide +kernel)) (fun u M1 hu => ?_)
  subst hu
  refine aw_ri rfl (by first | exact Or.inl rfl | exact Or.inr (by decide +kernel)) ?_
  exact congrArg (fun z => some (Value.int z)) (by first | decide +kernel | (simp only [a_up_ap]; decide +kernel) | (simp +decide only [a_up_ap]; decide +kernel) | rfl | (simp [a_up_ap]; done))
theorem pM_seeds_4 (a : Int32) (ha0 : 1 ≤ a.toInt) (ha1 : a.toInt ≤ 20) (b : Int32) (c : Int32) (hc0 : 2 ≤ c.toInt) : am wM 8 247 [.ref a_mo, .int a, .int b, .int c] a_M0 (fun u _ => u = some (.int (-2))) := by
  refine ⟨_, rfl, ?_⟩
  refine aw_e rfl rfl rfl ?_
  refine aw_e rfl rfl rfl ?_
  refine aw_e rfl rfl rfl ?_
  refine aw_ci rfl rfl (by decide) rfl rfl ?_
  refine aw_e rfl rfl rfl ?_
  refine aw_e rfl rfl rfl ?_
  refine aw_i2t rfl (q2_ge_t (z := 1) (by decide +kernel) (by omega)) ?_
  refine aw_e rfl rfl rfl ?_
  refine aw_e rfl rfl rfl ?_
  refine aw_i2t rfl (q2_le_t (z := 20) (by decide +kernel) (by omega)) ?_
  refine aw_e rfl rfl rfl ?_
  refine aw_ri rfl (by first | exact Or.inl rfl | exact Or.inr (by decide +kernel)) ?_
  refine aw_e rfl rfl rfl ?_
  refine aw_e rfl rfl rfl ?_
  refine aw_i1f rfl (by decide +kernel) ?_
  refine aw_e rfl rfl rfl ?_
  refine aw_e rfl rfl rfl ?_
  refine aw_e rfl rfl rfl ?_
  refine aw_ci rfl rfl (by decide) rfl rfl ?_
  refine aw_e rfl rfl rfl ?_
  refine aw_e rfl rfl rfl ?_
  refine aw_i2f rfl (q2_lt_f (z := 0) (by decide +kernel) (by omega)) ?_
  refine aw_e rfl rfl rfl ?_
  refine aw_e rfl rfl rfl ?_
  refine aw_i2t rfl (q2_gt_t (z := 1) (by decide +kernel) (by omega)) ?_
  refine aw_e rfl rfl rfl ?_
  refine aw_ri rfl (by first | exact Or.inl rfl | exact Or.inr (by decide +kernel)) ?_
  refine aw_i1f rfl (by decide +kernel) ?_
  refine aw_e rfl rfl rfl ?_
  refine aw_e rfl rfl rfl ?_
  refine aw_e rfl rfl rfl ?_
  refine aw_e rfl rfl rfl ?_
  refine aw_i1f rfl (by decide +kernel) ?_
  refine aw_e rfl rfl rfl ?_
  refine aw_e rfl rfl rfl ?_
  refine aw_ck (P := fun u _ => u = some (.int (-2))) rfl rfl (by decide) rfl rfl (aw_k 100000 (by decide +kernel)) (fun u M1 hu => ?_)
  subst hu
  refine aw_ri rfl (by first | exact Or.inl rfl | exact Or.inr (by decide +kernel)) ?_
  exact congrArg (fun z => some (Value.int z)) (by first | decide +kernel | (simp only [a_up_ap]; decide +kernel) | (simp +decide only [a_up_ap]; decide +kernel) | rfl | (simp [a_up_ap]; done))
theorem pC_seeds_5 (a : Int32) (ha0 : 21 ≤ a.toInt) (b : Int32) (c : Int32) : am wC 8 31 [.ref 0, .int a, .int b, .int c] a_M0 (fun u _ => u = some (.int (-6))) := by
  refine ⟨_, rfl, ?_⟩
  refine aw_e rfl rfl rfl ?_
  refine aw_e rfl rfl rfl ?_
  refine aw_i2t rfl (q2_ge_t (z := 1) (by decide +kernel) (by omega)) ?_
  refine aw_e rfl rfl rfl ?_
  refine aw_e rfl rfl rfl ?_
  refine aw_i2f rfl (q2_le_f (z := 20) (by decide +kernel) (by omega)) ?_
  refine aw_e rfl rfl rfl ?_
  refine aw_e rfl rfl rfl ?_
  refine aw_ck (P := fun u _ => u = some (.int (-6))) rfl rfl (by decide) rfl rfl (aw_k 100000 (by decide +kernel)) (fun u M1 hu => ?_)
  subst hu
  refine aw_ri rfl (by first | exact Or.inl rfl | exact Or.inr (by decide +kernel)) ?_
  exact congrArg (fun z => some (Value.int z)) (by first | decide +kernel | (simp only [a_up_ap]; decide +kernel) | (simp +decide only [a_up_ap]; decide +kernel) | rfl | (simp [a_up_ap]; done))
theorem pM_seeds_5 (a : Int32) (ha0 : 21 ≤ a.toInt) (b : Int32) (c : Int32) : am wM 8 247 [.ref a_mo, .int a, .int b, .int c] a_M0 (fun u _ => u = some (.int (-6))) := by
  refine ⟨_, rfl, ?_⟩
  refine aw_e rfl rfl rfl ?_
  refine aw_e rfl rfl rfl ?_
  refine aw_e rfl rfl rfl ?_
  refine aw_ci rfl rfl (by decide) rfl rfl ?_
  refine aw_e rfl rfl rfl ?_
  refine aw_e rfl rfl rfl ?_
  refine aw_i2t rfl (q2_ge_t (z := 1) (by decide +kernel) (by omega)) ?_
  refine aw_e rfl rfl rfl ?_
  refine aw_e rfl rfl rfl ?_
  refine aw_i2f rfl (q2_le_f (z := 20) (by decide +kernel) (by omega)) ?_
  refine aw_e rfl rfl rfl ?_
  refine aw_e rfl rfl rfl ?_
  refine aw_ri rfl (by first | exact Or.inl rfl | exact Or.inr (by decide +kernel)) ?_
  refine aw_e rfl rfl rfl ?_
  refine aw_e rfl rfl rfl ?_
  refine aw_i1t rfl (by decide +kernel) ?_
  refine aw_e rfl rfl rfl ?_
  refine aw_i1f rfl (by decide +kernel) ?_
  refine aw_e rfl rfl rfl ?_
  refine aw_e rfl rfl rfl ?_
  refine aw_ck (P := fun u _ => u = some (.int (-6))) rfl rfl (by decide) rfl rfl (aw_k 100000 (by decide +kernel)) (fun u M1 hu => ?_)
  subst hu
  refine aw_ri rfl (by first | exact Or.inl rfl | exact Or.inr (by decide +kernel)) ?_
  exact congrArg (fun z => some (Value.int z)) (by first | decide +kernel | (simp only [a_up_ap]; decide +kernel) | (simp +decide only [a_up_ap]; decide +kernel) | rfl | (simp [a_up_ap]; done))
theorem op_seeds (a b c : Int32) : op_ok 31 247 [.int a, .int b, .int c] := by
  have ba0 := Int32.le_toInt a
  have ba1 := Int32.toInt_lt a
  have bb0 := Int32.le_toInt b
  have bb1 := Int32.toInt_lt b
  have bc0 := Int32.le_toInt c
  have bc1 := Int32.toInt_lt c
  rcases (show a.toInt ≤ 0 ∨ (1 ≤ a.toInt ∧ a.toInt ≤ 20) ∨ 21 ≤ a.toInt by omega) with ha | ha | ha
  · exact ⟨_, pC_seeds_0 a (by omega) b c, pM_seeds_0 a (by omega) b c⟩
  · rcases (show c.toInt ≤ (-1) ∨ c.toInt = 0 ∨ c.toInt = 1 ∨ 2 ≤ c.toInt by omega) with hc | hc | hc | hc
    · exact ⟨_, pC_seeds_1 a (by omega) (by omega) b c (by omega), pM_seeds_1 a (by omega) (by omega) b c (by omega)⟩
    · obtain rfl : c = 0 := q_val (z := 0) (by decide) hc
      exact ⟨_, pC_seeds_2 a (by omega) (by omega) b, pM_seeds_2 a (by omega) (by omega) b⟩
    · obtain rfl : c = 1 := q_val (z := 1) (by decide) hc
      exact ⟨_, pC_seeds_3 a (by omega) (by omega) b, pM_seeds_3 a (by omega) (by omega) b⟩
    · exact ⟨_, pC_seeds_4 a (by omega) (by omega) b c (by omega), pM_seeds_4 a (by omega) (by omega) b c (by omega)⟩
  · exact ⟨_, pC_seeds_5 a (by omega) b c, pM_seeds_5 a (by omega) b c⟩
