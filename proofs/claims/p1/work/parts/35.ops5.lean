theorem pC_rule_0 (a : Int32) (ha1 : a.toInt ≤ (-1)) (b : Int32) : am wC 8 29 [.ref 0, .int a, .int b] a_M0 (fun u _ => u = some (.int (-2))) := by
  refine ⟨_, rfl, ?_⟩
  refine aw_e rfl rfl rfl ?_
  refine aw_i1t rfl (q1_lt_t (by omega)) ?_
  refine aw_e rfl rfl rfl ?_
  refine aw_e rfl rfl rfl ?_
  refine aw_ck (P := fun u _ => u = some (.int (-2))) rfl rfl (by decide) rfl rfl (aw_k 100000 (by decide +kernel)) (fun u M1 hu => ?_)
  subst hu
  refine aw_ri rfl (by first | exact Or.inl rfl | exact Or.inr (by decide +kernel)) ?_
  exact congrArg (fun z => some (Value.int z)) (by first | decide +kernel | (simp only [a_up_ap]; decide +kernel) | (simp +decide only [a_up_ap]; decide +kernel) | rfl | (simp [a_up_ap]; done))
theorem pM_rule_0 (a : Int32) (ha1 : a.toInt ≤ (-1)) (b : Int32) : am wM 8 210 [.ref a_mo, .int a, .int b] a_M0 (fun u _ => u = some (.int (-2))) := by
  refine ⟨_, rfl, ?_⟩
  refine aw_e rfl rfl rfl ?_
  refine aw_e rfl rfl rfl ?_
  refine aw_e rfl rfl rfl ?_
  refine aw_ci rfl rfl (by decide) rfl rfl ?_
  refine aw_e rfl rfl rfl ?_
  refine aw_e rfl rfl rfl ?_
  refine aw_i2t rfl (q2_lt_t (z := 0) (by decide +kernel) (by omega)) ?_
  refine aw_e rfl rfl rfl ?_
  refine aw_ri rfl (by first | exact Or.inl rfl | exact Or.inr (by decide +kernel)) ?_
  refine aw_i1t rfl (by decide +kernel) ?_
  refine aw_e rfl rfl rfl ?_
  refine aw_e rfl rfl rfl ?_
  refine aw_ck (P := fun u _ => u = some (.int (-2))) rfl rfl (by decide) rfl rfl (aw_k 100000 (by decide +kernel)) (fun u M1 hu => ?_)
  subst hu
  refine aw_ri rfl (by first | exact Or.inl rfl | exact Or.inr (by decide +kernel)) ?_
  exact congrArg (fun z => some (Value.int z)) (by first | decide +kernel | (simp only [a_up_ap]; decide +kernel) | (simp +decide only [a_up_ap]; decide +kernel) | rfl | (simp [a_up_ap]; done))
theorem pC_rule_1 (b : Int32) (hb1 : b.toInt ≤ (-1)) : am wC 8 29 [.ref 0, .int 0, .int b] a_M0 (fun u _ => u = some (.int (-2))) := by
  refine ⟨_, rfl, ?_⟩
  refine aw_e rfl rfl rfl ?_
  refine aw_i1f rfl (by decide +kernel) ?_
  refine aw_e rfl rfl rfl ?_
  refine aw_e rfl rfl rfl ?_
  refine aw_i2f rfl (by decide +kernel) ?_
  refine aw_e rfl rfl rfl ?_
  refine aw_e rfl rfl rfl ?_
  refine aw_ci rfl rfl (by decide) rfl rfl ?_
  refine aw_e rfl rfl rfl ?_
  refine aw_i1f rfl (q1_eq_f (by omega)) ?_
  refine aw_e rfl rfl rfl ?_
  refine aw_e rfl rfl rfl ?_
  refine aw_i2t rfl (q2_ne_t (z := 1) (by decide +kernel) (by omega)) ?_
  refine aw_e rfl rfl rfl ?_
  refine aw_ri rfl (by first | exact Or.inl rfl | exact Or.inr (by decide +kernel)) ?_
  refine aw_i1f rfl (by decide +kernel) ?_
  refine aw_e rfl rfl rfl ?_
  refine aw_e rfl rfl rfl ?_
  refine aw_ck (P := fun u _ => u = some (.int (-2))) rfl rfl (by decide) rfl rfl (aw_k 100000 (by decide +kernel)) (fun u M1 hu => ?_)
  subst hu
  refine aw_ri rfl (by first | exact Or.inl rfl | exact Or.inr (by decide +kernel)) ?_
  exact congrArg (fun z => some (Value.int z)) (by first | decide +kernel | (simp only [a_up_ap]; decide +kernel) | (simp +decide only [a_up_ap]; decide +kernel) | rfl | (simp [a_up_ap]; done))
theorem pM_rule_1 (b : Int32) (hb1 : b.toInt ≤ (-1)) : am wM 8 210 [.ref a_mo, .int 0, .int b] a_M0 (fun u _ => u = some (.int (-2))) := by
  refine ⟨_, rfl, ?_⟩
  refine aw_e rfl rfl rfl ?_
  refine aw_e rfl rfl rfl ?_
  refine aw_e rfl rfl rfl ?_
  refine aw_ci rfl rfl (by decide) rfl rfl ?_
  refine aw_e rfl rfl rfl ?_
  refine aw_e rfl rfl rfl ?_
  refine aw_i2f rfl (by decide +kernel) ?_
  refine aw_e rfl rfl rfl ?_
  refine aw_e rfl rfl rfl ?_
  refine aw_i2f rfl (by decide +kernel) ?_
  refine aw_e rfl rfl rfl ?_
  refine aw_e rfl rfl rfl ?_
  refine aw_ri rfl (by first | exact Or.inl rfl | exact Or.inr (by decide +kernel)) ?_
  refine aw_i1f rfl (by decide +kernel) ?_
  refine aw_e rfl rfl rfl ?_
  refine aw_e rfl rfl rfl ?_
  refine aw_e rfl rfl rfl ?_
  refine aw_ci rfl rfl (by decide) rfl rfl ?_
  refine aw_e rfl rfl rfl ?_
  refine aw_e rfl rfl rfl ?_
  refine aw_i2t rfl (q2_lt_t (z := 0) (by decide +kernel) (by omega)) ?_
  refine aw_e rfl rfl rfl ?_
  refine aw_ri rfl (by first | exact Or.inl rfl | exact Or.inr (by decide +kernel)) ?_
  refine aw_i1f rfl (by decide +kernel) ?_
  refine aw_e rfl rfl rfl ?_
  refine aw_e rfl rfl rfl ?_
  refine aw_ci rfl rfl (by decide) rfl rfl ?_
  refine aw_e rfl rfl rfl ?_
  refine aw_e rfl rfl rfl ?_
  refine aw_e rfl rfl rfl ?_
  refine aw_e rfl rfl rfl ?_
  refine aw_e rfl rfl rfl ?_
  refine aw_e rfl rfl rfl ?_
  refine aw_e rfl rfl rfl ?_
  refine aw_e rfl rfl rfl ?_
  refine aw_e rfl rfl rfl ?_
  refine aw_e rfl rfl rfl ?_
  refine aw_ri rfl (by first | exact Or.inl rfl | exact Or.inr (by decide +kernel)) ?_
  refine aw_ri rfl (by first | exact Or.inl rfl | exact Or.inr (by decide +kernel)) ?_
  exact congrArg (fun z => some (Value.int z)) (by first | decide +kernel | (simp only [a_up_ap]; decide +kernel) | (simp +decide only [a_up_ap]; decide +kernel) | rfl | (simp [a_up_ap]; done))
theorem pC_rule_2 : am wC 8 29 [.ref 0, .int 0, .int 0] a_M0 (fun u _ => u = some (.int 0)) := am_k 1000000 (by decide +kernel)
theorem pM_rule_2 : am wM 8 210 [.ref a_mo, .int 0, .int 0] a_M0 (fun u _ => u = some (.int 0)) := am_k 1000000 (by decide +kernel)
theorem pC_rule_3 : am wC 8 29 [.ref 0, .int 0, .int 1] a_M0 (fun u _ => u = some (.int 0)) := am_k 1000000 (by decide +kernel)
theorem pM_rule_3 : am wM 8 210 [.ref a_mo, .int 0, .int 1] a_M0 (fun u _ => u = some (.int 0)) := am_k 1000000 (by decide +kernel)
theorem pC_rule_4 (b : Int32) (hb0 : 2 ≤ b.toInt) : am wC 8 29 [.ref 0, .int 0, .int b] a_M0 (fun u _ => u = some (.int (-2))) := by
  refine ⟨_, rfl, ?_⟩
  refine aw_e rfl rfl rfl ?_
  refine aw_i1f rfl (by decide +kernel) ?_
  refine aw_e rfl rfl rfl ?_
  refine aw_e rfl rfl rfl ?_
  refine aw_i2f rfl (by decide +kernel) ?_
  refine aw_e rfl rfl rfl ?_
  refine aw_e rfl rfl rfl ?_
  refine aw_ci rfl rfl (by decide) rfl rfl ?_
  refine aw_e rfl rfl rfl ?_
  refine aw_i1f rfl (q1_eq_f (by omega)) ?_
  refine aw_e rfl rfl rfl ?_
  refine aw_e rfl rfl rfl ?_
  refine aw_i2t rfl (q2_ne_t (z := 1) (by decide +kernel) (by omega)) ?_
  refine aw_e rfl rfl rfl ?_
  refine aw_ri rfl (by first | exact Or.inl rfl | exact Or.inr (by decide +kernel)) ?_
  refine aw_i1f rfl (by decide +kernel) ?_
  refine aw_e rfl rfl rfl ?_
  refine aw_e rfl rfl rfl ?_
  refine aw_ck (P := fun u _ => u = some (.int (-2))) rfl rfl (by decide) rfl rfl (aw_k 100000 (by decide +kernel)) (fun u M1 hu => ?_)
  subst hu
  refine aw_ri rfl (by first | exact Or.inl rfl | exact Or.inr (by decide +kernel)) ?_
  exact congrArg (fun z => some (Value.int z)) (by first | decide +kernel | (simp only [a_up_ap]; decide +kernel) | (simp +decide only [a_up_ap]; decide +kernel) | rfl | (simp [a_up_ap]; done))
theorem pM_rule_4 (b : Int32) (hb0 : 2 ≤ b.toInt) : am wM 8 210 [.ref a_mo, .int 0, .int b] a_M0 (fun u _ => u = some (.int (-2))) := by
  refine ⟨_, rfl, ?_⟩
  refine aw_e rfl rfl rfl ?_
  refine aw_e rfl rfl rfl ?_
  refine aw_e rfl rfl rfl ?_
  refine aw_ci rfl rfl (by decide) rfl rfl ?_
  refine aw_e rfl rfl rfl ?_
  refine aw_e rfl rfl rfl ?_
  refine aw_i2f rfl (by decide +kernel) ?_
  refine aw_e rfl rfl rfl ?_
  refine aw_e rfl rfl rfl ?_
  refine aw_i2f rfl (by decide +kernel) ?_
  refine aw_e rfl rfl rfl ?_
  refine aw_e rfl rfl rfl ?_
  refine aw_ri rfl (by first | exact Or.inl rfl | exact Or.inr (by decide +kernel)) ?_
  refine aw_i1f rfl (by decide +kernel) ?_
  refine aw_e rfl rfl rfl ?_
  refine aw_e rfl rfl rfl ?_
  refine aw_e rfl rfl rfl ?_
  refine aw_ci rfl rfl (by decide) rfl rfl ?_
  refine aw_e rfl rfl rfl ?_
  refine aw_e rfl rfl rfl ?_
  refine aw_i2f rfl (q2_lt_f (z := 0) (by decide +kernel) (by omega)) ?_
  refine aw_e rfl rfl rfl ?_
  refine aw_e rfl rfl rfl ?_
  refine aw_i2t rfl (q2_gt_t (z := 1) (by decide +kernel) (by omega)) ?_
  refine aw_e rfl rfl rfl ?_
  refine aw_ri rfl (by first | exact Or.inl rfl | exact Or.inr (by decide +kernel)) ?_
  refine aw_i1f rfl (by decide +kernel) ?_
  refine aw_e rfl rfl rfl ?_
  refine aw_e rfl rfl rfl ?_
  refine aw_ci rfl rfl (by decide) rfl rfl ?_
  refine aw_e rfl rfl rfl ?_
  refine aw_e rfl rfl rfl ?_
  refine aw_e rfl rfl rfl ?_
  refine aw_e rfl rfl rfl ?_
  refine aw_e rfl rfl rfl ?_
  refine aw_e rfl rfl rfl ?_
  refine aw_e rfl rfl rfl ?_
  refine aw_e rfl rfl rfl ?_
  refine aw_e rfl rfl rfl ?_
  refine aw_e rfl rfl rfl ?_
  refine aw_ri rfl (by first | exact Or.inl rfl | exact Or.inr (by decide +kernel)) ?_
  refine aw_ri rfl (by first | exact Or.inl rfl | exact Or.inr (by decide +kernel)) ?_
  exact congrArg (fun z => some (Value.int z)) (by first | decide +kernel | (simp only [a_up_ap]; decide +kernel) | (simp +decide only [a_up_ap]; decide +kernel) | rfl | (simp [a_up_ap]; done))
theorem pC_rule_5 (b : Int32) (hb1 : b.toInt ≤ (-1)) : am wC 8 29 [.ref 0, .int 1, .int b] a_M0 (fun u _ => u = some (.int (-2))) := by
  refine ⟨_, rfl, ?_⟩
  refine aw_e rfl rfl rfl ?_
  refine aw_i1f rfl (by decide +kernel) ?_
  refine aw_e rfl rfl rfl ?_
  refine aw_e rfl rfl rfl ?_
  refine aw_i2f rfl (by decide +kernel) ?_
  refine aw_e rfl rfl rfl ?_
  refine aw_e rfl rfl rfl ?_
  refine aw_ci rfl rfl (by decide) rfl rfl ?_
  refine aw_e rfl rfl rfl ?_
  refine aw_i1f rfl (q1_eq_f (by omega)) ?_
  refine aw_e rfl rfl rfl ?_
  refine aw_e rfl rfl rfl ?_
  refine aw_i2t rfl (q2_ne_t (z := 1) (by decide +kernel) (by omega)) ?_
  refine aw_e rfl rfl rfl ?_
  refine aw_ri rfl (by first | exact Or.inl rfl | exact Or.inr (by decide +kernel)) ?_
  refine aw_i1f rfl (by decide +kernel) ?_
  refine aw_e rfl rfl rfl ?_
  refine aw_e rfl rfl rfl ?_
  refine aw_ck (P := fun u _ => u = some (.int (-2))) rfl rfl (by decide) rfl rfl (aw_k 100000 (by decide +kernel)) (fun u M1 hu => ?_)
  subst hu
  refine aw_ri rfl (by first | exact Or.inl rfl | exact Or.inr (by decide +kernel)) ?_
  exact congrArg (fun z => some (Value.int z)) (by first | decide +kernel | (simp only [a_up_ap]; decide +kernel) | (simp +decide only [a_up_ap]; decide +kernel) | rfl | (simp [a_up_ap]; done))
theorem pM_rule_5 (b : Int32) (hb1 : b.toInt ≤ (-1)) : am wM 8 210 [.ref a_mo, .int 1, .int b] a_M0 (fun u _ => u = some (.int (-2))) := by
  refine ⟨_, rfl, ?_⟩
  refine aw_e rfl rfl rfl ?_
  refine aw_e rfl rfl rfl ?_
  refine aw_e rfl rfl rfl ?_
  refine aw_ci rfl rfl (by decide) rfl rfl ?_
  refine aw_e rfl rfl rfl ?_
  refine aw_e rfl rfl rfl ?_
  refine aw_i2f rfl (by decide +kernel) ?_
  refine aw_e rfl rfl rfl ?_
  refine aw_e rfl rfl rfl ?_
  refine aw_i2f rfl (by decide +kernel) ?_
  refine aw_e rfl rfl rfl ?_
  refine aw_e rfl rfl rfl ?_
  refine aw_ri rfl (by first | exact Or.inl rfl | exact Or.inr (by decide +kernel)) ?_
  refine aw_i1f rfl (by decide +kernel) ?_
  refine aw_e rfl rfl rfl ?_
  refine aw_e rfl rfl rfl ?_
  refine aw_e rfl rfl rfl ?_
  refine aw_ci rfl rfl (by decide) rfl rfl ?_
  refine aw_e rfl rfl rfl ?_
  refine aw_e rfl rfl rfl ?_
  refine aw_i2t rfl (q2_lt_t (z := 0) (by decide +kernel) (by omega)) ?_
  refine aw_e rfl rfl rfl ?_
  refine aw_ri rfl (by first | exact Or.inl rfl | exact Or.inr (by decide +kernel)) ?_
  refine aw_i1f rfl (by decide +kernel) ?_
  refine aw_e rfl rfl rfl ?_
  refine aw_e rfl rfl rfl ?_
  refine aw_ci rfl rfl (by decide) rfl rfl ?_
  refine aw_e rfl rfl rfl ?_
  refine aw_e rfl rfl rfl ?_
  refine aw_e rfl rfl rfl ?_
  refine aw_e rfl rfl rfl ?_
  refine aw_e rfl rfl rfl ?_
  refine aw_e rfl rfl rfl ?_
  refine aw_e rfl rfl rfl ?_
  refine aw_e rfl rfl rfl ?_
  refine aw_e rfl rfl rfl ?_
  refine aw_e rfl rfl rfl ?_
  refine aw_ri rfl (by first | exact Or.inl rfl | exact Or.inr (by decide +kernel)) ?_
  refine aw_ri rfl (by first | exact Or.inl rfl | exact Or.inr (by decide +kernel)) ?_
  exact congrArg (fun z => some (Value.int z)) (by first | decide +kernel | (simp only [a_up_ap]; decide +kernel) | (simp +decide only [a_up_ap]; decide +kernel) | rfl | (simp [a_up_ap]; done))
theorem pC_rule_6 : am wC 8 29 [.ref 0, .int 1, .int 0] a_M0 (fun u _ => u = some (.int 0)) := am_k 1000000 (by decide +kernel)
theorem pM_rule_6 : am wM 8 210 [.ref a_mo, .int 1, .int 0] a_M0 (fun u _ => u = some (.int 0)) := am_k 1000000 (by decide +kernel)
theorem pC_rule_7 : am wC 8 29 [.ref 0, .int 1, .int 1] a_M0 (fun u _ => u = some (.int 0)) := am_k 1000000 (by decide +kernel)
theorem pM_rule_7 : am wM 8 210 [.ref a_mo, .int 1, .int 1] a_M0 (fun u _ => u = some (.int 0)) := am_k 1000000 (by decide +kernel)
theorem pC_rule_8 (b : Int32) (hb0 : 2 ≤ b.toInt) : am wC 8 29 [.ref 0, .int 1, .int b] a_M0 (fun u _ => u = some (.int (-2))) := by
  refine ⟨_, rfl, ?_⟩
  refine aw_e rfl rfl rfl ?_
  refine aw_i1f rfl (by decide +kernel) ?_
  refine aw_e rfl rfl rfl ?_
  refine aw_e rfl rfl rfl ?_
  refine aw_i2f rfl (by decide +kernel) ?_
  refine aw_e rfl rfl rfl ?_
  refine aw_e rfl rfl rfl ?_
  refine aw_ci rfl rfl (by decide) rfl rfl ?_
  refine aw_e rfl rfl rfl ?_
  refine aw_i1f rfl (q1_eq_f (by omega)) ?_
  refine aw_e rfl rfl rfl ?_
  refine aw_e rfl rfl rfl ?_
  refine aw_i2t rfl (q2_ne_t (z := 1) (by decide +kernel) (by omega)) ?_
  refine aw_e rfl rfl rfl ?_
  refine aw_ri rfl (by first | exact Or.inl rfl | exact Or.inr (by decide +kernel)) ?_
  refine aw_i1f rfl (by decide +kernel) ?_
  refine aw_e rfl rfl rfl ?_
  refine aw_e rfl rfl rfl ?_
  refine aw_ck (P := fun u _ => u = some (.int (-2))) rfl rfl (by decide) rfl rfl (aw_k 100000 (by decide +kernel)) (fun u M1 hu => ?_)
  subst hu
  refine aw_ri rfl (by first | exact Or.inl rfl | exact Or.inr (by decide +kernel)) ?_
  exact congrArg (fun z => some (Value.int z)) (by first | decide +kernel | (simp only [a_up_ap]; decide +kernel) | (simp +decide only [a_up_ap]; decide +kernel) | rfl | (simp [a_up_ap]; done))
theorem pM_rule_8 (b : Int32) (hb0 : 2 ≤ b.toInt) : am wM 8 210 [.ref a_mo, .int 1, .int b] a_M0 (fun u _ => u = some (.int (-2))) := by
  refine ⟨_, rfl, ?_⟩
  refine aw_e rfl rfl rfl ?_
  refine aw_e rfl rfl rfl ?_
  refine aw_e rfl rfl rfl ?_
  refine aw_ci rfl rfl (by decide) rfl rfl ?_
  refine aw_e rfl rfl rfl ?_
  refine aw_e rfl rfl rfl ?_
  refine aw_i2f rfl (by decide +kernel) ?_
  refine aw_e rfl rfl rfl ?_
  refine aw_e rfl rfl rfl ?_
  refine aw_i2f rfl (by decide +kernel) ?_
  refine aw_e rfl rfl rfl ?_
  refine aw_e rfl rfl rfl ?_
  refine aw_ri rfl (by first | exact Or.inl rfl | exact Or.inr (by decide +kernel)) ?_
  refine aw_i1f rfl (by decide +kernel) ?_
  refine aw_e rfl rfl rfl ?_
  refine aw_e rfl rfl rfl ?_
  refine aw_e rfl rfl rfl ?_
  refine aw_ci rfl rfl (by decide) rfl rfl ?_
  refine aw_e rfl rfl rfl ?_
  refine aw_e rfl rfl rfl ?_
  refine aw_i2f rfl (q2_lt_f (z := 0) (by decide +kernel) (by omega)) ?_
  refine aw_e rfl rfl rfl ?_
  refine aw_e rfl rfl rfl ?_
  refine aw_i2t rfl (q2_gt_t (z := 1) (by decide +kernel) (by omega)) ?_
  refine aw_e rfl rfl rfl ?_
  refine aw_ri rfl (by first | exact Or.inl rfl | exact Or.inr (by decide +kernel)) ?_
  refine aw_i1f rfl (by decide +kernel) ?_
  refine aw_e rfl rfl rfl ?_
  refine aw_e rfl rfl rfl ?_
  refine aw_ci rfl rfl (by decide) rfl rfl ?_
  refine aw_e rfl rfl rfl ?_
  refine aw_e rfl rfl rfl ?_
  refine aw_e rfl rfl rfl ?_
  refine aw_e rfl rfl rfl ?_
  refine aw_e rfl rfl rfl ?_
  refine aw_e rfl rfl rfl ?_
  refine aw_e rfl rfl rfl ?_
  refine aw_e rfl rfl rfl ?_
  refine aw_e rfl rfl rfl ?_
  refine aw_e rfl rfl rfl ?_
  refine aw_ri rfl (by first | exact Or.inl rfl | exact Or.inr (by decide +kernel)) ?_
  refine aw_ri rfl (by first | exact Or.inl rfl | exact Or.inr (by decide +kernel)) ?_
  exact congrArg (fun z => some (Value.int z)) (by first | decide +kernel | (simp only [a_up_ap]; decide +kernel) | (simp +decide only [a_up_ap]; decide +kernel) | rfl | (simp [a_up_ap]; done))
theorem pC_rule_9 (b : Int32) (hb1 : b.toInt ≤ (-1)) : am wC 8 29 [.ref 0, .int 2, .int b] a_M0 (fun u _ => u = some (.int (-2))) := by
  refine ⟨_, rfl, ?_⟩
  refine aw_e rfl rfl rfl ?_
  refine aw_i1f rfl (by decide +kernel) ?_
  refine aw_e rfl rfl rfl ?_
  refine aw_e rfl rfl rfl ?_
  refine aw_i2f rfl (by decide +kernel) ?_
  refine aw_e rfl rfl rfl ?_
  refine aw_e rfl rfl rfl ?_
  refine aw_ci rfl rfl (by decide) rfl rfl ?_
  refine aw_e rfl rfl rfl ?_
  refine aw_i1f rfl (q1_eq_f (by omega)) ?_
  refine aw_e rfl rfl rfl ?_
  refine aw_e rfl rfl rfl ?_
  refine aw_i2t rfl (q2_ne_t (z := 1) (by decide +kernel) (by omega)) ?_
  refine aw_e rfl rfl rfl ?_
  refine aw_ri rfl (by first | exact Or.inl rfl | exact Or.inr (by decide +kernel)) ?_
  refine aw_i1f rfl (by decide +kernel) ?_
  refine aw_e rfl rfl rfl ?_
  refine aw_e rfl rfl rfl ?_
  refine aw_ck (P := fun u _ => u = some (.int (-2))) rfl rfl (by decide) rfl rfl (aw_k 100000 (by decide +kernel)) (fun u M1 hu => ?_)
  subst hu
  refine aw_ri rfl (by first | exact Or.inl rfl | exact Or.inr (by decide +kernel)) ?_
  exact congrArg (fun z => some (Value.int z)) (by first | decide +kernel | (simp only [a_up_ap]; decide +kernel) | (simp +decide only [a_up_ap]; decide +kernel) | rfl | (simp [a_up_ap]; done))
theorem pM_rule_9 (b : Int32) (hb1 : b.toInt ≤ (-1)) : am wM 8 210 [.ref a_mo, .int 2, .int b] a_M0 (fun u _ => u = some (.int (-2))) := by
  refine ⟨_, rfl, ?_⟩
  refine aw_e rfl rfl rfl ?_
  refine aw_e rfl rfl rfl ?_
  refine aw_e rfl rfl rfl ?_
  refine aw_ci rfl rfl (by decide) rfl rfl ?_
  refine aw_e rfl rfl rfl ?_
  refine aw_e rfl rfl rfl ?_
  refine aw_i2f rfl (by decide +kernel) ?_
  refine aw_e rfl rfl rfl ?_
  refine aw_e rfl rfl rfl ?_
  refine aw_i2f rfl (by decide +kernel) ?_
  refine aw_e rfl rfl rfl ?_
  refine aw_e rfl rfl rfl ?_
  refine aw_ri rfl (by first | exact Or.inl rfl | exact Or.inr (by decide +kernel)) ?_
  refine aw_i1f rfl (by decide +kernel) ?_
  refine aw_e rfl rfl rfl ?_
  refine aw_e rfl rfl rfl ?_
  refine aw_e rfl rfl rfl ?_
  refine aw_ci rfl rfl (by decide) rfl rfl ?_
  refine aw_e rfl rfl rfl ?_
  refine aw_e rfl rfl rfl ?_
  refine aw_i2t rfl (q2_lt_t (z := 0) (by decide +kernel) (by omega)) ?_
  refine aw_e rfl rfl rfl ?_
  refine aw_ri rfl (by first | exact Or.inl rfl | exact Or.inr (by decide +kernel)) ?_
  refine aw_i1f rfl (by decide +kernel) ?_
  refine aw_e rfl rfl rfl ?_
  refine aw_e rfl rfl rfl ?_
  refine aw_ci rfl rfl (by decide) rfl rfl ?_
  refine aw_e rfl rfl rfl ?_
  refine aw_e rfl rfl rfl ?_
  refine aw_e rfl rfl rfl ?_
  refine aw_e rfl rfl rfl ?_
  refine aw_e rfl rfl rfl ?_
  refine aw_e rfl rfl rfl ?_
  refine aw_e rfl rfl rfl ?_
  refine aw_e rfl rfl rfl ?_
  refine aw_e rfl rfl rfl ?_
  refine aw_e rfl rfl rfl ?_
  refine aw_ri rfl (by first | exact Or.inl rfl | exact Or.inr (by decide +kernel)) ?_
  refine aw_ri rfl (by first | exact Or.inl rfl | exact Or.inr (by decide +kernel)) ?_
  exact congrArg (fun z => some (Value.int z)) (by first | decide +kernel | (simp only [a_up_ap]; decide +kernel) | (simp +decide only [a_up_ap]; decide +kernel) | rfl | (simp [a_up_ap]; done))
theorem pC_rule_10 : am wC 8 29 [.ref 0, .int 2, .int 0] a_M0 (fun u _ => u = some (.int 0)) := am_k 1000000 (by decide +kernel)
theorem pM_rule_10 : am wM 8 210 [.ref a_mo, .int 2, .int 0] a_M0 (fun u _ => u = some (.int 0)) := am_k 1000000 (by decide +kernel)
theorem pC_rule_11 : am wC 8 29 [.ref 0, .int 2, .int 1] a_M0 (fun u _ => u = some (.int 0)) := am_k 1000000 (by decide +kernel)
theorem pM_rule_11 : am wM 8 210 [.ref a_mo, .int 2, .int 1] a_M0 (fun u _ => u = some (.int 0)) := am_k 1000000 (by decide +kernel)
theorem pC_rule_12 (b : Int32) (hb0 : 2 ≤ b.toInt) : am wC 8 29 [.ref 0, .int 2, .int b] a_M0 (fun u _ => u = some (.int (-2))) := by
  refine ⟨_, rfl, ?_⟩
  refine aw_e rfl rfl rfl ?_
  refine aw_i1f rfl (by decide +kernel) ?_
  refine aw_e rfl rfl rfl ?_
  refine aw_e rfl rfl rfl ?_
  refine aw_i2f rfl (by decide +kernel) ?_
  refine aw_e rfl rfl rfl ?_
  refine aw_e rfl rfl rfl ?_
  refine aw_ci rfl rfl (by decide) rfl rfl ?_
  refine aw_e rfl rfl rfl ?_
  refine aw_i1f rfl (q1_eq_f (by omega)) ?_
  refine aw_e rfl rfl rfl ?_
  refine aw_e rfl rfl rfl ?_
  refine aw_i2t rfl (q2_ne_t (z := 1) (by decide +kernel) (by omega)) ?_
  refine aw_e rfl rfl rfl ?_
  refine aw_ri rfl (by first | exact Or.inl rfl | exact Or.inr (by decide +kernel)) ?_
  refine aw_i1f rfl (by decide +kernel) ?_
  refine aw_e rfl rfl rfl ?_
  refine aw_e rfl rfl rfl ?_
  refine aw_ck (P := fun u _ => u = some (.int (-2))) rfl rfl (by decide) rfl rfl (aw_k 100000 (by decide +kernel)) (fun u M1 hu => ?_)
  subst hu
  refine aw_ri rfl (by first | exact Or.inl rfl | exact Or.inr (by decide +kernel)) ?_
  exact congrArg (fun z => some (Value.int z)) (by first | decide +kernel | (simp only [a_up_ap]; decide +kernel) | (simp +decide only [a_up_ap]; decide +kernel) | rfl | (simp [a_up_ap]; done))
theorem pM_rule_12 (b : Int32) (hb0 : 2 ≤ b.toInt) : am wM 8 210 [.ref a_mo, .int 2, .int b] a_M0 (fun u _ => u = some (.int (-2))) := by
  refine ⟨_, rfl, ?_⟩
  refine aw_e rfl rfl rfl ?_
  refine aw_e rfl rfl rfl ?_
  refine aw_e rfl rfl rfl ?_
  refine aw_ci rfl rfl (by decide) rfl rfl ?_
  refine aw_e rfl rfl rfl ?_
  refine aw_e rfl rfl rfl ?_
  refine aw_i2f rfl (by decide +kernel) ?_
  refine aw_e rfl rfl rfl ?_
  refine aw_e rfl rfl rfl ?_
  refine aw_i2f rfl (by decide +kernel) ?_
  refine aw_e rfl rfl rfl ?_
  refine aw_e rfl rfl rfl ?_
  refine aw_ri rfl (by first | exact Or.inl rfl | exact Or.inr (by decide +kernel)) ?_
  refine aw_i1f rfl (by decide +kernel) ?_
  refine aw_e rfl rfl rfl ?_
  refine aw_e rfl rfl rfl ?_
  refine aw_e rfl rfl rfl ?_
  refine aw_ci rfl rfl (by decide) rfl rfl ?_
  refine aw_e rfl rfl rfl ?_
  refine aw_e rfl rfl rfl ?_
  refine aw_i2f rfl (q2_lt_f (z := 0) (by decide +kernel) (by omega)) ?_
  refine aw_e rfl rfl rfl ?_
  refine aw_e rfl rfl rfl ?_
  refine aw_i2t rfl (q2_gt_t (z := 1) (by decide +kernel) (by omega)) ?_
  refine aw_e rfl rfl rfl ?_
  refine aw_ri rfl (by first | exact Or.inl rfl | exact Or.inr (by decide +kernel)) ?_
  refine aw_i1f rfl (by decide +kernel) ?_
  refine aw_e rfl rfl rfl ?_
  refine aw_e rfl rfl rfl ?_
  refine aw_ci rfl rfl (by decide) rfl rfl ?_
  refine aw_e rfl rfl rfl ?_
  refine aw_e rfl rfl rfl ?_
  refine aw_e rfl rfl rfl ?_
  refine aw_e rfl rfl rfl ?_
  refine aw_e rfl rfl rfl ?_
  refine aw_e rfl rfl rfl ?_
  refine aw_e rfl rfl rfl ?_
  refine aw_e rfl rfl rfl ?_
  refine aw_e rfl rfl rfl ?_
  refine aw_e rfl rfl rfl ?_
  refine aw_ri rfl (by first | exact Or.inl rfl | exact Or.inr (by decide +kernel)) ?_
  refine aw_ri rfl (by first | exact Or.inl rfl | exact Or.inr (by decide +kernel)) ?_
  exact congrArg (fun z => some (Value.int z)) (by first | decide +kernel | (simp only [a_up_ap]; decide +kernel) | (simp +decide only [a_up_ap]; decide +kernel) | rfl | (simp [a_up_ap]; done))
theorem pC_rule_13 (b : Int32) (hb1 : b.toInt ≤ (-1)) : am wC 8 29 [.ref 0, .int 3, .int b] a_M0 (fun u _ => u = some (.int (-2))) := by
  refine ⟨_, rfl, ?_⟩
  refine aw_e rfl rfl rfl ?_
  refine aw_i1f rfl (by decide +kernel) ?_
  refine aw_e rfl rfl rfl ?_
  refine aw_e rfl rfl rfl ?_
  refine aw_i2f rfl (by decide +kernel) ?_
  refine aw_e rfl rfl rfl ?_
  refine aw_e rfl rfl rfl ?_
  refine aw_ci rfl rfl (by decide) rfl rfl ?_
  refine aw_e rfl rfl rfl ?_
  refine aw_i1f rfl (q1_eq_f (by omega)) ?_
  refine aw_e rfl rfl rfl ?_
  refine aw_e rfl rfl rfl ?_
  refine aw_i2t rfl (q2_ne_t (z := 1) (by decide +kernel) (by omega)) ?_
  refine aw_e rfl rfl rfl ?_
  refine aw_ri rfl (by first | exact Or.inl rfl | exact Or.inr (by decide +kernel)) ?_
  refine aw_i1f rfl (by decide +kernel) ?_
  refine aw_e rfl rfl rfl ?_
  refine aw_e rfl rfl rfl ?_
  refine aw_ck (P := fun u _ => u = some (.int (-2))) rfl rfl (by decide) rfl rfl (aw_k 100000 (by decide +kernel)) (fun u M1 hu => ?_)
  subst hu
  refine aw_ri rfl (by first | exact Or.inl rfl | exact Or.inr (by decide +kernel)) ?_
  exact congrArg (fun z => some (Value.int z)) (by first | decide +kernel | (simp only [a_up_ap]; decide +kernel) | (simp +decide only [a_up_ap]; decide +kernel) | rfl | (simp [a_up_ap]; done))
theorem pM_rule_13 (b : Int32) (hb1 : b.toInt ≤ (-1)) : am wM 8 210 [.ref a_mo, .int 3, .int b] a_M0 (fun u _ => u = some (.int (-2))) := by
  refine ⟨_, rfl, ?_⟩
  refine aw_e rfl rfl rfl ?_
  refine aw_e rfl rfl rfl ?_
  refine aw_e rfl rfl rfl ?_
  refine aw_ci rfl rfl (by decide) rfl rfl ?_
  refine aw_e rfl rfl rfl ?_
  refine aw_e rfl rfl rfl ?_
  refine aw_i2f rfl (by decide +kernel) ?_
  refine aw_e rfl rfl rfl ?_
  refine aw_e rfl rfl rfl ?_
  refine aw_i2f rfl (by decide +kernel) ?_
  refine aw_e rfl rfl rfl ?_
  refine aw_e rfl rfl rfl ?_
  refine aw_ri rfl (by first | exact Or.inl rfl | exact Or.inr (by decide +kernel)) ?_
  refine aw_i1f rfl (by decide +kernel) ?_
  refine aw_e rfl rfl rfl ?_
  refine aw_e rfl rfl rfl ?_
  refine aw_e rfl rfl rfl ?_
  refine aw_ci rfl rfl (by decide) rfl rfl ?_
  refine aw_e rfl rfl rfl ?_
  refine aw_e rfl rfl rfl ?_
  refine aw_i2t rfl (q2_lt_t (z := 0) (by decide +kernel) (by omega)) ?_
  refine aw_e rfl rfl rfl ?_
  refine aw_ri rfl (by first | exact Or.inl rfl | exact Or.inr (by decide +kernel)) ?_
  refine aw_i1f rfl (by decide +kernel) ?_
  refine aw_e rfl rfl rfl ?_
  refine aw_e rfl rfl rfl ?_
  refine aw_ci rfl rfl (by decide) rfl rfl ?_
  refine aw_e rfl rfl rfl ?_
  refine aw_e rfl rfl rfl ?_
  refine aw_e rfl rfl rfl ?_
  refine aw_e rfl rfl rfl ?_
  refine aw_e rfl rfl rfl ?_
  refine aw_e rfl rfl rfl ?_
  refine aw_e rfl rfl rfl ?_
  refine aw_e rfl rfl rfl ?_
  refine aw_e rfl rfl rfl ?_
  refine aw_e rfl rfl rfl ?_
  refine aw_ri rfl (by first | exact Or.inl rfl | exact Or.inr (by decide +kernel)) ?_
  refine aw_ri rfl (by first | exact Or.inl rfl | exact Or.inr (by decide +kernel)) ?_
  exact congrArg (fun z => some (Value.int z)) (by first | decide +kernel | (simp only [a_up_ap]; decide +kernel) | (simp +decide only [a_up_ap]; decide +kernel) | rfl | (simp [a_up_ap]; done))
theorem pC_rule_14 : am wC 8 29 [.ref 0, .int 3, .int 0] a_M0 (fun u _ => u = some (.int 0)) := am_k 1000000 (by decide +kernel)
theorem pM_rule_14 : am wM 8 210 [.ref a_mo, .int 3, .int 0] a_M0 (fun u _ => u = some (.int 0)) := am_k 1000000 (by decide +kernel)
theorem pC_rule_15 : am wC 8 29 [.ref 0, .int 3, .int 1] a_M0 (fun u _ => u = some (.int 0)) := am_k 1000000 (by decide +kernel)
theorem pM_rule_15 : am wM 8 210 [.ref a_mo, .int 3, .int 1] a_M0 (fun u _ => u = some (.int 0)) := am_k 1000000 (by decide +kernel)
theorem pC_rule_16 (b : Int32) (hb0 : 2 ≤ b.toInt) : am wC 8 29 [.ref 0, .int 3, .int b] a_M0 (fun u _ => u = some (.int (-2))) := by
  refine ⟨_, rfl, ?_⟩
  refine aw_e rfl rfl rfl ?_
  refine aw_i1f rfl (by decide +kernel) ?_
  refine aw_e rfl rfl rfl ?_
  refine aw_e rfl rfl rfl ?_
  refine aw_i2f rfl (by decide +kernel) ?_
  refine aw_e rfl rfl rfl ?_
  refine aw_e rfl rfl rfl ?_
  refine aw_ci rfl rfl (by decide) rfl rfl ?_
  refine aw_e rfl rfl rfl ?_
  refine aw_i1f rfl (q1_eq_f (by omega)) ?_
  refine aw_e rfl rfl rfl ?_
  refine aw_e rfl rfl rfl ?_
  refine aw_i2t rfl (q2_ne_t (z := 1) (by decide +kernel) (by omega)) ?_
  refine aw_e rfl rfl rfl ?_
  refine aw_ri rfl (by first | exact Or.inl rfl | exact Or.inr (by decide +kernel)) ?_
  refine aw_i1f rfl (by decide +kernel) ?_
  refine aw_e rfl rfl rfl ?_
  refine aw_e rfl rfl rfl ?_
  refine aw_ck (P := fun u _ => u = some (.int (-2))) rfl rfl (by decide) rfl rfl (aw_k 100000 (by decide +kernel)) (fun u M1 hu => ?_)
  subst hu
  refine aw_ri rfl (by first | exact Or.inl rfl | exact Or.inr (by decide +kernel)) ?_
  exact congrArg (fun z => some (Value.int z)) (by first | decide +kernel | (simp only [a_up_ap]; decide +kernel) | (simp +decide only [a_up_ap]; decide +kernel) | rfl | (simp [a_up_ap]; done))
theorem pM_rule_16 (b : Int32) (hb0 : 2 ≤ b.toInt) : am wM 8 210 [.ref a_mo, .int 3, .int b] a_M0 (fun u _ => u = some (.int (-2))) := by
  refine ⟨_, rfl, ?_⟩
  refine aw_e rfl rfl rfl ?_
  refine aw_e rfl rfl rfl ?_
  refine aw_e rfl rfl rfl ?_
  refine aw_ci rfl rfl (by decide) rfl rfl ?_
  refine aw_e rfl rfl rfl ?_
  refine aw_e rfl rfl rfl ?_
  refine aw_i2f rfl (by decide +kernel) ?_
  refine aw_e rfl rfl rfl ?_
  refine aw_e rfl rfl rfl ?_
  refine aw_i2f rfl (by decide +kernel) ?_
  refine aw_e rfl rfl rfl ?_
  refine aw_e rfl rfl rfl ?_
  refine aw_ri rfl (by first | exact Or.inl rfl | exact Or.inr (by decide +kernel)) ?_
  refine aw_i1f rfl (by decide +kernel) ?_
  refine aw_e rfl rfl rfl ?_
  refine aw_e rfl rfl rfl ?_
  refine aw_e rfl rfl rfl ?_
  refine aw_ci rfl rfl (by decide) rfl rfl ?_
  refine aw_e rfl rfl rfl ?_
  refine aw_e rfl rfl rfl ?_
  refine aw_i2f rfl (q2_lt_f (z := 0) (by decide +kernel) (by omega)) ?_
  refine aw_e rfl rfl rfl ?_
  refine aw_e rfl rfl rfl ?_
  refine aw_i2t rfl (q2_gt_t (z := 1) (by decide +kernel) (by omega)) ?_
  refine aw_e rfl rfl rfl ?_
  refine aw_ri rfl (by first | exact Or.inl rfl | exact Or.inr (by decide +kernel)) ?_
  refine aw_i1f rfl (by decide +kernel) ?_
  refine aw_e rfl rfl rfl ?_
  refine aw_e rfl rfl rfl ?_
  refine aw_ci rfl rfl (by decide) rfl rfl ?_
  refine aw_e rfl rfl rfl ?_
  refine aw_e rfl rfl rfl ?_
  refine aw_e rfl rfl rfl ?_
  refine aw_e rfl rfl rfl ?_
  refine aw_e rfl rfl rfl ?_
  refine aw_e rfl rfl rfl ?_
  refine aw_e rfl rfl rfl ?_
  refine aw_e rfl rfl rfl ?_
  refine aw_e rfl rfl rfl ?_
  refine aw_e rfl rfl rfl ?_
  refine aw_ri rfl (by first | exact Or.inl rfl | exact Or.inr (by decide +kernel)) ?_
  refine aw_ri rfl (by first | exact Or.inl rfl | exact Or.inr (by decide +kernel)) ?_
  exact congrArg (fun z => some (Value.int z)) (by first | decide +kernel | (simp only [a_up_ap]; decide +kernel) | (simp +decide only [a_up_ap]; decide +kernel) | rfl | (simp [a_up_ap]; done))
theorem pC_rule_17 (b : Int32) (hb1 : b.toInt ≤ (-1)) : am wC 8 29 [.ref 0, .int 4, .int b] a_M0 (fun u _ => u = some (.int (-2))) := by
  refine ⟨_, rfl, ?_⟩
  refine aw_e rfl rfl rfl ?_
  refine aw_i1f rfl (by decide +kernel) ?_
  refine aw_e rfl rfl rfl ?_
  refine aw_e rfl rfl rfl ?_
  refine aw_i2f rfl (by decide +kernel) ?_
  refine aw_e rfl rfl rfl ?_
  refine aw_e rfl rfl rfl ?_
  refine aw_ci rfl rfl (by decide) rfl rfl ?_
  refine aw_e rfl rfl rfl ?_
  refine aw_i1f rfl (q1_eq_f (by omega)) ?_
  refine aw_e rfl rfl rfl ?_
  refine aw_e rfl rfl rfl ?_
  refine aw_i2t rfl (q2_ne_t (z := 1) (by decide +kernel) (by omega)) ?_
  refine aw_e rfl rfl rfl ?_
  refine aw_ri rfl (by first | exact Or.inl rfl | exact Or.inr (by decide +kernel)) ?_
  refine aw_i1f rfl (by decide +kernel) ?_
  refine aw_e rfl rfl rfl ?_
  refine aw_e rfl rfl rfl ?_
  refine aw_ck (P := fun u _ => u = some (.int (-2))) rfl rfl (by decide) rfl rfl (aw_k 100000 (by decide +kernel)) (fun u M1 hu => ?_)
  subst hu
  refine aw_ri rfl (by first | exact Or.inl rfl | exact Or.inr (by decide +kernel)) ?_
  exact congrArg (fun z => some (Value.int z)) (by first | decide +kernel | (simp only [a_up_ap]; decide +kernel) | (simp +decide only [a_up_ap]; decide +kernel) | rfl | (simp [a_up_ap]; done))
theorem pM_rule_17 (b : Int32) (hb1 : b.toInt ≤ (-1)) : am wM 8 210 [.ref a_mo, .int 4, .int b] a_M0 (fun u _ => u = some (.int (-2))) := by
  refine ⟨_, rfl, ?_⟩
  refine aw_e rfl rfl rfl ?_
  refine aw_e rfl rfl rfl ?_
  refine aw_e rfl rfl rfl ?_
  refine aw_ci rfl rfl (by decide) rfl rfl ?_
  refine aw_e rfl rfl rfl ?_
  refine aw_e rfl rfl rfl ?_
  refine aw_i2f rfl (by decide +kernel) ?_
  refine aw_e rfl rfl rfl ?_
  refine aw_e rfl rfl rfl ?_
  refine aw_i2f rfl (by decide +kernel) ?_
  refine aw_e rfl rfl rfl ?_
  refine aw_e rfl rfl rfl ?_
  refine aw_ri rfl (by first | exact Or.inl rfl | exact Or.inr (by decide +kernel)) ?_
  refine aw_i1f rfl (by decide +kernel) ?_
  refine aw_e rfl rfl rfl ?_
  refine aw_e rfl rfl rfl ?_
  refine aw_e rfl rfl rfl ?_
  refine aw_ci rfl rfl (by decide) rfl rfl ?_
  refine aw_e rfl rfl rfl ?_
  refine aw_e rfl rfl rfl ?_
  refine aw_i2t rfl (q2_lt_t (z := 0) (by decide +kernel) (by omega)) ?_
  refine aw_e rfl rfl rfl ?_
  refine aw_ri rfl (by first | exact Or.inl rfl | exact Or.inr (by decide +kernel)) ?_
  refine aw_i1f rfl (by decide +kernel) ?_
  refine aw_e rfl rfl rfl ?_
  refine aw_e rfl rfl rfl ?_
  refine aw_ci rfl rfl (by decide) rfl rfl ?_
  refine aw_e rfl rfl rfl ?_
  refine aw_e rfl rfl rfl ?_
  refine aw_e rfl rfl rfl ?_
  refine aw_e rfl rfl rfl ?_
  refine aw_e rfl rfl rfl ?_
  refine aw_e rfl rfl rfl ?_
  refine aw_e rfl rfl rfl ?_
  refine aw_e rfl rfl rfl ?_
  refine aw_e rfl rfl rfl ?_
  refine aw_e rfl rfl rfl ?_
  refine aw_ri rfl (by first | exact Or.inl rfl | exact Or.inr (by decide +kernel)) ?_
  refine aw_ri rfl (by first | exact Or.inl rfl | exact Or.inr (by decide +kernel)) ?_
  exact congrArg (fun z => some (Value.int z)) (by first | decide +kernel | (simp only [a_up_ap]; decide +kernel) | (simp +decide only [a_up_ap]; decide +kernel) | rfl | (simp [a_up_ap]; done))
theorem pC_rule_18 : am wC 8 29 [.ref 0, .int 4, .int 0] a_M0 (fun u _ => u = some (.int 0)) := am_k 1000000 (by decide +kernel)
theorem pM_rule_18 : am wM 8 210 [.ref a_mo, .int 4, .int 0] a_M0 (fun u _ => u = some (.int 0)) := am_k 1000000 (by decide +kernel)
theorem pC_rule_19 : am wC 8 29 [.ref 0, .int 4, .int 1] a_M0 (fun u _ => u = some (.int 0)) := am_k 1000000 (by decide +kernel)
theorem pM_rule_19 : am wM 8 210 [.ref a_mo, .int 4, .int 1] a_M0 (fun u _ => u = some (.int 0)) := am_k 1000000 (by decide +kernel)
theorem pC_rule_20 (b : Int32) (hb0 : 2 ≤ b.toInt) : am wC 8 29 [.ref 0, .int 4, .int b] a_M0 (fun u _ => u = some (.int (-2))) := by
  refine ⟨_, rfl, ?_⟩
  refine aw_e rfl rfl rfl ?_
  refine aw_i1f rfl (by decide +kernel) ?_
  refine aw_e rfl rfl rfl ?_
  refine aw_e rfl rfl rfl ?_
  refine aw_i2f rfl (by decide +kernel) ?_
  refine aw_e rfl rfl rfl ?_
  refine aw_e rfl rfl rfl ?_
  refine aw_ci rfl rfl (by decide) rfl rfl ?_
  refine aw_e rfl rfl rfl ?_
  refine aw_i1f rfl (q1_eq_f (by omega)) ?_
  refine aw_e rfl rfl rfl ?_
  refine aw_e rfl rfl rfl ?_
  refine aw_i2t rfl (q2_ne_t (z := 1) (by decide +kernel) (by omega)) ?_
  refine aw_e rfl rfl rfl ?_
  refine aw_ri rfl (by first | exact Or.inl rfl | exact Or.inr (by decide +kernel)) ?_
  refine aw_i1f rfl (by decide +kernel) ?_
  refine aw_e rfl rfl rfl ?_
  refine aw_e rfl rfl rfl ?_
  refine aw_ck (P := fun u _ => u = some (.int (-2))) rfl rfl (by decide) rfl rfl (aw_k 100000 (by decide +kernel)) (fun u M1 hu => ?_)
  subst hu
  refine aw_ri rfl (by first | exact Or.inl rfl | exact Or.inr (by decide +kernel)) ?_
  exact congrArg (fun z => some (Value.int z)) (by first | decide +kernel | (simp only [a_up_ap]; decide +kernel) | (simp +decide only [a_up_ap]; decide +kernel) | rfl | (simp [a_up_ap]; done))
theorem pM_rule_20 (b : Int32) (hb0 : 2 ≤ b.toInt) : am wM 8 210 [.ref a_mo, .int 4, .int b] a_M0 (fun u _ => u = some (.int (-2))) := by
  refine ⟨_, rfl, ?_⟩
  refine aw_e rfl rfl rfl ?_
  refine aw_e rfl rfl rfl ?_
  refine aw_e rfl rfl rfl ?_
  refine aw_ci rfl rfl (by decide) rfl rfl ?_
  refine aw_e rfl rfl rfl ?_
  refine aw_e rfl rfl rfl ?_
  refine aw_i2f rfl (by decide +kernel) ?_
  refine aw_e rfl rfl rfl ?_
  refine aw_e rfl rfl rfl ?_
  refine aw_i2f rfl (by decide +kernel) ?_
  refine aw_e rfl rfl rfl ?_
  refine aw_e rfl rfl rfl ?_
  refine aw_ri rfl (by first | exact Or.inl rfl | exact Or.inr (by decide +kernel)) ?_
  refine aw_i1f rfl (by decide +kernel) ?_
  refine aw_e rfl rfl rfl ?_
  refine aw_e rfl rfl rfl ?_
  refine aw_e rfl rfl rfl ?_
  refine aw_ci rfl rfl (by decide) rfl rfl ?_
  refine aw_e rfl rfl rfl ?_
  refine aw_e rfl rfl rfl ?_
  refine aw_i2f rfl (q2_lt_f (z := 0) (by decide +kernel) (by omega)) ?_
  refine aw_e rfl rfl rfl ?_
  refine aw_e rfl rfl rfl ?_
  refine aw_i2t rfl (q2_gt_t (z := 1) (by decide +kernel) (by omega)) ?_
  refine aw_e rfl rfl rfl ?_
  refine aw_ri rfl (by first | exact Or.inl rfl | exact Or.inr (by decide +kernel)) ?_
  refine aw_i1f rfl (by decide +kernel) ?_
  refine aw_e rfl rfl rfl ?_
  refine aw_e rfl rfl rfl ?_
  refine aw_ci rfl rfl (by decide) rfl rfl ?_
  refine aw_e rfl rfl rfl ?_
  refine aw_e rfl rfl rfl ?_
  refine aw_e rfl rfl rfl ?_
  refine aw_e rfl rfl rfl ?_
  refine aw_e rfl rfl rfl ?_
  refine aw_e rfl rfl rfl ?_
  refine aw_e rfl rfl rfl ?_
  refine aw_e rfl rfl rfl ?_
  refine aw_e rfl rfl rfl ?_
  refine aw_e rfl rfl rfl ?_
  refine aw_ri rfl (by first | exact Or.inl rfl | exact Or.inr (by decide +kernel)) ?_
  refine aw_ri rfl (by first | exact Or.inl rfl | exact Or.inr (by decide +kernel)) ?_
  exact congrArg (fun z => some (Value.int z)) (by first | decide +kernel | (simp only [a_up_ap]; decide +kernel) | (simp +decide only [a_up_ap]; decide +kernel) | rfl | (simp [a_up_ap]; done))
theorem pC_rule_21 (b : Int32) (hb1 : b.toInt ≤ (-1)) : am wC 8 29 [.ref 0, .int 5, .int b] a_M0 (fun u _ => u = some (.int (-2))) := by
  refine ⟨_, rfl, ?_⟩
  refine aw_e rfl rfl rfl ?_
  refine aw_i1f rfl (by decide +kernel) ?_
  refine aw_e rfl rfl rfl ?_
  refine aw_e rfl rfl rfl ?_
  refine aw_i2f rfl (by decide +kernel) ?_
  refine aw_e rfl rfl rfl ?_
  refine aw_e rfl rfl rfl ?_
  refine aw_ci rfl rfl (by decide) rfl rfl ?_
  refine aw_e rfl rfl rfl ?_
  refine aw_i1f rfl (q1_eq_f (by omega)) ?_
  refine aw_e rfl rfl rfl ?_
  refine aw_e rfl rfl rfl ?_
  refine aw_i2t rfl (q2_ne_t (z := 1) (by decide +kernel) (by omega)) ?_
  refine aw_e rfl rfl rfl ?_
  refine aw_ri rfl (by first | exact Or.inl rfl | exact Or.inr (by decide +kernel)) ?_
  refine aw_i1f rfl (by decide +kernel) ?_
  refine aw_e rfl rfl rfl ?_
  refine aw_e rfl rfl rfl ?_
  refine aw_ck (P := fun u _ => u = some (.int (-2))) rfl rfl (by decide) rfl rfl (aw_k 100000 (by decide +kernel)) (fun u M1 hu => ?_)
  subst hu
  refine aw_ri rfl (by first | exact Or.inl rfl | exact Or.inr (by decide +kernel)) ?_
  exact congrArg (fun z => some (Value.int z)) (by first | decide +kernel | (simp only [a_up_ap]; decide +kernel) | (simp +decide only [a_up_ap]; decide +kernel) | rfl | (simp [a_up_ap]; done))
theorem pM_rule_21 (b : Int32) (hb1 : b.toInt ≤ (-1)) : am wM 8 210 [.ref a_mo, .int 5, .int b] a_M0 (fun u _ => u = some (.int (-2))) := by
  refine ⟨_, rfl, ?_⟩
  refine aw_e rfl rfl rfl ?_
  refine aw_e rfl rfl rfl ?_
  refine aw_e rfl rfl rfl ?_
  refine aw_ci rfl rfl (by decide) rfl rfl ?_
  refine aw_e rfl rfl rfl ?_
  refine aw_e rfl rfl rfl ?_
  refine aw_i2f rfl (by decide +kernel) ?_
  refine aw_e rfl rfl rfl ?_
  refine aw_e rfl rfl rfl ?_
  refine aw_i2f rfl (by decide +kernel) ?_
  refine aw_e rfl rfl rfl ?_
  refine aw_e rfl rfl rfl ?_
  refine aw_ri rfl (by first | exact Or.inl rfl | exact Or.inr (by decide +kernel)) ?_
  refine aw_i1f rfl (by decide +kernel) ?_
  refine aw_e rfl rfl rfl ?_
  refine aw_e rfl rfl rfl ?_
  refine aw_e rfl rfl rfl ?_
  refine aw_ci rfl rfl (by decide) rfl rfl ?_
  refine aw_e rfl rfl rfl ?_
  refine aw_e rfl rfl rfl ?_
  refine aw_i2t rfl (q2_lt_t (z := 0) (by decide +kernel) (by omega)) ?_
  refine aw_e rfl rfl rfl ?_
  refine aw_ri rfl (by first | exact Or.inl rfl | exact Or.inr (by decide +kernel)) ?_
  refine aw_i1f rfl (by decide +kernel) ?_
  refine aw_e rfl rfl rfl ?_
  refine aw_e rfl rfl rfl ?_
  refine aw_ci rfl rfl (by decide) rfl rfl ?_
  refine aw_e rfl rfl rfl ?_
  refine aw_e rfl rfl rfl ?_
  refine aw_e rfl rfl rfl ?_
  refine aw_e rfl rfl rfl ?_
  refine aw_e rfl rfl rfl ?_
  refine aw_e rfl rfl rfl ?_
  refine aw_e rfl rfl rfl ?_
  refine aw_e rfl rfl rfl ?_
  refine aw_e rfl rfl rfl ?_
  refine aw_e rfl rfl rfl ?_
  refine aw_ri rfl (by first | exact Or.inl rfl | exact Or.inr (by decide +kernel)) ?_
  refine aw_ri rfl (by first | exact Or.inl rfl | exact Or.inr (by decide +kernel)) ?_
  exact congrArg (fun z => some (Value.int z)) (by first | decide +kernel | (simp only [a_up_ap]; decide +kernel) | (simp +decide only [a_up_ap]; decide +kernel) | rfl | (simp [a_up_ap]; done))
theorem pC_rule_22 : am wC 8 29 [.ref 0, .int 5, .int 0] a_M0 (fun u _ => u = some (.int 0)) := am_k 1000000 (by decide +kernel)
theorem pM_rule_22 : am wM 8 210 [.ref a_mo, .int 5, .int 0] a_M0 (fun u _ => u = some (.int 0)) := am_k 1000000 (by decide +kernel)
theorem pC_rule_23 : am wC 8 29 [.ref 0, .int 5, .int 1] a_M0 (fun u _ => u = some (.int 0)) := am_k 1000000 (by decide +kernel)
theorem pM_rule_23 : am wM 8 210 [.ref a_mo, .int 5, .int 1] a_M0 (fun u _ => u = some (.int 0)) := am_k 1000000 (by decide +kernel)
theorem pC_rule_24 (b : Int32) (hb0 : 2 ≤ b.toInt) : am wC 8 29 [.ref 0, .int 5, .int b] a_M0 (fun u _ => u = some (.int (-2))) := by
  refine ⟨_, rfl, ?_⟩
  refine aw_e rfl rfl rfl ?_
  refine aw_i1f rfl (by decide +kernel) ?_
  refine aw_e rfl rfl rfl ?_
  refine aw_e rfl rfl rfl ?_
  refine aw_i2f rfl (by decide +kernel) ?_
  refine aw_e rfl rfl rfl ?_
  refine aw_e rfl rfl rfl ?_
  refine aw_ci rfl rfl (by decide) rfl rfl ?_
  refine aw_e rfl rfl rfl ?_
  refine aw_i1f rfl (q1_eq_f (by omega)) ?_
  refine aw_e rfl rfl rfl ?_
  refine aw_e rfl rfl rfl ?_
  refine aw_i2t rfl (q2_ne_t (z := 1) (by decide +kernel) (by omega)) ?_
  refine aw_e rfl rfl rfl ?_
  refine aw_ri rfl (by first | exact Or.inl rfl | exact Or.inr (by decide +kernel)) ?_
  refine aw_i1f rfl (by decide +kernel) ?_
  refine aw_e rfl rfl rfl ?_
  refine aw_e rfl rfl rfl ?_
  refine aw_ck (P := fun u _ => u = some (.int (-2))) rfl rfl (by decide) rfl rfl (aw_k 100000 (by decide +kernel)) (fun u M1 hu => ?_)
  subst hu
  refine aw_ri rfl (by first | exact Or.inl rfl | exact Or.inr (by decide +kernel)) ?_
  exact congrArg (fun z => some (Value.int z)) (by first | decide +kernel | (simp only [a_up_ap]; decide +kernel) | (simp +decide only [a_up_ap]; decide +kernel) | rfl | (simp [a_up_ap]; done))
theorem pM_rule_24 (b : Int32) (hb0 : 2 ≤ b.toInt) : am wM 8 210 [.ref a_mo, .int 5, .int b] a_M0 (fun u _ => u = some (.int (-2))) := by
  refine ⟨_, rfl, ?_⟩
  refine aw_e rfl rfl rfl ?_
  refine aw_e rfl rfl rfl ?_
  refine aw_e rfl rfl rfl ?_
  refine aw_ci rfl rfl (by decide) rfl rfl ?_
  refine aw_e rfl rfl rfl ?_
  refine aw_e rfl rfl rfl ?_
  refine aw_i2f rfl (by decide +kernel) ?_
  refine aw_e rfl rfl rfl ?_
  refine aw_e rfl rfl rfl ?_
  refine aw_i2f rfl (by decide +kernel) ?_
  refine aw_e rfl rfl rfl ?_
  refine aw_e rfl rfl rfl ?_
  refine aw_ri rfl (by first | exact Or.inl rfl | exact Or.inr (by decide +kernel)) ?_
  refine aw_i1f rfl (by decide +kernel) ?_
  refine aw_e rfl rfl rfl ?_
  refine aw_e rfl rfl rfl ?_
  refine aw_e rfl rfl rfl ?_
  refine aw_ci rfl rfl (by decide) rfl rfl ?_
  refine aw_e rfl rfl rfl ?_
  refine aw_e rfl rfl rfl ?_
  refine aw_i2f rfl (q2_lt_f (z := 0) (by decide +kernel) (by omega)) ?_
  refine aw_e rfl rfl rfl ?_
  refine aw_e rfl rfl rfl ?_
  refine aw_i2t rfl (q2_gt_t (z := 1) (by decide +kernel) (by omega)) ?_
  refine aw_e rfl rfl rfl ?_
  refine aw_ri rfl (by first | exact Or.inl rfl | exact Or.inr (by decide +kernel)) ?_
  refine aw_i1f rfl (by decide +kernel) ?_
  refine aw_e rfl rfl rfl ?_
  refine aw_e rfl rfl rfl ?_
  refine aw_ci rfl rfl (by decide) rfl rfl ?_
  refine aw_e rfl rfl rfl ?_
  refine aw_e rfl rfl rfl ?_
  refine aw_e rfl rfl rfl ?_
  refine aw_e rfl rfl rfl ?_
  refine aw_e rfl rfl rfl ?_
  refine aw_e rfl rfl rfl ?_
  refine aw_e rfl rfl rfl ?_
  refine aw_e rfl rfl rfl ?_
  refine aw_e rfl rfl rfl ?_
  refine aw_e rfl rfl rfl ?_
  refine aw_ri rfl (by first | exact Or.inl rfl | exact Or.inr (by decide +kernel)) ?_
  refine aw_ri rfl (by first | exact Or.inl rfl | exact Or.inr (by decide +kernel)) ?_
  exact congrArg (fun z => some (Value.int z)) (by first | decide +kernel | (simp only [a_up_ap]; decide +kernel) | (simp +decide only [a_up_ap]; decide +kernel) | rfl | (simp [a_up_ap]; done))
theorem pC_rule_25 (a : Int32) (ha0 : 6 ≤ a.toInt) (b : Int32) : am wC 8 29 [.ref 0, .int a, .int b] a_M0 (fun u _ => u = some (.int (-2))) := by
  refine ⟨_, rfl, ?_⟩
  refine aw_e rfl rfl rfl ?_
  refine aw_i1f rfl (q1_lt_f (by omega)) ?_
  refine aw_e rfl rfl rfl ?_
  refine aw_e rfl rfl rfl ?_
  refine aw_i2t rfl (q2_ge_t (z := 6) (by decide +kernel) (by omega)) ?_
  refine aw_e rfl rfl rfl ?_
  refine aw_e rfl rfl rfl ?_
  refine aw_ck (P := fun u _ => u = some (.int (-2))) rfl rfl (by decide) rfl rfl (aw_k 100000 (by decide +kernel)) (fun u M1 hu => ?_)
  subst hu
  refine aw_ri rfl (by first | exact Or.inl rfl | exact Or.inr (by decide +kernel)) ?_
  exact congrArg (fun z => some (Value.int z)) (by first | decide +kernel | (simp only [a_up_ap]; decide +kernel) | (simp +decide only [a_up_ap]; decide +kernel) | rfl | (simp [a_up_ap]; done))
theorem pM_rule_25 (a : Int32) (ha0 : 6 ≤ a.toInt) (b : Int32) : am wM 8 210 [.ref a_mo, .int a, .int b] a_M0 (fun u _ => u = some (.int (-2))) := by
  refine ⟨_, rfl, ?_⟩
  refine aw_e rfl rfl rfl ?_
  refine aw_e rfl rfl rfl ?_
  refine aw_e rfl rfl rfl ?_
  refine aw_ci rfl rfl (by decide) rfl rfl ?_
  refine aw_e rfl rfl rfl ?_
  refine aw_e rfl rfl rfl ?_
  refine aw_i2f rfl (q2_lt_f (z := 0) (by decide +kernel) (by omega)) ?_
  refine aw_e rfl rfl rfl ?_
  refine aw_e rfl rfl rfl ?_
  refine aw_i2t rfl (q2_gt_t (z := 5) (by decide +kernel) (by omega)) ?_
  refine aw_e rfl rfl rfl ?_
  refine aw_ri rfl (by first | exact Or.inl rfl | exact Or.inr (by decide +kernel)) ?_
  refine aw_i1t rfl (by decide +kernel) ?_
  refine aw_e rfl rfl rfl ?_
  refine aw_e rfl rfl rfl ?_
  refine aw_ck (P := fun u _ => u = some (.int (-2))) rfl rfl (by decide) rfl rfl (aw_k 100000 (by decide +kernel)) (fun u M1 hu => ?_)
  subst hu
  refine aw_ri rfl (by first | exact Or.inl rfl | exact Or.inr (by decide +kernel)) ?_
  exact congrArg (fun z => some (Value.int z)) (by first | decide +kernel | (simp only [a_up_ap]; decide +kernel) | (simp +decide only [a_up_ap]; decide +kernel) | rfl | (simp [a_up_ap]; done))
theorem op_rule (a b : Int32) : op_ok 29 210 [.int a, .int b] := by
  have ba0 := Int32.le_toInt a
  have ba1 := Int32.toInt_lt a
  have bb0 := Int32.le_toInt b
  have bb1 := Int32.toInt_lt b
  rcases (show a.toInt ≤ (-1) ∨ a.toInt = 0 ∨ a.toInt = 1 ∨ a.toInt = 2 ∨ a.toInt = 3 ∨ a.toInt = 4 ∨ a.toInt = 5 ∨ 6 ≤ a.toInt by omega) with ha | ha | ha | ha | ha | ha | ha | ha
  · exact ⟨_, pC_rule_0 a (by omega) b, pM_rule_0 a (by omega) b⟩
  · obtain rfl : a = 0 := q_val (z := 0) (by decide) ha
    rcases (show b.toInt ≤ (-1) ∨ b.toInt = 0 ∨ b.toInt = 1 ∨ 2 ≤ b.toInt by omega) with hb | hb | hb | hb
    · exact ⟨_, pC_rule_1 b (by omega), pM_rule_1 b (by omega)⟩
    · obtain rfl : b = 0 := q_val (z := 0) (by decide) hb
      exact ⟨_, pC_rule_2 , pM_rule_2 ⟩
    · obtain rfl : b = 1 := q_val (z := 1) (by decide) hb
      exact ⟨_, pC_rule_3 , pM_rule_3 ⟩
    · exact ⟨_, pC_rule_4 b (by omega), pM_rule_4 b (by omega)⟩
  · obtain rfl : a = 1 := q_val (z := 1) (by decide) ha
    rcases (show b.toInt ≤ (-1) ∨ b.toInt = 0 ∨ b.toInt = 1 ∨ 2 ≤ b.toInt by omega) with hb | hb | hb | hb
    · exact ⟨_, pC_rule_5 b (by omega), pM_rule_5 b (by omega)⟩
    · obtain rfl : b = 0 := q_val (z := 0) (by decide) hb
      exact ⟨_, pC_rule_6 , pM_rule_6 ⟩
    · obtain rfl : b = 1 := q_val (z := 1) (by decide) hb
      exact ⟨_, pC_rule_7 , pM_rule_7 ⟩
    · exact ⟨_, pC_rule_8 b (by omega), pM_rule_8 b (by omega)⟩
  · obtain rfl : a = 2 := q_val (z := 2) (by decide) ha
    rcases (show b.toInt ≤ (-1) ∨ b.toInt = 0 ∨ b.toInt = 1 ∨ 2 ≤ b.toInt by omega) with hb | hb | hb | hb
    · exact ⟨_, pC_rule_9 b (by omega), pM_rule_9 b (by omega)⟩
    · obtain rfl : b = 0 := q_val (z := 0) (by decide) hb
      exact ⟨_, pC_rule_10 , pM_rule_10 ⟩
    · obtain rfl : b = 1 := q_val (z := 1) (by decide) hb
      exact ⟨_, pC_rule_11 , pM_rule_11 ⟩
    · exact ⟨_, pC_rule_12 b (by omega), pM_rule_12 b (by omega)⟩
  · obtain rfl : a = 3 := q_val (z := 3) (by decide) ha
    rcases (show b.toInt ≤ (-1) ∨ b.toInt = 0 ∨ b.toInt = 1 ∨ 2 ≤ b.toInt by omega) with hb | hb | hb | hb
    · exact ⟨_, pC_rule_13 b (by omega), pM_rule_13 b (by omega)⟩
    · obtain rfl : b = 0 := q_val (z := 0) (by decide) hb
      exact ⟨_, pC_rule_14 , pM_rule_14 ⟩
    · obtain rfl : b = 1 := q_val (z := 1) (by decide) hb
      exact ⟨_, pC_rule_15 , pM_rule_15 ⟩
    · exact ⟨_, pC_rule_16 b (by omega), pM_rule_16 b (by omega)⟩
  · obtain rfl : a = 4 := q_val (z := 4) (by decide) ha
    rcases (show b.toInt ≤ (-1) ∨ b.toInt = 0 ∨ b.toInt = 1 ∨ 2 ≤ b.toInt by omega) with hb | hb | hb | hb
    · exact ⟨_, pC_rule_17 b (by omega), pM_rule_17 b (by omega)⟩
    · obtain rfl : b = 0 := q_val (z := 0) (by decide) hb
      exact ⟨_, pC_rule_18 , pM_rule_18 ⟩
    · obtain rfl : b = 1 := q_val (z := 1) (by decide) hb
      exact ⟨_, pC_rule_19 , pM_rule_19 ⟩
    · exact ⟨_, pC_rule_20 b (by omega), pM_rule_20 b (by omega)⟩
  · obtain rfl : a = 5 := q_val (z := 5) (by decide) ha
    rcases (show b.toInt ≤ (-1) ∨ b.toInt = 0 ∨ b.toInt = 1 ∨ 2 ≤ b.toInt by omega) with hb | hb | hb | hb
    · exact ⟨_, pC_rule_21 b (by omega), pM_rule_21 b (by omega)⟩
    · obtain rfl : b = 0 := q_val (z := 0) (by decide) hb
      exact ⟨_, pC_rule_22 , pM_rule_22 ⟩
    · obtain rfl : b = 1 := q_val (z := 1) (by decide) hb
      exact ⟨_, pC_rule_23 , pM_rule_23 ⟩
    · exact ⟨_, pC_rule_24 b (by omega), pM_rule_24 b (by omega)⟩
  · exact ⟨_, pC_rule_25 a (by omega) b, pM_rule_25 a (by omega) b⟩
