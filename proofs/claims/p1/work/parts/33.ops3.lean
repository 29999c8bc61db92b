theorem pC_wet_0 (a : Int32) (ha1 : a.toInt ≤ (-1)) : am wC 8 15 [.ref 0, .int a] a_M0 (fun u _ => u = some (.int (-4))) := by
  refine ⟨_, rfl, ?_⟩
  refine aw_e rfl rfl rfl ?_
  refine aw_i1f rfl (q1_ge_f (by omega)) ?_
  refine aw_e rfl rfl rfl ?_
  refine aw_e rfl rfl rfl ?_
  refine aw_ck (P := fun u _ => u = some (.int (-4))) rfl rfl (by decide) rfl rfl (aw_k 100000 (by decide +kernel)) (fun u M1 hu => ?_)
  subst hu
  refine aw_ri rfl (by first | exact Or.inl rfl | exact Or.inr (by decide +kernel)) ?_
  exact congrArg (fun z => some (Value.int z)) (by first | decide +kernel | (simp only [a_up_ap]; decide +kernel) | (simp +decide only [a_up_ap]; decide +kernel) | rfl | (simp [a_up_ap]; done))
theorem pM_wet_0 (a : Int32) (ha1 : a.toInt ≤ (-1)) : am wM 8 203 [.ref a_mo, .int a] a_M0 (fun u _ => u = some (.int (-4))) := by
  refine ⟨_, rfl, ?_⟩
  refine aw_e rfl rfl rfl ?_
  refine aw_e rfl rfl rfl ?_
  refine aw_e rfl rfl rfl ?_
  refine aw_ci rfl rfl (by decide) rfl rfl ?_
  refine aw_e rfl rfl rfl ?_
  refine aw_e rfl rfl rfl ?_
  refine aw_i2f rfl (q2_ge_f (z := 0) (by decide +kernel) (by omega)) ?_
  refine aw_e rfl rfl rfl ?_
  refine aw_e rfl rfl rfl ?_
  refine aw_ri rfl (by first | exact Or.inl rfl | exact Or.inr (by decide +kernel)) ?_
  refine aw_e rfl rfl rfl ?_
  refine aw_e rfl rfl rfl ?_
  refine aw_i1f rfl (by decide +kernel) ?_
  refine aw_e rfl rfl rfl ?_
  refine aw_e rfl rfl rfl ?_
  refine aw_ck (P := fun u _ => u = some (.int (-4))) rfl rfl (by decide) rfl rfl (aw_k 100000 (by decide +kernel)) (fun u M1 hu => ?_)
  subst hu
  refine aw_ri rfl (by first | exact Or.inl rfl | exact Or.inr (by decide +kernel)) ?_
  exact congrArg (fun z => some (Value.int z)) (by first | decide +kernel | (simp only [a_up_ap]; decide +kernel) | (simp +decide only [a_up_ap]; decide +kernel) | rfl | (simp [a_up_ap]; done))
theorem pC_wet_1 (a : Int32) (ha0 : 0 ≤ a.toInt) (ha1 : a.toInt ≤ 999) : am wC 8 15 [.ref 0, .int a] a_M0 (fun u _ => u = some (.int 0)) := by
  refine ⟨_, rfl, ?_⟩
  refine aw_e rfl rfl rfl ?_
  refine aw_i1t rfl (q1_ge_t (by omega)) ?_
  refine aw_e rfl rfl rfl ?_
  refine aw_e rfl rfl rfl ?_
  refine aw_i2t rfl (q2_le_t (z := 999) (by decide +kernel) (by omega)) ?_
  refine aw_e rfl rfl rfl ?_
  refine aw_ci rfl rfl (by decide) rfl rfl ?_
  refine aw_e rfl rfl rfl ?_
  refine aw_e rfl rfl rfl ?_
  refine aw_e rfl rfl rfl ?_
  refine aw_e rfl rfl rfl ?_
  refine aw_e rfl rfl rfl ?_
  refine aw_e rfl rfl rfl ?_
  refine aw_e rfl rfl rfl ?_
  refine aw_e rfl rfl rfl ?_
  refine aw_e rfl rfl rfl ?_
  refine aw_ci rfl rfl (by decide) rfl rfl ?_
  refine aw_e rfl rfl rfl ?_
  refine aw_e rfl rfl rfl ?_
  refine aw_ci rfl rfl (by decide) rfl rfl ?_
  refine aw_e rfl rfl rfl ?_
  refine aw_e rfl rfl rfl ?_
  refine aw_e rfl rfl rfl ?_
  refine aw_e rfl rfl rfl ?_
  refine aw_e rfl rfl rfl ?_
  refine aw_e rfl rfl rfl ?_
  refine aw_e rfl rfl rfl ?_
  refine aw_e rfl rfl rfl ?_
  refine aw_e rfl rfl rfl ?_
  refine aw_e rfl rfl rfl ?_
  refine aw_e rfl rfl rfl ?_
  refine aw_e rfl rfl rfl ?_
  refine aw_e rfl rfl rfl ?_
  refine aw_e rfl rfl rfl ?_
  refine aw_e rfl rfl rfl ?_
  refine aw_e rfl rfl rfl ?_
  refine aw_e rfl rfl rfl ?_
  refine aw_e rfl rfl rfl ?_
  refine aw_e rfl rfl rfl ?_
  refine aw_e rfl rfl rfl ?_
  refine aw_e rfl rfl rfl ?_
  refine aw_e rfl rfl rfl ?_
  refine aw_e rfl rfl rfl ?_
  refine aw_e rfl rfl rfl ?_
  refine aw_e rfl rfl rfl ?_
  refine aw_e rfl rfl rfl ?_
  refine aw_e rfl rfl rfl ?_
  refine aw_e rfl rfl rfl ?_
  refine aw_e rfl rfl rfl ?_
  refine aw_e rfl rfl rfl ?_
  refine aw_e rfl rfl rfl ?_
  refine aw_e rfl rfl rfl ?_
  refine aw_e rfl rfl rfl ?_
  refine aw_e rfl rfl rfl ?_
  refine aw_i2f rfl (by decide +kernel) ?_
  refine aw_e rfl rfl rfl ?_
  refine aw_e rfl rfl rfl ?_
  refine aw_e rfl rfl rfl ?_
  refine aw_e rfl rfl rfl ?_
  refine aw_ci rfl rfl (by decide) rfl rfl ?_
  refine aw_e rfl rfl rfl ?_
  refine aw_e rfl rfl rfl ?_
  refine aw_e rfl rfl rfl ?_
  refine aw_i1f rfl (by decide +kernel) ?_
  refine aw_e rfl rfl rfl ?_
  refine aw_e rfl rfl rfl ?_
  refine aw_e rfl rfl rfl ?_
  refine aw_i2f rfl (by decide +kernel) ?_
  refine aw_e rfl rfl rfl ?_
  refine aw_e rfl rfl rfl ?_
  refine aw_e rfl rfl rfl ?_
  refine aw_e rfl rfl rfl ?_
  refine aw_rv rfl ?_
  refine aw_e rfl rfl rfl ?_
  refine aw_e rfl rfl rfl ?_
  refine aw_e rfl rfl rfl ?_
  refine aw_e rfl rfl rfl ?_
  refine aw_i2f rfl (by decide +kernel) ?_
  refine aw_e rfl rfl rfl ?_
  refine aw_e rfl rfl rfl ?_
  refine aw_e rfl rfl rfl ?_
  refine aw_e rfl rfl rfl ?_
  refine aw_ci rfl rfl (by decide) rfl rfl ?_
  refine aw_e rfl rfl rfl ?_
  refine aw_e rfl rfl rfl ?_
  refine aw_e rfl rfl rfl ?_
  refine aw_i1f rfl (by decide +kernel) ?_
  refine aw_e rfl rfl rfl ?_
  refine aw_e rfl rfl rfl ?_
  refine aw_e rfl rfl rfl ?_
  refine aw_i2f rfl (by decide +kernel) ?_
  refine aw_e rfl rfl rfl ?_
  refine aw_e rfl rfl rfl ?_
  refine aw_e rfl rfl rfl ?_
  refine aw_e rfl rfl rfl ?_
  refine aw_rv rfl ?_
  refine aw_e rfl rfl rfl ?_
  refine aw_e rfl rfl rfl ?_
  refine aw_e rfl rfl rfl ?_
  refine aw_e rfl rfl rfl ?_
  refine aw_i2f rfl (by decide +kernel) ?_
  refine aw_e rfl rfl rfl ?_
  refine aw_e rfl rfl rfl ?_
  refine aw_e rfl rfl rfl ?_
  refine aw_e rfl rfl rfl ?_
  refine aw_ci rfl rfl (by decide) rfl rfl ?_
  refine aw_e rfl rfl rfl ?_
  refine aw_e rfl rfl rfl ?_
  refine aw_e rfl rfl rfl ?_
  refine aw_i1f rfl (by decide +kernel) ?_
  refine aw_e rfl rfl rfl ?_
  refine aw_e rfl rfl rfl ?_
  refine aw_e rfl rfl rfl ?_
  refine aw_i2f rfl (by decide +kernel) ?_
  refine aw_e rfl rfl rfl ?_
  refine aw_e rfl rfl rfl ?_
  refine aw_e rfl rfl rfl ?_
  refine aw_e rfl rfl rfl ?_
  refine aw_rv rfl ?_
  refine aw_e rfl rfl rfl ?_
  refine aw_e rfl rfl rfl ?_
  refine aw_e rfl rfl rfl ?_
  refine aw_e rfl rfl rfl ?_
  refine aw_i2t rfl (by decide +kernel) ?_
  refine aw_rv rfl ?_
  refine aw_e rfl rfl rfl ?_
  refine aw_e rfl rfl rfl ?_
  refine aw_e rfl rfl rfl ?_
  refine aw_e rfl rfl rfl ?_
  refine aw_e rfl rfl rfl ?_
  refine aw_i2t rfl (by decide +kernel) ?_
  refine aw_rv rfl ?_
  refine aw_rv rfl ?_
  refine aw_e rfl rfl rfl ?_
  refine aw_e rfl rfl rfl ?_
  refine aw_e rfl rfl rfl ?_
  refine aw_ci rfl rfl (by decide) rfl rfl ?_
  refine aw_e rfl rfl rfl ?_
  refine aw_e rfl rfl rfl ?_
  refine aw_e rfl rfl rfl ?_
  refine aw_e rfl rfl rfl ?_
  refine aw_e rfl rfl rfl ?_
  refine aw_e rfl rfl rfl ?_
  refine aw_e rfl rfl rfl ?_
  refine aw_i2t rfl (by decide +kernel) ?_
  refine aw_e rfl rfl rfl ?_
  refine aw_ri rfl (by first | exact Or.inl rfl | exact Or.inr (by decide +kernel)) ?_
  refine aw_ri rfl (by first | exact Or.inl rfl | exact Or.inr (by decide +kernel)) ?_
  exact congrArg (fun z => some (Value.int z)) (by first | decide +kernel | (simp only [a_up_ap]; decide +kernel) | (simp +decide only [a_up_ap]; decide +kernel) | rfl | (simp [a_up_ap]; done))
theorem pM_wet_1 (a : Int32) (ha0 : 0 ≤ a.toInt) (ha1 : a.toInt ≤ 999) : am wM 8 203 [.ref a_mo, .int a] a_M0 (fun u _ => u = some (.int 0)) := by
  refine ⟨_, rfl, ?_⟩
  refine aw_e rfl rfl rfl ?_
  refine aw_e rfl rfl rfl ?_
  refine aw_e rfl rfl rfl ?_
  refine aw_ci rfl rfl (by decide) rfl rfl ?_
  refine aw_e rfl rfl rfl ?_
  refine aw_e rfl rfl rfl ?_
  refine aw_i2t rfl (q2_ge_t (z := 0) (by decide +kernel) (by omega)) ?_
  refine aw_e rfl rfl rfl ?_
  refine aw_e rfl rfl rfl ?_
  refine aw_i2t rfl (q2_le_t (z := 999) (by decide +kernel) (by omega)) ?_
  refine aw_e rfl rfl rfl ?_
  refine aw_ri rfl (by first | exact Or.inl rfl | exact Or.inr (by decide +kernel)) ?_
  refine aw_e rfl rfl rfl ?_
  refine aw_e rfl rfl rfl ?_
  refine aw_i1t rfl (by decide +kernel) ?_
  refine aw_e rfl rfl rfl ?_
  refine aw_ci rfl rfl (by decide) rfl rfl ?_
  refine aw_e rfl rfl rfl ?_
  refine aw_e rfl rfl rfl ?_
  refine aw_e rfl rfl rfl ?_
  refine aw_e rfl rfl rfl ?_
  refine aw_e rfl rfl rfl ?_
  refine aw_e rfl rfl rfl ?_
  refine aw_e rfl rfl rfl ?_
  refine aw_e rfl rfl rfl ?_
  refine aw_e rfl rfl rfl ?_
  refine aw_e rfl rfl rfl ?_
  refine aw_e rfl rfl rfl ?_
  refine aw_e rfl rfl rfl ?_
  refine aw_e rfl rfl rfl ?_
  refine aw_e rfl rfl rfl ?_
  refine aw_e rfl rfl rfl ?_
  refine aw_e rfl rfl rfl ?_
  refine aw_e rfl rfl rfl ?_
  refine aw_e rfl rfl rfl ?_
  refine aw_e rfl rfl rfl ?_
  refine aw_e rfl rfl rfl ?_
  refine aw_e rfl rfl rfl ?_
  refine aw_e rfl rfl rfl ?_
  refine aw_e rfl rfl rfl ?_
  refine aw_e rfl rfl rfl ?_
  refine aw_e rfl rfl rfl ?_
  refine aw_e rfl rfl rfl ?_
  refine aw_e rfl rfl rfl ?_
  refine aw_e rfl rfl rfl ?_
  refine aw_e rfl rfl rfl ?_
  refine aw_e rfl rfl rfl ?_
  refine aw_e rfl rfl rfl ?_
  refine aw_e rfl rfl rfl ?_
  refine aw_i2f rfl (by decide +kernel) ?_
  refine aw_e rfl rfl rfl ?_
  refine aw_e rfl rfl rfl ?_
  refine aw_e rfl rfl rfl ?_
  refine aw_e rfl rfl rfl ?_
  refine aw_e rfl rfl rfl ?_
  refine aw_e rfl rfl rfl ?_
  refine aw_e rfl rfl rfl ?_
  refine aw_e rfl rfl rfl ?_
  refine aw_e rfl rfl rfl ?_
  refine aw_i2f rfl (by decide +kernel) ?_
  refine aw_e rfl rfl rfl ?_
  refine aw_e rfl rfl rfl ?_
  refine aw_e rfl rfl rfl ?_
  refine aw_e rfl rfl rfl ?_
  refine aw_e rfl rfl rfl ?_
  refine aw_e rfl rfl rfl ?_
  refine aw_e rfl rfl rfl ?_
  refine aw_e rfl rfl rfl ?_
  refine aw_e rfl rfl rfl ?_
  refine aw_i2f rfl (by decide +kernel) ?_
  refine aw_e rfl rfl rfl ?_
  refine aw_e rfl rfl rfl ?_
  refine aw_e rfl rfl rfl ?_
  refine aw_e rfl rfl rfl ?_
  refine aw_e rfl rfl rfl ?_
  refine aw_e rfl rfl rfl ?_
  refine aw_e rfl rfl rfl ?_
  refine aw_e rfl rfl rfl ?_
  refine aw_e rfl rfl rfl ?_
  refine aw_i2t rfl (by decide +kernel) ?_
  refine aw_e rfl rfl rfl ?_
  refine aw_e rfl rfl rfl ?_
  refine aw_e rfl rfl rfl ?_
  refine aw_e rfl rfl rfl ?_
  refine aw_e rfl rfl rfl ?_
  refine aw_i2t rfl (by decide +kernel) ?_
  refine aw_rv rfl ?_
  refine aw_e rfl rfl rfl ?_
  refine aw_e rfl rfl rfl ?_
  refine aw_ci rfl rfl (by decide) rfl rfl ?_
  refine aw_e rfl rfl rfl ?_
  refine aw_e rfl rfl rfl ?_
  refine aw_e rfl rfl rfl ?_
  refine aw_e rfl rfl rfl ?_
  refine aw_e rfl rfl rfl ?_
  refine aw_e rfl rfl rfl ?_
  refine aw_e rfl rfl rfl ?_
  refine aw_i2t rfl (by decide +kernel) ?_
  refine aw_e rfl rfl rfl ?_
  refine aw_ri rfl (by first | exact Or.inl rfl | exact Or.inr (by decide +kernel)) ?_
  refine aw_ri rfl (by first | exact Or.inl rfl | exact Or.inr (by decide +kernel)) ?_
  exact congrArg (fun z => some (Value.int z)) (by first | decide +kernel | (simp only [a_up_ap]; decide +kernel) | (simp +decide only [a_up_ap]; decide +kernel) | rfl | (simp [a_up_ap]; done))
theorem pC_wet_2 (a : Int32) (ha0 : 1000 ≤ a.toInt) : am wC 8 15 [.ref 0, .int a] a_M0 (fun u _ => u = some (.int (-6))) := by
  refine ⟨_, rfl, ?_⟩
  refine aw_e rfl rfl rfl ?_
  refine aw_i1t rfl (q1_ge_t (by omega)) ?_
  refine aw_e rfl rfl rfl ?_
  refine aw_e rfl rfl rfl ?_
  refine aw_i2f rfl (q2_le_f (z := 999) (by decide +kernel) (by omega)) ?_
  refine aw_e rfl rfl rfl ?_
  refine aw_e rfl rfl rfl ?_
  refine aw_ck (P := fun u _ => u = some (.int (-6))) rfl rfl (by decide) rfl rfl (aw_k 100000 (by decide +kernel)) (fun u M1 hu => ?_)
  subst hu
  refine aw_ri rfl (by first | exact Or.inl rfl | exact Or.inr (by decide +kernel)) ?_
  exact congrArg (fun z => some (Value.int z)) (by first | decide +kernel | (simp only [a_up_ap]; decide +kernel) | (simp +decide only [a_up_ap]; decide +kernel) | rfl | (simp [a_up_ap]; done))
theorem pM_wet_2 (a : Int32) (ha0 : 1000 ≤ a.toInt) : am wM 8 203 [.ref a_mo, .int a] a_M0 (fun u _ => u = some (.int (-6))) := by
  refine ⟨_, rfl, ?_⟩
  refine aw_e rfl rfl rfl ?_
  refine aw_e rfl rfl rfl ?_
  refine aw_e rfl rfl rfl ?_
  refine aw_ci rfl rfl (by decide) rfl rfl ?_
  refine aw_e rfl rfl rfl ?_
  refine aw_e rfl rfl rfl ?_
  refine aw_i2t rfl (q2_ge_t (z := 0) (by decide +kernel) (by omega)) ?_
  refine aw_e rfl rfl rfl ?_
  refine aw_e rfl rfl rfl ?_
  refine aw_i2f rfl (q2_le_f (z := 999) (by decide +kernel) (by omega)) ?_
  refine aw_e rfl rfl rfl ?_
  refine aw_e rfl rfl rfl ?_
  refine aw_ri rfl (by first | exact Or.inl rfl | exact Or.inr (by decide +kernel)) ?_
  refine aw_e rfl rfl rfl ?_
  refine aw_e rfl rfl rfl ?_
  refine aw_i1f rfl (by decide +kernel) ?_
  refine aw_e rfl rfl rfl ?_
  refine aw_e rfl rfl rfl ?_
  refine aw_ck (P := fun u _ => u = some (.int (-6))) rfl rfl (by decide) rfl rfl (aw_k 100000 (by decide +kernel)) (fun u M1 hu => ?_)
  subst hu
  refine aw_ri rfl (by first | exact Or.inl rfl | exact Or.inr (by decide +kernel)) ?_
  exact congrArg (fun z => some (Value.int z)) (by first | decide +kernel | (simp only [a_up_ap]; decide +kernel) | (simp +decide only [a_up_ap]; decide +kernel) | rfl | (simp [a_up_ap]; done))
theorem op_wet (a : Int32) : op_ok 15 203 [.int a] := by
  have ba0 := Int32.le_toInt a
  have ba1 := Int32.toInt_lt a
  rcases (show a.toInt ≤ (-1) ∨ (0 ≤ a.toInt ∧ a.toInt ≤ 999) ∨ 1000 ≤ a.toInt by omega) with ha | ha | ha
  · exact ⟨_, pC_wet_0 a (by omega), pM_wet_0 a (by omega)⟩
  · exact ⟨_, pC_wet_1 a (by omega) (by omega), pM_wet_1 a (by omega) (by omega)⟩
  · exact ⟨_, pC_wet_2 a (by omega), pM_wet_2 a (by omega)⟩
theorem pC_rack_0 (a : Int32) (ha1 : a.toInt ≤ (-1)) : am wC 8 18 [.ref 0, .int a] a_M0 (fun u _ => u = some (.int (-4))) := by
  refine ⟨_, rfl, ?_⟩
  refine aw_e rfl rfl rfl ?_
  refine aw_i1f rfl (q1_ge_f (by omega)) ?_
  refine aw_e rfl rfl rfl ?_
  refine aw_e rfl rfl rfl ?_
  refine aw_ck (P := fun u _ => u = some (.int (-4))) rfl rfl (by decide) rfl rfl (aw_k 100000 (by decide +kernel)) (fun u M1 hu => ?_)
  subst hu
  refine aw_ri rfl (by first | exact Or.inl rfl | exact Or.inr (by decide +kernel)) ?_
  exact congrArg (fun z => some (Value.int z)) (by first | decide +kernel | (simp only [a_up_ap]; decide +kernel) | (simp +decide only [a_up_ap]; decide +kernel) | rfl | (simp [a_up_ap]; done))
theorem pM_rack_0 (a : Int32) (ha1 : a.toInt ≤ (-1)) : am wM 8 217 [.ref a_mo, .int a] a_M0 (fun u _ => u = some (.int (-4))) := by
  refine ⟨_, rfl, ?_⟩
  refine aw_e rfl rfl rfl ?_
  refine aw_e rfl rfl rfl ?_
  refine aw_e rfl rfl rfl ?_
  refine aw_ci rfl rfl (by decide) rfl rfl ?_
  refine aw_e rfl rfl rfl ?_
  refine aw_e rfl rfl rfl ?_
  refine aw_i2f rfl (q2_ge_f (z := 0) (by decide +kernel) (by omega)) ?_
  refine aw_e rfl rfl rfl ?_
  refine aw_e rfl rfl rfl ?_
  refine aw_ri rfl (by first | exact Or.inl rfl | exact Or.inr (by decide +kernel)) ?_
  refine aw_e rfl rfl rfl ?_
  refine aw_e rfl rfl rfl ?_
  refine aw_i1f rfl (by decide +kernel) ?_
  refine aw_e rfl rfl rfl ?_
  refine aw_e rfl rfl rfl ?_
  refine aw_ck (P := fun u _ => u = some (.int (-4))) rfl rfl (by decide) rfl rfl (aw_k 100000 (by decide +kernel)) (fun u M1 hu => ?_)
  subst hu
  refine aw_ri rfl (by first | exact Or.inl rfl | exact Or.inr (by decide +kernel)) ?_
  exact congrArg (fun z => some (Value.int z)) (by first | decide +kernel | (simp only [a_up_ap]; decide +kernel) | (simp +decide only [a_up_ap]; decide +kernel) | rfl | (simp [a_up_ap]; done))
set_option maxRecDepth 1000000 in
theorem pC_rack_1 (a : Int32) (ha0 : 0 ≤ a.toInt) (ha1 : a.toInt ≤ 999) : am wC 8 18 [.ref 0, .int a] a_M0 (fun u _ => u = some (.int 0)) := by
  refine ⟨_, rfl, ?_⟩
  refine aw_e rfl rfl rfl ?_
  refine aw_i1t rfl (q1_ge_t (by omega)) ?_
  refine aw_e rfl rfl rfl ?_
  refine aw_e rfl rfl rfl ?_
  refine aw_i2t rfl (q2_le_t (z := 999) (by decide +kernel) (by omega)) ?_
  refine aw_e rfl rfl rfl ?_
  refine aw_e rfl rfl rfl ?_
  refine aw_e rfl rfl rfl ?_
  refine aw_ci rfl rfl (by decide) rfl rfl ?_
  refine aw_e rfl rfl rfl ?_
  refine aw_e rfl rfl rfl ?_
  refine aw_e rfl rfl rfl ?_
  refine aw_e rfl rfl rfl ?_
  refine aw_ci rfl rfl (by decide) rfl rfl ?_
  refine aw_e rfl rfl rfl ?_
  refine aw_e rfl rfl rfl ?_
  refine aw_e rfl rfl rfl ?_
  refine aw_i1f rfl (by decide +kernel) ?_
  refine aw_e rfl rfl rfl ?_
  refine aw_e rfl rfl rfl ?_
  refine aw_e rfl rfl rfl ?_
  refine aw_i2f rfl (by decide +kernel) ?_
  refine aw_e rfl rfl rfl ?_
  refine aw_e rfl rfl rfl ?_
  refine aw_e rfl rfl rfl ?_
  refine aw_e rfl rfl rfl ?_
  refine aw_ri rfl (by first | exact Or.inl rfl | exact Or.inr (by decide +kernel)) ?_
  refine aw_e rfl rfl rfl ?_
  refine aw_e rfl rfl rfl ?_
  refine aw_e rfl rfl rfl ?_
  refine aw_e rfl rfl rfl ?_
  refine aw_e rfl rfl rfl ?_
  refine aw_i2f rfl (by decide +kernel) ?_
  refine aw_e rfl rfl rfl ?_
  refine aw_e rfl rfl rfl ?_
  refine aw_e rfl rfl rfl ?_
  refine aw_ci rfl rfl (by decide) rfl rfl ?_
  refine aw_e rfl rfl rfl ?_
  refine aw_e rfl rfl rfl ?_
  refine aw_e rfl rfl rfl ?_
  refine aw_e rfl rfl rfl ?_
  refine aw_e rfl rfl rfl ?_
  refine aw_e rfl rfl rfl ?_
  refine aw_ci rfl rfl (by decide) rfl rfl ?_
  refine aw_e rfl rfl rfl ?_
  refine aw_e rfl rfl rfl ?_
  refine aw_e rfl rfl rfl ?_
  refine aw_e rfl rfl rfl ?_
  refine aw_i2f rfl (by decide +kernel) ?_
  refine aw_e rfl rfl rfl ?_
  refine aw_e rfl rfl rfl ?_
  refine aw_e rfl rfl rfl ?_
  refine aw_e rfl rfl rfl ?_
  refine aw_ci rfl rfl (by decide) rfl rfl ?_
  refine aw_e rfl rfl rfl ?_
  refine aw_e rfl rfl rfl ?_
  refine aw_e rfl rfl rfl ?_
  refine aw_i1f rfl (by decide +kernel) ?_
  refine aw_e rfl rfl rfl ?_
  refine aw_e rfl rfl rfl ?_
  refine aw_e rfl rfl rfl ?_
  refine aw_i2f rfl (by decide +kernel) ?_
  refine aw_e rfl rfl rfl ?_
  refine aw_e rfl rfl rfl ?_
  refine aw_e rfl rfl rfl ?_
  refine aw_e rfl rfl rfl ?_
  refine aw_ri rfl (by first | exact Or.inl rfl | exact Or.inr (by decide +kernel)) ?_
  refine aw_ci rfl rfl (by decide) rfl rfl ?_
  refine aw_e rfl rfl rfl ?_
  refine aw_e rfl rfl rfl ?_
  refine aw_e rfl rfl rfl ?_
  refine aw_i1f rfl (by decide +kernel) ?_
  refine aw_e rfl rfl rfl ?_
  refine aw_e rfl rfl rfl ?_
  refine aw_e rfl rfl rfl ?_
  refine aw_i2f rfl (by decide +kernel) ?_
  refine aw_e rfl rfl rfl ?_
  refine aw_e rfl rfl rfl ?_
  refine aw_e rfl rfl rfl ?_
  refine aw_e rfl rfl rfl ?_
  refine aw_rv rfl ?_
  refine aw_e rfl rfl rfl ?_
  refine aw_e rfl rfl rfl ?_
  refine aw_e rfl rfl rfl ?_
  refine aw_e rfl rfl rfl ?_
  refine aw_i2f rfl (by decide +kernel) ?_
  refine aw_e rfl rfl rfl ?_
  refine aw_e rfl rfl rfl ?_
  refine aw_e rfl rfl rfl ?_
  refine aw_e rfl rfl rfl ?_
  refine aw_ci rfl rfl (by decide) rfl rfl ?_
  refine aw_e rfl rfl rfl ?_
  refine aw_e rfl rfl rfl ?_
  refine aw_e rfl rfl rfl ?_
  refine aw_i1f rfl (by decide +kernel) ?_
  refine aw_e rfl rfl rfl ?_
  refine aw_e rfl rfl rfl ?_
  refine aw_e rfl rfl rfl ?_
  refine aw_i2f rfl (by decide +kernel) ?_
  refine aw_e rfl rfl rfl ?_
  refine aw_e rfl rfl rfl ?_
  refine aw_e rfl rfl rfl ?_
  refine aw_e rfl rfl rfl ?_
  refine aw_ri rfl (by first | exact Or.inl rfl | exact Or.inr (by decide +kernel)) ?_
  refine aw_ci rfl rfl (by decide) rfl rfl ?_
  refine aw_e rfl rfl rfl ?_
  refine aw_e rfl rfl rfl ?_
  refine aw_e rfl rfl rfl ?_
  refine aw_i1f rfl (by decide +kernel) ?_
  refine aw_e rfl rfl rfl ?_
  refine aw_e rfl rfl rfl ?_
  refine aw_e rfl rfl rfl ?_
  refine aw_i2f rfl (by decide +kernel) ?_
  refine aw_e rfl rfl rfl ?_
  refine aw_e rfl rfl rfl ?_
  refine aw_e rfl rfl rfl ?_
  refine aw_e rfl rfl rfl ?_
  refine aw_rv rfl ?_
  refine aw_e rfl rfl rfl ?_
  refine aw_e rfl rfl rfl ?_
  refine aw_e rfl rfl rfl ?_
  refine aw_e rfl rfl rfl ?_
  refine aw_i2f rfl (by decide +kernel) ?_
  refine aw_e rfl rfl rfl ?_
  refine aw_e rfl rfl rfl ?_
  refine aw_e rfl rfl rfl ?_
  refine aw_e rfl rfl rfl ?_
  refine aw_ci rfl rfl (by decide) rfl rfl ?_
  refine aw_e rfl rfl rfl ?_
  refine aw_e rfl rfl rfl ?_
  refine aw_e rfl rfl rfl ?_
  refine aw_i1f rfl (by decide +kernel) ?_
  refine aw_e rfl rfl rfl ?_
  refine aw_e rfl rfl rfl ?_
  refine aw_e rfl rfl rfl ?_
  refine aw_i2f rfl (by decide +kernel) ?_
  refine aw_e rfl rfl rfl ?_
  refine aw_e rfl rfl rfl ?_
  refine aw_e rfl rfl rfl ?_
  refine aw_e rfl rfl rfl ?_
  refine aw_ri rfl (by first | exact Or.inl rfl | exact Or.inr (by decide +kernel)) ?_
  refine aw_ci rfl rfl (by decide) rfl rfl ?_
  refine aw_e rfl rfl rfl ?_
  refine aw_e rfl rfl rfl ?_
  refine aw_e rfl rfl rfl ?_
  refine aw_i1f rfl (by decide +kernel) ?_
  refine aw_e rfl rfl rfl ?_
  refine aw_e rfl rfl rfl ?_
  refine aw_e rfl rfl rfl ?_
  refine aw_i2f rfl (by decide +kernel) ?_
  refine aw_e rfl rfl rfl ?_
  refine aw_e rfl rfl rfl ?_
  refine aw_e rfl rfl rfl ?_
  refine aw_e rfl rfl rfl ?_
  refine aw_rv rfl ?_
  refine aw_e rfl rfl rfl ?_
  refine aw_e rfl rfl rfl ?_
  refine aw_e rfl rfl rfl ?_
  refine aw_e rfl rfl rfl ?_
  refine aw_i2f rfl (by decide +kernel) ?_
  refine aw_e rfl rfl rfl ?_
  refine aw_e rfl rfl rfl ?_
  refine aw_e rfl rfl rfl ?_
  refine aw_e rfl rfl rfl ?_
  refine aw_ci rfl rfl (by decide) rfl rfl ?_
  refine aw_e rfl rfl rfl ?_
  refine aw_e rfl rfl rfl ?_
  refine aw_e rfl rfl rfl ?_
  refine aw_i1f rfl (by decide +kernel) ?_
  refine aw_e rfl rfl rfl ?_
  refine aw_e rfl rfl rfl ?_
  refine aw_e rfl rfl rfl ?_
  refine aw_i2f rfl (by decide +kernel) ?_
  refine aw_e rfl rfl rfl ?_
  refine aw_e rfl rfl rfl ?_
  refine aw_e rfl rfl rfl ?_
  refine aw_e rfl rfl rfl ?_
  refine aw_ri rfl (by first | exact Or.inl rfl | exact Or.inr (by decide +kernel)) ?_
  refine aw_ci rfl rfl (by decide) rfl rfl ?_
  refine aw_e rfl rfl rfl ?_
  refine aw_e rfl rfl rfl ?_
  refine aw_e rfl rfl rfl ?_
  refine aw_i1f rfl (by decide +kernel) ?_
  refine aw_e rfl rfl rfl ?_
  refine aw_e rfl rfl rfl ?_
  refine aw_e rfl rfl rfl ?_
  refine aw_i2f rfl (by decide +kernel) ?_
  refine aw_e rfl rfl rfl ?_
  refine aw_e rfl rfl rfl ?_
  refine aw_e rfl rfl rfl ?_
  refine aw_e rfl rfl rfl ?_
  refine aw_rv rfl ?_
  refine aw_e rfl rfl rfl ?_
  refine aw_e rfl rfl rfl ?_
  refine aw_e rfl rfl rfl ?_
  refine aw_e rfl rfl rfl ?_
  refine aw_i2f rfl (by decide +kernel) ?_
  refine aw_e rfl rfl rfl ?_
  refine aw_e rfl rfl rfl ?_
  refine aw_e rfl rfl rfl ?_
  refine aw_e rfl rfl rfl ?_
  refine aw_ci rfl rfl (by decide) rfl rfl ?_
  refine aw_e rfl rfl rfl ?_
  refine aw_e rfl rfl rfl ?_
  refine aw_e rfl rfl rfl ?_
  refine aw_i1f rfl (by decide +kernel) ?_
  refine aw_e rfl rfl rfl ?_
  refine aw_e rfl rfl rfl ?_
  refine aw_e rfl rfl rfl ?_
  refine aw_i2f rfl (by decide +kernel) ?_
  refine aw_e rfl rfl rfl ?_
  refine aw_e rfl rfl rfl ?_
  refine aw_e rfl rfl rfl ?_
  refine aw_e rfl rfl rfl ?_
  refine aw_ri rfl (by first | exact Or.inl rfl | exact Or.inr (by decide +kernel)) ?_
  refine aw_ci rfl rfl (by decide) rfl rfl ?_
  refine aw_e rfl rfl rfl ?_
  refine aw_e rfl rfl rfl ?_
  refine aw_e rfl rfl rfl ?_
  refine aw_i1f rfl (by decide +kernel) ?_
  refine aw_e rfl rfl rfl ?_
  refine aw_e rfl rfl rfl ?_
  refine aw_e rfl rfl rfl ?_
  refine aw_i2f rfl (by decide +kernel) ?_
  refine aw_e rfl rfl rfl ?_
  refine aw_e rfl rfl rfl ?_
  refine aw_e rfl rfl rfl ?_
  refine aw_e rfl rfl rfl ?_
  refine aw_rv rfl ?_
  refine aw_e rfl rfl rfl ?_
  refine aw_e rfl rfl rfl ?_
  refine aw_e rfl rfl rfl ?_
  refine aw_e rfl rfl rfl ?_
  refine aw_i2t rfl (by decide +kernel) ?_
  refine aw_rv rfl ?_
  refine aw_e rfl rfl rfl ?_
  refine aw_e rfl rfl rfl ?_
  refine aw_e rfl rfl rfl ?_
  refine aw_e rfl rfl rfl ?_
  refine aw_ci rfl rfl (by decide) rfl rfl ?_
  refine aw_e rfl rfl rfl ?_
  refine aw_e rfl rfl rfl ?_
  refine aw_e rfl rfl rfl ?_
  refine aw_i1f rfl (by decide +kernel) ?_
  refine aw_e rfl rfl rfl ?_
  refine aw_e rfl rfl rfl ?_
  refine aw_e rfl rfl rfl ?_
  refine aw_i2f rfl (by decide +kernel) ?_
  refine aw_e rfl rfl rfl ?_
  refine aw_e rfl rfl rfl ?_
  refine aw_e rfl rfl rfl ?_
  refine aw_e rfl rfl rfl ?_
  refine aw_rv rfl ?_
  refine aw_e rfl rfl rfl ?_
  refine aw_e rfl rfl rfl ?_
  refine aw_e rfl rfl rfl ?_
  refine aw_e rfl rfl rfl ?_
  refine aw_ci rfl rfl (by decide) rfl rfl ?_
  refine aw_e rfl rfl rfl ?_
  refine aw_e rfl rfl rfl ?_
  refine aw_e rfl rfl rfl ?_
  refine aw_i1f rfl (by decide +kernel) ?_
  refine aw_e rfl rfl rfl ?_
  refine aw_e rfl rfl rfl ?_
  refine aw_e rfl rfl rfl ?_
  refine aw_i2f rfl (by decide +kernel) ?_
  refine aw_e rfl rfl rfl ?_
  refine aw_e rfl rfl rfl ?_
  refine aw_e rfl rfl rfl ?_
  refine aw_e rfl rfl rfl ?_
  refine aw_rv rfl ?_
  refine aw_e rfl rfl rfl ?_
  refine aw_e rfl rfl rfl ?_
  refine aw_e rfl rfl rfl ?_
  refine aw_e rfl rfl rfl ?_
  refine aw_e rfl rfl rfl ?_
  refine aw_e rfl rfl rfl ?_
  refine aw_e rfl rfl rfl ?_
  refine aw_e rfl rfl rfl ?_
  refine aw_ci rfl rfl (by decide) rfl rfl ?_
  refine aw_e rfl rfl rfl ?_
  refine aw_e rfl rfl rfl ?_
  refine aw_ci rfl rfl (by decide) rfl rfl ?_
  refine aw_e rfl rfl rfl ?_
  refine aw_e rfl rfl rfl ?_
  refine aw_e rfl rfl rfl ?_
  refine aw_e rfl rfl rfl ?_
  refine aw_e rfl rfl rfl ?_
  refine aw_e rfl rfl rfl ?_
  refine aw_e rfl rfl rfl ?_
  refine aw_e rfl rfl rfl ?_
  refine aw_e rfl rfl rfl ?_
  refine aw_e rfl rfl rfl ?_
  refine aw_e rfl rfl rfl ?_
  refine aw_e rfl rfl rfl ?_
  refine aw_e rfl rfl rfl ?_
  refine aw_e rfl rfl rfl ?_
  refine aw_e rfl rfl rfl ?_
  refine aw_e rfl rfl rfl ?_
  refine aw_e rfl rfl rfl ?_
  refine aw_e rfl rfl rfl ?_
  refine aw_e rfl rfl rfl ?_
  refine aw_e rfl rfl rfl ?_
  refine aw_e rfl rfl rfl ?_
  refine aw_e rfl rfl rfl ?_
  refine aw_e rfl rfl rfl ?_
  refine aw_e rfl rfl rfl ?_
  refine aw_e rfl rfl rfl ?_
  refine aw_e rfl rfl rfl ?_
  refine aw_e rfl rfl rfl ?_
  refine aw_e rfl rfl rfl ?_
  refine aw_e rfl rfl rfl ?_
  refine aw_e rfl rfl rfl ?_
  refine aw_e rfl rfl rfl ?_
  refine aw_e rfl rfl rfl ?_
  refine aw_e rfl rfl rfl ?_
  refine aw_e rfl rfl rfl ?_
  refine aw_i2f rfl (by decide +kernel) ?_
  refine aw_e rfl rfl rfl ?_
  refine aw_e rfl rfl rfl ?_
  refine aw_e rfl rfl rfl ?_
  refine aw_e rfl rfl rfl ?_
  refine aw_ci rfl rfl (by decide) rfl rfl ?_
  refine aw_e rfl rfl rfl ?_
  refine aw_e rfl rfl rfl ?_
  refine aw_e rfl rfl rfl ?_
  refine aw_i1f rfl (by decide +kernel) ?_
  refine aw_e rfl rfl rfl ?_
  refine aw_e rfl rfl rfl ?_
  refine aw_e rfl rfl rfl ?_
  refine aw_i2f rfl (by decide +kernel) ?_
  refine aw_e rfl rfl rfl ?_
  refine aw_e rfl rfl rfl ?_
  refine aw_e rfl rfl rfl ?_
  refine aw_e rfl rfl rfl ?_
  refine aw_rv rfl ?_
  refine aw_e rfl rfl rfl ?_
  refine aw_e rfl rfl rfl ?_
  refine aw_e rfl rfl rfl ?_
  refine aw_e rfl rfl rfl ?_
  refine aw_i2f rfl (by decide +kernel) ?_
  refine aw_e rfl rfl rfl ?_
  refine aw_e rfl rfl rfl ?_
  refine aw_e rfl rfl rfl ?_
  refine aw_e rfl rfl rfl ?_
  refine aw_ci rfl rfl (by decide) rfl rfl ?_
  refine aw_e rfl rfl rfl ?_
  refine aw_e rfl rfl rfl ?_
  refine aw_e rfl rfl rfl ?_
  refine aw_i1f rfl (by decide +kernel) ?_
  refine aw_e rfl rfl rfl ?_
  refine aw_e rfl rfl rfl ?_
  refine aw_e rfl rfl rfl ?_
  refine aw_i2f rfl (by decide +kernel) ?_
  refine aw_e rfl rfl rfl ?_
  refine aw_e rfl rfl rfl ?_
  refine aw_e rfl rfl rfl ?_
  refine aw_e rfl rfl rfl ?_
  refine aw_rv rfl ?_
  refine aw_e rfl rfl rfl ?_
  refine aw_e rfl rfl rfl ?_
  refine aw_e rfl rfl rfl ?_
  refine aw_e rfl rfl rfl ?_
  refine aw_i2f rfl (by decide +kernel) ?_
  refine aw_e rfl rfl rfl ?_
  refine aw_e rfl rfl rfl ?_
  refine aw_e rfl rfl rfl ?_
  refine aw_e rfl rfl rfl ?_
  refine aw_ci rfl rfl (by decide) rfl rfl ?_
  refine aw_e rfl rfl rfl ?_
  refine aw_e rfl rfl rfl ?_
  refine aw_e rfl rfl rfl ?_
  refine aw_i1f rfl (by decide +kernel) ?_
  refine aw_e rfl rfl rfl ?_
  refine aw_e rfl rfl rfl ?_
  refine aw_e rfl rfl rfl ?_
  refine aw_i2f rfl (by decide +kernel) ?_
  refine aw_e rfl rfl rfl ?_
  refine aw_e rfl rfl rfl ?_
  refine aw_e rfl rfl rfl ?_
  refine aw_e rfl rfl rfl ?_
  refine aw_rv rfl ?_
  refine aw_e rfl rfl rfl ?_
  refine aw_e rfl rfl rfl ?_
  refine aw_e rfl rfl rfl ?_
  refine aw_e rfl rfl rfl ?_
  refine aw_i2t rfl (by decide +kernel) ?_
  refine aw_rv rfl ?_
  refine aw_e rfl rfl rfl ?_
  refine aw_e rfl rfl rfl ?_
  refine aw_e rfl rfl rfl ?_
  refine aw_e rfl rfl rfl ?_
  refine aw_e rfl rfl rfl ?_
  refine aw_i2t rfl (by decide +kernel) ?_
  refine aw_rv rfl ?_
  refine aw_e rfl rfl rfl ?_
  refine aw_e rfl rfl rfl ?_
  refine aw_e rfl rfl rfl ?_
  refine aw_ri rfl (by first | exact Or.inl rfl | exact Or.inr (by decide +kernel)) ?_
  refine aw_e rfl rfl rfl ?_
  refine aw_i2f rfl (q2r_gt_f (z := 0) (by decide +kernel) (by omega)) ?_
  refine aw_e rfl rfl rfl ?_
  refine aw_ri rfl (by first | exact Or.inl rfl | exact Or.inr (by decide +kernel)) ?_
  refine aw_ri rfl (by first | exact Or.inl rfl | exact Or.inr (by decide +kernel)) ?_
  exact congrArg (fun z => some (Value.int z)) (by first | decide +kernel | (simp only [a_up_ap]; decide +kernel) | (simp +decide only [a_up_ap]; decide +kernel) | rfl | (simp [a_up_ap]; done))
theorem pM_rack_1 (a : Int32) (ha0 : 0 ≤ a.toInt) (ha1 : a.toInt ≤ 999) : am wM 8 217 [.ref a_mo, .int a] a_M0 (fun u _ => u = some (.int 0)) := by
  refine ⟨_, rfl, ?_⟩
  refine aw_e rfl rfl rfl ?_
  refine aw_e rfl rfl rfl ?_
  refine aw_e rfl rfl rfl ?_
  refine aw_ci rfl rfl (by decide) rfl rfl ?_
  refine aw_e rfl rfl rfl ?_
  refine aw_e rfl rfl rfl ?_
  refine aw_i2t rfl (q2_ge_t (z := 0) (by decide +kernel) (by omega)) ?_
  refine aw_e rfl rfl rfl ?_
  refine aw_e rfl rfl rfl ?_
  refine aw_i2t rfl (q2_le_t (z := 999) (by decide +kernel) (by omega)) ?_
  refine aw_e rfl rfl rfl ?_
  refine aw_ri rfl (by first | exact Or.inl rfl | exact Or.inr (by decide +kernel)) ?_
  refine aw_e rfl rfl rfl ?_
  refine aw_e rfl rfl rfl ?_
  refine aw_i1t rfl (by decide +kernel) ?_
  refine aw_e rfl rfl rfl ?_
  refine aw_e rfl rfl rfl ?_
  refine aw_e rfl rfl rfl ?_
  refine aw_e rfl rfl rfl ?_
  refine aw_e rfl rfl rfl ?_
  refine aw_e rfl rfl rfl ?_
  refine aw_e rfl rfl rfl ?_
  refine aw_e rfl rfl rfl ?_
  refine aw_e rfl rfl rfl ?_
  refine aw_e rfl rfl rfl ?_
  refine aw_e rfl rfl rfl ?_
  refine aw_i2f rfl (by decide +kernel) ?_
  refine aw_e rfl rfl rfl ?_
  refine aw_i1f rfl (by decide +kernel) ?_
  refine aw_e rfl rfl rfl ?_
  refine aw_e rfl rfl rfl ?_
  refine aw_e rfl rfl rfl ?_
  refine aw_e rfl rfl rfl ?_
  refine aw_e rfl rfl rfl ?_
  refine aw_e rfl rfl rfl ?_
  refine aw_ck (P := fun u _ => u = some (.int 0)) rfl rfl (by decide) rfl rfl (aw_k 100000 (by decide +kernel)) (fun u M1 hu => ?_)
  subst hu
  refine aw_e rfl rfl rfl ?_
  refine aw_i2f rfl (q2r_gt_f (z := 0) (by decide +kernel) (by omega)) ?_
  refine aw_e rfl rfl rfl ?_
  refine aw_e rfl rfl rfl ?_
  refine aw_e rfl rfl rfl ?_
  refine aw_e rfl rfl rfl ?_
  refine aw_e rfl rfl rfl ?_
  refine aw_e rfl rfl rfl ?_
  refine aw_e rfl rfl rfl ?_
  refine aw_i2f rfl (by decide +kernel) ?_
  refine aw_e rfl rfl rfl ?_
  refine aw_i1t rfl (by decide +kernel) ?_
  refine aw_e rfl rfl rfl ?_
  refine aw_e rfl rfl rfl ?_
  refine aw_e rfl rfl rfl ?_
  refine aw_e rfl rfl rfl ?_
  refine aw_e rfl rfl rfl ?_
  refine aw_e rfl rfl rfl ?_
  refine aw_ri rfl (by first | exact Or.inl rfl | exact Or.inr (by decide +kernel)) ?_
  exact congrArg (fun z => some (Value.int z)) (by first | decide +kernel | (simp only [a_up_ap]; decide +kernel) | (simp +decide only [a_up_ap]; decide +kernel) | rfl | (simp [a_up_ap]; done))
theorem pC_rack_2 (a : Int32) (ha0 : 1000 ≤ a.toInt) : am wC 8 18 [.ref 0, .int a] a_M0 (fun u _ => u = some (.int (-6))) := by
  refine ⟨_, rfl, ?_⟩
  refine aw_e rfl rfl rfl ?_
  refine aw_i1t rfl (q1_ge_t (by omega)) ?_
  refine aw_e rfl rfl rfl ?_
  refine aw_e rfl rfl rfl ?_
  refine aw_i2f rfl (q2_le_f (z := 999) (by decide +kernel) (by omega)) ?_
  refine aw_e rfl rfl rfl ?_
  refine aw_e rfl rfl rfl ?_
  refine aw_ck (P := fun u _ => u = some (.int (-6))) rfl rfl (by decide) rfl rfl (aw_k 100000 (by decide +kernel)) (fun u M1 hu => ?_)
  subst hu
  refine aw_ri rfl (by first | exact Or.inl rfl | exact Or.inr (by decide +kernel)) ?_
  exact congrArg (fun z => some (Value.int z)) (by first | decide +kernel | (simp only [a_up_ap]; decide +kernel) | (simp +decide only [a_up_ap]; decide +kernel) | rfl | (simp [a_up_ap]; done))
theorem pM_rack_2 (a : Int32) (ha0 : 1000 ≤ a.toInt) : am wM 8 217 [.ref a_mo, .int a] a_M0 (fun u _ => u = some (.int (-6))) := by
  refine ⟨_, rfl, ?_⟩
  refine aw_e rfl rfl rfl ?_
  refine aw_e rfl rfl rfl ?_
  refine aw_e rfl rfl rfl ?_
  refine aw_ci rfl rfl (by decide) rfl rfl ?_
  refine aw_e rfl rfl rfl ?_
  refine aw_e rfl rfl rfl ?_
  refine aw_i2t rfl (q2_ge_t (z := 0) (by decide +kernel) (by omega)) ?_
  refine aw_e rfl rfl rfl ?_
  refine aw_e rfl rfl rfl ?_
  refine aw_i2f rfl (q2_le_f (z := 999) (by decide +kernel) (by omega)) ?_
  refine aw_e rfl rfl rfl ?_
  refine aw_e rfl rfl rfl ?_
  refine aw_ri rfl (by first | exact Or.inl rfl | exact Or.inr (by decide +kernel)) ?_
  refine aw_e rfl rfl rfl ?_
  refine aw_e rfl rfl rfl ?_
  refine aw_i1f rfl (by decide +kernel) ?_
  refine aw_e rfl rfl rfl ?_
  refine aw_e rfl rfl rfl ?_
  refine aw_ck (P := fun u _ => u = some (.int (-6))) rfl rfl (by decide) rfl rfl (aw_k 100000 (by decide +kernel)) (fun u M1 hu => ?_)
  subst hu
  refine aw_ri rfl (by first | exact Or.inl rfl | exact Or.inr (by decide +kernel)) ?_
  exact congrArg (fun z => some (Value.int z)) (by first | decide +kernel | (simp only [a_up_ap]; decide +kernel) | (simp +decide only [a_up_ap]; decide +kernel) | rfl | (simp [a_up_ap]; done))
theorem op_rack (a : Int32) : op_ok 18 217 [.int a] := by
  have ba0 := Int32.le_toInt a
  have ba1 := Int32.toInt_lt a
  rcases (show a.toInt ≤ (-1) ∨ (0 ≤ a.toInt ∧ a.toInt ≤ 999) ∨ 1000 ≤ a.toInt by omega) with ha | ha | ha
  · exact ⟨_, pC_rack_0 a (by omega), pM_rack_0 a (by omega)⟩
  · exact ⟨_, pC_rack_1 a (by omega) (by omega), pM_rack_1 a (by omega) (by omega)⟩
  · exact ⟨_, pC_rack_2 a (by omega), pM_rack_2 a (by omega)⟩
theorem pC_tomorrow_0 (a : Int32) (ha1 : a.toInt ≤ (-1)) (b : Int32) : am wC 8 23 [.ref 0, .int a, .int b] a_M0 (fun u _ => u = some (.int (-4))) := by
  refine ⟨_, rfl, ?_⟩
  refine aw_e rfl rfl rfl ?_
  refine aw_i1f rfl (q1_ge_f (by omega)) ?_
  refine aw_e rfl rfl rfl ?_
  refine aw_e rfl rfl rfl ?_
  refine aw_ck (P := fun u _ => u = some (.int (-4))) rfl rfl (by decide) rfl rfl (aw_k 100000 (by decide +kernel)) (fun u M1 hu => ?_)
  subst hu
  refine aw_ri rfl (by first | exact Or.inl rfl | exact Or.inr (by decide +kernel)) ?_
  exact congrArg (fun z => some (Value.int z)) (by first | decide +kernel | (simp only [a_up_ap]; decide +kernel) | (simp +decide only [a_up_ap]; decide +kernel) | rfl | (simp [a_up_ap]; done))
theorem pM_tomorrow_0 (a : Int32) (ha1 : a.toInt ≤ (-1)) (b : Int32) : am wM 8 229 [.ref a_mo, .int a, .int b] a_M0 (fun u _ => u = some (.int (-4))) := by
  refine ⟨_, rfl, ?_⟩
  refine aw_e rfl rfl rfl ?_
  refine aw_e rfl rfl rfl ?_
  refine aw_e rfl rfl rfl ?_
  refine aw_ci rfl rfl (by decide) rfl rfl ?_
  refine aw_e rfl rfl rfl ?_
  refine aw_e rfl rfl rfl ?_
  refine aw_i2f rfl (q2_ge_f (z := 0) (by decide +kernel) (by omega)) ?_
  refine aw_e rfl rfl rfl ?_
  refine aw_e rfl rfl rfl ?_
  refine aw_ri rfl (by first | exact Or.inl rfl | exact Or.inr (by decide +kernel)) ?_
  refine aw_e rfl rfl rfl ?_
  refine aw_e rfl rfl rfl ?_
  refine aw_i1t rfl (by decide +kernel) ?_
  refine aw_e rfl rfl rfl ?_
  refine aw_i1f rfl (by decide +kernel) ?_
  refine aw_e rfl rfl rfl ?_
  refine aw_e rfl rfl rfl ?_
  refine aw_ck (P := fun u _ => u = some (.int (-4))) rfl rfl (by decide) rfl rfl (aw_k 100000 (by decide +kernel)) (fun u M1 hu => ?_)
  subst hu
  refine aw_ri rfl (by first | exact Or.inl rfl | exact Or.inr (by decide +kernel)) ?_
  exact congrArg (fun z => some (Value.int z)) (by first | decide +kernel | (simp only [a_up_ap]; decide +kernel) | (simp +decide only [a_up_ap]; decide +kernel) | rfl | (simp [a_up_ap]; done))
theorem pC_tomorrow_1 (a : Int32) (ha0 : 0 ≤ a.toInt) (ha1 : a.toInt ≤ 999) (b : Int32) (hb1 : b.toInt ≤ (-1)) : am wC 8 23 [.ref 0, .int a, .int b] a_M0 (fun u _ => u = some (.int (-2))) := by
  refine ⟨_, rfl, ?_⟩
  refine aw_e rfl rfl rfl ?_
  refine aw_i1t rfl (q1_ge_t (by omega)) ?_
  refine aw_e rfl rfl rfl ?_
  refine aw_e rfl rfl rfl ?_
  refine aw_i2t rfl (q2_le_t (z := 999) (by decide +kernel) (by omega)) ?_
  refine aw_e rfl rfl rfl ?_
  refine aw_e rfl rfl rfl ?_
  refine aw_ci rfl rfl (by decide) rfl rfl ?_
  refine aw_e rfl rfl rfl ?_
  refine aw_i1f rfl (q1_eq_f (by omega)) ?_
  refine aw_e rfl rfl rfl ?_
  refine aw_e rfl rfl rfl ?_
  refine aw_i2t rfl (q2_ne_t (z := 1) (by decide +kernel) (by omega)) ?_
  refine aw_e rfl rfl rfl ?_
  refine aw_ri rfl (by first | exact Or.inl rfl | exact Or.inr (by decide +kernel)) ?_
  refine aw_i1f rfl (by decide +kernel) ?_
  refine aw_e rfl rfl rfl ?_
  refine aw_e rfl rfl rfl ?_
  refine aw_ck (P := fun u _ => u = some (.int (-2))) rfl rfl (by decide) rfl rfl (aw_k 100000 (by decide +kernel)) (fun u M1 hu => ?_)
  subst hu
  refine aw_ri rfl (by first | exact Or.inl rfl | exact Or.inr (by decide +kernel)) ?_
  exact congrArg (fun z => some (Value.int z)) (by first | decide +kernel | (simp only [a_up_ap]; decide +kernel) | (simp +decide only [a_up_ap]; decide +kernel) | rfl | (simp [a_up_ap]; done))
theorem pM_tomorrow_1 (a : Int32) (ha0 : 0 ≤ a.toInt) (ha1 : a.toInt ≤ 999) (b : Int32) (hb1 : b.toInt ≤ (-1)) : am wM 8 229 [.ref a_mo, .int a, .int b] a_M0 (fun u _ => u = some (.int (-2))) := by
  refine ⟨_, rfl, ?_⟩
  refine aw_e rfl rfl rfl ?_
  refine aw_e rfl rfl rfl ?_
  refine aw_e rfl rfl rfl ?_
  refine aw_ci rfl rfl (by decide) rfl rfl ?_
  refine aw_e rfl rfl rfl ?_
  refine aw_e rfl rfl rfl ?_
  refine aw_i2t rfl (q2_ge_t (z := 0) (by decide +kernel) (by omega)) ?_
  refine aw_e rfl rfl rfl ?_
  refine aw_e rfl rfl rfl ?_
  refine aw_i2t rfl (q2_le_t (z := 999) (by decide +kernel) (by omega)) ?_
  refine aw_e rfl rfl rfl ?_
  refine aw_ri rfl (by first | exact Or.inl rfl | exact Or.inr (by decide +kernel)) ?_
  refine aw_e rfl rfl rfl ?_
  refine aw_e rfl rfl rfl ?_
  refine aw_i1f rfl (by decide +kernel) ?_
  refine aw_e rfl rfl rfl ?_
  refine aw_e rfl rfl rfl ?_
  refine aw_e rfl rfl rfl ?_
  refine aw_ci rfl rfl (by decide) rfl rfl ?_
  refine aw_e rfl rfl rfl ?_
  refine aw_e rfl rfl rfl ?_
  refine aw_i2t rfl (q2_lt_t (z := 0) (by decide +kernel) (by omega)) ?_
  refine aw_e rfl rfl rfl ?_
  refine aw_ri rfl (by first | exact Or.inl rfl | exact Or.inr (by decide +kernel)) ?_
  refine aw_i1f rfl (by decide +kernel) ?_
  refine aw_e rfl rfl rfl ?_
  refine aw_e rfl rfl rfl ?_
  refine aw_e rfl rfl rfl ?_
  refine aw_i1f rfl (by decide +kernel) ?_
  refine aw_e rfl rfl rfl ?_
  refine aw_e rfl rfl rfl ?_
  refine aw_ck (P := fun u _ => u = some (.int (-2))) rfl rfl (by decide) rfl rfl (aw_k 100000 (by decide +kernel)) (fun u M1 hu => ?_)
  subst hu
  refine aw_ri rfl (by first | exact Or.inl rfl | exact Or.inr (by decide +kernel)) ?_
  exact congrArg (fun z => some (Value.int z)) (by first | decide +kernel | (simp only [a_up_ap]; decide +kernel) | (simp +decide only [a_up_ap]; decide +kernel) | rfl | (simp [a_up_ap]; done))
theorem pC_tomorrow_2 (a : Int32) (ha0 : 0 ≤ a.toInt) (ha1 : a.toInt ≤ 999) : am wC 8 23 [.ref 0, .int a, .int 0] a_M0 (fun u _ => u = some (.int 0)) := by
  refine ⟨_, rfl, ?_⟩
  refine aw_e rfl rfl rfl ?_
  refine aw_i1t rfl (q1_ge_t (by omega)) ?_
  refine aw_e rfl rfl rfl ?_
  refine aw_e rfl rfl rfl ?_
  refine aw_i2t rfl (q2_le_t (z := 999) (by decide +kernel) (by omega)) ?_
  refine aw_e rfl rfl rfl ?_
  refine aw_e rfl rfl rfl ?_
  refine aw_ci rfl rfl (by decide) rfl rfl ?_
  refine aw_e rfl rfl rfl ?_
  refine aw_i1t rfl (by decide +kernel) ?_
  refine aw_e rfl rfl rfl ?_
  refine aw_e rfl rfl rfl ?_
  refine aw_ri rfl (by first | exact Or.inl rfl | exact Or.inr (by decide +kernel)) ?_
  refine aw_i1t rfl (by decide +kernel) ?_
  refine aw_e rfl rfl rfl ?_
  refine aw_e rfl rfl rfl ?_
  refine aw_e rfl rfl rfl ?_
  refine aw_ci rfl rfl (by decide) rfl rfl ?_
  refine aw_e rfl rfl rfl ?_
  refine aw_e rfl rfl rfl ?_
  refine aw_e rfl rfl rfl ?_
  refine aw_ci rfl rfl (by decide) rfl rfl ?_
  refine aw_e rfl rfl rfl ?_
  refine aw_e rfl rfl rfl ?_
  refine aw_e rfl rfl rfl ?_
  refine aw_e rfl rfl rfl ?_
  refine aw_e rfl rfl rfl ?_
  refine aw_e rfl rfl rfl ?_
  refine aw_rv rfl ?_
  refine aw_e rfl rfl rfl ?_
  refine aw_e rfl rfl rfl ?_
  refine aw_e rfl rfl rfl ?_
  refine aw_ci rfl rfl (by decide) rfl rfl ?_
  refine aw_e rfl rfl rfl ?_
  refine aw_e rfl rfl rfl ?_
  refine aw_e rfl rfl rfl ?_
  refine aw_e rfl rfl rfl ?_
  refine aw_e rfl rfl rfl ?_
  refine aw_e rfl rfl rfl ?_
  refine aw_e rfl rfl rfl ?_
  refine aw_i2t rfl (by decide +kernel) ?_
  refine aw_e rfl rfl rfl ?_
  refine aw_ri rfl (by first | exact Or.inl rfl | exact Or.inr (by decide +kernel)) ?_
  refine aw_e rfl rfl rfl ?_
  refine aw_e rfl rfl rfl ?_
  refine aw_e rfl rfl rfl ?_
  refine aw_e rfl rfl rfl ?_
  refine aw_e rfl rfl rfl ?_
  refine aw_i2f rfl (by decide +kernel) ?_
  refine aw_e rfl rfl rfl ?_
  refine aw_e rfl rfl rfl ?_
  refine aw_e rfl rfl rfl ?_
  refine aw_e rfl rfl rfl ?_
  refine aw_e rfl rfl rfl ?_
  refine aw_i1f rfl (by decide +kernel) ?_
  refine aw_e rfl rfl rfl ?_
  refine aw_e rfl rfl rfl ?_
  refine aw_e rfl rfl rfl ?_
  refine aw_e rfl rfl rfl ?_
  refine aw_e rfl rfl rfl ?_
  refine aw_e rfl rfl rfl ?_
  refine aw_ci rfl rfl (by decide) rfl rfl ?_
  refine aw_e rfl rfl rfl ?_
  refine aw_ci rfl rfl (by decide) rfl rfl ?_
  refine aw_e rfl rfl rfl ?_
  refine aw_e rfl rfl rfl ?_
  refine aw_e rfl rfl rfl ?_
  refine aw_e rfl rfl rfl ?_
  refine aw_e rfl rfl rfl ?_
  refine aw_e rfl rfl rfl ?_
  refine aw_rv rfl ?_
  refine aw_e rfl rfl rfl ?_
  refine aw_e rfl rfl rfl ?_
  refine aw_e rfl rfl rfl ?_
  refine aw_e rfl rfl rfl ?_
  refine aw_e rfl rfl rfl ?_
  refine aw_i2t rfl (by decide +kernel) ?_
  refine aw_rv rfl ?_
  refine aw_e rfl rfl rfl ?_
  refine aw_e rfl rfl rfl ?_
  refine aw_e rfl rfl rfl ?_
  refine aw_e rfl rfl rfl ?_
  refine aw_e rfl rfl rfl ?_
  refine aw_e rfl rfl rfl ?_
  refine aw_e rfl rfl rfl ?_
  refine aw_ci rfl rfl (by decide) rfl rfl ?_
  refine aw_e rfl rfl rfl ?_
  refine aw_e rfl rfl rfl ?_
  refine aw_e rfl rfl rfl ?_
  refine aw_ci rfl rfl (by decide) rfl rfl ?_
  refine aw_e rfl rfl rfl ?_
  refine aw_e rfl rfl rfl ?_
  refine aw_e rfl rfl rfl ?_
  refine aw_e rfl rfl rfl ?_
  refine aw_e rfl rfl rfl ?_
  refine aw_e rfl rfl rfl ?_
  refine aw_e rfl rfl rfl ?_
  refine aw_i2t rfl (by decide +kernel) ?_
  refine aw_e rfl rfl rfl ?_
  refine aw_ri rfl (by first | exact Or.inl rfl | exact Or.inr (by decide +kernel)) ?_
  refine aw_i1t rfl (by decide +kernel) ?_
  refine aw_e rfl rfl rfl ?_
  refine aw_e rfl rfl rfl ?_
  refine aw_e rfl rfl rfl ?_
  refine aw_e rfl rfl rfl ?_
  refine aw_ci rfl rfl (by decide) rfl rfl ?_
  refine aw_e rfl rfl rfl ?_
  refine aw_e rfl rfl rfl ?_
  refine aw_ci rfl rfl (by decide) rfl rfl ?_
  refine aw_e rfl rfl rfl ?_
  refine aw_e rfl rfl rfl ?_
  refine aw_e rfl rfl rfl ?_
  refine aw_e rfl rfl rfl ?_
  refine aw_e rfl rfl rfl ?_
  refine aw_e rfl rfl rfl ?_
  refine aw_e rfl rfl rfl ?_
  refine aw_e rfl rfl rfl ?_
  refine aw_e rfl rfl rfl ?_
  refine aw_e rfl rfl rfl ?_
  refine aw_e rfl rfl rfl ?_
  refine aw_e rfl rfl rfl ?_
  refine aw_e rfl rfl rfl ?_
  refine aw_e rfl rfl rfl ?_
  refine aw_e rfl rfl rfl ?_
  refine aw_e rfl rfl rfl ?_
  refine aw_e rfl rfl rfl ?_
  refine aw_e rfl rfl rfl ?_
  refine aw_e rfl rfl rfl ?_
  refine aw_e rfl rfl rfl ?_
  refine aw_e rfl rfl rfl ?_
  refine aw_e rfl rfl rfl ?_
  refine aw_e rfl rfl rfl ?_
  refine aw_e rfl rfl rfl ?_
  refine aw_e rfl rfl rfl ?_
  refine aw_e rfl rfl rfl ?_
  refine aw_e rfl rfl rfl ?_
  refine aw_e rfl rfl rfl ?_
  refine aw_e rfl rfl rfl ?_
  refine aw_e rfl rfl rfl ?_
  refine aw_e rfl rfl rfl ?_
  refine aw_e rfl rfl rfl ?_
  refine aw_e rfl rfl rfl ?_
  refine aw_e rfl rfl rfl ?_
  refine aw_i2f rfl (by decide +kernel) ?_
  refine aw_e rfl rfl rfl ?_
  refine aw_e rfl rfl rfl ?_
  refine aw_e rfl rfl rfl ?_
  refine aw_e rfl rfl rfl ?_
  refine aw_ci rfl rfl (by decide) rfl rfl ?_
  refine aw_e rfl rfl rfl ?_
  refine aw_e rfl rfl rfl ?_
  refine aw_e rfl rfl rfl ?_
  refine aw_i1f rfl (by decide +kernel) ?_
  refine aw_e rfl rfl rfl ?_
  refine aw_e rfl rfl rfl ?_
  refine aw_e rfl rfl rfl ?_
  refine aw_i2f rfl (by decide +kernel) ?_
  refine aw_e rfl rfl rfl ?_
  refine aw_e rfl rfl rfl ?_
  refine aw_e rfl rfl rfl ?_
  refine aw_e rfl rfl rfl ?_
  refine aw_rv rfl ?_
  refine aw_e rfl rfl rfl ?_
  refine aw_e rfl rfl rfl ?_
  refine aw_e rfl rfl rfl ?_
  refine aw_e rfl rfl rfl ?_
  refine aw_i2f rfl (by decide +kernel) ?_
  refine aw_e rfl rfl rfl ?_
  refine aw_e rfl rfl rfl ?_
  refine aw_e rfl rfl rfl ?_
  refine aw_e rfl rfl rfl ?_
  refine aw_ci rfl rfl (by decide) rfl rfl ?_
  refine aw_e rfl rfl rfl ?_
  refine aw_e rfl rfl rfl ?_
  refine aw_e rfl rfl rfl ?_
  refine aw_i1f rfl (by decide +kernel) ?_
  refine aw_e rfl rfl rfl ?_
  refine aw_e rfl rfl rfl ?_
  refine aw_e rfl rfl rfl ?_
  refine aw_i2f rfl (by decide +kernel) ?_
  refine aw_e rfl rfl rfl ?_
  refine aw_e rfl rfl rfl ?_
  refine aw_e rfl rfl rfl ?_
  refine aw_e rfl rfl rfl ?_
  refine aw_rv rfl ?_
  refine aw_e rfl rfl rfl ?_
  refine aw_e rfl rfl rfl ?_
  refine aw_e rfl rfl rfl ?_
  refine aw_e rfl rfl rfl ?_
  refine aw_i2f rfl (by decide +kernel) ?_
  refine aw_e rfl rfl rfl ?_
  refine aw_e rfl rfl rfl ?_
  refine aw_e rfl rfl rfl ?_
  refine aw_e rfl rfl rfl ?_
  refine aw_ci rfl rfl (by decide) rfl rfl ?_
  refine aw_e rfl rfl rfl ?_
  refine aw_e rfl rfl rfl ?_
  refine aw_e rfl rfl rfl ?_
  refine aw_i1f rfl (by decide +kernel) ?_
  refine aw_e rfl rfl rfl ?_
  refine aw_e rfl rfl rfl ?_
  refine aw_e rfl rfl rfl ?_
  refine aw_i2f rfl (by decide +kernel) ?_
  refine aw_e rfl rfl rfl ?_
  refine aw_e rfl rfl rfl ?_
  refine aw_e rfl rfl rfl ?_
  refine aw_e rfl rfl rfl ?_
  refine aw_rv rfl ?_
  refine aw_e rfl rfl rfl ?_
  refine aw_e rfl rfl rfl ?_
  refine aw_e rfl rfl rfl ?_
  refine aw_e rfl rfl rfl ?_
  refine aw_i2t rfl (by decide +kernel) ?_
  refine aw_rv rfl ?_
  refine aw_e rfl rfl rfl ?_
  refine aw_e rfl rfl rfl ?_
  refine aw_e rfl rfl rfl ?_
  refine aw_e rfl rfl rfl ?_
  refine aw_e rfl rfl rfl ?_
  refine aw_i2t rfl (by decide +kernel) ?_
  refine aw_rv rfl ?_
  refine aw_e rfl rfl rfl ?_
  refine aw_e rfl rfl rfl ?_
  refine aw_ri rfl (by first | exact Or.inl rfl | exact Or.inr (by decide +kernel)) ?_
  refine aw_e rfl rfl rfl ?_
  refine aw_i2f rfl (q2r_gt_f (z := 0) (by decide +kernel) (by omega)) ?_
  refine aw_e rfl rfl rfl ?_
  refine aw_e rfl rfl rfl ?_
  refine aw_e rfl rfl rfl ?_
  refine aw_e rfl rfl rfl ?_
  refine aw_ci rfl rfl (by decide) rfl rfl ?_
  refine aw_e rfl rfl rfl ?_
  refine aw_e rfl rfl rfl ?_
  refine aw_e rfl rfl rfl ?_
  refine aw_e rfl rfl rfl ?_
  refine aw_e rfl rfl rfl ?_
  refine aw_e rfl rfl rfl ?_
  refine aw_e rfl rfl rfl ?_
  refine aw_e rfl rfl rfl ?_
  refine aw_e rfl rfl rfl ?_
  refine aw_e rfl rfl rfl ?_
  refine aw_e rfl rfl rfl ?_
  refine aw_e rfl rfl rfl ?_
  refine aw_e rfl rfl rfl ?_
  refine aw_e rfl rfl rfl ?_
  refine aw_e rfl rfl rfl ?_
  refine aw_e rfl rfl rfl ?_
  refine aw_e rfl rfl rfl ?_
  refine aw_e rfl rfl rfl ?_
  refine aw_e rfl rfl rfl ?_
  refine aw_e rfl rfl rfl ?_
  refine aw_e rfl rfl rfl ?_
  refine aw_e rfl rfl rfl ?_
  refine aw_e rfl rfl rfl ?_
  refine aw_e rfl rfl rfl ?_
  refine aw_e rfl rfl rfl ?_
  refine aw_e rfl rfl rfl ?_
  refine aw_e rfl rfl rfl ?_
  refine aw_e rfl rfl rfl ?_
  refine aw_e rfl rfl rfl ?_
  refine aw_e rfl rfl rfl ?_
  refine aw_e rfl rfl rfl ?_
  refine aw_e rfl rfl rfl ?_
  refine aw_e rfl rfl rfl ?_
  refine aw_e rfl rfl rfl ?_
  refine aw_e rfl rfl rfl ?_
  refine aw_e rfl rfl rfl ?_
  refine aw_e rfl rfl rfl ?_
  refine aw_e rfl rfl rfl ?_
  refine aw_e rfl rfl rfl ?_
  refine aw_e rfl rfl rfl ?_
  refine aw_e rfl rfl rfl ?_
  refine aw_ri rfl (by first | exact Or.inl rfl | exact Or.inr (by decide +kernel)) ?_
  refine aw_ci rfl rfl (by decide) rfl rfl ?_
  refine aw_e rfl rfl rfl ?_
  refine aw_e rfl rfl rfl ?_
  refine aw_e rfl rfl rfl ?_
  refine aw_i2f rfl (by decide +kernel) ?_
  refine aw_e rfl rfl rfl ?_
  refine aw_e rfl rfl rfl ?_
  refine aw_e rfl rfl rfl ?_
  refine aw_e rfl rfl rfl ?_
  refine aw_e rfl rfl rfl ?_
  refine aw_e rfl rfl rfl ?_
  refine aw_rv rfl ?_
  refine aw_e rfl rfl rfl ?_
  refine aw_e rfl rfl rfl ?_
  refine aw_e rfl rfl rfl ?_
  refine aw_e rfl rfl rfl ?_
  refine aw_i2t rfl (by decide +kernel) ?_
  refine aw_rv rfl ?_
  refine aw_e rfl rfl rfl ?_
  refine aw_i1f rfl (by decide +kernel) ?_
  refine aw_e rfl rfl rfl ?_
  refine aw_e rfl rfl rfl ?_
  refine aw_e rfl rfl rfl ?_
  refine aw_e rfl rfl rfl ?_
  refine aw_e rfl rfl rfl ?_
  refine aw_ri rfl (by first | exact Or.inl rfl | exact Or.inr (by decide +kernel)) ?_
  exact congrArg (fun z => some (Value.int z)) (by first | decide +kernel | (simp only [a_up_ap]; decide +kernel) | (simp +decide only [a_up_ap]; decide +kernel) | rfl | (simp [a_up_ap]; done))
set_option maxRecDepth 1000000 in
theorem pM_tomorrow_2 (a : Int32) (ha0 : 0 ≤ a.toInt) (ha1 : a.toInt ≤ 999) : am wM 8 229 [.ref a_mo, .int a, .int 0] a_M0 (fun u _ => u = some (.int 0)) := by
  refine ⟨_, rfl, ?_⟩
  refine aw_e rfl rfl rfl ?_
  refine aw_e rfl rfl rfl ?_
  refine aw_e rfl rfl rfl ?_
  refine aw_ci rfl rfl (by decide) rfl rfl ?_
  refine aw_e rfl rfl rfl ?_
  refine aw_e rfl rfl rfl ?_
  refine aw_i2t rfl (q2_ge_t (z := 0) (by decide +kernel) (by omega)) ?_
  refine aw_e rfl rfl rfl ?_
  refine aw_e rfl rfl rfl ?_
  refine aw_i2t rfl (q2_le_t (z := 999) (by decide +kernel) (by omega)) ?_
  refine aw_e rfl rfl rfl ?_
  refine aw_ri rfl (by first | exact Or.inl rfl | exact Or.inr (by decide +kernel)) ?_
  refine aw_e rfl rfl rfl ?_
  refine aw_e rfl rfl rfl ?_
  refine aw_i1f rfl (by decide +kernel) ?_
  refine aw_e rfl rfl rfl ?_
  refine aw_e rfl rfl rfl ?_
  refine aw_e rfl rfl rfl ?_
  refine aw_ci rfl rfl (by decide) rfl rfl ?_
  refine aw_e rfl rfl rfl ?_
  refine aw_e rfl rfl rfl ?_
  refine aw_i2f rfl (by decide +kernel) ?_
  refine aw_e rfl rfl rfl ?_
  refine aw_e rfl rfl rfl ?_
  refine aw_i2f rfl (by decide +kernel) ?_
  refine aw_e rfl rfl rfl ?_
  refine aw_e rfl rfl rfl ?_
  refine aw_ri rfl (by first | exact Or.inl rfl | exact Or.inr (by decide +kernel)) ?_
  refine aw_i1t rfl (by decide +kernel) ?_
  refine aw_e rfl rfl rfl ?_
  refine aw_i1t rfl (by decide +kernel) ?_
  refine aw_e rfl rfl rfl ?_
  refine aw_e rfl rfl rfl ?_
  refine aw_e rfl rfl rfl ?_
  refine aw_ci rfl rfl (by decide) rfl rfl ?_
  refine aw_e rfl rfl rfl ?_
  refine aw_e rfl rfl rfl ?_
  refine aw_e rfl rfl rfl ?_
  refine aw_e rfl rfl rfl ?_
  refine aw_e rfl rfl rfl ?_
  refine aw_e rfl rfl rfl ?_
  refine aw_e rfl rfl rfl ?_
  refine aw_e rfl rfl rfl ?_
  refine aw_e rfl rfl rfl ?_
  refine aw_e rfl rfl rfl ?_
  refine aw_e rfl rfl rfl ?_
  refine aw_ci rfl rfl (by decide) rfl rfl ?_
  refine aw_e rfl rfl rfl ?_
  refine aw_e rfl rfl rfl ?_
  refine aw_e rfl rfl rfl ?_
  refine aw_e rfl rfl rfl ?_
  refine aw_e rfl rfl rfl ?_
  refine aw_i2f rfl (by decide +kernel) ?_
  refine aw_e rfl rfl rfl ?_
  refine aw_e rfl rfl rfl ?_
  refine aw_i1f rfl (by decide +kernel) ?_
  refine aw_e rfl rfl rfl ?_
  refine aw_e rfl rfl rfl ?_
  refine aw_e rfl rfl rfl ?_
  refine aw_e rfl rfl rfl ?_
  refine aw_e rfl rfl rfl ?_
  refine aw_e rfl rfl rfl ?_
  refine aw_e rfl rfl rfl ?_
  refine aw_e rfl rfl rfl ?_
  refine aw_e rfl rfl rfl ?_
  refine aw_e rfl rfl rfl ?_
  refine aw_e rfl rfl rfl ?_
  refine aw_e rfl rfl rfl ?_
  refine aw_e rfl rfl rfl ?_
  refine aw_e rfl rfl rfl ?_
  refine aw_e rfl rfl rfl ?_
  refine aw_e rfl rfl rfl ?_
  refine aw_e rfl rfl rfl ?_
  refine aw_e rfl rfl rfl ?_
  refine aw_e rfl rfl rfl ?_
  refine aw_e rfl rfl rfl ?_
  refine aw_i2f rfl (by decide +kernel) ?_
  refine aw_e rfl rfl rfl ?_
  refine aw_e rfl rfl rfl ?_
  refine aw_i1f rfl (by decide +kernel) ?_
  refine aw_e rfl rfl rfl ?_
  refine aw_e rfl rfl rfl ?_
  refine aw_e rfl rfl rfl ?_
  refine aw_e rfl rfl rfl ?_
  refine aw_e rfl rfl rfl ?_
  refine aw_e rfl rfl rfl ?_
  refine aw_e rfl rfl rfl ?_
  refine aw_e rfl rfl rfl ?_
  refine aw_e rfl rfl rfl ?_
  refine aw_e rfl rfl rfl ?_
  refine aw_e rfl rfl rfl ?_
  refine aw_e rfl rfl rfl ?_
  refine aw_e rfl rfl rfl ?_
  refine aw_e rfl rfl rfl ?_
  refine aw_e rfl rfl rfl ?_
  refine aw_e rfl rfl rfl ?_
  refine aw_e rfl rfl rfl ?_
  refine aw_e rfl rfl rfl ?_
  refine aw_e rfl rfl rfl ?_
  refine aw_e rfl rfl rfl ?_
  refine aw_i2f rfl (by decide +kernel) ?_
  refine aw_e rfl rfl rfl ?_
  refine aw_e rfl rfl rfl ?_
  refine aw_i1f rfl (by decide +kernel) ?_
  refine aw_e rfl rfl rfl ?_
  refine aw_e rfl rfl rfl ?_
  refine aw_e rfl rfl rfl ?_
  refine aw_e rfl rfl rfl ?_
  refine aw_e rfl rfl rfl ?_
  refine aw_e rfl rfl rfl ?_
  refine aw_e rfl rfl rfl ?_
  refine aw_e rfl rfl rfl ?_
  refine aw_e rfl rfl rfl ?_
  refine aw_e rfl rfl rfl ?_
  refine aw_e rfl rfl rfl ?_
  refine aw_e rfl rfl rfl ?_
  refine aw_e rfl rfl rfl ?_
  refine aw_e rfl rfl rfl ?_
  refine aw_e rfl rfl rfl ?_
  refine aw_e rfl rfl rfl ?_
  refine aw_e rfl rfl rfl ?_
  refine aw_e rfl rfl rfl ?_
  refine aw_e rfl rfl rfl ?_
  refine aw_e rfl rfl rfl ?_
  refine aw_i2f rfl (by decide +kernel) ?_
  refine aw_e rfl rfl rfl ?_
  refine aw_e rfl rfl rfl ?_
  refine aw_i1f rfl (by decide +kernel) ?_
  refine aw_e rfl rfl rfl ?_
  refine aw_e rfl rfl rfl ?_
  refine aw_e rfl rfl rfl ?_
  refine aw_e rfl rfl rfl ?_
  refine aw_e rfl rfl rfl ?_
  refine aw_e rfl rfl rfl ?_
  refine aw_e rfl rfl rfl ?_
  refine aw_e rfl rfl rfl ?_
  refine aw_e rfl rfl rfl ?_
  refine aw_e rfl rfl rfl ?_
  refine aw_e rfl rfl rfl ?_
  refine aw_e rfl rfl rfl ?_
  refine aw_e rfl rfl rfl ?_
  refine aw_e rfl rfl rfl ?_
  refine aw_e rfl rfl rfl ?_
  refine aw_e rfl rfl rfl ?_
  refine aw_e rfl rfl rfl ?_
  refine aw_e rfl rfl rfl ?_
  refine aw_e rfl rfl rfl ?_
  refine aw_e rfl rfl rfl ?_
  refine aw_i2f rfl (by decide +kernel) ?_
  refine aw_e rfl rfl rfl ?_
  refine aw_e rfl rfl rfl ?_
  refine aw_i1f rfl (by decide +kernel) ?_
  refine aw_e rfl rfl rfl ?_
  refine aw_e rfl rfl rfl ?_
  refine aw_e rfl rfl rfl ?_
  refine aw_e rfl rfl rfl ?_
  refine aw_e rfl rfl rfl ?_
  refine aw_e rfl rfl rfl ?_
  refine aw_e rfl rfl rfl ?_
  refine aw_e rfl rfl rfl ?_
  refine aw_e rfl rfl rfl ?_
  refine aw_e rfl rfl rfl ?_
  refine aw_e rfl rfl rfl ?_
  refine aw_e rfl rfl rfl ?_
  refine aw_e rfl rfl rfl ?_
  refine aw_e rfl rfl rfl ?_
  refine aw_e rfl rfl rfl ?_
  refine aw_e rfl rfl rfl ?_
  refine aw_e rfl rfl rfl ?_
  refine aw_e rfl rfl rfl ?_
  refine aw_e rfl rfl rfl ?_
  refine aw_e rfl rfl rfl ?_
  refine aw_i2t rfl (by decide +kernel) ?_
  refine aw_rv rfl ?_
  refine aw_e rfl rfl rfl ?_
  refine aw_e rfl rfl rfl ?_
  refine aw_e rfl rfl rfl ?_
  refine aw_ci rfl rfl (by decide) rfl rfl ?_
  refine aw_e rfl rfl rfl ?_
  refine aw_e rfl rfl rfl ?_
  refine aw_e rfl rfl rfl ?_
  refine aw_e rfl rfl rfl ?_
  refine aw_e rfl rfl rfl ?_
  refine aw_i2f rfl (by decide +kernel) ?_
  refine aw_e rfl rfl rfl ?_
  refine aw_e rfl rfl rfl ?_
  refine aw_i1f rfl (by decide +kernel) ?_
  refine aw_e rfl rfl rfl ?_
  refine aw_e rfl rfl rfl ?_
  refine aw_e rfl rfl rfl ?_
  refine aw_e rfl rfl rfl ?_
  refine aw_e rfl rfl rfl ?_
  refine aw_e rfl rfl rfl ?_
  refine aw_e rfl rfl rfl ?_
  refine aw_e rfl rfl rfl ?_
  refine aw_e rfl rfl rfl ?_
  refine aw_e rfl rfl rfl ?_
  refine aw_e rfl rfl rfl ?_
  refine aw_e rfl rfl rfl ?_
  refine aw_e rfl rfl rfl ?_
  refine aw_e rfl rfl rfl ?_
  refine aw_e rfl rfl rfl ?_
  refine aw_e rfl rfl rfl ?_
  refine aw_e rfl rfl rfl ?_
  refine aw_e rfl rfl rfl ?_
  refine aw_e rfl rfl rfl ?_
  refine aw_e rfl rfl rfl ?_
  refine aw_i2f rfl (by decide +kernel) ?_
  refine aw_e rfl rfl rfl ?_
  refine aw_e rfl rfl rfl ?_
  refine aw_i1f rfl (by decide +kernel) ?_
  refine aw_e rfl rfl rfl ?_
  refine aw_e rfl rfl rfl ?_
  refine aw_e rfl rfl rfl ?_
  refine aw_e rfl rfl rfl ?_
  refine aw_e rfl rfl rfl ?_
  refine aw_e rfl rfl rfl ?_
  refine aw_e rfl rfl rfl ?_
  refine aw_e rfl rfl rfl ?_
  refine aw_e rfl rfl rfl ?_
  refine aw_e rfl rfl rfl ?_
  refine aw_e rfl rfl rfl ?_
  refine aw_e rfl rfl rfl ?_
  refine aw_e rfl rfl rfl ?_
  refine aw_e rfl rfl rfl ?_
  refine aw_e rfl rfl rfl ?_
  refine aw_e rfl rfl rfl ?_
  refine aw_e rfl rfl rfl ?_
  refine aw_e rfl rfl rfl ?_
  refine aw_e rfl rfl rfl ?_
  refine aw_e rfl rfl rfl ?_
  refine aw_i2f rfl (by decide +kernel) ?_
  refine aw_e rfl rfl rfl ?_
  refine aw_e rfl rfl rfl ?_
  refine aw_i1f rfl (by decide +kernel) ?_
  refine aw_e rfl rfl rfl ?_
  refine aw_e rfl rfl rfl ?_
  refine aw_e rfl rfl rfl ?_
  refine aw_e rfl rfl rfl ?_
  refine aw_e rfl rfl rfl ?_
  refine aw_e rfl rfl rfl ?_
  refine aw_e rfl rfl rfl ?_
  refine aw_e rfl rfl rfl ?_
  refine aw_e rfl rfl rfl ?_
  refine aw_e rfl rfl rfl ?_
  refine aw_e rfl rfl rfl ?_
  refine aw_e rfl rfl rfl ?_
  refine aw_e rfl rfl rfl ?_
  refine aw_e rfl rfl rfl ?_
  refine aw_e rfl rfl rfl ?_
  refine aw_e rfl rfl rfl ?_
  refine aw_e rfl rfl rfl ?_
  refine aw_e rfl rfl rfl ?_
  refine aw_e rfl rfl rfl ?_
  refine aw_e rfl rfl rfl ?_
  refine aw_i2f rfl (by decide +kernel) ?_
  refine aw_e rfl rfl rfl ?_
  refine aw_e rfl rfl rfl ?_
  refine aw_i1f rfl (by decide +kernel) ?_
  refine aw_e rfl rfl rfl ?_
  refine aw_e rfl rfl rfl ?_
  refine aw_e rfl rfl rfl ?_
  refine aw_e rfl rfl rfl ?_
  refine aw_e rfl rfl rfl ?_
  refine aw_e rfl rfl rfl ?_
  refine aw_e rfl rfl rfl ?_
  refine aw_e rfl rfl rfl ?_
  refine aw_e rfl rfl rfl ?_
  refine aw_e rfl rfl rfl ?_
  refine aw_e rfl rfl rfl ?_
  refine aw_e rfl rfl rfl ?_
  refine aw_e rfl rfl rfl ?_
  refine aw_e rfl rfl rfl ?_
  refine aw_e rfl rfl rfl ?_
  refine aw_e rfl rfl rfl ?_
  refine aw_e rfl rfl rfl ?_
  refine aw_e rfl rfl rfl ?_
  refine aw_e rfl rfl rfl ?_
  refine aw_e rfl rfl rfl ?_
  refine aw_i2f rfl (by decide +kernel) ?_
  refine aw_e rfl rfl rfl ?_
  refine aw_e rfl rfl rfl ?_
  refine aw_i1f rfl (by decide +kernel) ?_
  refine aw_e rfl rfl rfl ?_
  refine aw_e rfl rfl rfl ?_
  refine aw_e rfl rfl rfl ?_
  refine aw_e rfl rfl rfl ?_
  refine aw_e rfl rfl rfl ?_
  refine aw_e rfl rfl rfl ?_
  refine aw_e rfl rfl rfl ?_
  refine aw_e rfl rfl rfl ?_
  refine aw_e rfl rfl rfl ?_
  refine aw_e rfl rfl rfl ?_
  refine aw_e rfl rfl rfl ?_
  refine aw_e rfl rfl rfl ?_
  refine aw_e rfl rfl rfl ?_
  refine aw_e rfl rfl rfl ?_
  refine aw_e rfl rfl rfl ?_
  refine aw_e rfl rfl rfl ?_
  refine aw_e rfl rfl rfl ?_
  refine aw_e rfl rfl rfl ?_
  refine aw_e rfl rfl rfl ?_
  refine aw_e rfl rfl rfl ?_
  refine aw_i2f rfl (by decide +kernel) ?_
  refine aw_e rfl rfl rfl ?_
  refine aw_e rfl rfl rfl ?_
  refine aw_i1f rfl (by decide +kernel) ?_
  refine aw_e rfl rfl rfl ?_
  refine aw_e rfl rfl rfl ?_
  refine aw_e rfl rfl rfl ?_
  refine aw_e rfl rfl rfl ?_
  refine aw_e rfl rfl rfl ?_
  refine aw_e rfl rfl rfl ?_
  refine aw_e rfl rfl rfl ?_
  refine aw_e rfl rfl rfl ?_
  refine aw_e rfl rfl rfl ?_
  refine aw_e rfl rfl rfl ?_
  refine aw_e rfl rfl rfl ?_
  refine aw_e rfl rfl rfl ?_
  refine aw_e rfl rfl rfl ?_
  refine aw_e rfl rfl rfl ?_
  refine aw_e rfl rfl rfl ?_
  refine aw_e rfl rfl rfl ?_
  refine aw_e rfl rfl rfl ?_
  refine aw_e rfl rfl rfl ?_
  refine aw_e rfl rfl rfl ?_
  refine aw_e rfl rfl rfl ?_
  refine aw_i2f rfl (by decide +kernel) ?_
  refine aw_e rfl rfl rfl ?_
  refine aw_e rfl rfl rfl ?_
  refine aw_i1f rfl (by decide +kernel) ?_
  refine aw_e rfl rfl rfl ?_
  refine aw_e rfl rfl rfl ?_
  refine aw_e rfl rfl rfl ?_
  refine aw_e rfl rfl rfl ?_
  refine aw_e rfl rfl rfl ?_
  refine aw_e rfl rfl rfl ?_
  refine aw_e rfl rfl rfl ?_
  refine aw_e rfl rfl rfl ?_
  refine aw_e rfl rfl rfl ?_
  refine aw_e rfl rfl rfl ?_
  refine aw_e rfl rfl rfl ?_
  refine aw_e rfl rfl rfl ?_
  refine aw_e rfl rfl rfl ?_
  refine aw_e rfl rfl rfl ?_
  refine aw_e rfl rfl rfl ?_
  refine aw_e rfl rfl rfl ?_
  refine aw_e rfl rfl rfl ?_
  refine aw_e rfl rfl rfl ?_
  refine aw_e rfl rfl rfl ?_
  refine aw_e rfl rfl rfl ?_
  refine aw_i2f rfl (by decide +kernel) ?_
  refine aw_e rfl rfl rfl ?_
  refine aw_e rfl rfl rfl ?_
  refine aw_i1f rfl (by decide +kernel) ?_
  refine aw_e rfl rfl rfl ?_
  refine aw_e rfl rfl rfl ?_
  refine aw_e rfl rfl rfl ?_
  refine aw_e rfl rfl rfl ?_
  refine aw_e rfl rfl rfl ?_
  refine aw_e rfl rfl rfl ?_
  refine aw_e rfl rfl rfl ?_
  refine aw_e rfl rfl rfl ?_
  refine aw_e rfl rfl rfl ?_
  refine aw_e rfl rfl rfl ?_
  refine aw_e rfl rfl rfl ?_
  refine aw_e rfl rfl rfl ?_
  refine aw_e rfl rfl rfl ?_
  refine aw_e rfl rfl rfl ?_
  refine aw_e rfl rfl rfl ?_
  refine aw_e rfl rfl rfl ?_
  refine aw_e rfl rfl rfl ?_
  refine aw_e rfl rfl rfl ?_
  refine aw_e rfl rfl rfl ?_
  refine aw_e rfl rfl rfl ?_
  refine aw_i2t rfl (by decide +kernel) ?_
  refine aw_rv rfl ?_
  refine aw_e rfl rfl rfl ?_
  refine aw_e rfl rfl rfl ?_
  refine aw_e rfl rfl rfl ?_
  refine aw_ci rfl rfl (by decide) rfl rfl ?_
  refine aw_e rfl rfl rfl ?_
  refine aw_e rfl rfl rfl ?_
  refine aw_e rfl rfl rfl ?_
  refine aw_e rfl rfl rfl ?_
  refine aw_e rfl rfl rfl ?_
  refine aw_i2f rfl (by decide +kernel) ?_
  refine aw_e rfl rfl rfl ?_
  refine aw_e rfl rfl rfl ?_
  refine aw_i1f rfl (by decide +kernel) ?_
  refine aw_e rfl rfl rfl ?_
  refine aw_e rfl rfl rfl ?_
  refine aw_e rfl rfl rfl ?_
  refine aw_e rfl rfl rfl ?_
  refine aw_e rfl rfl rfl ?_
  refine aw_e rfl rfl rfl ?_
  refine aw_e rfl rfl rfl ?_
  refine aw_e rfl rfl rfl ?_
  refine aw_e rfl rfl rfl ?_
  refine aw_e rfl rfl rfl ?_
  refine aw_e rfl rfl rfl ?_
  refine aw_e rfl rfl rfl ?_
  refine aw_e rfl rfl rfl ?_
  refine aw_e rfl rfl rfl ?_
  refine aw_e rfl rfl rfl ?_
  refine aw_e rfl rfl rfl ?_
  refine aw_e rfl rfl rfl ?_
  refine aw_e rfl rfl rfl ?_
  refine aw_e rfl rfl rfl ?_
  refine aw_e rfl rfl rfl ?_
  refine aw_i2f rfl (by decide +kernel) ?_
  refine aw_e rfl rfl rfl ?_
  refine aw_e rfl rfl rfl ?_
  refine aw_i1f rfl (by decide +kernel) ?_
  refine aw_e rfl rfl rfl ?_
  refine aw_e rfl rfl rfl ?_
  refine aw_e rfl rfl rfl ?_
  refine aw_e rfl rfl rfl ?_
  refine aw_e rfl rfl rfl ?_
  refine aw_e rfl rfl rfl ?_
  refine aw_e rfl rfl rfl ?_
  refine aw_e rfl rfl rfl ?_
  refine aw_e rfl rfl rfl ?_
  refine aw_e rfl rfl rfl ?_
  refine aw_e rfl rfl rfl ?_
  refine aw_e rfl rfl rfl ?_
  refine aw_e rfl rfl rfl ?_
  refine aw_e rfl rfl rfl ?_
  refine aw_e rfl rfl rfl ?_
  refine aw_e rfl rfl rfl ?_
  refine aw_e rfl rfl rfl ?_
  refine aw_e rfl rfl rfl ?_
  refine aw_e rfl rfl rfl ?_
  refine aw_e rfl rfl rfl ?_
  refine aw_i2f rfl (by decide +kernel) ?_
  refine aw_e rfl rfl rfl ?_
  refine aw_e rfl rfl rfl ?_
  refine aw_i1f rfl (by decide +kernel) ?_
  refine aw_e rfl rfl rfl ?_
  refine aw_e rfl rfl rfl ?_
  refine aw_e rfl rfl rfl ?_
  refine aw_e rfl rfl rfl ?_
  refine aw_e rfl rfl rfl ?_
  refine aw_e rfl rfl rfl ?_
  refine aw_e rfl rfl rfl ?_
  refine aw_e rfl rfl rfl ?_
  refine aw_e rfl rfl rfl ?_
  refine aw_e rfl rfl rfl ?_
  refine aw_e rfl rfl rfl ?_
  refine aw_e rfl rfl rfl ?_
  refine aw_e rfl rfl rfl ?_
  refine aw_e rfl rfl rfl ?_
  refine aw_e rfl rfl rfl ?_
  refine aw_e rfl rfl rfl ?_
  refine aw_e rfl rfl rfl ?_
  refine aw_e rfl rfl rfl ?_
  refine aw_e rfl rfl rfl ?_
  refine aw_e rfl rfl rfl ?_
  refine aw_i2f rfl (by decide +kernel) ?_
  refine aw_e rfl rfl rfl ?_
  refine aw_e rfl rfl rfl ?_
  refine aw_i1f rfl (by decide +kernel) ?_
  refine aw_e rfl rfl rfl ?_
  refine aw_e rfl rfl rfl ?_
  refine aw_e rfl rfl rfl ?_
  refine aw_e rfl rfl rfl ?_
  refine aw_e rfl rfl rfl ?_
  refine aw_e rfl rfl rfl ?_
  refine aw_e rfl rfl rfl ?_
  refine aw_e rfl rfl rfl ?_
  refine aw_e rfl rfl rfl ?_
  refine aw_e rfl rfl rfl ?_
  refine aw_e rfl rfl rfl ?_
  refine aw_e rfl rfl rfl ?_
  refine aw_e rfl rfl rfl ?_
  refine aw_e rfl rfl rfl ?_
  refine aw_e rfl rfl rfl ?_
  refine aw_e rfl rfl rfl ?_
  refine aw_e rfl rfl rfl ?_
  refine aw_e rfl rfl rfl ?_
  refine aw_e rfl rfl rfl ?_
  refine aw_e rfl rfl rfl ?_
  refine aw_i2f rfl (by decide +kernel) ?_
  refine aw_e rfl rfl rfl ?_
  refine aw_e rfl rfl rfl ?_
  refine aw_i1f rfl (by decide +kernel) ?_
  refine aw_e rfl rfl rfl ?_
  refine aw_e rfl rfl rfl ?_
  refine aw_e rfl rfl rfl ?_
  refine aw_e rfl rfl rfl ?_
  refine aw_e rfl rfl rfl ?_
  refine aw_e rfl rfl rfl ?_
  refine aw_e rfl rfl rfl ?_
  refine aw_e rfl rfl rfl ?_
  refine aw_e rfl rfl rfl ?_
  refine aw_e rfl rfl rfl ?_
  refine aw_e rfl rfl rfl ?_
  refine aw_e rfl rfl rfl ?_
  refine aw_e rfl rfl rfl ?_
  refine aw_e rfl rfl rfl ?_
  refine aw_e rfl rfl rfl ?_
  refine aw_e rfl rfl rfl ?_
  refine aw_e rfl rfl rfl ?_
  refine aw_e rfl rfl rfl ?_
  refine aw_e rfl rfl rfl ?_
  refine aw_e rfl rfl rfl ?_
  refine aw_i2f rfl (by decide +kernel) ?_
  refine aw_e rfl rfl rfl ?_
  refine aw_e rfl rfl rfl ?_
  refine aw_i1f rfl (by decide +kernel) ?_
  refine aw_e rfl rfl rfl ?_
  refine aw_e rfl rfl rfl ?_
  refine aw_e rfl rfl rfl ?_
  refine aw_e rfl rfl rfl ?_
  refine aw_e rfl rfl rfl ?_
  refine aw_e rfl rfl rfl ?_
  refine aw_e rfl rfl rfl ?_
  refine aw_e rfl rfl rfl ?_
  refine aw_e rfl rfl rfl ?_
  refine aw_e rfl rfl rfl ?_
  refine aw_e rfl rfl rfl ?_
  refine aw_e rfl rfl rfl ?_
  refine aw_e rfl rfl rfl ?_
  refine aw_e rfl rfl rfl ?_
  refine aw_e rfl rfl rfl ?_
  refine aw_e rfl rfl rfl ?_
  refine aw_e rfl rfl rfl ?_
  refine aw_e rfl rfl rfl ?_
  refine aw_e rfl rfl rfl ?_
  refine aw_e rfl rfl rfl ?_
  refine aw_i2f rfl (by decide +kernel) ?_
  refine aw_e rfl rfl rfl ?_
  refine aw_e rfl rfl rfl ?_
  refine aw_i1f rfl (by decide +kernel) ?_
  refine aw_e rfl rfl rfl ?_
  refine aw_e rfl rfl rfl ?_
  refine aw_e rfl rfl rfl ?_
  refine aw_e rfl rfl rfl ?_
  refine aw_e rfl rfl rfl ?_
  refine aw_e rfl rfl rfl ?_
  refine aw_e rfl rfl rfl ?_
  refine aw_e rfl rfl rfl ?_
  refine aw_e rfl rfl rfl ?_
  refine aw_e rfl rfl rfl ?_
  refine aw_e rfl rfl rfl ?_
  refine aw_e rfl rfl rfl ?_
  refine aw_e rfl rfl rfl ?_
  refine aw_e rfl rfl rfl ?_
  refine aw_e rfl rfl rfl ?_
  refine aw_e rfl rfl rfl ?_
  refine aw_e rfl rfl rfl ?_
  refine aw_e rfl rfl rfl ?_
  refine aw_e rfl rfl rfl ?_
  refine aw_e rfl rfl rfl ?_
  refine aw_i2f rfl (by decide +kernel) ?_
  refine aw_e rfl rfl rfl ?_
  refine aw_e rfl rfl rfl ?_
  refine aw_i1f rfl (by decide +kernel) ?_
  refine aw_e rfl rfl rfl ?_
  refine aw_e rfl rfl rfl ?_
  refine aw_e rfl rfl rfl ?_
  refine aw_e rfl rfl rfl ?_
  refine aw_e rfl rfl rfl ?_
  refine aw_e rfl rfl rfl ?_
  refine aw_e rfl rfl rfl ?_
  refine aw_e rfl rfl rfl ?_
  refine aw_e rfl rfl rfl ?_
  refine aw_e rfl rfl rfl ?_
  refine aw_e rfl rfl rfl ?_
  refine aw_e rfl rfl rfl ?_
  refine aw_e rfl rfl rfl ?_
  refine aw_e rfl rfl rfl ?_
  refine aw_e rfl rfl rfl ?_
  refine aw_e rfl rfl rfl ?_
  refine aw_e rfl rfl rfl ?_
  refine aw_e rfl rfl rfl ?_
  refine aw_e rfl rfl rfl ?_
  refine aw_e rfl rfl rfl ?_
  refine aw_i2t rfl (by decide +kernel) ?_
  refine aw_rv rfl ?_
  refine aw_e rfl rfl rfl ?_
  refine aw_e rfl rfl rfl ?_
  refine aw_e rfl rfl rfl ?_
  refine aw_ci rfl rfl (by decide) rfl rfl ?_
  refine aw_e rfl rfl rfl ?_
  refine aw_e rfl rfl rfl ?_
  refine aw_e rfl rfl rfl ?_
  refine aw_e rfl rfl rfl ?_
  refine aw_e rfl rfl rfl ?_
  refine aw_i2f rfl (by decide +kernel) ?_
  refine aw_e rfl rfl rfl ?_
  refine aw_e rfl rfl rfl ?_
  refine aw_i1f rfl (by decide +kernel) ?_
  refine aw_e rfl rfl rfl ?_
  refine aw_e rfl rfl rfl ?_
  refine aw_e rfl rfl rfl ?_
  refine aw_e rfl rfl rfl ?_
  refine aw_e rfl rfl rfl ?_
  refine aw_e rfl rfl rfl ?_
  refine aw_e rfl rfl rfl ?_
  refine aw_e rfl rfl rfl ?_
  refine aw_e rfl rfl rfl ?_
  refine aw_e rfl rfl rfl ?_
  refine aw_e rfl rfl rfl ?_
  refine aw_e rfl rfl rfl ?_
  refine aw_e rfl rfl rfl ?_
  refine aw_e rfl rfl rfl ?_
  refine aw_e rfl rfl rfl ?_
  refine aw_e rfl rfl rfl ?_
  refine aw_e rfl rfl rfl ?_
  refine aw_e rfl rfl rfl ?_
  refine aw_e rfl rfl rfl ?_
  refine aw_e rfl rfl rfl ?_
  refine aw_i2f rfl (by decide +kernel) ?_
  refine aw_e rfl rfl rfl ?_
  refine aw_e rfl rfl rfl ?_
  refine aw_i1f rfl (by decide +kernel) ?_
  refine aw_e rfl rfl rfl ?_
  refine aw_e rfl rfl rfl ?_
  refine aw_e rfl rfl rfl ?_
  refine aw_e rfl rfl rfl ?_
  refine aw_e rfl rfl rfl ?_
  refine aw_e rfl rfl rfl ?_
  refine aw_e rfl rfl rfl ?_
  refine aw_e rfl rfl rfl ?_
  refine aw_e rfl rfl rfl ?_
  refine aw_e rfl rfl rfl ?_
  refine aw_e rfl rfl rfl ?_
  refine aw_e rfl rfl rfl ?_
  refine aw_e rfl rfl rfl ?_
  refine aw_e rfl rfl rfl ?_
  refine aw_e rfl rfl rfl ?_
  refine aw_e rfl rfl rfl ?_
  refine aw_e rfl rfl rfl ?_
  refine aw_e rfl rfl rfl ?_
  refine aw_e rfl rfl rfl ?_
  refine aw_e rfl rfl rfl ?_
  refine aw_i2f rfl (by decide +kernel) ?_
  refine aw_e rfl rfl rfl ?_
  refine aw_e rfl rfl rfl ?_
  refine aw_i1f rfl (by decide +kernel) ?_
  refine aw_e rfl rfl rfl ?_
  refine aw_e rfl rfl rfl ?_
  refine aw_e rfl rfl rfl ?_
  refine aw_e rfl rfl rfl ?_
  refine aw_e rfl rfl rfl ?_
  refine aw_e rfl rfl rfl ?_
  refine aw_e rfl rfl rfl ?_
  refine aw_e rfl rfl rfl ?_
  refine aw_e rfl rfl rfl ?_
  refine aw_e rfl rfl rfl ?_
  refine aw_e rfl rfl rfl ?_
  refine aw_e rfl rfl rfl ?_
  refine aw_e rfl rfl rfl ?_
  refine aw_e rfl rfl rfl ?_
  refine aw_e rfl rfl rfl ?_
  refine aw_e rfl rfl rfl ?_
  refine aw_e rfl rfl rfl ?_
  refine aw_e rfl rfl rfl ?_
  refine aw_e rfl rfl rfl ?_
  refine aw_e rfl rfl rfl ?_
  refine aw_i2f rfl (by decide +kernel) ?_
  refine aw_e rfl rfl rfl ?_
  refine aw_e rfl rfl rfl ?_
  refine aw_i1f rfl (by decide +kernel) ?_
  refine aw_e rfl rfl rfl ?_
  refine aw_e rfl rfl rfl ?_
  refine aw_e rfl rfl rfl ?_
  refine aw_e rfl rfl rfl ?_
  refine aw_e rfl rfl rfl ?_
  refine aw_e rfl rfl rfl ?_
  refine aw_e rfl rfl rfl ?_
  refine aw_e rfl rfl rfl ?_
  refine aw_e rfl rfl rfl ?_
  refine aw_e rfl rfl rfl ?_
  refine aw_e rfl rfl rfl ?_
  refine aw_e rfl rfl rfl ?_
  refine aw_e rfl rfl rfl ?_
  refine aw_e rfl rfl rfl ?_
  refine aw_e rfl rfl rfl ?_
  refine aw_e rfl rfl rfl ?_
  refine aw_e rfl rfl rfl ?_
  refine aw_e rfl rfl rfl ?_
  refine aw_e rfl rfl rfl ?_
  refine aw_e rfl rfl rfl ?_
  refine aw_i2f rfl (by decide +kernel) ?_
  refine aw_e rfl rfl rfl ?_
  refine aw_e rfl rfl rfl ?_
  refine aw_i1f rfl (by decide +kernel) ?_
  refine aw_e rfl rfl rfl ?_
  refine aw_e rfl rfl rfl ?_
  refine aw_e rfl rfl rfl ?_
  refine aw_e rfl rfl rfl ?_
  refine aw_e rfl rfl rfl ?_
  refine aw_e rfl rfl rfl ?_
  refine aw_e rfl rfl rfl ?_
  refine aw_e rfl rfl rfl ?_
  refine aw_e rfl rfl rfl ?_
  refine aw_e rfl rfl rfl ?_
  refine aw_e rfl rfl rfl ?_
  refine aw_e rfl rfl rfl ?_
  refine aw_e rfl rfl rfl ?_
  refine aw_e rfl rfl rfl ?_
  refine aw_e rfl rfl rfl ?_
  refine aw_e rfl rfl rfl ?_
  refine aw_e rfl rfl rfl ?_
  refine aw_e rfl rfl rfl ?_
  refine aw_e rfl rfl rfl ?_
  refine aw_e rfl rfl rfl ?_
  refine aw_i2f rfl (by decide +kernel) ?_
  refine aw_e rfl rfl rfl ?_
  refine aw_e rfl rfl rfl ?_
  refine aw_i1f rfl (by decide +kernel) ?_
  refine aw_e rfl rfl rfl ?_
  refine aw_e rfl rfl rfl ?_
  refine aw_e rfl rfl rfl ?_
  refine aw_e rfl rfl rfl ?_
  refine aw_e rfl rfl rfl ?_
  refine aw_e rfl rfl rfl ?_
  refine aw_e rfl rfl rfl ?_
  refine aw_e rfl rfl rfl ?_
  refine aw_e rfl rfl rfl ?_
  refine aw_e rfl rfl rfl ?_
  refine aw_e rfl rfl rfl ?_
  refine aw_e rfl rfl rfl ?_
  refine aw_e rfl rfl rfl ?_
  refine aw_e rfl rfl rfl ?_
  refine aw_e rfl rfl rfl ?_
  refine aw_e rfl rfl rfl ?_
  refine aw_e rfl rfl rfl ?_
  refine aw_e rfl rfl rfl ?_
  refine aw_e rfl rfl rfl ?_
  refine aw_e rfl rfl rfl ?_
  refine aw_i2f rfl (by decide +kernel) ?_
  refine aw_e rfl rfl rfl ?_
  refine aw_e rfl rfl rfl ?_
  refine aw_i1f rfl (by decide +kernel) ?_
  refine aw_e rfl rfl rfl ?_
  refine aw_e rfl rfl rfl ?_
  refine aw_e rfl rfl rfl ?_
  refine aw_e rfl rfl rfl ?_
  refine aw_e rfl rfl rfl ?_
  refine aw_e rfl rfl rfl ?_
  refine aw_e rfl rfl rfl ?_
  refine aw_e rfl rfl rfl ?_
  refine aw_e rfl rfl rfl ?_
  refine aw_e rfl rfl rfl ?_
  refine aw_e rfl rfl rfl ?_
  refine aw_e rfl rfl rfl ?_
  refine aw_e rfl rfl rfl ?_
  refine aw_e rfl rfl rfl ?_
  refine aw_e rfl rfl rfl ?_
  refine aw_e rfl rfl rfl ?_
  refine aw_e rfl rfl rfl ?_
  refine aw_e rfl rfl rfl ?_
  refine aw_e rfl rfl rfl ?_
  refine aw_e rfl rfl rfl ?_
  refine aw_i2f rfl (by decide +kernel) ?_
  refine aw_e rfl rfl rfl ?_
  refine aw_e rfl rfl rfl ?_
  refine aw_i1f rfl (by decide +kernel) ?_
  refine aw_e rfl rfl rfl ?_
  refine aw_e rfl rfl rfl ?_
  refine aw_e rfl rfl rfl ?_
  refine aw_e rfl rfl rfl ?_
  refine aw_e rfl rfl rfl ?_
  refine aw_e rfl rfl rfl ?_
  refine aw_e rfl rfl rfl ?_
  refine aw_e rfl rfl rfl ?_
  refine aw_e rfl rfl rfl ?_
  refine aw_e rfl rfl rfl ?_
  refine aw_e rfl rfl rfl ?_
  refine aw_e rfl rfl rfl ?_
  refine aw_e rfl rfl rfl ?_
  refine aw_e rfl rfl rfl ?_
  refine aw_e rfl rfl rfl ?_
  refine aw_e rfl rfl rfl ?_
  refine aw_e rfl rfl rfl ?_
  refine aw_e rfl rfl rfl ?_
  refine aw_e rfl rfl rfl ?_
  refine aw_e rfl rfl rfl ?_
  refine aw_i2t rfl (by decide +kernel) ?_
  refine aw_rv rfl ?_
  refine aw_e rfl rfl rfl ?_
  refine aw_e rfl rfl rfl ?_
  refine aw_e rfl rfl rfl ?_
  refine aw_ci rfl rfl (by decide) rfl rfl ?_
  refine aw_e rfl rfl rfl ?_
  refine aw_e rfl rfl rfl ?_
  refine aw_e rfl rfl rfl ?_
  refine aw_e rfl rfl rfl ?_
  refine aw_e rfl rfl rfl ?_
  refine aw_i2f rfl (by decide +kernel) ?_
  refine aw_e rfl rfl rfl ?_
  refine aw_e rfl rfl rfl ?_
  refine aw_i1f rfl (by decide +kernel) ?_
  refine aw_e rfl rfl rfl ?_
  refine aw_e rfl rfl rfl ?_
  refine aw_e rfl rfl rfl ?_
  refine aw_e rfl rfl rfl ?_
  refine aw_e rfl rfl rfl ?_
  refine aw_e rfl rfl rfl ?_
  refine aw_e rfl rfl rfl ?_
  refine aw_e rfl rfl rfl ?_
  refine aw_e rfl rfl rfl ?_
  refine aw_e rfl rfl rfl ?_
  refine aw_e rfl rfl rfl ?_
  refine aw_e rfl rfl rfl ?_
  refine aw_e rfl rfl rfl ?_
  refine aw_e rfl rfl rfl ?_
  refine aw_e rfl rfl rfl ?_
  refine aw_e rfl rfl rfl ?_
  refine aw_e rfl rfl rfl ?_
  refine aw_e rfl rfl rfl ?_
  refine aw_e rfl rfl rfl ?_
  refine aw_e rfl rfl rfl ?_
  refine aw_i2f rfl (by decide +kernel) ?_
  refine aw_e rfl rfl rfl ?_
  refine aw_e rfl rfl rfl ?_
  refine aw_i1f rfl (by decide +kernel) ?_
  refine aw_e rfl rfl rfl ?_
  refine aw_e rfl rfl rfl ?_
  refine aw_e rfl rfl rfl ?_
  refine aw_e rfl rfl rfl ?_
  refine aw_e rfl rfl rfl ?_
  refine aw_e rfl rfl rfl ?_
  refine aw_e rfl rfl rfl ?_
  refine aw_e rfl rfl rfl ?_
  refine aw_e rfl rfl rfl ?_
  refine aw_e rfl rfl rfl ?_
  refine aw_e rfl rfl rfl ?_
  refine aw_e rfl rfl rfl ?_
  refine aw_e rfl rfl rfl ?_
  refine aw_e rfl rfl rfl ?_
  refine aw_e rfl rfl rfl ?_
  refine aw_e rfl rfl rfl ?_
  refine aw_e rfl rfl rfl ?_
  refine aw_e rfl rfl rfl ?_
  refine aw_e rfl rfl rfl ?_
  refine aw_e rfl rfl rfl ?_
  refine aw_i2f rfl (by decide +kernel) ?_
  refine aw_e rfl rfl rfl ?_
  refine aw_e rfl rfl rfl ?_
  refine aw_i1f rfl (by decide +kernel) ?_
  refine aw_e rfl rfl rfl ?_
  refine aw_e rfl rfl rfl ?_
  refine aw_e rfl rfl rfl ?_
  refine aw_e rfl rfl rfl ?_
  refine aw_e rfl rfl rfl ?_
  refine aw_e rfl rfl rfl ?_
  refine aw_e rfl rfl rfl ?_
  refine aw_e rfl rfl rfl ?_
  refine aw_e rfl rfl rfl ?_
  refine aw_e rfl rfl rfl ?_
  refine aw_e rfl rfl rfl ?_
  refine aw_e rfl rfl rfl ?_
  refine aw_e rfl rfl rfl ?_
  refine aw_e rfl rfl rfl ?_
  refine aw_e rfl rfl rfl ?_
  refine aw_e rfl rfl rfl ?_
  refine aw_e rfl rfl rfl ?_
  refine aw_e rfl rfl rfl ?_
  refine aw_e rfl rfl rfl ?_
  refine aw_e rfl rfl rfl ?_
  refine aw_i2f rfl (by decide +kernel) ?_
  refine aw_e rfl rfl rfl ?_
  refine aw_e rfl rfl rfl ?_
  refine aw_i1f rfl (by decide +kernel) ?_
  refine aw_e rfl rfl rfl ?_
  refine aw_e rfl rfl rfl ?_
  refine aw_e rfl rfl rfl ?_
  refine aw_e rfl rfl rfl ?_
  refine aw_e rfl rfl rfl ?_
  refine aw_e rfl rfl rfl ?_
  refine aw_e rfl rfl rfl ?_
  refine aw_e rfl rfl rfl ?_
  refine aw_e rfl rfl rfl ?_
  refine aw_e rfl rfl rfl ?_
  refine aw_e rfl rfl rfl ?_
  refine aw_e rfl rfl rfl ?_
  refine aw_e rfl rfl rfl ?_
  refine aw_e rfl rfl rfl ?_
  refine aw_e rfl rfl rfl ?_
  refine aw_e rfl rfl rfl ?_
  refine aw_e rfl rfl rfl ?_
  refine aw_e rfl rfl rfl ?_
  refine aw_e rfl rfl rfl ?_
  refine aw_e rfl rfl rfl ?_
  refine aw_i2f rfl (by decide +kernel) ?_
  refine aw_e rfl rfl rfl ?_
  refine aw_e rfl rfl rfl ?_
  refine aw_i1f rfl (by decide +kernel) ?_
  refine aw_e rfl rfl rfl ?_
  refine aw_e rfl rfl rfl ?_
  refine aw_e rfl rfl rfl ?_
  refine aw_e rfl rfl rfl ?_
  refine aw_e rfl rfl rfl ?_
  refine aw_e rfl rfl rfl ?_
  refine aw_e rfl rfl rfl ?_
  refine aw_e rfl rfl rfl ?_
  refine aw_e rfl rfl rfl ?_
  refine aw_e rfl rfl rfl ?_
  refine aw_e rfl rfl rfl ?_
  refine aw_e rfl rfl rfl ?_
  refine aw_e rfl rfl rfl ?_
  refine aw_e rfl rfl rfl ?_
  refine aw_e rfl rfl rfl ?_
  refine aw_e rfl rfl rfl ?_
  refine aw_e rfl rfl rfl ?_
  refine aw_e rfl rfl rfl ?_
  refine aw_e rfl rfl rfl ?_
  refine aw_e rfl rfl rfl ?_
  refine aw_i2f rfl (by decide +kernel) ?_
  refine aw_e rfl rfl rfl ?_
  refine aw_e rfl rfl rfl ?_
  refine aw_i1f rfl (by decide +kernel) ?_
  refine aw_e rfl rfl rfl ?_
  refine aw_e rfl rfl rfl ?_
  refine aw_e rfl rfl rfl ?_
  refine aw_e rfl rfl rfl ?_
  refine aw_e rfl rfl rfl ?_
  refine aw_e rfl rfl rfl ?_
  refine aw_e rfl rfl rfl ?_
  refine aw_e rfl rfl rfl ?_
  refine aw_e rfl rfl rfl ?_
  refine aw_e rfl rfl rfl ?_
  refine aw_e rfl rfl rfl ?_
  refine aw_e rfl rfl rfl ?_
  refine aw_e rfl rfl rfl ?_
  refine aw_e rfl rfl rfl ?_
  refine aw_e rfl rfl rfl ?_
  refine aw_e rfl rfl rfl ?_
  refine aw_e rfl rfl rfl ?_
  refine aw_e rfl rfl rfl ?_
  refine aw_e rfl rfl rfl ?_
  refine aw_e rfl rfl rfl ?_
  refine aw_i2f rfl (by decide +kernel) ?_
  refine aw_e rfl rfl rfl ?_
  refine aw_e rfl rfl rfl ?_
  refine aw_i1f rfl (by decide +kernel) ?_
  refine aw_e rfl rfl rfl ?_
  refine aw_e rfl rfl rfl ?_
  refine aw_e rfl rfl rfl ?_
  refine aw_e rfl rfl rfl ?_
  refine aw_e rfl rfl rfl ?_
  refine aw_e rfl rfl rfl ?_
  refine aw_e rfl rfl rfl ?_
  refine aw_e rfl rfl rfl ?_
  refine aw_e rfl rfl rfl ?_
  refine aw_e rfl rfl rfl ?_
  refine aw_e rfl rfl rfl ?_
  refine aw_e rfl rfl rfl ?_
  refine aw_e rfl rfl rfl ?_
  refine aw_e rfl rfl rfl ?_
  refine aw_e rfl rfl rfl ?_
  refine aw_e rfl rfl rfl ?_
  refine aw_e rfl rfl rfl ?_
  refine aw_e rfl rfl rfl ?_
  refine aw_e rfl rfl rfl ?_
  refine aw_e rfl rfl rfl ?_
  refine aw_i2f rfl (by decide +kernel) ?_
  refine aw_e rfl rfl rfl ?_
  refine aw_e rfl rfl rfl ?_
  refine aw_i1f rfl (by decide +kernel) ?_
  refine aw_e rfl rfl rfl ?_
  refine aw_e rfl rfl rfl ?_
  refine aw_e rfl rfl rfl ?_
  refine aw_e rfl rfl rfl ?_
  refine aw_e rfl rfl rfl ?_
  refine aw_e rfl rfl rfl ?_
  refine aw_e rfl rfl rfl ?_
  refine aw_e rfl rfl rfl ?_
  refine aw_e rfl rfl rfl ?_
  refine aw_e rfl rfl rfl ?_
  refine aw_e rfl rfl rfl ?_
  refine aw_e rfl rfl rfl ?_
  refine aw_e rfl rfl rfl ?_
  refine aw_e rfl rfl rfl ?_
  refine aw_e rfl rfl rfl ?_
  refine aw_e rfl rfl rfl ?_
  refine aw_e rfl rfl rfl ?_
  refine aw_e rfl rfl rfl ?_
  refine aw_e rfl rfl rfl ?_
  refine aw_e rfl rfl rfl ?_
  refine aw_i2t rfl (by decide +kernel) ?_
  refine aw_rv rfl ?_
  refine aw_e rfl rfl rfl ?_
  refine aw_e rfl rfl rfl ?_
  refine aw_e rfl rfl rfl ?_
  refine aw_ci rfl rfl (by decide) rfl rfl ?_
  refine aw_e rfl rfl rfl ?_
  refine aw_e rfl rfl rfl ?_
  refine aw_e rfl rfl rfl ?_
  refine aw_e rfl rfl rfl ?_
  refine aw_e rfl rfl rfl ?_
  refine aw_i2f rfl (by decide +kernel) ?_
  refine aw_e rfl rfl rfl ?_
  refine aw_e rfl rfl rfl ?_
  refine aw_i1f rfl (by decide +kernel) ?_
  refine aw_e rfl rfl rfl ?_
  refine aw_e rfl rfl rfl ?_
  refine aw_e rfl rfl rfl ?_
  refine aw_e rfl rfl rfl ?_
  refine aw_e rfl rfl rfl ?_
  refine aw_e rfl rfl rfl ?_
  refine aw_e rfl rfl rfl ?_
  refine aw_e rfl rfl rfl ?_
  refine aw_e rfl rfl rfl ?_
  refine aw_e rfl rfl rfl ?_
  refine aw_e rfl rfl rfl ?_
  refine aw_e rfl rfl rfl ?_
  refine aw_e rfl rfl rfl ?_
  refine aw_e rfl rfl rfl ?_
  refine aw_e rfl rfl rfl ?_
  refine aw_e rfl rfl rfl ?_
  refine aw_e rfl rfl rfl ?_
  refine aw_e rfl rfl rfl ?_
  refine aw_e rfl rfl rfl ?_
  refine aw_e rfl rfl rfl ?_
  refine aw_i2f rfl (by decide +kernel) ?_
  refine aw_e rfl rfl rfl ?_
  refine aw_e rfl rfl rfl ?_
  refine aw_i1f rfl (by decide +kernel) ?_
  refine aw_e rfl rfl rfl ?_
  refine aw_e rfl rfl rfl ?_
  refine aw_e rfl rfl rfl ?_
  refine aw_e rfl rfl rfl ?_
  refine aw_e rfl rfl rfl ?_
  refine aw_e rfl rfl rfl ?_
  refine aw_e rfl rfl rfl ?_
  refine aw_e rfl rfl rfl ?_
  refine aw_e rfl rfl rfl ?_
  refine aw_e rfl rfl rfl ?_
  refine aw_e rfl rfl rfl ?_
  refine aw_e rfl rfl rfl ?_
  refine aw_e rfl rfl rfl ?_
  refine aw_e rfl rfl rfl ?_
  refine aw_e rfl rfl rfl ?_
  refine aw_e rfl rfl rfl ?_
  refine aw_e rfl rfl rfl ?_
  refine aw_e rfl rfl rfl ?_
  refine aw_e rfl rfl rfl ?_
  refine aw_e rfl rfl rfl ?_
  refine aw_i2f rfl (by decide +kernel) ?_
  refine aw_e rfl rfl rfl ?_
  refine aw_e rfl rfl rfl ?_
  refine aw_i1f rfl (by decide +kernel) ?_
  refine aw_e rfl rfl rfl ?_
  refine aw_e rfl rfl rfl ?_
  refine aw_e rfl rfl rfl ?_
  refine aw_e rfl rfl rfl ?_
  refine aw_e rfl rfl rfl ?_
  refine aw_e rfl rfl rfl ?_
  refine aw_e rfl rfl rfl ?_
  refine aw_e rfl rfl rfl ?_
  refine aw_e rfl rfl rfl ?_
  refine aw_e rfl rfl rfl ?_
  refine aw_e rfl rfl rfl ?_
  refine aw_e rfl rfl rfl ?_
  refine aw_e rfl rfl rfl ?_
  refine aw_e rfl rfl rfl ?_
  refine aw_e rfl rfl rfl ?_
  refine aw_e rfl rfl rfl ?_
  refine aw_e rfl rfl rfl ?_
  refine aw_e rfl rfl rfl ?_
  refine aw_e rfl rfl rfl ?_
  refine aw_e rfl rfl rfl ?_
  refine aw_i2f rfl (by decide +kernel) ?_
  refine aw_e rfl rfl rfl ?_
  refine aw_e rfl rfl rfl ?_
  refine aw_i1f rfl (by decide +kernel) ?_
  refine aw_e rfl rfl rfl ?_
  refine aw_e rfl rfl rfl ?_
  refine aw_e rfl rfl rfl ?_
  refine aw_e rfl rfl rfl ?_
  refine aw_e rfl rfl rfl ?_
  refine aw_e rfl rfl rfl ?_
  refine aw_e rfl rfl rfl ?_
  refine aw_e rfl rfl rfl ?_
  refine aw_e rfl rfl rfl ?_
  refine aw_e rfl rfl rfl ?_
  refine aw_e rfl rfl rfl ?_
  refine aw_e rfl rfl rfl ?_
  refine aw_e rfl rfl rfl ?_
  refine aw_e rfl rfl rfl ?_
  refine aw_e rfl rfl rfl ?_
  refine aw_e rfl rfl rfl ?_
  refine aw_e rfl rfl rfl ?_
  refine aw_e rfl rfl rfl ?_
  refine aw_e rfl rfl rfl ?_
  refine aw_e rfl rfl rfl ?_
  refine aw_i2f rfl (by decide +kernel) ?_
  refine aw_e rfl rfl rfl ?_
  refine aw_e rfl rfl rfl ?_
  refine aw_i1f rfl (by decide +kernel) ?_
  refine aw_e rfl rfl rfl ?_
  refine aw_e rfl rfl rfl ?_
  refine aw_e rfl rfl rfl ?_
  refine aw_e rfl rfl rfl ?_
  refine aw_e rfl rfl rfl ?_
  refine aw_e rfl rfl rfl ?_
  refine aw_e rfl rfl rfl ?_
  refine aw_e rfl rfl rfl ?_
  refine aw_e rfl rfl rfl ?_
  refine aw_e rfl rfl rfl ?_
  refine aw_e rfl rfl rfl ?_
  refine aw_e rfl rfl rfl ?_
  refine aw_e rfl rfl rfl ?_
  refine aw_e rfl rfl rfl ?_
  refine aw_e rfl rfl rfl ?_
  refine aw_e rfl rfl rfl ?_
  refine aw_e rfl rfl rfl ?_
  refine aw_e rfl rfl rfl ?_
  refine aw_e rfl rfl rfl ?_
  refine aw_e rfl rfl rfl ?_
  refine aw_i2f rfl (by decide +kernel) ?_
  refine aw_e rfl rfl rfl ?_
  refine aw_e rfl rfl rfl ?_
  refine aw_i1f rfl (by decide +kernel) ?_
  refine aw_e rfl rfl rfl ?_
  refine aw_e rfl rfl rfl ?_
  refine aw_e rfl rfl rfl ?_
  refine aw_e rfl rfl rfl ?_
  refine aw_e rfl rfl rfl ?_
  refine aw_e rfl rfl rfl ?_
  refine aw_e rfl rfl rfl ?_
  refine aw_e rfl rfl rfl ?_
  refine aw_e rfl rfl rfl ?_
  refine aw_e rfl rfl rfl ?_
  refine aw_e rfl rfl rfl ?_
  refine aw_e rfl rfl rfl ?_
  refine aw_e rfl rfl rfl ?_
  refine aw_e rfl rfl rfl ?_
  refine aw_e rfl rfl rfl ?_
  refine aw_e rfl rfl rfl ?_
  refine aw_e rfl rfl rfl ?_
  refine aw_e rfl rfl rfl ?_
  refine aw_e rfl rfl rfl ?_
  refine aw_e rfl rfl rfl ?_
  refine aw_i2f rfl (by decide +kernel) ?_
  refine aw_e rfl rfl rfl ?_
  refine aw_e rfl rfl rfl ?_
  refine aw_i1f rfl (by decide +kernel) ?_
  refine aw_e rfl rfl rfl ?_
  refine aw_e rfl rfl rfl ?_
  refine aw_e rfl rfl rfl ?_
  refine aw_e rfl rfl rfl ?_
  refine aw_e rfl rfl rfl ?_
  refine aw_e rfl rfl rfl ?_
  refine aw_e rfl rfl rfl ?_
  refine aw_e rfl rfl rfl ?_
  refine aw_e rfl rfl rfl ?_
  refine aw_e rfl rfl rfl ?_
  refine aw_e rfl rfl rfl ?_
  refine aw_e rfl rfl rfl ?_
  refine aw_e rfl rfl rfl ?_
  refine aw_e rfl rfl rfl ?_
  refine aw_e rfl rfl rfl ?_
  refine aw_e rfl rfl rfl ?_
  refine aw_e rfl rfl rfl ?_
  refine aw_e rfl rfl rfl ?_
  refine aw_e rfl rfl rfl ?_
  refine aw_e rfl rfl rfl ?_
  refine aw_i2f rfl (by decide +kernel) ?_
  refine aw_e rfl rfl rfl ?_
  refine aw_e rfl rfl rfl ?_
  refine aw_i1f rfl (by decide +kernel) ?_
  refine aw_e rfl rfl rfl ?_
  refine aw_e rfl rfl rfl ?_
  refine aw_e rfl rfl rfl ?_
  refine aw_e rfl rfl rfl ?_
  refine aw_e rfl rfl rfl ?_
  refine aw_e rfl rfl rfl ?_
  refine aw_e rfl rfl rfl ?_
  refine aw_e rfl rfl rfl ?_
  refine aw_e rfl rfl rfl ?_
  refine aw_e rfl rfl rfl ?_
  refine aw_e rfl rfl rfl ?_
  refine aw_e rfl rfl rfl ?_
  refine aw_e rfl rfl rfl ?_
  refine aw_e rfl rfl rfl ?_
  refine aw_e rfl rfl rfl ?_
  refine aw_e rfl rfl rfl ?_
  refine aw_e rfl rfl rfl ?_
  refine aw_e rfl rfl rfl ?_
  refine aw_e rfl rfl rfl ?_
  refine aw_e rfl rfl rfl ?_
  refine aw_i2t rfl (by decide +kernel) ?_
  refine aw_rv rfl ?_
  refine aw_e rfl rfl rfl ?_
  refine aw_e rfl rfl rfl ?_
  refine aw_e rfl rfl rfl ?_
  refine aw_ci rfl rfl (by decide) rfl rfl ?_
  refine aw_e rfl rfl rfl ?_
  refine aw_e rfl rfl rfl ?_
  refine aw_e rfl rfl rfl ?_
  refine aw_e rfl rfl rfl ?_
  refine aw_e rfl rfl rfl ?_
  refine aw_i2f rfl (by decide +kernel) ?_
  refine aw_e rfl rfl rfl ?_
  refine aw_e rfl rfl rfl ?_
  refine aw_i1f rfl (by decide +kernel) ?_
  refine aw_e rfl rfl rfl ?_
  refine aw_e rfl rfl rfl ?_
  refine aw_e rfl rfl rfl ?_
  refine aw_e rfl rfl rfl ?_
  refine aw_e rfl rfl rfl ?_
  refine aw_e rfl rfl rfl ?_
  refine aw_e rfl rfl rfl ?_
  refine aw_e rfl rfl rfl ?_
  refine aw_e rfl rfl rfl ?_
  refine aw_e rfl rfl rfl ?_
  refine aw_e rfl rfl rfl ?_
  refine aw_e rfl rfl rfl ?_
  refine aw_e rfl rfl rfl ?_
  refine aw_e rfl rfl rfl ?_
  refine aw_e rfl rfl rfl ?_
  refine aw_e rfl rfl rfl ?_
  refine aw_e rfl rfl rfl ?_
  refine aw_e rfl rfl rfl ?_
  refine aw_e rfl rfl rfl ?_
  refine aw_e rfl rfl rfl ?_
  refine aw_i2f rfl (by decide +kernel) ?_
  refine aw_e rfl rfl rfl ?_
  refine aw_e rfl rfl rfl ?_
  refine aw_i1f rfl (by decide +kernel) ?_
  refine aw_e rfl rfl rfl ?_
  refine aw_e rfl rfl rfl ?_
  refine aw_e rfl rfl rfl ?_
  refine aw_e rfl rfl rfl ?_
  refine aw_e rfl rfl rfl ?_
  refine aw_e rfl rfl rfl ?_
  refine aw_e rfl rfl rfl ?_
  refine aw_e rfl rfl rfl ?_
  refine aw_e rfl rfl rfl ?_
  refine aw_e rfl rfl rfl ?_
  refine aw_e rfl rfl rfl ?_
  refine aw_e rfl rfl rfl ?_
  refine aw_e rfl rfl rfl ?_
  refine aw_e rfl rfl rfl ?_
  refine aw_e rfl rfl rfl ?_
  refine aw_e rfl rfl rfl ?_
  refine aw_e rfl rfl rfl ?_
  refine aw_e rfl rfl rfl ?_
  refine aw_e rfl rfl rfl ?_
  refine aw_e rfl rfl rfl ?_
  refine aw_i2f rfl (by decide +kernel) ?_
  refine aw_e rfl rfl rfl ?_
  refine aw_e rfl rfl rfl ?_
  refine aw_i1f rfl (by decide +kernel) ?_
  refine aw_e rfl rfl rfl ?_
  refine aw_e rfl rfl rfl ?_
  refine aw_e rfl rfl rfl ?_
  refine aw_e rfl rfl rfl ?_
  refine aw_e rfl rfl rfl ?_
  refine aw_e rfl rfl rfl ?_
  refine aw_e rfl rfl rfl ?_
  refine aw_e rfl rfl rfl ?_
  refine aw_e rfl rfl rfl ?_
  refine aw_e rfl rfl rfl ?_
  refine aw_e rfl rfl rfl ?_
  refine aw_e rfl rfl rfl ?_
  refine aw_e rfl rfl rfl ?_
  refine aw_e rfl rfl rfl ?_
  refine aw_e rfl rfl rfl ?_
  refine aw_e rfl rfl rfl ?_
  refine aw_e rfl rfl rfl ?_
  refine aw_e rfl rfl rfl ?_
  refine aw_e rfl rfl rfl ?_
  refine aw_e rfl rfl rfl ?_
  refine aw_i2f rfl (by decide +kernel) ?_
  refine aw_e rfl rfl rfl ?_
  refine aw_e rfl rfl rfl ?_
  refine aw_i1f rfl (by decide +kernel) ?_
  refine aw_e rfl rfl rfl ?_
  refine aw_e rfl rfl rfl ?_
  refine aw_e rfl rfl rfl ?_
  refine aw_e rfl rfl rfl ?_
  refine aw_e rfl rfl rfl ?_
  refine aw_e rfl rfl rfl ?_
  refine aw_e rfl rfl rfl ?_
  refine aw_e rfl rfl rfl ?_
  refine aw_e rfl rfl rfl ?_
  refine aw_e rfl rfl rfl ?_
  refine aw_e rfl rfl rfl ?_
  refine aw_e rfl rfl rfl ?_
  refine aw_e rfl rfl rfl ?_
  refine aw_e rfl rfl rfl ?_
  refine aw_e rfl rfl rfl ?_
  refine aw_e rfl rfl rfl ?_
  refine aw_e rfl rfl rfl ?_
  refine aw_e rfl rfl rfl ?_
  refine aw_e rfl rfl rfl ?_
  refine aw_e rfl rfl rfl ?_
  refine aw_i2f rfl (by decide +kernel) ?_
  refine aw_e rfl rfl rfl ?_
  refine aw_e rfl rfl rfl ?_
  refine aw_i1f rfl (by decide +kernel) ?_
  refine aw_e rfl rfl rfl ?_
  refine aw_e rfl rfl rfl ?_
  refine aw_e rfl rfl rfl ?_
  refine aw_e rfl rfl rfl ?_
  refine aw_e rfl rfl rfl ?_
  refine aw_e rfl rfl rfl ?_
  refine aw_e rfl rfl rfl ?_
  refine aw_e rfl rfl rfl ?_
  refine aw_e rfl rfl rfl ?_
  refine aw_e rfl rfl rfl ?_
  refine aw_e rfl rfl rfl ?_
  refine aw_e rfl rfl rfl ?_
  refine aw_e rfl rfl rfl ?_
  refine aw_e rfl rfl rfl ?_
  refine aw_e rfl rfl rfl ?_
  refine aw_e rfl rfl rfl ?_
  refine aw_e rfl rfl rfl ?_
  refine aw_e rfl rfl rfl ?_
  refine aw_e rfl rfl rfl ?_
  refine aw_e rfl rfl rfl ?_
  refine aw_i2f rfl (by decide +kernel) ?_
  refine aw_e rfl rfl rfl ?_
  refine aw_e rfl rfl rfl ?_
  refine aw_i1f rfl (by decide +kernel) ?_
  refine aw_e rfl rfl rfl ?_
  refine aw_e rfl rfl rfl ?_
  refine aw_e rfl rfl rfl ?_
  refine aw_e rfl rfl rfl ?_
  refine aw_e rfl rfl rfl ?_
  refine aw_e rfl rfl rfl ?_
  refine aw_e rfl rfl rfl ?_
  refine aw_e rfl rfl rfl ?_
  refine aw_e rfl rfl rfl ?_
  refine aw_e rfl rfl rfl ?_
  refine aw_e rfl rfl rfl ?_
  refine aw_e rfl rfl rfl ?_
  refine aw_e rfl rfl rfl ?_
  refine aw_e rfl rfl rfl ?_
  refine aw_e rfl rfl rfl ?_
  refine aw_e rfl rfl rfl ?_
  refine aw_e rfl rfl rfl ?_
  refine aw_e rfl rfl rfl ?_
  refine aw_e rfl rfl rfl ?_
  refine aw_e rfl rfl rfl ?_
  refine aw_i2f rfl (by decide +kernel) ?_
  refine aw_e rfl rfl rfl ?_
  refine aw_e rfl rfl rfl ?_
  refine aw_i1f rfl (by decide +kernel) ?_
  refine aw_e rfl rfl rfl ?_
  refine aw_e rfl rfl rfl ?_
  refine aw_e rfl rfl rfl ?_
  refine aw_e rfl rfl rfl ?_
  refine aw_e rfl rfl rfl ?_
  refine aw_e rfl rfl rfl ?_
  refine aw_e rfl rfl rfl ?_
  refine aw_e rfl rfl rfl ?_
  refine aw_e rfl rfl rfl ?_
  refine aw_e rfl rfl rfl ?_
  refine aw_e rfl rfl rfl ?_
  refine aw_e rfl rfl rfl ?_
  refine aw_e rfl rfl rfl ?_
  refine aw_e rfl rfl rfl ?_
  refine aw_e rfl rfl rfl ?_
  refine aw_e rfl rfl rfl ?_
  refine aw_e rfl rfl rfl ?_
  refine aw_e rfl rfl rfl ?_
  refine aw_e rfl rfl rfl ?_
  refine aw_e rfl rfl rfl ?_
  refine aw_i2f rfl (by decide +kernel) ?_
  refine aw_e rfl rfl rfl ?_
  refine aw_e rfl rfl rfl ?_
  refine aw_i1f rfl (by decide +kernel) ?_
  refine aw_e rfl rfl rfl ?_
  refine aw_e rfl rfl rfl ?_
  refine aw_e rfl rfl rfl ?_
  refine aw_e rfl rfl rfl ?_
  refine aw_e rfl rfl rfl ?_
  refine aw_e rfl rfl rfl ?_
  refine aw_e rfl rfl rfl ?_
  refine aw_e rfl rfl rfl ?_
  refine aw_e rfl rfl rfl ?_
  refine aw_e rfl rfl rfl ?_
  refine aw_e rfl rfl rfl ?_
  refine aw_e rfl rfl rfl ?_
  refine aw_e rfl rfl rfl ?_
  refine aw_e rfl rfl rfl ?_
  refine aw_e rfl rfl rfl ?_
  refine aw_e rfl rfl rfl ?_
  refine aw_e rfl rfl rfl ?_
  refine aw_e rfl rfl rfl ?_
  refine aw_e rfl rfl rfl ?_
  refine aw_e rfl rfl rfl ?_
  refine aw_i2t rfl (by decide +kernel) ?_
  refine aw_rv rfl ?_
  refine aw_e rfl rfl rfl ?_
  refine aw_e rfl rfl rfl ?_
  refine aw_e rfl rfl rfl ?_
  refine aw_ci rfl rfl (by decide) rfl rfl ?_
  refine aw_e rfl rfl rfl ?_
  refine aw_e rfl rfl rfl ?_
  refine aw_e rfl rfl rfl ?_
  refine aw_e rfl rfl rfl ?_
  refine aw_e rfl rfl rfl ?_
  refine aw_i2f rfl (by decide +kernel) ?_
  refine aw_e rfl rfl rfl ?_
  refine aw_e rfl rfl rfl ?_
  refine aw_i1f rfl (by decide +kernel) ?_
  refine aw_e rfl rfl rfl ?_
  refine aw_e rfl rfl rfl ?_
  refine aw_e rfl rfl rfl ?_
  refine aw_e rfl rfl rfl ?_
  refine aw_e rfl rfl rfl ?_
  refine aw_e rfl rfl rfl ?_
  refine aw_e rfl rfl rfl ?_
  refine aw_e rfl rfl rfl ?_
  refine aw_e rfl rfl rfl ?_
  refine aw_e rfl rfl rfl ?_
  refine aw_e rfl rfl rfl ?_
  refine aw_e rfl rfl rfl ?_
  refine aw_e rfl rfl rfl ?_
  refine aw_e rfl rfl rfl ?_
  refine aw_e rfl rfl rfl ?_
  refine aw_e rfl rfl rfl ?_
  refine aw_e rfl rfl rfl ?_
  refine aw_e rfl rfl rfl ?_
  refine aw_e rfl rfl rfl ?_
  refine aw_e rfl rfl rfl ?_
  refine aw_i2f rfl (by decide +kernel) ?_
  refine aw_e rfl rfl rfl ?_
  refine aw_e rfl rfl rfl ?_
  refine aw_i1f rfl (by decide +kernel) ?_
  refine aw_e rfl rfl rfl ?_
  refine aw_e rfl rfl rfl ?_
  refine aw_e rfl rfl rfl ?_
  refine aw_e rfl rfl rfl ?_
  refine aw_e rfl rfl rfl ?_
  refine aw_e rfl rfl rfl ?_
  refine aw_e rfl rfl rfl ?_
  refine aw_e rfl rfl rfl ?_
  refine aw_e rfl rfl rfl ?_
  refine aw_e rfl rfl rfl ?_
  refine aw_e rfl rfl rfl ?_
  refine aw_e rfl rfl rfl ?_
  refine aw_e rfl rfl rfl ?_
  refine aw_e rfl rfl rfl ?_
  refine aw_e rfl rfl rfl ?_
  refine aw_e rfl rfl rfl ?_
  refine aw_e rfl rfl rfl ?_
  refine aw_e rfl rfl rfl ?_
  refine aw_e rfl rfl rfl ?_
  refine aw_e rfl rfl rfl ?_
  refine aw_i2f rfl (by decide +kernel) ?_
  refine aw_e rfl rfl rfl ?_
  refine aw_e rfl rfl rfl ?_
  refine aw_i1f rfl (by decide +kernel) ?_
  refine aw_e rfl rfl rfl ?_
  refine aw_e rfl rfl rfl ?_
  refine aw_e rfl rfl rfl ?_
  refine aw_e rfl rfl rfl ?_
  refine aw_e rfl rfl rfl ?_
  refine aw_e rfl rfl rfl ?_
  refine aw_e rfl rfl rfl ?_
  refine aw_e rfl rfl rfl ?_
  refine aw_e rfl rfl rfl ?_
  refine aw_e rfl rfl rfl ?_
  refine aw_e rfl rfl rfl ?_
  refine aw_e rfl rfl rfl ?_
  refine aw_e rfl rfl rfl ?_
  refine aw_e rfl rfl rfl ?_
  refine aw_e rfl rfl rfl ?_
  refine aw_e rfl rfl rfl ?_
  refine aw_e rfl rfl rfl ?_
  refine aw_e rfl rfl rfl ?_
  refine aw_e rfl rfl rfl ?_
  refine aw_e rfl rfl rfl ?_
  refine aw_i2f rfl (by decide +kernel) ?_
  refine aw_e rfl rfl rfl ?_
  refine aw_e rfl rfl rfl ?_
  refine aw_i1f rfl (by decide +kernel) ?_
  refine aw_e rfl rfl rfl ?_
  refine aw_e rfl rfl rfl ?_
  refine aw_e rfl rfl rfl ?_
  refine aw_e rfl rfl rfl ?_
  refine aw_e rfl rfl rfl ?_
  refine aw_e rfl rfl rfl ?_
  refine aw_e rfl rfl rfl ?_
  refine aw_e rfl rfl rfl ?_
  refine aw_e rfl rfl rfl ?_
  refine aw_e rfl rfl rfl ?_
  refine aw_e rfl rfl rfl ?_
  refine aw_e rfl rfl rfl ?_
  refine aw_e rfl rfl rfl ?_
  refine aw_e rfl rfl rfl ?_
  refine aw_e rfl rfl rfl ?_
  refine aw_e rfl rfl rfl ?_
  refine aw_e rfl rfl rfl ?_
  refine aw_e rfl rfl rfl ?_
  refine aw_e rfl rfl rfl ?_
  refine aw_e rfl rfl rfl ?_
  refine aw_i2f rfl (by decide +kernel) ?_
  refine aw_e rfl rfl rfl ?_
  refine aw_e rfl rfl rfl ?_
  refine aw_i1f rfl (by decide +kernel) ?_
  refine aw_e rfl rfl rfl ?_
  refine aw_e rfl rfl rfl ?_
  refine aw_e rfl rfl rfl ?_
  refine aw_e rfl rfl rfl ?_
  refine aw_e rfl rfl rfl ?_
  refine aw_e rfl rfl rfl ?_
  refine aw_e rfl rfl rfl ?_
  refine aw_e rfl rfl rfl ?_
  refine aw_e rfl rfl rfl ?_
  refine aw_e rfl rfl rfl ?_
  refine aw_e rfl rfl rfl ?_
  refine aw_e rfl rfl rfl ?_
  refine aw_e rfl rfl rfl ?_
  refine aw_e rfl rfl rfl ?_
  refine aw_e rfl rfl rfl ?_
  refine aw_e rfl rfl rfl ?_
  refine aw_e rfl rfl rfl ?_
  refine aw_e rfl rfl rfl ?_
  refine aw_e rfl rfl rfl ?_
  refine aw_e rfl rfl rfl ?_
  refine aw_i2f rfl (by decide +kernel) ?_
  refine aw_e rfl rfl rfl ?_
  refine aw_e rfl rfl rfl ?_
  refine aw_i1f rfl (by decide +kernel) ?_
  refine aw_e rfl rfl rfl ?_
  refine aw_e rfl rfl rfl ?_
  refine aw_e rfl rfl rfl ?_
  refine aw_e rfl rfl rfl ?_
  refine aw_e rfl rfl rfl ?_
  refine aw_e rfl rfl rfl ?_
  refine aw_e rfl rfl rfl ?_
  refine aw_e rfl rfl rfl ?_
  refine aw_e rfl rfl rfl ?_
  refine aw_e rfl rfl rfl ?_
  refine aw_e rfl rfl rfl ?_
  refine aw_e rfl rfl rfl ?_
  refine aw_e rfl rfl rfl ?_
  refine aw_e rfl rfl rfl ?_
  refine aw_e rfl rfl rfl ?_
  refine aw_e rfl rfl rfl ?_
  refine aw_e rfl rfl rfl ?_
  refine aw_e rfl rfl rfl ?_
  refine aw_e rfl rfl rfl ?_
  refine aw_e rfl rfl rfl ?_
  refine aw_i2f rfl (by decide +kernel) ?_
  refine aw_e rfl rfl rfl ?_
  refine aw_e rfl rfl rfl ?_
  refine aw_i1f rfl (by decide +kernel) ?_
  refine aw_e rfl rfl rfl ?_
  refine aw_e rfl rfl rfl ?_
  refine aw_e rfl rfl rfl ?_
  refine aw_e rfl rfl rfl ?_
  refine aw_e rfl rfl rfl ?_
  refine aw_e rfl rfl rfl ?_
  refine aw_e rfl rfl rfl ?_
  refine aw_e rfl rfl rfl ?_
  refine aw_e rfl rfl rfl ?_
  refine aw_e rfl rfl rfl ?_
  refine aw_e rfl rfl rfl ?_
  refine aw_e rfl rfl rfl ?_
  refine aw_e rfl rfl rfl ?_
  refine aw_e rfl rfl rfl ?_
  refine aw_e rfl rfl rfl ?_
  refine aw_e rfl rfl rfl ?_
  refine aw_e rfl rfl rfl ?_
  refine aw_e rfl rfl rfl ?_
  refine aw_e rfl rfl rfl ?_
  refine aw_e rfl rfl rfl ?_
  refine aw_i2f rfl (by decide +kernel) ?_
  refine aw_e rfl rfl rfl ?_
  refine aw_e rfl rfl rfl ?_
  refine aw_i1f rfl (by decide +kernel) ?_
  refine aw_e rfl rfl rfl ?_
  refine aw_e rfl rfl rfl ?_
  refine aw_e rfl rfl rfl ?_
  refine aw_e rfl rfl rfl ?_
  refine aw_e rfl rfl rfl ?_
  refine aw_e rfl rfl rfl ?_
  refine aw_e rfl rfl rfl ?_
  refine aw_e rfl rfl rfl ?_
  refine aw_e rfl rfl rfl ?_
  refine aw_e rfl rfl rfl ?_
  refine aw_e rfl rfl rfl ?_
  refine aw_e rfl rfl rfl ?_
  refine aw_e rfl rfl rfl ?_
  refine aw_e rfl rfl rfl ?_
  refine aw_e rfl rfl rfl ?_
  refine aw_e rfl rfl rfl ?_
  refine aw_e rfl rfl rfl ?_
  refine aw_e rfl rfl rfl ?_
  refine aw_e rfl rfl rfl ?_
  refine aw_e rfl rfl rfl ?_
  refine aw_i2t rfl (by decide +kernel) ?_
  refine aw_rv rfl ?_
  refine aw_e rfl rfl rfl ?_
  refine aw_e rfl rfl rfl ?_
  refine aw_e rfl rfl rfl ?_
  refine aw_e rfl rfl rfl ?_
  refine aw_ci rfl rfl (by decide) rfl rfl ?_
  refine aw_e rfl rfl rfl ?_
  refine aw_e rfl rfl rfl ?_
  refine aw_i1f rfl (by decide +kernel) ?_
  refine aw_e rfl rfl rfl ?_
  refine aw_e rfl rfl rfl ?_
  refine aw_e rfl rfl rfl ?_
  refine aw_e rfl rfl rfl ?_
  refine aw_e rfl rfl rfl ?_
  refine aw_i1f rfl (by decide +kernel) ?_
  refine aw_e rfl rfl rfl ?_
  refine aw_e rfl rfl rfl ?_
  refine aw_e rfl rfl rfl ?_
  refine aw_e rfl rfl rfl ?_
  refine aw_e rfl rfl rfl ?_
  refine aw_e rfl rfl rfl ?_
  refine aw_e rfl rfl rfl ?_
  refine aw_e rfl rfl rfl ?_
  refine aw_e rfl rfl rfl ?_
  refine aw_e rfl rfl rfl ?_
  refine aw_e rfl rfl rfl ?_
  refine aw_e rfl rfl rfl ?_
  refine aw_e rfl rfl rfl ?_
  refine aw_ri rfl (by first | exact Or.inl rfl | exact Or.inr (by decide +kernel)) ?_
  refine aw_e rfl rfl rfl ?_
  refine aw_e rfl rfl rfl ?_
  refine aw_e rfl rfl rfl ?_
  refine aw_e rfl rfl rfl ?_
  refine aw_e rfl rfl rfl ?_
  refine aw_ci rfl rfl (by decide) rfl rfl ?_
  refine aw_e rfl rfl rfl ?_
  refine aw_e rfl rfl rfl ?_
  refine aw_i1f rfl (by decide +kernel) ?_
  refine aw_e rfl rfl rfl ?_
  refine aw_e rfl rfl rfl ?_
  refine aw_e rfl rfl rfl ?_
  refine aw_e rfl rfl rfl ?_
  refine aw_e rfl rfl rfl ?_
  refine aw_i1f rfl (by decide +kernel) ?_
  refine aw_e rfl rfl rfl ?_
  refine aw_e rfl rfl rfl ?_
  refine aw_e rfl rfl rfl ?_
  refine aw_e rfl rfl rfl ?_
  refine aw_e rfl rfl rfl ?_
  refine aw_e rfl rfl rfl ?_
  refine aw_e rfl rfl rfl ?_
  refine aw_e rfl rfl rfl ?_
  refine aw_e rfl rfl rfl ?_
  refine aw_e rfl rfl rfl ?_
  refine aw_e rfl rfl rfl ?_
  refine aw_e rfl rfl rfl ?_
  refine aw_e rfl rfl rfl ?_
  refine aw_ri rfl (by first | exact Or.inl rfl | exact Or.inr (by decide +kernel)) ?_
  refine aw_e rfl rfl rfl ?_
  refine aw_e rfl rfl rfl ?_
  refine aw_e rfl rfl rfl ?_
  refine aw_e rfl rfl rfl ?_
  refine aw_e rfl rfl rfl ?_
  refine aw_ci rfl rfl (by decide) rfl rfl ?_
  refine aw_e rfl rfl rfl ?_
  refine aw_e rfl rfl rfl ?_
  refine aw_i1f rfl (by decide +kernel) ?_
  refine aw_e rfl rfl rfl ?_
  refine aw_e rfl rfl rfl ?_
  refine aw_e rfl rfl rfl ?_
  refine aw_e rfl rfl rfl ?_
  refine aw_e rfl rfl rfl ?_
  refine aw_i1f rfl (by decide +kernel) ?_
  refine aw_e rfl rfl rfl ?_
  refine aw_e rfl rfl rfl ?_
  refine aw_e rfl rfl rfl ?_
  refine aw_e rfl rfl rfl ?_
  refine aw_e rfl rfl rfl ?_
  refine aw_e rfl rfl rfl ?_
  refine aw_e rfl rfl rfl ?_
  refine aw_e rfl rfl rfl ?_
  refine aw_e rfl rfl rfl ?_
  refine aw_e rfl rfl rfl ?_
  refine aw_e rfl rfl rfl ?_
  refine aw_e rfl rfl rfl ?_
  refine aw_e rfl rfl rfl ?_
  refine aw_ri rfl (by first | exact Or.inl rfl | exact Or.inr (by decide +kernel)) ?_
  refine aw_e rfl rfl rfl ?_
  refine aw_rv rfl ?_
  refine aw_e rfl rfl rfl ?_
  refine aw_e rfl rfl rfl ?_
  refine aw_e rfl rfl rfl ?_
  refine aw_e rfl rfl rfl ?_
  refine aw_e rfl rfl rfl ?_
  refine aw_e rfl rfl rfl ?_
  refine aw_e rfl rfl rfl ?_
  refine aw_i2t rfl (by decide +kernel) ?_
  refine aw_e rfl rfl rfl ?_
  refine aw_e rfl rfl rfl ?_
  refine aw_e rfl rfl rfl ?_
  refine aw_e rfl rfl rfl ?_
  refine aw_e rfl rfl rfl ?_
  refine aw_e rfl rfl rfl ?_
  refine aw_e rfl rfl rfl ?_
  refine aw_e rfl rfl rfl ?_
  refine aw_e rfl rfl rfl ?_
  refine aw_i2f rfl (by decide +kernel) ?_
  refine aw_e rfl rfl rfl ?_
  refine aw_e rfl rfl rfl ?_
  refine aw_e rfl rfl rfl ?_
  refine aw_e rfl rfl rfl ?_
  refine aw_e rfl rfl rfl ?_
  refine aw_i1f rfl (by decide +kernel) ?_
  refine aw_e rfl rfl rfl ?_
  refine aw_i1t rfl (by decide +kernel) ?_
  refine aw_e rfl rfl rfl ?_
  refine aw_e rfl rfl rfl ?_
  refine aw_e rfl rfl rfl ?_
  refine aw_ci rfl rfl (by decide) rfl rfl ?_
  refine aw_e rfl rfl rfl ?_
  refine aw_e rfl rfl rfl ?_
  refine aw_e rfl rfl rfl ?_
  refine aw_e rfl rfl rfl ?_
  refine aw_e rfl rfl rfl ?_
  refine aw_e rfl rfl rfl ?_
  refine aw_e rfl rfl rfl ?_
  refine aw_e rfl rfl rfl ?_
  refine aw_e rfl rfl rfl ?_
  refine aw_e rfl rfl rfl ?_
  refine aw_e rfl rfl rfl ?_
  refine aw_ci rfl rfl (by decide) rfl rfl ?_
  refine aw_e rfl rfl rfl ?_
  refine aw_e rfl rfl rfl ?_
  refine aw_e rfl rfl rfl ?_
  refine aw_e rfl rfl rfl ?_
  refine aw_e rfl rfl rfl ?_
  refine aw_i2f rfl (by decide +kernel) ?_
  refine aw_e rfl rfl rfl ?_
  refine aw_e rfl rfl rfl ?_
  refine aw_i1t rfl (by decide +kernel) ?_
  refine aw_e rfl rfl rfl ?_
  refine aw_e rfl rfl rfl ?_
  refine aw_e rfl rfl rfl ?_
  refine aw_e rfl rfl rfl ?_
  refine aw_e rfl rfl rfl ?_
  refine aw_e rfl rfl rfl ?_
  refine aw_e rfl rfl rfl ?_
  refine aw_e rfl rfl rfl ?_
  refine aw_e rfl rfl rfl ?_
  refine aw_e rfl rfl rfl ?_
  refine aw_e rfl rfl rfl ?_
  refine aw_e rfl rfl rfl ?_
  refine aw_e rfl rfl rfl ?_
  refine aw_e rfl rfl rfl ?_
  refine aw_e rfl rfl rfl ?_
  refine aw_e rfl rfl rfl ?_
  refine aw_e rfl rfl rfl ?_
  refine aw_e rfl rfl rfl ?_
  refine aw_e rfl rfl rfl ?_
  refine aw_i2f rfl (by decide +kernel) ?_
  refine aw_e rfl rfl rfl ?_
  refine aw_e rfl rfl rfl ?_
  refine aw_i1t rfl (by decide +kernel) ?_
  refine aw_e rfl rfl rfl ?_
  refine aw_e rfl rfl rfl ?_
  refine aw_e rfl rfl rfl ?_
  refine aw_e rfl rfl rfl ?_
  refine aw_e rfl rfl rfl ?_
  refine aw_e rfl rfl rfl ?_
  refine aw_e rfl rfl rfl ?_
  refine aw_e rfl rfl rfl ?_
  refine aw_e rfl rfl rfl ?_
  refine aw_e rfl rfl rfl ?_
  refine aw_e rfl rfl rfl ?_
  refine aw_e rfl rfl rfl ?_
  refine aw_e rfl rfl rfl ?_
  refine aw_e rfl rfl rfl ?_
  refine aw_e rfl rfl rfl ?_
  refine aw_e rfl rfl rfl ?_
  refine aw_e rfl rfl rfl ?_
  refine aw_e rfl rfl rfl ?_
  refine aw_e rfl rfl rfl ?_
  refine aw_i2f rfl (by decide +kernel) ?_
  refine aw_e rfl rfl rfl ?_
  refine aw_e rfl rfl rfl ?_
  refine aw_i1t rfl (by decide +kernel) ?_
  refine aw_e rfl rfl rfl ?_
  refine aw_e rfl rfl rfl ?_
  refine aw_e rfl rfl rfl ?_
  refine aw_e rfl rfl rfl ?_
  refine aw_e rfl rfl rfl ?_
  refine aw_e rfl rfl rfl ?_
  refine aw_e rfl rfl rfl ?_
  refine aw_e rfl rfl rfl ?_
  refine aw_e rfl rfl rfl ?_
  refine aw_e rfl rfl rfl ?_
  refine aw_e rfl rfl rfl ?_
  refine aw_e rfl rfl rfl ?_
  refine aw_e rfl rfl rfl ?_
  refine aw_e rfl rfl rfl ?_
  refine aw_e rfl rfl rfl ?_
  refine aw_e rfl rfl rfl ?_
  refine aw_e rfl rfl rfl ?_
  refine aw_e rfl rfl rfl ?_
  refine aw_e rfl rfl rfl ?_
  refine aw_i2f rfl (by decide +kernel) ?_
  refine aw_e rfl rfl rfl ?_
  refine aw_e rfl rfl rfl ?_
  refine aw_i1t rfl (by decide +kernel) ?_
  refine aw_e rfl rfl rfl ?_
  refine aw_e rfl rfl rfl ?_
  refine aw_e rfl rfl rfl ?_
  refine aw_e rfl rfl rfl ?_
  refine aw_e rfl rfl rfl ?_
  refine aw_e rfl rfl rfl ?_
  refine aw_e rfl rfl rfl ?_
  refine aw_e rfl rfl rfl ?_
  refine aw_e rfl rfl rfl ?_
  refine aw_e rfl rfl rfl ?_
  refine aw_e rfl rfl rfl ?_
  refine aw_e rfl rfl rfl ?_
  refine aw_e rfl rfl rfl ?_
  refine aw_e rfl rfl rfl ?_
  refine aw_e rfl rfl rfl ?_
  refine aw_e rfl rfl rfl ?_
  refine aw_e rfl rfl rfl ?_
  refine aw_e rfl rfl rfl ?_
  refine aw_e rfl rfl rfl ?_
  refine aw_i2f rfl (by decide +kernel) ?_
  refine aw_e rfl rfl rfl ?_
  refine aw_e rfl rfl rfl ?_
  refine aw_i1t rfl (by decide +kernel) ?_
  refine aw_e rfl rfl rfl ?_
  refine aw_e rfl rfl rfl ?_
  refine aw_e rfl rfl rfl ?_
  refine aw_e rfl rfl rfl ?_
  refine aw_e rfl rfl rfl ?_
  refine aw_e rfl rfl rfl ?_
  refine aw_e rfl rfl rfl ?_
  refine aw_e rfl rfl rfl ?_
  refine aw_e rfl rfl rfl ?_
  refine aw_e rfl rfl rfl ?_
  refine aw_e rfl rfl rfl ?_
  refine aw_e rfl rfl rfl ?_
  refine aw_e rfl rfl rfl ?_
  refine aw_e rfl rfl rfl ?_
  refine aw_e rfl rfl rfl ?_
  refine aw_e rfl rfl rfl ?_
  refine aw_e rfl rfl rfl ?_
  refine aw_e rfl rfl rfl ?_
  refine aw_e rfl rfl rfl ?_
  refine aw_i2t rfl (by decide +kernel) ?_
  refine aw_rv rfl ?_
  refine aw_e rfl rfl rfl ?_
  refine aw_e rfl rfl rfl ?_
  refine aw_e rfl rfl rfl ?_
  refine aw_ci rfl rfl (by decide) rfl rfl ?_
  refine aw_e rfl rfl rfl ?_
  refine aw_e rfl rfl rfl ?_
  refine aw_e rfl rfl rfl ?_
  refine aw_e rfl rfl rfl ?_
  refine aw_e rfl rfl rfl ?_
  refine aw_i2f rfl (by decide +kernel) ?_
  refine aw_e rfl rfl rfl ?_
  refine aw_e rfl rfl rfl ?_
  refine aw_i1t rfl (by decide +kernel) ?_
  refine aw_e rfl rfl rfl ?_
  refine aw_e rfl rfl rfl ?_
  refine aw_e rfl rfl rfl ?_
  refine aw_e rfl rfl rfl ?_
  refine aw_e rfl rfl rfl ?_
  refine aw_e rfl rfl rfl ?_
  refine aw_e rfl rfl rfl ?_
  refine aw_e rfl rfl rfl ?_
  refine aw_e rfl rfl rfl ?_
  refine aw_e rfl rfl rfl ?_
  refine aw_e rfl rfl rfl ?_
  refine aw_e rfl rfl rfl ?_
  refine aw_e rfl rfl rfl ?_
  refine aw_e rfl rfl rfl ?_
  refine aw_e rfl rfl rfl ?_
  refine aw_e rfl rfl rfl ?_
  refine aw_e rfl rfl rfl ?_
  refine aw_e rfl rfl rfl ?_
  refine aw_e rfl rfl rfl ?_
  refine aw_i2f rfl (by decide +kernel) ?_
  refine aw_e rfl rfl rfl ?_
  refine aw_e rfl rfl rfl ?_
  refine aw_i1t rfl (by decide +kernel) ?_
  refine aw_e rfl rfl rfl ?_
  refine aw_e rfl rfl rfl ?_
  refine aw_e rfl rfl rfl ?_
  refine aw_e rfl rfl rfl ?_
  refine aw_e rfl rfl rfl ?_
  refine aw_e rfl rfl rfl ?_
  refine aw_e rfl rfl rfl ?_
  refine aw_e rfl rfl rfl ?_
  refine aw_e rfl rfl rfl ?_
  refine aw_e rfl rfl rfl ?_
  refine aw_e rfl rfl rfl ?_
  refine aw_e rfl rfl rfl ?_
  refine aw_e rfl rfl rfl ?_
  refine aw_e rfl rfl rfl ?_
  refine aw_e rfl rfl rfl ?_
  refine aw_e rfl rfl rfl ?_
  refine aw_e rfl rfl rfl ?_
  refine aw_e rfl rfl rfl ?_
  refine aw_e rfl rfl rfl ?_
  refine aw_i2f rfl (by decide +kernel) ?_
  refine aw_e rfl rfl rfl ?_
  refine aw_e rfl rfl rfl ?_
  refine aw_i1t rfl (by decide +kernel) ?_
  refine aw_e rfl rfl rfl ?_
  refine aw_e rfl rfl rfl ?_
  refine aw_e rfl rfl rfl ?_
  refine aw_e rfl rfl rfl ?_
  refine aw_e rfl rfl rfl ?_
  refine aw_e rfl rfl rfl ?_
  refine aw_e rfl rfl rfl ?_
  refine aw_e rfl rfl rfl ?_
  refine aw_e rfl rfl rfl ?_
  refine aw_e rfl rfl rfl ?_
  refine aw_e rfl rfl rfl ?_
  refine aw_e rfl rfl rfl ?_
  refine aw_e rfl rfl rfl ?_
  refine aw_e rfl rfl rfl ?_
  refine aw_e rfl rfl rfl ?_
  refine aw_e rfl rfl rfl ?_
  refine aw_e rfl rfl rfl ?_
  refine aw_e rfl rfl rfl ?_
  refine aw_e rfl rfl rfl ?_
  refine aw_i2f rfl (by decide +kernel) ?_
  refine aw_e rfl rfl rfl ?_
  refine aw_e rfl rfl rfl ?_
  refine aw_i1t rfl (by decide +kernel) ?_
  refine aw_e rfl rfl rfl ?_
  refine aw_e rfl rfl rfl ?_
  refine aw_e rfl rfl rfl ?_
  refine aw_e rfl rfl rfl ?_
  refine aw_e rfl rfl rfl ?_
  refine aw_e rfl rfl rfl ?_
  refine aw_e rfl rfl rfl ?_
  refine aw_e rfl rfl rfl ?_
  refine aw_e rfl rfl rfl ?_
  refine aw_e rfl rfl rfl ?_
  refine aw_e rfl rfl rfl ?_
  refine aw_e rfl rfl rfl ?_
  refine aw_e rfl rfl rfl ?_
  refine aw_e rfl rfl rfl ?_
  refine aw_e rfl rfl rfl ?_
  refine aw_e rfl rfl rfl ?_
  refine aw_e rfl rfl rfl ?_
  refine aw_e rfl rfl rfl ?_
  refine aw_e rfl rfl rfl ?_
  refine aw_i2f rfl (by decide +kernel) ?_
  refine aw_e rfl rfl rfl ?_
  refine aw_e rfl rfl rfl ?_
  refine aw_i1t rfl (by decide +kernel) ?_
  refine aw_e rfl rfl rfl ?_
  refine aw_e rfl rfl rfl ?_
  refine aw_e rfl rfl rfl ?_
  refine aw_e rfl rfl rfl ?_
  refine aw_e rfl rfl rfl ?_
  refine aw_e rfl rfl rfl ?_
  refine aw_e rfl rfl rfl ?_
  refine aw_e rfl rfl rfl ?_
  refine aw_e rfl rfl rfl ?_
  refine aw_e rfl rfl rfl ?_
  refine aw_e rfl rfl rfl ?_
  refine aw_e rfl rfl rfl ?_
  refine aw_e rfl rfl rfl ?_
  refine aw_e rfl rfl rfl ?_
  refine aw_e rfl rfl rfl ?_
  refine aw_e rfl rfl rfl ?_
  refine aw_e rfl rfl rfl ?_
  refine aw_e rfl rfl rfl ?_
  refine aw_e rfl rfl rfl ?_
  refine aw_i2f rfl (by decide +kernel) ?_
  refine aw_e rfl rfl rfl ?_
  refine aw_e rfl rfl rfl ?_
  refine aw_i1t rfl (by decide +kernel) ?_
  refine aw_e rfl rfl rfl ?_
  refine aw_e rfl rfl rfl ?_
  refine aw_e rfl rfl rfl ?_
  refine aw_e rfl rfl rfl ?_
  refine aw_e rfl rfl rfl ?_
  refine aw_e rfl rfl rfl ?_
  refine aw_e rfl rfl rfl ?_
  refine aw_e rfl rfl rfl ?_
  refine aw_e rfl rfl rfl ?_
  refine aw_e rfl rfl rfl ?_
  refine aw_e rfl rfl rfl ?_
  refine aw_e rfl rfl rfl ?_
  refine aw_e rfl rfl rfl ?_
  refine aw_e rfl rfl rfl ?_
  refine aw_e rfl rfl rfl ?_
  refine aw_e rfl rfl rfl ?_
  refine aw_e rfl rfl rfl ?_
  refine aw_e rfl rfl rfl ?_
  refine aw_e rfl rfl rfl ?_
  refine aw_i2f rfl (by decide +kernel) ?_
  refine aw_e rfl rfl rfl ?_
  refine aw_e rfl rfl rfl ?_
  refine aw_i1t rfl (by decide +kernel) ?_
  refine aw_e rfl rfl rfl ?_
  refine aw_e rfl rfl rfl ?_
  refine aw_e rfl rfl rfl ?_
  refine aw_e rfl rfl rfl ?_
  refine aw_e rfl rfl rfl ?_
  refine aw_e rfl rfl rfl ?_
  refine aw_e rfl rfl rfl ?_
  refine aw_e rfl rfl rfl ?_
  refine aw_e rfl rfl rfl ?_
  refine aw_e rfl rfl rfl ?_
  refine aw_e rfl rfl rfl ?_
  refine aw_e rfl rfl rfl ?_
  refine aw_e rfl rfl rfl ?_
  refine aw_e rfl rfl rfl ?_
  refine aw_e rfl rfl rfl ?_
  refine aw_e rfl rfl rfl ?_
  refine aw_e rfl rfl rfl ?_
  refine aw_e rfl rfl rfl ?_
  refine aw_e rfl rfl rfl ?_
  refine aw_i2f rfl (by decide +kernel) ?_
  refine aw_e rfl rfl rfl ?_
  refine aw_e rfl rfl rfl ?_
  refine aw_i1t rfl (by decide +kernel) ?_
  refine aw_e rfl rfl rfl ?_
  refine aw_e rfl rfl rfl ?_
  refine aw_e rfl rfl rfl ?_
  refine aw_e rfl rfl rfl ?_
  refine aw_e rfl rfl rfl ?_
  refine aw_e rfl rfl rfl ?_
  refine aw_e rfl rfl rfl ?_
  refine aw_e rfl rfl rfl ?_
  refine aw_e rfl rfl rfl ?_
  refine aw_e rfl rfl rfl ?_
  refine aw_e rfl rfl rfl ?_
  refine aw_e rfl rfl rfl ?_
  refine aw_e rfl rfl rfl ?_
  refine aw_e rfl rfl rfl ?_
  refine aw_e rfl rfl rfl ?_
  refine aw_e rfl rfl rfl ?_
  refine aw_e rfl rfl rfl ?_
  refine aw_e rfl rfl rfl ?_
  refine aw_e rfl rfl rfl ?_
  refine aw_i2t rfl (by decide +kernel) ?_
  refine aw_rv rfl ?_
  refine aw_e rfl rfl rfl ?_
  refine aw_e rfl rfl rfl ?_
  refine aw_e rfl rfl rfl ?_
  refine aw_ci rfl rfl (by decide) rfl rfl ?_
  refine aw_e rfl rfl rfl ?_
  refine aw_e rfl rfl rfl ?_
  refine aw_e rfl rfl rfl ?_
  refine aw_e rfl rfl rfl ?_
  refine aw_e rfl rfl rfl ?_
  refine aw_i2f rfl (by decide +kernel) ?_
  refine aw_e rfl rfl rfl ?_
  refine aw_e rfl rfl rfl ?_
  refine aw_i1t rfl (by decide +kernel) ?_
  refine aw_e rfl rfl rfl ?_
  refine aw_e rfl rfl rfl ?_
  refine aw_e rfl rfl rfl ?_
  refine aw_e rfl rfl rfl ?_
  refine aw_e rfl rfl rfl ?_
  refine aw_e rfl rfl rfl ?_
  refine aw_e rfl rfl rfl ?_
  refine aw_e rfl rfl rfl ?_
  refine aw_e rfl rfl rfl ?_
  refine aw_e rfl rfl rfl ?_
  refine aw_e rfl rfl rfl ?_
  refine aw_e rfl rfl rfl ?_
  refine aw_e rfl rfl rfl ?_
  refine aw_e rfl rfl rfl ?_
  refine aw_e rfl rfl rfl ?_
  refine aw_e rfl rfl rfl ?_
  refine aw_e rfl rfl rfl ?_
  refine aw_e rfl rfl rfl ?_
  refine aw_e rfl rfl rfl ?_
  refine aw_i2f rfl (by decide +kernel) ?_
  refine aw_e rfl rfl rfl ?_
  refine aw_e rfl rfl rfl ?_
  refine aw_i1t rfl (by decide +kernel) ?_
  refine aw_e rfl rfl rfl ?_
  refine aw_e rfl rfl rfl ?_
  refine aw_e rfl rfl rfl ?_
  refine aw_e rfl rfl rfl ?_
  refine aw_e rfl rfl rfl ?_
  refine aw_e rfl rfl rfl ?_
  refine aw_e rfl rfl rfl ?_
  refine aw_e rfl rfl rfl ?_
  refine aw_e rfl rfl rfl ?_
  refine aw_e rfl rfl rfl ?_
  refine aw_e rfl rfl rfl ?_
  refine aw_e rfl rfl rfl ?_
  refine aw_e rfl rfl rfl ?_
  refine aw_e rfl rfl rfl ?_
  refine aw_e rfl rfl rfl ?_
  refine aw_e rfl rfl rfl ?_
  refine aw_e rfl rfl rfl ?_
  refine aw_e rfl rfl rfl ?_
  refine aw_e rfl rfl rfl ?_
  refine aw_i2f rfl (by decide +kernel) ?_
  refine aw_e rfl rfl rfl ?_
  refine aw_e rfl rfl rfl ?_
  refine aw_i1t rfl (by decide +kernel) ?_
  refine aw_e rfl rfl rfl ?_
  refine aw_e rfl rfl rfl ?_
  refine aw_e rfl rfl rfl ?_
  refine aw_e rfl rfl rfl ?_
  refine aw_e rfl rfl rfl ?_
  refine aw_e rfl rfl rfl ?_
  refine aw_e rfl rfl rfl ?_
  refine aw_e rfl rfl rfl ?_
  refine aw_e rfl rfl rfl ?_
  refine aw_e rfl rfl rfl ?_
  refine aw_e rfl rfl rfl ?_
  refine aw_e rfl rfl rfl ?_
  refine aw_e rfl rfl rfl ?_
  refine aw_e rfl rfl rfl ?_
  refine aw_e rfl rfl rfl ?_
  refine aw_e rfl rfl rfl ?_
  refine aw_e rfl rfl rfl ?_
  refine aw_e rfl rfl rfl ?_
  refine aw_e rfl rfl rfl ?_
  refine aw_i2f rfl (by decide +kernel) ?_
  refine aw_e rfl rfl rfl ?_
  refine aw_e rfl rfl rfl ?_
  refine aw_i1t rfl (by decide +kernel) ?_
  refine aw_e rfl rfl rfl ?_
  refine aw_e rfl rfl rfl ?_
  refine aw_e rfl rfl rfl ?_
  refine aw_e rfl rfl rfl ?_
  refine aw_e rfl rfl rfl ?_
  refine aw_e rfl rfl rfl ?_
  refine aw_e rfl rfl rfl ?_
  refine aw_e rfl rfl rfl ?_
  refine aw_e rfl rfl rfl ?_
  refine aw_e rfl rfl rfl ?_
  refine aw_e rfl rfl rfl ?_
  refine aw_e rfl rfl rfl ?_
  refine aw_e rfl rfl rfl ?_
  refine aw_e rfl rfl rfl ?_
  refine aw_e rfl rfl rfl ?_
  refine aw_e rfl rfl rfl ?_
  refine aw_e rfl rfl rfl ?_
  refine aw_e rfl rfl rfl ?_
  refine aw_e rfl rfl rfl ?_
  refine aw_i2f rfl (by decide +kernel) ?_
  refine aw_e rfl rfl rfl ?_
  refine aw_e rfl rfl rfl ?_
  refine aw_i1t rfl (by decide +kernel) ?_
  refine aw_e rfl rfl rfl ?_
  refine aw_e rfl rfl rfl ?_
  refine aw_e rfl rfl rfl ?_
  refine aw_e rfl rfl rfl ?_
  refine aw_e rfl rfl rfl ?_
  refine aw_e rfl rfl rfl ?_
  refine aw_e rfl rfl rfl ?_
  refine aw_e rfl rfl rfl ?_
  refine aw_e rfl rfl rfl ?_
  refine aw_e rfl rfl rfl ?_
  refine aw_e rfl rfl rfl ?_
  refine aw_e rfl rfl rfl ?_
  refine aw_e rfl rfl rfl ?_
  refine aw_e rfl rfl rfl ?_
  refine aw_e rfl rfl rfl ?_
  refine aw_e rfl rfl rfl ?_
  refine aw_e rfl rfl rfl ?_
  refine aw_e rfl rfl rfl ?_
  refine aw_e rfl rfl rfl ?_
  refine aw_i2f rfl (by decide +kernel) ?_
  refine aw_e rfl rfl rfl ?_
  refine aw_e rfl rfl rfl ?_
  refine aw_i1t rfl (by decide +kernel) ?_
  refine aw_e rfl rfl rfl ?_
  refine aw_e rfl rfl rfl ?_
  refine aw_e rfl rfl rfl ?_
  refine aw_e rfl rfl rfl ?_
  refine aw_e rfl rfl rfl ?_
  refine aw_e rfl rfl rfl ?_
  refine aw_e rfl rfl rfl ?_
  refine aw_e rfl rfl rfl ?_
  refine aw_e rfl rfl rfl ?_
  refine aw_e rfl rfl rfl ?_
  refine aw_e rfl rfl rfl ?_
  refine aw_e rfl rfl rfl ?_
  refine aw_e rfl rfl rfl ?_
  refine aw_e rfl rfl rfl ?_
  refine aw_e rfl rfl rfl ?_
  refine aw_e rfl rfl rfl ?_
  refine aw_e rfl rfl rfl ?_
  refine aw_e rfl rfl rfl ?_
  refine aw_e rfl rfl rfl ?_
  refine aw_i2f rfl (by decide +kernel) ?_
  refine aw_e rfl rfl rfl ?_
  refine aw_e rfl rfl rfl ?_
  refine aw_i1t rfl (by decide +kernel) ?_
  refine aw_e rfl rfl rfl ?_
  refine aw_e rfl rfl rfl ?_
  refine aw_e rfl rfl rfl ?_
  refine aw_e rfl rfl rfl ?_
  refine aw_e rfl rfl rfl ?_
  refine aw_e rfl rfl rfl ?_
  refine aw_e rfl rfl rfl ?_
  refine aw_e rfl rfl rfl ?_
  refine aw_e rfl rfl rfl ?_
  refine aw_e rfl rfl rfl ?_
  refine aw_e rfl rfl rfl ?_
  refine aw_e rfl rfl rfl ?_
  refine aw_e rfl rfl rfl ?_
  refine aw_e rfl rfl rfl ?_
  refine aw_e rfl rfl rfl ?_
  refine aw_e rfl rfl rfl ?_
  refine aw_e rfl rfl rfl ?_
  refine aw_e rfl rfl rfl ?_
  refine aw_e rfl rfl rfl ?_
  refine aw_i2f rfl (by decide +kernel) ?_
  refine aw_e rfl rfl rfl ?_
  refine aw_e rfl rfl rfl ?_
  refine aw_i1t rfl (by decide +kernel) ?_
  refine aw_e rfl rfl rfl ?_
  refine aw_e rfl rfl rfl ?_
  refine aw_e rfl rfl rfl ?_
  refine aw_e rfl rfl rfl ?_
  refine aw_e rfl rfl rfl ?_
  refine aw_e rfl rfl rfl ?_
  refine aw_e rfl rfl rfl ?_
  refine aw_e rfl rfl rfl ?_
  refine aw_e rfl rfl rfl ?_
  refine aw_e rfl rfl rfl ?_
  refine aw_e rfl rfl rfl ?_
  refine aw_e rfl rfl rfl ?_
  refine aw_e rfl rfl rfl ?_
  refine aw_e rfl rfl rfl ?_
  refine aw_e rfl rfl rfl ?_
  refine aw_e rfl rfl rfl ?_
  refine aw_e rfl rfl rfl ?_
  refine aw_e rfl rfl rfl ?_
  refine aw_e rfl rfl rfl ?_
  refine aw_i2t rfl (by decide +kernel) ?_
  refine aw_rv rfl ?_
  refine aw_e rfl rfl rfl ?_
  refine aw_e rfl rfl rfl ?_
  refine aw_e rfl rfl rfl ?_
  refine aw_ci rfl rfl (by decide) rfl rfl ?_
  refine aw_e rfl rfl rfl ?_
  refine aw_e rfl rfl rfl ?_
  refine aw_e rfl rfl rfl ?_
  refine aw_e rfl rfl rfl ?_
  refine aw_e rfl rfl rfl ?_
  refine aw_i2f rfl (by decide +kernel) ?_
  refine aw_e rfl rfl rfl ?_
  refine aw_e rfl rfl rfl ?_
  refine aw_i1t rfl (by decide +kernel) ?_
  refine aw_e rfl rfl rfl ?_
  refine aw_e rfl rfl rfl ?_
  refine aw_e rfl rfl rfl ?_
  refine aw_e rfl rfl rfl ?_
  refine aw_e rfl rfl rfl ?_
  refine aw_e rfl rfl rfl ?_
  refine aw_e rfl rfl rfl ?_
  refine aw_e rfl rfl rfl ?_
  refine aw_e rfl rfl rfl ?_
  refine aw_e rfl rfl rfl ?_
  refine aw_e rfl rfl rfl ?_
  refine aw_e rfl rfl rfl ?_
  refine aw_e rfl rfl rfl ?_
  refine aw_e rfl rfl rfl ?_
  refine aw_e rfl rfl rfl ?_
  refine aw_e rfl rfl rfl ?_
  refine aw_e rfl rfl rfl ?_
  refine aw_e rfl rfl rfl ?_
  refine aw_e rfl rfl rfl ?_
  refine aw_i2f rfl (by decide +kernel) ?_
  refine aw_e rfl rfl rfl ?_
  refine aw_e rfl rfl rfl ?_
  refine aw_i1t rfl (by decide +kernel) ?_
  refine aw_e rfl rfl rfl ?_
  refine aw_e rfl rfl rfl ?_
  refine aw_e rfl rfl rfl ?_
  refine aw_e rfl rfl rfl ?_
  refine aw_e rfl rfl rfl ?_
  refine aw_e rfl rfl rfl ?_
  refine aw_e rfl rfl rfl ?_
  refine aw_e rfl rfl rfl ?_
  refine aw_e rfl rfl rfl ?_
  refine aw_e rfl rfl rfl ?_
  refine aw_e rfl rfl rfl ?_
  refine aw_e rfl rfl rfl ?_
  refine aw_e rfl rfl rfl ?_
  refine aw_e rfl rfl rfl ?_
  refine aw_e rfl rfl rfl ?_
  refine aw_e rfl rfl rfl ?_
  refine aw_e rfl rfl rfl ?_
  refine aw_e rfl rfl rfl ?_
  refine aw_e rfl rfl rfl ?_
  refine aw_i2f rfl (by decide +kernel) ?_
  refine aw_e rfl rfl rfl ?_
  refine aw_e rfl rfl rfl ?_
  refine aw_i1t rfl (by decide +kernel) ?_
  refine aw_e rfl rfl rfl ?_
  refine aw_e rfl rfl rfl ?_
  refine aw_e rfl rfl rfl ?_
  refine aw_e rfl rfl rfl ?_
  refine aw_e rfl rfl rfl ?_
  refine aw_e rfl rfl rfl ?_
  refine aw_e rfl rfl rfl ?_
  refine aw_e rfl rfl rfl ?_
  refine aw_e rfl rfl rfl ?_
  refine aw_e rfl rfl rfl ?_
  refine aw_e rfl rfl rfl ?_
  refine aw_e rfl rfl rfl ?_
  refine aw_e rfl rfl rfl ?_
  refine aw_e rfl rfl rfl ?_
  refine aw_e rfl rfl rfl ?_
  refine aw_e rfl rfl rfl ?_
  refine aw_e rfl rfl rfl ?_
  refine aw_e rfl rfl rfl ?_
  refine aw_e rfl rfl rfl ?_
  refine aw_i2f rfl (by decide +kernel) ?_
  refine aw_e rfl rfl rfl ?_
  refine aw_e rfl rfl rfl ?_
  refine aw_i1t rfl (by decide +kernel) ?_
  refine aw_e rfl rfl rfl ?_
  refine aw_e rfl rfl rfl ?_
  refine aw_e rfl rfl rfl ?_
  refine aw_e rfl rfl rfl ?_
  refine aw_e rfl rfl rfl ?_
  refine aw_e rfl rfl rfl ?_
  refine aw_e rfl rfl rfl ?_
  refine aw_e rfl rfl rfl ?_
  refine aw_e rfl rfl rfl ?_
  refine aw_e rfl rfl rfl ?_
  refine aw_e rfl rfl rfl ?_
  refine aw_e rfl rfl rfl ?_
  refine aw_e rfl rfl rfl ?_
  refine aw_e rfl rfl rfl ?_
  refine aw_e rfl rfl rfl ?_
  refine aw_e rfl rfl rfl ?_
  refine aw_e rfl rfl rfl ?_
  refine aw_e rfl rfl rfl ?_
  refine aw_e rfl rfl rfl ?_
  refine aw_i2f rfl (by decide +kernel) ?_
  refine aw_e rfl rfl rfl ?_
  refine aw_e rfl rfl rfl ?_
  refine aw_i1t rfl (by decide +kernel) ?_
  refine aw_e rfl rfl rfl ?_
  refine aw_e rfl rfl rfl ?_
  refine aw_e rfl rfl rfl ?_
  refine aw_e rfl rfl rfl ?_
  refine aw_e rfl rfl rfl ?_
  refine aw_e rfl rfl rfl ?_
  refine aw_e rfl rfl rfl ?_
  refine aw_e rfl rfl rfl ?_
  refine aw_e rfl rfl rfl ?_
  refine aw_e rfl rfl rfl ?_
  refine aw_e rfl rfl rfl ?_
  refine aw_e rfl rfl rfl ?_
  refine aw_e rfl rfl rfl ?_
  refine aw_e rfl rfl rfl ?_
  refine aw_e rfl rfl rfl ?_
  refine aw_e rfl rfl rfl ?_
  refine aw_e rfl rfl rfl ?_
  refine aw_e rfl rfl rfl ?_
  refine aw_e rfl rfl rfl ?_
  refine aw_i2f rfl (by decide +kernel) ?_
  refine aw_e rfl rfl rfl ?_
  refine aw_e rfl rfl rfl ?_
  refine aw_i1t rfl (by decide +kernel) ?_
  refine aw_e rfl rfl rfl ?_
  refine aw_e rfl rfl rfl ?_
  refine aw_e rfl rfl rfl ?_
  refine aw_e rfl rfl rfl ?_
  refine aw_e rfl rfl rfl ?_
  refine aw_e rfl rfl rfl ?_
  refine aw_e rfl rfl rfl ?_
  refine aw_e rfl rfl rfl ?_
  refine aw_e rfl rfl rfl ?_
  refine aw_e rfl rfl rfl ?_
  refine aw_e rfl rfl rfl ?_
  refine aw_e rfl rfl rfl ?_
  refine aw_e rfl rfl rfl ?_
  refine aw_e rfl rfl rfl ?_
  refine aw_e rfl rfl rfl ?_
  refine aw_e rfl rfl rfl ?_
  refine aw_e rfl rfl rfl ?_
  refine aw_e rfl rfl rfl ?_
  refine aw_e rfl rfl rfl ?_
  refine aw_i2f rfl (by decide +kernel) ?_
  refine aw_e rfl rfl rfl ?_
  refine aw_e rfl rfl rfl ?_
  refine aw_i1t rfl (by decide +kernel) ?_
  refine aw_e rfl rfl rfl ?_
  refine aw_e rfl rfl rfl ?_
  refine aw_e rfl rfl rfl ?_
  refine aw_e rfl rfl rfl ?_
  refine aw_e rfl rfl rfl ?_
  refine aw_e rfl rfl rfl ?_
  refine aw_e rfl rfl rfl ?_
  refine aw_e rfl rfl rfl ?_
  refine aw_e rfl rfl rfl ?_
  refine aw_e rfl rfl rfl ?_
  refine aw_e rfl rfl rfl ?_
  refine aw_e rfl rfl rfl ?_
  refine aw_e rfl rfl rfl ?_
  refine aw_e rfl rfl rfl ?_
  refine aw_e rfl rfl rfl ?_
  refine aw_e rfl rfl rfl ?_
  refine aw_e rfl rfl rfl ?_
  refine aw_e rfl rfl rfl ?_
  refine aw_e rfl rfl rfl ?_
  refine aw_i2f rfl (by decide +kernel) ?_
  refine aw_e rfl rfl rfl ?_
  refine aw_e rfl rfl rfl ?_
  refine aw_i1t rfl (by decide +kernel) ?_
  refine aw_e rfl rfl rfl ?_
  refine aw_e rfl rfl rfl ?_
  refine aw_e rfl rfl rfl ?_
  refine aw_e rfl rfl rfl ?_
  refine aw_e rfl rfl rfl ?_
  refine aw_e rfl rfl rfl ?_
  refine aw_e rfl rfl rfl ?_
  refine aw_e rfl rfl rfl ?_
  refine aw_e rfl rfl rfl ?_
  refine aw_e rfl rfl rfl ?_
  refine aw_e rfl rfl rfl ?_
  refine aw_e rfl rfl rfl ?_
  refine aw_e rfl rfl rfl ?_
  refine aw_e rfl rfl rfl ?_
  refine aw_e rfl rfl rfl ?_
  refine aw_e rfl rfl rfl ?_
  refine aw_e rfl rfl rfl ?_
  refine aw_e rfl rfl rfl ?_
  refine aw_e rfl rfl rfl ?_
  refine aw_i2t rfl (by decide +kernel) ?_
  refine aw_rv rfl ?_
  refine aw_e rfl rfl rfl ?_
  refine aw_e rfl rfl rfl ?_
  refine aw_e rfl rfl rfl ?_
  refine aw_ci rfl rfl (by decide) rfl rfl ?_
  refine aw_e rfl rfl rfl ?_
  refine aw_e rfl rfl rfl ?_
  refine aw_e rfl rfl rfl ?_
  refine aw_e rfl rfl rfl ?_
  refine aw_e rfl rfl rfl ?_
  refine aw_i2f rfl (by decide +kernel) ?_
  refine aw_e rfl rfl rfl ?_
  refine aw_e rfl rfl rfl ?_
  refine aw_i1t rfl (by decide +kernel) ?_
  refine aw_e rfl rfl rfl ?_
  refine aw_e rfl rfl rfl ?_
  refine aw_e rfl rfl rfl ?_
  refine aw_e rfl rfl rfl ?_
  refine aw_e rfl rfl rfl ?_
  refine aw_e rfl rfl rfl ?_
  refine aw_e rfl rfl rfl ?_
  refine aw_e rfl rfl rfl ?_
  refine aw_e rfl rfl rfl ?_
  refine aw_e rfl rfl rfl ?_
  refine aw_e rfl rfl rfl ?_
  refine aw_e rfl rfl rfl ?_
  refine aw_e rfl rfl rfl ?_
  refine aw_e rfl rfl rfl ?_
  refine aw_e rfl rfl rfl ?_
  refine aw_e rfl rfl rfl ?_
  refine aw_e rfl rfl rfl ?_
  refine aw_e rfl rfl rfl ?_
  refine aw_e rfl rfl rfl ?_
  refine aw_i2f rfl (by decide +kernel) ?_
  refine aw_e rfl rfl rfl ?_
  refine aw_e rfl rfl rfl ?_
  refine aw_i1t rfl (by decide +kernel) ?_
  refine aw_e rfl rfl rfl ?_
  refine aw_e rfl rfl rfl ?_
  refine aw_e rfl rfl rfl ?_
  refine aw_e rfl rfl rfl ?_
  refine aw_e rfl rfl rfl ?_
  refine aw_e rfl rfl rfl ?_
  refine aw_e rfl rfl rfl ?_
  refine aw_e rfl rfl rfl ?_
  refine aw_e rfl rfl rfl ?_
  refine aw_e rfl rfl rfl ?_
  refine aw_e rfl rfl rfl ?_
  refine aw_e rfl rfl rfl ?_
  refine aw_e rfl rfl rfl ?_
  refine aw_e rfl rfl rfl ?_
  refine aw_e rfl rfl rfl ?_
  refine aw_e rfl rfl rfl ?_
  refine aw_e rfl rfl rfl ?_
  refine aw_e rfl rfl rfl ?_
  refine aw_e rfl rfl rfl ?_
  refine aw_i2f rfl (by decide +kernel) ?_
  refine aw_e rfl rfl rfl ?_
  refine aw_e rfl rfl rfl ?_
  refine aw_i1t rfl (by decide +kernel) ?_
  refine aw_e rfl rfl rfl ?_
  refine aw_e rfl rfl rfl ?_
  refine aw_e rfl rfl rfl ?_
  refine aw_e rfl rfl rfl ?_
  refine aw_e rfl rfl rfl ?_
  refine aw_e rfl rfl rfl ?_
  refine aw_e rfl rfl rfl ?_
  refine aw_e rfl rfl rfl ?_
  refine aw_e rfl rfl rfl ?_
  refine aw_e rfl rfl rfl ?_
  refine aw_e rfl rfl rfl ?_
  refine aw_e rfl rfl rfl ?_
  refine aw_e rfl rfl rfl ?_
  refine aw_e rfl rfl rfl ?_
  refine aw_e rfl rfl rfl ?_
  refine aw_e rfl rfl rfl ?_
  refine aw_e rfl rfl rfl ?_
  refine aw_e rfl rfl rfl ?_
  refine aw_e rfl rfl rfl ?_
  refine aw_i2f rfl (by decide +kernel) ?_
  refine aw_e rfl rfl rfl ?_
  refine aw_e rfl rfl rfl ?_
  refine aw_i1t rfl (by decide +kernel) ?_
  refine aw_e rfl rfl rfl ?_
  refine aw_e rfl rfl rfl ?_
  refine aw_e rfl rfl rfl ?_
  refine aw_e rfl rfl rfl ?_
  refine aw_e rfl rfl rfl ?_
  refine aw_e rfl rfl rfl ?_
  refine aw_e rfl rfl rfl ?_
  refine aw_e rfl rfl rfl ?_
  refine aw_e rfl rfl rfl ?_
  refine aw_e rfl rfl rfl ?_
  refine aw_e rfl rfl rfl ?_
  refine aw_e rfl rfl rfl ?_
  refine aw_e rfl rfl rfl ?_
  refine aw_e rfl rfl rfl ?_
  refine aw_e rfl rfl rfl ?_
  refine aw_e rfl rfl rfl ?_
  refine aw_e rfl rfl rfl ?_
  refine aw_e rfl rfl rfl ?_
  refine aw_e rfl rfl rfl ?_
  refine aw_i2f rfl (by decide +kernel) ?_
  refine aw_e rfl rfl rfl ?_
  refine aw_e rfl rfl rfl ?_
  refine aw_i1t rfl (by decide +kernel) ?_
  refine aw_e rfl rfl rfl ?_
  refine aw_e rfl rfl rfl ?_
  refine aw_e rfl rfl rfl ?_
  refine aw_e rfl rfl rfl ?_
  refine aw_e rfl rfl rfl ?_
  refine aw_e rfl rfl rfl ?_
  refine aw_e rfl rfl rfl ?_
  refine aw_e rfl rfl rfl ?_
  refine aw_e rfl rfl rfl ?_
  refine aw_e rfl rfl rfl ?_
  refine aw_e rfl rfl rfl ?_
  refine aw_e rfl rfl rfl ?_
  refine aw_e rfl rfl rfl ?_
  refine aw_e rfl rfl rfl ?_
  refine aw_e rfl rfl rfl ?_
  refine aw_e rfl rfl rfl ?_
  refine aw_e rfl rfl rfl ?_
  refine aw_e rfl rfl rfl ?_
  refine aw_e rfl rfl rfl ?_
  refine aw_i2f rfl (by decide +kernel) ?_
  refine aw_e rfl rfl rfl ?_
  refine aw_e rfl rfl rfl ?_
  refine aw_i1t rfl (by decide +kernel) ?_
  refine aw_e rfl rfl rfl ?_
  refine aw_e rfl rfl rfl ?_
  refine aw_e rfl rfl rfl ?_
  refine aw_e rfl rfl rfl ?_
  refine aw_e rfl rfl rfl ?_
  refine aw_e rfl rfl rfl ?_
  refine aw_e rfl rfl rfl ?_
  refine aw_e rfl rfl rfl ?_
  refine aw_e rfl rfl rfl ?_
  refine aw_e rfl rfl rfl ?_
  refine aw_e rfl rfl rfl ?_
  refine aw_e rfl rfl rfl ?_
  refine aw_e rfl rfl rfl ?_
  refine aw_e rfl rfl rfl ?_
  refine aw_e rfl rfl rfl ?_
  refine aw_e rfl rfl rfl ?_
  refine aw_e rfl rfl rfl ?_
  refine aw_e rfl rfl rfl ?_
  refine aw_e rfl rfl rfl ?_
  refine aw_i2f rfl (by decide +kernel) ?_
  refine aw_e rfl rfl rfl ?_
  refine aw_e rfl rfl rfl ?_
  refine aw_i1t rfl (by decide +kernel) ?_
  refine aw_e rfl rfl rfl ?_
  refine aw_e rfl rfl rfl ?_
  refine aw_e rfl rfl rfl ?_
  refine aw_e rfl rfl rfl ?_
  refine aw_e rfl rfl rfl ?_
  refine aw_e rfl rfl rfl ?_
  refine aw_e rfl rfl rfl ?_
  refine aw_e rfl rfl rfl ?_
  refine aw_e rfl rfl rfl ?_
  refine aw_e rfl rfl rfl ?_
  refine aw_e rfl rfl rfl ?_
  refine aw_e rfl rfl rfl ?_
  refine aw_e rfl rfl rfl ?_
  refine aw_e rfl rfl rfl ?_
  refine aw_e rfl rfl rfl ?_
  refine aw_e rfl rfl rfl ?_
  refine aw_e rfl rfl rfl ?_
  refine aw_e rfl rfl rfl ?_
  refine aw_e rfl rfl rfl ?_
  refine aw_i2f rfl (by decide +kernel) ?_
  refine aw_e rfl rfl rfl ?_
  refine aw_e rfl rfl rfl ?_
  refine aw_i1t rfl (by decide +kernel) ?_
  refine aw_e rfl rfl rfl ?_
  refine aw_e rfl rfl rfl ?_
  refine aw_e rfl rfl rfl ?_
  refine aw_e rfl rfl rfl ?_
  refine aw_e rfl rfl rfl ?_
  refine aw_e rfl rfl rfl ?_
  refine aw_e rfl rfl rfl ?_
  refine aw_e rfl rfl rfl ?_
  refine aw_e rfl rfl rfl ?_
  refine aw_e rfl rfl rfl ?_
  refine aw_e rfl rfl rfl ?_
  refine aw_e rfl rfl rfl ?_
  refine aw_e rfl rfl rfl ?_
  refine aw_e rfl rfl rfl ?_
  refine aw_e rfl rfl rfl ?_
  refine aw_e rfl rfl rfl ?_
  refine aw_e rfl rfl rfl ?_
  refine aw_e rfl rfl rfl ?_
  refine aw_e rfl rfl rfl ?_
  refine aw_i2t rfl (by decide +kernel) ?_
  refine aw_rv rfl ?_
  refine aw_e rfl rfl rfl ?_
  refine aw_e rfl rfl rfl ?_
  refine aw_e rfl rfl rfl ?_
  refine aw_ci rfl rfl (by decide) rfl rfl ?_
  refine aw_e rfl rfl rfl ?_
  refine aw_e rfl rfl rfl ?_
  refine aw_e rfl rfl rfl ?_
  refine aw_e rfl rfl rfl ?_
  refine aw_e rfl rfl rfl ?_
  refine aw_i2f rfl (by decide +kernel) ?_
  refine aw_e rfl rfl rfl ?_
  refine aw_e rfl rfl rfl ?_
  refine aw_i1t rfl (by decide +kernel) ?_
  refine aw_e rfl rfl rfl ?_
  refine aw_e rfl rfl rfl ?_
  refine aw_e rfl rfl rfl ?_
  refine aw_e rfl rfl rfl ?_
  refine aw_e rfl rfl rfl ?_
  refine aw_e rfl rfl rfl ?_
  refine aw_e rfl rfl rfl ?_
  refine aw_e rfl rfl rfl ?_
  refine aw_e rfl rfl rfl ?_
  refine aw_e rfl rfl rfl ?_
  refine aw_e rfl rfl rfl ?_
  refine aw_e rfl rfl rfl ?_
  refine aw_e rfl rfl rfl ?_
  refine aw_e rfl rfl rfl ?_
  refine aw_e rfl rfl rfl ?_
  refine aw_e rfl rfl rfl ?_
  refine aw_e rfl rfl rfl ?_
  refine aw_e rfl rfl rfl ?_
  refine aw_e rfl rfl rfl ?_
  refine aw_i2f rfl (by decide +kernel) ?_
  refine aw_e rfl rfl rfl ?_
  refine aw_e rfl rfl rfl ?_
  refine aw_i1t rfl (by decide +kernel) ?_
  refine aw_e rfl rfl rfl ?_
  refine aw_e rfl rfl rfl ?_
  refine aw_e rfl rfl rfl ?_
  refine aw_e rfl rfl rfl ?_
  refine aw_e rfl rfl rfl ?_
  refine aw_e rfl rfl rfl ?_
  refine aw_e rfl rfl rfl ?_
  refine aw_e rfl rfl rfl ?_
  refine aw_e rfl rfl rfl ?_
  refine aw_e rfl rfl rfl ?_
  refine aw_e rfl rfl rfl ?_
  refine aw_e rfl rfl rfl ?_
  refine aw_e rfl rfl rfl ?_
  refine aw_e rfl rfl rfl ?_
  refine aw_e rfl rfl rfl ?_
  refine aw_e rfl rfl rfl ?_
  refine aw_e rfl rfl rfl ?_
  refine aw_e rfl rfl rfl ?_
  refine aw_e rfl rfl rfl ?_
  refine aw_i2f rfl (by decide +kernel) ?_
  refine aw_e rfl rfl rfl ?_
  refine aw_e rfl rfl rfl ?_
  refine aw_i1t rfl (by decide +kernel) ?_
  refine aw_e rfl rfl rfl ?_
  refine aw_e rfl rfl rfl ?_
  refine aw_e rfl rfl rfl ?_
  refine aw_e rfl rfl rfl ?_
  refine aw_e rfl rfl rfl ?_
  refine aw_e rfl rfl rfl ?_
  refine aw_e rfl rfl rfl ?_
  refine aw_e rfl rfl rfl ?_
  refine aw_e rfl rfl rfl ?_
  refine aw_e rfl rfl rfl ?_
  refine aw_e rfl rfl rfl ?_
  refine aw_e rfl rfl rfl ?_
  refine aw_e rfl rfl rfl ?_
  refine aw_e rfl rfl rfl ?_
  refine aw_e rfl rfl rfl ?_
  refine aw_e rfl rfl rfl ?_
  refine aw_e rfl rfl rfl ?_
  refine aw_e rfl rfl rfl ?_
  refine aw_e rfl rfl rfl ?_
  refine aw_i2f rfl (by decide +kernel) ?_
  refine aw_e rfl rfl rfl ?_
  refine aw_e rfl rfl rfl ?_
  refine aw_i1t rfl (by decide +kernel) ?_
  refine aw_e rfl rfl rfl ?_
  refine aw_e rfl rfl rfl ?_
  refine aw_e rfl rfl rfl ?_
  refine aw_e rfl rfl rfl ?_
  refine aw_e rfl rfl rfl ?_
  refine aw_e rfl rfl rfl ?_
  refine aw_e rfl rfl rfl ?_
  refine aw_e rfl rfl rfl ?_
  refine aw_e rfl rfl rfl ?_
  refine aw_e rfl rfl rfl ?_
  refine aw_e rfl rfl rfl ?_
  refine aw_e rfl rfl rfl ?_
  refine aw_e rfl rfl rfl ?_
  refine aw_e rfl rfl rfl ?_
  refine aw_e rfl rfl rfl ?_
  refine aw_e rfl rfl rfl ?_
  refine aw_e rfl rfl rfl ?_
  refine aw_e rfl rfl rfl ?_
  refine aw_e rfl rfl rfl ?_
  refine aw_i2f rfl (by decide +kernel) ?_
  refine aw_e rfl rfl rfl ?_
  refine aw_e rfl rfl rfl ?_
  refine aw_i1t rfl (by decide +kernel) ?_
  refine aw_e rfl rfl rfl ?_
  refine aw_e rfl rfl rfl ?_
  refine aw_e rfl rfl rfl ?_
  refine aw_e rfl rfl rfl ?_
  refine aw_e rfl rfl rfl ?_
  refine aw_e rfl rfl rfl ?_
  refine aw_e rfl rfl rfl ?_
  refine aw_e rfl rfl rfl ?_
  refine aw_e rfl rfl rfl ?_
  refine aw_e rfl rfl rfl ?_
  refine aw_e rfl rfl rfl ?_
  refine aw_e rfl rfl rfl ?_
  refine aw_e rfl rfl rfl ?_
  refine aw_e rfl rfl rfl ?_
  refine aw_e rfl rfl rfl ?_
  refine aw_e rfl rfl rfl ?_
  refine aw_e rfl rfl rfl ?_
  refine aw_e rfl rfl rfl ?_
  refine aw_e rfl rfl rfl ?_
  refine aw_i2f rfl (by decide +kernel) ?_
  refine aw_e rfl rfl rfl ?_
  refine aw_e rfl rfl rfl ?_
  refine aw_i1t rfl (by decide +kernel) ?_
  refine aw_e rfl rfl rfl ?_
  refine aw_e rfl rfl rfl ?_
  refine aw_e rfl rfl rfl ?_
  refine aw_e rfl rfl rfl ?_
  refine aw_e rfl rfl rfl ?_
  refine aw_e rfl rfl rfl ?_
  refine aw_e rfl rfl rfl ?_
  refine aw_e rfl rfl rfl ?_
  refine aw_e rfl rfl rfl ?_
  refine aw_e rfl rfl rfl ?_
  refine aw_e rfl rfl rfl ?_
  refine aw_e rfl rfl rfl ?_
  refine aw_e rfl rfl rfl ?_
  refine aw_e rfl rfl rfl ?_
  refine aw_e rfl rfl rfl ?_
  refine aw_e rfl rfl rfl ?_
  refine aw_e rfl rfl rfl ?_
  refine aw_e rfl rfl rfl ?_
  refine aw_e rfl rfl rfl ?_
  refine aw_i2f rfl (by decide +kernel) ?_
  refine aw_e rfl rfl rfl ?_
  refine aw_e rfl rfl rfl ?_
  refine aw_i1t rfl (by decide +kernel) ?_
  refine aw_e rfl rfl rfl ?_
  refine aw_e rfl rfl rfl ?_
  refine aw_e rfl rfl rfl ?_
  refine aw_e rfl rfl rfl ?_
  refine aw_e rfl rfl rfl ?_
  refine aw_e rfl rfl rfl ?_
  refine aw_e rfl rfl rfl ?_
  refine aw_e rfl rfl rfl ?_
  refine aw_e rfl rfl rfl ?_
  refine aw_e rfl rfl rfl ?_
  refine aw_e rfl rfl rfl ?_
  refine aw_e rfl rfl rfl ?_
  refine aw_e rfl rfl rfl ?_
  refine aw_e rfl rfl rfl ?_
  refine aw_e rfl rfl rfl ?_
  refine aw_e rfl rfl rfl ?_
  refine aw_e rfl rfl rfl ?_
  refine aw_e rfl rfl rfl ?_
  refine aw_e rfl rfl rfl ?_
  refine aw_i2f rfl (by decide +kernel) ?_
  refine aw_e rfl rfl rfl ?_
  refine aw_e rfl rfl rfl ?_
  refine aw_i1t rfl (by decide +kernel) ?_
  refine aw_e rfl rfl rfl ?_
  refine aw_e rfl rfl rfl ?_
  refine aw_e rfl rfl rfl ?_
  refine aw_e rfl rfl rfl ?_
  refine aw_e rfl rfl rfl ?_
  refine aw_e rfl rfl rfl ?_
  refine aw_e rfl rfl rfl ?_
  refine aw_e rfl rfl rfl ?_
  refine aw_e rfl rfl rfl ?_
  refine aw_e rfl rfl rfl ?_
  refine aw_e rfl rfl rfl ?_
  refine aw_e rfl rfl rfl ?_
  refine aw_e rfl rfl rfl ?_
  refine aw_e rfl rfl rfl ?_
  refine aw_e rfl rfl rfl ?_
  refine aw_e rfl rfl rfl ?_
  refine aw_e rfl rfl rfl ?_
  refine aw_e rfl rfl rfl ?_
  refine aw_e rfl rfl rfl ?_
  refine aw_i2t rfl (by decide +kernel) ?_
  refine aw_rv rfl ?_
  refine aw_e rfl rfl rfl ?_
  refine aw_e rfl rfl rfl ?_
  refine aw_e rfl rfl rfl ?_
  refine aw_ci rfl rfl (by decide) rfl rfl ?_
  refine aw_e rfl rfl rfl ?_
  refine aw_e rfl rfl rfl ?_
  refine aw_e rfl rfl rfl ?_
  refine aw_e rfl rfl rfl ?_
  refine aw_e rfl rfl rfl ?_
  refine aw_i2f rfl (by decide +kernel) ?_
  refine aw_e rfl rfl rfl ?_
  refine aw_e rfl rfl rfl ?_
  refine aw_i1t rfl (by decide +kernel) ?_
  refine aw_e rfl rfl rfl ?_
  refine aw_e rfl rfl rfl ?_
  refine aw_e rfl rfl rfl ?_
  refine aw_e rfl rfl rfl ?_
  refine aw_e rfl rfl rfl ?_
  refine aw_e rfl rfl rfl ?_
  refine aw_e rfl rfl rfl ?_
  refine aw_e rfl rfl rfl ?_
  refine aw_e rfl rfl rfl ?_
  refine aw_e rfl rfl rfl ?_
  refine aw_e rfl rfl rfl ?_
  refine aw_e rfl rfl rfl ?_
  refine aw_e rfl rfl rfl ?_
  refine aw_e rfl rfl rfl ?_
  refine aw_e rfl rfl rfl ?_
  refine aw_e rfl rfl rfl ?_
  refine aw_e rfl rfl rfl ?_
  refine aw_e rfl rfl rfl ?_
  refine aw_e rfl rfl rfl ?_
  refine aw_i2f rfl (by decide +kernel) ?_
  refine aw_e rfl rfl rfl ?_
  refine aw_e rfl rfl rfl ?_
  refine aw_i1t rfl (by decide +kernel) ?_
  refine aw_e rfl rfl rfl ?_
  refine aw_e rfl rfl rfl ?_
  refine aw_e rfl rfl rfl ?_
  refine aw_e rfl rfl rfl ?_
  refine aw_e rfl rfl rfl ?_
  refine aw_e rfl rfl rfl ?_
  refine aw_e rfl rfl rfl ?_
  refine aw_e rfl rfl rfl ?_
  refine aw_e rfl rfl rfl ?_
  refine aw_e rfl rfl rfl ?_
  refine aw_e rfl rfl rfl ?_
  refine aw_e rfl rfl rfl ?_
  refine aw_e rfl rfl rfl ?_
  refine aw_e rfl rfl rfl ?_
  refine aw_e rfl rfl rfl ?_
  refine aw_e rfl rfl rfl ?_
  refine aw_e rfl rfl rfl ?_
  refine aw_e rfl rfl rfl ?_
  refine aw_e rfl rfl rfl ?_
  refine aw_i2f rfl (by decide +kernel) ?_
  refine aw_e rfl rfl rfl ?_
  refine aw_e rfl rfl rfl ?_
  refine aw_i1t rfl (by decide +kernel) ?_
  refine aw_e rfl rfl rfl ?_
  refine aw_e rfl rfl rfl ?_
  refine aw_e rfl rfl rfl ?_
  refine aw_e rfl rfl rfl ?_
  refine aw_e rfl rfl rfl ?_
  refine aw_e rfl rfl rfl ?_
  refine aw_e rfl rfl rfl ?_
  refine aw_e rfl rfl rfl ?_
  refine aw_e rfl rfl rfl ?_
  refine aw_e rfl rfl rfl ?_
  refine aw_e rfl rfl rfl ?_
  refine aw_e rfl rfl rfl ?_
  refine aw_e rfl rfl rfl ?_
  refine aw_e rfl rfl rfl ?_
  refine aw_e rfl rfl rfl ?_
  refine aw_e rfl rfl rfl ?_
  refine aw_e rfl rfl rfl ?_
  refine aw_e rfl rfl rfl ?_
  refine aw_e rfl rfl rfl ?_
  refine aw_i2f rfl (by decide +kernel) ?_
  refine aw_e rfl rfl rfl ?_
  refine aw_e rfl rfl rfl ?_
  refine aw_i1t rfl (by decide +kernel) ?_
  refine aw_e rfl rfl rfl ?_
  refine aw_e rfl rfl rfl ?_
  refine aw_e rfl rfl rfl ?_
  refine aw_e rfl rfl rfl ?_
  refine aw_e rfl rfl rfl ?_
  refine aw_e rfl rfl rfl ?_
  refine aw_e rfl rfl rfl ?_
  refine aw_e rfl rfl rfl ?_
  refine aw_e rfl rfl rfl ?_
  refine aw_e rfl rfl rfl ?_
  refine aw_e rfl rfl rfl ?_
  refine aw_e rfl rfl rfl ?_
  refine aw_e rfl rfl rfl ?_
  refine aw_e rfl rfl rfl ?_
  refine aw_e rfl rfl rfl ?_
  refine aw_e rfl rfl rfl ?_
  refine aw_e rfl rfl rfl ?_
  refine aw_e rfl rfl rfl ?_
  refine aw_e rfl rfl rfl ?_
  refine aw_i2f rfl (by decide +kernel) ?_
  refine aw_e rfl rfl rfl ?_
  refine aw_e rfl rfl rfl ?_
  refine aw_i1t rfl (by decide +kernel) ?_
  refine aw_e rfl rfl rfl ?_
  refine aw_e rfl rfl rfl ?_
  refine aw_e rfl rfl rfl ?_
  refine aw_e rfl rfl rfl ?_
  refine aw_e rfl rfl rfl ?_
  refine aw_e rfl rfl rfl ?_
  refine aw_e rfl rfl rfl ?_
  refine aw_e rfl rfl rfl ?_
  refine aw_e rfl rfl rfl ?_
  refine aw_e rfl rfl rfl ?_
  refine aw_e rfl rfl rfl ?_
  refine aw_e rfl rfl rfl ?_
  refine aw_e rfl rfl rfl ?_
  refine aw_e rfl rfl rfl ?_
  refine aw_e rfl rfl rfl ?_
  refine aw_e rfl rfl rfl ?_
  refine aw_e rfl rfl rfl ?_
  refine aw_e rfl rfl rfl ?_
  refine aw_e rfl rfl rfl ?_
  refine aw_i2f rfl (by decide +kernel) ?_
  refine aw_e rfl rfl rfl ?_
  refine aw_e rfl rfl rfl ?_
  refine aw_i1t rfl (by decide +kernel) ?_
  refine aw_e rfl rfl rfl ?_
  refine aw_e rfl rfl rfl ?_
  refine aw_e rfl rfl rfl ?_
  refine aw_e rfl rfl rfl ?_
  refine aw_e rfl rfl rfl ?_
  refine aw_e rfl rfl rfl ?_
  refine aw_e rfl rfl rfl ?_
  refine aw_e rfl rfl rfl ?_
  refine aw_e rfl rfl rfl ?_
  refine aw_e rfl rfl rfl ?_
  refine aw_e rfl rfl rfl ?_
  refine aw_e rfl rfl rfl ?_
  refine aw_e rfl rfl rfl ?_
  refine aw_e rfl rfl rfl ?_
  refine aw_e rfl rfl rfl ?_
  refine aw_e rfl rfl rfl ?_
  refine aw_e rfl rfl rfl ?_
  refine aw_e rfl rfl rfl ?_
  refine aw_e rfl rfl rfl ?_
  refine aw_i2f rfl (by decide +kernel) ?_
  refine aw_e rfl rfl rfl ?_
  refine aw_e rfl rfl rfl ?_
  refine aw_i1t rfl (by decide +kernel) ?_
  refine aw_e rfl rfl rfl ?_
  refine aw_e rfl rfl rfl ?_
  refine aw_e rfl rfl rfl ?_
  refine aw_e rfl rfl rfl ?_
  refine aw_e rfl rfl rfl ?_
  refine aw_e rfl rfl rfl ?_
  refine aw_e rfl rfl rfl ?_
  refine aw_e rfl rfl rfl ?_
  refine aw_e rfl rfl rfl ?_
  refine aw_e rfl rfl rfl ?_
  refine aw_e rfl rfl rfl ?_
  refine aw_e rfl rfl rfl ?_
  refine aw_e rfl rfl rfl ?_
  refine aw_e rfl rfl rfl ?_
  refine aw_e rfl rfl rfl ?_
  refine aw_e rfl rfl rfl ?_
  refine aw_e rfl rfl rfl ?_
  refine aw_e rfl rfl rfl ?_
  refine aw_e rfl rfl rfl ?_
  refine aw_i2f rfl (by decide +kernel) ?_
  refine aw_e rfl rfl rfl ?_
  refine aw_e rfl rfl rfl ?_
  refine aw_i1t rfl (by decide +kernel) ?_
  refine aw_e rfl rfl rfl ?_
  refine aw_e rfl rfl rfl ?_
  refine aw_e rfl rfl rfl ?_
  refine aw_e rfl rfl rfl ?_
  refine aw_e rfl rfl rfl ?_
  refine aw_e rfl rfl rfl ?_
  refine aw_e rfl rfl rfl ?_
  refine aw_e rfl rfl rfl ?_
  refine aw_e rfl rfl rfl ?_
  refine aw_e rfl rfl rfl ?_
  refine aw_e rfl rfl rfl ?_
  refine aw_e rfl rfl rfl ?_
  refine aw_e rfl rfl rfl ?_
  refine aw_e rfl rfl rfl ?_
  refine aw_e rfl rfl rfl ?_
  refine aw_e rfl rfl rfl ?_
  refine aw_e rfl rfl rfl ?_
  refine aw_e rfl rfl rfl ?_
  refine aw_e rfl rfl rfl ?_
  refine aw_i2t rfl (by decide +kernel) ?_
  refine aw_rv rfl ?_
  refine aw_e rfl rfl rfl ?_
  refine aw_e rfl rfl rfl ?_
  refine aw_e rfl rfl rfl ?_
  refine aw_ci rfl rfl (by decide) rfl rfl ?_
  refine aw_e rfl rfl rfl ?_
  refine aw_e rfl rfl rfl ?_
  refine aw_e rfl rfl rfl ?_
  refine aw_e rfl rfl rfl ?_
  refine aw_e rfl rfl rfl ?_
  refine aw_i2f rfl (by decide +kernel) ?_
  refine aw_e rfl rfl rfl ?_
  refine aw_e rfl rfl rfl ?_
  refine aw_i1t rfl (by decide +kernel) ?_
  refine aw_e rfl rfl rfl ?_
  refine aw_e rfl rfl rfl ?_
  refine aw_e rfl rfl rfl ?_
  refine aw_e rfl rfl rfl ?_
  refine aw_e rfl rfl rfl ?_
  refine aw_e rfl rfl rfl ?_
  refine aw_e rfl rfl rfl ?_
  refine aw_e rfl rfl rfl ?_
  refine aw_e rfl rfl rfl ?_
  refine aw_e rfl rfl rfl ?_
  refine aw_e rfl rfl rfl ?_
  refine aw_e rfl rfl rfl ?_
  refine aw_e rfl rfl rfl ?_
  refine aw_e rfl rfl rfl ?_
  refine aw_e rfl rfl rfl ?_
  refine aw_e rfl rfl rfl ?_
  refine aw_e rfl rfl rfl ?_
  refine aw_e rfl rfl rfl ?_
  refine aw_e rfl rfl rfl ?_
  refine aw_i2f rfl (by decide +kernel) ?_
  refine aw_e rfl rfl rfl ?_
  refine aw_e rfl rfl rfl ?_
  refine aw_i1t rfl (by decide +kernel) ?_
  refine aw_e rfl rfl rfl ?_
  refine aw_e rfl rfl rfl ?_
  refine aw_e rfl rfl rfl ?_
  refine aw_e rfl rfl rfl ?_
  refine aw_e rfl rfl rfl ?_
  refine aw_e rfl rfl rfl ?_
  refine aw_e rfl rfl rfl ?_
  refine aw_e rfl rfl rfl ?_
  refine aw_e rfl rfl rfl ?_
  refine aw_e rfl rfl rfl ?_
  refine aw_e rfl rfl rfl ?_
  refine aw_e rfl rfl rfl ?_
  refine aw_e rfl rfl rfl ?_
  refine aw_e rfl rfl rfl ?_
  refine aw_e rfl rfl rfl ?_
  refine aw_e rfl rfl rfl ?_
  refine aw_e rfl rfl rfl ?_
  refine aw_e rfl rfl rfl ?_
  refine aw_e rfl rfl rfl ?_
  refine aw_i2f rfl (by decide +kernel) ?_
  refine aw_e rfl rfl rfl ?_
  refine aw_e rfl rfl rfl ?_
  refine aw_i1t rfl (by decide +kernel) ?_
  refine aw_e rfl rfl rfl ?_
  refine aw_e rfl rfl rfl ?_
  refine aw_e rfl rfl rfl ?_
  refine aw_e rfl rfl rfl ?_
  refine aw_e rfl rfl rfl ?_
  refine aw_e rfl rfl rfl ?_
  refine aw_e rfl rfl rfl ?_
  refine aw_e rfl rfl rfl ?_
  refine aw_e rfl rfl rfl ?_
  refine aw_e rfl rfl rfl ?_
  refine aw_e rfl rfl rfl ?_
  refine aw_e rfl rfl rfl ?_
  refine aw_e rfl rfl rfl ?_
  refine aw_e rfl rfl rfl ?_
  refine aw_e rfl rfl rfl ?_
  refine aw_e rfl rfl rfl ?_
  refine aw_e rfl rfl rfl ?_
  refine aw_e rfl rfl rfl ?_
  refine aw_e rfl rfl rfl ?_
  refine aw_i2f rfl (by decide +kernel) ?_
  refine aw_e rfl rfl rfl ?_
  refine aw_e rfl rfl rfl ?_
  refine aw_i1t rfl (by decide +kernel) ?_
  refine aw_e rfl rfl rfl ?_
  refine aw_e rfl rfl rfl ?_
  refine aw_e rfl rfl rfl ?_
  refine aw_e rfl rfl rfl ?_
  refine aw_e rfl rfl rfl ?_
  refine aw_e rfl rfl rfl ?_
  refine aw_e rfl rfl rfl ?_
  refine aw_e rfl rfl rfl ?_
  refine aw_e rfl rfl rfl ?_
  refine aw_e rfl rfl rfl ?_
  refine aw_e rfl rfl rfl ?_
  refine aw_e rfl rfl rfl ?_
  refine aw_e rfl rfl rfl ?_
  refine aw_e rfl rfl rfl ?_
  refine aw_e rfl rfl rfl ?_
  refine aw_e rfl rfl rfl ?_
  refine aw_e rfl rfl rfl ?_
  refine aw_e rfl rfl rfl ?_
  refine aw_e rfl rfl rfl ?_
  refine aw_i2f rfl (by decide +kernel) ?_
  refine aw_e rfl rfl rfl ?_
  refine aw_e rfl rfl rfl ?_
  refine aw_i1t rfl (by decide +kernel) ?_
  refine aw_e rfl rfl rfl ?_
  refine aw_e rfl rfl rfl ?_
  refine aw_e rfl rfl rfl ?_
  refine aw_e rfl rfl rfl ?_
  refine aw_e rfl rfl rfl ?_
  refine aw_e rfl rfl rfl ?_
  refine aw_e rfl rfl rfl ?_
  refine aw_e rfl rfl rfl ?_
  refine aw_e rfl rfl rfl ?_
  refine aw_e rfl rfl rfl ?_
  refine aw_e rfl rfl rfl ?_
  refine aw_e rfl rfl rfl ?_
  refine aw_e rfl rfl rfl ?_
  refine aw_e rfl rfl rfl ?_
  refine aw_e rfl rfl rfl ?_
  refine aw_e rfl rfl rfl ?_
  refine aw_e rfl rfl rfl ?_
  refine aw_e rfl rfl rfl ?_
  refine aw_e rfl rfl rfl ?_
  refine aw_i2f rfl (by decide +kernel) ?_
  refine aw_e rfl rfl rfl ?_
  refine aw_e rfl rfl rfl ?_
  refine aw_i1t rfl (by decide +kernel) ?_
  refine aw_e rfl rfl rfl ?_
  refine aw_e rfl rfl rfl ?_
  refine aw_e rfl rfl rfl ?_
  refine aw_e rfl rfl rfl ?_
  refine aw_e rfl rfl rfl ?_
  refine aw_e rfl rfl rfl ?_
  refine aw_e rfl rfl rfl ?_
  refine aw_e rfl rfl rfl ?_
  refine aw_e rfl rfl rfl ?_
  refine aw_e rfl rfl rfl ?_
  refine aw_e rfl rfl rfl ?_
  refine aw_e rfl rfl rfl ?_
  refine aw_e rfl rfl rfl ?_
  refine aw_e rfl rfl rfl ?_
  refine aw_e rfl rfl rfl ?_
  refine aw_e rfl rfl rfl ?_
  refine aw_e rfl rfl rfl ?_
  refine aw_e rfl rfl rfl ?_
  refine aw_e rfl rfl rfl ?_
  refine aw_i2f rfl (by decide +kernel) ?_
  refine aw_e rfl rfl rfl ?_
  refine aw_e rfl rfl rfl ?_
  refine aw_i1t rfl (by decide +kernel) ?_
  refine aw_e rfl rfl rfl ?_
  refine aw_e rfl rfl rfl ?_
  refine aw_e rfl rfl rfl ?_
  refine aw_e rfl rfl rfl ?_
  refine aw_e rfl rfl rfl ?_
  refine aw_e rfl rfl rfl ?_
  refine aw_e rfl rfl rfl ?_
  refine aw_e rfl rfl rfl ?_
  refine aw_e rfl rfl rfl ?_
  refine aw_e rfl rfl rfl ?_
  refine aw_e rfl rfl rfl ?_
  refine aw_e rfl rfl rfl ?_
  refine aw_e rfl rfl rfl ?_
  refine aw_e rfl rfl rfl ?_
  refine aw_e rfl rfl rfl ?_
  refine aw_e rfl rfl rfl ?_
  refine aw_e rfl rfl rfl ?_
  refine aw_e rfl rfl rfl ?_
  refine aw_e rfl rfl rfl ?_
  refine aw_i2f rfl (by decide +kernel) ?_
  refine aw_e rfl rfl rfl ?_
  refine aw_e rfl rfl rfl ?_
  refine aw_i1t rfl (by decide +kernel) ?_
  refine aw_e rfl rfl rfl ?_
  refine aw_e rfl rfl rfl ?_
  refine aw_e rfl rfl rfl ?_
  refine aw_e rfl rfl rfl ?_
  refine aw_e rfl rfl rfl ?_
  refine aw_e rfl rfl rfl ?_
  refine aw_e rfl rfl rfl ?_
  refine aw_e rfl rfl rfl ?_
  refine aw_e rfl rfl rfl ?_
  refine aw_e rfl rfl rfl ?_
  refine aw_e rfl rfl rfl ?_
  refine aw_e rfl rfl rfl ?_
  refine aw_e rfl rfl rfl ?_
  refine aw_e rfl rfl rfl ?_
  refine aw_e rfl rfl rfl ?_
  refine aw_e rfl rfl rfl ?_
  refine aw_e rfl rfl rfl ?_
  refine aw_e rfl rfl rfl ?_
  refine aw_e rfl rfl rfl ?_
  refine aw_i2t rfl (by decide +kernel) ?_
  refine aw_rv rfl ?_
  refine aw_e rfl rfl rfl ?_
  refine aw_e rfl rfl rfl ?_
  refine aw_e rfl rfl rfl ?_
  refine aw_e rfl rfl rfl ?_
  refine aw_ci rfl rfl (by decide) rfl rfl ?_
  refine aw_e rfl rfl rfl ?_
  refine aw_e rfl rfl rfl ?_
  refine aw_i1t rfl (by decide +kernel) ?_
  refine aw_e rfl rfl rfl ?_
  refine aw_e rfl rfl rfl ?_
  refine aw_e rfl rfl rfl ?_
  refine aw_e rfl rfl rfl ?_
  refine aw_e rfl rfl rfl ?_
  refine aw_e rfl rfl rfl ?_
  refine aw_e rfl rfl rfl ?_
  refine aw_e rfl rfl rfl ?_
  refine aw_i1t rfl (by decide +kernel) ?_
  refine aw_e rfl rfl rfl ?_
  refine aw_e rfl rfl rfl ?_
  refine aw_e rfl rfl rfl ?_
  refine aw_e rfl rfl rfl ?_
  refine aw_e rfl rfl rfl ?_
  refine aw_e rfl rfl rfl ?_
  refine aw_e rfl rfl rfl ?_
  refine aw_ri rfl (by first | exact Or.inl rfl | exact Or.inr (by decide +kernel)) ?_
  refine aw_e rfl rfl rfl ?_
  refine aw_e rfl rfl rfl ?_
  refine aw_e rfl rfl rfl ?_
  refine aw_e rfl rfl rfl ?_
  refine aw_e rfl rfl rfl ?_
  refine aw_ci rfl rfl (by decide) rfl rfl ?_
  refine aw_e rfl rfl rfl ?_
  refine aw_e rfl rfl rfl ?_
  refine aw_i1t rfl (by decide +kernel) ?_
  refine aw_e rfl rfl rfl ?_
  refine aw_e rfl rfl rfl ?_
  refine aw_e rfl rfl rfl ?_
  refine aw_e rfl rfl rfl ?_
  refine aw_e rfl rfl rfl ?_
  refine aw_e rfl rfl rfl ?_
  refine aw_e rfl rfl rfl ?_
  refine aw_e rfl rfl rfl ?_
  refine aw_i1t rfl (by decide +kernel) ?_
  refine aw_e rfl rfl rfl ?_
  refine aw_e rfl rfl rfl ?_
  refine aw_e rfl rfl rfl ?_
  refine aw_e rfl rfl rfl ?_
  refine aw_e rfl rfl rfl ?_
  refine aw_e rfl rfl rfl ?_
  refine aw_e rfl rfl rfl ?_
  refine aw_ri rfl (by first | exact Or.inl rfl | exact Or.inr (by decide +kernel)) ?_
  refine aw_e rfl rfl rfl ?_
  refine aw_e rfl rfl rfl ?_
  refine aw_e rfl rfl rfl ?_
  refine aw_e rfl rfl rfl ?_
  refine aw_e rfl rfl rfl ?_
  refine aw_ci rfl rfl (by decide) rfl rfl ?_
  refine aw_e rfl rfl rfl ?_
  refine aw_e rfl rfl rfl ?_
  refine aw_i1t rfl (by decide +kernel) ?_
  refine aw_e rfl rfl rfl ?_
  refine aw_e rfl rfl rfl ?_
  refine aw_e rfl rfl rfl ?_
  refine aw_e rfl rfl rfl ?_
  refine aw_e rfl rfl rfl ?_
  refine aw_e rfl rfl rfl ?_
  refine aw_e rfl rfl rfl ?_
  refine aw_e rfl rfl rfl ?_
  refine aw_i1t rfl (by decide +kernel) ?_
  refine aw_e rfl rfl rfl ?_
  refine aw_e rfl rfl rfl ?_
  refine aw_e rfl rfl rfl ?_
  refine aw_e rfl rfl rfl ?_
  refine aw_e rfl rfl rfl ?_
  refine aw_e rfl rfl rfl ?_
  refine aw_e rfl rfl rfl ?_
  refine aw_ri rfl (by first | exact Or.inl rfl | exact Or.inr (by decide +kernel)) ?_
  refine aw_e rfl rfl rfl ?_
  refine aw_rv rfl ?_
  refine aw_e rfl rfl rfl ?_
  refine aw_e rfl rfl rfl ?_
  refine aw_ci rfl rfl (by decide) rfl rfl ?_
  refine aw_e rfl rfl rfl ?_
  refine aw_e rfl rfl rfl ?_
  refine aw_e rfl rfl rfl ?_
  refine aw_e rfl rfl rfl ?_
  refine aw_e rfl rfl rfl ?_
  refine aw_e rfl rfl rfl ?_
  refine aw_e rfl rfl rfl ?_
  refine aw_e rfl rfl rfl ?_
  refine aw_e rfl rfl rfl ?_
  refine aw_e rfl rfl rfl ?_
  refine aw_e rfl rfl rfl ?_
  refine aw_e rfl rfl rfl ?_
  refine aw_e rfl rfl rfl ?_
  refine aw_e rfl rfl rfl ?_
  refine aw_e rfl rfl rfl ?_
  refine aw_e rfl rfl rfl ?_
  refine aw_i2t rfl (by decide +kernel) ?_
  refine aw_rv rfl ?_
  refine aw_e rfl rfl rfl ?_
  refine aw_ci rfl rfl (by decide) rfl rfl ?_
  refine aw_e rfl rfl rfl ?_
  refine aw_ci rfl rfl (by decide) rfl rfl ?_
  refine aw_e rfl rfl rfl ?_
  refine aw_e rfl rfl rfl ?_
  refine aw_e rfl rfl rfl ?_
  refine aw_e rfl rfl rfl ?_
  refine aw_e rfl rfl rfl ?_
  refine aw_e rfl rfl rfl ?_
  refine aw_e rfl rfl rfl ?_
  refine aw_i2t rfl (by decide +kernel) ?_
  refine aw_e rfl rfl rfl ?_
  refine aw_ri rfl (by first | exact Or.inl rfl | exact Or.inr (by decide +kernel)) ?_
  refine aw_i1f rfl (by decide +kernel) ?_
  refine aw_e rfl rfl rfl ?_
  refine aw_ci rfl rfl (by decide) rfl rfl ?_
  refine aw_e rfl rfl rfl ?_
  refine aw_ci rfl rfl (by decide) rfl rfl ?_
  refine aw_e rfl rfl rfl ?_
  refine aw_e rfl rfl rfl ?_
  refine aw_e rfl rfl rfl ?_
  refine aw_e rfl rfl rfl ?_
  refine aw_e rfl rfl rfl ?_
  refine aw_e rfl rfl rfl ?_
  refine aw_e rfl rfl rfl ?_
  refine aw_e rfl rfl rfl ?_
  refine aw_e rfl rfl rfl ?_
  refine aw_e rfl rfl rfl ?_
  refine aw_e rfl rfl rfl ?_
  refine aw_e rfl rfl rfl ?_
  refine aw_e rfl rfl rfl ?_
  refine aw_e rfl rfl rfl ?_
  refine aw_e rfl rfl rfl ?_
  refine aw_e rfl rfl rfl ?_
  refine aw_e rfl rfl rfl ?_
  refine aw_e rfl rfl rfl ?_
  refine aw_e rfl rfl rfl ?_
  refine aw_e rfl rfl rfl ?_
  refine aw_e rfl rfl rfl ?_
  refine aw_e rfl rfl rfl ?_
  refine aw_e rfl rfl rfl ?_
  refine aw_e rfl rfl rfl ?_
  refine aw_e rfl rfl rfl ?_
  refine aw_e rfl rfl rfl ?_
  refine aw_e rfl rfl rfl ?_
  refine aw_e rfl rfl rfl ?_
  refine aw_e rfl rfl rfl ?_
  refine aw_e rfl rfl rfl ?_
  refine aw_e rfl rfl rfl ?_
  refine aw_e rfl rfl rfl ?_
  refine aw_i2f rfl (by decide +kernel) ?_
  refine aw_e rfl rfl rfl ?_
  refine aw_e rfl rfl rfl ?_
  refine aw_e rfl rfl rfl ?_
  refine aw_e rfl rfl rfl ?_
  refine aw_e rfl rfl rfl ?_
  refine aw_e rfl rfl rfl ?_
  refine aw_e rfl rfl rfl ?_
  refine aw_e rfl rfl rfl ?_
  refine aw_e rfl rfl rfl ?_
  refine aw_i2f rfl (by decide +kernel) ?_
  refine aw_e rfl rfl rfl ?_
  refine aw_e rfl rfl rfl ?_
  refine aw_e rfl rfl rfl ?_
  refine aw_e rfl rfl rfl ?_
  refine aw_e rfl rfl rfl ?_
  refine aw_e rfl rfl rfl ?_
  refine aw_e rfl rfl rfl ?_
  refine aw_e rfl rfl rfl ?_
  refine aw_e rfl rfl rfl ?_
  refine aw_i2f rfl (by decide +kernel) ?_
  refine aw_e rfl rfl rfl ?_
  refine aw_e rfl rfl rfl ?_
  refine aw_e rfl rfl rfl ?_
  refine aw_e rfl rfl rfl ?_
  refine aw_e rfl rfl rfl ?_
  refine aw_e rfl rfl rfl ?_
  refine aw_e rfl rfl rfl ?_
  refine aw_e rfl rfl rfl ?_
  refine aw_e rfl rfl rfl ?_
  refine aw_i2t rfl (by decide +kernel) ?_
  refine aw_e rfl rfl rfl ?_
  refine aw_e rfl rfl rfl ?_
  refine aw_e rfl rfl rfl ?_
  refine aw_e rfl rfl rfl ?_
  refine aw_e rfl rfl rfl ?_
  refine aw_i2t rfl (by decide +kernel) ?_
  refine aw_rv rfl ?_
  refine aw_e rfl rfl rfl ?_
  refine aw_e rfl rfl rfl ?_
  refine aw_ri rfl (by first | exact Or.inl rfl | exact Or.inr (by decide +kernel)) ?_
  refine aw_e rfl rfl rfl ?_
  refine aw_ri rfl (by first | exact Or.inl rfl | exact Or.inr (by decide +kernel)) ?_
  refine aw_e rfl rfl rfl ?_
  refine aw_i2f rfl (q2r_gt_f (z := 0) (by decide +kernel) (by omega)) ?_
  refine aw_e rfl rfl rfl ?_
  refine aw_e rfl rfl rfl ?_
  refine aw_e rfl rfl rfl ?_
  refine aw_e rfl rfl rfl ?_
  refine aw_e rfl rfl rfl ?_
  refine aw_e rfl rfl rfl ?_
  refine aw_e rfl rfl rfl ?_
  refine aw_e rfl rfl rfl ?_
  refine aw_e rfl rfl rfl ?_
  refine aw_i2t rfl (by decide +kernel) ?_
  refine aw_e rfl rfl rfl ?_
  refine aw_e rfl rfl rfl ?_
  refine aw_e rfl rfl rfl ?_
  refine aw_ci rfl rfl (by decide) rfl rfl ?_
  refine aw_e rfl rfl rfl ?_
  refine aw_e rfl rfl rfl ?_
  refine aw_e rfl rfl rfl ?_
  refine aw_e rfl rfl rfl ?_
  refine aw_e rfl rfl rfl ?_
  refine aw_e rfl rfl rfl ?_
  refine aw_e rfl rfl rfl ?_
  refine aw_e rfl rfl rfl ?_
  refine aw_e rfl rfl rfl ?_
  refine aw_e rfl rfl rfl ?_
  refine aw_e rfl rfl rfl ?_
  refine aw_ci rfl rfl (by decide) rfl rfl ?_
  refine aw_e rfl rfl rfl ?_
  refine aw_e rfl rfl rfl ?_
  refine aw_e rfl rfl rfl ?_
  refine aw_e rfl rfl rfl ?_
  refine aw_e rfl rfl rfl ?_
  refine aw_i2f rfl (by decide +kernel) ?_
  refine aw_e rfl rfl rfl ?_
  refine aw_e rfl rfl rfl ?_
  refine aw_i1t rfl (by decide +kernel) ?_
  refine aw_e rfl rfl rfl ?_
  refine aw_e rfl rfl rfl ?_
  refine aw_e rfl rfl rfl ?_
  refine aw_e rfl rfl rfl ?_
  refine aw_e rfl rfl rfl ?_
  refine aw_e rfl rfl rfl ?_
  refine aw_e rfl rfl rfl ?_
  refine aw_e rfl rfl rfl ?_
  refine aw_e rfl rfl rfl ?_
  refine aw_e rfl rfl rfl ?_
  refine aw_e rfl rfl rfl ?_
  refine aw_e rfl rfl rfl ?_
  refine aw_e rfl rfl rfl ?_
  refine aw_e rfl rfl rfl ?_
  refine aw_e rfl rfl rfl ?_
  refine aw_e rfl rfl rfl ?_
  refine aw_e rfl rfl rfl ?_
  refine aw_e rfl rfl rfl ?_
  refine aw_e rfl rfl rfl ?_
  refine aw_i2f rfl (by decide +kernel) ?_
  refine aw_e rfl rfl rfl ?_
  refine aw_e rfl rfl rfl ?_
  refine aw_i1t rfl (by decide +kernel) ?_
  refine aw_e rfl rfl rfl ?_
  refine aw_e rfl rfl rfl ?_
  refine aw_e rfl rfl rfl ?_
  refine aw_e rfl rfl rfl ?_
  refine aw_e rfl rfl rfl ?_
  refine aw_e rfl rfl rfl ?_
  refine aw_e rfl rfl rfl ?_
  refine aw_e rfl rfl rfl ?_
  refine aw_e rfl rfl rfl ?_
  refine aw_e rfl rfl rfl ?_
  refine aw_e rfl rfl rfl ?_
  refine aw_e rfl rfl rfl ?_
  refine aw_e rfl rfl rfl ?_
  refine aw_e rfl rfl rfl ?_
  refine aw_e rfl rfl rfl ?_
  refine aw_e rfl rfl rfl ?_
  refine aw_e rfl rfl rfl ?_
  refine aw_e rfl rfl rfl ?_
  refine aw_e rfl rfl rfl ?_
  refine aw_i2f rfl (by decide +kernel) ?_
  refine aw_e rfl rfl rfl ?_
  refine aw_e rfl rfl rfl ?_
  refine aw_i1t rfl (by decide +kernel) ?_
  refine aw_e rfl rfl rfl ?_
  refine aw_e rfl rfl rfl ?_
  refine aw_e rfl rfl rfl ?_
  refine aw_e rfl rfl rfl ?_
  refine aw_e rfl rfl rfl ?_
  refine aw_e rfl rfl rfl ?_
  refine aw_e rfl rfl rfl ?_
  refine aw_e rfl rfl rfl ?_
  refine aw_e rfl rfl rfl ?_
  refine aw_e rfl rfl rfl ?_
  refine aw_e rfl rfl rfl ?_
  refine aw_e rfl rfl rfl ?_
  refine aw_e rfl rfl rfl ?_
  refine aw_e rfl rfl rfl ?_
  refine aw_e rfl rfl rfl ?_
  refine aw_e rfl rfl rfl ?_
  refine aw_e rfl rfl rfl ?_
  refine aw_e rfl rfl rfl ?_
  refine aw_e rfl rfl rfl ?_
  refine aw_i2f rfl (by decide +kernel) ?_
  refine aw_e rfl rfl rfl ?_
  refine aw_e rfl rfl rfl ?_
  refine aw_i1t rfl (by decide +kernel) ?_
  refine aw_e rfl rfl rfl ?_
  refine aw_e rfl rfl rfl ?_
  refine aw_e rfl rfl rfl ?_
  refine aw_e rfl rfl rfl ?_
  refine aw_e rfl rfl rfl ?_
  refine aw_e rfl rfl rfl ?_
  refine aw_e rfl rfl rfl ?_
  refine aw_e rfl rfl rfl ?_
  refine aw_e rfl rfl rfl ?_
  refine aw_e rfl rfl rfl ?_
  refine aw_e rfl rfl rfl ?_
  refine aw_e rfl rfl rfl ?_
  refine aw_e rfl rfl rfl ?_
  refine aw_e rfl rfl rfl ?_
  refine aw_e rfl rfl rfl ?_
  refine aw_e rfl rfl rfl ?_
  refine aw_e rfl rfl rfl ?_
  refine aw_e rfl rfl rfl ?_
  refine aw_e rfl rfl rfl ?_
  refine aw_i2f rfl (by decide +kernel) ?_
  refine aw_e rfl rfl rfl ?_
  refine aw_e rfl rfl rfl ?_
  refine aw_i1t rfl (by decide +kernel) ?_
  refine aw_e rfl rfl rfl ?_
  refine aw_e rfl rfl rfl ?_
  refine aw_e rfl rfl rfl ?_
  refine aw_e rfl rfl rfl ?_
  refine aw_e rfl rfl rfl ?_
  refine aw_e rfl rfl rfl ?_
  refine aw_e rfl rfl rfl ?_
  refine aw_e rfl rfl rfl ?_
  refine aw_e rfl rfl rfl ?_
  refine aw_e rfl rfl rfl ?_
  refine aw_e rfl rfl rfl ?_
  refine aw_e rfl rfl rfl ?_
  refine aw_e rfl rfl rfl ?_
  refine aw_e rfl rfl rfl ?_
  refine aw_e rfl rfl rfl ?_
  refine aw_e rfl rfl rfl ?_
  refine aw_e rfl rfl rfl ?_
  refine aw_e rfl rfl rfl ?_
  refine aw_e rfl rfl rfl ?_
  refine aw_i2t rfl (by decide +kernel) ?_
  refine aw_rv rfl ?_
  refine aw_e rfl rfl rfl ?_
  refine aw_e rfl rfl rfl ?_
  refine aw_e rfl rfl rfl ?_
  refine aw_ci rfl rfl (by decide) rfl rfl ?_
  refine aw_e rfl rfl rfl ?_
  refine aw_e rfl rfl rfl ?_
  refine aw_e rfl rfl rfl ?_
  refine aw_e rfl rfl rfl ?_
  refine aw_e rfl rfl rfl ?_
  refine aw_i2f rfl (by decide +kernel) ?_
  refine aw_e rfl rfl rfl ?_
  refine aw_e rfl rfl rfl ?_
  refine aw_i1t rfl (by decide +kernel) ?_
  refine aw_e rfl rfl rfl ?_
  refine aw_e rfl rfl rfl ?_
  refine aw_e rfl rfl rfl ?_
  refine aw_e rfl rfl rfl ?_
  refine aw_e rfl rfl rfl ?_
  refine aw_e rfl rfl rfl ?_
  refine aw_e rfl rfl rfl ?_
  refine aw_e rfl rfl rfl ?_
  refine aw_e rfl rfl rfl ?_
  refine aw_e rfl rfl rfl ?_
  refine aw_e rfl rfl rfl ?_
  refine aw_e rfl rfl rfl ?_
  refine aw_e rfl rfl rfl ?_
  refine aw_e rfl rfl rfl ?_
  refine aw_e rfl rfl rfl ?_
  refine aw_e rfl rfl rfl ?_
  refine aw_e rfl rfl rfl ?_
  refine aw_e rfl rfl rfl ?_
  refine aw_e rfl rfl rfl ?_
  refine aw_i2f rfl (by decide +kernel) ?_
  refine aw_e rfl rfl rfl ?_
  refine aw_e rfl rfl rfl ?_
  refine aw_i1t rfl (by decide +kernel) ?_
  refine aw_e rfl rfl rfl ?_
  refine aw_e rfl rfl rfl ?_
  refine aw_e rfl rfl rfl ?_
  refine aw_e rfl rfl rfl ?_
  refine aw_e rfl rfl rfl ?_
  refine aw_e rfl rfl rfl ?_
  refine aw_e rfl rfl rfl ?_
  refine aw_e rfl rfl rfl ?_
  refine aw_e rfl rfl rfl ?_
  refine aw_e rfl rfl rfl ?_
  refine aw_e rfl rfl rfl ?_
  refine aw_e rfl rfl rfl ?_
  refine aw_e rfl rfl rfl ?_
  refine aw_e rfl rfl rfl ?_
  refine aw_e rfl rfl rfl ?_
  refine aw_e rfl rfl rfl ?_
  refine aw_e rfl rfl rfl ?_
  refine aw_e rfl rfl rfl ?_
  refine aw_e rfl rfl rfl ?_
  refine aw_i2f rfl (by decide +kernel) ?_
  refine aw_e rfl rfl rfl ?_
  refine aw_e rfl rfl rfl ?_
  refine aw_i1t rfl (by decide +kernel) ?_
  refine aw_e rfl rfl rfl ?_
  refine aw_e rfl rfl rfl ?_
  refine aw_e rfl rfl rfl ?_
  refine aw_e rfl rfl rfl ?_
  refine aw_e rfl rfl rfl ?_
  refine aw_e rfl rfl rfl ?_
  refine aw_e rfl rfl rfl ?_
  refine aw_e rfl rfl rfl ?_
  refine aw_e rfl rfl rfl ?_
  refine aw_e rfl rfl rfl ?_
  refine aw_e rfl rfl rfl ?_
  refine aw_e rfl rfl rfl ?_
  refine aw_e rfl rfl rfl ?_
  refine aw_e rfl rfl rfl ?_
  refine aw_e rfl rfl rfl ?_
  refine aw_e rfl rfl rfl ?_
  refine aw_e rfl rfl rfl ?_
  refine aw_e rfl rfl rfl ?_
  refine aw_e rfl rfl rfl ?_
  refine aw_i2f rfl (by decide +kernel) ?_
  refine aw_e rfl rfl rfl ?_
  refine aw_e rfl rfl rfl ?_
  refine aw_i1t rfl (by decide +kernel) ?_
  refine aw_e rfl rfl rfl ?_
  refine aw_e rfl rfl rfl ?_
  refine aw_e rfl rfl rfl ?_
  refine aw_e rfl rfl rfl ?_
  refine aw_e rfl rfl rfl ?_
  refine aw_e rfl rfl rfl ?_
  refine aw_e rfl rfl rfl ?_
  refine aw_e rfl rfl rfl ?_
  refine aw_e rfl rfl rfl ?_
  refine aw_e rfl rfl rfl ?_
  refine aw_e rfl rfl rfl ?_
  refine aw_e rfl rfl rfl ?_
  refine aw_e rfl rfl rfl ?_
  refine aw_e rfl rfl rfl ?_
  refine aw_e rfl rfl rfl ?_
  refine aw_e rfl rfl rfl ?_
  refine aw_e rfl rfl rfl ?_
  refine aw_e rfl rfl rfl ?_
  refine aw_e rfl rfl rfl ?_
  refine aw_i2f rfl (by decide +kernel) ?_
  refine aw_e rfl rfl rfl ?_
  refine aw_e rfl rfl rfl ?_
  refine aw_i1t rfl (by decide +kernel) ?_
  refine aw_e rfl rfl rfl ?_
  refine aw_e rfl rfl rfl ?_
  refine aw_e rfl rfl rfl ?_
  refine aw_e rfl rfl rfl ?_
  refine aw_e rfl rfl rfl ?_
  refine aw_e rfl rfl rfl ?_
  refine aw_e rfl rfl rfl ?_
  refine aw_e rfl rfl rfl ?_
  refine aw_e rfl rfl rfl ?_
  refine aw_e rfl rfl rfl ?_
  refine aw_e rfl rfl rfl ?_
  refine aw_e rfl rfl rfl ?_
  refine aw_e rfl rfl rfl ?_
  refine aw_e rfl rfl rfl ?_
  refine aw_e rfl rfl rfl ?_
  refine aw_e rfl rfl rfl ?_
  refine aw_e rfl rfl rfl ?_
  refine aw_e rfl rfl rfl ?_
  refine aw_e rfl rfl rfl ?_
  refine aw_i2f rfl (by decide +kernel) ?_
  refine aw_e rfl rfl rfl ?_
  refine aw_e rfl rfl rfl ?_
  refine aw_i1t rfl (by decide +kernel) ?_
  refine aw_e rfl rfl rfl ?_
  refine aw_e rfl rfl rfl ?_
  refine aw_e rfl rfl rfl ?_
  refine aw_e rfl rfl rfl ?_
  refine aw_e rfl rfl rfl ?_
  refine aw_e rfl rfl rfl ?_
  refine aw_e rfl rfl rfl ?_
  refine aw_e rfl rfl rfl ?_
  refine aw_e rfl rfl rfl ?_
  refine aw_e rfl rfl rfl ?_
  refine aw_e rfl rfl rfl ?_
  refine aw_e rfl rfl rfl ?_
  refine aw_e rfl rfl rfl ?_
  refine aw_e rfl rfl rfl ?_
  refine aw_e rfl rfl rfl ?_
  refine aw_e rfl rfl rfl ?_
  refine aw_e rfl rfl rfl ?_
  refine aw_e rfl rfl rfl ?_
  refine aw_e rfl rfl rfl ?_
  refine aw_i2f rfl (by decide +kernel) ?_
  refine aw_e rfl rfl rfl ?_
  refine aw_e rfl rfl rfl ?_
  refine aw_i1t rfl (by decide +kernel) ?_
  refine aw_e rfl rfl rfl ?_
  refine aw_e rfl rfl rfl ?_
  refine aw_e rfl rfl rfl ?_
  refine aw_e rfl rfl rfl ?_
  refine aw_e rfl rfl rfl ?_
  refine aw_e rfl rfl rfl ?_
  refine aw_e rfl rfl rfl ?_
  refine aw_e rfl rfl rfl ?_
  refine aw_e rfl rfl rfl ?_
  refine aw_e rfl rfl rfl ?_
  refine aw_e rfl rfl rfl ?_
  refine aw_e rfl rfl rfl ?_
  refine aw_e rfl rfl rfl ?_
  refine aw_e rfl rfl rfl ?_
  refine aw_e rfl rfl rfl ?_
  refine aw_e rfl rfl rfl ?_
  refine aw_e rfl rfl rfl ?_
  refine aw_e rfl rfl rfl ?_
  refine aw_e rfl rfl rfl ?_
  refine aw_i2f rfl (by decide +kernel) ?_
  refine aw_e rfl rfl rfl ?_
  refine aw_e rfl rfl rfl ?_
  refine aw_i1t rfl (by decide +kernel) ?_
  refine aw_e rfl rfl rfl ?_
  refine aw_e rfl rfl rfl ?_
  refine aw_e rfl rfl rfl ?_
  refine aw_e rfl rfl rfl ?_
  refine aw_e rfl rfl rfl ?_
  refine aw_e rfl rfl rfl ?_
  refine aw_e rfl rfl rfl ?_
  refine aw_e rfl rfl rfl ?_
  refine aw_e rfl rfl rfl ?_
  refine aw_e rfl rfl rfl ?_
  refine aw_e rfl rfl rfl ?_
  refine aw_e rfl rfl rfl ?_
  refine aw_e rfl rfl rfl ?_
  refine aw_e rfl rfl rfl ?_
  refine aw_e rfl rfl rfl ?_
  refine aw_e rfl rfl rfl ?_
  refine aw_e rfl rfl rfl ?_
  refine aw_e rfl rfl rfl ?_
  refine aw_e rfl rfl rfl ?_
  refine aw_i2t rfl (by decide +kernel) ?_
  refine aw_rv rfl ?_
  refine aw_e rfl rfl rfl ?_
  refine aw_e rfl rfl rfl ?_
  refine aw_e rfl rfl rfl ?_
  refine aw_ci rfl rfl (by decide) rfl rfl ?_
  refine aw_e rfl rfl rfl ?_
  refine aw_e rfl rfl rfl ?_
  refine aw_e rfl rfl rfl ?_
  refine aw_e rfl rfl rfl ?_
  refine aw_e rfl rfl rfl ?_
  refine aw_i2f rfl (by decide +kernel) ?_
  refine aw_e rfl rfl rfl ?_
  refine aw_e rfl rfl rfl ?_
  refine aw_i1t rfl (by decide +kernel) ?_
  refine aw_e rfl rfl rfl ?_
  refine aw_e rfl rfl rfl ?_
  refine aw_e rfl rfl rfl ?_
  refine aw_e rfl rfl rfl ?_
  refine aw_e rfl rfl rfl ?_
  refine aw_e rfl rfl rfl ?_
  refine aw_e rfl rfl rfl ?_
  refine aw_e rfl rfl rfl ?_
  refine aw_e rfl rfl rfl ?_
  refine aw_e rfl rfl rfl ?_
  refine aw_e rfl rfl rfl ?_
  refine aw_e rfl rfl rfl ?_
  refine aw_e rfl rfl rfl ?_
  refine aw_e rfl rfl rfl ?_
  refine aw_e rfl rfl rfl ?_
  refine aw_e rfl rfl rfl ?_
  refine aw_e rfl rfl rfl ?_
  refine aw_e rfl rfl rfl ?_
  refine aw_e rfl rfl rfl ?_
  refine aw_i2f rfl (by decide +kernel) ?_
  refine aw_e rfl rfl rfl ?_
  refine aw_e rfl rfl rfl ?_
  refine aw_i1t rfl (by decide +kernel) ?_
  refine aw_e rfl rfl rfl ?_
  refine aw_e rfl rfl rfl ?_
  refine aw_e rfl rfl rfl ?_
  refine aw_e rfl rfl rfl ?_
  refine aw_e rfl rfl rfl ?_
  refine aw_e rfl rfl rfl ?_
  refine aw_e rfl rfl rfl ?_
  refine aw_e rfl rfl rfl ?_
  refine aw_e rfl rfl rfl ?_
  refine aw_e rfl rfl rfl ?_
  refine aw_e rfl rfl rfl ?_
  refine aw_e rfl rfl rfl ?_
  refine aw_e rfl rfl rfl ?_
  refine aw_e rfl rfl rfl ?_
  refine aw_e rfl rfl rfl ?_
  refine aw_e rfl rfl rfl ?_
  refine aw_e rfl rfl rfl ?_
  refine aw_e rfl rfl rfl ?_
  refine aw_e rfl rfl rfl ?_
  refine aw_i2f rfl (by decide +kernel) ?_
  refine aw_e rfl rfl rfl ?_
  refine aw_e rfl rfl rfl ?_
  refine aw_i1t rfl (by decide +kernel) ?_
  refine aw_e rfl rfl rfl ?_
  refine aw_e rfl rfl rfl ?_
  refine aw_e rfl rfl rfl ?_
  refine aw_e rfl rfl rfl ?_
  refine aw_e rfl rfl rfl ?_
  refine aw_e rfl rfl rfl ?_
  refine aw_e rfl rfl rfl ?_
  refine aw_e rfl rfl rfl ?_
  refine aw_e rfl rfl rfl ?_
  refine aw_e rfl rfl rfl ?_
  refine aw_e rfl rfl rfl ?_
  refine aw_e rfl rfl rfl ?_
  refine aw_e rfl rfl rfl ?_
  refine aw_e rfl rfl rfl ?_
  refine aw_e rfl rfl rfl ?_
  refine aw_e rfl rfl rfl ?_
  refine aw_e rfl rfl rfl ?_
  refine aw_e rfl rfl rfl ?_
  refine aw_e rfl rfl rfl ?_
  refine aw_i2f rfl (by decide +kernel) ?_
  refine aw_e rfl rfl rfl ?_
  refine aw_e rfl rfl rfl ?_
  refine aw_i1t rfl (by decide +kernel) ?_
  refine aw_e rfl rfl rfl ?_
  refine aw_e rfl rfl rfl ?_
  refine aw_e rfl rfl rfl ?_
  refine aw_e rfl rfl rfl ?_
  refine aw_e rfl rfl rfl ?_
  refine aw_e rfl rfl rfl ?_
  refine aw_e rfl rfl rfl ?_
  refine aw_e rfl rfl rfl ?_
  refine aw_e rfl rfl rfl ?_
  refine aw_e rfl rfl rfl ?_
  refine aw_e rfl rfl rfl ?_
  refine aw_e rfl rfl rfl ?_
  refine aw_e rfl rfl rfl ?_
  refine aw_e rfl rfl rfl ?_
  refine aw_e rfl rfl rfl ?_
  refine aw_e rfl rfl rfl ?_
  refine aw_e rfl rfl rfl ?_
  refine aw_e rfl rfl rfl ?_
  refine aw_e rfl rfl rfl ?_
  refine aw_i2f rfl (by decide +kernel) ?_
  refine aw_e rfl rfl rfl ?_
  refine aw_e rfl rfl rfl ?_
  refine aw_i1t rfl (by decide +kernel) ?_
  refine aw_e rfl rfl rfl ?_
  refine aw_e rfl rfl rfl ?_
  refine aw_e rfl rfl rfl ?_
  refine aw_e rfl rfl rfl ?_
  refine aw_e rfl rfl rfl ?_
  refine aw_e rfl rfl rfl ?_
  refine aw_e rfl rfl rfl ?_
  refine aw_e rfl rfl rfl ?_
  refine aw_e rfl rfl rfl ?_
  refine aw_e rfl rfl rfl ?_
  refine aw_e rfl rfl rfl ?_
  refine aw_e rfl rfl rfl ?_
  refine aw_e rfl rfl rfl ?_
  refine aw_e rfl rfl rfl ?_
  refine aw_e rfl rfl rfl ?_
  refine aw_e rfl rfl rfl ?_
  refine aw_e rfl rfl rfl ?_
  refine aw_e rfl rfl rfl ?_
  refine aw_e rfl rfl rfl ?_
  refine aw_i2f rfl (by decide +kernel) ?_
  refine aw_e rfl rfl rfl ?_
  refine aw_e rfl rfl rfl ?_
  refine aw_i1t rfl (by decide +kernel) ?_
  refine aw_e rfl rfl rfl ?_
  refine aw_e rfl rfl rfl ?_
  refine aw_e rfl rfl rfl ?_
  refine aw_e rfl rfl rfl ?_
  refine aw_e rfl rfl rfl ?_
  refine aw_e rfl rfl rfl ?_
  refine aw_e rfl rfl rfl ?_
  refine aw_e rfl rfl rfl ?_
  refine aw_e rfl rfl rfl ?_
  refine aw_e rfl rfl rfl ?_
  refine aw_e rfl rfl rfl ?_
  refine aw_e rfl rfl rfl ?_
  refine aw_e rfl rfl rfl ?_
  refine aw_e rfl rfl rfl ?_
  refine aw_e rfl rfl rfl ?_
  refine aw_e rfl rfl rfl ?_
  refine aw_e rfl rfl rfl ?_
  refine aw_e rfl rfl rfl ?_
  refine aw_e rfl rfl rfl ?_
  refine aw_i2f rfl (by decide +kernel) ?_
  refine aw_e rfl rfl rfl ?_
  refine aw_e rfl rfl rfl ?_
  refine aw_i1t rfl (by decide +kernel) ?_
  refine aw_e rfl rfl rfl ?_
  refine aw_e rfl rfl rfl ?_
  refine aw_e rfl rfl rfl ?_
  refine aw_e rfl rfl rfl ?_
  refine aw_e rfl rfl rfl ?_
  refine aw_e rfl rfl rfl ?_
  refine aw_e rfl rfl rfl ?_
  refine aw_e rfl rfl rfl ?_
  refine aw_e rfl rfl rfl ?_
  refine aw_e rfl rfl rfl ?_
  refine aw_e rfl rfl rfl ?_
  refine aw_e rfl rfl rfl ?_
  refine aw_e rfl rfl rfl ?_
  refine aw_e rfl rfl rfl ?_
  refine aw_e rfl rfl rfl ?_
  refine aw_e rfl rfl rfl ?_
  refine aw_e rfl rfl rfl ?_
  refine aw_e rfl rfl rfl ?_
  refine aw_e rfl rfl rfl ?_
  refine aw_i2f rfl (by decide +kernel) ?_
  refine aw_e rfl rfl rfl ?_
  refine aw_e rfl rfl rfl ?_
  refine aw_i1t rfl (by decide +kernel) ?_
  refine aw_e rfl rfl rfl ?_
  refine aw_e rfl rfl rfl ?_
  refine aw_e rfl rfl rfl ?_
  refine aw_e rfl rfl rfl ?_
  refine aw_e rfl rfl rfl ?_
  refine aw_e rfl rfl rfl ?_
  refine aw_e rfl rfl rfl ?_
  refine aw_e rfl rfl rfl ?_
  refine aw_e rfl rfl rfl ?_
  refine aw_e rfl rfl rfl ?_
  refine aw_e rfl rfl rfl ?_
  refine aw_e rfl rfl rfl ?_
  refine aw_e rfl rfl rfl ?_
  refine aw_e rfl rfl rfl ?_
  refine aw_e rfl rfl rfl ?_
  refine aw_e rfl rfl rfl ?_
  refine aw_e rfl rfl rfl ?_
  refine aw_e rfl rfl rfl ?_
  refine aw_e rfl rfl rfl ?_
  refine aw_i2t rfl (by decide +kernel) ?_
  refine aw_rv rfl ?_
  refine aw_e rfl rfl rfl ?_
  refine aw_e rfl rfl rfl ?_
  refine aw_e rfl rfl rfl ?_
  refine aw_ci rfl rfl (by decide) rfl rfl ?_
  refine aw_e rfl rfl rfl ?_
  refine aw_e rfl rfl rfl ?_
  refine aw_e rfl rfl rfl ?_
  refine aw_e rfl rfl rfl ?_
  refine aw_e rfl rfl rfl ?_
  refine aw_i2f rfl (by decide +kernel) ?_
  refine aw_e rfl rfl rfl ?_
  refine aw_e rfl rfl rfl ?_
  refine aw_i1t rfl (by decide +kernel) ?_
  refine aw_e rfl rfl rfl ?_
  refine aw_e rfl rfl rfl ?_
  refine aw_e rfl rfl rfl ?_
  refine aw_e rfl rfl rfl ?_
  refine aw_e rfl rfl rfl ?_
  refine aw_e rfl rfl rfl ?_
  refine aw_e rfl rfl rfl ?_
  refine aw_e rfl rfl rfl ?_
  refine aw_e rfl rfl rfl ?_
  refine aw_e rfl rfl rfl ?_
  refine aw_e rfl rfl rfl ?_
  refine aw_e rfl rfl rfl ?_
  refine aw_e rfl rfl rfl ?_
  refine aw_e rfl rfl rfl ?_
  refine aw_e rfl rfl rfl ?_
  refine aw_e rfl rfl rfl ?_
  refine aw_e rfl rfl rfl ?_
  refine aw_e rfl rfl rfl ?_
  refine aw_e rfl rfl rfl ?_
  refine aw_i2f rfl (by decide +kernel) ?_
  refine aw_e rfl rfl rfl ?_
  refine aw_e rfl rfl rfl ?_
  refine aw_i1t rfl (by decide +kernel) ?_
  refine aw_e rfl rfl rfl ?_
  refine aw_e rfl rfl rfl ?_
  refine aw_e rfl rfl rfl ?_
  refine aw_e rfl rfl rfl ?_
  refine aw_e rfl rfl rfl ?_
  refine aw_e rfl rfl rfl ?_
  refine aw_e rfl rfl rfl ?_
  refine aw_e rfl rfl rfl ?_
  refine aw_e rfl rfl rfl ?_
  refine aw_e rfl rfl rfl ?_
  refine aw_e rfl rfl rfl ?_
  refine aw_e rfl rfl rfl ?_
  refine aw_e rfl rfl rfl ?_
  refine aw_e rfl rfl rfl ?_
  refine aw_e rfl rfl rfl ?_
  refine aw_e rfl rfl rfl ?_
  refine aw_e rfl rfl rfl ?_
  refine aw_e rfl rfl rfl ?_
  refine aw_e rfl rfl rfl ?_
  refine aw_i2f rfl (by decide +kernel) ?_
  refine aw_e rfl rfl rfl ?_
  refine aw_e rfl rfl rfl ?_
  refine aw_i1t rfl (by decide +kernel) ?_
  refine aw_e rfl rfl rfl ?_
  refine aw_e rfl rfl rfl ?_
  refine aw_e rfl rfl rfl ?_
  refine aw_e rfl rfl rfl ?_
  refine aw_e rfl rfl rfl ?_
  refine aw_e rfl rfl rfl ?_
  refine aw_e rfl rfl rfl ?_
  refine aw_e rfl rfl rfl ?_
  refine aw_e rfl rfl rfl ?_
  refine aw_e rfl rfl rfl ?_
  refine aw_e rfl rfl rfl ?_
  refine aw_e rfl rfl rfl ?_
  refine aw_e rfl rfl rfl ?_
  refine aw_e rfl rfl rfl ?_
  refine aw_e rfl rfl rfl ?_
  refine aw_e rfl rfl rfl ?_
  refine aw_e rfl rfl rfl ?_
  refine aw_e rfl rfl rfl ?_
  refine aw_e rfl rfl rfl ?_
  refine aw_i2f rfl (by decide +kernel) ?_
  refine aw_e rfl rfl rfl ?_
  refine aw_e rfl rfl rfl ?_
  refine aw_i1t rfl (by decide +kernel) ?_
  refine aw_e rfl rfl rfl ?_
  refine aw_e rfl rfl rfl ?_
  refine aw_e rfl rfl rfl ?_
  refine aw_e rfl rfl rfl ?_
  refine aw_e rfl rfl rfl ?_
  refine aw_e rfl rfl rfl ?_
  refine aw_e rfl rfl rfl ?_
  refine aw_e rfl rfl rfl ?_
  refine aw_e rfl rfl rfl ?_
  refine aw_e rfl rfl rfl ?_
  refine aw_e rfl rfl rfl ?_
  refine aw_e rfl rfl rfl ?_
  refine aw_e rfl rfl rfl ?_
  refine aw_e rfl rfl rfl ?_
  refine aw_e rfl rfl rfl ?_
  refine aw_e rfl rfl rfl ?_
  refine aw_e rfl rfl rfl ?_
  refine aw_e rfl rfl rfl ?_
  refine aw_e rfl rfl rfl ?_
  refine aw_i2f rfl (by decide +kernel) ?_
  refine aw_e rfl rfl rfl ?_
  refine aw_e rfl rfl rfl ?_
  refine aw_i1t rfl (by decide +kernel) ?_
  refine aw_e rfl rfl rfl ?_
  refine aw_e rfl rfl rfl ?_
  refine aw_e rfl rfl rfl ?_
  refine aw_e rfl rfl rfl ?_
  refine aw_e rfl rfl rfl ?_
  refine aw_e rfl rfl rfl ?_
  refine aw_e rfl rfl rfl ?_
  refine aw_e rfl rfl rfl ?_
  refine aw_e rfl rfl rfl ?_
  refine aw_e rfl rfl rfl ?_
  refine aw_e rfl rfl rfl ?_
  refine aw_e rfl rfl rfl ?_
  refine aw_e rfl rfl rfl ?_
  refine aw_e rfl rfl rfl ?_
  refine aw_e rfl rfl rfl ?_
  refine aw_e rfl rfl rfl ?_
  refine aw_e rfl rfl rfl ?_
  refine aw_e rfl rfl rfl ?_
  refine aw_e rfl rfl rfl ?_
  refine aw_i2f rfl (by decide +kernel) ?_
  refine aw_e rfl rfl rfl ?_
  refine aw_e rfl rfl rfl ?_
  refine aw_i1t rfl (by decide +kernel) ?_
  refine aw_e rfl rfl rfl ?_
  refine aw_e rfl rfl rfl ?_
  refine aw_e rfl rfl rfl ?_
  refine aw_e rfl rfl rfl ?_
  refine aw_e rfl rfl rfl ?_
  refine aw_e rfl rfl rfl ?_
  refine aw_e rfl rfl rfl ?_
  refine aw_e rfl rfl rfl ?_
  refine aw_e rfl rfl rfl ?_
  refine aw_e rfl rfl rfl ?_
  refine aw_e rfl rfl rfl ?_
  refine aw_e rfl rfl rfl ?_
  refine aw_e rfl rfl rfl ?_
  refine aw_e rfl rfl rfl ?_
  refine aw_e rfl rfl rfl ?_
  refine aw_e rfl rfl rfl ?_
  refine aw_e rfl rfl rfl ?_
  refine aw_e rfl rfl rfl ?_
  refine aw_e rfl rfl rfl ?_
  refine aw_i2f rfl (by decide +kernel) ?_
  refine aw_e rfl rfl rfl ?_
  refine aw_e rfl rfl rfl ?_
  refine aw_i1t rfl (by decide +kernel) ?_
  refine aw_e rfl rfl rfl ?_
  refine aw_e rfl rfl rfl ?_
  refine aw_e rfl rfl rfl ?_
  refine aw_e rfl rfl rfl ?_
  refine aw_e rfl rfl rfl ?_
  refine aw_e rfl rfl rfl ?_
  refine aw_e rfl rfl rfl ?_
  refine aw_e rfl rfl rfl ?_
  refine aw_e rfl rfl rfl ?_
  refine aw_e rfl rfl rfl ?_
  refine aw_e rfl rfl rfl ?_
  refine aw_e rfl rfl rfl ?_
  refine aw_e rfl rfl rfl ?_
  refine aw_e rfl rfl rfl ?_
  refine aw_e rfl rfl rfl ?_
  refine aw_e rfl rfl rfl ?_
  refine aw_e rfl rfl rfl ?_
  refine aw_e rfl rfl rfl ?_
  refine aw_e rfl rfl rfl ?_
  refine aw_i2f rfl (by decide +kernel) ?_
  refine aw_e rfl rfl rfl ?_
  refine aw_e rfl rfl rfl ?_
  refine aw_i1t rfl (by decide +kernel) ?_
  refine aw_e rfl rfl rfl ?_
  refine aw_e rfl rfl rfl ?_
  refine aw_e rfl rfl rfl ?_
  refine aw_e rfl rfl rfl ?_
  refine aw_e rfl rfl rfl ?_
  refine aw_e rfl rfl rfl ?_
  refine aw_e rfl rfl rfl ?_
  refine aw_e rfl rfl rfl ?_
  refine aw_e rfl rfl rfl ?_
  refine aw_e rfl rfl rfl ?_
  refine aw_e rfl rfl rfl ?_
  refine aw_e rfl rfl rfl ?_
  refine aw_e rfl rfl rfl ?_
  refine aw_e rfl rfl rfl ?_
  refine aw_e rfl rfl rfl ?_
  refine aw_e rfl rfl rfl ?_
  refine aw_e rfl rfl rfl ?_
  refine aw_e rfl rfl rfl ?_
  refine aw_e rfl rfl rfl ?_
  refine aw_i2t rfl (by decide +kernel) ?_
  refine aw_rv rfl ?_
  refine aw_e rfl rfl rfl ?_
  refine aw_e rfl rfl rfl ?_
  refine aw_e rfl rfl rfl ?_
  refine aw_ci rfl rfl (by decide) rfl rfl ?_
  refine aw_e rfl rfl rfl ?_
  refine aw_e rfl rfl rfl ?_
  refine aw_e rfl rfl rfl ?_
  refine aw_e rfl rfl rfl ?_
  refine aw_e rfl rfl rfl ?_
  refine aw_i2f rfl (by decide +kernel) ?_
  refine aw_e rfl rfl rfl ?_
  refine aw_e rfl rfl rfl ?_
  refine aw_i1t rfl (by decide +kernel) ?_
  refine aw_e rfl rfl rfl ?_
  refine aw_e rfl rfl rfl ?_
  refine aw_e rfl rfl rfl ?_
  refine aw_e rfl rfl rfl ?_
  refine aw_e rfl rfl rfl ?_
  refine aw_e rfl rfl rfl ?_
  refine aw_e rfl rfl rfl ?_
  refine aw_e rfl rfl rfl ?_
  refine aw_e rfl rfl rfl ?_
  refine aw_e rfl rfl rfl ?_
  refine aw_e rfl rfl rfl ?_
  refine aw_e rfl rfl rfl ?_
  refine aw_e rfl rfl rfl ?_
  refine aw_e rfl rfl rfl ?_
  refine aw_e rfl rfl rfl ?_
  refine aw_e rfl rfl rfl ?_
  refine aw_e rfl rfl rfl ?_
  refine aw_e rfl rfl rfl ?_
  refine aw_e rfl rfl rfl ?_
  refine aw_i2f rfl (by decide +kernel) ?_
  refine aw_e rfl rfl rfl ?_
  refine aw_e rfl rfl rfl ?_
  refine aw_i1t rfl (by decide +kernel) ?_
  refine aw_e rfl rfl rfl ?_
  refine aw_e rfl rfl rfl ?_
  refine aw_e rfl rfl rfl ?_
  refine aw_e rfl rfl rfl ?_
  refine aw_e rfl rfl rfl ?_
  refine aw_e rfl rfl rfl ?_
  refine aw_e rfl rfl rfl ?_
  refine aw_e rfl rfl rfl ?_
  refine aw_e rfl rfl rfl ?_
  refine aw_e rfl rfl rfl ?_
  refine aw_e rfl rfl rfl ?_
  refine aw_e rfl rfl rfl ?_
  refine aw_e rfl rfl rfl ?_
  refine aw_e rfl rfl rfl ?_
  refine aw_e rfl rfl rfl ?_
  refine aw_e rfl rfl rfl ?_
  refine aw_e rfl rfl rfl ?_
  refine aw_e rfl rfl rfl ?_
  refine aw_e rfl rfl rfl ?_
  refine aw_i2f rfl (by decide +kernel) ?_
  refine aw_e rfl rfl rfl ?_
  refine aw_e rfl rfl rfl ?_
  refine aw_i1t rfl (by decide +kernel) ?_
  refine aw_e rfl rfl rfl ?_
  refine aw_e rfl rfl rfl ?_
  refine aw_e rfl rfl rfl ?_
  refine aw_e rfl rfl rfl ?_
  refine aw_e rfl rfl rfl ?_
  refine aw_e rfl rfl rfl ?_
  refine aw_e rfl rfl rfl ?_
  refine aw_e rfl rfl rfl ?_
  refine aw_e rfl rfl rfl ?_
  refine aw_e rfl rfl rfl ?_
  refine aw_e rfl rfl rfl ?_
  refine aw_e rfl rfl rfl ?_
  refine aw_e rfl rfl rfl ?_
  refine aw_e rfl rfl rfl ?_
  refine aw_e rfl rfl rfl ?_
  refine aw_e rfl rfl rfl ?_
  refine aw_e rfl rfl rfl ?_
  refine aw_e rfl rfl rfl ?_
  refine aw_e rfl rfl rfl ?_
  refine aw_i2f rfl (by decide +kernel) ?_
  refine aw_e rfl rfl rfl ?_
  refine aw_e rfl rfl rfl ?_
  refine aw_i1t rfl (by decide +kernel) ?_
  refine aw_e rfl rfl rfl ?_
  refine aw_e rfl rfl rfl ?_
  refine aw_e rfl rfl rfl ?_
  refine aw_e rfl rfl rfl ?_
  refine aw_e rfl rfl rfl ?_
  refine aw_e rfl rfl rfl ?_
  refine aw_e rfl rfl rfl ?_
  refine aw_e rfl rfl rfl ?_
  refine aw_e rfl rfl rfl ?_
  refine aw_e rfl rfl rfl ?_
  refine aw_e rfl rfl rfl ?_
  refine aw_e rfl rfl rfl ?_
  refine aw_e rfl rfl rfl ?_
  refine aw_e rfl rfl rfl ?_
  refine aw_e rfl rfl rfl ?_
  refine aw_e rfl rfl rfl ?_
  refine aw_e rfl rfl rfl ?_
  refine aw_e rfl rfl rfl ?_
  refine aw_e rfl rfl rfl ?_
  refine aw_i2f rfl (by decide +kernel) ?_
  refine aw_e rfl rfl rfl ?_
  refine aw_e rfl rfl rfl ?_
  refine aw_i1t rfl (by decide +kernel) ?_
  refine aw_e rfl rfl rfl ?_
  refine aw_e rfl rfl rfl ?_
  refine aw_e rfl rfl rfl ?_
  refine aw_e rfl rfl rfl ?_
  refine aw_e rfl rfl rfl ?_
  refine aw_e rfl rfl rfl ?_
  refine aw_e rfl rfl rfl ?_
  refine aw_e rfl rfl rfl ?_
  refine aw_e rfl rfl rfl ?_
  refine aw_e rfl rfl rfl ?_
  refine aw_e rfl rfl rfl ?_
  refine aw_e rfl rfl rfl ?_
  refine aw_e rfl rfl rfl ?_
  refine aw_e rfl rfl rfl ?_
  refine aw_e rfl rfl rfl ?_
  refine aw_e rfl rfl rfl ?_
  refine aw_e rfl rfl rfl ?_
  refine aw_e rfl rfl rfl ?_
  refine aw_e rfl rfl rfl ?_
  refine aw_i2f rfl (by decide +kernel) ?_
  refine aw_e rfl rfl rfl ?_
  refine aw_e rfl rfl rfl ?_
  refine aw_i1t rfl (by decide +kernel) ?_
  refine aw_e rfl rfl rfl ?_
  refine aw_e rfl rfl rfl ?_
  refine aw_e rfl rfl rfl ?_
  refine aw_e rfl rfl rfl ?_
  refine aw_e rfl rfl rfl ?_
  refine aw_e rfl rfl rfl ?_
  refine aw_e rfl rfl rfl ?_
  refine aw_e rfl rfl rfl ?_
  refine aw_e rfl rfl rfl ?_
  refine aw_e rfl rfl rfl ?_
  refine aw_e rfl rfl rfl ?_
  refine aw_e rfl rfl rfl ?_
  refine aw_e rfl rfl rfl ?_
  refine aw_e rfl rfl rfl ?_
  refine aw_e rfl rfl rfl ?_
  refine aw_e rfl rfl rfl ?_
  refine aw_e rfl rfl rfl ?_
  refine aw_e rfl rfl rfl ?_
  refine aw_e rfl rfl rfl ?_
  refine aw_i2f rfl (by decide +kernel) ?_
  refine aw_e rfl rfl rfl ?_
  refine aw_e rfl rfl rfl ?_
  refine aw_i1t rfl (by decide +kernel) ?_
  refine aw_e rfl rfl rfl ?_
  refine aw_e rfl rfl rfl ?_
  refine aw_e rfl rfl rfl ?_
  refine aw_e rfl rfl rfl ?_
  refine aw_e rfl rfl rfl ?_
  refine aw_e rfl rfl rfl ?_
  refine aw_e rfl rfl rfl ?_
  refine aw_e rfl rfl rfl ?_
  refine aw_e rfl rfl rfl ?_
  refine aw_e rfl rfl rfl ?_
  refine aw_e rfl rfl rfl ?_
  refine aw_e rfl rfl rfl ?_
  refine aw_e rfl rfl rfl ?_
  refine aw_e rfl rfl rfl ?_
  refine aw_e rfl rfl rfl ?_
  refine aw_e rfl rfl rfl ?_
  refine aw_e rfl rfl rfl ?_
  refine aw_e rfl rfl rfl ?_
  refine aw_e rfl rfl rfl ?_
  refine aw_i2f rfl (by decide +kernel) ?_
  refine aw_e rfl rfl rfl ?_
  refine aw_e rfl rfl rfl ?_
  refine aw_i1t rfl (by decide +kernel) ?_
  refine aw_e rfl rfl rfl ?_
  refine aw_e rfl rfl rfl ?_
  refine aw_e rfl rfl rfl ?_
  refine aw_e rfl rfl rfl ?_
  refine aw_e rfl rfl rfl ?_
  refine aw_e rfl rfl rfl ?_
  refine aw_e rfl rfl rfl ?_
  refine aw_e rfl rfl rfl ?_
  refine aw_e rfl rfl rfl ?_
  refine aw_e rfl rfl rfl ?_
  refine aw_e rfl rfl rfl ?_
  refine aw_e rfl rfl rfl ?_
  refine aw_e rfl rfl rfl ?_
  refine aw_e rfl rfl rfl ?_
  refine aw_e rfl rfl rfl ?_
  refine aw_e rfl rfl rfl ?_
  refine aw_e rfl rfl rfl ?_
  refine aw_e rfl rfl rfl ?_
  refine aw_e rfl rfl rfl ?_
  refine aw_i2t rfl (by decide +kernel) ?_
  refine aw_rv rfl ?_
  refine aw_e rfl rfl rfl ?_
  refine aw_e rfl rfl rfl ?_
  refine aw_e rfl rfl rfl ?_
  refine aw_ci rfl rfl (by decide) rfl rfl ?_
  refine aw_e rfl rfl rfl ?_
  refine aw_e rfl rfl rfl ?_
  refine aw_e rfl rfl rfl ?_
  refine aw_e rfl rfl rfl ?_
  refine aw_e rfl rfl rfl ?_
  refine aw_i2f rfl (by decide +kernel) ?_
  refine aw_e rfl rfl rfl ?_
  refine aw_e rfl rfl rfl ?_
  refine aw_i1t rfl (by decide +kernel) ?_
  refine aw_e rfl rfl rfl ?_
  refine aw_e rfl rfl rfl ?_
  refine aw_e rfl rfl rfl ?_
  refine aw_e rfl rfl rfl ?_
  refine aw_e rfl rfl rfl ?_
  refine aw_e rfl rfl rfl ?_
  refine aw_e rfl rfl rfl ?_
  refine aw_e rfl rfl rfl ?_
  refine aw_e rfl rfl rfl ?_
  refine aw_e rfl rfl rfl ?_
  refine aw_e rfl rfl rfl ?_
  refine aw_e rfl rfl rfl ?_
  refine aw_e rfl rfl rfl ?_
  refine aw_e rfl rfl rfl ?_
  refine aw_e rfl rfl rfl ?_
  refine aw_e rfl rfl rfl ?_
  refine aw_e rfl rfl rfl ?_
  refine aw_e rfl rfl rfl ?_
  refine aw_e rfl rfl rfl ?_
  refine aw_i2f rfl (by decide +kernel) ?_
  refine aw_e rfl rfl rfl ?_
  refine aw_e rfl rfl rfl ?_
  refine aw_i1t rfl (by decide +kernel) ?_
  refine aw_e rfl rfl rfl ?_
  refine aw_e rfl rfl rfl ?_
  refine aw_e rfl rfl rfl ?_
  refine aw_e rfl rfl rfl ?_
  refine aw_e rfl rfl rfl ?_
  refine aw_e rfl rfl rfl ?_
  refine aw_e rfl rfl rfl ?_
  refine aw_e rfl rfl rfl ?_
  refine aw_e rfl rfl rfl ?_
  refine aw_e rfl rfl rfl ?_
  refine aw_e rfl rfl rfl ?_
  refine aw_e rfl rfl rfl ?_
  refine aw_e rfl rfl rfl ?_
  refine aw_e rfl rfl rfl ?_
  refine aw_e rfl rfl rfl ?_
  refine aw_e rfl rfl rfl ?_
  refine aw_e rfl rfl rfl ?_
  refine aw_e rfl rfl rfl ?_
  refine aw_e rfl rfl rfl ?_
  refine aw_i2f rfl (by decide +kernel) ?_
  refine aw_e rfl rfl rfl ?_
  refine aw_e rfl rfl rfl ?_
  refine aw_i1t rfl (by decide +kernel) ?_
  refine aw_e rfl rfl rfl ?_
  refine aw_e rfl rfl rfl ?_
  refine aw_e rfl rfl rfl ?_
  refine aw_e rfl rfl rfl ?_
  refine aw_e rfl rfl rfl ?_
  refine aw_e rfl rfl rfl ?_
  refine aw_e rfl rfl rfl ?_
  refine aw_e rfl rfl rfl ?_
  refine aw_e rfl rfl rfl ?_
  refine aw_e rfl rfl rfl ?_
  refine aw_e rfl rfl rfl ?_
  refine aw_e rfl rfl rfl ?_
  refine aw_e rfl rfl rfl ?_
  refine aw_e rfl rfl rfl ?_
  refine aw_e rfl rfl rfl ?_
  refine aw_e rfl rfl rfl ?_
  refine aw_e rfl rfl rfl ?_
  refine aw_e rfl rfl rfl ?_
  refine aw_e rfl rfl rfl ?_
  refine aw_i2f rfl (by decide +kernel) ?_
  refine aw_e rfl rfl rfl ?_
  refine aw_e rfl rfl rfl ?_
  refine aw_i1t rfl (by decide +kernel) ?_
  refine aw_e rfl rfl rfl ?_
  refine aw_e rfl rfl rfl ?_
  refine aw_e rfl rfl rfl ?_
  refine aw_e rfl rfl rfl ?_
  refine aw_e rfl rfl rfl ?_
  refine aw_e rfl rfl rfl ?_
  refine aw_e rfl rfl rfl ?_
  refine aw_e rfl rfl rfl ?_
  refine aw_e rfl rfl rfl ?_
  refine aw_e rfl rfl rfl ?_
  refine aw_e rfl rfl rfl ?_
  refine aw_e rfl rfl rfl ?_
  refine aw_e rfl rfl rfl ?_
  refine aw_e rfl rfl rfl ?_
  refine aw_e rfl rfl rfl ?_
  refine aw_e rfl rfl rfl ?_
  refine aw_e rfl rfl rfl ?_
  refine aw_e rfl rfl rfl ?_
  refine aw_e rfl rfl rfl ?_
  refine aw_i2f rfl (by decide +kernel) ?_
  refine aw_e rfl rfl rfl ?_
  refine aw_e rfl rfl rfl ?_
  refine aw_i1t rfl (by decide +kernel) ?_
  refine aw_e rfl rfl rfl ?_
  refine aw_e rfl rfl rfl ?_
  refine aw_e rfl rfl rfl ?_
  refine aw_e rfl rfl rfl ?_
  refine aw_e rfl rfl rfl ?_
  refine aw_e rfl rfl rfl ?_
  refine aw_e rfl rfl rfl ?_
  refine aw_e rfl rfl rfl ?_
  refine aw_e rfl rfl rfl ?_
  refine aw_e rfl rfl rfl ?_
  refine aw_e rfl rfl rfl ?_
  refine aw_e rfl rfl rfl ?_
  refine aw_e rfl rfl rfl ?_
  refine aw_e rfl rfl rfl ?_
  refine aw_e rfl rfl rfl ?_
  refine aw_e rfl rfl rfl ?_
  refine aw_e rfl rfl rfl ?_
  refine aw_e rfl rfl rfl ?_
  refine aw_e rfl rfl rfl ?_
  refine aw_i2f rfl (by decide +kernel) ?_
  refine aw_e rfl rfl rfl ?_
  refine aw_e rfl rfl rfl ?_
  refine aw_i1t rfl (by decide +kernel) ?_
  refine aw_e rfl rfl rfl ?_
  refine aw_e rfl rfl rfl ?_
  refine aw_e rfl rfl rfl ?_
  refine aw_e rfl rfl rfl ?_
  refine aw_e rfl rfl rfl ?_
  refine aw_e rfl rfl rfl ?_
  refine aw_e rfl rfl rfl ?_
  refine aw_e rfl rfl rfl ?_
  refine aw_e rfl rfl rfl ?_
  refine aw_e rfl rfl rfl ?_
  refine aw_e rfl rfl rfl ?_
  refine aw_e rfl rfl rfl ?_
  refine aw_e rfl rfl rfl ?_
  refine aw_e rfl rfl rfl ?_
  refine aw_e rfl rfl rfl ?_
  refine aw_e rfl rfl rfl ?_
  refine aw_e rfl rfl rfl ?_
  refine aw_e rfl rfl rfl ?_
  refine aw_e rfl rfl rfl ?_
  refine aw_i2f rfl (by decide +kernel) ?_
  refine aw_e rfl rfl rfl ?_
  refine aw_e rfl rfl rfl ?_
  refine aw_i1t rfl (by decide +kernel) ?_
  refine aw_e rfl rfl rfl ?_
  refine aw_e rfl rfl rfl ?_
  refine aw_e rfl rfl rfl ?_
  refine aw_e rfl rfl rfl ?_
  refine aw_e rfl rfl rfl ?_
  refine aw_e rfl rfl rfl ?_
  refine aw_e rfl rfl rfl ?_
  refine aw_e rfl rfl rfl ?_
  refine aw_e rfl rfl rfl ?_
  refine aw_e rfl rfl rfl ?_
  refine aw_e rfl rfl rfl ?_
  refine aw_e rfl rfl rfl ?_
  refine aw_e rfl rfl rfl ?_
  refine aw_e rfl rfl rfl ?_
  refine aw_e rfl rfl rfl ?_
  refine aw_e rfl rfl rfl ?_
  refine aw_e rfl rfl rfl ?_
  refine aw_e rfl rfl rfl ?_
  refine aw_e rfl rfl rfl ?_
  refine aw_i2f rfl (by decide +kernel) ?_
  refine aw_e rfl rfl rfl ?_
  refine aw_e rfl rfl rfl ?_
  refine aw_i1t rfl (by decide +kernel) ?_
  refine aw_e rfl rfl rfl ?_
  refine aw_e rfl rfl rfl ?_
  refine aw_e rfl rfl rfl ?_
  refine aw_e rfl rfl rfl ?_
  refine aw_e rfl rfl rfl ?_
  refine aw_e rfl rfl rfl ?_
  refine aw_e rfl rfl rfl ?_
  refine aw_e rfl rfl rfl ?_
  refine aw_e rfl rfl rfl ?_
  refine aw_e rfl rfl rfl ?_
  refine aw_e rfl rfl rfl ?_
  refine aw_e rfl rfl rfl ?_
  refine aw_e rfl rfl rfl ?_
  refine aw_e rfl rfl rfl ?_
  refine aw_e rfl rfl rfl ?_
  refine aw_e rfl rfl rfl ?_
  refine aw_e rfl rfl rfl ?_
  refine aw_e rfl rfl rfl ?_
  refine aw_e rfl rfl rfl ?_
  refine aw_i2t rfl (by decide +kernel) ?_
  refine aw_rv rfl ?_
  refine aw_e rfl rfl rfl ?_
  refine aw_e rfl rfl rfl ?_
  refine aw_e rfl rfl rfl ?_
  refine aw_ci rfl rfl (by decide) rfl rfl ?_
  refine aw_e rfl rfl rfl ?_
  refine aw_e rfl rfl rfl ?_
  refine aw_e rfl rfl rfl ?_
  refine aw_e rfl rfl rfl ?_
  refine aw_e rfl rfl rfl ?_
  refine aw_i2f rfl (by decide +kernel) ?_
  refine aw_e rfl rfl rfl ?_
  refine aw_e rfl rfl rfl ?_
  refine aw_i1t rfl (by decide +kernel) ?_
  refine aw_e rfl rfl rfl ?_
  refine aw_e rfl rfl rfl ?_
  refine aw_e rfl rfl rfl ?_
  refine aw_e rfl rfl rfl ?_
  refine aw_e rfl rfl rfl ?_
  refine aw_e rfl rfl rfl ?_
  refine aw_e rfl rfl rfl ?_
  refine aw_e rfl rfl rfl ?_
  refine aw_e rfl rfl rfl ?_
  refine aw_e rfl rfl rfl ?_
  refine aw_e rfl rfl rfl ?_
  refine aw_e rfl rfl rfl ?_
  refine aw_e rfl rfl rfl ?_
  refine aw_e rfl rfl rfl ?_
  refine aw_e rfl rfl rfl ?_
  refine aw_e rfl rfl rfl ?_
  refine aw_e rfl rfl rfl ?_
  refine aw_e rfl rfl rfl ?_
  refine aw_e rfl rfl rfl ?_
  refine aw_i2f rfl (by decide +kernel) ?_
  refine aw_e rfl rfl rfl ?_
  refine aw_e rfl rfl rfl ?_
  refine aw_i1t rfl (by decide +kernel) ?_
  refine aw_e rfl rfl rfl ?_
  refine aw_e rfl rfl rfl ?_
  refine aw_e rfl rfl rfl ?_
  refine aw_e rfl rfl rfl ?_
  refine aw_e rfl rfl rfl ?_
  refine aw_e rfl rfl rfl ?_
  refine aw_e rfl rfl rfl ?_
  refine aw_e rfl rfl rfl ?_
  refine aw_e rfl rfl rfl ?_
  refine aw_e rfl rfl rfl ?_
  refine aw_e rfl rfl rfl ?_
  refine aw_e rfl rfl rfl ?_
  refine aw_e rfl rfl rfl ?_
  refine aw_e rfl rfl rfl ?_
  refine aw_e rfl rfl rfl ?_
  refine aw_e rfl rfl rfl ?_
  refine aw_e rfl rfl rfl ?_
  refine aw_e rfl rfl rfl ?_
  refine aw_e rfl rfl rfl ?_
  refine aw_i2f rfl (by decide +kernel) ?_
  refine aw_e rfl rfl rfl ?_
  refine aw_e rfl rfl rfl ?_
  refine aw_i1t rfl (by decide +kernel) ?_
  refine aw_e rfl rfl rfl ?_
  refine aw_e rfl rfl rfl ?_
  refine aw_e rfl rfl rfl ?_
  refine aw_e rfl rfl rfl ?_
  refine aw_e rfl rfl rfl ?_
  refine aw_e rfl rfl rfl ?_
  refine aw_e rfl rfl rfl ?_
  refine aw_e rfl rfl rfl ?_
  refine aw_e rfl rfl rfl ?_
  refine aw_e rfl rfl rfl ?_
  refine aw_e rfl rfl rfl ?_
  refine aw_e rfl rfl rfl ?_
  refine aw_e rfl rfl rfl ?_
  refine aw_e rfl rfl rfl ?_
  refine aw_e rfl rfl rfl ?_
  refine aw_e rfl rfl rfl ?_
  refine aw_e rfl rfl rfl ?_
  refine aw_e rfl rfl rfl ?_
  refine aw_e rfl rfl rfl ?_
  refine aw_i2f rfl (by decide +kernel) ?_
  refine aw_e rfl rfl rfl ?_
  refine aw_e rfl rfl rfl ?_
  refine aw_i1t rfl (by decide +kernel) ?_
  refine aw_e rfl rfl rfl ?_
  refine aw_e rfl rfl rfl ?_
  refine aw_e rfl rfl rfl ?_
  refine aw_e rfl rfl rfl ?_
  refine aw_e rfl rfl rfl ?_
  refine aw_e rfl rfl rfl ?_
  refine aw_e rfl rfl rfl ?_
  refine aw_e rfl rfl rfl ?_
  refine aw_e rfl rfl rfl ?_
  refine aw_e rfl rfl rfl ?_
  refine aw_e rfl rfl rfl ?_
  refine aw_e rfl rfl rfl ?_
  refine aw_e rfl rfl rfl ?_
  refine aw_e rfl rfl rfl ?_
  refine aw_e rfl rfl rfl ?_
  refine aw_e rfl rfl rfl ?_
  refine aw_e rfl rfl rfl ?_
  refine aw_e rfl rfl rfl ?_
  refine aw_e rfl rfl rfl ?_
  refine aw_i2f rfl (by decide +kernel) ?_
  refine aw_e rfl rfl rfl ?_
  refine aw_e rfl rfl rfl ?_
  refine aw_i1t rfl (by decide +kernel) ?_
  refine aw_e rfl rfl rfl ?_
  refine aw_e rfl rfl rfl ?_
  refine aw_e rfl rfl rfl ?_
  refine aw_e rfl rfl rfl ?_
  refine aw_e rfl rfl rfl ?_
  refine aw_e rfl rfl rfl ?_
  refine aw_e rfl rfl rfl ?_
  refine aw_e rfl rfl rfl ?_
  refine aw_e rfl rfl rfl ?_
  refine aw_e rfl rfl rfl ?_
  refine aw_e rfl rfl rfl ?_
  refine aw_e rfl rfl rfl ?_
  refine aw_e rfl rfl rfl ?_
  refine aw_e rfl rfl rfl ?_
  refine aw_e rfl rfl rfl ?_
  refine aw_e rfl rfl rfl ?_
  refine aw_e rfl rfl rfl ?_
  refine aw_e rfl rfl rfl ?_
  refine aw_e rfl rfl rfl ?_
  refine aw_i2f rfl (by decide +kernel) ?_
  refine aw_e rfl rfl rfl ?_
  refine aw_e rfl rfl rfl ?_
  refine aw_i1t rfl (by decide +kernel) ?_
  refine aw_e rfl rfl rfl ?_
  refine aw_e rfl rfl rfl ?_
  refine aw_e rfl rfl rfl ?_
  refine aw_e rfl rfl rfl ?_
  refine aw_e rfl rfl rfl ?_
  refine aw_e rfl rfl rfl ?_
  refine aw_e rfl rfl rfl ?_
  refine aw_e rfl rfl rfl ?_
  refine aw_e rfl rfl rfl ?_
  refine aw_e rfl rfl rfl ?_
  refine aw_e rfl rfl rfl ?_
  refine aw_e rfl rfl rfl ?_
  refine aw_e rfl rfl rfl ?_
  refine aw_e rfl rfl rfl ?_
  refine aw_e rfl rfl rfl ?_
  refine aw_e rfl rfl rfl ?_
  refine aw_e rfl rfl rfl ?_
  refine aw_e rfl rfl rfl ?_
  refine aw_e rfl rfl rfl ?_
  refine aw_i2f rfl (by decide +kernel) ?_
  refine aw_e rfl rfl rfl ?_
  refine aw_e rfl rfl rfl ?_
  refine aw_i1t rfl (by decide +kernel) ?_
  refine aw_e rfl rfl rfl ?_
  refine aw_e rfl rfl rfl ?_
  refine aw_e rfl rfl rfl ?_
  refine aw_e rfl rfl rfl ?_
  refine aw_e rfl rfl rfl ?_
  refine aw_e rfl rfl rfl ?_
  refine aw_e rfl rfl rfl ?_
  refine aw_e rfl rfl rfl ?_
  refine aw_e rfl rfl rfl ?_
  refine aw_e rfl rfl rfl ?_
  refine aw_e rfl rfl rfl ?_
  refine aw_e rfl rfl rfl ?_
  refine aw_e rfl rfl rfl ?_
  refine aw_e rfl rfl rfl ?_
  refine aw_e rfl rfl rfl ?_
  refine aw_e rfl rfl rfl ?_
  refine aw_e rfl rfl rfl ?_
  refine aw_e rfl rfl rfl ?_
  refine aw_e rfl rfl rfl ?_
  refine aw_i2f rfl (by decide +kernel) ?_
  refine aw_e rfl rfl rfl ?_
  refine aw_e rfl rfl rfl ?_
  refine aw_i1t rfl (by decide +kernel) ?_
  refine aw_e rfl rfl rfl ?_
  refine aw_e rfl rfl rfl ?_
  refine aw_e rfl rfl rfl ?_
  refine aw_e rfl rfl rfl ?_
  refine aw_e rfl rfl rfl ?_
  refine aw_e rfl rfl rfl ?_
  refine aw_e rfl rfl rfl ?_
  refine aw_e rfl rfl rfl ?_
  refine aw_e rfl rfl rfl ?_
  refine aw_e rfl rfl rfl ?_
  refine aw_e rfl rfl rfl ?_
  refine aw_e rfl rfl rfl ?_
  refine aw_e rfl rfl rfl ?_
  refine aw_e rfl rfl rfl ?_
  refine aw_e rfl rfl rfl ?_
  refine aw_e rfl rfl rfl ?_
  refine aw_e rfl rfl rfl ?_
  refine aw_e rfl rfl rfl ?_
  refine aw_e rfl rfl rfl ?_
  refine aw_i2t rfl (by decide +kernel) ?_
  refine aw_rv rfl ?_
  refine aw_e rfl rfl rfl ?_
  refine aw_e rfl rfl rfl ?_
  refine aw_e rfl rfl rfl ?_
  refine aw_ci rfl rfl (by decide) rfl rfl ?_
  refine aw_e rfl rfl rfl ?_
  refine aw_e rfl rfl rfl ?_
  refine aw_e rfl rfl rfl ?_
  refine aw_e rfl rfl rfl ?_
  refine aw_e rfl rfl rfl ?_
  refine aw_i2f rfl (by decide +kernel) ?_
  refine aw_e rfl rfl rfl ?_
  refine aw_e rfl rfl rfl ?_
  refine aw_i1t rfl (by decide +kernel) ?_
  refine aw_e rfl rfl rfl ?_
  refine aw_e rfl rfl rfl ?_
  refine aw_e rfl rfl rfl ?_
  refine aw_e rfl rfl rfl ?_
  refine aw_e rfl rfl rfl ?_
  refine aw_e rfl rfl rfl ?_
  refine aw_e rfl rfl rfl ?_
  refine aw_e rfl rfl rfl ?_
  refine aw_e rfl rfl rfl ?_
  refine aw_e rfl rfl rfl ?_
  refine aw_e rfl rfl rfl ?_
  refine aw_e rfl rfl rfl ?_
  refine aw_e rfl rfl rfl ?_
  refine aw_e rfl rfl rfl ?_
  refine aw_e rfl rfl rfl ?_
  refine aw_e rfl rfl rfl ?_
  refine aw_e rfl rfl rfl ?_
  refine aw_e rfl rfl rfl ?_
  refine aw_e rfl rfl rfl ?_
  refine aw_i2f rfl (by decide +kernel) ?_
  refine aw_e rfl rfl rfl ?_
  refine aw_e rfl rfl rfl ?_
  refine aw_i1t rfl (by decide +kernel) ?_
  refine aw_e rfl rfl rfl ?_
  refine aw_e rfl rfl rfl ?_
  refine aw_e rfl rfl rfl ?_
  refine aw_e rfl rfl rfl ?_
  refine aw_e rfl rfl rfl ?_
  refine aw_e rfl rfl rfl ?_
  refine aw_e rfl rfl rfl ?_
  refine aw_e rfl rfl rfl ?_
  refine aw_e rfl rfl rfl ?_
  refine aw_e rfl rfl rfl ?_
  refine aw_e rfl rfl rfl ?_
  refine aw_e rfl rfl rfl ?_
  refine aw_e rfl rfl rfl ?_
  refine aw_e rfl rfl rfl ?_
  refine aw_e rfl rfl rfl ?_
  refine aw_e rfl rfl rfl ?_
  refine aw_e rfl rfl rfl ?_
  refine aw_e rfl rfl rfl ?_
  refine aw_e rfl rfl rfl ?_
  refine aw_i2f rfl (by decide +kernel) ?_
  refine aw_e rfl rfl rfl ?_
  refine aw_e rfl rfl rfl ?_
  refine aw_i1t rfl (by decide +kernel) ?_
  refine aw_e rfl rfl rfl ?_
  refine aw_e rfl rfl rfl ?_
  refine aw_e rfl rfl rfl ?_
  refine aw_e rfl rfl rfl ?_
  refine aw_e rfl rfl rfl ?_
  refine aw_e rfl rfl rfl ?_
  refine aw_e rfl rfl rfl ?_
  refine aw_e rfl rfl rfl ?_
  refine aw_e rfl rfl rfl ?_
  refine aw_e rfl rfl rfl ?_
  refine aw_e rfl rfl rfl ?_
  refine aw_e rfl rfl rfl ?_
  refine aw_e rfl rfl rfl ?_
  refine aw_e rfl rfl rfl ?_
  refine aw_e rfl rfl rfl ?_
  refine aw_e rfl rfl rfl ?_
  refine aw_e rfl rfl rfl ?_
  refine aw_e rfl rfl rfl ?_
  refine aw_e rfl rfl rfl ?_
  refine aw_i2f rfl (by decide +kernel) ?_
  refine aw_e rfl rfl rfl ?_
  refine aw_e rfl rfl rfl ?_
  refine aw_i1t rfl (by decide +kernel) ?_
  refine aw_e rfl rfl rfl ?_
  refine aw_e rfl rfl rfl ?_
  refine aw_e rfl rfl rfl ?_
  refine aw_e rfl rfl rfl ?_
  refine aw_e rfl rfl rfl ?_
  refine aw_e rfl rfl rfl ?_
  refine aw_e rfl rfl rfl ?_
  refine aw_e rfl rfl rfl ?_
  refine aw_e rfl rfl rfl ?_
  refine aw_e rfl rfl rfl ?_
  refine aw_e rfl rfl rfl ?_
  refine aw_e rfl rfl rfl ?_
  refine aw_e rfl rfl rfl ?_
  refine aw_e rfl rfl rfl ?_
  refine aw_e rfl rfl rfl ?_
  refine aw_e rfl rfl rfl ?_
  refine aw_e rfl rfl rfl ?_
  refine aw_e rfl rfl rfl ?_
  refine aw_e rfl rfl rfl ?_
  refine aw_i2f rfl (by decide +kernel) ?_
  refine aw_e rfl rfl rfl ?_
  refine aw_e rfl rfl rfl ?_
  refine aw_i1t rfl (by decide +kernel) ?_
  refine aw_e rfl rfl rfl ?_
  refine aw_e rfl rfl rfl ?_
  refine aw_e rfl rfl rfl ?_
  refine aw_e rfl rfl rfl ?_
  refine aw_e rfl rfl rfl ?_
  refine aw_e rfl rfl rfl ?_
  refine aw_e rfl rfl rfl ?_
  refine aw_e rfl rfl rfl ?_
  refine aw_e rfl rfl rfl ?_
  refine aw_e rfl rfl rfl ?_
  refine aw_e rfl rfl rfl ?_
  refine aw_e rfl rfl rfl ?_
  refine aw_e rfl rfl rfl ?_
  refine aw_e rfl rfl rfl ?_
  refine aw_e rfl rfl rfl ?_
  refine aw_e rfl rfl rfl ?_
  refine aw_e rfl rfl rfl ?_
  refine aw_e rfl rfl rfl ?_
  refine aw_e rfl rfl rfl ?_
  refine aw_i2f rfl (by decide +kernel) ?_
  refine aw_e rfl rfl rfl ?_
  refine aw_e rfl rfl rfl ?_
  refine aw_i1t rfl (by decide +kernel) ?_
  refine aw_e rfl rfl rfl ?_
  refine aw_e rfl rfl rfl ?_
  refine aw_e rfl rfl rfl ?_
  refine aw_e rfl rfl rfl ?_
  refine aw_e rfl rfl rfl ?_
  refine aw_e rfl rfl rfl ?_
  refine aw_e rfl rfl rfl ?_
  refine aw_e rfl rfl rfl ?_
  refine aw_e rfl rfl rfl ?_
  refine aw_e rfl rfl rfl ?_
  refine aw_e rfl rfl rfl ?_
  refine aw_e rfl rfl rfl ?_
  refine aw_e rfl rfl rfl ?_
  refine aw_e rfl rfl rfl ?_
  refine aw_e rfl rfl rfl ?_
  refine aw_e rfl rfl rfl ?_
  refine aw_e rfl rfl rfl ?_
  refine aw_e rfl rfl rfl ?_
  refine aw_e rfl rfl rfl ?_
  refine aw_i2f rfl (by decide +kernel) ?_
  refine aw_e rfl rfl rfl ?_
  refine aw_e rfl rfl rfl ?_
  refine aw_i1t rfl (by decide +kernel) ?_
  refine aw_e rfl rfl rfl ?_
  refine aw_e rfl rfl rfl ?_
  refine aw_e rfl rfl rfl ?_
  refine aw_e rfl rfl rfl ?_
  refine aw_e rfl rfl rfl ?_
  refine aw_e rfl rfl rfl ?_
  refine aw_e rfl rfl rfl ?_
  refine aw_e rfl rfl rfl ?_
  refine aw_e rfl rfl rfl ?_
  refine aw_e rfl rfl rfl ?_
  refine aw_e rfl rfl rfl ?_
  refine aw_e rfl rfl rfl ?_
  refine aw_e rfl rfl rfl ?_
  refine aw_e rfl rfl rfl ?_
  refine aw_e rfl rfl rfl ?_
  refine aw_e rfl rfl rfl ?_
  refine aw_e rfl rfl rfl ?_
  refine aw_e rfl rfl rfl ?_
  refine aw_e rfl rfl rfl ?_
  refine aw_i2f rfl (by decide +kernel) ?_
  refine aw_e rfl rfl rfl ?_
  refine aw_e rfl rfl rfl ?_
  refine aw_i1t rfl (by decide +kernel) ?_
  refine aw_e rfl rfl rfl ?_
  refine aw_e rfl rfl rfl ?_
  refine aw_e rfl rfl rfl ?_
  refine aw_e rfl rfl rfl ?_
  refine aw_e rfl rfl rfl ?_
  refine aw_e rfl rfl rfl ?_
  refine aw_e rfl rfl rfl ?_
  refine aw_e rfl rfl rfl ?_
  refine aw_e rfl rfl rfl ?_
  refine aw_e rfl rfl rfl ?_
  refine aw_e rfl rfl rfl ?_
  refine aw_e rfl rfl rfl ?_
  refine aw_e rfl rfl rfl ?_
  refine aw_e rfl rfl rfl ?_
  refine aw_e rfl rfl rfl ?_
  refine aw_e rfl rfl rfl ?_
  refine aw_e rfl rfl rfl ?_
  refine aw_e rfl rfl rfl ?_
  refine aw_e rfl rfl rfl ?_
  refine aw_i2t rfl (by decide +kernel) ?_
  refine aw_rv rfl ?_
  refine aw_e rfl rfl rfl ?_
  refine aw_e rfl rfl rfl ?_
  refine aw_e rfl rfl rfl ?_
  refine aw_e rfl rfl rfl ?_
  refine aw_ci rfl rfl (by decide) rfl rfl ?_
  refine aw_e rfl rfl rfl ?_
  refine aw_e rfl rfl rfl ?_
  refine aw_i1t rfl (by decide +kernel) ?_
  refine aw_e rfl rfl rfl ?_
  refine aw_e rfl rfl rfl ?_
  refine aw_e rfl rfl rfl ?_
  refine aw_e rfl rfl rfl ?_
  refine aw_e rfl rfl rfl ?_
  refine aw_e rfl rfl rfl ?_
  refine aw_e rfl rfl rfl ?_
  refine aw_e rfl rfl rfl ?_
  refine aw_i1t rfl (by decide +kernel) ?_
  refine aw_e rfl rfl rfl ?_
  refine aw_e rfl rfl rfl ?_
  refine aw_e rfl rfl rfl ?_
  refine aw_e rfl rfl rfl ?_
  refine aw_e rfl rfl rfl ?_
  refine aw_e rfl rfl rfl ?_
  refine aw_e rfl rfl rfl ?_
  refine aw_ri rfl (by first | exact Or.inl rfl | exact Or.inr (by decide +kernel)) ?_
  refine aw_e rfl rfl rfl ?_
  refine aw_e rfl rfl rfl ?_
  refine aw_e rfl rfl rfl ?_
  refine aw_e rfl rfl rfl ?_
  refine aw_e rfl rfl rfl ?_
  refine aw_ci rfl rfl (by decide) rfl rfl ?_
  refine aw_e rfl rfl rfl ?_
  refine aw_e rfl rfl rfl ?_
  refine aw_i1t rfl (by decide +kernel) ?_
  refine aw_e rfl rfl rfl ?_
  refine aw_e rfl rfl rfl ?_
  refine aw_e rfl rfl rfl ?_
  refine aw_e rfl rfl rfl ?_
  refine aw_e rfl rfl rfl ?_
  refine aw_e rfl rfl rfl ?_
  refine aw_e rfl rfl rfl ?_
  refine aw_e rfl rfl rfl ?_
  refine aw_i1t rfl (by decide +kernel) ?_
  refine aw_e rfl rfl rfl ?_
  refine aw_e rfl rfl rfl ?_
  refine aw_e rfl rfl rfl ?_
  refine aw_e rfl rfl rfl ?_
  refine aw_e rfl rfl rfl ?_
  refine aw_e rfl rfl rfl ?_
  refine aw_e rfl rfl rfl ?_
  refine aw_ri rfl (by first | exact Or.inl rfl | exact Or.inr (by decide +kernel)) ?_
  refine aw_e rfl rfl rfl ?_
  refine aw_e rfl rfl rfl ?_
  refine aw_e rfl rfl rfl ?_
  refine aw_e rfl rfl rfl ?_
  refine aw_e rfl rfl rfl ?_
  refine aw_ci rfl rfl (by decide) rfl rfl ?_
  refine aw_e rfl rfl rfl ?_
  refine aw_e rfl rfl rfl ?_
  refine aw_i1t rfl (by decide +kernel) ?_
  refine aw_e rfl rfl rfl ?_
  refine aw_e rfl rfl rfl ?_
  refine aw_e rfl rfl rfl ?_
  refine aw_e rfl rfl rfl ?_
  refine aw_e rfl rfl rfl ?_
  refine aw_e rfl rfl rfl ?_
  refine aw_e rfl rfl rfl ?_
  refine aw_e rfl rfl rfl ?_
  refine aw_i1t rfl (by decide +kernel) ?_
  refine aw_e rfl rfl rfl ?_
  refine aw_e rfl rfl rfl ?_
  refine aw_e rfl rfl rfl ?_
  refine aw_e rfl rfl rfl ?_
  refine aw_e rfl rfl rfl ?_
  refine aw_e rfl rfl rfl ?_
  refine aw_e rfl rfl rfl ?_
  refine aw_ri rfl (by first | exact Or.inl rfl | exact Or.inr (by decide +kernel)) ?_
  refine aw_e rfl rfl rfl ?_
  refine aw_rv rfl ?_
  refine aw_e rfl rfl rfl ?_
  refine aw_i1f rfl (by decide +kernel) ?_
  refine aw_e rfl rfl rfl ?_
  refine aw_e rfl rfl rfl ?_
  refine aw_ri rfl (by first | exact Or.inl rfl | exact Or.inr (by decide +kernel)) ?_
  exact congrArg (fun z => some (Value.int z)) (by first | decide +kernel | (simp only [a_up_ap]; decide +kernel) | (simp +decide only [a_up_ap]; decide +kernel) | rfl | (simp [a_up_ap]; done))
set_option maxRecDepth 1000000 in
theorem pC_tomorrow_3 (a : Int32) (ha0 : 0 ≤ a.toInt) (ha1 : a.toInt ≤ 999) : am wC 8 23 [.ref 0, .int a, .int 1] a_M0 (fun u _ => u = some (.int 0)) := by
  refine ⟨_, rfl, ?_⟩
  refine aw_e rfl rfl rfl ?_
  refine aw_i1t rfl (q1_ge_t (by omega)) ?_
  refine aw_e rfl rfl rfl ?_
  refine aw_e rfl rfl rfl ?_
  refine aw_i2t rfl (q2_le_t (z := 999) (by decide +kernel) (by omega)) ?_
  refine aw_e rfl rfl rfl ?_
  refine aw_e rfl rfl rfl ?_
  refine aw_ci rfl rfl (by decide) rfl rfl ?_
  refine aw_e rfl rfl rfl ?_
  refine aw_i1f rfl (by decide +kernel) ?_
  refine aw_e rfl rfl rfl ?_
  refine aw_e rfl rfl rfl ?_
  refine aw_i2f rfl (by decide +kernel) ?_
  refine aw_e rfl rfl rfl ?_
  refine aw_e rfl rfl rfl ?_
  refine aw_ri rfl (by first | exact Or.inl rfl | exact Or.inr (by decide +kernel)) ?_
  refine aw_i1t rfl (by decide +kernel) ?_
  refine aw_e rfl rfl rfl ?_
  refine aw_e rfl rfl rfl ?_
  refine aw_e rfl rfl rfl ?_
  refine aw_ci rfl rfl (by decide) rfl rfl ?_
  refine aw_e rfl rfl rfl ?_
  refine aw_e rfl rfl rfl ?_
  refine aw_e rfl rfl rfl ?_
  refine aw_ci rfl rfl (by decide) rfl rfl ?_
  refine aw_e rfl rfl rfl ?_
  refine aw_e rfl rfl rfl ?_
  refine aw_e rfl rfl rfl ?_
  refine aw_e rfl rfl rfl ?_
  refine aw_e rfl rfl rfl ?_
  refine aw_e rfl rfl rfl ?_
  refine aw_rv rfl ?_
  refine aw_e rfl rfl rfl ?_
  refine aw_e rfl rfl rfl ?_
  refine aw_e rfl rfl rfl ?_
  refine aw_ci rfl rfl (by decide) rfl rfl ?_
  refine aw_e rfl rfl rfl ?_
  refine aw_e rfl rfl rfl ?_
  refine aw_e rfl rfl rfl ?_
  refine aw_e rfl rfl rfl ?_
  refine aw_e rfl rfl rfl ?_
  refine aw_e rfl rfl rfl ?_
  refine aw_e rfl rfl rfl ?_
  refine aw_i2t rfl (by decide +kernel) ?_
  refine aw_e rfl rfl rfl ?_
  refine aw_ri rfl (by first | exact Or.inl rfl | exact Or.inr (by decide +kernel)) ?_
  refine aw_e rfl rfl rfl ?_
  refine aw_e rfl rfl rfl ?_
  refine aw_e rfl rfl rfl ?_
  refine aw_e rfl rfl rfl ?_
  refine aw_e rfl rfl rfl ?_
  refine aw_i2f rfl (by decide +kernel) ?_
  refine aw_e rfl rfl rfl ?_
  refine aw_e rfl rfl rfl ?_
  refine aw_e rfl rfl rfl ?_
  refine aw_e rfl rfl rfl ?_
  refine aw_e rfl rfl rfl ?_
  refine aw_i1f rfl (by decide +kernel) ?_
  refine aw_e rfl rfl rfl ?_
  refine aw_e rfl rfl rfl ?_
  refine aw_e rfl rfl rfl ?_
  refine aw_e rfl rfl rfl ?_
  refine aw_e rfl rfl rfl ?_
  refine aw_e rfl rfl rfl ?_
  refine aw_ci rfl rfl (by decide) rfl rfl ?_
  refine aw_e rfl rfl rfl ?_
  refine aw_ci rfl rfl (by decide) rfl rfl ?_
  refine aw_e rfl rfl rfl ?_
  refine aw_e rfl rfl rfl ?_
  refine aw_e rfl rfl rfl ?_
  refine aw_e rfl rfl rfl ?_
  refine aw_e rfl rfl rfl ?_
  refine aw_e rfl rfl rfl ?_
  refine aw_rv rfl ?_
  refine aw_e rfl rfl rfl ?_
  refine aw_e rfl rfl rfl ?_
  refine aw_e rfl rfl rfl ?_
  refine aw_e rfl rfl rfl ?_
  refine aw_e rfl rfl rfl ?_
  refine aw_i2t rfl (by decide +kernel) ?_
  refine aw_rv rfl ?_
  refine aw_e rfl rfl rfl ?_
  refine aw_e rfl rfl rfl ?_
  refine aw_e rfl rfl rfl ?_
  refine aw_e rfl rfl rfl ?_
  refine aw_e rfl rfl rfl ?_
  refine aw_e rfl rfl rfl ?_
  refine aw_e rfl rfl rfl ?_
  refine aw_ci rfl rfl (by decide) rfl rfl ?_
  refine aw_e rfl rfl rfl ?_
  refine aw_e rfl rfl rfl ?_
  refine aw_e rfl rfl rfl ?_
  refine aw_ci rfl rfl (by decide) rfl rfl ?_
  refine aw_e rfl rfl rfl ?_
  refine aw_e rfl rfl rfl ?_
  refine aw_e rfl rfl rfl ?_
  refine aw_e rfl rfl rfl ?_
  refine aw_e rfl rfl rfl ?_
  refine aw_e rfl rfl rfl ?_
  refine aw_e rfl rfl rfl ?_
  refine aw_i2t rfl (by decide +kernel) ?_
  refine aw_e rfl rfl rfl ?_
  refine aw_ri rfl (by first | exact Or.inl rfl | exact Or.inr (by decide +kernel)) ?_
  refine aw_i1t rfl (by decide +kernel) ?_
  refine aw_e rfl rfl rfl ?_
  refine aw_e rfl rfl rfl ?_
  refine aw_e rfl rfl rfl ?_
  refine aw_e rfl rfl rfl ?_
  refine aw_ci rfl rfl (by decide) rfl rfl ?_
  refine aw_e rfl rfl rfl ?_
  refine aw_e rfl rfl rfl ?_
  refine aw_ci rfl rfl (by decide) rfl rfl ?_
  refine aw_e rfl rfl rfl ?_
  refine aw_e rfl rfl rfl ?_
  refine aw_e rfl rfl rfl ?_
  refine aw_e rfl rfl rfl ?_
  refine aw_e rfl rfl rfl ?_
  refine aw_e rfl rfl rfl ?_
  refine aw_e rfl rfl rfl ?_
  refine aw_e rfl rfl rfl ?_
  refine aw_e rfl rfl rfl ?_
  refine aw_e rfl rfl rfl ?_
  refine aw_e rfl rfl rfl ?_
  refine aw_e rfl rfl rfl ?_
  refine aw_e rfl rfl rfl ?_
  refine aw_e rfl rfl rfl ?_
  refine aw_e rfl rfl rfl ?_
  refine aw_e rfl rfl rfl ?_
  refine aw_e rfl rfl rfl ?_
  refine aw_e rfl rfl rfl ?_
  refine aw_e rfl rfl rfl ?_
  refine aw_e rfl rfl rfl ?_
  refine aw_e rfl rfl rfl ?_
  refine aw_e rfl rfl rfl ?_
  refine aw_e rfl rfl rfl ?_
  refine aw_e rfl rfl rfl ?_
  refine aw_e rfl rfl rfl ?_
  refine aw_e rfl rfl rfl ?_
  refine aw_e rfl rfl rfl ?_
  refine aw_e rfl rfl rfl ?_
  refine aw_e rfl rfl rfl ?_
  refine aw_e rfl rfl rfl ?_
  refine aw_e rfl rfl rfl ?_
  refine aw_e rfl rfl rfl ?_
  refine aw_e rfl rfl rfl ?_
  refine aw_e rfl rfl rfl ?_
  refine aw_i2f rfl (by decide +kernel) ?_
  refine aw_e rfl rfl rfl ?_
  refine aw_e rfl rfl rfl ?_
  refine aw_e rfl rfl rfl ?_
  refine aw_e rfl rfl rfl ?_
  refine aw_ci rfl rfl (by decide) rfl rfl ?_
  refine aw_e rfl rfl rfl ?_
  refine aw_e rfl rfl rfl ?_
  refine aw_e rfl rfl rfl ?_
  refine aw_i1f rfl (by decide +kernel) ?_
  refine aw_e rfl rfl rfl ?_
  refine aw_e rfl rfl rfl ?_
  refine aw_e rfl rfl rfl ?_
  refine aw_i2f rfl (by decide +kernel) ?_
  refine aw_e rfl rfl rfl ?_
  refine aw_e rfl rfl rfl ?_
  refine aw_e rfl rfl rfl ?_
  refine aw_e rfl rfl rfl ?_
  refine aw_rv rfl ?_
  refine aw_e rfl rfl rfl ?_
  refine aw_e rfl rfl rfl ?_
  refine aw_e rfl rfl rfl ?_
  refine aw_e rfl rfl rfl ?_
  refine aw_i2f rfl (by decide +kernel) ?_
  refine aw_e rfl rfl rfl ?_
  refine aw_e rfl rfl rfl ?_
  refine aw_e rfl rfl rfl ?_
  refine aw_e rfl rfl rfl ?_
  refine aw_ci rfl rfl (by decide) rfl rfl ?_
  refine aw_e rfl rfl rfl ?_
  refine aw_e rfl rfl rfl ?_
  refine aw_e rfl rfl rfl ?_
  refine aw_i1f rfl (by decide +kernel) ?_
  refine aw_e rfl rfl rfl ?_
  refine aw_e rfl rfl rfl ?_
  refine aw_e rfl rfl rfl ?_
  refine aw_i2f rfl (by decide +kernel) ?_
  refine aw_e rfl rfl rfl ?_
  refine aw_e rfl rfl rfl ?_
  refine aw_e rfl rfl rfl ?_
  refine aw_e rfl rfl rfl ?_
  refine aw_rv rfl ?_
  refine aw_e rfl rfl rfl ?_
  refine aw_e rfl rfl rfl ?_
  refine aw_e rfl rfl rfl ?_
  refine aw_e rfl rfl rfl ?_
  refine aw_i2f rfl (by decide +kernel) ?_
  refine aw_e rfl rfl rfl ?_
  refine aw_e rfl rfl rfl ?_
  refine aw_e rfl rfl rfl ?_
  refine aw_e rfl rfl rfl ?_
  refine aw_ci rfl rfl (by decide) rfl rfl ?_
  refine aw_e rfl rfl rfl ?_
  refine aw_e rfl rfl rfl ?_
  refine aw_e rfl rfl rfl ?_
  refine aw_i1f rfl (by decide +kernel) ?_
  refine aw_e rfl rfl rfl ?_
  refine aw_e rfl rfl rfl ?_
  refine aw_e rfl rfl rfl ?_
  refine aw_i2f rfl (by decide +kernel) ?_
  refine aw_e rfl rfl rfl ?_
  refine aw_e rfl rfl rfl ?_
  refine aw_e rfl rfl rfl ?_
  refine aw_e rfl rfl rfl ?_
  refine aw_rv rfl ?_
  refine aw_e rfl rfl rfl ?_
  refine aw_e rfl rfl rfl ?_
  refine aw_e rfl rfl rfl ?_
  refine aw_e rfl rfl rfl ?_
  refine aw_i2t rfl (by decide +kernel) ?_
  refine aw_rv rfl ?_
  refine aw_e rfl rfl rfl ?_
  refine aw_e rfl rfl rfl ?_
  refine aw_e rfl rfl rfl ?_
  refine aw_e rfl rfl rfl ?_
  refine aw_e rfl rfl rfl ?_
  refine aw_i2t rfl (by decide +kernel) ?_
  refine aw_rv rfl ?_
  refine aw_e rfl rfl rfl ?_
  refine aw_e rfl rfl rfl ?_
  refine aw_ri rfl (by first | exact Or.inl rfl | exact Or.inr (by decide +kernel)) ?_
  refine aw_e rfl rfl rfl ?_
  refine aw_i2f rfl (q2r_gt_f (z := 0) (by decide +kernel) (by omega)) ?_
  refine aw_e rfl rfl rfl ?_
  refine aw_e rfl rfl rfl ?_
  refine aw_e rfl rfl rfl ?_
  refine aw_e rfl rfl rfl ?_
  refine aw_ci rfl rfl (by decide) rfl rfl ?_
  refine aw_e rfl rfl rfl ?_
  refine aw_e rfl rfl rfl ?_
  refine aw_e rfl rfl rfl ?_
  refine aw_e rfl rfl rfl ?_
  refine aw_e rfl rfl rfl ?_
  refine aw_e rfl rfl rfl ?_
  refine aw_e rfl rfl rfl ?_
  refine aw_e rfl rfl rfl ?_
  refine aw_e rfl rfl rfl ?_
  refine aw_e rfl rfl rfl ?_
  refine aw_e rfl rfl rfl ?_
  refine aw_e rfl rfl rfl ?_
  refine aw_e rfl rfl rfl ?_
  refine aw_e rfl rfl rfl ?_
  refine aw_e rfl rfl rfl ?_
  refine aw_e rfl rfl rfl ?_
  refine aw_e rfl rfl rfl ?_
  refine aw_e rfl rfl rfl ?_
  refine aw_e rfl rfl rfl ?_
  refine aw_e rfl rfl rfl ?_
  refine aw_e rfl rfl rfl ?_
  refine aw_e rfl rfl rfl ?_
  refine aw_e rfl rfl rfl ?_
  refine aw_e rfl rfl rfl ?_
  refine aw_e rfl rfl rfl ?_
  refine aw_e rfl rfl rfl ?_
  refine aw_e rfl rfl rfl ?_
  refine aw_e rfl rfl rfl ?_
  refine aw_e rfl rfl rfl ?_
  refine aw_e rfl rfl rfl ?_
  refine aw_e rfl rfl rfl ?_
  refine aw_e rfl rfl rfl ?_
  refine aw_e rfl rfl rfl ?_
  refine aw_e rfl rfl rfl ?_
  refine aw_e rfl rfl rfl ?_
  refine aw_e rfl rfl rfl ?_
  refine aw_e rfl rfl rfl ?_
  refine aw_e rfl rfl rfl ?_
  refine aw_e rfl rfl rfl ?_
  refine aw_e rfl rfl rfl ?_
  refine aw_e rfl rfl rfl ?_
  refine aw_ri rfl (by first | exact Or.inl rfl | exact Or.inr (by decide +kernel)) ?_
  refine aw_ci rfl rfl (by decide) rfl rfl ?_
  refine aw_e rfl rfl rfl ?_
  refine aw_e rfl rfl rfl ?_
  refine aw_e rfl rfl rfl ?_
  refine aw_i2f rfl (by decide +kernel) ?_
  refine aw_e rfl rfl rfl ?_
  refine aw_e rfl rfl rfl ?_
  refine aw_e rfl rfl rfl ?_
  refine aw_e rfl rfl rfl ?_
  refine aw_e rfl rfl rfl ?_
  refine aw_e rfl rfl rfl ?_
  refine aw_rv rfl ?_
  refine aw_e rfl rfl rfl ?_
  refine aw_e rfl rfl rfl ?_
  refine aw_e rfl rfl rfl ?_
  refine aw_e rfl rfl rfl ?_
  refine aw_i2t rfl (by decide +kernel) ?_
  refine aw_rv rfl ?_
  refine aw_e rfl rfl rfl ?_
  refine aw_i1t rfl (by decide +kernel) ?_
  refine aw_e rfl rfl rfl ?_
  refine aw_e rfl rfl rfl ?_
  refine aw_e rfl rfl rfl ?_
  refine aw_ci rfl rfl (by decide) rfl rfl ?_
  refine aw_e rfl rfl rfl ?_
  refine aw_e rfl rfl rfl ?_
  refine aw_e rfl rfl rfl ?_
  refine aw_i2t rfl (by decide +kernel) ?_
  refine aw_e rfl rfl rfl ?_
  refine aw_e rfl rfl rfl ?_
  refine aw_ri rfl (by first | exact Or.inl rfl | exact Or.inr (by decide +kernel)) ?_
  refine aw_ri rfl (by first | exact Or.inl rfl | exact Or.inr (by decide +kernel)) ?_
  exact congrArg (fun z => some (Value.int z)) (by first | decide +kernel | (simp only [a_up_ap]; decide +kernel) | (simp +decide only [a_up_ap]; decide +kernel) | rfl | (simp [a_up_ap]; done))
set_option maxRecDepth 1000000 in
theorem pM_tomorrow_3 (a : Int32) (ha0 : 0 ≤ a.toInt) (ha1 : a.toInt ≤ 999) : am wM 8 229 [.ref a_mo, .int a, .int 1] a_M0 (fun u _ => u = some (.int 0)) := by
  refine ⟨_, rfl, ?_⟩
  refine aw_e rfl rfl rfl ?_
  refine aw_e rfl rfl rfl ?_
  refine aw_e rfl rfl rfl ?_
  refine aw_ci rfl rfl (by decide) rfl rfl ?_
  refine aw_e rfl rfl rfl ?_
  refine aw_e rfl rfl rfl ?_
  refine aw_i2t rfl (q2_ge_t (z := 0) (by decide +kernel) (by omega)) ?_
  refine aw_e rfl rfl rfl ?_
  refine aw_e rfl rfl rfl ?_
  refine aw_i2t rfl (q2_le_t (z := 999) (by decide +kernel) (by omega)) ?_
  refine aw_e rfl rfl rfl ?_
  refine aw_ri rfl (by first | exact Or.inl rfl | exact Or.inr (by decide +kernel)) ?_
  refine aw_e rfl rfl rfl ?_
  refine aw_e rfl rfl rfl ?_
  refine aw_i1f rfl (by decide +kernel) ?_
  refine aw_e rfl rfl rfl ?_
  refine aw_e rfl rfl rfl ?_
  refine aw_e rfl rfl rfl ?_
  refine aw_ci rfl rfl (by decide) rfl rfl ?_
  refine aw_e rfl rfl rfl ?_
  refine aw_e rfl rfl rfl ?_
  refine aw_i2f rfl (by decide +kernel) ?_
  refine aw_e rfl rfl rfl ?_
  refine aw_e rfl rfl rfl ?_
  refine aw_i2f rfl (by decide +kernel) ?_
  refine aw_e rfl rfl rfl ?_
  refine aw_e rfl rfl rfl ?_
  refine aw_ri rfl (by first | exact Or.inl rfl | exact Or.inr (by decide +kernel)) ?_
  refine aw_i1t rfl (by decide +kernel) ?_
  refine aw_e rfl rfl rfl ?_
  refine aw_i1t rfl (by decide +kernel) ?_
  refine aw_e rfl rfl rfl ?_
  refine aw_e rfl rfl rfl ?_
  refine aw_e rfl rfl rfl ?_
  refine aw_ci rfl rfl (by decide) rfl rfl ?_
  refine aw_e rfl rfl rfl ?_
  refine aw_e rfl rfl rfl ?_
  refine aw_e rfl rfl rfl ?_
  refine aw_e rfl rfl rfl ?_
  refine aw_e rfl rfl rfl ?_
  refine aw_e rfl rfl rfl ?_
  refine aw_e rfl rfl rfl ?_
  refine aw_e rfl rfl rfl ?_
  refine aw_e rfl rfl rfl ?_
  refine aw_e rfl rfl rfl ?_
  refine aw_e rfl rfl rfl ?_
  refine aw_ci rfl rfl (by decide) rfl rfl ?_
  refine aw_e rfl rfl rfl ?_
  refine aw_e rfl rfl rfl ?_
  refine aw_e rfl rfl rfl ?_
  refine aw_e rfl rfl rfl ?_
  refine aw_e rfl rfl rfl ?_
  refine aw_i2f rfl (by decide +kernel) ?_
  refine aw_e rfl rfl rfl ?_
  refine aw_e rfl rfl rfl ?_
  refine aw_i1f rfl (by decide +kernel) ?_
  refine aw_e rfl rfl rfl ?_
  refine aw_e rfl rfl rfl ?_
  refine aw_e rfl rfl rfl ?_
  refine aw_e rfl rfl rfl ?_
  refine aw_e rfl rfl rfl ?_
  refine aw_e rfl rfl rfl ?_
  refine aw_e rfl rfl rfl ?_
  refine aw_e rfl rfl rfl ?_
  refine aw_e rfl rfl rfl ?_
  refine aw_e rfl rfl rfl ?_
  refine aw_e rfl rfl rfl ?_
  refine aw_e rfl rfl rfl ?_
  refine aw_e rfl rfl rfl ?_
  refine aw_e rfl rfl rfl ?_
  refine aw_e rfl rfl rfl ?_
  refine aw_e rfl rfl rfl ?_
  refine aw_e rfl rfl rfl ?_
  refine aw_e rfl rfl rfl ?_
  refine aw_e rfl rfl rfl ?_
  refine aw_e rfl rfl rfl ?_
  refine aw_i2f rfl (by decide +kernel) ?_
  refine aw_e rfl rfl rfl ?_
  refine aw_e rfl rfl rfl ?_
  refine aw_i1f rfl (by decide +kernel) ?_
  refine aw_e rfl rfl rfl ?_
  refine aw_e rfl rfl rfl ?_
  refine aw_e rfl rfl rfl ?_
  refine aw_e rfl rfl rfl ?_
  refine aw_e rfl rfl rfl ?_
  refine aw_e rfl rfl rfl ?_
  refine aw_e rfl rfl rfl ?_
  refine aw_e rfl rfl rfl ?_
  refine aw_e rfl rfl rfl ?_
  refine aw_e rfl rfl rfl ?_
  refine aw_e rfl rfl rfl ?_
  refine aw_e rfl rfl rfl ?_
  refine aw_e rfl rfl rfl ?_
  refine aw_e rfl rfl rfl ?_
  refine aw_e rfl rfl rfl ?_
  refine aw_e rfl rfl rfl ?_
  refine aw_e rfl rfl rfl ?_
  refine aw_e rfl rfl rfl ?_
  refine aw_e rfl rfl rfl ?_
  refine aw_e rfl rfl rfl ?_
  refine aw_i2f rfl (by decide +kernel) ?_
  refine aw_e rfl rfl rfl ?_
  refine aw_e rfl rfl rfl ?_
  refine aw_i1f rfl (by decide +kernel) ?_
  refine aw_e rfl rfl rfl ?_
  refine aw_e rfl rfl rfl ?_
  refine aw_e rfl rfl rfl ?_
  refine aw_e rfl rfl rfl ?_
  refine aw_e rfl rfl rfl ?_
  refine aw_e rfl rfl rfl ?_
  refine aw_e rfl rfl rfl ?_
  refine aw_e rfl rfl rfl ?_
  refine aw_e rfl rfl rfl ?_
  refine aw_e rfl rfl rfl ?_
  refine aw_e rfl rfl rfl ?_
  refine aw_e rfl rfl rfl ?_
  refine aw_e rfl rfl rfl ?_
  refine aw_e rfl rfl rfl ?_
  refine aw_e rfl rfl rfl ?_
  refine aw_e rfl rfl rfl ?_
  refine aw_e rfl rfl rfl ?_
  refine aw_e rfl rfl rfl ?_
  refine aw_e rfl rfl rfl ?_
  refine aw_e rfl rfl rfl ?_
  refine aw_i2f rfl (by decide +kernel) ?_
  refine aw_e rfl rfl rfl ?_
  refine aw_e rfl rfl rfl ?_
  refine aw_i1f rfl (by decide +kernel) ?_
  refine aw_e rfl rfl rfl ?_
  refine aw_e rfl rfl rfl ?_
  refine aw_e rfl rfl rfl ?_
  refine aw_e rfl rfl rfl ?_
  refine aw_e rfl rfl rfl ?_
  refine aw_e rfl rfl rfl ?_
  refine aw_e rfl rfl rfl ?_
  refine aw_e rfl rfl rfl ?_
  refine aw_e rfl rfl rfl ?_
  refine aw_e rfl rfl rfl ?_
  refine aw_e rfl rfl rfl ?_
  refine aw_e rfl rfl rfl ?_
  refine aw_e rfl rfl rfl ?_
  refine aw_e rfl rfl rfl ?_
  refine aw_e rfl rfl rfl ?_
  refine aw_e rfl rfl rfl ?_
  refine aw_e rfl rfl rfl ?_
  refine aw_e rfl rfl rfl ?_
  refine aw_e rfl rfl rfl ?_
  refine aw_e rfl rfl rfl ?_
  refine aw_i2f rfl (by decide +kernel) ?_
  refine aw_e rfl rfl rfl ?_
  refine aw_e rfl rfl rfl ?_
  refine aw_i1f rfl (by decide +kernel) ?_
  refine aw_e rfl rfl rfl ?_
  refine aw_e rfl rfl rfl ?_
  refine aw_e rfl rfl rfl ?_
  refine aw_e rfl rfl rfl ?_
  refine aw_e rfl rfl rfl ?_
  refine aw_e rfl rfl rfl ?_
  refine aw_e rfl rfl rfl ?_
  refine aw_e rfl rfl rfl ?_
  refine aw_e rfl rfl rfl ?_
  refine aw_e rfl rfl rfl ?_
  refine aw_e rfl rfl rfl ?_
  refine aw_e rfl rfl rfl ?_
  refine aw_e rfl rfl rfl ?_
  refine aw_e rfl rfl rfl ?_
  refine aw_e rfl rfl rfl ?_
  refine aw_e rfl rfl rfl ?_
  refine aw_e rfl rfl rfl ?_
  refine aw_e rfl rfl rfl ?_
  refine aw_e rfl rfl rfl ?_
  refine aw_e rfl rfl rfl ?_
  refine aw_i2t rfl (by decide +kernel) ?_
  refine aw_rv rfl ?_
  refine aw_e rfl rfl rfl ?_
  refine aw_e rfl rfl rfl ?_
  refine aw_e rfl rfl rfl ?_
  refine aw_ci rfl rfl (by decide) rfl rfl ?_
  refine aw_e rfl rfl rfl ?_
  refine aw_e rfl rfl rfl ?_
  refine aw_e rfl rfl rfl ?_
  refine aw_e rfl rfl rfl ?_
  refine aw_e rfl rfl rfl ?_
  refine aw_i2f rfl (by decide +kernel) ?_
  refine aw_e rfl rfl rfl ?_
  refine aw_e rfl rfl rfl ?_
  refine aw_i1f rfl (by decide +kernel) ?_
  refine aw_e rfl rfl rfl ?_
  refine aw_e rfl rfl rfl ?_
  refine aw_e rfl rfl rfl ?_
  refine aw_e rfl rfl rfl ?_
  refine aw_e rfl rfl rfl ?_
  refine aw_e rfl rfl rfl ?_
  refine aw_e rfl rfl rfl ?_
  refine aw_e rfl rfl rfl ?_
  refine aw_e rfl rfl rfl ?_
  refine aw_e rfl rfl rfl ?_
  refine aw_e rfl rfl rfl ?_
  refine aw_e rfl rfl rfl ?_
  refine aw_e rfl rfl rfl ?_
  refine aw_e rfl rfl rfl ?_
  refine aw_e rfl rfl rfl ?_
  refine aw_e rfl rfl rfl ?_
  refine aw_e rfl rfl rfl ?_
  refine aw_e rfl rfl rfl ?_
  refine aw_e rfl rfl rfl ?_
  refine aw_e rfl rfl rfl ?_
  refine aw_i2f rfl (by decide +kernel) ?_
  refine aw_e rfl rfl rfl ?_
  refine aw_e rfl rfl rfl ?_
  refine aw_i1f rfl (by decide +kernel) ?_
  refine aw_e rfl rfl rfl ?_
  refine aw_e rfl rfl rfl ?_
  refine aw_e rfl rfl rfl ?_
  refine aw_e rfl rfl rfl ?_
  refine aw_e rfl rfl rfl ?_
  refine aw_e rfl rfl rfl ?_
  refine aw_e rfl rfl rfl ?_
  refine aw_e rfl rfl rfl ?_
  refine aw_e rfl rfl rfl ?_
  refine aw_e rfl rfl rfl ?_
  refine aw_e rfl rfl rfl ?_
  refine aw_e rfl rfl rfl ?_
  refine aw_e rfl rfl rfl ?_
  refine aw_e rfl rfl rfl ?_
  refine aw_e rfl rfl rfl ?_
  refine aw_e rfl rfl rfl ?_
  refine aw_e rfl rfl rfl ?_
  refine aw_e rfl rfl rfl ?_
  refine aw_e rfl rfl rfl ?_
  refine aw_e rfl rfl rfl ?_
  refine aw_i2f rfl (by decide +kernel) ?_
  refine aw_e rfl rfl rfl ?_
  refine aw_e rfl rfl rfl ?_
  refine aw_i1f rfl (by decide +kernel) ?_
  refine aw_e rfl rfl rfl ?_
  refine aw_e rfl rfl rfl ?_
  refine aw_e rfl rfl rfl ?_
  refine aw_e rfl rfl rfl ?_
  refine aw_e rfl rfl rfl ?_
  refine aw_e rfl rfl rfl ?_
  refine aw_e rfl rfl rfl ?_
  refine aw_e rfl rfl rfl ?_
  refine aw_e rfl rfl rfl ?_
  refine aw_e rfl rfl rfl ?_
  refine aw_e rfl rfl rfl ?_
  refine aw_e rfl rfl rfl ?_
  refine aw_e rfl rfl rfl ?_
  refine aw_e rfl rfl rfl ?_
  refine aw_e rfl rfl rfl ?_
  refine aw_e rfl rfl rfl ?_
  refine aw_e rfl rfl rfl ?_
  refine aw_e rfl rfl rfl ?_
  refine aw_e rfl rfl rfl ?_
  refine aw_e rfl rfl rfl ?_
  refine aw_i2f rfl (by decide +kernel) ?_
  refine aw_e rfl rfl rfl ?_
  refine aw_e rfl rfl rfl ?_
  refine aw_i1f rfl (by decide +kernel) ?_
  refine aw_e rfl rfl rfl ?_
  refine aw_e rfl rfl rfl ?_
  refine aw_e rfl rfl rfl ?_
  refine aw_e rfl rfl rfl ?_
  refine aw_e rfl rfl rfl ?_
  refine aw_e rfl rfl rfl ?_
  refine aw_e rfl rfl rfl ?_
  refine aw_e rfl rfl rfl ?_
  refine aw_e rfl rfl rfl ?_
  refine aw_e rfl rfl rfl ?_
  refine aw_e rfl rfl rfl ?_
  refine aw_e rfl rfl rfl ?_
  refine aw_e rfl rfl rfl ?_
  refine aw_e rfl rfl rfl ?_
  refine aw_e rfl rfl rfl ?_
  refine aw_e rfl rfl rfl ?_
  refine aw_e rfl rfl rfl ?_
  refine aw_e rfl rfl rfl ?_
  refine aw_e rfl rfl rfl ?_
  refine aw_e rfl rfl rfl ?_
  refine aw_i2f rfl (by decide +kernel) ?_
  refine aw_e rfl rfl rfl ?_
  refine aw_e rfl rfl rfl ?_
  refine aw_i1f rfl (by decide +kernel) ?_
  refine aw_e rfl rfl rfl ?_
  refine aw_e rfl rfl rfl ?_
  refine aw_e rfl rfl rfl ?_
  refine aw_e rfl rfl rfl ?_
  refine aw_e rfl rfl rfl ?_
  refine aw_e rfl rfl rfl ?_
  refine aw_e rfl rfl rfl ?_
  refine aw_e rfl rfl rfl ?_
  refine aw_e rfl rfl rfl ?_
  refine aw_e rfl rfl rfl ?_
  refine aw_e rfl rfl rfl ?_
  refine aw_e rfl rfl rfl ?_
  refine aw_e rfl rfl rfl ?_
  refine aw_e rfl rfl rfl ?_
  refine aw_e rfl rfl rfl ?_
  refine aw_e rfl rfl rfl ?_
  refine aw_e rfl rfl rfl ?_
  refine aw_e rfl rfl rfl ?_
  refine aw_e rfl rfl rfl ?_
  refine aw_e rfl rfl rfl ?_
  refine aw_i2f rfl (by decide +kernel) ?_
  refine aw_e rfl rfl rfl ?_
  refine aw_e rfl rfl rfl ?_
  refine aw_i1f rfl (by decide +kernel) ?_
  refine aw_e rfl rfl rfl ?_
  refine aw_e rfl rfl rfl ?_
  refine aw_e rfl rfl rfl ?_
  refine aw_e rfl rfl rfl ?_
  refine aw_e rfl rfl rfl ?_
  refine aw_e rfl rfl rfl ?_
  refine aw_e rfl rfl rfl ?_
  refine aw_e rfl rfl rfl ?_
  refine aw_e rfl rfl rfl ?_
  refine aw_e rfl rfl rfl ?_
  refine aw_e rfl rfl rfl ?_
  refine aw_e rfl rfl rfl ?_
  refine aw_e rfl rfl rfl ?_
  refine aw_e rfl rfl rfl ?_
  refine aw_e rfl rfl rfl ?_
  refine aw_e rfl rfl rfl ?_
  refine aw_e rfl rfl rfl ?_
  refine aw_e rfl rfl rfl ?_
  refine aw_e rfl rfl rfl ?_
  refine aw_e rfl rfl rfl ?_
  refine aw_i2f rfl (by decide +kernel) ?_
  refine aw_e rfl rfl rfl ?_
  refine aw_e rfl rfl rfl ?_
  refine aw_i1f rfl (by decide +kernel) ?_
  refine aw_e rfl rfl rfl ?_
  refine aw_e rfl rfl rfl ?_
  refine aw_e rfl rfl rfl ?_
  refine aw_e rfl rfl rfl ?_
  refine aw_e rfl rfl rfl ?_
  refine aw_e rfl rfl rfl ?_
  refine aw_e rfl rfl rfl ?_
  refine aw_e rfl rfl rfl ?_
  refine aw_e rfl rfl rfl ?_
  refine aw_e rfl rfl rfl ?_
  refine aw_e rfl rfl rfl ?_
  refine aw_e rfl rfl rfl ?_
  refine aw_e rfl rfl rfl ?_
  refine aw_e rfl rfl rfl ?_
  refine aw_e rfl rfl rfl ?_
  refine aw_e rfl rfl rfl ?_
  refine aw_e rfl rfl rfl ?_
  refine aw_e rfl rfl rfl ?_
  refine aw_e rfl rfl rfl ?_
  refine aw_e rfl rfl rfl ?_
  refine aw_i2f rfl (by decide +kernel) ?_
  refine aw_e rfl rfl rfl ?_
  refine aw_e rfl rfl rfl ?_
  refine aw_i1f rfl (by decide +kernel) ?_
  refine aw_e rfl rfl rfl ?_
  refine aw_e rfl rfl rfl ?_
  refine aw_e rfl rfl rfl ?_
  refine aw_e rfl rfl rfl ?_
  refine aw_e rfl rfl rfl ?_
  refine aw_e rfl rfl rfl ?_
  refine aw_e rfl rfl rfl ?_
  refine aw_e rfl rfl rfl ?_
  refine aw_e rfl rfl rfl ?_
  refine aw_e rfl rfl rfl ?_
  refine aw_e rfl rfl rfl ?_
  refine aw_e rfl rfl rfl ?_
  refine aw_e rfl rfl rfl ?_
  refine aw_e rfl rfl rfl ?_
  refine aw_e rfl rfl rfl ?_
  refine aw_e rfl rfl rfl ?_
  refine aw_e rfl rfl rfl ?_
  refine aw_e rfl rfl rfl ?_
  refine aw_e rfl rfl rfl ?_
  refine aw_e rfl rfl rfl ?_
  refine aw_i2t rfl (by decide +kernel) ?_
  refine aw_rv rfl ?_
  refine aw_e rfl rfl rfl ?_
  refine aw_e rfl rfl rfl ?_
  refine aw_e rfl rfl rfl ?_
  refine aw_ci rfl rfl (by decide) rfl rfl ?_
  refine aw_e rfl rfl rfl ?_
  refine aw_e rfl rfl rfl ?_
  refine aw_e rfl rfl rfl ?_
  refine aw_e rfl rfl rfl ?_
  refine aw_e rfl rfl rfl ?_
  refine aw_i2f rfl (by decide +kernel) ?_
  refine aw_e rfl rfl rfl ?_
  refine aw_e rfl rfl rfl ?_
  refine aw_i1f rfl (by decide +kernel) ?_
  refine aw_e rfl rfl rfl ?_
  refine aw_e rfl rfl rfl ?_
  refine aw_e rfl rfl rfl ?_
  refine aw_e rfl rfl rfl ?_
  refine aw_e rfl rfl rfl ?_
  refine aw_e rfl rfl rfl ?_
  refine aw_e rfl rfl rfl ?_
  refine aw_e rfl rfl rfl ?_
  refine aw_e rfl rfl rfl ?_
  refine aw_e rfl rfl rfl ?_
  refine aw_e rfl rfl rfl ?_
  refine aw_e rfl rfl rfl ?_
  refine aw_e rfl rfl rfl ?_
  refine aw_e rfl rfl rfl ?_
  refine aw_e rfl rfl rfl ?_
  refine aw_e rfl rfl rfl ?_
  refine aw_e rfl rfl rfl ?_
  refine aw_e rfl rfl rfl ?_
  refine aw_e rfl rfl rfl ?_
  refine aw_e rfl rfl rfl ?_
  refine aw_i2f rfl (by decide +kernel) ?_
  refine aw_e rfl rfl rfl ?_
  refine aw_e rfl rfl rfl ?_
  refine aw_i1f rfl (by decide +kernel) ?_
  refine aw_e rfl rfl rfl ?_
  refine aw_e rfl rfl rfl ?_
  refine aw_e rfl rfl rfl ?_
  refine aw_e rfl rfl rfl ?_
  refine aw_e rfl rfl rfl ?_
  refine aw_e rfl rfl rfl ?_
  refine aw_e rfl rfl rfl ?_
  refine aw_e rfl rfl rfl ?_
  refine aw_e rfl rfl rfl ?_
  refine aw_e rfl rfl rfl ?_
  refine aw_e rfl rfl rfl ?_
  refine aw_e rfl rfl rfl ?_
  refine aw_e rfl rfl rfl ?_
  refine aw_e rfl rfl rfl ?_
  refine aw_e rfl rfl rfl ?_
  refine aw_e rfl rfl rfl ?_
  refine aw_e rfl rfl rfl ?_
  refine aw_e rfl rfl rfl ?_
  refine aw_e rfl rfl rfl ?_
  refine aw_e rfl rfl rfl ?_
  refine aw_i2f rfl (by decide +kernel) ?_
  refine aw_e rfl rfl rfl ?_
  refine aw_e rfl rfl rfl ?_
  refine aw_i1f rfl (by decide +kernel) ?_
  refine aw_e rfl rfl rfl ?_
  refine aw_e rfl rfl rfl ?_
  refine aw_e rfl rfl rfl ?_
  refine aw_e rfl rfl rfl ?_
  refine aw_e rfl rfl rfl ?_
  refine aw_e rfl rfl rfl ?_
  refine aw_e rfl rfl rfl ?_
  refine aw_e rfl rfl rfl ?_
  refine aw_e rfl rfl rfl ?_
  refine aw_e rfl rfl rfl ?_
  refine aw_e rfl rfl rfl ?_
  refine aw_e rfl rfl rfl ?_
  refine aw_e rfl rfl rfl ?_
  refine aw_e rfl rfl rfl ?_
  refine aw_e rfl rfl rfl ?_
  refine aw_e rfl rfl rfl ?_
  refine aw_e rfl rfl rfl ?_
  refine aw_e rfl rfl rfl ?_
  refine aw_e rfl rfl rfl ?_
  refine aw_e rfl rfl rfl ?_
  refine aw_i2f rfl (by decide +kernel) ?_
  refine aw_e rfl rfl rfl ?_
  refine aw_e rfl rfl rfl ?_
  refine aw_i1f rfl (by decide +kernel) ?_
  refine aw_e rfl rfl rfl ?_
  refine aw_e rfl rfl rfl ?_
  refine aw_e rfl rfl rfl ?_
  refine aw_e rfl rfl rfl ?_
  refine aw_e rfl rfl rfl ?_
  refine aw_e rfl rfl rfl ?_
  refine aw_e rfl rfl rfl ?_
  refine aw_e rfl rfl rfl ?_
  refine aw_e rfl rfl rfl ?_
  refine aw_e rfl rfl rfl ?_
  refine aw_e rfl rfl rfl ?_
  refine aw_e rfl rfl rfl ?_
  refine aw_e rfl rfl rfl ?_
  refine aw_e rfl rfl rfl ?_
  refine aw_e rfl rfl rfl ?_
  refine aw_e rfl rfl rfl ?_
  refine aw_e rfl rfl rfl ?_
  refine aw_e rfl rfl rfl ?_
  refine aw_e rfl rfl rfl ?_
  refine aw_e rfl rfl rfl ?_
  refine aw_i2f rfl (by decide +kernel) ?_
  refine aw_e rfl rfl rfl ?_
  refine aw_e rfl rfl rfl ?_
  refine aw_i1f rfl (by decide +kernel) ?_
  refine aw_e rfl rfl rfl ?_
  refine aw_e rfl rfl rfl ?_
  refine aw_e rfl rfl rfl ?_
  refine aw_e rfl rfl rfl ?_
  refine aw_e rfl rfl rfl ?_
  refine aw_e rfl rfl rfl ?_
  refine aw_e rfl rfl rfl ?_
  refine aw_e rfl rfl rfl ?_
  refine aw_e rfl rfl rfl ?_
  refine aw_e rfl rfl rfl ?_
  refine aw_e rfl rfl rfl ?_
  refine aw_e rfl rfl rfl ?_
  refine aw_e rfl rfl rfl ?_
  refine aw_e rfl rfl rfl ?_
  refine aw_e rfl rfl rfl ?_
  refine aw_e rfl rfl rfl ?_
  refine aw_e rfl rfl rfl ?_
  refine aw_e rfl rfl rfl ?_
  refine aw_e rfl rfl rfl ?_
  refine aw_e rfl rfl rfl ?_
  refine aw_i2f rfl (by decide +kernel) ?_
  refine aw_e rfl rfl rfl ?_
  refine aw_e rfl rfl rfl ?_
  refine aw_i1f rfl (by decide +kernel) ?_
  refine aw_e rfl rfl rfl ?_
  refine aw_e rfl rfl rfl ?_
  refine aw_e rfl rfl rfl ?_
  refine aw_e rfl rfl rfl ?_
  refine aw_e rfl rfl rfl ?_
  refine aw_e rfl rfl rfl ?_
  refine aw_e rfl rfl rfl ?_
  refine aw_e rfl rfl rfl ?_
  refine aw_e rfl rfl rfl ?_
  refine aw_e rfl rfl rfl ?_
  refine aw_e rfl rfl rfl ?_
  refine aw_e rfl rfl rfl ?_
  refine aw_e rfl rfl rfl ?_
  refine aw_e rfl rfl rfl ?_
  refine aw_e rfl rfl rfl ?_
  refine aw_e rfl rfl rfl ?_
  refine aw_e rfl rfl rfl ?_
  refine aw_e rfl rfl rfl ?_
  refine aw_e rfl rfl rfl ?_
  refine aw_e rfl rfl rfl ?_
  refine aw_i2f rfl (by decide +kernel) ?_
  refine aw_e rfl rfl rfl ?_
  refine aw_e rfl rfl rfl ?_
  refine aw_i1f rfl (by decide +kernel) ?_
  refine aw_e rfl rfl rfl ?_
  refine aw_e rfl rfl rfl ?_
  refine aw_e rfl rfl rfl ?_
  refine aw_e rfl rfl rfl ?_
  refine aw_e rfl rfl rfl ?_
  refine aw_e rfl rfl rfl ?_
  refine aw_e rfl rfl rfl ?_
  refine aw_e rfl rfl rfl ?_
  refine aw_e rfl rfl rfl ?_
  refine aw_e rfl rfl rfl ?_
  refine aw_e rfl rfl rfl ?_
  refine aw_e rfl rfl rfl ?_
  refine aw_e rfl rfl rfl ?_
  refine aw_e rfl rfl rfl ?_
  refine aw_e rfl rfl rfl ?_
  refine aw_e rfl rfl rfl ?_
  refine aw_e rfl rfl rfl ?_
  refine aw_e rfl rfl rfl ?_
  refine aw_e rfl rfl rfl ?_
  refine aw_e rfl rfl rfl ?_
  refine aw_i2f rfl (by decide +kernel) ?_
  refine aw_e rfl rfl rfl ?_
  refine aw_e rfl rfl rfl ?_
  refine aw_i1f rfl (by decide +kernel) ?_
  refine aw_e rfl rfl rfl ?_
  refine aw_e rfl rfl rfl ?_
  refine aw_e rfl rfl rfl ?_
  refine aw_e rfl rfl rfl ?_
  refine aw_e rfl rfl rfl ?_
  refine aw_e rfl rfl rfl ?_
  refine aw_e rfl rfl rfl ?_
  refine aw_e rfl rfl rfl ?_
  refine aw_e rfl rfl rfl ?_
  refine aw_e rfl rfl rfl ?_
  refine aw_e rfl rfl rfl ?_
  refine aw_e rfl rfl rfl ?_
  refine aw_e rfl rfl rfl ?_
  refine aw_e rfl rfl rfl ?_
  refine aw_e rfl rfl rfl ?_
  refine aw_e rfl rfl rfl ?_
  refine aw_e rfl rfl rfl ?_
  refine aw_e rfl rfl rfl ?_
  refine aw_e rfl rfl rfl ?_
  refine aw_e rfl rfl rfl ?_
  refine aw_i2t rfl (by decide +kernel) ?_
  refine aw_rv rfl ?_
  refine aw_e rfl rfl rfl ?_
  refine aw_e rfl rfl rfl ?_
  refine aw_e rfl rfl rfl ?_
  refine aw_ci rfl rfl (by decide) rfl rfl ?_
  refine aw_e rfl rfl rfl ?_
  refine aw_e rfl rfl rfl ?_
  refine aw_e rfl rfl rfl ?_
  refine aw_e rfl rfl rfl ?_
  refine aw_e rfl rfl rfl ?_
  refine aw_i2f rfl (by decide +kernel) ?_
  refine aw_e rfl rfl rfl ?_
  refine aw_e rfl rfl rfl ?_
  refine aw_i1f rfl (by decide +kernel) ?_
  refine aw_e rfl rfl rfl ?_
  refine aw_e rfl rfl rfl ?_
  refine aw_e rfl rfl rfl ?_
  refine aw_e rfl rfl rfl ?_
  refine aw_e rfl rfl rfl ?_
  refine aw_e rfl rfl rfl ?_
  refine aw_e rfl rfl rfl ?_
  refine aw_e rfl rfl rfl ?_
  refine aw_e rfl rfl rfl ?_
  refine aw_e rfl rfl rfl ?_
  refine aw_e rfl rfl rfl ?_
  refine aw_e rfl rfl rfl ?_
  refine aw_e rfl rfl rfl ?_
  refine aw_e rfl rfl rfl ?_
  refine aw_e rfl rfl rfl ?_
  refine aw_e rfl rfl rfl ?_
  refine aw_e rfl rfl rfl ?_
  refine aw_e rfl rfl rfl ?_
  refine aw_e rfl rfl rfl ?_
  refine aw_e rfl rfl rfl ?_
  refine aw_i2f rfl (by decide +kernel) ?_
  refine aw_e rfl rfl rfl ?_
  refine aw_e rfl rfl rfl ?_
  refine aw_i1f rfl (by decide +kernel) ?_
  refine aw_e rfl rfl rfl ?_
  refine aw_e rfl rfl rfl ?_
  refine aw_e rfl rfl rfl ?_
  refine aw_e rfl rfl rfl ?_
  refine aw_e rfl rfl rfl ?_
  refine aw_e rfl rfl rfl ?_
  refine aw_e rfl rfl rfl ?_
  refine aw_e rfl rfl rfl ?_
  refine aw_e rfl rfl rfl ?_
  refine aw_e rfl rfl rfl ?_
  refine aw_e rfl rfl rfl ?_
  refine aw_e rfl rfl rfl ?_
  refine aw_e rfl rfl rfl ?_
  refine aw_e rfl rfl rfl ?_
  refine aw_e rfl rfl rfl ?_
  refine aw_e rfl rfl rfl ?_
  refine aw_e rfl rfl rfl ?_
  refine aw_e rfl rfl rfl ?_
  refine aw_e rfl rfl rfl ?_
  refine aw_e rfl rfl rfl ?_
  refine aw_i2f rfl (by decide +kernel) ?_
  refine aw_e rfl rfl rfl ?_
  refine aw_e rfl rfl rfl ?_
  refine aw_i1f rfl (by decide +kernel) ?_
  refine aw_e rfl rfl rfl ?_
  refine aw_e rfl rfl rfl ?_
  refine aw_e rfl rfl rfl ?_
  refine aw_e rfl rfl rfl ?_
  refine aw_e rfl rfl rfl ?_
  refine aw_e rfl rfl rfl ?_
  refine aw_e rfl rfl rfl ?_
  refine aw_e rfl rfl rfl ?_
  refine aw_e rfl rfl rfl ?_
  refine aw_e rfl rfl rfl ?_
  refine aw_e rfl rfl rfl ?_
  refine aw_e rfl rfl rfl ?_
  refine aw_e rfl rfl rfl ?_
  refine aw_e rfl rfl rfl ?_
  refine aw_e rfl rfl rfl ?_
  refine aw_e rfl rfl rfl ?_
  refine aw_e rfl rfl rfl ?_
  refine aw_e rfl rfl rfl ?_
  refine aw_e rfl rfl rfl ?_
  refine aw_e rfl rfl rfl ?_
  refine aw_i2f rfl (by decide +kernel) ?_
  refine aw_e rfl rfl rfl ?_
  refine aw_e rfl rfl rfl ?_
  refine aw_i1f rfl (by decide +kernel) ?_
  refine aw_e rfl rfl rfl ?_
  refine aw_e rfl rfl rfl ?_
  refine aw_e rfl rfl rfl ?_
  refine aw_e rfl rfl rfl ?_
  refine aw_e rfl rfl rfl ?_
  refine aw_e rfl rfl rfl ?_
  refine aw_e rfl rfl rfl ?_
  refine aw_e rfl rfl rfl ?_
  refine aw_e rfl rfl rfl ?_
  refine aw_e rfl rfl rfl ?_
  refine aw_e rfl rfl rfl ?_
  refine aw_e rfl rfl rfl ?_
  refine aw_e rfl rfl rfl ?_
  refine aw_e rfl rfl rfl ?_
  refine aw_e rfl rfl rfl ?_
  refine aw_e rfl rfl rfl ?_
  refine aw_e rfl rfl rfl ?_
  refine aw_e rfl rfl rfl ?_
  refine aw_e rfl rfl rfl ?_
  refine aw_e rfl rfl rfl ?_
  refine aw_i2f rfl (by decide +kernel) ?_
  refine aw_e rfl rfl rfl ?_
  refine aw_e rfl rfl rfl ?_
  refine aw_i1f rfl (by decide +kernel) ?_
  refine aw_e rfl rfl rfl ?_
  refine aw_e rfl rfl rfl ?_
  refine aw_e rfl rfl rfl ?_
  refine aw_e rfl rfl rfl ?_
  refine aw_e rfl rfl rfl ?_
  refine aw_e rfl rfl rfl ?_
  refine aw_e rfl rfl rfl ?_
  refine aw_e rfl rfl rfl ?_
  refine aw_e rfl rfl rfl ?_
  refine aw_e rfl rfl rfl ?_
  refine aw_e rfl rfl rfl ?_
  refine aw_e rfl rfl rfl ?_
  refine aw_e rfl rfl rfl ?_
  refine aw_e rfl rfl rfl ?_
  refine aw_e rfl rfl rfl ?_
  refine aw_e rfl rfl rfl ?_
  refine aw_e rfl rfl rfl ?_
  refine aw_e rfl rfl rfl ?_
  refine aw_e rfl rfl rfl ?_
  refine aw_e rfl rfl rfl ?_
  refine aw_i2f rfl (by decide +kernel) ?_
  refine aw_e rfl rfl rfl ?_
  refine aw_e rfl rfl rfl ?_
  refine aw_i1f rfl (by decide +kernel) ?_
  refine aw_e rfl rfl rfl ?_
  refine aw_e rfl rfl rfl ?_
  refine aw_e rfl rfl rfl ?_
  refine aw_e rfl rfl rfl ?_
  refine aw_e rfl rfl rfl ?_
  refine aw_e rfl rfl rfl ?_
  refine aw_e rfl rfl rfl ?_
  refine aw_e rfl rfl rfl ?_
  refine aw_e rfl rfl rfl ?_
  refine aw_e rfl rfl rfl ?_
  refine aw_e rfl rfl rfl ?_
  refine aw_e rfl rfl rfl ?_
  refine aw_e rfl rfl rfl ?_
  refine aw_e rfl rfl rfl ?_
  refine aw_e rfl rfl rfl ?_
  refine aw_e rfl rfl rfl ?_
  refine aw_e rfl rfl rfl ?_
  refine aw_e rfl rfl rfl ?_
  refine aw_e rfl rfl rfl ?_
  refine aw_e rfl rfl rfl ?_
  refine aw_i2f rfl (by decide +kernel) ?_
  refine aw_e rfl rfl rfl ?_
  refine aw_e rfl rfl rfl ?_
  refine aw_i1f rfl (by decide +kernel) ?_
  refine aw_e rfl rfl rfl ?_
  refine aw_e rfl rfl rfl ?_
  refine aw_e rfl rfl rfl ?_
  refine aw_e rfl rfl rfl ?_
  refine aw_e rfl rfl rfl ?_
  refine aw_e rfl rfl rfl ?_
  refine aw_e rfl rfl rfl ?_
  refine aw_e rfl rfl rfl ?_
  refine aw_e rfl rfl rfl ?_
  refine aw_e rfl rfl rfl ?_
  refine aw_e rfl rfl rfl ?_
  refine aw_e rfl rfl rfl ?_
  refine aw_e rfl rfl rfl ?_
  refine aw_e rfl rfl rfl ?_
  refine aw_e rfl rfl rfl ?_
  refine aw_e rfl rfl rfl ?_
  refine aw_e rfl rfl rfl ?_
  refine aw_e rfl rfl rfl ?_
  refine aw_e rfl rfl rfl ?_
  refine aw_e rfl rfl rfl ?_
  refine aw_i2f rfl (by decide +kernel) ?_
  refine aw_e rfl rfl rfl ?_
  refine aw_e rfl rfl rfl ?_
  refine aw_i1f rfl (by decide +kernel) ?_
  refine aw_e rfl rfl rfl ?_
  refine aw_e rfl rfl rfl ?_
  refine aw_e rfl rfl rfl ?_
  refine aw_e rfl rfl rfl ?_
  refine aw_e rfl rfl rfl ?_
  refine aw_e rfl rfl rfl ?_
  refine aw_e rfl rfl rfl ?_
  refine aw_e rfl rfl rfl ?_
  refine aw_e rfl rfl rfl ?_
  refine aw_e rfl rfl rfl ?_
  refine aw_e rfl rfl rfl ?_
  refine aw_e rfl rfl rfl ?_
  refine aw_e rfl rfl rfl ?_
  refine aw_e rfl rfl rfl ?_
  refine aw_e rfl rfl rfl ?_
  refine aw_e rfl rfl rfl ?_
  refine aw_e rfl rfl rfl ?_
  refine aw_e rfl rfl rfl ?_
  refine aw_e rfl rfl rfl ?_
  refine aw_e rfl rfl rfl ?_
  refine aw_i2t rfl (by decide +kernel) ?_
  refine aw_rv rfl ?_
  refine aw_e rfl rfl rfl ?_
  refine aw_e rfl rfl rfl ?_
  refine aw_e rfl rfl rfl ?_
  refine aw_ci rfl rfl (by decide) rfl rfl ?_
  refine aw_e rfl rfl rfl ?_
  refine aw_e rfl rfl rfl ?_
  refine aw_e rfl rfl rfl ?_
  refine aw_e rfl rfl rfl ?_
  refine aw_e rfl rfl rfl ?_
  refine aw_i2f rfl (by decide +kernel) ?_
  refine aw_e rfl rfl rfl ?_
  refine aw_e rfl rfl rfl ?_
  refine aw_i1f rfl (by decide +kernel) ?_
  refine aw_e rfl rfl rfl ?_
  refine aw_e rfl rfl rfl ?_
  refine aw_e rfl rfl rfl ?_
  refine aw_e rfl rfl rfl ?_
  refine aw_e rfl rfl rfl ?_
  refine aw_e rfl rfl rfl ?_
  refine aw_e rfl rfl rfl ?_
  refine aw_e rfl rfl rfl ?_
  refine aw_e rfl rfl rfl ?_
  refine aw_e rfl rfl rfl ?_
  refine aw_e rfl rfl rfl ?_
  refine aw_e rfl rfl rfl ?_
  refine aw_e rfl rfl rfl ?_
  refine aw_e rfl rfl rfl ?_
  refine aw_e rfl rfl rfl ?_
  refine aw_e rfl rfl rfl ?_
  refine aw_e rfl rfl rfl ?_
  refine aw_e rfl rfl rfl ?_
  refine aw_e rfl rfl rfl ?_
  refine aw_e rfl rfl rfl ?_
  refine aw_i2f rfl (by decide +kernel) ?_
  refine aw_e rfl rfl rfl ?_
  refine aw_e rfl rfl rfl ?_
  refine aw_i1f rfl (by decide +kernel) ?_
  refine aw_e rfl rfl rfl ?_
  refine aw_e rfl rfl rfl ?_
  refine aw_e rfl rfl rfl ?_
  refine aw_e rfl rfl rfl ?_
  refine aw_e rfl rfl rfl ?_
  refine aw_e rfl rfl rfl ?_
  refine aw_e rfl rfl rfl ?_
  refine aw_e rfl rfl rfl ?_
  refine aw_e rfl rfl rfl ?_
  refine aw_e rfl rfl rfl ?_
  refine aw_e rfl rfl rfl ?_
  refine aw_e rfl rfl rfl ?_
  refine aw_e rfl rfl rfl ?_
  refine aw_e rfl rfl rfl ?_
  refine aw_e rfl rfl rfl ?_
  refine aw_e rfl rfl rfl ?_
  refine aw_e rfl rfl rfl ?_
  refine aw_e rfl rfl rfl ?_
  refine aw_e rfl rfl rfl ?_
  refine aw_e rfl rfl rfl ?_
  refine aw_i2f rfl (by decide +kernel) ?_
  refine aw_e rfl rfl rfl ?_
  refine aw_e rfl rfl rfl ?_
  refine aw_i1f rfl (by decide +kernel) ?_
  refine aw_e rfl rfl rfl ?_
  refine aw_e rfl rfl rfl ?_
  refine aw_e rfl rfl rfl ?_
  refine aw_e rfl rfl rfl ?_
  refine aw_e rfl rfl rfl ?_
  refine aw_e rfl rfl rfl ?_
  refine aw_e rfl rfl rfl ?_
  refine aw_e rfl rfl rfl ?_
  refine aw_e rfl rfl rfl ?_
  refine aw_e rfl rfl rfl ?_
  refine aw_e rfl rfl rfl ?_
  refine aw_e rfl rfl rfl ?_
  refine aw_e rfl rfl rfl ?_
  refine aw_e rfl rfl rfl ?_
  refine aw_e rfl rfl rfl ?_
  refine aw_e rfl rfl rfl ?_
  refine aw_e rfl rfl rfl ?_
  refine aw_e rfl rfl rfl ?_
  refine aw_e rfl rfl rfl ?_
  refine aw_e rfl rfl rfl ?_
  refine aw_i2f rfl (by decide +kernel) ?_
  refine aw_e rfl rfl rfl ?_
  refine aw_e rfl rfl rfl ?_
  refine aw_i1f rfl (by decide +kernel) ?_
  refine aw_e rfl rfl rfl ?_
  refine aw_e rfl rfl rfl ?_
  refine aw_e rfl rfl rfl ?_
  refine aw_e rfl rfl rfl ?_
  refine aw_e rfl rfl rfl ?_
  refine aw_e rfl rfl rfl ?_
  refine aw_e rfl rfl rfl ?_
  refine aw_e rfl rfl rfl ?_
  refine aw_e rfl rfl rfl ?_
  refine aw_e rfl rfl rfl ?_
  refine aw_e rfl rfl rfl ?_
  refine aw_e rfl rfl rfl ?_
  refine aw_e rfl rfl rfl ?_
  refine aw_e rfl rfl rfl ?_
  refine aw_e rfl rfl rfl ?_
  refine aw_e rfl rfl rfl ?_
  refine aw_e rfl rfl rfl ?_
  refine aw_e rfl rfl rfl ?_
  refine aw_e rfl rfl rfl ?_
  refine aw_e rfl rfl rfl ?_
  refine aw_i2f rfl (by decide +kernel) ?_
  refine aw_e rfl rfl rfl ?_
  refine aw_e rfl rfl rfl ?_
  refine aw_i1f rfl (by decide +kernel) ?_
  refine aw_e rfl rfl rfl ?_
  refine aw_e rfl rfl rfl ?_
  refine aw_e rfl rfl rfl ?_
  refine aw_e rfl rfl rfl ?_
  refine aw_e rfl rfl rfl ?_
  refine aw_e rfl rfl rfl ?_
  refine aw_e rfl rfl rfl ?_
  refine aw_e rfl rfl rfl ?_
  refine aw_e rfl rfl rfl ?_
  refine aw_e rfl rfl rfl ?_
  refine aw_e rfl rfl rfl ?_
  refine aw_e rfl rfl rfl ?_
  refine aw_e rfl rfl rfl ?_
  refine aw_e rfl rfl rfl ?_
  refine aw_e rfl rfl rfl ?_
  refine aw_e rfl rfl rfl ?_
  refine aw_e rfl rfl rfl ?_
  refine aw_e rfl rfl rfl ?_
  refine aw_e rfl rfl rfl ?_
  refine aw_e rfl rfl rfl ?_
  refine aw_i2f rfl (by decide +kernel) ?_
  refine aw_e rfl rfl rfl ?_
  refine aw_e rfl rfl rfl ?_
  refine aw_i1f rfl (by decide +kernel) ?_
  refine aw_e rfl rfl rfl ?_
  refine aw_e rfl rfl rfl ?_
  refine aw_e rfl rfl rfl ?_
  refine aw_e rfl rfl rfl ?_
  refine aw_e rfl rfl rfl ?_
  refine aw_e rfl rfl rfl ?_
  refine aw_e rfl rfl rfl ?_
  refine aw_e rfl rfl rfl ?_
  refine aw_e rfl rfl rfl ?_
  refine aw_e rfl rfl rfl ?_
  refine aw_e rfl rfl rfl ?_
  refine aw_e rfl rfl rfl ?_
  refine aw_e rfl rfl rfl ?_
  refine aw_e rfl rfl rfl ?_
  refine aw_e rfl rfl rfl ?_
  refine aw_e rfl rfl rfl ?_
  refine aw_e rfl rfl rfl ?_
  refine aw_e rfl rfl rfl ?_
  refine aw_e rfl rfl rfl ?_
  refine aw_e rfl rfl rfl ?_
  refine aw_i2f rfl (by decide +kernel) ?_
  refine aw_e rfl rfl rfl ?_
  refine aw_e rfl rfl rfl ?_
  refine aw_i1f rfl (by decide +kernel) ?_
  refine aw_e rfl rfl rfl ?_
  refine aw_e rfl rfl rfl ?_
  refine aw_e rfl rfl rfl ?_
  refine aw_e rfl rfl rfl ?_
  refine aw_e rfl rfl rfl ?_
  refine aw_e rfl rfl rfl ?_
  refine aw_e rfl rfl rfl ?_
  refine aw_e rfl rfl rfl ?_
  refine aw_e rfl rfl rfl ?_
  refine aw_e rfl rfl rfl ?_
  refine aw_e rfl rfl rfl ?_
  refine aw_e rfl rfl rfl ?_
  refine aw_e rfl rfl rfl ?_
  refine aw_e rfl rfl rfl ?_
  refine aw_e rfl rfl rfl ?_
  refine aw_e rfl rfl rfl ?_
  refine aw_e rfl rfl rfl ?_
  refine aw_e rfl rfl rfl ?_
  refine aw_e rfl rfl rfl ?_
  refine aw_e rfl rfl rfl ?_
  refine aw_i2f rfl (by decide +kernel) ?_
  refine aw_e rfl rfl rfl ?_
  refine aw_e rfl rfl rfl ?_
  refine aw_i1f rfl (by decide +kernel) ?_
  refine aw_e rfl rfl rfl ?_
  refine aw_e rfl rfl rfl ?_
  refine aw_e rfl rfl rfl ?_
  refine aw_e rfl rfl rfl ?_
  refine aw_e rfl rfl rfl ?_
  refine aw_e rfl rfl rfl ?_
  refine aw_e rfl rfl rfl ?_
  refine aw_e rfl rfl rfl ?_
  refine aw_e rfl rfl rfl ?_
  refine aw_e rfl rfl rfl ?_
  refine aw_e rfl rfl rfl ?_
  refine aw_e rfl rfl rfl ?_
  refine aw_e rfl rfl rfl ?_
  refine aw_e rfl rfl rfl ?_
  refine aw_e rfl rfl rfl ?_
  refine aw_e rfl rfl rfl ?_
  refine aw_e rfl rfl rfl ?_
  refine aw_e rfl rfl rfl ?_
  refine aw_e rfl rfl rfl ?_
  refine aw_e rfl rfl rfl ?_
  refine aw_i2t rfl (by decide +kernel) ?_
  refine aw_rv rfl ?_
  refine aw_e rfl rfl rfl ?_
  refine aw_e rfl rfl rfl ?_
  refine aw_e rfl rfl rfl ?_
  refine aw_ci rfl rfl (by decide) rfl rfl ?_
  refine aw_e rfl rfl rfl ?_
  refine aw_e rfl rfl rfl ?_
  refine aw_e rfl rfl rfl ?_
  refine aw_e rfl rfl rfl ?_
  refine aw_e rfl rfl rfl ?_
  refine aw_i2f rfl (by decide +kernel) ?_
  refine aw_e rfl rfl rfl ?_
  refine aw_e rfl rfl rfl ?_
  refine aw_i1f rfl (by decide +kernel) ?_
  refine aw_e rfl rfl rfl ?_
  refine aw_e rfl rfl rfl ?_
  refine aw_e rfl rfl rfl ?_
  refine aw_e rfl rfl rfl ?_
  refine aw_e rfl rfl rfl ?_
  refine aw_e rfl rfl rfl ?_
  refine aw_e rfl rfl rfl ?_
  refine aw_e rfl rfl rfl ?_
  refine aw_e rfl rfl rfl ?_
  refine aw_e rfl rfl rfl ?_
  refine aw_e rfl rfl rfl ?_
  refine aw_e rfl rfl rfl ?_
  refine aw_e rfl rfl rfl ?_
  refine aw_e rfl rfl rfl ?_
  refine aw_e rfl rfl rfl ?_
  refine aw_e rfl rfl rfl ?_
  refine aw_e rfl rfl rfl ?_
  refine aw_e rfl rfl rfl ?_
  refine aw_e rfl rfl rfl ?_
  refine aw_e rfl rfl rfl ?_
  refine aw_i2f rfl (by decide +kernel) ?_
  refine aw_e rfl rfl rfl ?_
  refine aw_e rfl rfl rfl ?_
  refine aw_i1f rfl (by decide +kernel) ?_
  refine aw_e rfl rfl rfl ?_
  refine aw_e rfl rfl rfl ?_
  refine aw_e rfl rfl rfl ?_
  refine aw_e rfl rfl rfl ?_
  refine aw_e rfl rfl rfl ?_
  refine aw_e rfl rfl rfl ?_
  refine aw_e rfl rfl rfl ?_
  refine aw_e rfl rfl rfl ?_
  refine aw_e rfl rfl rfl ?_
  refine aw_e rfl rfl rfl ?_
  refine aw_e rfl rfl rfl ?_
  refine aw_e rfl rfl rfl ?_
  refine aw_e rfl rfl rfl ?_
  refine aw_e rfl rfl rfl ?_
  refine aw_e rfl rfl rfl ?_
  refine aw_e rfl rfl rfl ?_
  refine aw_e rfl rfl rfl ?_
  refine aw_e rfl rfl rfl ?_
  refine aw_e rfl rfl rfl ?_
  refine aw_e rfl rfl rfl ?_
  refine aw_i2f rfl (by decide +kernel) ?_
  refine aw_e rfl rfl rfl ?_
  refine aw_e rfl rfl rfl ?_
  refine aw_i1f rfl (by decide +kernel) ?_
  refine aw_e rfl rfl rfl ?_
  refine aw_e rfl rfl rfl ?_
  refine aw_e rfl rfl rfl ?_
  refine aw_e rfl rfl rfl ?_
  refine aw_e rfl rfl rfl ?_
  refine aw_e rfl rfl rfl ?_
  refine aw_e rfl rfl rfl ?_
  refine aw_e rfl rfl rfl ?_
  refine aw_e rfl rfl rfl ?_
  refine aw_e rfl rfl rfl ?_
  refine aw_e rfl rfl rfl ?_
  refine aw_e rfl rfl rfl ?_
  refine aw_e rfl rfl rfl ?_
  refine aw_e rfl rfl rfl ?_
  refine aw_e rfl rfl rfl ?_
  refine aw_e rfl rfl rfl ?_
  refine aw_e rfl rfl rfl ?_
  refine aw_e rfl rfl rfl ?_
  refine aw_e rfl rfl rfl ?_
  refine aw_e rfl rfl rfl ?_
  refine aw_i2f rfl (by decide +kernel) ?_
  refine aw_e rfl rfl rfl ?_
  refine aw_e rfl rfl rfl ?_
  refine aw_i1f rfl (by decide +kernel) ?_
  refine aw_e rfl rfl rfl ?_
  refine aw_e rfl rfl rfl ?_
  refine aw_e rfl rfl rfl ?_
  refine aw_e rfl rfl rfl ?_
  refine aw_e rfl rfl rfl ?_
  refine aw_e rfl rfl rfl ?_
  refine aw_e rfl rfl rfl ?_
  refine aw_e rfl rfl rfl ?_
  refine aw_e rfl rfl rfl ?_
  refine aw_e rfl rfl rfl ?_
  refine aw_e rfl rfl rfl ?_
  refine aw_e rfl rfl rfl ?_
  refine aw_e rfl rfl rfl ?_
  refine aw_e rfl rfl rfl ?_
  refine aw_e rfl rfl rfl ?_
  refine aw_e rfl rfl rfl ?_
  refine aw_e rfl rfl rfl ?_
  refine aw_e rfl rfl rfl ?_
  refine aw_e rfl rfl rfl ?_
  refine aw_e rfl rfl rfl ?_
  refine aw_i2f rfl (by decide +kernel) ?_
  refine aw_e rfl rfl rfl ?_
  refine aw_e rfl rfl rfl ?_
  refine aw_i1f rfl (by decide +kernel) ?_
  refine aw_e rfl rfl rfl ?_
  refine aw_e rfl rfl rfl ?_
  refine aw_e rfl rfl rfl ?_
  refine aw_e rfl rfl rfl ?_
  refine aw_e rfl rfl rfl ?_
  refine aw_e rfl rfl rfl ?_
  refine aw_e rfl rfl rfl ?_
  refine aw_e rfl rfl rfl ?_
  refine aw_e rfl rfl rfl ?_
  refine aw_e rfl rfl rfl ?_
  refine aw_e rfl rfl rfl ?_
  refine aw_e rfl rfl rfl ?_
  refine aw_e rfl rfl rfl ?_
  refine aw_e rfl rfl rfl ?_
  refine aw_e rfl rfl rfl ?_
  refine aw_e rfl rfl rfl ?_
  refine aw_e rfl rfl rfl ?_
  refine aw_e rfl rfl rfl ?_
  refine aw_e rfl rfl rfl ?_
  refine aw_e rfl rfl rfl ?_
  refine aw_i2f rfl (by decide +kernel) ?_
  refine aw_e rfl rfl rfl ?_
  refine aw_e rfl rfl rfl ?_
  refine aw_i1f rfl (by decide +kernel) ?_
  refine aw_e rfl rfl rfl ?_
  refine aw_e rfl rfl rfl ?_
  refine aw_e rfl rfl rfl ?_
  refine aw_e rfl rfl rfl ?_
  refine aw_e rfl rfl rfl ?_
  refine aw_e rfl rfl rfl ?_
  refine aw_e rfl rfl rfl ?_
  refine aw_e rfl rfl rfl ?_
  refine aw_e rfl rfl rfl ?_
  refine aw_e rfl rfl rfl ?_
  refine aw_e rfl rfl rfl ?_
  refine aw_e rfl rfl rfl ?_
  refine aw_e rfl rfl rfl ?_
  refine aw_e rfl rfl rfl ?_
  refine aw_e rfl rfl rfl ?_
  refine aw_e rfl rfl rfl ?_
  refine aw_e rfl rfl rfl ?_
  refine aw_e rfl rfl rfl ?_
  refine aw_e rfl rfl rfl ?_
  refine aw_e rfl rfl rfl ?_
  refine aw_i2f rfl (by decide +kernel) ?_
  refine aw_e rfl rfl rfl ?_
  refine aw_e rfl rfl rfl ?_
  refine aw_i1f rfl (by decide +kernel) ?_
  refine aw_e rfl rfl rfl ?_
  refine aw_e rfl rfl rfl ?_
  refine aw_e rfl rfl rfl ?_
  refine aw_e rfl rfl rfl ?_
  refine aw_e rfl rfl rfl ?_
  refine aw_e rfl rfl rfl ?_
  refine aw_e rfl rfl rfl ?_
  refine aw_e rfl rfl rfl ?_
  refine aw_e rfl rfl rfl ?_
  refine aw_e rfl rfl rfl ?_
  refine aw_e rfl rfl rfl ?_
  refine aw_e rfl rfl rfl ?_
  refine aw_e rfl rfl rfl ?_
  refine aw_e rfl rfl rfl ?_
  refine aw_e rfl rfl rfl ?_
  refine aw_e rfl rfl rfl ?_
  refine aw_e rfl rfl rfl ?_
  refine aw_e rfl rfl rfl ?_
  refine aw_e rfl rfl rfl ?_
  refine aw_e rfl rfl rfl ?_
  refine aw_i2f rfl (by decide +kernel) ?_
  refine aw_e rfl rfl rfl ?_
  refine aw_e rfl rfl rfl ?_
  refine aw_i1f rfl (by decide +kernel) ?_
  refine aw_e rfl rfl rfl ?_
  refine aw_e rfl rfl rfl ?_
  refine aw_e rfl rfl rfl ?_
  refine aw_e rfl rfl rfl ?_
  refine aw_e rfl rfl rfl ?_
  refine aw_e rfl rfl rfl ?_
  refine aw_e rfl rfl rfl ?_
  refine aw_e rfl rfl rfl ?_
  refine aw_e rfl rfl rfl ?_
  refine aw_e rfl rfl rfl ?_
  refine aw_e rfl rfl rfl ?_
  refine aw_e rfl rfl rfl ?_
  refine aw_e rfl rfl rfl ?_
  refine aw_e rfl rfl rfl ?_
  refine aw_e rfl rfl rfl ?_
  refine aw_e rfl rfl rfl ?_
  refine aw_e rfl rfl rfl ?_
  refine aw_e rfl rfl rfl ?_
  refine aw_e rfl rfl rfl ?_
  refine aw_e rfl rfl rfl ?_
  refine aw_i2t rfl (by decide +kernel) ?_
  refine aw_rv rfl ?_
  refine aw_e rfl rfl rfl ?_
  refine aw_e rfl rfl rfl ?_
  refine aw_e rfl rfl rfl ?_
  refine aw_ci rfl rfl (by decide) rfl rfl ?_
  refine aw_e rfl rfl rfl ?_
  refine aw_e rfl rfl rfl ?_
  refine aw_e rfl rfl rfl ?_
  refine aw_e rfl rfl rfl ?_
  refine aw_e rfl rfl rfl ?_
  refine aw_i2f rfl (by decide +kernel) ?_
  refine aw_e rfl rfl rfl ?_
  refine aw_e rfl rfl rfl ?_
  refine aw_i1f rfl (by decide +kernel) ?_
  refine aw_e rfl rfl rfl ?_
  refine aw_e rfl rfl rfl ?_
  refine aw_e rfl rfl rfl ?_
  refine aw_e rfl rfl rfl ?_
  refine aw_e rfl rfl rfl ?_
  refine aw_e rfl rfl rfl ?_
  refine aw_e rfl rfl rfl ?_
  refine aw_e rfl rfl rfl ?_
  refine aw_e rfl rfl rfl ?_
  refine aw_e rfl rfl rfl ?_
  refine aw_e rfl rfl rfl ?_
  refine aw_e rfl rfl rfl ?_
  refine aw_e rfl rfl rfl ?_
  refine aw_e rfl rfl rfl ?_
  refine aw_e rfl rfl rfl ?_
  refine aw_e rfl rfl rfl ?_
  refine aw_e rfl rfl rfl ?_
  refine aw_e rfl rfl rfl ?_
  refine aw_e rfl rfl rfl ?_
  refine aw_e rfl rfl rfl ?_
  refine aw_i2f rfl (by decide +kernel) ?_
  refine aw_e rfl rfl rfl ?_
  refine aw_e rfl rfl rfl ?_
  refine aw_i1f rfl (by decide +kernel) ?_
  refine aw_e rfl rfl rfl ?_
  refine aw_e rfl rfl rfl ?_
  refine aw_e rfl rfl rfl ?_
  refine aw_e rfl rfl rfl ?_
  refine aw_e rfl rfl rfl ?_
  refine aw_e rfl rfl rfl ?_
  refine aw_e rfl rfl rfl ?_
  refine aw_e rfl rfl rfl ?_
  refine aw_e rfl rfl rfl ?_
  refine aw_e rfl rfl rfl ?_
  refine aw_e rfl rfl rfl ?_
  refine aw_e rfl rfl rfl ?_
  refine aw_e rfl rfl rfl ?_
  refine aw_e rfl rfl rfl ?_
  refine aw_e rfl rfl rfl ?_
  refine aw_e rfl rfl rfl ?_
  refine aw_e rfl rfl rfl ?_
  refine aw_e rfl rfl rfl ?_
  refine aw_e rfl rfl rfl ?_
  refine aw_e rfl rfl rfl ?_
  refine aw_i2f rfl (by decide +kernel) ?_
  refine aw_e rfl rfl rfl ?_
  refine aw_e rfl rfl rfl ?_
  refine aw_i1f rfl (by decide +kernel) ?_
  refine aw_e rfl rfl rfl ?_
  refine aw_e rfl rfl rfl ?_
  refine aw_e rfl rfl rfl ?_
  refine aw_e rfl rfl rfl ?_
  refine aw_e rfl rfl rfl ?_
  refine aw_e rfl rfl rfl ?_
  refine aw_e rfl rfl rfl ?_
  refine aw_e rfl rfl rfl ?_
  refine aw_e rfl rfl rfl ?_
  refine aw_e rfl rfl rfl ?_
  refine aw_e rfl rfl rfl ?_
  refine aw_e rfl rfl rfl ?_
  refine aw_e rfl rfl rfl ?_
  refine aw_e rfl rfl rfl ?_
  refine aw_e rfl rfl rfl ?_
  refine aw_e rfl rfl rfl ?_
  refine aw_e rfl rfl rfl ?_
  refine aw_e rfl rfl rfl ?_
  refine aw_e rfl rfl rfl ?_
  refine aw_e rfl rfl rfl ?_
  refine aw_i2f rfl (by decide +kernel) ?_
  refine aw_e rfl rfl rfl ?_
  refine aw_e rfl rfl rfl ?_
  refine aw_i1f rfl (by decide +kernel) ?_
  refine aw_e rfl rfl rfl ?_
  refine aw_e rfl rfl rfl ?_
  refine aw_e rfl rfl rfl ?_
  refine aw_e rfl rfl rfl ?_
  refine aw_e rfl rfl rfl ?_
  refine aw_e rfl rfl rfl ?_
  refine aw_e rfl rfl rfl ?_
  refine aw_e rfl rfl rfl ?_
  refine aw_e rfl rfl rfl ?_
  refine aw_e rfl rfl rfl ?_
  refine aw_e rfl rfl rfl ?_
  refine aw_e rfl rfl rfl ?_
  refine aw_e rfl rfl rfl ?_
  refine aw_e rfl rfl rfl ?_
  refine aw_e rfl rfl rfl ?_
  refine aw_e rfl rfl rfl ?_
  refine aw_e rfl rfl rfl ?_
  refine aw_e rfl rfl rfl ?_
  refine aw_e rfl rfl rfl ?_
  refine aw_e rfl rfl rfl ?_
  refine aw_i2f rfl (by decide +kernel) ?_
  refine aw_e rfl rfl rfl ?_
  refine aw_e rfl rfl rfl ?_
  refine aw_i1f rfl (by decide +kernel) ?_
  refine aw_e rfl rfl rfl ?_
  refine aw_e rfl rfl rfl ?_
  refine aw_e rfl rfl rfl ?_
  refine aw_e rfl rfl rfl ?_
  refine aw_e rfl rfl rfl ?_
  refine aw_e rfl rfl rfl ?_
  refine aw_e rfl rfl rfl ?_
  refine aw_e rfl rfl rfl ?_
  refine aw_e rfl rfl rfl ?_
  refine aw_e rfl rfl rfl ?_
  refine aw_e rfl rfl rfl ?_
  refine aw_e rfl rfl rfl ?_
  refine aw_e rfl rfl rfl ?_
  refine aw_e rfl rfl rfl ?_
  refine aw_e rfl rfl rfl ?_
  refine aw_e rfl rfl rfl ?_
  refine aw_e rfl rfl rfl ?_
  refine aw_e rfl rfl rfl ?_
  refine aw_e rfl rfl rfl ?_
  refine aw_e rfl rfl rfl ?_
  refine aw_i2f rfl (by decide +kernel) ?_
  refine aw_e rfl rfl rfl ?_
  refine aw_e rfl rfl rfl ?_
  refine aw_i1f rfl (by decide +kernel) ?_
  refine aw_e rfl rfl rfl ?_
  refine aw_e rfl rfl rfl ?_
  refine aw_e rfl rfl rfl ?_
  refine aw_e rfl rfl rfl ?_
  refine aw_e rfl rfl rfl ?_
  refine aw_e rfl rfl rfl ?_
  refine aw_e rfl rfl rfl ?_
  refine aw_e rfl rfl rfl ?_
  refine aw_e rfl rfl rfl ?_
  refine aw_e rfl rfl rfl ?_
  refine aw_e rfl rfl rfl ?_
  refine aw_e rfl rfl rfl ?_
  refine aw_e rfl rfl rfl ?_
  refine aw_e rfl rfl rfl ?_
  refine aw_e rfl rfl rfl ?_
  refine aw_e rfl rfl rfl ?_
  refine aw_e rfl rfl rfl ?_
  refine aw_e rfl rfl rfl ?_
  refine aw_e rfl rfl rfl ?_
  refine aw_e rfl rfl rfl ?_
  refine aw_i2f rfl (by decide +kernel) ?_
  refine aw_e rfl rfl rfl ?_
  refine aw_e rfl rfl rfl ?_
  refine aw_i1f rfl (by decide +kernel) ?_
  refine aw_e rfl rfl rfl ?_
  refine aw_e rfl rfl rfl ?_
  refine aw_e rfl rfl rfl ?_
  refine aw_e rfl rfl rfl ?_
  refine aw_e rfl rfl rfl ?_
  refine aw_e rfl rfl rfl ?_
  refine aw_e rfl rfl rfl ?_
  refine aw_e rfl rfl rfl ?_
  refine aw_e rfl rfl rfl ?_
  refine aw_e rfl rfl rfl ?_
  refine aw_e rfl rfl rfl ?_
  refine aw_e rfl rfl rfl ?_
  refine aw_e rfl rfl rfl ?_
  refine aw_e rfl rfl rfl ?_
  refine aw_e rfl rfl rfl ?_
  refine aw_e rfl rfl rfl ?_
  refine aw_e rfl rfl rfl ?_
  refine aw_e rfl rfl rfl ?_
  refine aw_e rfl rfl rfl ?_
  refine aw_e rfl rfl rfl ?_
  refine aw_i2f rfl (by decide +kernel) ?_
  refine aw_e rfl rfl rfl ?_
  refine aw_e rfl rfl rfl ?_
  refine aw_i1f rfl (by decide +kernel) ?_
  refine aw_e rfl rfl rfl ?_
  refine aw_e rfl rfl rfl ?_
  refine aw_e rfl rfl rfl ?_
  refine aw_e rfl rfl rfl ?_
  refine aw_e rfl rfl rfl ?_
  refine aw_e rfl rfl rfl ?_
  refine aw_e rfl rfl rfl ?_
  refine aw_e rfl rfl rfl ?_
  refine aw_e rfl rfl rfl ?_
  refine aw_e rfl rfl rfl ?_
  refine aw_e rfl rfl rfl ?_
  refine aw_e rfl rfl rfl ?_
  refine aw_e rfl rfl rfl ?_
  refine aw_e rfl rfl rfl ?_
  refine aw_e rfl rfl rfl ?_
  refine aw_e rfl rfl rfl ?_
  refine aw_e rfl rfl rfl ?_
  refine aw_e rfl rfl rfl ?_
  refine aw_e rfl rfl rfl ?_
  refine aw_e rfl rfl rfl ?_
  refine aw_i2t rfl (by decide +kernel) ?_
  refine aw_rv rfl ?_
  refine aw_e rfl rfl rfl ?_
  refine aw_e rfl rfl rfl ?_
  refine aw_e rfl rfl rfl ?_
  refine aw_ci rfl rfl (by decide) rfl rfl ?_
  refine aw_e rfl rfl rfl ?_
  refine aw_e rfl rfl rfl ?_
  refine aw_e rfl rfl rfl ?_
  refine aw_e rfl rfl rfl ?_
  refine aw_e rfl rfl rfl ?_
  refine aw_i2f rfl (by decide +kernel) ?_
  refine aw_e rfl rfl rfl ?_
  refine aw_e rfl rfl rfl ?_
  refine aw_i1f rfl (by decide +kernel) ?_
  refine aw_e rfl rfl rfl ?_
  refine aw_e rfl rfl rfl ?_
  refine aw_e rfl rfl rfl ?_
  refine aw_e rfl rfl rfl ?_
  refine aw_e rfl rfl rfl ?_
  refine aw_e rfl rfl rfl ?_
  refine aw_e rfl rfl rfl ?_
  refine aw_e rfl rfl rfl ?_
  refine aw_e rfl rfl rfl ?_
  refine aw_e rfl rfl rfl ?_
  refine aw_e rfl rfl rfl ?_
  refine aw_e rfl rfl rfl ?_
  refine aw_e rfl rfl rfl ?_
  refine aw_e rfl rfl rfl ?_
  refine aw_e rfl rfl rfl ?_
  refine aw_e rfl rfl rfl ?_
  refine aw_e rfl rfl rfl ?_
  refine aw_e rfl rfl rfl ?_
  refine aw_e rfl rfl rfl ?_
  refine aw_e rfl rfl rfl ?_
  refine aw_i2f rfl (by decide +kernel) ?_
  refine aw_e rfl rfl rfl ?_
  refine aw_e rfl rfl rfl ?_
  refine aw_i1f rfl (by decide +kernel) ?_
  refine aw_e rfl rfl rfl ?_
  refine aw_e rfl rfl rfl ?_
  refine aw_e rfl rfl rfl ?_
  refine aw_e rfl rfl rfl ?_
  refine aw_e rfl rfl rfl ?_
  refine aw_e rfl rfl rfl ?_
  refine aw_e rfl rfl rfl ?_
  refine aw_e rfl rfl rfl ?_
  refine aw_e rfl rfl rfl ?_
  refine aw_e rfl rfl rfl ?_
  refine aw_e rfl rfl rfl ?_
  refine aw_e rfl rfl rfl ?_
  refine aw_e rfl rfl rfl ?_
  refine aw_e rfl rfl rfl ?_
  refine aw_e rfl rfl rfl ?_
  refine aw_e rfl rfl rfl ?_
  refine aw_e rfl rfl rfl ?_
  refine aw_e rfl rfl rfl ?_
  refine aw_e rfl rfl rfl ?_
  refine aw_e rfl rfl rfl ?_
  refine aw_i2f rfl (by decide +kernel) ?_
  refine aw_e rfl rfl rfl ?_
  refine aw_e rfl rfl rfl ?_
  refine aw_i1f rfl (by decide +kernel) ?_
  refine aw_e rfl rfl rfl ?_
  refine aw_e rfl rfl rfl ?_
  refine aw_e rfl rfl rfl ?_
  refine aw_e rfl rfl rfl ?_
  refine aw_e rfl rfl rfl ?_
  refine aw_e rfl rfl rfl ?_
  refine aw_e rfl rfl rfl ?_
  refine aw_e rfl rfl rfl ?_
  refine aw_e rfl rfl rfl ?_
  refine aw_e rfl rfl rfl ?_
  refine aw_e rfl rfl rfl ?_
  refine aw_e rfl rfl rfl ?_
  refine aw_e rfl rfl rfl ?_
  refine aw_e rfl rfl rfl ?_
  refine aw_e rfl rfl rfl ?_
  refine aw_e rfl rfl rfl ?_
  refine aw_e rfl rfl rfl ?_
  refine aw_e rfl rfl rfl ?_
  refine aw_e rfl rfl rfl ?_
  refine aw_e rfl rfl rfl ?_
  refine aw_i2f rfl (by decide +kernel) ?_
  refine aw_e rfl rfl rfl ?_
  refine aw_e rfl rfl rfl ?_
  refine aw_i1f rfl (by decide +kernel) ?_
  refine aw_e rfl rfl rfl ?_
  refine aw_e rfl rfl rfl ?_
  refine aw_e rfl rfl rfl ?_
  refine aw_e rfl rfl rfl ?_
  refine aw_e rfl rfl rfl ?_
  refine aw_e rfl rfl rfl ?_
  refine aw_e rfl rfl rfl ?_
  refine aw_e rfl rfl rfl ?_
  refine aw_e rfl rfl rfl ?_
  refine aw_e rfl rfl rfl ?_
  refine aw_e rfl rfl rfl ?_
  refine aw_e rfl rfl rfl ?_
  refine aw_e rfl rfl rfl ?_
  refine aw_e rfl rfl rfl ?_
  refine aw_e rfl rfl rfl ?_
  refine aw_e rfl rfl rfl ?_
  refine aw_e rfl rfl rfl ?_
  refine aw_e rfl rfl rfl ?_
  refine aw_e rfl rfl rfl ?_
  refine aw_e rfl rfl rfl ?_
  refine aw_i2f rfl (by decide +kernel) ?_
  refine aw_e rfl rfl rfl ?_
  refine aw_e rfl rfl rfl ?_
  refine aw_i1f rfl (by decide +kernel) ?_
  refine aw_e rfl rfl rfl ?_
  refine aw_e rfl rfl rfl ?_
  refine aw_e rfl rfl rfl ?_
  refine aw_e rfl rfl rfl ?_
  refine aw_e rfl rfl rfl ?_
  refine aw_e rfl rfl rfl ?_
  refine aw_e rfl rfl rfl ?_
  refine aw_e rfl rfl rfl ?_
  refine aw_e rfl rfl rfl ?_
  refine aw_e rfl rfl rfl ?_
  refine aw_e rfl rfl rfl ?_
  refine aw_e rfl rfl rfl ?_
  refine aw_e rfl rfl rfl ?_
  refine aw_e rfl rfl rfl ?_
  refine aw_e rfl rfl rfl ?_
  refine aw_e rfl rfl rfl ?_
  refine aw_e rfl rfl rfl ?_
  refine aw_e rfl rfl rfl ?_
  refine aw_e rfl rfl rfl ?_
  refine aw_e rfl rfl rfl ?_
  refine aw_i2f rfl (by decide +kernel) ?_
  refine aw_e rfl rfl rfl ?_
  refine aw_e rfl rfl rfl ?_
  refine aw_i1f rfl (by decide +kernel) ?_
  refine aw_e rfl rfl rfl ?_
  refine aw_e rfl rfl rfl ?_
  refine aw_e rfl rfl rfl ?_
  refine aw_e rfl rfl rfl ?_
  refine aw_e rfl rfl rfl ?_
  refine aw_e rfl rfl rfl ?_
  refine aw_e rfl rfl rfl ?_
  refine aw_e rfl rfl rfl ?_
  refine aw_e rfl rfl rfl ?_
  refine aw_e rfl rfl rfl ?_
  refine aw_e rfl rfl rfl ?_
  refine aw_e rfl rfl rfl ?_
  refine aw_e rfl rfl rfl ?_
  refine aw_e rfl rfl rfl ?_
  refine aw_e rfl rfl rfl ?_
  refine aw_e rfl rfl rfl ?_
  refine aw_e rfl rfl rfl ?_
  refine aw_e rfl rfl rfl ?_
  refine aw_e rfl rfl rfl ?_
  refine aw_e rfl rfl rfl ?_
  refine aw_i2f rfl (by decide +kernel) ?_
  refine aw_e rfl rfl rfl ?_
  refine aw_e rfl rfl rfl ?_
  refine aw_i1f rfl (by decide +kernel) ?_
  refine aw_e rfl rfl rfl ?_
  refine aw_e rfl rfl rfl ?_
  refine aw_e rfl rfl rfl ?_
  refine aw_e rfl rfl rfl ?_
  refine aw_e rfl rfl rfl ?_
  refine aw_e rfl rfl rfl ?_
  refine aw_e rfl rfl rfl ?_
  refine aw_e rfl rfl rfl ?_
  refine aw_e rfl rfl rfl ?_
  refine aw_e rfl rfl rfl ?_
  refine aw_e rfl rfl rfl ?_
  refine aw_e rfl rfl rfl ?_
  refine aw_e rfl rfl rfl ?_
  refine aw_e rfl rfl rfl ?_
  refine aw_e rfl rfl rfl ?_
  refine aw_e rfl rfl rfl ?_
  refine aw_e rfl rfl rfl ?_
  refine aw_e rfl rfl rfl ?_
  refine aw_e rfl rfl rfl ?_
  refine aw_e rfl rfl rfl ?_
  refine aw_i2f rfl (by decide +kernel) ?_
  refine aw_e rfl rfl rfl ?_
  refine aw_e rfl rfl rfl ?_
  refine aw_i1f rfl (by decide +kernel) ?_
  refine aw_e rfl rfl rfl ?_
  refine aw_e rfl rfl rfl ?_
  refine aw_e rfl rfl rfl ?_
  refine aw_e rfl rfl rfl ?_
  refine aw_e rfl rfl rfl ?_
  refine aw_e rfl rfl rfl ?_
  refine aw_e rfl rfl rfl ?_
  refine aw_e rfl rfl rfl ?_
  refine aw_e rfl rfl rfl ?_
  refine aw_e rfl rfl rfl ?_
  refine aw_e rfl rfl rfl ?_
  refine aw_e rfl rfl rfl ?_
  refine aw_e rfl rfl rfl ?_
  refine aw_e rfl rfl rfl ?_
  refine aw_e rfl rfl rfl ?_
  refine aw_e rfl rfl rfl ?_
  refine aw_e rfl rfl rfl ?_
  refine aw_e rfl rfl rfl ?_
  refine aw_e rfl rfl rfl ?_
  refine aw_e rfl rfl rfl ?_
  refine aw_i2t rfl (by decide +kernel) ?_
  refine aw_rv rfl ?_
  refine aw_e rfl rfl rfl ?_
  refine aw_e rfl rfl rfl ?_
  refine aw_e rfl rfl rfl ?_
  refine aw_e rfl rfl rfl ?_
  refine aw_ci rfl rfl (by decide) rfl rfl ?_
  refine aw_e rfl rfl rfl ?_
  refine aw_e rfl rfl rfl ?_
  refine aw_i1f rfl (by decide +kernel) ?_
  refine aw_e rfl rfl rfl ?_
  refine aw_e rfl rfl rfl ?_
  refine aw_e rfl rfl rfl ?_
  refine aw_e rfl rfl rfl ?_
  refine aw_e rfl rfl rfl ?_
  refine aw_i1f rfl (by decide +kernel) ?_
  refine aw_e rfl rfl rfl ?_
  refine aw_e rfl rfl rfl ?_
  refine aw_e rfl rfl rfl ?_
  refine aw_e rfl rfl rfl ?_
  refine aw_e rfl rfl rfl ?_
  refine aw_e rfl rfl rfl ?_
  refine aw_e rfl rfl rfl ?_
  refine aw_e rfl rfl rfl ?_
  refine aw_e rfl rfl rfl ?_
  refine aw_e rfl rfl rfl ?_
  refine aw_e rfl rfl rfl ?_
  refine aw_e rfl rfl rfl ?_
  refine aw_e rfl rfl rfl ?_
  refine aw_ri rfl (by first | exact Or.inl rfl | exact Or.inr (by decide +kernel)) ?_
  refine aw_e rfl rfl rfl ?_
  refine aw_e rfl rfl rfl ?_
  refine aw_e rfl rfl rfl ?_
  refine aw_e rfl rfl rfl ?_
  refine aw_e rfl rfl rfl ?_
  refine aw_ci rfl rfl (by decide) rfl rfl ?_
  refine aw_e rfl rfl rfl ?_
  refine aw_e rfl rfl rfl ?_
  refine aw_i1f rfl (by decide +kernel) ?_
  refine aw_e rfl rfl rfl ?_
  refine aw_e rfl rfl rfl ?_
  refine aw_e rfl rfl rfl ?_
  refine aw_e rfl rfl rfl ?_
  refine aw_e rfl rfl rfl ?_
  refine aw_i1f rfl (by decide +kernel) ?_
  refine aw_e rfl rfl rfl ?_
  refine aw_e rfl rfl rfl ?_
  refine aw_e rfl rfl rfl ?_
  refine aw_e rfl rfl rfl ?_
  refine aw_e rfl rfl rfl ?_
  refine aw_e rfl rfl rfl ?_
  refine aw_e rfl rfl rfl ?_
  refine aw_e rfl rfl rfl ?_
  refine aw_e rfl rfl rfl ?_
  refine aw_e rfl rfl rfl ?_
  refine aw_e rfl rfl rfl ?_
  refine aw_e rfl rfl rfl ?_
  refine aw_e rfl rfl rfl ?_
  refine aw_ri rfl (by first | exact Or.inl rfl | exact Or.inr (by decide +kernel)) ?_
  refine aw_e rfl rfl rfl ?_
  refine aw_e rfl rfl rfl ?_
  refine aw_e rfl rfl rfl ?_
  refine aw_e rfl rfl rfl ?_
  refine aw_e rfl rfl rfl ?_
  refine aw_ci rfl rfl (by decide) rfl rfl ?_
  refine aw_e rfl rfl rfl ?_
  refine aw_e rfl rfl rfl ?_
  refine aw_i1f rfl (by decide +kernel) ?_
  refine aw_e rfl rfl rfl ?_
  refine aw_e rfl rfl rfl ?_
  refine aw_e rfl rfl rfl ?_
  refine aw_e rfl rfl rfl ?_
  refine aw_e rfl rfl rfl ?_
  refine aw_i1f rfl (by decide +kernel) ?_
  refine aw_e rfl rfl rfl ?_
  refine aw_e rfl rfl rfl ?_
  refine aw_e rfl rfl rfl ?_
  refine aw_e rfl rfl rfl ?_
  refine aw_e rfl rfl rfl ?_
  refine aw_e rfl rfl rfl ?_
  refine aw_e rfl rfl rfl ?_
  refine aw_e rfl rfl rfl ?_
  refine aw_e rfl rfl rfl ?_
  refine aw_e rfl rfl rfl ?_
  refine aw_e rfl rfl rfl ?_
  refine aw_e rfl rfl rfl ?_
  refine aw_e rfl rfl rfl ?_
  refine aw_ri rfl (by first | exact Or.inl rfl | exact Or.inr (by decide +kernel)) ?_
  refine aw_e rfl rfl rfl ?_
  refine aw_rv rfl ?_
  refine aw_e rfl rfl rfl ?_
  refine aw_e rfl rfl rfl ?_
  refine aw_e rfl rfl rfl ?_
  refine aw_e rfl rfl rfl ?_
  refine aw_e rfl rfl rfl ?_
  refine aw_e rfl rfl rfl ?_
  refine aw_e rfl rfl rfl ?_
  refine aw_i2t rfl (by decide +kernel) ?_
  refine aw_e rfl rfl rfl ?_
  refine aw_e rfl rfl rfl ?_
  refine aw_e rfl rfl rfl ?_
  refine aw_e rfl rfl rfl ?_
  refine aw_e rfl rfl rfl ?_
  refine aw_e rfl rfl rfl ?_
  refine aw_e rfl rfl rfl ?_
  refine aw_e rfl rfl rfl ?_
  refine aw_e rfl rfl rfl ?_
  refine aw_i2f rfl (by decide +kernel) ?_
  refine aw_e rfl rfl rfl ?_
  refine aw_e rfl rfl rfl ?_
  refine aw_e rfl rfl rfl ?_
  refine aw_e rfl rfl rfl ?_
  refine aw_e rfl rfl rfl ?_
  refine aw_i1f rfl (by decide +kernel) ?_
  refine aw_e rfl rfl rfl ?_
  refine aw_i1t rfl (by decide +kernel) ?_
  refine aw_e rfl rfl rfl ?_
  refine aw_e rfl rfl rfl ?_
  refine aw_e rfl rfl rfl ?_
  refine aw_ci rfl rfl (by decide) rfl rfl ?_
  refine aw_e rfl rfl rfl ?_
  refine aw_e rfl rfl rfl ?_
  refine aw_e rfl rfl rfl ?_
  refine aw_e rfl rfl rfl ?_
  refine aw_e rfl rfl rfl ?_
  refine aw_e rfl rfl rfl ?_
  refine aw_e rfl rfl rfl ?_
  refine aw_e rfl rfl rfl ?_
  refine aw_e rfl rfl rfl ?_
  refine aw_e rfl rfl rfl ?_
  refine aw_e rfl rfl rfl ?_
  refine aw_ci rfl rfl (by decide) rfl rfl ?_
  refine aw_e rfl rfl rfl ?_
  refine aw_e rfl rfl rfl ?_
  refine aw_e rfl rfl rfl ?_
  refine aw_e rfl rfl rfl ?_
  refine aw_e rfl rfl rfl ?_
  refine aw_i2f rfl (by decide +kernel) ?_
  refine aw_e rfl rfl rfl ?_
  refine aw_e rfl rfl rfl ?_
  refine aw_i1t rfl (by decide +kernel) ?_
  refine aw_e rfl rfl rfl ?_
  refine aw_e rfl rfl rfl ?_
  refine aw_e rfl rfl rfl ?_
  refine aw_e rfl rfl rfl ?_
  refine aw_e rfl rfl rfl ?_
  refine aw_e rfl rfl rfl ?_
  refine aw_e rfl rfl rfl ?_
  refine aw_e rfl rfl rfl ?_
  refine aw_e rfl rfl rfl ?_
  refine aw_e rfl rfl rfl ?_
  refine aw_e rfl rfl rfl ?_
  refine aw_e rfl rfl rfl ?_
  refine aw_e rfl rfl rfl ?_
  refine aw_e rfl rfl rfl ?_
  refine aw_e rfl rfl rfl ?_
  refine aw_e rfl rfl rfl ?_
  refine aw_e rfl rfl rfl ?_
  refine aw_e rfl rfl rfl ?_
  refine aw_e rfl rfl rfl ?_
  refine aw_i2f rfl (by decide +kernel) ?_
  refine aw_e rfl rfl rfl ?_
  refine aw_e rfl rfl rfl ?_
  refine aw_i1t rfl (by decide +kernel) ?_
  refine aw_e rfl rfl rfl ?_
  refine aw_e rfl rfl rfl ?_
  refine aw_e rfl rfl rfl ?_
  refine aw_e rfl rfl rfl ?_
  refine aw_e rfl rfl rfl ?_
  refine aw_e rfl rfl rfl ?_
  refine aw_e rfl rfl rfl ?_
  refine aw_e rfl rfl rfl ?_
  refine aw_e rfl rfl rfl ?_
  refine aw_e rfl rfl rfl ?_
  refine aw_e rfl rfl rfl ?_
  refine aw_e rfl rfl rfl ?_
  refine aw_e rfl rfl rfl ?_
  refine aw_e rfl rfl rfl ?_
  refine aw_e rfl rfl rfl ?_
  refine aw_e rfl rfl rfl ?_
  refine aw_e rfl rfl rfl ?_
  refine aw_e rfl rfl rfl ?_
  refine aw_e rfl rfl rfl ?_
  refine aw_i2f rfl (by decide +kernel) ?_
  refine aw_e rfl rfl rfl ?_
  refine aw_e rfl rfl rfl ?_
  refine aw_i1t rfl (by decide +kernel) ?_
  refine aw_e rfl rfl rfl ?_
  refine aw_e rfl rfl rfl ?_
  refine aw_e rfl rfl rfl ?_
  refine aw_e rfl rfl rfl ?_
  refine aw_e rfl rfl rfl ?_
  refine aw_e rfl rfl rfl ?_
  refine aw_e rfl rfl rfl ?_
  refine aw_e rfl rfl rfl ?_
  refine aw_e rfl rfl rfl ?_
  refine aw_e rfl rfl rfl ?_
  refine aw_e rfl rfl rfl ?_
  refine aw_e rfl rfl rfl ?_
  refine aw_e rfl rfl rfl ?_
  refine aw_e rfl rfl rfl ?_
  refine aw_e rfl rfl rfl ?_
  refine aw_e rfl rfl rfl ?_
  refine aw_e rfl rfl rfl ?_
  refine aw_e rfl rfl rfl ?_
  refine aw_e rfl rfl rfl ?_
  refine aw_i2f rfl (by decide +kernel) ?_
  refine aw_e rfl rfl rfl ?_
  refine aw_e rfl rfl rfl ?_
  refine aw_i1t rfl (by decide +kernel) ?_
  refine aw_e rfl rfl rfl ?_
  refine aw_e rfl rfl rfl ?_
  refine aw_e rfl rfl rfl ?_
  refine aw_e rfl rfl rfl ?_
  refine aw_e rfl rfl rfl ?_
  refine aw_e rfl rfl rfl ?_
  refine aw_e rfl rfl rfl ?_
  refine aw_e rfl rfl rfl ?_
  refine aw_e rfl rfl rfl ?_
  refine aw_e rfl rfl rfl ?_
  refine aw_e rfl rfl rfl ?_
  refine aw_e rfl rfl rfl ?_
  refine aw_e rfl rfl rfl ?_
  refine aw_e rfl rfl rfl ?_
  refine aw_e rfl rfl rfl ?_
  refine aw_e rfl rfl rfl ?_
  refine aw_e rfl rfl rfl ?_
  refine aw_e rfl rfl rfl ?_
  refine aw_e rfl rfl rfl ?_
  refine aw_i2f rfl (by decide +kernel) ?_
  refine aw_e rfl rfl rfl ?_
  refine aw_e rfl rfl rfl ?_
  refine aw_i1t rfl (by decide +kernel) ?_
  refine aw_e rfl rfl rfl ?_
  refine aw_e rfl rfl rfl ?_
  refine aw_e rfl rfl rfl ?_
  refine aw_e rfl rfl rfl ?_
  refine aw_e rfl rfl rfl ?_
  refine aw_e rfl rfl rfl ?_
  refine aw_e rfl rfl rfl ?_
  refine aw_e rfl rfl rfl ?_
  refine aw_e rfl rfl rfl ?_
  refine aw_e rfl rfl rfl ?_
  refine aw_e rfl rfl rfl ?_
  refine aw_e rfl rfl rfl ?_
  refine aw_e rfl rfl rfl ?_
  refine aw_e rfl rfl rfl ?_
  refine aw_e rfl rfl rfl ?_
  refine aw_e rfl rfl rfl ?_
  refine aw_e rfl rfl rfl ?_
  refine aw_e rfl rfl rfl ?_
  refine aw_e rfl rfl rfl ?_
  refine aw_i2t rfl (by decide +kernel) ?_
  refine aw_rv rfl ?_
  refine aw_e rfl rfl rfl ?_
  refine aw_e rfl rfl rfl ?_
  refine aw_e rfl rfl rfl ?_
  refine aw_ci rfl rfl (by decide) rfl rfl ?_
  refine aw_e rfl rfl rfl ?_
  refine aw_e rfl rfl rfl ?_
  refine aw_e rfl rfl rfl ?_
  refine aw_e rfl rfl rfl ?_
  refine aw_e rfl rfl rfl ?_
  refine aw_i2f rfl (by decide +kernel) ?_
  refine aw_e rfl rfl rfl ?_
  refine aw_e rfl rfl rfl ?_
  refine aw_i1t rfl (by decide +kernel) ?_
  refine aw_e rfl rfl rfl ?_
  refine aw_e rfl rfl rfl ?_
  refine aw_e rfl rfl rfl ?_
  refine aw_e rfl rfl rfl ?_
  refine aw_e rfl rfl rfl ?_
  refine aw_e rfl rfl rfl ?_
  refine aw_e rfl rfl rfl ?_
  refine aw_e rfl rfl rfl ?_
  refine aw_e rfl rfl rfl ?_
  refine aw_e rfl rfl rfl ?_
  refine aw_e rfl rfl rfl ?_
  refine aw_e rfl rfl rfl ?_
  refine aw_e rfl rfl rfl ?_
  refine aw_e rfl rfl rfl ?_
  refine aw_e rfl rfl rfl ?_
  refine aw_e rfl rfl rfl ?_
  refine aw_e rfl rfl rfl ?_
  refine aw_e rfl rfl rfl ?_
  refine aw_e rfl rfl rfl ?_
  refine aw_i2f rfl (by decide +kernel) ?_
  refine aw_e rfl rfl rfl ?_
  refine aw_e rfl rfl rfl ?_
  refine aw_i1t rfl (by decide +kernel) ?_
  refine aw_e rfl rfl rfl ?_
  refine aw_e rfl rfl rfl ?_
  refine aw_e rfl rfl rfl ?_
  refine aw_e rfl rfl rfl ?_
  refine aw_e rfl rfl rfl ?_
  refine aw_e rfl rfl rfl ?_
  refine aw_e rfl rfl rfl ?_
  refine aw_e rfl rfl rfl ?_
  refine aw_e rfl rfl rfl ?_
  refine aw_e rfl rfl rfl ?_
  refine aw_e rfl rfl rfl ?_
  refine aw_e rfl rfl rfl ?_
  refine aw_e rfl rfl rfl ?_
  refine aw_e rfl rfl rfl ?_
  refine aw_e rfl rfl rfl ?_
  refine aw_e rfl rfl rfl ?_
  refine aw_e rfl rfl rfl ?_
  refine aw_e rfl rfl rfl ?_
  refine aw_e rfl rfl rfl ?_
  refine aw_i2f rfl (by decide +kernel) ?_
  refine aw_e rfl rfl rfl ?_
  refine aw_e rfl rfl rfl ?_
  refine aw_i1t rfl (by decide +kernel) ?_
  refine aw_e rfl rfl rfl ?_
  refine aw_e rfl rfl rfl ?_
  refine aw_e rfl rfl rfl ?_
  refine aw_e rfl rfl rfl ?_
  refine aw_e rfl rfl rfl ?_
  refine aw_e rfl rfl rfl ?_
  refine aw_e rfl rfl rfl ?_
  refine aw_e rfl rfl rfl ?_
  refine aw_e rfl rfl rfl ?_
  refine aw_e rfl rfl rfl ?_
  refine aw_e rfl rfl rfl ?_
  refine aw_e rfl rfl rfl ?_
  refine aw_e rfl rfl rfl ?_
  refine aw_e rfl rfl rfl ?_
  refine aw_e rfl rfl rfl ?_
  refine aw_e rfl rfl rfl ?_
  refine aw_e rfl rfl rfl ?_
  refine aw_e rfl rfl rfl ?_
  refine aw_e rfl rfl rfl ?_
  refine aw_i2f rfl (by decide +kernel) ?_
  refine aw_e rfl rfl rfl ?_
  refine aw_e rfl rfl rfl ?_
  refine aw_i1t rfl (by decide +kernel) ?_
  refine aw_e rfl rfl rfl ?_
  refine aw_e rfl rfl rfl ?_
  refine aw_e rfl rfl rfl ?_
  refine aw_e rfl rfl rfl ?_
  refine aw_e rfl rfl rfl ?_
  refine aw_e rfl rfl rfl ?_
  refine aw_e rfl rfl rfl ?_
  refine aw_e rfl rfl rfl ?_
  refine aw_e rfl rfl rfl ?_
  refine aw_e rfl rfl rfl ?_
  refine aw_e rfl rfl rfl ?_
  refine aw_e rfl rfl rfl ?_
  refine aw_e rfl rfl rfl ?_
  refine aw_e rfl rfl rfl ?_
  refine aw_e rfl rfl rfl ?_
  refine aw_e rfl rfl rfl ?_
  refine aw_e rfl rfl rfl ?_
  refine aw_e rfl rfl rfl ?_
  refine aw_e rfl rfl rfl ?_
  refine aw_i2f rfl (by decide +kernel) ?_
  refine aw_e rfl rfl rfl ?_
  refine aw_e rfl rfl rfl ?_
  refine aw_i1t rfl (by decide +kernel) ?_
  refine aw_e rfl rfl rfl ?_
  refine aw_e rfl rfl rfl ?_
  refine aw_e rfl rfl rfl ?_
  refine aw_e rfl rfl rfl ?_
  refine aw_e rfl rfl rfl ?_
  refine aw_e rfl rfl rfl ?_
  refine aw_e rfl rfl rfl ?_
  refine aw_e rfl rfl rfl ?_
  refine aw_e rfl rfl rfl ?_
  refine aw_e rfl rfl rfl ?_
  refine aw_e rfl rfl rfl ?_
  refine aw_e rfl rfl rfl ?_
  refine aw_e rfl rfl rfl ?_
  refine aw_e rfl rfl rfl ?_
  refine aw_e rfl rfl rfl ?_
  refine aw_e rfl rfl rfl ?_
  refine aw_e rfl rfl rfl ?_
  refine aw_e rfl rfl rfl ?_
  refine aw_e rfl rfl rfl ?_
  refine aw_i2f rfl (by decide +kernel) ?_
  refine aw_e rfl rfl rfl ?_
  refine aw_e rfl rfl rfl ?_
  refine aw_i1t rfl (by decide +kernel) ?_
  refine aw_e rfl rfl rfl ?_
  refine aw_e rfl rfl rfl ?_
  refine aw_e rfl rfl rfl ?_
  refine aw_e rfl rfl rfl ?_
  refine aw_e rfl rfl rfl ?_
  refine aw_e rfl rfl rfl ?_
  refine aw_e rfl rfl rfl ?_
  refine aw_e rfl rfl rfl ?_
  refine aw_e rfl rfl rfl ?_
  refine aw_e rfl rfl rfl ?_
  refine aw_e rfl rfl rfl ?_
  refine aw_e rfl rfl rfl ?_
  refine aw_e rfl rfl rfl ?_
  refine aw_e rfl rfl rfl ?_
  refine aw_e rfl rfl rfl ?_
  refine aw_e rfl rfl rfl ?_
  refine aw_e rfl rfl rfl ?_
  refine aw_e rfl rfl rfl ?_
  refine aw_e rfl rfl rfl ?_
  refine aw_i2f rfl (by decide +kernel) ?_
  refine aw_e rfl rfl rfl ?_
  refine aw_e rfl rfl rfl ?_
  refine aw_i1t rfl (by decide +kernel) ?_
  refine aw_e rfl rfl rfl ?_
  refine aw_e rfl rfl rfl ?_
  refine aw_e rfl rfl rfl ?_
  refine aw_e rfl rfl rfl ?_
  refine aw_e rfl rfl rfl ?_
  refine aw_e rfl rfl rfl ?_
  refine aw_e rfl rfl rfl ?_
  refine aw_e rfl rfl rfl ?_
  refine aw_e rfl rfl rfl ?_
  refine aw_e rfl rfl rfl ?_
  refine aw_e rfl rfl rfl ?_
  refine aw_e rfl rfl rfl ?_
  refine aw_e rfl rfl rfl ?_
  refine aw_e rfl rfl rfl ?_
  refine aw_e rfl rfl rfl ?_
  refine aw_e rfl rfl rfl ?_
  refine aw_e rfl rfl rfl ?_
  refine aw_e rfl rfl rfl ?_
  refine aw_e rfl rfl rfl ?_
  refine aw_i2f rfl (by decide +kernel) ?_
  refine aw_e rfl rfl rfl ?_
  refine aw_e rfl rfl rfl ?_
  refine aw_i1t rfl (by decide +kernel) ?_
  refine aw_e rfl rfl rfl ?_
  refine aw_e rfl rfl rfl ?_
  refine aw_e rfl rfl rfl ?_
  refine aw_e rfl rfl rfl ?_
  refine aw_e rfl rfl rfl ?_
  refine aw_e rfl rfl rfl ?_
  refine aw_e rfl rfl rfl ?_
  refine aw_e rfl rfl rfl ?_
  refine aw_e rfl rfl rfl ?_
  refine aw_e rfl rfl rfl ?_
  refine aw_e rfl rfl rfl ?_
  refine aw_e rfl rfl rfl ?_
  refine aw_e rfl rfl rfl ?_
  refine aw_e rfl rfl rfl ?_
  refine aw_e rfl rfl rfl ?_
  refine aw_e rfl rfl rfl ?_
  refine aw_e rfl rfl rfl ?_
  refine aw_e rfl rfl rfl ?_
  refine aw_e rfl rfl rfl ?_
  refine aw_i2t rfl (by decide +kernel) ?_
  refine aw_rv rfl ?_
  refine aw_e rfl rfl rfl ?_
  refine aw_e rfl rfl rfl ?_
  refine aw_e rfl rfl rfl ?_
  refine aw_ci rfl rfl (by decide) rfl rfl ?_
  refine aw_e rfl rfl rfl ?_
  refine aw_e rfl rfl rfl ?_
  refine aw_e rfl rfl rfl ?_
  refine aw_e rfl rfl rfl ?_
  refine aw_e rfl rfl rfl ?_
  refine aw_i2f rfl (by decide +kernel) ?_
  refine aw_e rfl rfl rfl ?_
  refine aw_e rfl rfl rfl ?_
  refine aw_i1t rfl (by decide +kernel) ?_
  refine aw_e rfl rfl rfl ?_
  refine aw_e rfl rfl rfl ?_
  refine aw_e rfl rfl rfl ?_
  refine aw_e rfl rfl rfl ?_
  refine aw_e rfl rfl rfl ?_
  refine aw_e rfl rfl rfl ?_
  refine aw_e rfl rfl rfl ?_
  refine aw_e rfl rfl rfl ?_
  refine aw_e rfl rfl rfl ?_
  refine aw_e rfl rfl rfl ?_
  refine aw_e rfl rfl rfl ?_
  refine aw_e rfl rfl rfl ?_
  refine aw_e rfl rfl rfl ?_
  refine aw_e rfl rfl rfl ?_
  refine aw_e rfl rfl rfl ?_
  refine aw_e rfl rfl rfl ?_
  refine aw_e rfl rfl rfl ?_
  refine aw_e rfl rfl rfl ?_
  refine aw_e rfl rfl rfl ?_
  refine aw_i2f rfl (by decide +kernel) ?_
  refine aw_e rfl rfl rfl ?_
  refine aw_e rfl rfl rfl ?_
  refine aw_i1t rfl (by decide +kernel) ?_
  refine aw_e rfl rfl rfl ?_
  refine aw_e rfl rfl rfl ?_
  refine aw_e rfl rfl rfl ?_
  refine aw_e rfl rfl rfl ?_
  refine aw_e rfl rfl rfl ?_
  refine aw_e rfl rfl rfl ?_
  refine aw_e rfl rfl rfl ?_
  refine aw_e rfl rfl rfl ?_
  refine aw_e rfl rfl rfl ?_
  refine aw_e rfl rfl rfl ?_
  refine aw_e rfl rfl rfl ?_
  refine aw_e rfl rfl rfl ?_
  refine aw_e rfl rfl rfl ?_
  refine aw_e rfl rfl rfl ?_
  refine aw_e rfl rfl rfl ?_
  refine aw_e rfl rfl rfl ?_
  refine aw_e rfl rfl rfl ?_
  refine aw_e rfl rfl rfl ?_
  refine aw_e rfl rfl rfl ?_
  refine aw_i2f rfl (by decide +kernel) ?_
  refine aw_e rfl rfl rfl ?_
  refine aw_e rfl rfl rfl ?_
  refine aw_i1t rfl (by decide +kernel) ?_
  refine aw_e rfl rfl rfl ?_
  refine aw_e rfl rfl rfl ?_
  refine aw_e rfl rfl rfl ?_
  refine aw_e rfl rfl rfl ?_
  refine aw_e rfl rfl rfl ?_
  refine aw_e rfl rfl rfl ?_
  refine aw_e rfl rfl rfl ?_
  refine aw_e rfl rfl rfl ?_
  refine aw_e rfl rfl rfl ?_
  refine aw_e rfl rfl rfl ?_
  refine aw_e rfl rfl rfl ?_
  refine aw_e rfl rfl rfl ?_
  refine aw_e rfl rfl rfl ?_
  refine aw_e rfl rfl rfl ?_
  refine aw_e rfl rfl rfl ?_
  refine aw_e rfl rfl rfl ?_
  refine aw_e rfl rfl rfl ?_
  refine aw_e rfl rfl rfl ?_
  refine aw_e rfl rfl rfl ?_
  refine aw_i2f rfl (by decide +kernel) ?_
  refine aw_e rfl rfl rfl ?_
  refine aw_e rfl rfl rfl ?_
  refine aw_i1t rfl (by decide +kernel) ?_
  refine aw_e rfl rfl rfl ?_
  refine aw_e rfl rfl rfl ?_
  refine aw_e rfl rfl rfl ?_
  refine aw_e rfl rfl rfl ?_
  refine aw_e rfl rfl rfl ?_
  refine aw_e rfl rfl rfl ?_
  refine aw_e rfl rfl rfl ?_
  refine aw_e rfl rfl rfl ?_
  refine aw_e rfl rfl rfl ?_
  refine aw_e rfl rfl rfl ?_
  refine aw_e rfl rfl rfl ?_
  refine aw_e rfl rfl rfl ?_
  refine aw_e rfl rfl rfl ?_
  refine aw_e rfl rfl rfl ?_
  refine aw_e rfl rfl rfl ?_
  refine aw_e rfl rfl rfl ?_
  refine aw_e rfl rfl rfl ?_
  refine aw_e rfl rfl rfl ?_
  refine aw_e rfl rfl rfl ?_
  refine aw_i2f rfl (by decide +kernel) ?_
  refine aw_e rfl rfl rfl ?_
  refine aw_e rfl rfl rfl ?_
  refine aw_i1t rfl (by decide +kernel) ?_
  refine aw_e rfl rfl rfl ?_
  refine aw_e rfl rfl rfl ?_
  refine aw_e rfl rfl rfl ?_
  refine aw_e rfl rfl rfl ?_
  refine aw_e rfl rfl rfl ?_
  refine aw_e rfl rfl rfl ?_
  refine aw_e rfl rfl rfl ?_
  refine aw_e rfl rfl rfl ?_
  refine aw_e rfl rfl rfl ?_
  refine aw_e rfl rfl rfl ?_
  refine aw_e rfl rfl rfl ?_
  refine aw_e rfl rfl rfl ?_
  refine aw_e rfl rfl rfl ?_
  refine aw_e rfl rfl rfl ?_
  refine aw_e rfl rfl rfl ?_
  refine aw_e rfl rfl rfl ?_
  refine aw_e rfl rfl rfl ?_
  refine aw_e rfl rfl rfl ?_
  refine aw_e rfl rfl rfl ?_
  refine aw_i2f rfl (by decide +kernel) ?_
  refine aw_e rfl rfl rfl ?_
  refine aw_e rfl rfl rfl ?_
  refine aw_i1t rfl (by decide +kernel) ?_
  refine aw_e rfl rfl rfl ?_
  refine aw_e rfl rfl rfl ?_
  refine aw_e rfl rfl rfl ?_
  refine aw_e rfl rfl rfl ?_
  refine aw_e rfl rfl rfl ?_
  refine aw_e rfl rfl rfl ?_
  refine aw_e rfl rfl rfl ?_
  refine aw_e rfl rfl rfl ?_
  refine aw_e rfl rfl rfl ?_
  refine aw_e rfl rfl rfl ?_
  refine aw_e rfl rfl rfl ?_
  refine aw_e rfl rfl rfl ?_
  refine aw_e rfl rfl rfl ?_
  refine aw_e rfl rfl rfl ?_
  refine aw_e rfl rfl rfl ?_
  refine aw_e rfl rfl rfl ?_
  refine aw_e rfl rfl rfl ?_
  refine aw_e rfl rfl rfl ?_
  refine aw_e rfl rfl rfl ?_
  refine aw_i2f rfl (by decide +kernel) ?_
  refine aw_e rfl rfl rfl ?_
  refine aw_e rfl rfl rfl ?_
  refine aw_i1t rfl (by decide +kernel) ?_
  refine aw_e rfl rfl rfl ?_
  refine aw_e rfl rfl rfl ?_
  refine aw_e rfl rfl rfl ?_
  refine aw_e rfl rfl rfl ?_
  refine aw_e rfl rfl rfl ?_
  refine aw_e rfl rfl rfl ?_
  refine aw_e rfl rfl rfl ?_
  refine aw_e rfl rfl rfl ?_
  refine aw_e rfl rfl rfl ?_
  refine aw_e rfl rfl rfl ?_
  refine aw_e rfl rfl rfl ?_
  refine aw_e rfl rfl rfl ?_
  refine aw_e rfl rfl rfl ?_
  refine aw_e rfl rfl rfl ?_
  refine aw_e rfl rfl rfl ?_
  refine aw_e rfl rfl rfl ?_
  refine aw_e rfl rfl rfl ?_
  refine aw_e rfl rfl rfl ?_
  refine aw_e rfl rfl rfl ?_
  refine aw_i2f rfl (by decide +kernel) ?_
  refine aw_e rfl rfl rfl ?_
  refine aw_e rfl rfl rfl ?_
  refine aw_i1t rfl (by decide +kernel) ?_
  refine aw_e rfl rfl rfl ?_
  refine aw_e rfl rfl rfl ?_
  refine aw_e rfl rfl rfl ?_
  refine aw_e rfl rfl rfl ?_
  refine aw_e rfl rfl rfl ?_
  refine aw_e rfl rfl rfl ?_
  refine aw_e rfl rfl rfl ?_
  refine aw_e rfl rfl rfl ?_
  refine aw_e rfl rfl rfl ?_
  refine aw_e rfl rfl rfl ?_
  refine aw_e rfl rfl rfl ?_
  refine aw_e rfl rfl rfl ?_
  refine aw_e rfl rfl rfl ?_
  refine aw_e rfl rfl rfl ?_
  refine aw_e rfl rfl rfl ?_
  refine aw_e rfl rfl rfl ?_
  refine aw_e rfl rfl rfl ?_
  refine aw_e rfl rfl rfl ?_
  refine aw_e rfl rfl rfl ?_
  refine aw_i2t rfl (by decide +kernel) ?_
  refine aw_rv rfl ?_
  refine aw_e rfl rfl rfl ?_
  refine aw_e rfl rfl rfl ?_
  refine aw_e rfl rfl rfl ?_
  refine aw_ci rfl rfl (by decide) rfl rfl ?_
  refine aw_e rfl rfl rfl ?_
  refine aw_e rfl rfl rfl ?_
  refine aw_e rfl rfl rfl ?_
  refine aw_e rfl rfl rfl ?_
  refine aw_e rfl rfl rfl ?_
  refine aw_i2f rfl (by decide +kernel) ?_
  refine aw_e rfl rfl rfl ?_
  refine aw_e rfl rfl rfl ?_
  refine aw_i1t rfl (by decide +kernel) ?_
  refine aw_e rfl rfl rfl ?_
  refine aw_e rfl rfl rfl ?_
  refine aw_e rfl rfl rfl ?_
  refine aw_e rfl rfl rfl ?_
  refine aw_e rfl rfl rfl ?_
  refine aw_e rfl rfl rfl ?_
  refine aw_e rfl rfl rfl ?_
  refine aw_e rfl rfl rfl ?_
  refine aw_e rfl rfl rfl ?_
  refine aw_e rfl rfl rfl ?_
  refine aw_e rfl rfl rfl ?_
  refine aw_e rfl rfl rfl ?_
  refine aw_e rfl rfl rfl ?_
  refine aw_e rfl rfl rfl ?_
  refine aw_e rfl rfl rfl ?_
  refine aw_e rfl rfl rfl ?_
  refine aw_e rfl rfl rfl ?_
  refine aw_e rfl rfl rfl ?_
  refine aw_e rfl rfl rfl ?_
  refine aw_i2f rfl (by decide +kernel) ?_
  refine aw_e rfl rfl rfl ?_
  refine aw_e rfl rfl rfl ?_
  refine aw_i1t rfl (by decide +kernel) ?_
  refine aw_e rfl rfl rfl ?_
  refine aw_e rfl rfl rfl ?_
  refine aw_e rfl rfl rfl ?_
  refine aw_e rfl rfl rfl ?_
  refine aw_e rfl rfl rfl ?_
  refine aw_e rfl rfl rfl ?_
  refine aw_e rfl rfl rfl ?_
  refine aw_e rfl rfl rfl ?_
  refine aw_e rfl rfl rfl ?_
  refine aw_e rfl rfl rfl ?_
  refine aw_e rfl rfl rfl ?_
  refine aw_e rfl rfl rfl ?_
  refine aw_e rfl rfl rfl ?_
  refine aw_e rfl rfl rfl ?_
  refine aw_e rfl rfl rfl ?_
  refine aw_e rfl rfl rfl ?_
  refine aw_e rfl rfl rfl ?_
  refine aw_e rfl rfl rfl ?_
  refine aw_e rfl rfl rfl ?_
  refine aw_i2f rfl (by decide +kernel) ?_
  refine aw_e rfl rfl rfl ?_
  refine aw_e rfl rfl rfl ?_
  refine aw_i1t rfl (by decide +kernel) ?_
  refine aw_e rfl rfl rfl ?_
  refine aw_e rfl rfl rfl ?_
  refine aw_e rfl rfl rfl ?_
  refine aw_e rfl rfl rfl ?_
  refine aw_e rfl rfl rfl ?_
  refine aw_e rfl rfl rfl ?_
  refine aw_e rfl rfl rfl ?_
  refine aw_e rfl rfl rfl ?_
  refine aw_e rfl rfl rfl ?_
  refine aw_e rfl rfl rfl ?_
  refine aw_e rfl rfl rfl ?_
  refine aw_e rfl rfl rfl ?_
  refine aw_e rfl rfl rfl ?_
  refine aw_e rfl rfl rfl ?_
  refine aw_e rfl rfl rfl ?_
  refine aw_e rfl rfl rfl ?_
  refine aw_e rfl rfl rfl ?_
  refine aw_e rfl rfl rfl ?_
  refine aw_e rfl rfl rfl ?_
  refine aw_i2f rfl (by decide +kernel) ?_
  refine aw_e rfl rfl rfl ?_
  refine aw_e rfl rfl rfl ?_
  refine aw_i1t rfl (by decide +kernel) ?_
  refine aw_e rfl rfl rfl ?_
  refine aw_e rfl rfl rfl ?_
  refine aw_e rfl rfl rfl ?_
  refine aw_e rfl rfl rfl ?_
  refine aw_e rfl rfl rfl ?_
  refine aw_e rfl rfl rfl ?_
  refine aw_e rfl rfl rfl ?_
  refine aw_e rfl rfl rfl ?_
  refine aw_e rfl rfl rfl ?_
  refine aw_e rfl rfl rfl ?_
  refine aw_e rfl rfl rfl ?_
  refine aw_e rfl rfl rfl ?_
  refine aw_e rfl rfl rfl ?_
  refine aw_e rfl rfl rfl ?_
  refine aw_e rfl rfl rfl ?_
  refine aw_e rfl rfl rfl ?_
  refine aw_e rfl rfl rfl ?_
  refine aw_e rfl rfl rfl ?_
  refine aw_e rfl rfl rfl ?_
  refine aw_i2f rfl (by decide +kernel) ?_
  refine aw_e rfl rfl rfl ?_
  refine aw_e rfl rfl rfl ?_
  refine aw_i1t rfl (by decide +kernel) ?_
  refine aw_e rfl rfl rfl ?_
  refine aw_e rfl rfl rfl ?_
  refine aw_e rfl rfl rfl ?_
  refine aw_e rfl rfl rfl ?_
  refine aw_e rfl rfl rfl ?_
  refine aw_e rfl rfl rfl ?_
  refine aw_e rfl rfl rfl ?_
  refine aw_e rfl rfl rfl ?_
  refine aw_e rfl rfl rfl ?_
  refine aw_e rfl rfl rfl ?_
  refine aw_e rfl rfl rfl ?_
  refine aw_e rfl rfl rfl ?_
  refine aw_e rfl rfl rfl ?_
  refine aw_e rfl rfl rfl ?_
  refine aw_e rfl rfl rfl ?_
  refine aw_e rfl rfl rfl ?_
  refine aw_e rfl rfl rfl ?_
  refine aw_e rfl rfl rfl ?_
  refine aw_e rfl rfl rfl ?_
  refine aw_i2f rfl (by decide +kernel) ?_
  refine aw_e rfl rfl rfl ?_
  refine aw_e rfl rfl rfl ?_
  refine aw_i1t rfl (by decide +kernel) ?_
  refine aw_e rfl rfl rfl ?_
  refine aw_e rfl rfl rfl ?_
  refine aw_e rfl rfl rfl ?_
  refine aw_e rfl rfl rfl ?_
  refine aw_e rfl rfl rfl ?_
  refine aw_e rfl rfl rfl ?_
  refine aw_e rfl rfl rfl ?_
  refine aw_e rfl rfl rfl ?_
  refine aw_e rfl rfl rfl ?_
  refine aw_e rfl rfl rfl ?_
  refine aw_e rfl rfl rfl ?_
  refine aw_e rfl rfl rfl ?_
  refine aw_e rfl rfl rfl ?_
  refine aw_e rfl rfl rfl ?_
  refine aw_e rfl rfl rfl ?_
  refine aw_e rfl rfl rfl ?_
  refine aw_e rfl rfl rfl ?_
  refine aw_e rfl rfl rfl ?_
  refine aw_e rfl rfl rfl ?_
  refine aw_i2f rfl (by decide +kernel) ?_
  refine aw_e rfl rfl rfl ?_
  refine aw_e rfl rfl rfl ?_
  refine aw_i1t rfl (by decide +kernel) ?_
  refine aw_e rfl rfl rfl ?_
  refine aw_e rfl rfl rfl ?_
  refine aw_e rfl rfl rfl ?_
  refine aw_e rfl rfl rfl ?_
  refine aw_e rfl rfl rfl ?_
  refine aw_e rfl rfl rfl ?_
  refine aw_e rfl rfl rfl ?_
  refine aw_e rfl rfl rfl ?_
  refine aw_e rfl rfl rfl ?_
  refine aw_e rfl rfl rfl ?_
  refine aw_e rfl rfl rfl ?_
  refine aw_e rfl rfl rfl ?_
  refine aw_e rfl rfl rfl ?_
  refine aw_e rfl rfl rfl ?_
  refine aw_e rfl rfl rfl ?_
  refine aw_e rfl rfl rfl ?_
  refine aw_e rfl rfl rfl ?_
  refine aw_e rfl rfl rfl ?_
  refine aw_e rfl rfl rfl ?_
  refine aw_i2f rfl (by decide +kernel) ?_
  refine aw_e rfl rfl rfl ?_
  refine aw_e rfl rfl rfl ?_
  refine aw_i1t rfl (by decide +kernel) ?_
  refine aw_e rfl rfl rfl ?_
  refine aw_e rfl rfl rfl ?_
  refine aw_e rfl rfl rfl ?_
  refine aw_e rfl rfl rfl ?_
  refine aw_e rfl rfl rfl ?_
  refine aw_e rfl rfl rfl ?_
  refine aw_e rfl rfl rfl ?_
  refine aw_e rfl rfl rfl ?_
  refine aw_e rfl rfl rfl ?_
  refine aw_e rfl rfl rfl ?_
  refine aw_e rfl rfl rfl ?_
  refine aw_e rfl rfl rfl ?_
  refine aw_e rfl rfl rfl ?_
  refine aw_e rfl rfl rfl ?_
  refine aw_e rfl rfl rfl ?_
  refine aw_e rfl rfl rfl ?_
  refine aw_e rfl rfl rfl ?_
  refine aw_e rfl rfl rfl ?_
  refine aw_e rfl rfl rfl ?_
  refine aw_i2t rfl (by decide +kernel) ?_
  refine aw_rv rfl ?_
  refine aw_e rfl rfl rfl ?_
  refine aw_e rfl rfl rfl ?_
  refine aw_e rfl rfl rfl ?_
  refine aw_ci rfl rfl (by decide) rfl rfl ?_
  refine aw_e rfl rfl rfl ?_
  refine aw_e rfl rfl rfl ?_
  refine aw_e rfl rfl rfl ?_
  refine aw_e rfl rfl rfl ?_
  refine aw_e rfl rfl rfl ?_
  refine aw_i2f rfl (by decide +kernel) ?_
  refine aw_e rfl rfl rfl ?_
  refine aw_e rfl rfl rfl ?_
  refine aw_i1t rfl (by decide +kernel) ?_
  refine aw_e rfl rfl rfl ?_
  refine aw_e rfl rfl rfl ?_
  refine aw_e rfl rfl rfl ?_
  refine aw_e rfl rfl rfl ?_
  refine aw_e rfl rfl rfl ?_
  refine aw_e rfl rfl rfl ?_
  refine aw_e rfl rfl rfl ?_
  refine aw_e rfl rfl rfl ?_
  refine aw_e rfl rfl rfl ?_
  refine aw_e rfl rfl rfl ?_
  refine aw_e rfl rfl rfl ?_
  refine aw_e rfl rfl rfl ?_
  refine aw_e rfl rfl rfl ?_
  refine aw_e rfl rfl rfl ?_
  refine aw_e rfl rfl rfl ?_
  refine aw_e rfl rfl rfl ?_
  refine aw_e rfl rfl rfl ?_
  refine aw_e rfl rfl rfl ?_
  refine aw_e rfl rfl rfl ?_
  refine aw_i2f rfl (by decide +kernel) ?_
  refine aw_e rfl rfl rfl ?_
  refine aw_e rfl rfl rfl ?_
  refine aw_i1t rfl (by decide +kernel) ?_
  refine aw_e rfl rfl rfl ?_
  refine aw_e rfl rfl rfl ?_
  refine aw_e rfl rfl rfl ?_
  refine aw_e rfl rfl rfl ?_
  refine aw_e rfl rfl rfl ?_
  refine aw_e rfl rfl rfl ?_
  refine aw_e rfl rfl rfl ?_
  refine aw_e rfl rfl rfl ?_
  refine aw_e rfl rfl rfl ?_
  refine aw_e rfl rfl rfl ?_
  refine aw_e rfl rfl rfl ?_
  refine aw_e rfl rfl rfl ?_
  refine aw_e rfl rfl rfl ?_
  refine aw_e rfl rfl rfl ?_
  refine aw_e rfl rfl rfl ?_
  refine aw_e rfl rfl rfl ?_
  refine aw_e rfl rfl rfl ?_
  refine aw_e rfl rfl rfl ?_
  refine aw_e rfl rfl rfl ?_
  refine aw_i2f rfl (by decide +kernel) ?_
  refine aw_e rfl rfl rfl ?_
  refine aw_e rfl rfl rfl ?_
  refine aw_i1t rfl (by decide +kernel) ?_
  refine aw_e rfl rfl rfl ?_
  refine aw_e rfl rfl rfl ?_
  refine aw_e rfl rfl rfl ?_
  refine aw_e rfl rfl rfl ?_
  refine aw_e rfl rfl rfl ?_
  refine aw_e rfl rfl rfl ?_
  refine aw_e rfl rfl rfl ?_
  refine aw_e rfl rfl rfl ?_
  refine aw_e rfl rfl rfl ?_
  refine aw_e rfl rfl rfl ?_
  refine aw_e rfl rfl rfl ?_
  refine aw_e rfl rfl rfl ?_
  refine aw_e rfl rfl rfl ?_
  refine aw_e rfl rfl rfl ?_
  refine aw_e rfl rfl rfl ?_
  refine aw_e rfl rfl rfl ?_
  refine aw_e rfl rfl rfl ?_
  refine aw_e rfl rfl rfl ?_
  refine aw_e rfl rfl rfl ?_
  refine aw_i2f rfl (by decide +kernel) ?_
  refine aw_e rfl rfl rfl ?_
  refine aw_e rfl rfl rfl ?_
  refine aw_i1t rfl (by decide +kernel) ?_
  refine aw_e rfl rfl rfl ?_
  refine aw_e rfl rfl rfl ?_
  refine aw_e rfl rfl rfl ?_
  refine aw_e rfl rfl rfl ?_
  refine aw_e rfl rfl rfl ?_
  refine aw_e rfl rfl rfl ?_
  refine aw_e rfl rfl rfl ?_
  refine aw_e rfl rfl rfl ?_
  refine aw_e rfl rfl rfl ?_
  refine aw_e rfl rfl rfl ?_
  refine aw_e rfl rfl rfl ?_
  refine aw_e rfl rfl rfl ?_
  refine aw_e rfl rfl rfl ?_
  refine aw_e rfl rfl rfl ?_
  refine aw_e rfl rfl rfl ?_
  refine aw_e rfl rfl rfl ?_
  refine aw_e rfl rfl rfl ?_
  refine aw_e rfl rfl rfl ?_
  refine aw_e rfl rfl rfl ?_
  refine aw_i2f rfl (by decide +kernel) ?_
  refine aw_e rfl rfl rfl ?_
  refine aw_e rfl rfl rfl ?_
  refine aw_i1t rfl (by decide +kernel) ?_
  refine aw_e rfl rfl rfl ?_
  refine aw_e rfl rfl rfl ?_
  refine aw_e rfl rfl rfl ?_
  refine aw_e rfl rfl rfl ?_
  refine aw_e rfl rfl rfl ?_
  refine aw_e rfl rfl rfl ?_
  refine aw_e rfl rfl rfl ?_
  refine aw_e rfl rfl rfl ?_
  refine aw_e rfl rfl rfl ?_
  refine aw_e rfl rfl rfl ?_
  refine aw_e rfl rfl rfl ?_
  refine aw_e rfl rfl rfl ?_
  refine aw_e rfl rfl rfl ?_
  refine aw_e rfl rfl rfl ?_
  refine aw_e rfl rfl rfl ?_
  refine aw_e rfl rfl rfl ?_
  refine aw_e rfl rfl rfl ?_
  refine aw_e rfl rfl rfl ?_
  refine aw_e rfl rfl rfl ?_
  refine aw_i2f rfl (by decide +kernel) ?_
  refine aw_e rfl rfl rfl ?_
  refine aw_e rfl rfl rfl ?_
  refine aw_i1t rfl (by decide +kernel) ?_
  refine aw_e rfl rfl rfl ?_
  refine aw_e rfl rfl rfl ?_
  refine aw_e rfl rfl rfl ?_
  refine aw_e rfl rfl rfl ?_
  refine aw_e rfl rfl rfl ?_
  refine aw_e rfl rfl rfl ?_
  refine aw_e rfl rfl rfl ?_
  refine aw_e rfl rfl rfl ?_
  refine aw_e rfl rfl rfl ?_
  refine aw_e rfl rfl rfl ?_
  refine aw_e rfl rfl rfl ?_
  refine aw_e rfl rfl rfl ?_
  refine aw_e rfl rfl rfl ?_
  refine aw_e rfl rfl rfl ?_
  refine aw_e rfl rfl rfl ?_
  refine aw_e rfl rfl rfl ?_
  refine aw_e rfl rfl rfl ?_
  refine aw_e rfl rfl rfl ?_
  refine aw_e rfl rfl rfl ?_
  refine aw_i2f rfl (by decide +kernel) ?_
  refine aw_e rfl rfl rfl ?_
  refine aw_e rfl rfl rfl ?_
  refine aw_i1t rfl (by decide +kernel) ?_
  refine aw_e rfl rfl rfl ?_
  refine aw_e rfl rfl rfl ?_
  refine aw_e rfl rfl rfl ?_
  refine aw_e rfl rfl rfl ?_
  refine aw_e rfl rfl rfl ?_
  refine aw_e rfl rfl rfl ?_
  refine aw_e rfl rfl rfl ?_
  refine aw_e rfl rfl rfl ?_
  refine aw_e rfl rfl rfl ?_
  refine aw_e rfl rfl rfl ?_
  refine aw_e rfl rfl rfl ?_
  refine aw_e rfl rfl rfl ?_
  refine aw_e rfl rfl rfl ?_
  refine aw_e rfl rfl rfl ?_
  refine aw_e rfl rfl rfl ?_
  refine aw_e rfl rfl rfl ?_
  refine aw_e rfl rfl rfl ?_
  refine aw_e rfl rfl rfl ?_
  refine aw_e rfl rfl rfl ?_
  refine aw_i2f rfl (by decide +kernel) ?_
  refine aw_e rfl rfl rfl ?_
  refine aw_e rfl rfl rfl ?_
  refine aw_i1t rfl (by decide +kernel) ?_
  refine aw_e rfl rfl rfl ?_
  refine aw_e rfl rfl rfl ?_
  refine aw_e rfl rfl rfl ?_
  refine aw_e rfl rfl rfl ?_
  refine aw_e rfl rfl rfl ?_
  refine aw_e rfl rfl rfl ?_
  refine aw_e rfl rfl rfl ?_
  refine aw_e rfl rfl rfl ?_
  refine aw_e rfl rfl rfl ?_
  refine aw_e rfl rfl rfl ?_
  refine aw_e rfl rfl rfl ?_
  refine aw_e rfl rfl rfl ?_
  refine aw_e rfl rfl rfl ?_
  refine aw_e rfl rfl rfl ?_
  refine aw_e rfl rfl rfl ?_
  refine aw_e rfl rfl rfl ?_
  refine aw_e rfl rfl rfl ?_
  refine aw_e rfl rfl rfl ?_
  refine aw_e rfl rfl rfl ?_
  refine aw_i2t rfl (by decide +kernel) ?_
  refine aw_rv rfl ?_
  refine aw_e rfl rfl rfl ?_
  refine aw_e rfl rfl rfl ?_
  refine aw_e rfl rfl rfl ?_
  refine aw_ci rfl rfl (by decide) rfl rfl ?_
  refine aw_e rfl rfl rfl ?_
  refine aw_e rfl rfl rfl ?_
  refine aw_e rfl rfl rfl ?_
  refine aw_e rfl rfl rfl ?_
  refine aw_e rfl rfl rfl ?_
  refine aw_i2f rfl (by decide +kernel) ?_
  refine aw_e rfl rfl rfl ?_
  refine aw_e rfl rfl rfl ?_
  refine aw_i1t rfl (by decide +kernel) ?_
  refine aw_e rfl rfl rfl ?_
  refine aw_e rfl rfl rfl ?_
  refine aw_e rfl rfl rfl ?_
  refine aw_e rfl rfl rfl ?_
  refine aw_e rfl rfl rfl ?_
  refine aw_e rfl rfl rfl ?_
  refine aw_e rfl rfl rfl ?_
  refine aw_e rfl rfl rfl ?_
  refine aw_e rfl rfl rfl ?_
  refine aw_e rfl rfl rfl ?_
  refine aw_e rfl rfl rfl ?_
  refine aw_e rfl rfl rfl ?_
  refine aw_e rfl rfl rfl ?_
  refine aw_e rfl rfl rfl ?_
  refine aw_e rfl rfl rfl ?_
  refine aw_e rfl rfl rfl ?_
  refine aw_e rfl rfl rfl ?_
  refine aw_e rfl rfl rfl ?_
  refine aw_e rfl rfl rfl ?_
  refine aw_i2f rfl (by decide +kernel) ?_
  refine aw_e rfl rfl rfl ?_
  refine aw_e rfl rfl rfl ?_
  refine aw_i1t rfl (by decide +kernel) ?_
  refine aw_e rfl rfl rfl ?_
  refine aw_e rfl rfl rfl ?_
  refine aw_e rfl rfl rfl ?_
  refine aw_e rfl rfl rfl ?_
  refine aw_e rfl rfl rfl ?_
  refine aw_e rfl rfl rfl ?_
  refine aw_e rfl rfl rfl ?_
  refine aw_e rfl rfl rfl ?_
  refine aw_e rfl rfl rfl ?_
  refine aw_e rfl rfl rfl ?_
  refine aw_e rfl rfl rfl ?_
  refine aw_e rfl rfl rfl ?_
  refine aw_e rfl rfl rfl ?_
  refine aw_e rfl rfl rfl ?_
  refine aw_e rfl rfl rfl ?_
  refine aw_e rfl rfl rfl ?_
  refine aw_e rfl rfl rfl ?_
  refine aw_e rfl rfl rfl ?_
  refine aw_e rfl rfl rfl ?_
  refine aw_i2f rfl (by decide +kernel) ?_
  refine aw_e rfl rfl rfl ?_
  refine aw_e rfl rfl rfl ?_
  refine aw_i1t rfl (by decide +kernel) ?_
  refine aw_e rfl rfl rfl ?_
  refine aw_e rfl rfl rfl ?_
  refine aw_e rfl rfl rfl ?_
  refine aw_e rfl rfl rfl ?_
  refine aw_e rfl rfl rfl ?_
  refine aw_e rfl rfl rfl ?_
  refine aw_e rfl rfl rfl ?_
  refine aw_e rfl rfl rfl ?_
  refine aw_e rfl rfl rfl ?_
  refine aw_e rfl rfl rfl ?_
  refine aw_e rfl rfl rfl ?_
  refine aw_e rfl rfl rfl ?_
  refine aw_e rfl rfl rfl ?_
  refine aw_e rfl rfl rfl ?_
  refine aw_e rfl rfl rfl ?_
  refine aw_e rfl rfl rfl ?_
  refine aw_e rfl rfl rfl ?_
  refine aw_e rfl rfl rfl ?_
  refine aw_e rfl rfl rfl ?_
  refine aw_i2f rfl (by decide +kernel) ?_
  refine aw_e rfl rfl rfl ?_
  refine aw_e rfl rfl rfl ?_
  refine aw_i1t rfl (by decide +kernel) ?_
  refine aw_e rfl rfl rfl ?_
  refine aw_e rfl rfl rfl ?_
  refine aw_e rfl rfl rfl ?_
  refine aw_e rfl rfl rfl ?_
  refine aw_e rfl rfl rfl ?_
  refine aw_e rfl rfl rfl ?_
  refine aw_e rfl rfl rfl ?_
  refine aw_e rfl rfl rfl ?_
  refine aw_e rfl rfl rfl ?_
  refine aw_e rfl rfl rfl ?_
  refine aw_e rfl rfl rfl ?_
  refine aw_e rfl rfl rfl ?_
  refine aw_e rfl rfl rfl ?_
  refine aw_e rfl rfl rfl ?_
  refine aw_e rfl rfl rfl ?_
  refine aw_e rfl rfl rfl ?_
  refine aw_e rfl rfl rfl ?_
  refine aw_e rfl rfl rfl ?_
  refine aw_e rfl rfl rfl ?_
  refine aw_i2f rfl (by decide +kernel) ?_
  refine aw_e rfl rfl rfl ?_
  refine aw_e rfl rfl rfl ?_
  refine aw_i1t rfl (by decide +kernel) ?_
  refine aw_e rfl rfl rfl ?_
  refine aw_e rfl rfl rfl ?_
  refine aw_e rfl rfl rfl ?_
  refine aw_e rfl rfl rfl ?_
  refine aw_e rfl rfl rfl ?_
  refine aw_e rfl rfl rfl ?_
  refine aw_e rfl rfl rfl ?_
  refine aw_e rfl rfl rfl ?_
  refine aw_e rfl rfl rfl ?_
  refine aw_e rfl rfl rfl ?_
  refine aw_e rfl rfl rfl ?_
  refine aw_e rfl rfl rfl ?_
  refine aw_e rfl rfl rfl ?_
  refine aw_e rfl rfl rfl ?_
  refine aw_e rfl rfl rfl ?_
  refine aw_e rfl rfl rfl ?_
  refine aw_e rfl rfl rfl ?_
  refine aw_e rfl rfl rfl ?_
  refine aw_e rfl rfl rfl ?_
  refine aw_i2f rfl (by decide +kernel) ?_
  refine aw_e rfl rfl rfl ?_
  refine aw_e rfl rfl rfl ?_
  refine aw_i1t rfl (by decide +kernel) ?_
  refine aw_e rfl rfl rfl ?_
  refine aw_e rfl rfl rfl ?_
  refine aw_e rfl rfl rfl ?_
  refine aw_e rfl rfl rfl ?_
  refine aw_e rfl rfl rfl ?_
  refine aw_e rfl rfl rfl ?_
  refine aw_e rfl rfl rfl ?_
  refine aw_e rfl rfl rfl ?_
  refine aw_e rfl rfl rfl ?_
  refine aw_e rfl rfl rfl ?_
  refine aw_e rfl rfl rfl ?_
  refine aw_e rfl rfl rfl ?_
  refine aw_e rfl rfl rfl ?_
  refine aw_e rfl rfl rfl ?_
  refine aw_e rfl rfl rfl ?_
  refine aw_e rfl rfl rfl ?_
  refine aw_e rfl rfl rfl ?_
  refine aw_e rfl rfl rfl ?_
  refine aw_e rfl rfl rfl ?_
  refine aw_i2f rfl (by decide +kernel) ?_
  refine aw_e rfl rfl rfl ?_
  refine aw_e rfl rfl rfl ?_
  refine aw_i1t rfl (by decide +kernel) ?_
  refine aw_e rfl rfl rfl ?_
  refine aw_e rfl rfl rfl ?_
  refine aw_e rfl rfl rfl ?_
  refine aw_e rfl rfl rfl ?_
  refine aw_e rfl rfl rfl ?_
  refine aw_e rfl rfl rfl ?_
  refine aw_e rfl rfl rfl ?_
  refine aw_e rfl rfl rfl ?_
  refine aw_e rfl rfl rfl ?_
  refine aw_e rfl rfl rfl ?_
  refine aw_e rfl rfl rfl ?_
  refine aw_e rfl rfl rfl ?_
  refine aw_e rfl rfl rfl ?_
  refine aw_e rfl rfl rfl ?_
  refine aw_e rfl rfl rfl ?_
  refine aw_e rfl rfl rfl ?_
  refine aw_e rfl rfl rfl ?_
  refine aw_e rfl rfl rfl ?_
  refine aw_e rfl rfl rfl ?_
  refine aw_i2f rfl (by decide +kernel) ?_
  refine aw_e rfl rfl rfl ?_
  refine aw_e rfl rfl rfl ?_
  refine aw_i1t rfl (by decide +kernel) ?_
  refine aw_e rfl rfl rfl ?_
  refine aw_e rfl rfl rfl ?_
  refine aw_e rfl rfl rfl ?_
  refine aw_e rfl rfl rfl ?_
  refine aw_e rfl rfl rfl ?_
  refine aw_e rfl rfl rfl ?_
  refine aw_e rfl rfl rfl ?_
  refine aw_e rfl rfl rfl ?_
  refine aw_e rfl rfl rfl ?_
  refine aw_e rfl rfl rfl ?_
  refine aw_e rfl rfl rfl ?_
  refine aw_e rfl rfl rfl ?_
  refine aw_e rfl rfl rfl ?_
  refine aw_e rfl rfl rfl ?_
  refine aw_e rfl rfl rfl ?_
  refine aw_e rfl rfl rfl ?_
  refine aw_e rfl rfl rfl ?_
  refine aw_e rfl rfl rfl ?_
  refine aw_e rfl rfl rfl ?_
  refine aw_i2t rfl (by decide +kernel) ?_
  refine aw_rv rfl ?_
  refine aw_e rfl rfl rfl ?_
  refine aw_e rfl rfl rfl ?_
  refine aw_e rfl rfl rfl ?_
  refine aw_ci rfl rfl (by decide) rfl rfl ?_
  refine aw_e rfl rfl rfl ?_
  refine aw_e rfl rfl rfl ?_
  refine aw_e rfl rfl rfl ?_
  refine aw_e rfl rfl rfl ?_
  refine aw_e rfl rfl rfl ?_
  refine aw_i2f rfl (by decide +kernel) ?_
  refine aw_e rfl rfl rfl ?_
  refine aw_e rfl rfl rfl ?_
  refine aw_i1t rfl (by decide +kernel) ?_
  refine aw_e rfl rfl rfl ?_
  refine aw_e rfl rfl rfl ?_
  refine aw_e rfl rfl rfl ?_
  refine aw_e rfl rfl rfl ?_
  refine aw_e rfl rfl rfl ?_
  refine aw_e rfl rfl rfl ?_
  refine aw_e rfl rfl rfl ?_
  refine aw_e rfl rfl rfl ?_
  refine aw_e rfl rfl rfl ?_
  refine aw_e rfl rfl rfl ?_
  refine aw_e rfl rfl rfl ?_
  refine aw_e rfl rfl rfl ?_
  refine aw_e rfl rfl rfl ?_
  refine aw_e rfl rfl rfl ?_
  refine aw_e rfl rfl rfl ?_
  refine aw_e rfl rfl rfl ?_
  refine aw_e rfl rfl rfl ?_
  refine aw_e rfl rfl rfl ?_
  refine aw_e rfl rfl rfl ?_
  refine aw_i2f rfl (by decide +kernel) ?_
  refine aw_e rfl rfl rfl ?_
  refine aw_e rfl rfl rfl ?_
  refine aw_i1t rfl (by decide +kernel) ?_
  refine aw_e rfl rfl rfl ?_
  refine aw_e rfl rfl rfl ?_
  refine aw_e rfl rfl rfl ?_
  refine aw_e rfl rfl rfl ?_
  refine aw_e rfl rfl rfl ?_
  refine aw_e rfl rfl rfl ?_
  refine aw_e rfl rfl rfl ?_
  refine aw_e rfl rfl rfl ?_
  refine aw_e rfl rfl rfl ?_
  refine aw_e rfl rfl rfl ?_
  refine aw_e rfl rfl rfl ?_
  refine aw_e rfl rfl rfl ?_
  refine aw_e rfl rfl rfl ?_
  refine aw_e rfl rfl rfl ?_
  refine aw_e rfl rfl rfl ?_
  refine aw_e rfl rfl rfl ?_
  refine aw_e rfl rfl rfl ?_
  refine aw_e rfl rfl rfl ?_
  refine aw_e rfl rfl rfl ?_
  refine aw_i2f rfl (by decide +kernel) ?_
  refine aw_e rfl rfl rfl ?_
  refine aw_e rfl rfl rfl ?_
  refine aw_i1t rfl (by decide +kernel) ?_
  refine aw_e rfl rfl rfl ?_
  refine aw_e rfl rfl rfl ?_
  refine aw_e rfl rfl rfl ?_
  refine aw_e rfl rfl rfl ?_
  refine aw_e rfl rfl rfl ?_
  refine aw_e rfl rfl rfl ?_
  refine aw_e rfl rfl rfl ?_
  refine aw_e rfl rfl rfl ?_
  refine aw_e rfl rfl rfl ?_
  refine aw_e rfl rfl rfl ?_
  refine aw_e rfl rfl rfl ?_
  refine aw_e rfl rfl rfl ?_
  refine aw_e rfl rfl rfl ?_
  refine aw_e rfl rfl rfl ?_
  refine aw_e rfl rfl rfl ?_
  refine aw_e rfl rfl rfl ?_
  refine aw_e rfl rfl rfl ?_
  refine aw_e rfl rfl rfl ?_
  refine aw_e rfl rfl rfl ?_
  refine aw_i2f rfl (by decide +kernel) ?_
  refine aw_e rfl rfl rfl ?_
  refine aw_e rfl rfl rfl ?_
  refine aw_i1t rfl (by decide +kernel) ?_
  refine aw_e rfl rfl rfl ?_
  refine aw_e rfl rfl rfl ?_
  refine aw_e rfl rfl rfl ?_
  refine aw_e rfl rfl rfl ?_
  refine aw_e rfl rfl rfl ?_
  refine aw_e rfl rfl rfl ?_
  refine aw_e rfl rfl rfl ?_
  refine aw_e rfl rfl rfl ?_
  refine aw_e rfl rfl rfl ?_
  refine aw_e rfl rfl rfl ?_
  refine aw_e rfl rfl rfl ?_
  refine aw_e rfl rfl rfl ?_
  refine aw_e rfl rfl rfl ?_
  refine aw_e rfl rfl rfl ?_
  refine aw_e rfl rfl rfl ?_
  refine aw_e rfl rfl rfl ?_
  refine aw_e rfl rfl rfl ?_
  refine aw_e rfl rfl rfl ?_
  refine aw_e rfl rfl rfl ?_
  refine aw_i2f rfl (by decide +kernel) ?_
  refine aw_e rfl rfl rfl ?_
  refine aw_e rfl rfl rfl ?_
  refine aw_i1t rfl (by decide +kernel) ?_
  refine aw_e rfl rfl rfl ?_
  refine aw_e rfl rfl rfl ?_
  refine aw_e rfl rfl rfl ?_
  refine aw_e rfl rfl rfl ?_
  refine aw_e rfl rfl rfl ?_
  refine aw_e rfl rfl rfl ?_
  refine aw_e rfl rfl rfl ?_
  refine aw_e rfl rfl rfl ?_
  refine aw_e rfl rfl rfl ?_
  refine aw_e rfl rfl rfl ?_
  refine aw_e rfl rfl rfl ?_
  refine aw_e rfl rfl rfl ?_
  refine aw_e rfl rfl rfl ?_
  refine aw_e rfl rfl rfl ?_
  refine aw_e rfl rfl rfl ?_
  refine aw_e rfl rfl rfl ?_
  refine aw_e rfl rfl rfl ?_
  refine aw_e rfl rfl rfl ?_
  refine aw_e rfl rfl rfl ?_
  refine aw_i2f rfl (by decide +kernel) ?_
  refine aw_e rfl rfl rfl ?_
  refine aw_e rfl rfl rfl ?_
  refine aw_i1t rfl (by decide +kernel) ?_
  refine aw_e rfl rfl rfl ?_
  refine aw_e rfl rfl rfl ?_
  refine aw_e rfl rfl rfl ?_
  refine aw_e rfl rfl rfl ?_
  refine aw_e rfl rfl rfl ?_
  refine aw_e rfl rfl rfl ?_
  refine aw_e rfl rfl rfl ?_
  refine aw_e rfl rfl rfl ?_
  refine aw_e rfl rfl rfl ?_
  refine aw_e rfl rfl rfl ?_
  refine aw_e rfl rfl rfl ?_
  refine aw_e rfl rfl rfl ?_
  refine aw_e rfl rfl rfl ?_
  refine aw_e rfl rfl rfl ?_
  refine aw_e rfl rfl rfl ?_
  refine aw_e rfl rfl rfl ?_
  refine aw_e rfl rfl rfl ?_
  refine aw_e rfl rfl rfl ?_
  refine aw_e rfl rfl rfl ?_
  refine aw_i2f rfl (by decide +kernel) ?_
  refine aw_e rfl rfl rfl ?_
  refine aw_e rfl rfl rfl ?_
  refine aw_i1t rfl (by decide +kernel) ?_
  refine aw_e rfl rfl rfl ?_
  refine aw_e rfl rfl rfl ?_
  refine aw_e rfl rfl rfl ?_
  refine aw_e rfl rfl rfl ?_
  refine aw_e rfl rfl rfl ?_
  refine aw_e rfl rfl rfl ?_
  refine aw_e rfl rfl rfl ?_
  refine aw_e rfl rfl rfl ?_
  refine aw_e rfl rfl rfl ?_
  refine aw_e rfl rfl rfl ?_
  refine aw_e rfl rfl rfl ?_
  refine aw_e rfl rfl rfl ?_
  refine aw_e rfl rfl rfl ?_
  refine aw_e rfl rfl rfl ?_
  refine aw_e rfl rfl rfl ?_
  refine aw_e rfl rfl rfl ?_
  refine aw_e rfl rfl rfl ?_
  refine aw_e rfl rfl rfl ?_
  refine aw_e rfl rfl rfl ?_
  refine aw_i2f rfl (by decide +kernel) ?_
  refine aw_e rfl rfl rfl ?_
  refine aw_e rfl rfl rfl ?_
  refine aw_i1t rfl (by decide +kernel) ?_
  refine aw_e rfl rfl rfl ?_
  refine aw_e rfl rfl rfl ?_
  refine aw_e rfl rfl rfl ?_
  refine aw_e rfl rfl rfl ?_
  refine aw_e rfl rfl rfl ?_
  refine aw_e rfl rfl rfl ?_
  refine aw_e rfl rfl rfl ?_
  refine aw_e rfl rfl rfl ?_
  refine aw_e rfl rfl rfl ?_
  refine aw_e rfl rfl rfl ?_
  refine aw_e rfl rfl rfl ?_
  refine aw_e rfl rfl rfl ?_
  refine aw_e rfl rfl rfl ?_
  refine aw_e rfl rfl rfl ?_
  refine aw_e rfl rfl rfl ?_
  refine aw_e rfl rfl rfl ?_
  refine aw_e rfl rfl rfl ?_
  refine aw_e rfl rfl rfl ?_
  refine aw_e rfl rfl rfl ?_
  refine aw_i2t rfl (by decide +kernel) ?_
  refine aw_rv rfl ?_
  refine aw_e rfl rfl rfl ?_
  refine aw_e rfl rfl rfl ?_
  refine aw_e rfl rfl rfl ?_
  refine aw_ci rfl rfl (by decide) rfl rfl ?_
  refine aw_e rfl rfl rfl ?_
  refine aw_e rfl rfl rfl ?_
  refine aw_e rfl rfl rfl ?_
  refine aw_e rfl rfl rfl ?_
  refine aw_e rfl rfl rfl ?_
  refine aw_i2f rfl (by decide +kernel) ?_
  refine aw_e rfl rfl rfl ?_
  refine aw_e rfl rfl rfl ?_
  refine aw_i1t rfl (by decide +kernel) ?_
  refine aw_e rfl rfl rfl ?_
  refine aw_e rfl rfl rfl ?_
  refine aw_e rfl rfl rfl ?_
  refine aw_e rfl rfl rfl ?_
  refine aw_e rfl rfl rfl ?_
  refine aw_e rfl rfl rfl ?_
  refine aw_e rfl rfl rfl ?_
  refine aw_e rfl rfl rfl ?_
  refine aw_e rfl rfl rfl ?_
  refine aw_e rfl rfl rfl ?_
  refine aw_e rfl rfl rfl ?_
  refine aw_e rfl rfl rfl ?_
  refine aw_e rfl rfl rfl ?_
  refine aw_e rfl rfl rfl ?_
  refine aw_e rfl rfl rfl ?_
  refine aw_e rfl rfl rfl ?_
  refine aw_e rfl rfl rfl ?_
  refine aw_e rfl rfl rfl ?_
  refine aw_e rfl rfl rfl ?_
  refine aw_i2f rfl (by decide +kernel) ?_
  refine aw_e rfl rfl rfl ?_
  refine aw_e rfl rfl rfl ?_
  refine aw_i1t rfl (by decide +kernel) ?_
  refine aw_e rfl rfl rfl ?_
  refine aw_e rfl rfl rfl ?_
  refine aw_e rfl rfl rfl ?_
  refine aw_e rfl rfl rfl ?_
  refine aw_e rfl rfl rfl ?_
  refine aw_e rfl rfl rfl ?_
  refine aw_e rfl rfl rfl ?_
  refine aw_e rfl rfl rfl ?_
  refine aw_e rfl rfl rfl ?_
  refine aw_e rfl rfl rfl ?_
  refine aw_e rfl rfl rfl ?_
  refine aw_e rfl rfl rfl ?_
  refine aw_e rfl rfl rfl ?_
  refine aw_e rfl rfl rfl ?_
  refine aw_e rfl rfl rfl ?_
  refine aw_e rfl rfl rfl ?_
  refine aw_e rfl rfl rfl ?_
  refine aw_e rfl rfl rfl ?_
  refine aw_e rfl rfl rfl ?_
  refine aw_i2f rfl (by decide +kernel) ?_
  refine aw_e rfl rfl rfl ?_
  refine aw_e rfl rfl rfl ?_
  refine aw_i1t rfl (by decide +kernel) ?_
  refine aw_e rfl rfl rfl ?_
  refine aw_e rfl rfl rfl ?_
  refine aw_e rfl rfl rfl ?_
  refine aw_e rfl rfl rfl ?_
  refine aw_e rfl rfl rfl ?_
  refine aw_e rfl rfl rfl ?_
  refine aw_e rfl rfl rfl ?_
  refine aw_e rfl rfl rfl ?_
  refine aw_e rfl rfl rfl ?_
  refine aw_e rfl rfl rfl ?_
  refine aw_e rfl rfl rfl ?_
  refine aw_e rfl rfl rfl ?_
  refine aw_e rfl rfl rfl ?_
  refine aw_e rfl rfl rfl ?_
  refine aw_e rfl rfl rfl ?_
  refine aw_e rfl rfl rfl ?_
  refine aw_e rfl rfl rfl ?_
  refine aw_e rfl rfl rfl ?_
  refine aw_e rfl rfl rfl ?_
  refine aw_i2f rfl (by decide +kernel) ?_
  refine aw_e rfl rfl rfl ?_
  refine aw_e rfl rfl rfl ?_
  refine aw_i1t rfl (by decide +kernel) ?_
  refine aw_e rfl rfl rfl ?_
  refine aw_e rfl rfl rfl ?_
  refine aw_e rfl rfl rfl ?_
  refine aw_e rfl rfl rfl ?_
  refine aw_e rfl rfl rfl ?_
  refine aw_e rfl rfl rfl ?_
  refine aw_e rfl rfl rfl ?_
  refine aw_e rfl rfl rfl ?_
  refine aw_e rfl rfl rfl ?_
  refine aw_e rfl rfl rfl ?_
  refine aw_e rfl rfl rfl ?_
  refine aw_e rfl rfl rfl ?_
  refine aw_e rfl rfl rfl ?_
  refine aw_e rfl rfl rfl ?_
  refine aw_e rfl rfl rfl ?_
  refine aw_e rfl rfl rfl ?_
  refine aw_e rfl rfl rfl ?_
  refine aw_e rfl rfl rfl ?_
  refine aw_e rfl rfl rfl ?_
  refine aw_i2f rfl (by decide +kernel) ?_
  refine aw_e rfl rfl rfl ?_
  refine aw_e rfl rfl rfl ?_
  refine aw_i1t rfl (by decide +kernel) ?_
  refine aw_e rfl rfl rfl ?_
  refine aw_e rfl rfl rfl ?_
  refine aw_e rfl rfl rfl ?_
  refine aw_e rfl rfl rfl ?_
  refine aw_e rfl rfl rfl ?_
  refine aw_e rfl rfl rfl ?_
  refine aw_e rfl rfl rfl ?_
  refine aw_e rfl rfl rfl ?_
  refine aw_e rfl rfl rfl ?_
  refine aw_e rfl rfl rfl ?_
  refine aw_e rfl rfl rfl ?_
  refine aw_e rfl rfl rfl ?_
  refine aw_e rfl rfl rfl ?_
  refine aw_e rfl rfl rfl ?_
  refine aw_e rfl rfl rfl ?_
  refine aw_e rfl rfl rfl ?_
  refine aw_e rfl rfl rfl ?_
  refine aw_e rfl rfl rfl ?_
  refine aw_e rfl rfl rfl ?_
  refine aw_i2f rfl (by decide +kernel) ?_
  refine aw_e rfl rfl rfl ?_
  refine aw_e rfl rfl rfl ?_
  refine aw_i1t rfl (by decide +kernel) ?_
  refine aw_e rfl rfl rfl ?_
  refine aw_e rfl rfl rfl ?_
  refine aw_e rfl rfl rfl ?_
  refine aw_e rfl rfl rfl ?_
  refine aw_e rfl rfl rfl ?_
  refine aw_e rfl rfl rfl ?_
  refine aw_e rfl rfl rfl ?_
  refine aw_e rfl rfl rfl ?_
  refine aw_e rfl rfl rfl ?_
  refine aw_e rfl rfl rfl ?_
  refine aw_e rfl rfl rfl ?_
  refine aw_e rfl rfl rfl ?_
  refine aw_e rfl rfl rfl ?_
  refine aw_e rfl rfl rfl ?_
  refine aw_e rfl rfl rfl ?_
  refine aw_e rfl rfl rfl ?_
  refine aw_e rfl rfl rfl ?_
  refine aw_e rfl rfl rfl ?_
  refine aw_e rfl rfl rfl ?_
  refine aw_i2f rfl (by decide +kernel) ?_
  refine aw_e rfl rfl rfl ?_
  refine aw_e rfl rfl rfl ?_
  refine aw_i1t rfl (by decide +kernel) ?_
  refine aw_e rfl rfl rfl ?_
  refine aw_e rfl rfl rfl ?_
  refine aw_e rfl rfl rfl ?_
  refine aw_e rfl rfl rfl ?_
  refine aw_e rfl rfl rfl ?_
  refine aw_e rfl rfl rfl ?_
  refine aw_e rfl rfl rfl ?_
  refine aw_e rfl rfl rfl ?_
  refine aw_e rfl rfl rfl ?_
  refine aw_e rfl rfl rfl ?_
  refine aw_e rfl rfl rfl ?_
  refine aw_e rfl rfl rfl ?_
  refine aw_e rfl rfl rfl ?_
  refine aw_e rfl rfl rfl ?_
  refine aw_e rfl rfl rfl ?_
  refine aw_e rfl rfl rfl ?_
  refine aw_e rfl rfl rfl ?_
  refine aw_e rfl rfl rfl ?_
  refine aw_e rfl rfl rfl ?_
  refine aw_i2f rfl (by decide +kernel) ?_
  refine aw_e rfl rfl rfl ?_
  refine aw_e rfl rfl rfl ?_
  refine aw_i1t rfl (by decide +kernel) ?_
  refine aw_e rfl rfl rfl ?_
  refine aw_e rfl rfl rfl ?_
  refine aw_e rfl rfl rfl ?_
  refine aw_e rfl rfl rfl ?_
  refine aw_e rfl rfl rfl ?_
  refine aw_e rfl rfl rfl ?_
  refine aw_e rfl rfl rfl ?_
  refine aw_e rfl rfl rfl ?_
  refine aw_e rfl rfl rfl ?_
  refine aw_e rfl rfl rfl ?_
  refine aw_e rfl rfl rfl ?_
  refine aw_e rfl rfl rfl ?_
  refine aw_e rfl rfl rfl ?_
  refine aw_e rfl rfl rfl ?_
  refine aw_e rfl rfl rfl ?_
  refine aw_e rfl rfl rfl ?_
  refine aw_e rfl rfl rfl ?_
  refine aw_e rfl rfl rfl ?_
  refine aw_e rfl rfl rfl ?_
  refine aw_i2t rfl (by decide +kernel) ?_
  refine aw_rv rfl ?_
  refine aw_e rfl rfl rfl ?_
  refine aw_e rfl rfl rfl ?_
  refine aw_e rfl rfl rfl ?_
  refine aw_e rfl rfl rfl ?_
  refine aw_ci rfl rfl (by decide) rfl rfl ?_
  refine aw_e rfl rfl rfl ?_
  refine aw_e rfl rfl rfl ?_
  refine aw_i1t rfl (by decide +kernel) ?_
  refine aw_e rfl rfl rfl ?_
  refine aw_e rfl rfl rfl ?_
  refine aw_e rfl rfl rfl ?_
  refine aw_e rfl rfl rfl ?_
  refine aw_e rfl rfl rfl ?_
  refine aw_e rfl rfl rfl ?_
  refine aw_e rfl rfl rfl ?_
  refine aw_e rfl rfl rfl ?_
  refine aw_i1t rfl (by decide +kernel) ?_
  refine aw_e rfl rfl rfl ?_
  refine aw_e rfl rfl rfl ?_
  refine aw_e rfl rfl rfl ?_
  refine aw_e rfl rfl rfl ?_
  refine aw_e rfl rfl rfl ?_
  refine aw_e rfl rfl rfl ?_
  refine aw_e rfl rfl rfl ?_
  refine aw_ri rfl (by first | exact Or.inl rfl | exact Or.inr (by decide +kernel)) ?_
  refine aw_e rfl rfl rfl ?_
  refine aw_e rfl rfl rfl ?_
  refine aw_e rfl rfl rfl ?_
  refine aw_e rfl rfl rfl ?_
  refine aw_e rfl rfl rfl ?_
  refine aw_ci rfl rfl (by decide) rfl rfl ?_
  refine aw_e rfl rfl rfl ?_
  refine aw_e rfl rfl rfl ?_
  refine aw_i1t rfl (by decide +kernel) ?_
  refine aw_e rfl rfl rfl ?_
  refine aw_e rfl rfl rfl ?_
  refine aw_e rfl rfl rfl ?_
  refine aw_e rfl rfl rfl ?_
  refine aw_e rfl rfl rfl ?_
  refine aw_e rfl rfl rfl ?_
  refine aw_e rfl rfl rfl ?_
  refine aw_e rfl rfl rfl ?_
  refine aw_i1t rfl (by decide +kernel) ?_
  refine aw_e rfl rfl rfl ?_
  refine aw_e rfl rfl rfl ?_
  refine aw_e rfl rfl rfl ?_
  refine aw_e rfl rfl rfl ?_
  refine aw_e rfl rfl rfl ?_
  refine aw_e rfl rfl rfl ?_
  refine aw_e rfl rfl rfl ?_
  refine aw_ri rfl (by first | exact Or.inl rfl | exact Or.inr (by decide +kernel)) ?_
  refine aw_e rfl rfl rfl ?_
  refine aw_e rfl rfl rfl ?_
  refine aw_e rfl rfl rfl ?_
  refine aw_e rfl rfl rfl ?_
  refine aw_e rfl rfl rfl ?_
  refine aw_ci rfl rfl (by decide) rfl rfl ?_
  refine aw_e rfl rfl rfl ?_
  refine aw_e rfl rfl rfl ?_
  refine aw_i1t rfl (by decide +kernel) ?_
  refine aw_e rfl rfl rfl ?_
  refine aw_e rfl rfl rfl ?_
  refine aw_e rfl rfl rfl ?_
  refine aw_e rfl rfl rfl ?_
  refine aw_e rfl rfl rfl ?_
  refine aw_e rfl rfl rfl ?_
  refine aw_e rfl rfl rfl ?_
  refine aw_e rfl rfl rfl ?_
  refine aw_i1t rfl (by decide +kernel) ?_
  refine aw_e rfl rfl rfl ?_
  refine aw_e rfl rfl rfl ?_
  refine aw_e rfl rfl rfl ?_
  refine aw_e rfl rfl rfl ?_
  refine aw_e rfl rfl rfl ?_
  refine aw_e rfl rfl rfl ?_
  refine aw_e rfl rfl rfl ?_
  refine aw_ri rfl (by first | exact Or.inl rfl | exact Or.inr (by decide +kernel)) ?_
  refine aw_e rfl rfl rfl ?_
  refine aw_rv rfl ?_
  refine aw_e rfl rfl rfl ?_
  refine aw_e rfl rfl rfl ?_
  refine aw_ci rfl rfl (by decide) rfl rfl ?_
  refine aw_e rfl rfl rfl ?_
  refine aw_e rfl rfl rfl ?_
  refine aw_e rfl rfl rfl ?_
  refine aw_e rfl rfl rfl ?_
  refine aw_e rfl rfl rfl ?_
  refine aw_e rfl rfl rfl ?_
  refine aw_e rfl rfl rfl ?_
  refine aw_e rfl rfl rfl ?_
  refine aw_e rfl rfl rfl ?_
  refine aw_e rfl rfl rfl ?_
  refine aw_e rfl rfl rfl ?_
  refine aw_e rfl rfl rfl ?_
  refine aw_e rfl rfl rfl ?_
  refine aw_e rfl rfl rfl ?_
  refine aw_e rfl rfl rfl ?_
  refine aw_e rfl rfl rfl ?_
  refine aw_i2t rfl (by decide +kernel) ?_
  refine aw_rv rfl ?_
  refine aw_e rfl rfl rfl ?_
  refine aw_ci rfl rfl (by decide) rfl rfl ?_
  refine aw_e rfl rfl rfl ?_
  refine aw_ci rfl rfl (by decide) rfl rfl ?_
  refine aw_e rfl rfl rfl ?_
  refine aw_e rfl rfl rfl ?_
  refine aw_e rfl rfl rfl ?_
  refine aw_e rfl rfl rfl ?_
  refine aw_e rfl rfl rfl ?_
  refine aw_e rfl rfl rfl ?_
  refine aw_e rfl rfl rfl ?_
  refine aw_i2t rfl (by decide +kernel) ?_
  refine aw_e rfl rfl rfl ?_
  refine aw_ri rfl (by first | exact Or.inl rfl | exact Or.inr (by decide +kernel)) ?_
  refine aw_i1f rfl (by decide +kernel) ?_
  refine aw_e rfl rfl rfl ?_
  refine aw_ci rfl rfl (by decide) rfl rfl ?_
  refine aw_e rfl rfl rfl ?_
  refine aw_ci rfl rfl (by decide) rfl rfl ?_
  refine aw_e rfl rfl rfl ?_
  refine aw_e rfl rfl rfl ?_
  refine aw_e rfl rfl rfl ?_
  refine aw_e rfl rfl rfl ?_
  refine aw_e rfl rfl rfl ?_
  refine aw_e rfl rfl rfl ?_
  refine aw_e rfl rfl rfl ?_
  refine aw_e rfl rfl rfl ?_
  refine aw_e rfl rfl rfl ?_
  refine aw_e rfl rfl rfl ?_
  refine aw_e rfl rfl rfl ?_
  refine aw_e rfl rfl rfl ?_
  refine aw_e rfl rfl rfl ?_
  refine aw_e rfl rfl rfl ?_
  refine aw_e rfl rfl rfl ?_
  refine aw_e rfl rfl rfl ?_
  refine aw_e rfl rfl rfl ?_
  refine aw_e rfl rfl rfl ?_
  refine aw_e rfl rfl rfl ?_
  refine aw_e rfl rfl rfl ?_
  refine aw_e rfl rfl rfl ?_
  refine aw_e rfl rfl rfl ?_
  refine aw_e rfl rfl rfl ?_
  refine aw_e rfl rfl rfl ?_
  refine aw_e rfl rfl rfl ?_
  refine aw_e rfl rfl rfl ?_
  refine aw_e rfl rfl rfl ?_
  refine aw_e rfl rfl rfl ?_
  refine aw_e rfl rfl rfl ?_
  refine aw_e rfl rfl rfl ?_
  refine aw_e rfl rfl rfl ?_
  refine aw_e rfl rfl rfl ?_
  refine aw_i2f rfl (by decide +kernel) ?_
  refine aw_e rfl rfl rfl ?_
  refine aw_e rfl rfl rfl ?_
  refine aw_e rfl rfl rfl ?_
  refine aw_e rfl rfl rfl ?_
  refine aw_e rfl rfl rfl ?_
  refine aw_e rfl rfl rfl ?_
  refine aw_e rfl rfl rfl ?_
  refine aw_e rfl rfl rfl ?_
  refine aw_e rfl rfl rfl ?_
  refine aw_i2f rfl (by decide +kernel) ?_
  refine aw_e rfl rfl rfl ?_
  refine aw_e rfl rfl rfl ?_
  refine aw_e rfl rfl rfl ?_
  refine aw_e rfl rfl rfl ?_
  refine aw_e rfl rfl rfl ?_
  refine aw_e rfl rfl rfl ?_
  refine aw_e rfl rfl rfl ?_
  refine aw_e rfl rfl rfl ?_
  refine aw_e rfl rfl rfl ?_
  refine aw_i2f rfl (by decide +kernel) ?_
  refine aw_e rfl rfl rfl ?_
  refine aw_e rfl rfl rfl ?_
  refine aw_e rfl rfl rfl ?_
  refine aw_e rfl rfl rfl ?_
  refine aw_e rfl rfl rfl ?_
  refine aw_e rfl rfl rfl ?_
  refine aw_e rfl rfl rfl ?_
  refine aw_e rfl rfl rfl ?_
  refine aw_e rfl rfl rfl ?_
  refine aw_i2t rfl (by decide +kernel) ?_
  refine aw_e rfl rfl rfl ?_
  refine aw_e rfl rfl rfl ?_
  refine aw_e rfl rfl rfl ?_
  refine aw_e rfl rfl rfl ?_
  refine aw_e rfl rfl rfl ?_
  refine aw_i2t rfl (by decide +kernel) ?_
  refine aw_rv rfl ?_
  refine aw_e rfl rfl rfl ?_
  refine aw_e rfl rfl rfl ?_
  refine aw_ri rfl (by first | exact Or.inl rfl | exact Or.inr (by decide +kernel)) ?_
  refine aw_e rfl rfl rfl ?_
  refine aw_ri rfl (by first | exact Or.inl rfl | exact Or.inr (by decide +kernel)) ?_
  refine aw_e rfl rfl rfl ?_
  refine aw_i2f rfl (q2r_gt_f (z := 0) (by decide +kernel) (by omega)) ?_
  refine aw_e rfl rfl rfl ?_
  refine aw_e rfl rfl rfl ?_
  refine aw_e rfl rfl rfl ?_
  refine aw_e rfl rfl rfl ?_
  refine aw_e rfl rfl rfl ?_
  refine aw_e rfl rfl rfl ?_
  refine aw_e rfl rfl rfl ?_
  refine aw_e rfl rfl rfl ?_
  refine aw_e rfl rfl rfl ?_
  refine aw_i2t rfl (by decide +kernel) ?_
  refine aw_e rfl rfl rfl ?_
  refine aw_e rfl rfl rfl ?_
  refine aw_e rfl rfl rfl ?_
  refine aw_ci rfl rfl (by decide) rfl rfl ?_
  refine aw_e rfl rfl rfl ?_
  refine aw_e rfl rfl rfl ?_
  refine aw_e rfl rfl rfl ?_
  refine aw_e rfl rfl rfl ?_
  refine aw_e rfl rfl rfl ?_
  refine aw_e rfl rfl rfl ?_
  refine aw_e rfl rfl rfl ?_
  refine aw_e rfl rfl rfl ?_
  refine aw_e rfl rfl rfl ?_
  refine aw_e rfl rfl rfl ?_
  refine aw_e rfl rfl rfl ?_
  refine aw_ci rfl rfl (by decide) rfl rfl ?_
  refine aw_e rfl rfl rfl ?_
  refine aw_e rfl rfl rfl ?_
  refine aw_e rfl rfl rfl ?_
  refine aw_e rfl rfl rfl ?_
  refine aw_e rfl rfl rfl ?_
  refine aw_i2f rfl (by decide +kernel) ?_
  refine aw_e rfl rfl rfl ?_
  refine aw_e rfl rfl rfl ?_
  refine aw_i1t rfl (by decide +kernel) ?_
  refine aw_e rfl rfl rfl ?_
  refine aw_e rfl rfl rfl ?_
  refine aw_e rfl rfl rfl ?_
  refine aw_e rfl rfl rfl ?_
  refine aw_e rfl rfl rfl ?_
  refine aw_e rfl rfl rfl ?_
  refine aw_e rfl rfl rfl ?_
  refine aw_e rfl rfl rfl ?_
  refine aw_e rfl rfl rfl ?_
  refine aw_e rfl rfl rfl ?_
  refine aw_e rfl rfl rfl ?_
  refine aw_e rfl rfl rfl ?_
  refine aw_e rfl rfl rfl ?_
  refine aw_e rfl rfl rfl ?_
  refine aw_e rfl rfl rfl ?_
  refine aw_e rfl rfl rfl ?_
  refine aw_e rfl rfl rfl ?_
  refine aw_e rfl rfl rfl ?_
  refine aw_e rfl rfl rfl ?_
  refine aw_i2f rfl (by decide +kernel) ?_
  refine aw_e rfl rfl rfl ?_
  refine aw_e rfl rfl rfl ?_
  refine aw_i1t rfl (by decide +kernel) ?_
  refine aw_e rfl rfl rfl ?_
  refine aw_e rfl rfl rfl ?_
  refine aw_e rfl rfl rfl ?_
  refine aw_e rfl rfl rfl ?_
  refine aw_e rfl rfl rfl ?_
  refine aw_e rfl rfl rfl ?_
  refine aw_e rfl rfl rfl ?_
  refine aw_e rfl rfl rfl ?_
  refine aw_e rfl rfl rfl ?_
  refine aw_e rfl rfl rfl ?_
  refine aw_e rfl rfl rfl ?_
  refine aw_e rfl rfl rfl ?_
  refine aw_e rfl rfl rfl ?_
  refine aw_e rfl rfl rfl ?_
  refine aw_e rfl rfl rfl ?_
  refine aw_e rfl rfl rfl ?_
  refine aw_e rfl rfl rfl ?_
  refine aw_e rfl rfl rfl ?_
  refine aw_e rfl rfl rfl ?_
  refine aw_i2f rfl (by decide +kernel) ?_
  refine aw_e rfl rfl rfl ?_
  refine aw_e rfl rfl rfl ?_
  refine aw_i1t rfl (by decide +kernel) ?_
  refine aw_e rfl rfl rfl ?_
  refine aw_e rfl rfl rfl ?_
  refine aw_e rfl rfl rfl ?_
  refine aw_e rfl rfl rfl ?_
  refine aw_e rfl rfl rfl ?_
  refine aw_e rfl rfl rfl ?_
  refine aw_e rfl rfl rfl ?_
  refine aw_e rfl rfl rfl ?_
  refine aw_e rfl rfl rfl ?_
  refine aw_e rfl rfl rfl ?_
  refine aw_e rfl rfl rfl ?_
  refine aw_e rfl rfl rfl ?_
  refine aw_e rfl rfl rfl ?_
  refine aw_e rfl rfl rfl ?_
  refine aw_e rfl rfl rfl ?_
  refine aw_e rfl rfl rfl ?_
  refine aw_e rfl rfl rfl ?_
  refine aw_e rfl rfl rfl ?_
  refine aw_e rfl rfl rfl ?_
  refine aw_i2f rfl (by decide +kernel) ?_
  refine aw_e rfl rfl rfl ?_
  refine aw_e rfl rfl rfl ?_
  refine aw_i1t rfl (by decide +kernel) ?_
  refine aw_e rfl rfl rfl ?_
  refine aw_e rfl rfl rfl ?_
  refine aw_e rfl rfl rfl ?_
  refine aw_e rfl rfl rfl ?_
  refine aw_e rfl rfl rfl ?_
  refine aw_e rfl rfl rfl ?_
  refine aw_e rfl rfl rfl ?_
  refine aw_e rfl rfl rfl ?_
  refine aw_e rfl rfl rfl ?_
  refine aw_e rfl rfl rfl ?_
  refine aw_e rfl rfl rfl ?_
  refine aw_e rfl rfl rfl ?_
  refine aw_e rfl rfl rfl ?_
  refine aw_e rfl rfl rfl ?_
  refine aw_e rfl rfl rfl ?_
  refine aw_e rfl rfl rfl ?_
  refine aw_e rfl rfl rfl ?_
  refine aw_e rfl rfl rfl ?_
  refine aw_e rfl rfl rfl ?_
  refine aw_i2f rfl (by decide +kernel) ?_
  refine aw_e rfl rfl rfl ?_
  refine aw_e rfl rfl rfl ?_
  refine aw_i1t rfl (by decide +kernel) ?_
  refine aw_e rfl rfl rfl ?_
  refine aw_e rfl rfl rfl ?_
  refine aw_e rfl rfl rfl ?_
  refine aw_e rfl rfl rfl ?_
  refine aw_e rfl rfl rfl ?_
  refine aw_e rfl rfl rfl ?_
  refine aw_e rfl rfl rfl ?_
  refine aw_e rfl rfl rfl ?_
  refine aw_e rfl rfl rfl ?_
  refine aw_e rfl rfl rfl ?_
  refine aw_e rfl rfl rfl ?_
  refine aw_e rfl rfl rfl ?_
  refine aw_e rfl rfl rfl ?_
  refine aw_e rfl rfl rfl ?_
  refine aw_e rfl rfl rfl ?_
  refine aw_e rfl rfl rfl ?_
  refine aw_e rfl rfl rfl ?_
  refine aw_e rfl rfl rfl ?_
  refine aw_e rfl rfl rfl ?_
  refine aw_i2t rfl (by decide +kernel) ?_
  refine aw_rv rfl ?_
  refine aw_e rfl rfl rfl ?_
  refine aw_e rfl rfl rfl ?_
  refine aw_e rfl rfl rfl ?_
  refine aw_ci rfl rfl (by decide) rfl rfl ?_
  refine aw_e rfl rfl rfl ?_
  refine aw_e rfl rfl rfl ?_
  refine aw_e rfl rfl rfl ?_
  refine aw_e rfl rfl rfl ?_
  refine aw_e rfl rfl rfl ?_
  refine aw_i2f rfl (by decide +kernel) ?_
  refine aw_e rfl rfl rfl ?_
  refine aw_e rfl rfl rfl ?_
  refine aw_i1t rfl (by decide +kernel) ?_
  refine aw_e rfl rfl rfl ?_
  refine aw_e rfl rfl rfl ?_
  refine aw_e rfl rfl rfl ?_
  refine aw_e rfl rfl rfl ?_
  refine aw_e rfl rfl rfl ?_
  refine aw_e rfl rfl rfl ?_
  refine aw_e rfl rfl rfl ?_
  refine aw_e rfl rfl rfl ?_
  refine aw_e rfl rfl rfl ?_
  refine aw_e rfl rfl rfl ?_
  refine aw_e rfl rfl rfl ?_
  refine aw_e rfl rfl rfl ?_
  refine aw_e rfl rfl rfl ?_
  refine aw_e rfl rfl rfl ?_
  refine aw_e rfl rfl rfl ?_
  refine aw_e rfl rfl rfl ?_
  refine aw_e rfl rfl rfl ?_
  refine aw_e rfl rfl rfl ?_
  refine aw_e rfl rfl rfl ?_
  refine aw_i2f rfl (by decide +kernel) ?_
  refine aw_e rfl rfl rfl ?_
  refine aw_e rfl rfl rfl ?_
  refine aw_i1t rfl (by decide +kernel) ?_
  refine aw_e rfl rfl rfl ?_
  refine aw_e rfl rfl rfl ?_
  refine aw_e rfl rfl rfl ?_
  refine aw_e rfl rfl rfl ?_
  refine aw_e rfl rfl rfl ?_
  refine aw_e rfl rfl rfl ?_
  refine aw_e rfl rfl rfl ?_
  refine aw_e rfl rfl rfl ?_
  refine aw_e rfl rfl rfl ?_
  refine aw_e rfl rfl rfl ?_
  refine aw_e rfl rfl rfl ?_
  refine aw_e rfl rfl rfl ?_
  refine aw_e rfl rfl rfl ?_
  refine aw_e rfl rfl rfl ?_
  refine aw_e rfl rfl rfl ?_
  refine aw_e rfl rfl rfl ?_
  refine aw_e rfl rfl rfl ?_
  refine aw_e rfl rfl rfl ?_
  refine aw_e rfl rfl rfl ?_
  refine aw_i2f rfl (by decide +kernel) ?_
  refine aw_e rfl rfl rfl ?_
  refine aw_e rfl rfl rfl ?_
  refine aw_i1t rfl (by decide +kernel) ?_
  refine aw_e rfl rfl rfl ?_
  refine aw_e rfl rfl rfl ?_
  refine aw_e rfl rfl rfl ?_
  refine aw_e rfl rfl rfl ?_
  refine aw_e rfl rfl rfl ?_
  refine aw_e rfl rfl rfl ?_
  refine aw_e rfl rfl rfl ?_
  refine aw_e rfl rfl rfl ?_
  refine aw_e rfl rfl rfl ?_
  refine aw_e rfl rfl rfl ?_
  refine aw_e rfl rfl rfl ?_
  refine aw_e rfl rfl rfl ?_
  refine aw_e rfl rfl rfl ?_
  refine aw_e rfl rfl rfl ?_
  refine aw_e rfl rfl rfl ?_
  refine aw_e rfl rfl rfl ?_
  refine aw_e rfl rfl rfl ?_
  refine aw_e rfl rfl rfl ?_
  refine aw_e rfl rfl rfl ?_
  refine aw_i2f rfl (by decide +kernel) ?_
  refine aw_e rfl rfl rfl ?_
  refine aw_e rfl rfl rfl ?_
  refine aw_i1t rfl (by decide +kernel) ?_
  refine aw_e rfl rfl rfl ?_
  refine aw_e rfl rfl rfl ?_
  refine aw_e rfl rfl rfl ?_
  refine aw_e rfl rfl rfl ?_
  refine aw_e rfl rfl rfl ?_
  refine aw_e rfl rfl rfl ?_
  refine aw_e rfl rfl rfl ?_
  refine aw_e rfl rfl rfl ?_
  refine aw_e rfl rfl rfl ?_
  refine aw_e rfl rfl rfl ?_
  refine aw_e rfl rfl rfl ?_
  refine aw_e rfl rfl rfl ?_
  refine aw_e rfl rfl rfl ?_
  refine aw_e rfl rfl rfl ?_
  refine aw_e rfl rfl rfl ?_
  refine aw_e rfl rfl rfl ?_
  refine aw_e rfl rfl rfl ?_
  refine aw_e rfl rfl rfl ?_
  refine aw_e rfl rfl rfl ?_
  refine aw_i2f rfl (by decide +kernel) ?_
  refine aw_e rfl rfl rfl ?_
  refine aw_e rfl rfl rfl ?_
  refine aw_i1t rfl (by decide +kernel) ?_
  refine aw_e rfl rfl rfl ?_
  refine aw_e rfl rfl rfl ?_
  refine aw_e rfl rfl rfl ?_
  refine aw_e rfl rfl rfl ?_
  refine aw_e rfl rfl rfl ?_
  refine aw_e rfl rfl rfl ?_
  refine aw_e rfl rfl rfl ?_
  refine aw_e rfl rfl rfl ?_
  refine aw_e rfl rfl rfl ?_
  refine aw_e rfl rfl rfl ?_
  refine aw_e rfl rfl rfl ?_
  refine aw_e rfl rfl rfl ?_
  refine aw_e rfl rfl rfl ?_
  refine aw_e rfl rfl rfl ?_
  refine aw_e rfl rfl rfl ?_
  refine aw_e rfl rfl rfl ?_
  refine aw_e rfl rfl rfl ?_
  refine aw_e rfl rfl rfl ?_
  refine aw_e rfl rfl rfl ?_
  refine aw_i2f rfl (by decide +kernel) ?_
  refine aw_e rfl rfl rfl ?_
  refine aw_e rfl rfl rfl ?_
  refine aw_i1t rfl (by decide +kernel) ?_
  refine aw_e rfl rfl rfl ?_
  refine aw_e rfl rfl rfl ?_
  refine aw_e rfl rfl rfl ?_
  refine aw_e rfl rfl rfl ?_
  refine aw_e rfl rfl rfl ?_
  refine aw_e rfl rfl rfl ?_
  refine aw_e rfl rfl rfl ?_
  refine aw_e rfl rfl rfl ?_
  refine aw_e rfl rfl rfl ?_
  refine aw_e rfl rfl rfl ?_
  refine aw_e rfl rfl rfl ?_
  refine aw_e rfl rfl rfl ?_
  refine aw_e rfl rfl rfl ?_
  refine aw_e rfl rfl rfl ?_
  refine aw_e rfl rfl rfl ?_
  refine aw_e rfl rfl rfl ?_
  refine aw_e rfl rfl rfl ?_
  refine aw_e rfl rfl rfl ?_
  refine aw_e rfl rfl rfl ?_
  refine aw_i2f rfl (by decide +kernel) ?_
  refine aw_e rfl rfl rfl ?_
  refine aw_e rfl rfl rfl ?_
  refine aw_i1t rfl (by decide +kernel) ?_
  refine aw_e rfl rfl rfl ?_
  refine aw_e rfl rfl rfl ?_
  refine aw_e rfl rfl rfl ?_
  refine aw_e rfl rfl rfl ?_
  refine aw_e rfl rfl rfl ?_
  refine aw_e rfl rfl rfl ?_
  refine aw_e rfl rfl rfl ?_
  refine aw_e rfl rfl rfl ?_
  refine aw_e rfl rfl rfl ?_
  refine aw_e rfl rfl rfl ?_
  refine aw_e rfl rfl rfl ?_
  refine aw_e rfl rfl rfl ?_
  refine aw_e rfl rfl rfl ?_
  refine aw_e rfl rfl rfl ?_
  refine aw_e rfl rfl rfl ?_
  refine aw_e rfl rfl rfl ?_
  refine aw_e rfl rfl rfl ?_
  refine aw_e rfl rfl rfl ?_
  refine aw_e rfl rfl rfl ?_
  refine aw_i2f rfl (by decide +kernel) ?_
  refine aw_e rfl rfl rfl ?_
  refine aw_e rfl rfl rfl ?_
  refine aw_i1t rfl (by decide +kernel) ?_
  refine aw_e rfl rfl rfl ?_
  refine aw_e rfl rfl rfl ?_
  refine aw_e rfl rfl rfl ?_
  refine aw_e rfl rfl rfl ?_
  refine aw_e rfl rfl rfl ?_
  refine aw_e rfl rfl rfl ?_
  refine aw_e rfl rfl rfl ?_
  refine aw_e rfl rfl rfl ?_
  refine aw_e rfl rfl rfl ?_
  refine aw_e rfl rfl rfl ?_
  refine aw_e rfl rfl rfl ?_
  refine aw_e rfl rfl rfl ?_
  refine aw_e rfl rfl rfl ?_
  refine aw_e rfl rfl rfl ?_
  refine aw_e rfl rfl rfl ?_
  refine aw_e rfl rfl rfl ?_
  refine aw_e rfl rfl rfl ?_
  refine aw_e rfl rfl rfl ?_
  refine aw_e rfl rfl rfl ?_
  refine aw_i2t rfl (by decide +kernel) ?_
  refine aw_rv rfl ?_
  refine aw_e rfl rfl rfl ?_
  refine aw_e rfl rfl rfl ?_
  refine aw_e rfl rfl rfl ?_
  refine aw_ci rfl rfl (by decide) rfl rfl ?_
  refine aw_e rfl rfl rfl ?_
  refine aw_e rfl rfl rfl ?_
  refine aw_e rfl rfl rfl ?_
  refine aw_e rfl rfl rfl ?_
  refine aw_e rfl rfl rfl ?_
  refine aw_i2f rfl (by decide +kernel) ?_
  refine aw_e rfl rfl rfl ?_
  refine aw_e rfl rfl rfl ?_
  refine aw_i1t rfl (by decide +kernel) ?_
  refine aw_e rfl rfl rfl ?_
  refine aw_e rfl rfl rfl ?_
  refine aw_e rfl rfl rfl ?_
  refine aw_e rfl rfl rfl ?_
  refine aw_e rfl rfl rfl ?_
  refine aw_e rfl rfl rfl ?_
  refine aw_e rfl rfl rfl ?_
  refine aw_e rfl rfl rfl ?_
  refine aw_e rfl rfl rfl ?_
  refine aw_e rfl rfl rfl ?_
  refine aw_e rfl rfl rfl ?_
  refine aw_e rfl rfl rfl ?_
  refine aw_e rfl rfl rfl ?_
  refine aw_e rfl rfl rfl ?_
  refine aw_e rfl rfl rfl ?_
  refine aw_e rfl rfl rfl ?_
  refine aw_e rfl rfl rfl ?_
  refine aw_e rfl rfl rfl ?_
  refine aw_e rfl rfl rfl ?_
  refine aw_i2f rfl (by decide +kernel) ?_
  refine aw_e rfl rfl rfl ?_
  refine aw_e rfl rfl rfl ?_
  refine aw_i1t rfl (by decide +kernel) ?_
  refine aw_e rfl rfl rfl ?_
  refine aw_e rfl rfl rfl ?_
  refine aw_e rfl rfl rfl ?_
  refine aw_e rfl rfl rfl ?_
  refine aw_e rfl rfl rfl ?_
  refine aw_e rfl rfl rfl ?_
  refine aw_e rfl rfl rfl ?_
  refine aw_e rfl rfl rfl ?_
  refine aw_e rfl rfl rfl ?_
  refine aw_e rfl rfl rfl ?_
  refine aw_e rfl rfl rfl ?_
  refine aw_e rfl rfl rfl ?_
  refine aw_e rfl rfl rfl ?_
  refine aw_e rfl rfl rfl ?_
  refine aw_e rfl rfl rfl ?_
  refine aw_e rfl rfl rfl ?_
  refine aw_e rfl rfl rfl ?_
  refine aw_e rfl rfl rfl ?_
  refine aw_e rfl rfl rfl ?_
  refine aw_i2f rfl (by decide +kernel) ?_
  refine aw_e rfl rfl rfl ?_
  refine aw_e rfl rfl rfl ?_
  refine aw_i1t rfl (by decide +kernel) ?_
  refine aw_e rfl rfl rfl ?_
  refine aw_e rfl rfl rfl ?_
  refine aw_e rfl rfl rfl ?_
  refine aw_e rfl rfl rfl ?_
  refine aw_e rfl rfl rfl ?_
  refine aw_e rfl rfl rfl ?_
  refine aw_e rfl rfl rfl ?_
  refine aw_e rfl rfl rfl ?_
  refine aw_e rfl rfl rfl ?_
  refine aw_e rfl rfl rfl ?_
  refine aw_e rfl rfl rfl ?_
  refine aw_e rfl rfl rfl ?_
  refine aw_e rfl rfl rfl ?_
  refine aw_e rfl rfl rfl ?_
  refine aw_e rfl rfl rfl ?_
  refine aw_e rfl rfl rfl ?_
  refine aw_e rfl rfl rfl ?_
  refine aw_e rfl rfl rfl ?_
  refine aw_e rfl rfl rfl ?_
  refine aw_i2f rfl (by decide +kernel) ?_
  refine aw_e rfl rfl rfl ?_
  refine aw_e rfl rfl rfl ?_
  refine aw_i1t rfl (by decide +kernel) ?_
  refine aw_e rfl rfl rfl ?_
  refine aw_e rfl rfl rfl ?_
  refine aw_e rfl rfl rfl ?_
  refine aw_e rfl rfl rfl ?_
  refine aw_e rfl rfl rfl ?_
  refine aw_e rfl rfl rfl ?_
  refine aw_e rfl rfl rfl ?_
  refine aw_e rfl rfl rfl ?_
  refine aw_e rfl rfl rfl ?_
  refine aw_e rfl rfl rfl ?_
  refine aw_e rfl rfl rfl ?_
  refine aw_e rfl rfl rfl ?_
  refine aw_e rfl rfl rfl ?_
  refine aw_e rfl rfl rfl ?_
  refine aw_e rfl rfl rfl ?_
  refine aw_e rfl rfl rfl ?_
  refine aw_e rfl rfl rfl ?_
  refine aw_e rfl rfl rfl ?_
  refine aw_e rfl rfl rfl ?_
  refine aw_i2f rfl (by decide +kernel) ?_
  refine aw_e rfl rfl rfl ?_
  refine aw_e rfl rfl rfl ?_
  refine aw_i1t rfl (by decide +kernel) ?_
  refine aw_e rfl rfl rfl ?_
  refine aw_e rfl rfl rfl ?_
  refine aw_e rfl rfl rfl ?_
  refine aw_e rfl rfl rfl ?_
  refine aw_e rfl rfl rfl ?_
  refine aw_e rfl rfl rfl ?_
  refine aw_e rfl rfl rfl ?_
  refine aw_e rfl rfl rfl ?_
  refine aw_e rfl rfl rfl ?_
  refine aw_e rfl rfl rfl ?_
  refine aw_e rfl rfl rfl ?_
  refine aw_e rfl rfl rfl ?_
  refine aw_e rfl rfl rfl ?_
  refine aw_e rfl rfl rfl ?_
  refine aw_e rfl rfl rfl ?_
  refine aw_e rfl rfl rfl ?_
  refine aw_e rfl rfl rfl ?_
  refine aw_e rfl rfl rfl ?_
  refine aw_e rfl rfl rfl ?_
  refine aw_i2f rfl (by decide +kernel) ?_
  refine aw_e rfl rfl rfl ?_
  refine aw_e rfl rfl rfl ?_
  refine aw_i1t rfl (by decide +kernel) ?_
  refine aw_e rfl rfl rfl ?_
  refine aw_e rfl rfl rfl ?_
  refine aw_e rfl rfl rfl ?_
  refine aw_e rfl rfl rfl ?_
  refine aw_e rfl rfl rfl ?_
  refine aw_e rfl rfl rfl ?_
  refine aw_e rfl rfl rfl ?_
  refine aw_e rfl rfl rfl ?_
  refine aw_e rfl rfl rfl ?_
  refine aw_e rfl rfl rfl ?_
  refine aw_e rfl rfl rfl ?_
  refine aw_e rfl rfl rfl ?_
  refine aw_e rfl rfl rfl ?_
  refine aw_e rfl rfl rfl ?_
  refine aw_e rfl rfl rfl ?_
  refine aw_e rfl rfl rfl ?_
  refine aw_e rfl rfl rfl ?_
  refine aw_e rfl rfl rfl ?_
  refine aw_e rfl rfl rfl ?_
  refine aw_i2f rfl (by decide +kernel) ?_
  refine aw_e rfl rfl rfl ?_
  refine aw_e rfl rfl rfl ?_
  refine aw_i1t rfl (by decide +kernel) ?_
  refine aw_e rfl rfl rfl ?_
  refine aw_e rfl rfl rfl ?_
  refine aw_e rfl rfl rfl ?_
  refine aw_e rfl rfl rfl ?_
  refine aw_e rfl rfl rfl ?_
  refine aw_e rfl rfl rfl ?_
  refine aw_e rfl rfl rfl ?_
  refine aw_e rfl rfl rfl ?_
  refine aw_e rfl rfl rfl ?_
  refine aw_e rfl rfl rfl ?_
  refine aw_e rfl rfl rfl ?_
  refine aw_e rfl rfl rfl ?_
  refine aw_e rfl rfl rfl ?_
  refine aw_e rfl rfl rfl ?_
  refine aw_e rfl rfl rfl ?_
  refine aw_e rfl rfl rfl ?_
  refine aw_e rfl rfl rfl ?_
  refine aw_e rfl rfl rfl ?_
  refine aw_e rfl rfl rfl ?_
  refine aw_i2f rfl (by decide +kernel) ?_
  refine aw_e rfl rfl rfl ?_
  refine aw_e rfl rfl rfl ?_
  refine aw_i1t rfl (by decide +kernel) ?_
  refine aw_e rfl rfl rfl ?_
  refine aw_e rfl rfl rfl ?_
  refine aw_e rfl rfl rfl ?_
  refine aw_e rfl rfl rfl ?_
  refine aw_e rfl rfl rfl ?_
  refine aw_e rfl rfl rfl ?_
  refine aw_e rfl rfl rfl ?_
  refine aw_e rfl rfl rfl ?_
  refine aw_e rfl rfl rfl ?_
  refine aw_e rfl rfl rfl ?_
  refine aw_e rfl rfl rfl ?_
  refine aw_e rfl rfl rfl ?_
  refine aw_e rfl rfl rfl ?_
  refine aw_e rfl rfl rfl ?_
  refine aw_e rfl rfl rfl ?_
  refine aw_e rfl rfl rfl ?_
  refine aw_e rfl rfl rfl ?_
  refine aw_e rfl rfl rfl ?_
  refine aw_e rfl rfl rfl ?_
  refine aw_i2t rfl (by decide +kernel) ?_
  refine aw_rv rfl ?_
  refine aw_e rfl rfl rfl ?_
  refine aw_e rfl rfl rfl ?_
  refine aw_e rfl rfl rfl ?_
  refine aw_ci rfl rfl (by decide) rfl rfl ?_
  refine aw_e rfl rfl rfl ?_
  refine aw_e rfl rfl rfl ?_
  refine aw_e rfl rfl rfl ?_
  refine aw_e rfl rfl rfl ?_
  refine aw_e rfl rfl rfl ?_
  refine aw_i2f rfl (by decide +kernel) ?_
  refine aw_e rfl rfl rfl ?_
  refine aw_e rfl rfl rfl ?_
  refine aw_i1t rfl (by decide +kernel) ?_
  refine aw_e rfl rfl rfl ?_
  refine aw_e rfl rfl rfl ?_
  refine aw_e rfl rfl rfl ?_
  refine aw_e rfl rfl rfl ?_
  refine aw_e rfl rfl rfl ?_
  refine aw_e rfl rfl rfl ?_
  refine aw_e rfl rfl rfl ?_
  refine aw_e rfl rfl rfl ?_
  refine aw_e rfl rfl rfl ?_
  refine aw_e rfl rfl rfl ?_
  refine aw_e rfl rfl rfl ?_
  refine aw_e rfl rfl rfl ?_
  refine aw_e rfl rfl rfl ?_
  refine aw_e rfl rfl rfl ?_
  refine aw_e rfl rfl rfl ?_
  refine aw_e rfl rfl rfl ?_
  refine aw_e rfl rfl rfl ?_
  refine aw_e rfl rfl rfl ?_
  refine aw_e rfl rfl rfl ?_
  refine aw_i2f rfl (by decide +kernel) ?_
  refine aw_e rfl rfl rfl ?_
  refine aw_e rfl rfl rfl ?_
  refine aw_i1t rfl (by decide +kernel) ?_
  refine aw_e rfl rfl rfl ?_
  refine aw_e rfl rfl rfl ?_
  refine aw_e rfl rfl rfl ?_
  refine aw_e rfl rfl rfl ?_
  refine aw_e rfl rfl rfl ?_
  refine aw_e rfl rfl rfl ?_
  refine aw_e rfl rfl rfl ?_
  refine aw_e rfl rfl rfl ?_
  refine aw_e rfl rfl rfl ?_
  refine aw_e rfl rfl rfl ?_
  refine aw_e rfl rfl rfl ?_
  refine aw_e rfl rfl rfl ?_
  refine aw_e rfl rfl rfl ?_
  refine aw_e rfl rfl rfl ?_
  refine aw_e rfl rfl rfl ?_
  refine aw_e rfl rfl rfl ?_
  refine aw_e rfl rfl rfl ?_
  refine aw_e rfl rfl rfl ?_
  refine aw_e rfl rfl rfl ?_
  refine aw_i2f rfl (by decide +kernel) ?_
  refine aw_e rfl rfl rfl ?_
  refine aw_e rfl rfl rfl ?_
  refine aw_i1t rfl (by decide +kernel) ?_
  refine aw_e rfl rfl rfl ?_
  refine aw_e rfl rfl rfl ?_
  refine aw_e rfl rfl rfl ?_
  refine aw_e rfl rfl rfl ?_
  refine aw_e rfl rfl rfl ?_
  refine aw_e rfl rfl rfl ?_
  refine aw_e rfl rfl rfl ?_
  refine aw_e rfl rfl rfl ?_
  refine aw_e rfl rfl rfl ?_
  refine aw_e rfl rfl rfl ?_
  refine aw_e rfl rfl rfl ?_
  refine aw_e rfl rfl rfl ?_
  refine aw_e rfl rfl rfl ?_
  refine aw_e rfl rfl rfl ?_
  refine aw_e rfl rfl rfl ?_
  refine aw_e rfl rfl rfl ?_
  refine aw_e rfl rfl rfl ?_
  refine aw_e rfl rfl rfl ?_
  refine aw_e rfl rfl rfl ?_
  refine aw_i2f rfl (by decide +kernel) ?_
  refine aw_e rfl rfl rfl ?_
  refine aw_e rfl rfl rfl ?_
  refine aw_i1t rfl (by decide +kernel) ?_
  refine aw_e rfl rfl rfl ?_
  refine aw_e rfl rfl rfl ?_
  refine aw_e rfl rfl rfl ?_
  refine aw_e rfl rfl rfl ?_
  refine aw_e rfl rfl rfl ?_
  refine aw_e rfl rfl rfl ?_
  refine aw_e rfl rfl rfl ?_
  refine aw_e rfl rfl rfl ?_
  refine aw_e rfl rfl rfl ?_
  refine aw_e rfl rfl rfl ?_
  refine aw_e rfl rfl rfl ?_
  refine aw_e rfl rfl rfl ?_
  refine aw_e rfl rfl rfl ?_
  refine aw_e rfl rfl rfl ?_
  refine aw_e rfl rfl rfl ?_
  refine aw_e rfl rfl rfl ?_
  refine aw_e rfl rfl rfl ?_
  refine aw_e rfl rfl rfl ?_
  refine aw_e rfl rfl rfl ?_
  refine aw_i2f rfl (by decide +kernel) ?_
  refine aw_e rfl rfl rfl ?_
  refine aw_e rfl rfl rfl ?_
  refine aw_i1t rfl (by decide +kernel) ?_
  refine aw_e rfl rfl rfl ?_
  refine aw_e rfl rfl rfl ?_
  refine aw_e rfl rfl rfl ?_
  refine aw_e rfl rfl rfl ?_
  refine aw_e rfl rfl rfl ?_
  refine aw_e rfl rfl rfl ?_
  refine aw_e rfl rfl rfl ?_
  refine aw_e rfl rfl rfl ?_
  refine aw_e rfl rfl rfl ?_
  refine aw_e rfl rfl rfl ?_
  refine aw_e rfl rfl rfl ?_
  refine aw_e rfl rfl rfl ?_
  refine aw_e rfl rfl rfl ?_
  refine aw_e rfl rfl rfl ?_
  refine aw_e rfl rfl rfl ?_
  refine aw_e rfl rfl rfl ?_
  refine aw_e rfl rfl rfl ?_
  refine aw_e rfl rfl rfl ?_
  refine aw_e rfl rfl rfl ?_
  refine aw_i2f rfl (by decide +kernel) ?_
  refine aw_e rfl rfl rfl ?_
  refine aw_e rfl rfl rfl ?_
  refine aw_i1t rfl (by decide +kernel) ?_
  refine aw_e rfl rfl rfl ?_
  refine aw_e rfl rfl rfl ?_
  refine aw_e rfl rfl rfl ?_
  refine aw_e rfl rfl rfl ?_
  refine aw_e rfl rfl rfl ?_
  refine aw_e rfl rfl rfl ?_
  refine aw_e rfl rfl rfl ?_
  refine aw_e rfl rfl rfl ?_
  refine aw_e rfl rfl rfl ?_
  refine aw_e rfl rfl rfl ?_
  refine aw_e rfl rfl rfl ?_
  refine aw_e rfl rfl rfl ?_
  refine aw_e rfl rfl rfl ?_
  refine aw_e rfl rfl rfl ?_
  refine aw_e rfl rfl rfl ?_
  refine aw_e rfl rfl rfl ?_
  refine aw_e rfl rfl rfl ?_
  refine aw_e rfl rfl rfl ?_
  refine aw_e rfl rfl rfl ?_
  refine aw_i2f rfl (by decide +kernel) ?_
  refine aw_e rfl rfl rfl ?_
  refine aw_e rfl rfl rfl ?_
  refine aw_i1t rfl (by decide +kernel) ?_
  refine aw_e rfl rfl rfl ?_
  refine aw_e rfl rfl rfl ?_
  refine aw_e rfl rfl rfl ?_
  refine aw_e rfl rfl rfl ?_
  refine aw_e rfl rfl rfl ?_
  refine aw_e rfl rfl rfl ?_
  refine aw_e rfl rfl rfl ?_
  refine aw_e rfl rfl rfl ?_
  refine aw_e rfl rfl rfl ?_
  refine aw_e rfl rfl rfl ?_
  refine aw_e rfl rfl rfl ?_
  refine aw_e rfl rfl rfl ?_
  refine aw_e rfl rfl rfl ?_
  refine aw_e rfl rfl rfl ?_
  refine aw_e rfl rfl rfl ?_
  refine aw_e rfl rfl rfl ?_
  refine aw_e rfl rfl rfl ?_
  refine aw_e rfl rfl rfl ?_
  refine aw_e rfl rfl rfl ?_
  refine aw_i2f rfl (by decide +kernel) ?_
  refine aw_e rfl rfl rfl ?_
  refine aw_e rfl rfl rfl ?_
  refine aw_i1t rfl (by decide +kernel) ?_
  refine aw_e rfl rfl rfl ?_
  refine aw_e rfl rfl rfl ?_
  refine aw_e rfl rfl rfl ?_
  refine aw_e rfl rfl rfl ?_
  refine aw_e rfl rfl rfl ?_
  refine aw_e rfl rfl rfl ?_
  refine aw_e rfl rfl rfl ?_
  refine aw_e rfl rfl rfl ?_
  refine aw_e rfl rfl rfl ?_
  refine aw_e rfl rfl rfl ?_
  refine aw_e rfl rfl rfl ?_
  refine aw_e rfl rfl rfl ?_
  refine aw_e rfl rfl rfl ?_
  refine aw_e rfl rfl rfl ?_
  refine aw_e rfl rfl rfl ?_
  refine aw_e rfl rfl rfl ?_
  refine aw_e rfl rfl rfl ?_
  refine aw_e rfl rfl rfl ?_
  refine aw_e rfl rfl rfl ?_
  refine aw_i2t rfl (by decide +kernel) ?_
  refine aw_rv rfl ?_
  refine aw_e rfl rfl rfl ?_
  refine aw_e rfl rfl rfl ?_
  refine aw_e rfl rfl rfl ?_
  refine aw_ci rfl rfl (by decide) rfl rfl ?_
  refine aw_e rfl rfl rfl ?_
  refine aw_e rfl rfl rfl ?_
  refine aw_e rfl rfl rfl ?_
  refine aw_e rfl rfl rfl ?_
  refine aw_e rfl rfl rfl ?_
  refine aw_i2f rfl (by decide +kernel) ?_
  refine aw_e rfl rfl rfl ?_
  refine aw_e rfl rfl rfl ?_
  refine aw_i1t rfl (by decide +kernel) ?_
  refine aw_e rfl rfl rfl ?_
  refine aw_e rfl rfl rfl ?_
  refine aw_e rfl rfl rfl ?_
  refine aw_e rfl rfl rfl ?_
  refine aw_e rfl rfl rfl ?_
  refine aw_e rfl rfl rfl ?_
  refine aw_e rfl rfl rfl ?_
  refine aw_e rfl rfl rfl ?_
  refine aw_e rfl rfl rfl ?_
  refine aw_e rfl rfl rfl ?_
  refine aw_e rfl rfl rfl ?_
  refine aw_e rfl rfl rfl ?_
  refine aw_e rfl rfl rfl ?_
  refine aw_e rfl rfl rfl ?_
  refine aw_e rfl rfl rfl ?_
  refine aw_e rfl rfl rfl ?_
  refine aw_e rfl rfl rfl ?_
  refine aw_e rfl rfl rfl ?_
  refine aw_e rfl rfl rfl ?_
  refine aw_i2f rfl (by decide +kernel) ?_
  refine aw_e rfl rfl rfl ?_
  refine aw_e rfl rfl rfl ?_
  refine aw_i1t rfl (by decide +kernel) ?_
  refine aw_e rfl rfl rfl ?_
  refine aw_e rfl rfl rfl ?_
  refine aw_e rfl rfl rfl ?_
  refine aw_e rfl rfl rfl ?_
  refine aw_e rfl rfl rfl ?_
  refine aw_e rfl rfl rfl ?_
  refine aw_e rfl rfl rfl ?_
  refine aw_e rfl rfl rfl ?_
  refine aw_e rfl rfl rfl ?_
  refine aw_e rfl rfl rfl ?_
  refine aw_e rfl rfl rfl ?_
  refine aw_e rfl rfl rfl ?_
  refine aw_e rfl rfl rfl ?_
  refine aw_e rfl rfl rfl ?_
  refine aw_e rfl rfl rfl ?_
  refine aw_e rfl rfl rfl ?_
  refine aw_e rfl rfl rfl ?_
  refine aw_e rfl rfl rfl ?_
  refine aw_e rfl rfl rfl ?_
  refine aw_i2f rfl (by decide +kernel) ?_
  refine aw_e rfl rfl rfl ?_
  refine aw_e rfl rfl rfl ?_
  refine aw_i1t rfl (by decide +kernel) ?_
  refine aw_e rfl rfl rfl ?_
  refine aw_e rfl rfl rfl ?_
  refine aw_e rfl rfl rfl ?_
  refine aw_e rfl rfl rfl ?_
  refine aw_e rfl rfl rfl ?_
  refine aw_e rfl rfl rfl ?_
  refine aw_e rfl rfl rfl ?_
  refine aw_e rfl rfl rfl ?_
  refine aw_e rfl rfl rfl ?_
  refine aw_e rfl rfl rfl ?_
  refine aw_e rfl rfl rfl ?_
  refine aw_e rfl rfl rfl ?_
  refine aw_e rfl rfl rfl ?_
  refine aw_e rfl rfl rfl ?_
  refine aw_e rfl rfl rfl ?_
  refine aw_e rfl rfl rfl ?_
  refine aw_e rfl rfl rfl ?_
  refine aw_e rfl rfl rfl ?_
  refine aw_e rfl rfl rfl ?_
  refine aw_i2f rfl (by decide +kernel) ?_
  refine aw_e rfl rfl rfl ?_
  refine aw_e rfl rfl rfl ?_
  refine aw_i1t rfl (by decide +kernel) ?_
  refine aw_e rfl rfl rfl ?_
  refine aw_e rfl rfl rfl ?_
  refine aw_e rfl rfl rfl ?_
  refine aw_e rfl rfl rfl ?_
  refine aw_e rfl rfl rfl ?_
  refine aw_e rfl rfl rfl ?_
  refine aw_e rfl rfl rfl ?_
  refine aw_e rfl rfl rfl ?_
  refine aw_e rfl rfl rfl ?_
  refine aw_e rfl rfl rfl ?_
  refine aw_e rfl rfl rfl ?_
  refine aw_e rfl rfl rfl ?_
  refine aw_e rfl rfl rfl ?_
  refine aw_e rfl rfl rfl ?_
  refine aw_e rfl rfl rfl ?_
  refine aw_e rfl rfl rfl ?_
  refine aw_e rfl rfl rfl ?_
  refine aw_e rfl rfl rfl ?_
  refine aw_e rfl rfl rfl ?_
  refine aw_i2f rfl (by decide +kernel) ?_
  refine aw_e rfl rfl rfl ?_
  refine aw_e rfl rfl rfl ?_
  refine aw_i1t rfl (by decide +kernel) ?_
  refine aw_e rfl rfl rfl ?_
  refine aw_e rfl rfl rfl ?_
  refine aw_e rfl rfl rfl ?_
  refine aw_e rfl rfl rfl ?_
  refine aw_e rfl rfl rfl ?_
  refine aw_e rfl rfl rfl ?_
  refine aw_e rfl rfl rfl ?_
  refine aw_e rfl rfl rfl ?_
  refine aw_e rfl rfl rfl ?_
  refine aw_e rfl rfl rfl ?_
  refine aw_e rfl rfl rfl ?_
  refine aw_e rfl rfl rfl ?_
  refine aw_e rfl rfl rfl ?_
  refine aw_e rfl rfl rfl ?_
  refine aw_e rfl rfl rfl ?_
  refine aw_e rfl rfl rfl ?_
  refine aw_e rfl rfl rfl ?_
  refine aw_e rfl rfl rfl ?_
  refine aw_e rfl rfl rfl ?_
  refine aw_i2f rfl (by decide +kernel) ?_
  refine aw_e rfl rfl rfl ?_
  refine aw_e rfl rfl rfl ?_
  refine aw_i1t rfl (by decide +kernel) ?_
  refine aw_e rfl rfl rfl ?_
  refine aw_e rfl rfl rfl ?_
  refine aw_e rfl rfl rfl ?_
  refine aw_e rfl rfl rfl ?_
  refine aw_e rfl rfl rfl ?_
  refine aw_e rfl rfl rfl ?_
  refine aw_e rfl rfl rfl ?_
  refine aw_e rfl rfl rfl ?_
  refine aw_e rfl rfl rfl ?_
  refine aw_e rfl rfl rfl ?_
  refine aw_e rfl rfl rfl ?_
  refine aw_e rfl rfl rfl ?_
  refine aw_e rfl rfl rfl ?_
  refine aw_e rfl rfl rfl ?_
  refine aw_e rfl rfl rfl ?_
  refine aw_e rfl rfl rfl ?_
  refine aw_e rfl rfl rfl ?_
  refine aw_e rfl rfl rfl ?_
  refine aw_e rfl rfl rfl ?_
  refine aw_i2f rfl (by decide +kernel) ?_
  refine aw_e rfl rfl rfl ?_
  refine aw_e rfl rfl rfl ?_
  refine aw_i1t rfl (by decide +kernel) ?_
  refine aw_e rfl rfl rfl ?_
  refine aw_e rfl rfl rfl ?_
  refine aw_e rfl rfl rfl ?_
  refine aw_e rfl rfl rfl ?_
  refine aw_e rfl rfl rfl ?_
  refine aw_e rfl rfl rfl ?_
  refine aw_e rfl rfl rfl ?_
  refine aw_e rfl rfl rfl ?_
  refine aw_e rfl rfl rfl ?_
  refine aw_e rfl rfl rfl ?_
  refine aw_e rfl rfl rfl ?_
  refine aw_e rfl rfl rfl ?_
  refine aw_e rfl rfl rfl ?_
  refine aw_e rfl rfl rfl ?_
  refine aw_e rfl rfl rfl ?_
  refine aw_e rfl rfl rfl ?_
  refine aw_e rfl rfl rfl ?_
  refine aw_e rfl rfl rfl ?_
  refine aw_e rfl rfl rfl ?_
  refine aw_i2f rfl (by decide +kernel) ?_
  refine aw_e rfl rfl rfl ?_
  refine aw_e rfl rfl rfl ?_
  refine aw_i1t rfl (by decide +kernel) ?_
  refine aw_e rfl rfl rfl ?_
  refine aw_e rfl rfl rfl ?_
  refine aw_e rfl rfl rfl ?_
  refine aw_e rfl rfl rfl ?_
  refine aw_e rfl rfl rfl ?_
  refine aw_e rfl rfl rfl ?_
  refine aw_e rfl rfl rfl ?_
  refine aw_e rfl rfl rfl ?_
  refine aw_e rfl rfl rfl ?_
  refine aw_e rfl rfl rfl ?_
  refine aw_e rfl rfl rfl ?_
  refine aw_e rfl rfl rfl ?_
  refine aw_e rfl rfl rfl ?_
  refine aw_e rfl rfl rfl ?_
  refine aw_e rfl rfl rfl ?_
  refine aw_e rfl rfl rfl ?_
  refine aw_e rfl rfl rfl ?_
  refine aw_e rfl rfl rfl ?_
  refine aw_e rfl rfl rfl ?_
  refine aw_i2t rfl (by decide +kernel) ?_
  refine aw_rv rfl ?_
  refine aw_e rfl rfl rfl ?_
  refine aw_e rfl rfl rfl ?_
  refine aw_e rfl rfl rfl ?_
  refine aw_ci rfl rfl (by decide) rfl rfl ?_
  refine aw_e rfl rfl rfl ?_
  refine aw_e rfl rfl rfl ?_
  refine aw_e rfl rfl rfl ?_
  refine aw_e rfl rfl rfl ?_
  refine aw_e rfl rfl rfl ?_
  refine aw_i2f rfl (by decide +kernel) ?_
  refine aw_e rfl rfl rfl ?_
  refine aw_e rfl rfl rfl ?_
  refine aw_i1t rfl (by decide +kernel) ?_
  refine aw_e rfl rfl rfl ?_
  refine aw_e rfl rfl rfl ?_
  refine aw_e rfl rfl rfl ?_
  refine aw_e rfl rfl rfl ?_
  refine aw_e rfl rfl rfl ?_
  refine aw_e rfl rfl rfl ?_
  refine aw_e rfl rfl rfl ?_
  refine aw_e rfl rfl rfl ?_
  refine aw_e rfl rfl rfl ?_
  refine aw_e rfl rfl rfl ?_
  refine aw_e rfl rfl rfl ?_
  refine aw_e rfl rfl rfl ?_
  refine aw_e rfl rfl rfl ?_
  refine aw_e rfl rfl rfl ?_
  refine aw_e rfl rfl rfl ?_
  refine aw_e rfl rfl rfl ?_
  refine aw_e rfl rfl rfl ?_
  refine aw_e rfl rfl rfl ?_
  refine aw_e rfl rfl rfl ?_
  refine aw_i2f rfl (by decide +kernel) ?_
  refine aw_e rfl rfl rfl ?_
  refine aw_e rfl rfl rfl ?_
  refine aw_i1t rfl (by decide +kernel) ?_
  refine aw_e rfl rfl rfl ?_
  refine aw_e rfl rfl rfl ?_
  refine aw_e rfl rfl rfl ?_
  refine aw_e rfl rfl rfl ?_
  refine aw_e rfl rfl rfl ?_
  refine aw_e rfl rfl rfl ?_
  refine aw_e rfl rfl rfl ?_
  refine aw_e rfl rfl rfl ?_
  refine aw_e rfl rfl rfl ?_
  refine aw_e rfl rfl rfl ?_
  refine aw_e rfl rfl rfl ?_
  refine aw_e rfl rfl rfl ?_
  refine aw_e rfl rfl rfl ?_
  refine aw_e rfl rfl rfl ?_
  refine aw_e rfl rfl rfl ?_
  refine aw_e rfl rfl rfl ?_
  refine aw_e rfl rfl rfl ?_
  refine aw_e rfl rfl rfl ?_
  refine aw_e rfl rfl rfl ?_
  refine aw_i2f rfl (by decide +kernel) ?_
  refine aw_e rfl rfl rfl ?_
  refine aw_e rfl rfl rfl ?_
  refine aw_i1t rfl (by decide +kernel) ?_
  refine aw_e rfl rfl rfl ?_
  refine aw_e rfl rfl rfl ?_
  refine aw_e rfl rfl rfl ?_
  refine aw_e rfl rfl rfl ?_
  refine aw_e rfl rfl rfl ?_
  refine aw_e rfl rfl rfl ?_
  refine aw_e rfl rfl rfl ?_
  refine aw_e rfl rfl rfl ?_
  refine aw_e rfl rfl rfl ?_
  refine aw_e rfl rfl rfl ?_
  refine aw_e rfl rfl rfl ?_
  refine aw_e rfl rfl rfl ?_
  refine aw_e rfl rfl rfl ?_
  refine aw_e rfl rfl rfl ?_
  refine aw_e rfl rfl rfl ?_
  refine aw_e rfl rfl rfl ?_
  refine aw_e rfl rfl rfl ?_
  refine aw_e rfl rfl rfl ?_
  refine aw_e rfl rfl rfl ?_
  refine aw_i2f rfl (by decide +kernel) ?_
  refine aw_e rfl rfl rfl ?_
  refine aw_e rfl rfl rfl ?_
  refine aw_i1t rfl (by decide +kernel) ?_
  refine aw_e rfl rfl rfl ?_
  refine aw_e rfl rfl rfl ?_
  refine aw_e rfl rfl rfl ?_
  refine aw_e rfl rfl rfl ?_
  refine aw_e rfl rfl rfl ?_
  refine aw_e rfl rfl rfl ?_
  refine aw_e rfl rfl rfl ?_
  refine aw_e rfl rfl rfl ?_
  refine aw_e rfl rfl rfl ?_
  refine aw_e rfl rfl rfl ?_
  refine aw_e rfl rfl rfl ?_
  refine aw_e rfl rfl rfl ?_
  refine aw_e rfl rfl rfl ?_
  refine aw_e rfl rfl rfl ?_
  refine aw_e rfl rfl rfl ?_
  refine aw_e rfl rfl rfl ?_
  refine aw_e rfl rfl rfl ?_
  refine aw_e rfl rfl rfl ?_
  refine aw_e rfl rfl rfl ?_
  refine aw_i2f rfl (by decide +kernel) ?_
  refine aw_e rfl rfl rfl ?_
  refine aw_e rfl rfl rfl ?_
  refine aw_i1t rfl (by decide +kernel) ?_
  refine aw_e rfl rfl rfl ?_
  refine aw_e rfl rfl rfl ?_
  refine aw_e rfl rfl rfl ?_
  refine aw_e rfl rfl rfl ?_
  refine aw_e rfl rfl rfl ?_
  refine aw_e rfl rfl rfl ?_
  refine aw_e rfl rfl rfl ?_
  refine aw_e rfl rfl rfl ?_
  refine aw_e rfl rfl rfl ?_
  refine aw_e rfl rfl rfl ?_
  refine aw_e rfl rfl rfl ?_
  refine aw_e rfl rfl rfl ?_
  refine aw_e rfl rfl rfl ?_
  refine aw_e rfl rfl rfl ?_
  refine aw_e rfl rfl rfl ?_
  refine aw_e rfl rfl rfl ?_
  refine aw_e rfl rfl rfl ?_
  refine aw_e rfl rfl rfl ?_
  refine aw_e rfl rfl rfl ?_
  refine aw_i2f rfl (by decide +kernel) ?_
  refine aw_e rfl rfl rfl ?_
  refine aw_e rfl rfl rfl ?_
  refine aw_i1t rfl (by decide +kernel) ?_
  refine aw_e rfl rfl rfl ?_
  refine aw_e rfl rfl rfl ?_
  refine aw_e rfl rfl rfl ?_
  refine aw_e rfl rfl rfl ?_
  refine aw_e rfl rfl rfl ?_
  refine aw_e rfl rfl rfl ?_
  refine aw_e rfl rfl rfl ?_
  refine aw_e rfl rfl rfl ?_
  refine aw_e rfl rfl rfl ?_
  refine aw_e rfl rfl rfl ?_
  refine aw_e rfl rfl rfl ?_
  refine aw_e rfl rfl rfl ?_
  refine aw_e rfl rfl rfl ?_
  refine aw_e rfl rfl rfl ?_
  refine aw_e rfl rfl rfl ?_
  refine aw_e rfl rfl rfl ?_
  refine aw_e rfl rfl rfl ?_
  refine aw_e rfl rfl rfl ?_
  refine aw_e rfl rfl rfl ?_
  refine aw_i2f rfl (by decide +kernel) ?_
  refine aw_e rfl rfl rfl ?_
  refine aw_e rfl rfl rfl ?_
  refine aw_i1t rfl (by decide +kernel) ?_
  refine aw_e rfl rfl rfl ?_
  refine aw_e rfl rfl rfl ?_
  refine aw_e rfl rfl rfl ?_
  refine aw_e rfl rfl rfl ?_
  refine aw_e rfl rfl rfl ?_
  refine aw_e rfl rfl rfl ?_
  refine aw_e rfl rfl rfl ?_
  refine aw_e rfl rfl rfl ?_
  refine aw_e rfl rfl rfl ?_
  refine aw_e rfl rfl rfl ?_
  refine aw_e rfl rfl rfl ?_
  refine aw_e rfl rfl rfl ?_
  refine aw_e rfl rfl rfl ?_
  refine aw_e rfl rfl rfl ?_
  refine aw_e rfl rfl rfl ?_
  refine aw_e rfl rfl rfl ?_
  refine aw_e rfl rfl rfl ?_
  refine aw_e rfl rfl rfl ?_
  refine aw_e rfl rfl rfl ?_
  refine aw_i2f rfl (by decide +kernel) ?_
  refine aw_e rfl rfl rfl ?_
  refine aw_e rfl rfl rfl ?_
  refine aw_i1t rfl (by decide +kernel) ?_
  refine aw_e rfl rfl rfl ?_
  refine aw_e rfl rfl rfl ?_
  refine aw_e rfl rfl rfl ?_
  refine aw_e rfl rfl rfl ?_
  refine aw_e rfl rfl rfl ?_
  refine aw_e rfl rfl rfl ?_
  refine aw_e rfl rfl rfl ?_
  refine aw_e rfl rfl rfl ?_
  refine aw_e rfl rfl rfl ?_
  refine aw_e rfl rfl rfl ?_
  refine aw_e rfl rfl rfl ?_
  refine aw_e rfl rfl rfl ?_
  refine aw_e rfl rfl rfl ?_
  refine aw_e rfl rfl rfl ?_
  refine aw_e rfl rfl rfl ?_
  refine aw_e rfl rfl rfl ?_
  refine aw_e rfl rfl rfl ?_
  refine aw_e rfl rfl rfl ?_
  refine aw_e rfl rfl rfl ?_
  refine aw_i2t rfl (by decide +kernel) ?_
  refine aw_rv rfl ?_
  refine aw_e rfl rfl rfl ?_
  refine aw_e rfl rfl rfl ?_
  refine aw_e rfl rfl rfl ?_
  refine aw_ci rfl rfl (by decide) rfl rfl ?_
  refine aw_e rfl rfl rfl ?_
  refine aw_e rfl rfl rfl ?_
  refine aw_e rfl rfl rfl ?_
  refine aw_e rfl rfl rfl ?_
  refine aw_e rfl rfl rfl ?_
  refine aw_i2f rfl (by decide +kernel) ?_
  refine aw_e rfl rfl rfl ?_
  refine aw_e rfl rfl rfl ?_
  refine aw_i1t rfl (by decide +kernel) ?_
  refine aw_e rfl rfl rfl ?_
  refine aw_e rfl rfl rfl ?_
  refine aw_e rfl rfl rfl ?_
  refine aw_e rfl rfl rfl ?_
  refine aw_e rfl rfl rfl ?_
  refine aw_e rfl rfl rfl ?_
  refine aw_e rfl rfl rfl ?_
  refine aw_e rfl rfl rfl ?_
  refine aw_e rfl rfl rfl ?_
  refine aw_e rfl rfl rfl ?_
  refine aw_e rfl rfl rfl ?_
  refine aw_e rfl rfl rfl ?_
  refine aw_e rfl rfl rfl ?_
  refine aw_e rfl rfl rfl ?_
  refine aw_e rfl rfl rfl ?_
  refine aw_e rfl rfl rfl ?_
  refine aw_e rfl rfl rfl ?_
  refine aw_e rfl rfl rfl ?_
  refine aw_e rfl rfl rfl ?_
  refine aw_i2f rfl (by decide +kernel) ?_
  refine aw_e rfl rfl rfl ?_
  refine aw_e rfl rfl rfl ?_
  refine aw_i1t rfl (by decide +kernel) ?_
  refine aw_e rfl rfl rfl ?_
  refine aw_e rfl rfl rfl ?_
  refine aw_e rfl rfl rfl ?_
  refine aw_e rfl rfl rfl ?_
  refine aw_e rfl rfl rfl ?_
  refine aw_e rfl rfl rfl ?_
  refine aw_e rfl rfl rfl ?_
  refine aw_e rfl rfl rfl ?_
  refine aw_e rfl rfl rfl ?_
  refine aw_e rfl rfl rfl ?_
  refine aw_e rfl rfl rfl ?_
  refine aw_e rfl rfl rfl ?_
  refine aw_e rfl rfl rfl ?_
  refine aw_e rfl rfl rfl ?_
  refine aw_e rfl rfl rfl ?_
  refine aw_e rfl rfl rfl ?_
  refine aw_e rfl rfl rfl ?_
  refine aw_e rfl rfl rfl ?_
  refine aw_e rfl rfl rfl ?_
  refine aw_i2f rfl (by decide +kernel) ?_
  refine aw_e rfl rfl rfl ?_
  refine aw_e rfl rfl rfl ?_
  refine aw_i1t rfl (by decide +kernel) ?_
  refine aw_e rfl rfl rfl ?_
  refine aw_e rfl rfl rfl ?_
  refine aw_e rfl rfl rfl ?_
  refine aw_e rfl rfl rfl ?_
  refine aw_e rfl rfl rfl ?_
  refine aw_e rfl rfl rfl ?_
  refine aw_e rfl rfl rfl ?_
  refine aw_e rfl rfl rfl ?_
  refine aw_e rfl rfl rfl ?_
  refine aw_e rfl rfl rfl ?_
  refine aw_e rfl rfl rfl ?_
  refine aw_e rfl rfl rfl ?_
  refine aw_e rfl rfl rfl ?_
  refine aw_e rfl rfl rfl ?_
  refine aw_e rfl rfl rfl ?_
  refine aw_e rfl rfl rfl ?_
  refine aw_e rfl rfl rfl ?_
  refine aw_e rfl rfl rfl ?_
  refine aw_e rfl rfl rfl ?_
  refine aw_i2f rfl (by decide +kernel) ?_
  refine aw_e rfl rfl rfl ?_
  refine aw_e rfl rfl rfl ?_
  refine aw_i1t rfl (by decide +kernel) ?_
  refine aw_e rfl rfl rfl ?_
  refine aw_e rfl rfl rfl ?_
  refine aw_e rfl rfl rfl ?_
  refine aw_e rfl rfl rfl ?_
  refine aw_e rfl rfl rfl ?_
  refine aw_e rfl rfl rfl ?_
  refine aw_e rfl rfl rfl ?_
  refine aw_e rfl rfl rfl ?_
  refine aw_e rfl rfl rfl ?_
  refine aw_e rfl rfl rfl ?_
  refine aw_e rfl rfl rfl ?_
  refine aw_e rfl rfl rfl ?_
  refine aw_e rfl rfl rfl ?_
  refine aw_e rfl rfl rfl ?_
  refine aw_e rfl rfl rfl ?_
  refine aw_e rfl rfl rfl ?_
  refine aw_e rfl rfl rfl ?_
  refine aw_e rfl rfl rfl ?_
  refine aw_e rfl rfl rfl ?_
  refine aw_i2f rfl (by decide +kernel) ?_
  refine aw_e rfl rfl rfl ?_
  refine aw_e rfl rfl rfl ?_
  refine aw_i1t rfl (by decide +kernel) ?_
  refine aw_e rfl rfl rfl ?_
  refine aw_e rfl rfl rfl ?_
  refine aw_e rfl rfl rfl ?_
  refine aw_e rfl rfl rfl ?_
  refine aw_e rfl rfl rfl ?_
  refine aw_e rfl rfl rfl ?_
  refine aw_e rfl rfl rfl ?_
  refine aw_e rfl rfl rfl ?_
  refine aw_e rfl rfl rfl ?_
  refine aw_e rfl rfl rfl ?_
  refine aw_e rfl rfl rfl ?_
  refine aw_e rfl rfl rfl ?_
  refine aw_e rfl rfl rfl ?_
  refine aw_e rfl rfl rfl ?_
  refine aw_e rfl rfl rfl ?_
  refine aw_e rfl rfl rfl ?_
  refine aw_e rfl rfl rfl ?_
  refine aw_e rfl rfl rfl ?_
  refine aw_e rfl rfl rfl ?_
  refine aw_i2f rfl (by decide +kernel) ?_
  refine aw_e rfl rfl rfl ?_
  refine aw_e rfl rfl rfl ?_
  refine aw_i1t rfl (by decide +kernel) ?_
  refine aw_e rfl rfl rfl ?_
  refine aw_e rfl rfl rfl ?_
  refine aw_e rfl rfl rfl ?_
  refine aw_e rfl rfl rfl ?_
  refine aw_e rfl rfl rfl ?_
  refine aw_e rfl rfl rfl ?_
  refine aw_e rfl rfl rfl ?_
  refine aw_e rfl rfl rfl ?_
  refine aw_e rfl rfl rfl ?_
  refine aw_e rfl rfl rfl ?_
  refine aw_e rfl rfl rfl ?_
  refine aw_e rfl rfl rfl ?_
  refine aw_e rfl rfl rfl ?_
  refine aw_e rfl rfl rfl ?_
  refine aw_e rfl rfl rfl ?_
  refine aw_e rfl rfl rfl ?_
  refine aw_e rfl rfl rfl ?_
  refine aw_e rfl rfl rfl ?_
  refine aw_e rfl rfl rfl ?_
  refine aw_i2f rfl (by decide +kernel) ?_
  refine aw_e rfl rfl rfl ?_
  refine aw_e rfl rfl rfl ?_
  refine aw_i1t rfl (by decide +kernel) ?_
  refine aw_e rfl rfl rfl ?_
  refine aw_e rfl rfl rfl ?_
  refine aw_e rfl rfl rfl ?_
  refine aw_e rfl rfl rfl ?_
  refine aw_e rfl rfl rfl ?_
  refine aw_e rfl rfl rfl ?_
  refine aw_e rfl rfl rfl ?_
  refine aw_e rfl rfl rfl ?_
  refine aw_e rfl rfl rfl ?_
  refine aw_e rfl rfl rfl ?_
  refine aw_e rfl rfl rfl ?_
  refine aw_e rfl rfl rfl ?_
  refine aw_e rfl rfl rfl ?_
  refine aw_e rfl rfl rfl ?_
  refine aw_e rfl rfl rfl ?_
  refine aw_e rfl rfl rfl ?_
  refine aw_e rfl rfl rfl ?_
  refine aw_e rfl rfl rfl ?_
  refine aw_e rfl rfl rfl ?_
  refine aw_i2f rfl (by decide +kernel) ?_
  refine aw_e rfl rfl rfl ?_
  refine aw_e rfl rfl rfl ?_
  refine aw_i1t rfl (by decide +kernel) ?_
  refine aw_e rfl rfl rfl ?_
  refine aw_e rfl rfl rfl ?_
  refine aw_e rfl rfl rfl ?_
  refine aw_e rfl rfl rfl ?_
  refine aw_e rfl rfl rfl ?_
  refine aw_e rfl rfl rfl ?_
  refine aw_e rfl rfl rfl ?_
  refine aw_e rfl rfl rfl ?_
  refine aw_e rfl rfl rfl ?_
  refine aw_e rfl rfl rfl ?_
  refine aw_e rfl rfl rfl ?_
  refine aw_e rfl rfl rfl ?_
  refine aw_e rfl rfl rfl ?_
  refine aw_e rfl rfl rfl ?_
  refine aw_e rfl rfl rfl ?_
  refine aw_e rfl rfl rfl ?_
  refine aw_e rfl rfl rfl ?_
  refine aw_e rfl rfl rfl ?_
  refine aw_e rfl rfl rfl ?_
  refine aw_i2t rfl (by decide +kernel) ?_
  refine aw_rv rfl ?_
  refine aw_e rfl rfl rfl ?_
  refine aw_e rfl rfl rfl ?_
  refine aw_e rfl rfl rfl ?_
  refine aw_ci rfl rfl (by decide) rfl rfl ?_
  refine aw_e rfl rfl rfl ?_
  refine aw_e rfl rfl rfl ?_
  refine aw_e rfl rfl rfl ?_
  refine aw_e rfl rfl rfl ?_
  refine aw_e rfl rfl rfl ?_
  refine aw_i2f rfl (by decide +kernel) ?_
  refine aw_e rfl rfl rfl ?_
  refine aw_e rfl rfl rfl ?_
  refine aw_i1t rfl (by decide +kernel) ?_
  refine aw_e rfl rfl rfl ?_
  refine aw_e rfl rfl rfl ?_
  refine aw_e rfl rfl rfl ?_
  refine aw_e rfl rfl rfl ?_
  refine aw_e rfl rfl rfl ?_
  refine aw_e rfl rfl rfl ?_
  refine aw_e rfl rfl rfl ?_
  refine aw_e rfl rfl rfl ?_
  refine aw_e rfl rfl rfl ?_
  refine aw_e rfl rfl rfl ?_
  refine aw_e rfl rfl rfl ?_
  refine aw_e rfl rfl rfl ?_
  refine aw_e rfl rfl rfl ?_
  refine aw_e rfl rfl rfl ?_
  refine aw_e rfl rfl rfl ?_
  refine aw_e rfl rfl rfl ?_
  refine aw_e rfl rfl rfl ?_
  refine aw_e rfl rfl rfl ?_
  refine aw_e rfl rfl rfl ?_
  refine aw_i2f rfl (by decide +kernel) ?_
  refine aw_e rfl rfl rfl ?_
  refine aw_e rfl rfl rfl ?_
  refine aw_i1t rfl (by decide +kernel) ?_
  refine aw_e rfl rfl rfl ?_
  refine aw_e rfl rfl rfl ?_
  refine aw_e rfl rfl rfl ?_
  refine aw_e rfl rfl rfl ?_
  refine aw_e rfl rfl rfl ?_
  refine aw_e rfl rfl rfl ?_
  refine aw_e rfl rfl rfl ?_
  refine aw_e rfl rfl rfl ?_
  refine aw_e rfl rfl rfl ?_
  refine aw_e rfl rfl rfl ?_
  refine aw_e rfl rfl rfl ?_
  refine aw_e rfl rfl rfl ?_
  refine aw_e rfl rfl rfl ?_
  refine aw_e rfl rfl rfl ?_
  refine aw_e rfl rfl rfl ?_
  refine aw_e rfl rfl rfl ?_
  refine aw_e rfl rfl rfl ?_
  refine aw_e rfl rfl rfl ?_
  refine aw_e rfl rfl rfl ?_
  refine aw_i2f rfl (by decide +kernel) ?_
  refine aw_e rfl rfl rfl ?_
  refine aw_e rfl rfl rfl ?_
  refine aw_i1t rfl (by decide +kernel) ?_
  refine aw_e rfl rfl rfl ?_
  refine aw_e rfl rfl rfl ?_
  refine aw_e rfl rfl rfl ?_
  refine aw_e rfl rfl rfl ?_
  refine aw_e rfl rfl rfl ?_
  refine aw_e rfl rfl rfl ?_
  refine aw_e rfl rfl rfl ?_
  refine aw_e rfl rfl rfl ?_
  refine aw_e rfl rfl rfl ?_
  refine aw_e rfl rfl rfl ?_
  refine aw_e rfl rfl rfl ?_
  refine aw_e rfl rfl rfl ?_
  refine aw_e rfl rfl rfl ?_
  refine aw_e rfl rfl rfl ?_
  refine aw_e rfl rfl rfl ?_
  refine aw_e rfl rfl rfl ?_
  refine aw_e rfl rfl rfl ?_
  refine aw_e rfl rfl rfl ?_
  refine aw_e rfl rfl rfl ?_
  refine aw_i2f rfl (by decide +kernel) ?_
  refine aw_e rfl rfl rfl ?_
  refine aw_e rfl rfl rfl ?_
  refine aw_i1t rfl (by decide +kernel) ?_
  refine aw_e rfl rfl rfl ?_
  refine aw_e rfl rfl rfl ?_
  refine aw_e rfl rfl rfl ?_
  refine aw_e rfl rfl rfl ?_
  refine aw_e rfl rfl rfl ?_
  refine aw_e rfl rfl rfl ?_
  refine aw_e rfl rfl rfl ?_
  refine aw_e rfl rfl rfl ?_
  refine aw_e rfl rfl rfl ?_
  refine aw_e rfl rfl rfl ?_
  refine aw_e rfl rfl rfl ?_
  refine aw_e rfl rfl rfl ?_
  refine aw_e rfl rfl rfl ?_
  refine aw_e rfl rfl rfl ?_
  refine aw_e rfl rfl rfl ?_
  refine aw_e rfl rfl rfl ?_
  refine aw_e rfl rfl rfl ?_
  refine aw_e rfl rfl rfl ?_
  refine aw_e rfl rfl rfl ?_
  refine aw_i2f rfl (by decide +kernel) ?_
  refine aw_e rfl rfl rfl ?_
  refine aw_e rfl rfl rfl ?_
  refine aw_i1t rfl (by decide +kernel) ?_
  refine aw_e rfl rfl rfl ?_
  refine aw_e rfl rfl rfl ?_
  refine aw_e rfl rfl rfl ?_
  refine aw_e rfl rfl rfl ?_
  refine aw_e rfl rfl rfl ?_
  refine aw_e rfl rfl rfl ?_
  refine aw_e rfl rfl rfl ?_
  refine aw_e rfl rfl rfl ?_
  refine aw_e rfl rfl rfl ?_
  refine aw_e rfl rfl rfl ?_
  refine aw_e rfl rfl rfl ?_
  refine aw_e rfl rfl rfl ?_
  refine aw_e rfl rfl rfl ?_
  refine aw_e rfl rfl rfl ?_
  refine aw_e rfl rfl rfl ?_
  refine aw_e rfl rfl rfl ?_
  refine aw_e rfl rfl rfl ?_
  refine aw_e rfl rfl rfl ?_
  refine aw_e rfl rfl rfl ?_
  refine aw_i2f rfl (by decide +kernel) ?_
  refine aw_e rfl rfl rfl ?_
  refine aw_e rfl rfl rfl ?_
  refine aw_i1t rfl (by decide +kernel) ?_
  refine aw_e rfl rfl rfl ?_
  refine aw_e rfl rfl rfl ?_
  refine aw_e rfl rfl rfl ?_
  refine aw_e rfl rfl rfl ?_
  refine aw_e rfl rfl rfl ?_
  refine aw_e rfl rfl rfl ?_
  refine aw_e rfl rfl rfl ?_
  refine aw_e rfl rfl rfl ?_
  refine aw_e rfl rfl rfl ?_
  refine aw_e rfl rfl rfl ?_
  refine aw_e rfl rfl rfl ?_
  refine aw_e rfl rfl rfl ?_
  refine aw_e rfl rfl rfl ?_
  refine aw_e rfl rfl rfl ?_
  refine aw_e rfl rfl rfl ?_
  refine aw_e rfl rfl rfl ?_
  refine aw_e rfl rfl rfl ?_
  refine aw_e rfl rfl rfl ?_
  refine aw_e rfl rfl rfl ?_
  refine aw_i2f rfl (by decide +kernel) ?_
  refine aw_e rfl rfl rfl ?_
  refine aw_e rfl rfl rfl ?_
  refine aw_i1t rfl (by decide +kernel) ?_
  refine aw_e rfl rfl rfl ?_
  refine aw_e rfl rfl rfl ?_
  refine aw_e rfl rfl rfl ?_
  refine aw_e rfl rfl rfl ?_
  refine aw_e rfl rfl rfl ?_
  refine aw_e rfl rfl rfl ?_
  refine aw_e rfl rfl rfl ?_
  refine aw_e rfl rfl rfl ?_
  refine aw_e rfl rfl rfl ?_
  refine aw_e rfl rfl rfl ?_
  refine aw_e rfl rfl rfl ?_
  refine aw_e rfl rfl rfl ?_
  refine aw_e rfl rfl rfl ?_
  refine aw_e rfl rfl rfl ?_
  refine aw_e rfl rfl rfl ?_
  refine aw_e rfl rfl rfl ?_
  refine aw_e rfl rfl rfl ?_
  refine aw_e rfl rfl rfl ?_
  refine aw_e rfl rfl rfl ?_
  refine aw_i2f rfl (by decide +kernel) ?_
  refine aw_e rfl rfl rfl ?_
  refine aw_e rfl rfl rfl ?_
  refine aw_i1t rfl (by decide +kernel) ?_
  refine aw_e rfl rfl rfl ?_
  refine aw_e rfl rfl rfl ?_
  refine aw_e rfl rfl rfl ?_
  refine aw_e rfl rfl rfl ?_
  refine aw_e rfl rfl rfl ?_
  refine aw_e rfl rfl rfl ?_
  refine aw_e rfl rfl rfl ?_
  refine aw_e rfl rfl rfl ?_
  refine aw_e rfl rfl rfl ?_
  refine aw_e rfl rfl rfl ?_
  refine aw_e rfl rfl rfl ?_
  refine aw_e rfl rfl rfl ?_
  refine aw_e rfl rfl rfl ?_
  refine aw_e rfl rfl rfl ?_
  refine aw_e rfl rfl rfl ?_
  refine aw_e rfl rfl rfl ?_
  refine aw_e rfl rfl rfl ?_
  refine aw_e rfl rfl rfl ?_
  refine aw_e rfl rfl rfl ?_
  refine aw_i2t rfl (by decide +kernel) ?_
  refine aw_rv rfl ?_
  refine aw_e rfl rfl rfl ?_
  refine aw_e rfl rfl rfl ?_
  refine aw_e rfl rfl rfl ?_
  refine aw_e rfl rfl rfl ?_
  refine aw_ci rfl rfl (by decide) rfl rfl ?_
  refine aw_e rfl rfl rfl ?_
  refine aw_e rfl rfl rfl ?_
  refine aw_i1t rfl (by decide +kernel) ?_
  refine aw_e rfl rfl rfl ?_
  refine aw_e rfl rfl rfl ?_
  refine aw_e rfl rfl rfl ?_
  refine aw_e rfl rfl rfl ?_
  refine aw_e rfl rfl rfl ?_
  refine aw_e rfl rfl rfl ?_
  refine aw_e rfl rfl rfl ?_
  refine aw_e rfl rfl rfl ?_
  refine aw_i1t rfl (by decide +kernel) ?_
  refine aw_e rfl rfl rfl ?_
  refine aw_e rfl rfl rfl ?_
  refine aw_e rfl rfl rfl ?_
  refine aw_e rfl rfl rfl ?_
  refine aw_e rfl rfl rfl ?_
  refine aw_e rfl rfl rfl ?_
  refine aw_e rfl rfl rfl ?_
  refine aw_ri rfl (by first | exact Or.inl rfl | exact Or.inr (by decide +kernel)) ?_
  refine aw_e rfl rfl rfl ?_
  refine aw_e rfl rfl rfl ?_
  refine aw_e rfl rfl rfl ?_
  refine aw_e rfl rfl rfl ?_
  refine aw_e rfl rfl rfl ?_
  refine aw_ci rfl rfl (by decide) rfl rfl ?_
  refine aw_e rfl rfl rfl ?_
  refine aw_e rfl rfl rfl ?_
  refine aw_i1t rfl (by decide +kernel) ?_
  refine aw_e rfl rfl rfl ?_
  refine aw_e rfl rfl rfl ?_
  refine aw_e rfl rfl rfl ?_
  refine aw_e rfl rfl rfl ?_
  refine aw_e rfl rfl rfl ?_
  refine aw_e rfl rfl rfl ?_
  refine aw_e rfl rfl rfl ?_
  refine aw_e rfl rfl rfl ?_
  refine aw_i1t rfl (by decide +kernel) ?_
  refine aw_e rfl rfl rfl ?_
  refine aw_e rfl rfl rfl ?_
  refine aw_e rfl rfl rfl ?_
  refine aw_e rfl rfl rfl ?_
  refine aw_e rfl rfl rfl ?_
  refine aw_e rfl rfl rfl ?_
  refine aw_e rfl rfl rfl ?_
  refine aw_ri rfl (by first | exact Or.inl rfl | exact Or.inr (by decide +kernel)) ?_
  refine aw_e rfl rfl rfl ?_
  refine aw_e rfl rfl rfl ?_
  refine aw_e rfl rfl rfl ?_
  refine aw_e rfl rfl rfl ?_
  refine aw_e rfl rfl rfl ?_
  refine aw_ci rfl rfl (by decide) rfl rfl ?_
  refine aw_e rfl rfl rfl ?_
  refine aw_e rfl rfl rfl ?_
  refine aw_i1t rfl (by decide +kernel) ?_
  refine aw_e rfl rfl rfl ?_
  refine aw_e rfl rfl rfl ?_
  refine aw_e rfl rfl rfl ?_
  refine aw_e rfl rfl rfl ?_
  refine aw_e rfl rfl rfl ?_
  refine aw_e rfl rfl rfl ?_
  refine aw_e rfl rfl rfl ?_
  refine aw_e rfl rfl rfl ?_
  refine aw_i1t rfl (by decide +kernel) ?_
  refine aw_e rfl rfl rfl ?_
  refine aw_e rfl rfl rfl ?_
  refine aw_e rfl rfl rfl ?_
  refine aw_e rfl rfl rfl ?_
  refine aw_e rfl rfl rfl ?_
  refine aw_e rfl rfl rfl ?_
  refine aw_e rfl rfl rfl ?_
  refine aw_ri rfl (by first | exact Or.inl rfl | exact Or.inr (by decide +kernel)) ?_
  refine aw_e rfl rfl rfl ?_
  refine aw_rv rfl ?_
  refine aw_e rfl rfl rfl ?_
  refine aw_i1t rfl (by decide +kernel) ?_
  refine aw_e rfl rfl rfl ?_
  refine aw_ci rfl rfl (by decide) rfl rfl ?_
  refine aw_e rfl rfl rfl ?_
  refine aw_e rfl rfl rfl ?_
  refine aw_e rfl rfl rfl ?_
  refine aw_e rfl rfl rfl ?_
  refine aw_e rfl rfl rfl ?_
  refine aw_e rfl rfl rfl ?_
  refine aw_i2f rfl (by decide +kernel) ?_
  refine aw_e rfl rfl rfl ?_
  refine aw_e rfl rfl rfl ?_
  refine aw_e rfl rfl rfl ?_
  refine aw_e rfl rfl rfl ?_
  refine aw_e rfl rfl rfl ?_
  refine aw_e rfl rfl rfl ?_
  refine aw_e rfl rfl rfl ?_
  refine aw_e rfl rfl rfl ?_
  refine aw_e rfl rfl rfl ?_
  refine aw_e rfl rfl rfl ?_
  refine aw_e rfl rfl rfl ?_
  refine aw_e rfl rfl rfl ?_
  refine aw_i2f rfl (by decide +kernel) ?_
  refine aw_e rfl rfl rfl ?_
  refine aw_e rfl rfl rfl ?_
  refine aw_e rfl rfl rfl ?_
  refine aw_e rfl rfl rfl ?_
  refine aw_e rfl rfl rfl ?_
  refine aw_e rfl rfl rfl ?_
  refine aw_e rfl rfl rfl ?_
  refine aw_e rfl rfl rfl ?_
  refine aw_e rfl rfl rfl ?_
  refine aw_e rfl rfl rfl ?_
  refine aw_e rfl rfl rfl ?_
  refine aw_e rfl rfl rfl ?_
  refine aw_i2f rfl (by decide +kernel) ?_
  refine aw_e rfl rfl rfl ?_
  refine aw_e rfl rfl rfl ?_
  refine aw_e rfl rfl rfl ?_
  refine aw_e rfl rfl rfl ?_
  refine aw_e rfl rfl rfl ?_
  refine aw_e rfl rfl rfl ?_
  refine aw_e rfl rfl rfl ?_
  refine aw_e rfl rfl rfl ?_
  refine aw_e rfl rfl rfl ?_
  refine aw_e rfl rfl rfl ?_
  refine aw_e rfl rfl rfl ?_
  refine aw_e rfl rfl rfl ?_
  refine aw_i2f rfl (by decide +kernel) ?_
  refine aw_e rfl rfl rfl ?_
  refine aw_e rfl rfl rfl ?_
  refine aw_e rfl rfl rfl ?_
  refine aw_e rfl rfl rfl ?_
  refine aw_e rfl rfl rfl ?_
  refine aw_e rfl rfl rfl ?_
  refine aw_e rfl rfl rfl ?_
  refine aw_e rfl rfl rfl ?_
  refine aw_e rfl rfl rfl ?_
  refine aw_e rfl rfl rfl ?_
  refine aw_e rfl rfl rfl ?_
  refine aw_e rfl rfl rfl ?_
  refine aw_i2f rfl (by decide +kernel) ?_
  refine aw_e rfl rfl rfl ?_
  refine aw_e rfl rfl rfl ?_
  refine aw_e rfl rfl rfl ?_
  refine aw_e rfl rfl rfl ?_
  refine aw_e rfl rfl rfl ?_
  refine aw_e rfl rfl rfl ?_
  refine aw_e rfl rfl rfl ?_
  refine aw_e rfl rfl rfl ?_
  refine aw_e rfl rfl rfl ?_
  refine aw_e rfl rfl rfl ?_
  refine aw_e rfl rfl rfl ?_
  refine aw_e rfl rfl rfl ?_
  refine aw_i2f rfl (by decide +kernel) ?_
  refine aw_e rfl rfl rfl ?_
  refine aw_e rfl rfl rfl ?_
  refine aw_e rfl rfl rfl ?_
  refine aw_e rfl rfl rfl ?_
  refine aw_e rfl rfl rfl ?_
  refine aw_e rfl rfl rfl ?_
  refine aw_e rfl rfl rfl ?_
  refine aw_e rfl rfl rfl ?_
  refine aw_e rfl rfl rfl ?_
  refine aw_e rfl rfl rfl ?_
  refine aw_e rfl rfl rfl ?_
  refine aw_e rfl rfl rfl ?_
  refine aw_i2f rfl (by decide +kernel) ?_
  refine aw_e rfl rfl rfl ?_
  refine aw_e rfl rfl rfl ?_
  refine aw_e rfl rfl rfl ?_
  refine aw_e rfl rfl rfl ?_
  refine aw_e rfl rfl rfl ?_
  refine aw_e rfl rfl rfl ?_
  refine aw_e rfl rfl rfl ?_
  refine aw_e rfl rfl rfl ?_
  refine aw_e rfl rfl rfl ?_
  refine aw_e rfl rfl rfl ?_
  refine aw_e rfl rfl rfl ?_
  refine aw_e rfl rfl rfl ?_
  refine aw_i2f rfl (by decide +kernel) ?_
  refine aw_e rfl rfl rfl ?_
  refine aw_e rfl rfl rfl ?_
  refine aw_e rfl rfl rfl ?_
  refine aw_e rfl rfl rfl ?_
  refine aw_e rfl rfl rfl ?_
  refine aw_e rfl rfl rfl ?_
  refine aw_e rfl rfl rfl ?_
  refine aw_e rfl rfl rfl ?_
  refine aw_e rfl rfl rfl ?_
  refine aw_e rfl rfl rfl ?_
  refine aw_e rfl rfl rfl ?_
  refine aw_e rfl rfl rfl ?_
  refine aw_i2f rfl (by decide +kernel) ?_
  refine aw_e rfl rfl rfl ?_
  refine aw_e rfl rfl rfl ?_
  refine aw_e rfl rfl rfl ?_
  refine aw_e rfl rfl rfl ?_
  refine aw_e rfl rfl rfl ?_
  refine aw_e rfl rfl rfl ?_
  refine aw_e rfl rfl rfl ?_
  refine aw_e rfl rfl rfl ?_
  refine aw_e rfl rfl rfl ?_
  refine aw_e rfl rfl rfl ?_
  refine aw_e rfl rfl rfl ?_
  refine aw_e rfl rfl rfl ?_
  refine aw_i2f rfl (by decide +kernel) ?_
  refine aw_e rfl rfl rfl ?_
  refine aw_e rfl rfl rfl ?_
  refine aw_e rfl rfl rfl ?_
  refine aw_e rfl rfl rfl ?_
  refine aw_e rfl rfl rfl ?_
  refine aw_e rfl rfl rfl ?_
  refine aw_e rfl rfl rfl ?_
  refine aw_e rfl rfl rfl ?_
  refine aw_e rfl rfl rfl ?_
  refine aw_e rfl rfl rfl ?_
  refine aw_e rfl rfl rfl ?_
  refine aw_e rfl rfl rfl ?_
  refine aw_i2f rfl (by decide +kernel) ?_
  refine aw_e rfl rfl rfl ?_
  refine aw_e rfl rfl rfl ?_
  refine aw_e rfl rfl rfl ?_
  refine aw_e rfl rfl rfl ?_
  refine aw_e rfl rfl rfl ?_
  refine aw_e rfl rfl rfl ?_
  refine aw_e rfl rfl rfl ?_
  refine aw_e rfl rfl rfl ?_
  refine aw_e rfl rfl rfl ?_
  refine aw_e rfl rfl rfl ?_
  refine aw_e rfl rfl rfl ?_
  refine aw_e rfl rfl rfl ?_
  refine aw_i2f rfl (by decide +kernel) ?_
  refine aw_e rfl rfl rfl ?_
  refine aw_e rfl rfl rfl ?_
  refine aw_e rfl rfl rfl ?_
  refine aw_e rfl rfl rfl ?_
  refine aw_e rfl rfl rfl ?_
  refine aw_e rfl rfl rfl ?_
  refine aw_e rfl rfl rfl ?_
  refine aw_e rfl rfl rfl ?_
  refine aw_e rfl rfl rfl ?_
  refine aw_e rfl rfl rfl ?_
  refine aw_e rfl rfl rfl ?_
  refine aw_e rfl rfl rfl ?_
  refine aw_i2f rfl (by decide +kernel) ?_
  refine aw_e rfl rfl rfl ?_
  refine aw_e rfl rfl rfl ?_
  refine aw_e rfl rfl rfl ?_
  refine aw_e rfl rfl rfl ?_
  refine aw_e rfl rfl rfl ?_
  refine aw_e rfl rfl rfl ?_
  refine aw_e rfl rfl rfl ?_
  refine aw_e rfl rfl rfl ?_
  refine aw_e rfl rfl rfl ?_
  refine aw_e rfl rfl rfl ?_
  refine aw_e rfl rfl rfl ?_
  refine aw_e rfl rfl rfl ?_
  refine aw_i2f rfl (by decide +kernel) ?_
  refine aw_e rfl rfl rfl ?_
  refine aw_e rfl rfl rfl ?_
  refine aw_e rfl rfl rfl ?_
  refine aw_e rfl rfl rfl ?_
  refine aw_e rfl rfl rfl ?_
  refine aw_e rfl rfl rfl ?_
  refine aw_e rfl rfl rfl ?_
  refine aw_e rfl rfl rfl ?_
  refine aw_e rfl rfl rfl ?_
  refine aw_e rfl rfl rfl ?_
  refine aw_e rfl rfl rfl ?_
  refine aw_e rfl rfl rfl ?_
  refine aw_i2f rfl (by decide +kernel) ?_
  refine aw_e rfl rfl rfl ?_
  refine aw_e rfl rfl rfl ?_
  refine aw_e rfl rfl rfl ?_
  refine aw_e rfl rfl rfl ?_
  refine aw_e rfl rfl rfl ?_
  refine aw_e rfl rfl rfl ?_
  refine aw_e rfl rfl rfl ?_
  refine aw_e rfl rfl rfl ?_
  refine aw_e rfl rfl rfl ?_
  refine aw_e rfl rfl rfl ?_
  refine aw_e rfl rfl rfl ?_
  refine aw_e rfl rfl rfl ?_
  refine aw_i2f rfl (by decide +kernel) ?_
  refine aw_e rfl rfl rfl ?_
  refine aw_e rfl rfl rfl ?_
  refine aw_e rfl rfl rfl ?_
  refine aw_e rfl rfl rfl ?_
  refine aw_e rfl rfl rfl ?_
  refine aw_e rfl rfl rfl ?_
  refine aw_e rfl rfl rfl ?_
  refine aw_e rfl rfl rfl ?_
  refine aw_e rfl rfl rfl ?_
  refine aw_e rfl rfl rfl ?_
  refine aw_e rfl rfl rfl ?_
  refine aw_e rfl rfl rfl ?_
  refine aw_i2f rfl (by decide +kernel) ?_
  refine aw_e rfl rfl rfl ?_
  refine aw_e rfl rfl rfl ?_
  refine aw_e rfl rfl rfl ?_
  refine aw_e rfl rfl rfl ?_
  refine aw_e rfl rfl rfl ?_
  refine aw_e rfl rfl rfl ?_
  refine aw_e rfl rfl rfl ?_
  refine aw_e rfl rfl rfl ?_
  refine aw_e rfl rfl rfl ?_
  refine aw_e rfl rfl rfl ?_
  refine aw_e rfl rfl rfl ?_
  refine aw_e rfl rfl rfl ?_
  refine aw_i2f rfl (by decide +kernel) ?_
  refine aw_e rfl rfl rfl ?_
  refine aw_e rfl rfl rfl ?_
  refine aw_e rfl rfl rfl ?_
  refine aw_e rfl rfl rfl ?_
  refine aw_e rfl rfl rfl ?_
  refine aw_e rfl rfl rfl ?_
  refine aw_e rfl rfl rfl ?_
  refine aw_e rfl rfl rfl ?_
  refine aw_e rfl rfl rfl ?_
  refine aw_e rfl rfl rfl ?_
  refine aw_e rfl rfl rfl ?_
  refine aw_e rfl rfl rfl ?_
  refine aw_i2f rfl (by decide +kernel) ?_
  refine aw_e rfl rfl rfl ?_
  refine aw_e rfl rfl rfl ?_
  refine aw_e rfl rfl rfl ?_
  refine aw_e rfl rfl rfl ?_
  refine aw_e rfl rfl rfl ?_
  refine aw_e rfl rfl rfl ?_
  refine aw_e rfl rfl rfl ?_
  refine aw_e rfl rfl rfl ?_
  refine aw_e rfl rfl rfl ?_
  refine aw_e rfl rfl rfl ?_
  refine aw_e rfl rfl rfl ?_
  refine aw_e rfl rfl rfl ?_
  refine aw_i2f rfl (by decide +kernel) ?_
  refine aw_e rfl rfl rfl ?_
  refine aw_e rfl rfl rfl ?_
  refine aw_e rfl rfl rfl ?_
  refine aw_e rfl rfl rfl ?_
  refine aw_e rfl rfl rfl ?_
  refine aw_e rfl rfl rfl ?_
  refine aw_e rfl rfl rfl ?_
  refine aw_e rfl rfl rfl ?_
  refine aw_e rfl rfl rfl ?_
  refine aw_e rfl rfl rfl ?_
  refine aw_e rfl rfl rfl ?_
  refine aw_e rfl rfl rfl ?_
  refine aw_i2f rfl (by decide +kernel) ?_
  refine aw_e rfl rfl rfl ?_
  refine aw_e rfl rfl rfl ?_
  refine aw_e rfl rfl rfl ?_
  refine aw_e rfl rfl rfl ?_
  refine aw_e rfl rfl rfl ?_
  refine aw_e rfl rfl rfl ?_
  refine aw_e rfl rfl rfl ?_
  refine aw_e rfl rfl rfl ?_
  refine aw_e rfl rfl rfl ?_
  refine aw_e rfl rfl rfl ?_
  refine aw_e rfl rfl rfl ?_
  refine aw_e rfl rfl rfl ?_
  refine aw_i2f rfl (by decide +kernel) ?_
  refine aw_e rfl rfl rfl ?_
  refine aw_e rfl rfl rfl ?_
  refine aw_e rfl rfl rfl ?_
  refine aw_e rfl rfl rfl ?_
  refine aw_e rfl rfl rfl ?_
  refine aw_e rfl rfl rfl ?_
  refine aw_e rfl rfl rfl ?_
  refine aw_e rfl rfl rfl ?_
  refine aw_e rfl rfl rfl ?_
  refine aw_e rfl rfl rfl ?_
  refine aw_e rfl rfl rfl ?_
  refine aw_e rfl rfl rfl ?_
  refine aw_i2f rfl (by decide +kernel) ?_
  refine aw_e rfl rfl rfl ?_
  refine aw_e rfl rfl rfl ?_
  refine aw_e rfl rfl rfl ?_
  refine aw_e rfl rfl rfl ?_
  refine aw_e rfl rfl rfl ?_
  refine aw_e rfl rfl rfl ?_
  refine aw_e rfl rfl rfl ?_
  refine aw_e rfl rfl rfl ?_
  refine aw_e rfl rfl rfl ?_
  refine aw_e rfl rfl rfl ?_
  refine aw_e rfl rfl rfl ?_
  refine aw_e rfl rfl rfl ?_
  refine aw_i2f rfl (by decide +kernel) ?_
  refine aw_e rfl rfl rfl ?_
  refine aw_e rfl rfl rfl ?_
  refine aw_e rfl rfl rfl ?_
  refine aw_e rfl rfl rfl ?_
  refine aw_e rfl rfl rfl ?_
  refine aw_e rfl rfl rfl ?_
  refine aw_e rfl rfl rfl ?_
  refine aw_e rfl rfl rfl ?_
  refine aw_e rfl rfl rfl ?_
  refine aw_e rfl rfl rfl ?_
  refine aw_e rfl rfl rfl ?_
  refine aw_e rfl rfl rfl ?_
  refine aw_i2f rfl (by decide +kernel) ?_
  refine aw_e rfl rfl rfl ?_
  refine aw_e rfl rfl rfl ?_
  refine aw_e rfl rfl rfl ?_
  refine aw_e rfl rfl rfl ?_
  refine aw_e rfl rfl rfl ?_
  refine aw_e rfl rfl rfl ?_
  refine aw_e rfl rfl rfl ?_
  refine aw_e rfl rfl rfl ?_
  refine aw_e rfl rfl rfl ?_
  refine aw_e rfl rfl rfl ?_
  refine aw_e rfl rfl rfl ?_
  refine aw_e rfl rfl rfl ?_
  refine aw_i2f rfl (by decide +kernel) ?_
  refine aw_e rfl rfl rfl ?_
  refine aw_e rfl rfl rfl ?_
  refine aw_e rfl rfl rfl ?_
  refine aw_e rfl rfl rfl ?_
  refine aw_e rfl rfl rfl ?_
  refine aw_e rfl rfl rfl ?_
  refine aw_e rfl rfl rfl ?_
  refine aw_e rfl rfl rfl ?_
  refine aw_e rfl rfl rfl ?_
  refine aw_e rfl rfl rfl ?_
  refine aw_e rfl rfl rfl ?_
  refine aw_e rfl rfl rfl ?_
  refine aw_i2f rfl (by decide +kernel) ?_
  refine aw_e rfl rfl rfl ?_
  refine aw_e rfl rfl rfl ?_
  refine aw_e rfl rfl rfl ?_
  refine aw_e rfl rfl rfl ?_
  refine aw_e rfl rfl rfl ?_
  refine aw_e rfl rfl rfl ?_
  refine aw_e rfl rfl rfl ?_
  refine aw_e rfl rfl rfl ?_
  refine aw_e rfl rfl rfl ?_
  refine aw_e rfl rfl rfl ?_
  refine aw_e rfl rfl rfl ?_
  refine aw_e rfl rfl rfl ?_
  refine aw_i2f rfl (by decide +kernel) ?_
  refine aw_e rfl rfl rfl ?_
  refine aw_e rfl rfl rfl ?_
  refine aw_e rfl rfl rfl ?_
  refine aw_e rfl rfl rfl ?_
  refine aw_e rfl rfl rfl ?_
  refine aw_e rfl rfl rfl ?_
  refine aw_e rfl rfl rfl ?_
  refine aw_e rfl rfl rfl ?_
  refine aw_e rfl rfl rfl ?_
  refine aw_e rfl rfl rfl ?_
  refine aw_e rfl rfl rfl ?_
  refine aw_e rfl rfl rfl ?_
  refine aw_i2f rfl (by decide +kernel) ?_
  refine aw_e rfl rfl rfl ?_
  refine aw_e rfl rfl rfl ?_
  refine aw_e rfl rfl rfl ?_
  refine aw_e rfl rfl rfl ?_
  refine aw_e rfl rfl rfl ?_
  refine aw_e rfl rfl rfl ?_
  refine aw_e rfl rfl rfl ?_
  refine aw_e rfl rfl rfl ?_
  refine aw_e rfl rfl rfl ?_
  refine aw_e rfl rfl rfl ?_
  refine aw_e rfl rfl rfl ?_
  refine aw_e rfl rfl rfl ?_
  refine aw_i2f rfl (by decide +kernel) ?_
  refine aw_e rfl rfl rfl ?_
  refine aw_e rfl rfl rfl ?_
  refine aw_e rfl rfl rfl ?_
  refine aw_e rfl rfl rfl ?_
  refine aw_e rfl rfl rfl ?_
  refine aw_e rfl rfl rfl ?_
  refine aw_e rfl rfl rfl ?_
  refine aw_e rfl rfl rfl ?_
  refine aw_e rfl rfl rfl ?_
  refine aw_e rfl rfl rfl ?_
  refine aw_e rfl rfl rfl ?_
  refine aw_e rfl rfl rfl ?_
  refine aw_i2f rfl (by decide +kernel) ?_
  refine aw_e rfl rfl rfl ?_
  refine aw_e rfl rfl rfl ?_
  refine aw_e rfl rfl rfl ?_
  refine aw_e rfl rfl rfl ?_
  refine aw_e rfl rfl rfl ?_
  refine aw_e rfl rfl rfl ?_
  refine aw_e rfl rfl rfl ?_
  refine aw_e rfl rfl rfl ?_
  refine aw_e rfl rfl rfl ?_
  refine aw_e rfl rfl rfl ?_
  refine aw_e rfl rfl rfl ?_
  refine aw_e rfl rfl rfl ?_
  refine aw_i2t rfl (by decide +kernel) ?_
  refine aw_e rfl rfl rfl ?_
  refine aw_ri rfl (by first | exact Or.inl rfl | exact Or.inr (by decide +kernel)) ?_
  refine aw_ri rfl (by first | exact Or.inl rfl | exact Or.inr (by decide +kernel)) ?_
  exact congrArg (fun z => some (Value.int z)) (by first | decide +kernel | (simp only [a_up_ap]; decide +kernel) | (simp +decide only [a_up_ap]; decide +kernel) | rfl | (simp [a_up_ap]; done))
theorem pC_tomorrow_4 (a : Int32) (ha0 : 0 ≤ a.toInt) (ha1 : a.toInt ≤ 999) (b : Int32) (hb0 : 2 ≤ b.toInt) : am wC 8 23 [.ref 0, .int a, .int b] a_M0 (fun u _ => u = some (.int (-2))) := by
  refine ⟨_, rfl, ?_⟩
  refine aw_e rfl rfl rfl ?_
  refine aw_i1t rfl (q1_ge_t (by omega)) ?_
  refine aw_e rfl rfl rfl ?_
  refine aw_e rfl rfl rfl ?_
  refine aw_i2t rfl (q2_le_t (z := 999) (by decide +kernel) (by omega)) ?_
  refine aw_e rfl rfl rfl ?_
  refine aw_e rfl rfl rfl ?_
  refine aw_ci rfl rfl (by decide) rfl rfl ?_
  refine aw_e rfl rfl rfl ?_
  refine aw_i1f rfl (q1_eq_f (by omega)) ?_
  refine aw_e rfl rfl rfl ?_
  refine aw_e rfl rfl rfl ?_
  refine aw_i2t rfl (q2_ne_t (z := 1) (by decide +kernel) (by omega)) ?_
  refine aw_e rfl rfl rfl ?_
  refine aw_ri rfl (by first | exact Or.inl rfl | exact Or.inr (by decide +kernel)) ?_
  refine aw_i1f rfl (by decide +kernel) ?_
  refine aw_e rfl rfl rfl ?_
  refine aw_e rfl rfl rfl ?_
  refine aw_ck (P := fun u _ => u = some (.int (-2))) rfl rfl (by decide) rfl rfl (aw_k 100000 (by decide +kernel)) (fun u M1 hu => ?_)
  subst hu
  refine aw_ri rfl (by first | exact Or.inl rfl | exact Or.inr (by decide +kernel)) ?_
  exact congrArg (fun z => some (Value.int z)) (by first | decide +kernel | (simp only [a_up_ap]; decide +kernel) | (simp +decide only [a_up_ap]; decide +kernel) | rfl | (simp [a_up_ap]; done))
theorem pM_tomorrow_4 (a : Int32) (ha0 : 0 ≤ a.toInt) (ha1 : a.toInt ≤ 999) (b : Int32) (hb0 : 2 ≤ b.toInt) : am wM 8 229 [.ref a_mo, .int a, .int b] a_M0 (fun u _ => u = some (.int (-2))) := by
  refine ⟨_, rfl, ?_⟩
  refine aw_e rfl rfl rfl ?_
  refine aw_e rfl rfl rfl ?_
  refine aw_e rfl rfl rfl ?_
  refine aw_ci rfl rfl (by decide) rfl rfl ?_
  refine aw_e rfl rfl rfl ?_
  refine aw_e rfl rfl rfl ?_
  refine aw_i2t rfl (q2_ge_t (z := 0) (by decide +kernel) (by omega)) ?_
  refine aw_e rfl rfl rfl ?_
  refine aw_e rfl rfl rfl ?_
  refine aw_i2t rfl (q2_le_t (z := 999) (by decide +kernel) (by omega)) ?_
  refine aw_e rfl rfl rfl ?_
  refine aw_ri rfl (by first | exact Or.inl rfl | exact Or.inr (by decide +kernel)) ?_
  refine aw_e rfl rfl rfl ?_
  refine aw_e rfl rfl rfl ?_
  refine aw_i1f rfl (by decide +kernel) ?_
  refine aw_e rfl rfl rfl ?_
  refine aw_e rfl rfl rfl ?_
  refine aw_e rfl rfl rfl ?_
  refine aw_ci rfl rfl (by decide) rfl rfl ?_
  refine aw_e rfl rfl rfl ?_
  refine aw_e rfl rfl rfl ?_
  refine aw_i2f rfl (q2_lt_f (z := 0) (by decide +kernel) (by omega)) ?_
  refine aw_e rfl rfl rfl ?_
  refine aw_e rfl rfl rfl ?_
  refine aw_i2t rfl (q2_gt_t (z := 1) (by decide +kernel) (by omega)) ?_
  refine aw_e rfl rfl rfl ?_
  refine aw_ri rfl (by first | exact Or.inl rfl | exact Or.inr (by decide +kernel)) ?_
  refine aw_i1f rfl (by decide +kernel) ?_
  refine aw_e rfl rfl rfl ?_
  refine aw_e rfl rfl rfl ?_
  refine aw_e rfl rfl rfl ?_
  refine aw_i1f rfl (by decide +kernel) ?_
  refine aw_e rfl rfl rfl ?_
  refine aw_e rfl rfl rfl ?_
  refine aw_ck (P := fun u _ => u = some (.int (-2))) rfl rfl (by decide) rfl rfl (aw_k 100000 (by decide +kernel)) (fun u M1 hu => ?_)
  subst hu
  refine aw_ri rfl (by first | exact Or.inl rfl | exact Or.inr (by decide +kernel)) ?_
  exact congrArg (fun z => some (Value.int z)) (by first | decide +kernel | (simp only [a_up_ap]; decide +kernel) | (simp +decide only [a_up_ap]; decide +kernel) | rfl | (simp [a_up_ap]; done))
theorem pC_tomorrow_5 (a : Int32) (ha0 : 1000 ≤ a.toInt) (b : Int32) : am wC 8 23 [.ref 0, .int a, .int b] a_M0 (fun u _ => u = some (.int (-6))) := by
  refine ⟨_, rfl, ?_⟩
  refine aw_e rfl rfl rfl ?_
  refine aw_i1t rfl (q1_ge_t (by omega)) ?_
  refine aw_e rfl rfl rfl ?_
  refine aw_e rfl rfl rfl ?_
  refine aw_i2f rfl (q2_le_f (z := 999) (by decide +kernel) (by omega)) ?_
  refine aw_e rfl rfl rfl ?_
  refine aw_e rfl rfl rfl ?_
  refine aw_ck (P := fun u _ => u = some (.int (-6))) rfl rfl (by decide) rfl rfl (aw_k 100000 (by decide +kernel)) (fun u M1 hu => ?_)
  subst hu
  refine aw_ri rfl (by first | exact Or.inl rfl | exact Or.inr (by decide +kernel)) ?_
  exact congrArg (fun z => some (Value.int z)) (by first | decide +kernel | (simp only [a_up_ap]; decide +kernel) | (simp +decide only [a_up_ap]; decide +kernel) | rfl | (simp [a_up_ap]; done))
theorem pM_tomorrow_5 (a : Int32) (ha0 : 1000 ≤ a.toInt) (b : Int32) : am wM 8 229 [.ref a_mo, .int a, .int b] a_M0 (fun u _ => u = some (.int (-6))) := by
  refine ⟨_, rfl, ?_⟩
  refine aw_e rfl rfl rfl ?_
  refine aw_e rfl rfl rfl ?_
  refine aw_e rfl rfl rfl ?_
  refine aw_ci rfl rfl (by decide) rfl rfl ?_
  refine aw_e rfl rfl rfl ?_
  refine aw_e rfl rfl rfl ?_
  refine aw_i2t rfl (q2_ge_t (z := 0) (by decide +kernel) (by omega)) ?_
  refine aw_e rfl rfl rfl ?_
  refine aw_e rfl rfl rfl ?_
  refine aw_i2f rfl (q2_le_f (z := 999) (by decide +kernel) (by omega)) ?_
  refine aw_e rfl rfl rfl ?_
  refine aw_e rfl rfl rfl ?_
  refine aw_ri rfl (by first | exact Or.inl rfl | exact Or.inr (by decide +kernel)) ?_
  refine aw_e rfl rfl rfl ?_
  refine aw_e rfl rfl rfl ?_
  refine aw_i1t rfl (by decide +kernel) ?_
  refine aw_e rfl rfl rfl ?_
  refine aw_i1f rfl (by decide +kernel) ?_
  refine aw_e rfl rfl rfl ?_
  refine aw_e rfl rfl rfl ?_
  refine aw_ck (P := fun u _ => u = some (.int (-6))) rfl rfl (by decide) rfl rfl (aw_k 100000 (by decide +kernel)) (fun u M1 hu => ?_)
  subst hu
  refine aw_ri rfl (by first | exact Or.inl rfl | exact Or.inr (by decide +kernel)) ?_
  exact congrArg (fun z => some (Value.int z)) (by first | decide +kernel | (simp only [a_up_ap]; decide +kernel) | (simp +decide only [a_up_ap]; decide +kernel) | rfl | (simp [a_up_ap]; done))
theorem op_tomorrow (a b : Int32) : op_ok 23 229 [.int a, .int b] := by
  have ba0 := Int32.le_toInt a
  have ba1 := Int32.toInt_lt a
  have bb0 := Int32.le_toInt b
  have bb1 := Int32.toInt_lt b
  rcases (show a.toInt ≤ (-1) ∨ (0 ≤ a.toInt ∧ a.toInt ≤ 999) ∨ 1000 ≤ a.toInt by omega) with ha | ha | ha
  · exact ⟨_, pC_tomorrow_0 a (by omega) b, pM_tomorrow_0 a (by omega) b⟩
  · rcases (show b.toInt ≤ (-1) ∨ b.toInt = 0 ∨ b.toInt = 1 ∨ 2 ≤ b.toInt by omega) with hb | hb | hb | hb
    · exact ⟨_, pC_tomorrow_1 a (by omega) (by omega) b (by omega), pM_tomorrow_1 a (by omega) (by omega) b (by omega)⟩
    · obtain rfl : b = 0 := q_val (z := 0) (by decide) hb
      exact ⟨_, pC_tomorrow_2 a (by omega) (by omega), pM_tomorrow_2 a (by omega) (by omega)⟩
    · obtain rfl : b = 1 := q_val (z := 1) (by decide) hb
      exact ⟨_, pC_tomorrow_3 a (by omega) (by omega), pM_tomorrow_3 a (by omega) (by omega)⟩
    · exact ⟨_, pC_tomorrow_4 a (by omega) (by omega) b (by omega), pM_tomorrow_4 a (by omega) (by omega) b (by omega)⟩
  · exact ⟨_, pC_tomorrow_5 a (by omega) b, pM_tomorrow_5 a (by omega) b⟩
