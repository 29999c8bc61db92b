theorem pC_feed_0 (a : Int32) (ha1 : a.toInt ≤ (-1)) : am wC 8 0 [.ref 0, .int a] a_M0 (fun u _ => u = some (.int (-4))) := by
  refine ⟨_, rfl, ?_⟩
  refine aw_e rfl rfl rfl ?_
  refine aw_i1f rfl (q1_ge_f (by omega)) ?_
  refine aw_e rfl rfl rfl ?_
  refine aw_e rfl rfl rfl ?_
  refine aw_ck (P := fun u _ => u = some (.int (-4))) rfl rfl (by decide) rfl rfl (aw_k 100000 (by decide +kernel)) (fun u M1 hu => ?_)
  subst hu
  refine aw_ri rfl (by first | exact Or.inl rfl | exact Or.inr (by decide +kernel)) ?_
  exact congrArg (fun z => some (Value.int z)) (by first | decide +kernel | (simp only [a_up_ap]; decide +kernel) | (simp +decide only [a_up_ap]; decide +kernel) | rfl | (simp [a_up_ap]; done))
theorem pM_feed_0 (a : Int32) (ha1 : a.toInt ≤ (-1)) : am wM 8 157 [.ref a_mo, .int a] a_M0 (fun u _ => u = some (.int (-4))) := by
  refine ⟨_, rfl, ?_⟩
  refine aw_e rfl rfl rfl ?_
  refine aw_e rfl rfl rfl ?_
  refine aw_e rfl rfl rfl ?_
  refine aw_ci rfl rfl (by decide) rfl rfl ?_
  refine aw_e rfl rfl rfl ?_
  refine aw_e rfl rfl rfl ?_
  refine aw_i2f rfl (q2_ge_f (z := 0) (by decide +kernel) (by omega)) ?_
  refine aw_e rfl rfl rfl ?_
  refine aw_e rfl rfl rfl ?_
  refine aw_ri rfl (by first | exact Or.inl rfl | exact Or.inr (by decide +kernel)) ?_
  refine aw_e rfl rfl rfl ?_
  refine aw_e rfl rfl rfl ?_
  refine aw_i1t rfl (by decide +kernel) ?_
  refine aw_e rfl rfl rfl ?_
  refine aw_i1f rfl (by decide +kernel) ?_
  refine aw_e rfl rfl rfl ?_
  refine aw_e rfl rfl rfl ?_
  refine aw_ck (P := fun u _ => u = some (.int (-4))) rfl rfl (by decide) rfl rfl (aw_k 100000 (by decide +kernel)) (fun u M1 hu => ?_)
  subst hu
  refine aw_ri rfl (by first | exact Or.inl rfl | exact Or.inr (by decide +kernel)) ?_
  exact congrArg (fun z => some (Value.int z)) (by first | decide +kernel | (simp only [a_up_ap]; decide +kernel) | (simp +decide only [a_up_ap]; decide +kernel) | rfl | (simp [a_up_ap]; done))
theorem pC_feed_1 (a : Int32) (ha0 : 0 ≤ a.toInt) (ha1 : a.toInt ≤ 255) : am wC 8 0 [.ref 0, .int a] a_M0 (fun u _ => u = some (.int 1)) := by
  refine ⟨_, rfl, ?_⟩
  refine aw_e rfl rfl rfl ?_
  refine aw_i1t rfl (q1_ge_t (by omega)) ?_
  refine aw_e rfl rfl rfl ?_
  refine aw_e rfl rfl rfl ?_
  refine aw_i2f rfl (q2_gt_f (z := 255) (by decide +kernel) (by omega)) ?_
  refine aw_e rfl rfl rfl ?_
  refine aw_e rfl rfl rfl ?_
  refine aw_e rfl rfl rfl ?_
  refine aw_e rfl rfl rfl ?_
  refine aw_i2t rfl (by decide +kernel) ?_
  refine aw_e rfl rfl rfl ?_
  refine aw_e rfl rfl rfl ?_
  refine aw_e rfl rfl rfl ?_
  refine aw_ci rfl rfl (by decide) rfl rfl ?_
  refine aw_e rfl rfl rfl ?_
  refine aw_e rfl rfl rfl ?_
  refine aw_e rfl rfl rfl ?_
  refine aw_i2f rfl (by decide +kernel) ?_
  refine aw_e rfl rfl rfl ?_
  refine aw_e rfl rfl rfl ?_
  refine aw_e rfl rfl rfl ?_
  refine aw_e rfl rfl rfl ?_
  refine aw_e rfl rfl rfl ?_
  refine aw_ci rfl rfl (by decide) rfl rfl ?_
  refine aw_e rfl rfl rfl ?_
  refine aw_e rfl rfl rfl ?_
  refine aw_e rfl rfl rfl ?_
  refine aw_i1f rfl (by decide +kernel) ?_
  refine aw_e rfl rfl rfl ?_
  refine aw_e rfl rfl rfl ?_
  refine aw_e rfl rfl rfl ?_
  refine aw_i2f rfl (by decide +kernel) ?_
  refine aw_e rfl rfl rfl ?_
  refine aw_e rfl rfl rfl ?_
  refine aw_e rfl rfl rfl ?_
  refine aw_e rfl rfl rfl ?_
  refine aw_rv rfl ?_
  refine aw_e rfl rfl rfl ?_
  refine aw_e rfl rfl rfl ?_
  refine aw_e rfl rfl rfl ?_
  refine aw_e rfl rfl rfl ?_
  refine aw_e rfl rfl rfl ?_
  refine aw_e rfl rfl rfl ?_
  refine aw_e rfl rfl rfl ?_
  refine aw_e rfl rfl rfl ?_
  refine aw_ri rfl (by first | exact Or.inl rfl | exact Or.inr (by decide +kernel)) ?_
  refine aw_ri rfl (by first | exact Or.inl rfl | exact Or.inr (by decide +kernel)) ?_
  exact congrArg (fun z => some (Value.int z)) (by first | decide +kernel | (simp only [a_up_ap]; decide +kernel) | (simp +decide only [a_up_ap]; decide +kernel) | rfl | (simp [a_up_ap]; done))
theorem pM_feed_1 (a : Int32) (ha0 : 0 ≤ a.toInt) (ha1 : a.toInt ≤ 255) : am wM 8 157 [.ref a_mo, .int a] a_M0 (fun u _ => u = some (.int 1)) := by
  refine ⟨_, rfl, ?_⟩
  refine aw_e rfl rfl rfl ?_
  refine aw_e rfl rfl rfl ?_
  refine aw_e rfl rfl rfl ?_
  refine aw_ci rfl rfl (by decide) rfl rfl ?_
  refine aw_e rfl rfl rfl ?_
  refine aw_e rfl rfl rfl ?_
  refine aw_i2t rfl (q2_ge_t (z := 0) (by decide +kernel) (by omega)) ?_
  refine aw_e rfl rfl rfl ?_
  refine aw_e rfl rfl rfl ?_
  refine aw_i2t rfl (q2_le_t (z := 255) (by decide +kernel) (by omega)) ?_
  refine aw_e rfl rfl rfl ?_
  refine aw_ri rfl (by first | exact Or.inl rfl | exact Or.inr (by decide +kernel)) ?_
  refine aw_e rfl rfl rfl ?_
  refine aw_e rfl rfl rfl ?_
  refine aw_i1f rfl (by decide +kernel) ?_
  refine aw_e rfl rfl rfl ?_
  refine aw_e rfl rfl rfl ?_
  refine aw_e rfl rfl rfl ?_
  refine aw_i2t rfl (by decide +kernel) ?_
  refine aw_e rfl rfl rfl ?_
  refine aw_i1t rfl (by decide +kernel) ?_
  refine aw_e rfl rfl rfl ?_
  refine aw_e rfl rfl rfl ?_
  refine aw_e rfl rfl rfl ?_
  refine aw_e rfl rfl rfl ?_
  refine aw_e rfl rfl rfl ?_
  refine aw_e rfl rfl rfl ?_
  refine aw_e rfl rfl rfl ?_
  refine aw_e rfl rfl rfl ?_
  refine aw_e rfl rfl rfl ?_
  refine aw_e rfl rfl rfl ?_
  refine aw_e rfl rfl rfl ?_
  refine aw_e rfl rfl rfl ?_
  refine aw_e rfl rfl rfl ?_
  refine aw_e rfl rfl rfl ?_
  refine aw_ri rfl (by first | exact Or.inl rfl | exact Or.inr (by decide +kernel)) ?_
  exact congrArg (fun z => some (Value.int z)) (by first | decide +kernel | (simp only [a_up_ap]; decide +kernel) | (simp +decide only [a_up_ap]; decide +kernel) | rfl | (simp [a_up_ap]; done))
theorem pC_feed_2 (a : Int32) (ha0 : 256 ≤ a.toInt) : am wC 8 0 [.ref 0, .int a] a_M0 (fun u _ => u = some (.int (-6))) := by
  refine ⟨_, rfl, ?_⟩
  refine aw_e rfl rfl rfl ?_
  refine aw_i1t rfl (q1_ge_t (by omega)) ?_
  refine aw_e rfl rfl rfl ?_
  refine aw_e rfl rfl rfl ?_
  refine aw_i2t rfl (q2_gt_t (z := 255) (by decide +kernel) (by omega)) ?_
  refine aw_e rfl rfl rfl ?_
  refine aw_e rfl rfl rfl ?_
  refine aw_ck (P := fun u _ => u = some (.int (-6))) rfl rfl (by decide) rfl rfl (aw_k 100000 (by decide +kernel)) (fun u M1 hu => ?_)
  subst hu
  refine aw_ri rfl (by first | exact Or.inl rfl | exact Or.inr (by decide +kernel)) ?_
  exact congrArg (fun z => some (Value.int z)) (by first | decide +kernel | (simp only [a_up_ap]; decide +kernel) | (simp +decide only [a_up_ap]; decide +kernel) | rfl | (simp [a_up_ap]; done))
theorem pM_feed_2 (a : Int32) (ha0 : 256 ≤ a.toInt) : am wM 8 157 [.ref a_mo, .int a] a_M0 (fun u _ => u = some (.int (-6))) := by
  refine ⟨_, rfl, ?_⟩
  refine aw_e rfl rfl rfl ?_
  refine aw_e rfl rfl rfl ?_
  refine aw_e rfl rfl rfl ?_
  refine aw_ci rfl rfl (by decide) rfl rfl ?_
  refine aw_e rfl rfl rfl ?_
  refine aw_e rfl rfl rfl ?_
  refine aw_i2t rfl (q2_ge_t (z := 0) (by decide +kernel) (by omega)) ?_
  refine aw_e rfl rfl rfl ?_
  refine aw_e rfl rfl rfl ?_
  refine aw_i2f rfl (q2_le_f (z := 255) (by decide +kernel) (by omega)) ?_
  refine aw_e rfl rfl rfl ?_
  refine aw_e rfl rfl rfl ?_
  refine aw_ri rfl (by first | exact Or.inl rfl | exact Or.inr (by decide +kernel)) ?_
  refine aw_e rfl rfl rfl ?_
  refine aw_e rfl rfl rfl ?_
  refine aw_i1t rfl (by decide +kernel) ?_
  refine aw_e rfl rfl rfl ?_
  refine aw_i1f rfl (by decide +kernel) ?_
  refine aw_e rfl rfl rfl ?_
  refine aw_e rfl rfl rfl ?_
  refine aw_ck (P := fun u _ => u = some (.int (-6))) rfl rfl (by decide) rfl rfl (aw_k 100000 (by decide +kernel)) (fun u M1 hu => ?_)
  subst hu
  refine aw_ri rfl (by first | exact Or.inl rfl | exact Or.inr (by decide +kernel)) ?_
  exact congrArg (fun z => some (Value.int z)) (by first | decide +kernel | (simp only [a_up_ap]; decide +kernel) | (simp +decide only [a_up_ap]; decide +kernel) | rfl | (simp [a_up_ap]; done))
theorem op_feed (a : Int32) : op_ok 0 157 [.int a] := by
  have ba0 := Int32.le_toInt a
  have ba1 := Int32.toInt_lt a
  rcases (show a.toInt ≤ (-1) ∨ (0 ≤ a.toInt ∧ a.toInt ≤ 255) ∨ 256 ≤ a.toInt by omega) with ha | ha | ha
  · exact ⟨_, pC_feed_0 a (by omega), pM_feed_0 a (by omega)⟩
  · exact ⟨_, pC_feed_1 a (by omega) (by omega), pM_feed_1 a (by omega) (by omega)⟩
  · exact ⟨_, pC_feed_2 a (by omega), pM_feed_2 a (by omega)⟩
theorem pC_thing_0 (a : Int32) (ha1 : a.toInt ≤ (-1)) (b : Int32) : am wC 8 2 [.ref 0, .int a, .int b] a_M0 (fun u _ => u = some (.int (-1))) := by
  refine ⟨_, rfl, ?_⟩
  refine aw_e rfl rfl rfl ?_
  refine aw_e rfl rfl rfl ?_
  refine aw_ci rfl rfl (by decide) rfl rfl ?_
  refine aw_e rfl rfl rfl ?_
  refine aw_i1t rfl (q1_lt_t (by omega)) ?_
  refine aw_e rfl rfl rfl ?_
  refine aw_ri rfl (by first | exact Or.inl rfl | exact Or.inr (by decide +kernel)) ?_
  refine aw_i1f rfl (by decide +kernel) ?_
  refine aw_e rfl rfl rfl ?_
  refine aw_e rfl rfl rfl ?_
  refine aw_ck (P := fun u _ => u = some (.int (-1))) rfl rfl (by decide) rfl rfl (aw_k 100000 (by decide +kernel)) (fun u M1 hu => ?_)
  subst hu
  refine aw_ri rfl (by first | exact Or.inl rfl | exact Or.inr (by decide +kernel)) ?_
  exact congrArg (fun z => some (Value.int z)) (by first | decide +kernel | (simp only [a_up_ap]; decide +kernel) | (simp +decide only [a_up_ap]; decide +kernel) | rfl | (simp [a_up_ap]; done))
theorem pM_thing_0 (a : Int32) (ha1 : a.toInt ≤ (-1)) (b : Int32) : am wM 8 179 [.ref a_mo, .int a, .int b] a_M0 (fun u _ => u = some (.int (-1))) := by
  refine ⟨_, rfl, ?_⟩
  refine aw_e rfl rfl rfl ?_
  refine aw_e rfl rfl rfl ?_
  refine aw_ci rfl rfl (by decide) rfl rfl ?_
  refine aw_e rfl rfl rfl ?_
  refine aw_i1t rfl (q1_lt_t (by omega)) ?_
  refine aw_e rfl rfl rfl ?_
  refine aw_ri rfl (by first | exact Or.inl rfl | exact Or.inr (by decide +kernel)) ?_
  refine aw_i1f rfl (by decide +kernel) ?_
  refine aw_e rfl rfl rfl ?_
  refine aw_e rfl rfl rfl ?_
  refine aw_ck (P := fun u _ => u = some (.int (-1))) rfl rfl (by decide) rfl rfl (aw_k 100000 (by decide +kernel)) (fun u M1 hu => ?_)
  subst hu
  refine aw_ri rfl (by first | exact Or.inl rfl | exact Or.inr (by decide +kernel)) ?_
  exact congrArg (fun z => some (Value.int z)) (by first | decide +kernel | (simp only [a_up_ap]; decide +kernel) | (simp +decide only [a_up_ap]; decide +kernel) | rfl | (simp [a_up_ap]; done))
theorem pC_thing_1 (a : Int32) (ha0 : 0 ≤ a.toInt) (b : Int32) : am wC 8 2 [.ref 0, .int a, .int b] a_M0 (fun u _ => u = some (.int (-1))) := by
  refine ⟨_, rfl, ?_⟩
  refine aw_e rfl rfl rfl ?_
  refine aw_e rfl rfl rfl ?_
  refine aw_ci rfl rfl (by decide) rfl rfl ?_
  refine aw_e rfl rfl rfl ?_
  refine aw_i1f rfl (q1_lt_f (by omega)) ?_
  refine aw_e rfl rfl rfl ?_
  refine aw_e rfl rfl rfl ?_
  refine aw_e rfl rfl rfl ?_
  refine aw_e rfl rfl rfl ?_
  refine aw_e rfl rfl rfl ?_
  refine aw_i2t rfl (q2_ge_t (z := 0) (by decide +kernel) (by omega)) ?_
  refine aw_e rfl rfl rfl ?_
  refine aw_ri rfl (by first | exact Or.inl rfl | exact Or.inr (by decide +kernel)) ?_
  refine aw_i1f rfl (by decide +kernel) ?_
  refine aw_e rfl rfl rfl ?_
  refine aw_e rfl rfl rfl ?_
  refine aw_ck (P := fun u _ => u = some (.int (-1))) rfl rfl (by decide) rfl rfl (aw_k 100000 (by decide +kernel)) (fun u M1 hu => ?_)
  subst hu
  refine aw_ri rfl (by first | exact Or.inl rfl | exact Or.inr (by decide +kernel)) ?_
  exact congrArg (fun z => some (Value.int z)) (by first | decide +kernel | (simp only [a_up_ap]; decide +kernel) | (simp +decide only [a_up_ap]; decide +kernel) | rfl | (simp [a_up_ap]; done))
theorem pM_thing_1 (a : Int32) (ha0 : 0 ≤ a.toInt) (b : Int32) : am wM 8 179 [.ref a_mo, .int a, .int b] a_M0 (fun u _ => u = some (.int (-1))) := by
  refine ⟨_, rfl, ?_⟩
  refine aw_e rfl rfl rfl ?_
  refine aw_e rfl rfl rfl ?_
  refine aw_ci rfl rfl (by decide) rfl rfl ?_
  refine aw_e rfl rfl rfl ?_
  refine aw_i1f rfl (q1_lt_f (by omega)) ?_
  refine aw_e rfl rfl rfl ?_
  refine aw_e rfl rfl rfl ?_
  refine aw_e rfl rfl rfl ?_
  refine aw_i2t rfl (q2_ge_t (z := 0) (by decide +kernel) (by omega)) ?_
  refine aw_e rfl rfl rfl ?_
  refine aw_ri rfl (by first | exact Or.inl rfl | exact Or.inr (by decide +kernel)) ?_
  refine aw_i1f rfl (by decide +kernel) ?_
  refine aw_e rfl rfl rfl ?_
  refine aw_e rfl rfl rfl ?_
  refine aw_ck (P := fun u _ => u = some (.int (-1))) rfl rfl (by decide) rfl rfl (aw_k 100000 (by decide +kernel)) (fun u M1 hu => ?_)
  subst hu
  refine aw_ri rfl (by first | exact Or.inl rfl | exact Or.inr (by decide +kernel)) ?_
  exact congrArg (fun z => some (Value.int z)) (by first | decide +kernel | (simp only [a_up_ap]; decide +kernel) | (simp +decide only [a_up_ap]; decide +kernel) | rfl | (simp [a_up_ap]; done))
theorem op_thing (a b : Int32) : op_ok 2 179 [.int a, .int b] := by
  have ba0 := Int32.le_toInt a
  have ba1 := Int32.toInt_lt a
  have bb0 := Int32.le_toInt b
  have bb1 := Int32.toInt_lt b
  rcases (show a.toInt ≤ (-1) ∨ 0 ≤ a.toInt by omega) with ha | ha
  · exact ⟨_, pC_thing_0 a (by omega) b, pM_thing_0 a (by omega) b⟩
  · exact ⟨_, pC_thing_1 a (by omega) b, pM_thing_1 a (by omega) b⟩
theorem pC_washing_0 (a : Int32) (ha1 : a.toInt ≤ (-1)) (b : Int32) (c : Int32) : am wC 8 3 [.ref 0, .int a, .int b, .int c] a_M0 (fun u _ => u = some (.int (-1))) := by
  refine ⟨_, rfl, ?_⟩
  refine aw_e rfl rfl rfl ?_
  refine aw_e rfl rfl rfl ?_
  refine aw_ci rfl rfl (by decide) rfl rfl ?_
  refine aw_e rfl rfl rfl ?_
  refine aw_i1t rfl (q1_lt_t (by omega)) ?_
  refine aw_e rfl rfl rfl ?_
  refine aw_ri rfl (by first | exact Or.inl rfl | exact Or.inr (by decide +kernel)) ?_
  refine aw_i1f rfl (by decide +kernel) ?_
  refine aw_e rfl rfl rfl ?_
  refine aw_e rfl rfl rfl ?_
  refine aw_ck (P := fun u _ => u = some (.int (-1))) rfl rfl (by decide) rfl rfl (aw_k 100000 (by decide +kernel)) (fun u M1 hu => ?_)
  subst hu
  refine aw_ri rfl (by first | exact Or.inl rfl | exact Or.inr (by decide +kernel)) ?_
  exact congrArg (fun z => some (Value.int z)) (by first | decide +kernel | (simp only [a_up_ap]; decide +kernel) | (simp +decide only [a_up_ap]; decide +kernel) | rfl | (simp [a_up_ap]; done))
theorem pM_washing_0 (a : Int32) (ha1 : a.toInt ≤ (-1)) (b : Int32) (c : Int32) : am wM 8 180 [.ref a_mo, .int a, .int b, .int c] a_M0 (fun u _ => u = some (.int (-1))) := by
  refine ⟨_, rfl, ?_⟩
  refine aw_e rfl rfl rfl ?_
  refine aw_e rfl rfl rfl ?_
  refine aw_ci rfl rfl (by decide) rfl rfl ?_
  refine aw_e rfl rfl rfl ?_
  refine aw_i1t rfl (q1_lt_t (by omega)) ?_
  refine aw_e rfl rfl rfl ?_
  refine aw_ri rfl (by first | exact Or.inl rfl | exact Or.inr (by decide +kernel)) ?_
  refine aw_i1f rfl (by decide +kernel) ?_
  refine aw_e rfl rfl rfl ?_
  refine aw_e rfl rfl rfl ?_
  refine aw_e rfl rfl rfl ?_
  refine aw_e rfl rfl rfl ?_
  refine aw_i1f rfl (by decide +kernel) ?_
  refine aw_e rfl rfl rfl ?_
  refine aw_e rfl rfl rfl ?_
  refine aw_ck (P := fun u _ => u = some (.int (-1))) rfl rfl (by decide) rfl rfl (aw_k 100000 (by decide +kernel)) (fun u M1 hu => ?_)
  subst hu
  refine aw_e rfl rfl rfl ?_
  refine aw_ri rfl (by first | exact Or.inl rfl | exact Or.inr (by decide +kernel)) ?_
  exact congrArg (fun z => some (Value.int z)) (by first | decide +kernel | (simp only [a_up_ap]; decide +kernel) | (simp +decide only [a_up_ap]; decide +kernel) | rfl | (simp [a_up_ap]; done))
theorem pC_washing_1 (a : Int32) (ha0 : 0 ≤ a.toInt) (b : Int32) (c : Int32) : am wC 8 3 [.ref 0, .int a, .int b, .int c] a_M0 (fun u _ => u = some (.int (-1))) := by
  refine ⟨_, rfl, ?_⟩
  refine aw_e rfl rfl rfl ?_
  refine aw_e rfl rfl rfl ?_
  refine aw_ci rfl rfl (by decide) rfl rfl ?_
  refine aw_e rfl rfl rfl ?_
  refine aw_i1f rfl (q1_lt_f (by omega)) ?_
  refine aw_e rfl rfl rfl ?_
  refine aw_e rfl rfl rfl ?_
  refine aw_e rfl rfl rfl ?_
  refine aw_e rfl rfl rfl ?_
  refine aw_e rfl rfl rfl ?_
  refine aw_i2t rfl (q2_ge_t (z := 0) (by decide +kernel) (by omega)) ?_
  refine aw_e rfl rfl rfl ?_
  refine aw_ri rfl (by first | exact Or.inl rfl | exact Or.inr (by decide +kernel)) ?_
  refine aw_i1f rfl (by decide +kernel) ?_
  refine aw_e rfl rfl rfl ?_
  refine aw_e rfl rfl rfl ?_
  refine aw_ck (P := fun u _ => u = some (.int (-1))) rfl rfl (by decide) rfl rfl (aw_k 100000 (by decide +kernel)) (fun u M1 hu => ?_)
  subst hu
  refine aw_ri rfl (by first | exact Or.inl rfl | exact Or.inr (by decide +kernel)) ?_
  exact congrArg (fun z => some (Value.int z)) (by first | decide +kernel | (simp only [a_up_ap]; decide +kernel) | (simp +decide only [a_up_ap]; decide +kernel) | rfl | (simp [a_up_ap]; done))
theorem pM_washing_1 (a : Int32) (ha0 : 0 ≤ a.toInt) (b : Int32) (c : Int32) : am wM 8 180 [.ref a_mo, .int a, .int b, .int c] a_M0 (fun u _ => u = some (.int (-1))) := by
  refine ⟨_, rfl, ?_⟩
  refine aw_e rfl rfl rfl ?_
  refine aw_e rfl rfl rfl ?_
  refine aw_ci rfl rfl (by decide) rfl rfl ?_
  refine aw_e rfl rfl rfl ?_
  refine aw_i1f rfl (q1_lt_f (by omega)) ?_
  refine aw_e rfl rfl rfl ?_
  refine aw_e rfl rfl rfl ?_
  refine aw_e rfl rfl rfl ?_
  refine aw_i2t rfl (q2_ge_t (z := 0) (by decide +kernel) (by omega)) ?_
  refine aw_e rfl rfl rfl ?_
  refine aw_ri rfl (by first | exact Or.inl rfl | exact Or.inr (by decide +kernel)) ?_
  refine aw_i1f rfl (by decide +kernel) ?_
  refine aw_e rfl rfl rfl ?_
  refine aw_e rfl rfl rfl ?_
  refine aw_e rfl rfl rfl ?_
  refine aw_e rfl rfl rfl ?_
  refine aw_i1f rfl (by decide +kernel) ?_
  refine aw_e rfl rfl rfl ?_
  refine aw_e rfl rfl rfl ?_
  refine aw_ck (P := fun u _ => u = some (.int (-1))) rfl rfl (by decide) rfl rfl (aw_k 100000 (by decide +kernel)) (fun u M1 hu => ?_)
  subst hu
  refine aw_e rfl rfl rfl ?_
  refine aw_ri rfl (by first | exact Or.inl rfl | exact Or.inr (by decide +kernel)) ?_
  exact congrArg (fun z => some (Value.int z)) (by first | decide +kernel | (simp only [a_up_ap]; decide +kernel) | (simp +decide only [a_up_ap]; decide +kernel) | rfl | (simp [a_up_ap]; done))
theorem op_washing (a b c : Int32) : op_ok 3 180 [.int a, .int b, .int c] := by
  have ba0 := Int32.le_toInt a
  have ba1 := Int32.toInt_lt a
  have bb0 := Int32.le_toInt b
  have bb1 := Int32.toInt_lt b
  have bc0 := Int32.le_toInt c
  have bc1 := Int32.toInt_lt c
  rcases (show a.toInt ≤ (-1) ∨ 0 ≤ a.toInt by omega) with ha | ha
  · exact ⟨_, pC_washing_0 a (by omega) b c, pM_washing_0 a (by omega) b c⟩
  · exact ⟨_, pC_washing_1 a (by omega) b c, pM_washing_1 a (by omega) b c⟩
theorem pC_put_0 (a : Int32) (ha1 : a.toInt ≤ (-1)) : am wC 8 5 [.ref 0, .int a] a_M0 (fun u _ => u = some (.int (-1))) := by
  refine ⟨_, rfl, ?_⟩
  refine aw_e rfl rfl rfl ?_
  refine aw_e rfl rfl rfl ?_
  refine aw_ci rfl rfl (by decide) rfl rfl ?_
  refine aw_e rfl rfl rfl ?_
  refine aw_i1t rfl (q1_lt_t (by omega)) ?_
  refine aw_e rfl rfl rfl ?_
  refine aw_ri rfl (by first | exact Or.inl rfl | exact Or.inr (by decide +kernel)) ?_
  refine aw_i1t rfl (by decide +kernel) ?_
  refine aw_e rfl rfl rfl ?_
  refine aw_e rfl rfl rfl ?_
  refine aw_ck (P := fun u _ => u = some (.int (-1))) rfl rfl (by decide) rfl rfl (aw_k 100000 (by decide +kernel)) (fun u M1 hu => ?_)
  subst hu
  refine aw_ri rfl (by first | exact Or.inl rfl | exact Or.inr (by decide +kernel)) ?_
  exact congrArg (fun z => some (Value.int z)) (by first | decide +kernel | (simp only [a_up_ap]; decide +kernel) | (simp +decide only [a_up_ap]; decide +kernel) | rfl | (simp [a_up_ap]; done))
theorem pM_put_0 (a : Int32) (ha1 : a.toInt ≤ (-1)) : am wM 8 184 [.ref a_mo, .int a] a_M0 (fun u _ => u = some (.int (-1))) := by
  refine ⟨_, rfl, ?_⟩
  refine aw_e rfl rfl rfl ?_
  refine aw_e rfl rfl rfl ?_
  refine aw_ci rfl rfl (by decide) rfl rfl ?_
  refine aw_e rfl rfl rfl ?_
  refine aw_i1t rfl (q1_lt_t (by omega)) ?_
  refine aw_e rfl rfl rfl ?_
  refine aw_ri rfl (by first | exact Or.inl rfl | exact Or.inr (by decide +kernel)) ?_
  refine aw_i1t rfl (by decide +kernel) ?_
  refine aw_e rfl rfl rfl ?_
  refine aw_e rfl rfl rfl ?_
  refine aw_ck (P := fun u _ => u = some (.int (-1))) rfl rfl (by decide) rfl rfl (aw_k 100000 (by decide +kernel)) (fun u M1 hu => ?_)
  subst hu
  refine aw_ri rfl (by first | exact Or.inl rfl | exact Or.inr (by decide +kernel)) ?_
  exact congrArg (fun z => some (Value.int z)) (by first | decide +kernel | (simp only [a_up_ap]; decide +kernel) | (simp +decide only [a_up_ap]; decide +kernel) | rfl | (simp [a_up_ap]; done))
theorem pC_put_1 (a : Int32) (ha0 : 0 ≤ a.toInt) : am wC 8 5 [.ref 0, .int a] a_M0 (fun u _ => u = some (.int (-1))) := by
  refine ⟨_, rfl, ?_⟩
  refine aw_e rfl rfl rfl ?_
  refine aw_e rfl rfl rfl ?_
  refine aw_ci rfl rfl (by decide) rfl rfl ?_
  refine aw_e rfl rfl rfl ?_
  refine aw_i1f rfl (q1_lt_f (by omega)) ?_
  refine aw_e rfl rfl rfl ?_
  refine aw_e rfl rfl rfl ?_
  refine aw_e rfl rfl rfl ?_
  refine aw_e rfl rfl rfl ?_
  refine aw_e rfl rfl rfl ?_
  refine aw_i2t rfl (q2_ge_t (z := 0) (by decide +kernel) (by omega)) ?_
  refine aw_e rfl rfl rfl ?_
  refine aw_ri rfl (by first | exact Or.inl rfl | exact Or.inr (by decide +kernel)) ?_
  refine aw_i1t rfl (by decide +kernel) ?_
  refine aw_e rfl rfl rfl ?_
  refine aw_e rfl rfl rfl ?_
  refine aw_ck (P := fun u _ => u = some (.int (-1))) rfl rfl (by decide) rfl rfl (aw_k 100000 (by decide +kernel)) (fun u M1 hu => ?_)
  subst hu
  refine aw_ri rfl (by first | exact Or.inl rfl | exact Or.inr (by decide +kernel)) ?_
  exact congrArg (fun z => some (Value.int z)) (by first | decide +kernel | (simp only [a_up_ap]; decide +kernel) | (simp +decide only [a_up_ap]; decide +kernel) | rfl | (simp [a_up_ap]; done))
theorem pM_put_1 (a : Int32) (ha0 : 0 ≤ a.toInt) : am wM 8 184 [.ref a_mo, .int a] a_M0 (fun u _ => u = some (.int (-1))) := by
  refine ⟨_, rfl, ?_⟩
  refine aw_e rfl rfl rfl ?_
  refine aw_e rfl rfl rfl ?_
  refine aw_ci rfl rfl (by decide) rfl rfl ?_
  refine aw_e rfl rfl rfl ?_
  refine aw_i1f rfl (q1_lt_f (by omega)) ?_
  refine aw_e rfl rfl rfl ?_
  refine aw_e rfl rfl rfl ?_
  refine aw_e rfl rfl rfl ?_
  refine aw_i2t rfl (q2_ge_t (z := 0) (by decide +kernel) (by omega)) ?_
  refine aw_e rfl rfl rfl ?_
  refine aw_ri rfl (by first | exact Or.inl rfl | exact Or.inr (by decide +kernel)) ?_
  refine aw_i1t rfl (by decide +kernel) ?_
  refine aw_e rfl rfl rfl ?_
  refine aw_e rfl rfl rfl ?_
  refine aw_ck (P := fun u _ => u = some (.int (-1))) rfl rfl (by decide) rfl rfl (aw_k 100000 (by decide +kernel)) (fun u M1 hu => ?_)
  subst hu
  refine aw_ri rfl (by first | exact Or.inl rfl | exact Or.inr (by decide +kernel)) ?_
  exact congrArg (fun z => some (Value.int z)) (by first | decide +kernel | (simp only [a_up_ap]; decide +kernel) | (simp +decide only [a_up_ap]; decide +kernel) | rfl | (simp [a_up_ap]; done))
theorem op_put (a : Int32) : op_ok 5 184 [.int a] := by
  have ba0 := Int32.le_toInt a
  have ba1 := Int32.toInt_lt a
  rcases (show a.toInt ≤ (-1) ∨ 0 ≤ a.toInt by omega) with ha | ha
  · exact ⟨_, pC_put_0 a (by omega), pM_put_0 a (by omega)⟩
  · exact ⟨_, pC_put_1 a (by omega), pM_put_1 a (by omega)⟩
theorem pC_fresh_0 (a : Int32) (ha1 : a.toInt ≤ (-1)) : am wC 8 7 [.ref 0, .int a] a_M0 (fun u _ => u = some (.int (-1))) := by
  refine ⟨_, rfl, ?_⟩
  refine aw_e rfl rfl rfl ?_
  refine aw_e rfl rfl rfl ?_
  refine aw_i2t rfl (q2_lt_t (z := 1) (by decide +kernel) (by omega)) ?_
  refine aw_e rfl rfl rfl ?_
  refine aw_e rfl rfl rfl ?_
  refine aw_ck (P := fun u _ => u = some (.int (-1))) rfl rfl (by decide) rfl rfl (aw_k 100000 (by decide +kernel)) (fun u M1 hu => ?_)
  subst hu
  refine aw_ri rfl (by first | exact Or.inl rfl | exact Or.inr (by decide +kernel)) ?_
  exact congrArg (fun z => some (Value.int z)) (by first | decide +kernel | (simp only [a_up_ap]; decide +kernel) | (simp +decide only [a_up_ap]; decide +kernel) | rfl | (simp [a_up_ap]; done))
theorem pM_fresh_0 (a : Int32) (ha1 : a.toInt ≤ (-1)) : am wM 8 186 [.ref a_mo, .int a] a_M0 (fun u _ => u = some (.int (-1))) := by
  refine ⟨_, rfl, ?_⟩
  refine aw_e rfl rfl rfl ?_
  refine aw_e rfl rfl rfl ?_
  refine aw_ci rfl rfl (by decide) rfl rfl ?_
  refine aw_e rfl rfl rfl ?_
  refine aw_i1t rfl (q1_lt_t (by omega)) ?_
  refine aw_e rfl rfl rfl ?_
  refine aw_ri rfl (by first | exact Or.inl rfl | exact Or.inr (by decide +kernel)) ?_
  refine aw_i1t rfl (by decide +kernel) ?_
  refine aw_e rfl rfl rfl ?_
  refine aw_e rfl rfl rfl ?_
  refine aw_ck (P := fun u _ => u = some (.int (-1))) rfl rfl (by decide) rfl rfl (aw_k 100000 (by decide +kernel)) (fun u M1 hu => ?_)
  subst hu
  refine aw_ri rfl (by first | exact Or.inl rfl | exact Or.inr (by decide +kernel)) ?_
  exact congrArg (fun z => some (Value.int z)) (by first | decide +kernel | (simp only [a_up_ap]; decide +kernel) | (simp +decide only [a_up_ap]; decide +kernel) | rfl | (simp [a_up_ap]; done))
theorem pC_fresh_1 : am wC 8 7 [.ref 0, .int 0] a_M0 (fun u _ => u = some (.int (-1))) := am_k 1000000 (by decide +kernel)
theorem pM_fresh_1 : am wM 8 186 [.ref a_mo, .int 0] a_M0 (fun u _ => u = some (.int (-1))) := am_k 1000000 (by decide +kernel)
theorem pC_fresh_2 (a : Int32) (ha0 : 1 ≤ a.toInt) : am wC 8 7 [.ref 0, .int a] a_M0 (fun u _ => u = some (.int (-1))) := by
  refine ⟨_, rfl, ?_⟩
  refine aw_e rfl rfl rfl ?_
  refine aw_e rfl rfl rfl ?_
  refine aw_i2f rfl (q2_lt_f (z := 1) (by decide +kernel) (by omega)) ?_
  refine aw_e rfl rfl rfl ?_
  refine aw_e rfl rfl rfl ?_
  refine aw_e rfl rfl rfl ?_
  refine aw_e rfl rfl rfl ?_
  refine aw_e rfl rfl rfl ?_
  refine aw_i2f rfl (q2_lt_f (z := 0) (by decide +kernel) (by omega)) ?_
  refine aw_e rfl rfl rfl ?_
  refine aw_e rfl rfl rfl ?_
  refine aw_ck (P := fun u _ => u = some (.int (-1))) rfl rfl (by decide) rfl rfl (aw_k 100000 (by decide +kernel)) (fun u M1 hu => ?_)
  subst hu
  refine aw_ri rfl (by first | exact Or.inl rfl | exact Or.inr (by decide +kernel)) ?_
  exact congrArg (fun z => some (Value.int z)) (by first | decide +kernel | (simp only [a_up_ap]; decide +kernel) | (simp +decide only [a_up_ap]; decide +kernel) | rfl | (simp [a_up_ap]; done))
theorem pM_fresh_2 (a : Int32) (ha0 : 1 ≤ a.toInt) : am wM 8 186 [.ref a_mo, .int a] a_M0 (fun u _ => u = some (.int (-1))) := by
  refine ⟨_, rfl, ?_⟩
  refine aw_e rfl rfl rfl ?_
  refine aw_e rfl rfl rfl ?_
  refine aw_ci rfl rfl (by decide) rfl rfl ?_
  refine aw_e rfl rfl rfl ?_
  refine aw_i1f rfl (q1_lt_f (by omega)) ?_
  refine aw_e rfl rfl rfl ?_
  refine aw_e rfl rfl rfl ?_
  refine aw_e rfl rfl rfl ?_
  refine aw_i2t rfl (q2_ge_t (z := 0) (by decide +kernel) (by omega)) ?_
  refine aw_e rfl rfl rfl ?_
  refine aw_ri rfl (by first | exact Or.inl rfl | exact Or.inr (by decide +kernel)) ?_
  refine aw_i1t rfl (by decide +kernel) ?_
  refine aw_e rfl rfl rfl ?_
  refine aw_e rfl rfl rfl ?_
  refine aw_ck (P := fun u _ => u = some (.int (-1))) rfl rfl (by decide) rfl rfl (aw_k 100000 (by decide +kernel)) (fun u M1 hu => ?_)
  subst hu
  refine aw_ri rfl (by first | exact Or.inl rfl | exact Or.inr (by decide +kernel)) ?_
  exact congrArg (fun z => some (Value.int z)) (by first | decide +kernel | (simp only [a_up_ap]; decide +kernel) | (simp +decide only [a_up_ap]; decide +kernel) | rfl | (simp [a_up_ap]; done))
theorem op_fresh (a : Int32) : op_ok 7 186 [.int a] := by
  have ba0 := Int32.le_toInt a
  have ba1 := Int32.toInt_lt a
  rcases (show a.toInt ≤ (-1) ∨ a.toInt = 0 ∨ 1 ≤ a.toInt by omega) with ha | ha | ha
  · exact ⟨_, pC_fresh_0 a (by omega), pM_fresh_0 a (by omega)⟩
  · obtain rfl : a = 0 := q_val (z := 0) (by decide) ha
    exact ⟨_, pC_fresh_1 , pM_fresh_1 ⟩
  · exact ⟨_, pC_fresh_2 a (by omega), pM_fresh_2 a (by omega)⟩
theorem pC_place_0 (a : Int32) (ha1 : a.toInt ≤ (-1)) (b : Int32) : am wC 8 8 [.ref 0, .int a, .int b] a_M0 (fun u _ => u = some (.int (-1))) := by
  refine ⟨_, rfl, ?_⟩
  refine aw_e rfl rfl rfl ?_
  refine aw_e rfl rfl rfl ?_
  refine aw_ci rfl rfl (by decide) rfl rfl ?_
  refine aw_e rfl rfl rfl ?_
  refine aw_i1t rfl (q1_lt_t (by omega)) ?_
  refine aw_e rfl rfl rfl ?_
  refine aw_ri rfl (by first | exact Or.inl rfl | exact Or.inr (by decide +kernel)) ?_
  refine aw_i1f rfl (by decide +kernel) ?_
  refine aw_e rfl rfl rfl ?_
  refine aw_e rfl rfl rfl ?_
  refine aw_ck (P := fun u _ => u = some (.int (-1))) rfl rfl (by decide) rfl rfl (aw_k 100000 (by decide +kernel)) (fun u M1 hu => ?_)
  subst hu
  refine aw_ri rfl (by first | exact Or.inl rfl | exact Or.inr (by decide +kernel)) ?_
  exact congrArg (fun z => some (Value.int z)) (by first | decide +kernel | (simp only [a_up_ap]; decide +kernel) | (simp +decide only [a_up_ap]; decide +kernel) | rfl | (simp [a_up_ap]; done))
theorem pM_place_0 (a : Int32) (ha1 : a.toInt ≤ (-1)) (b : Int32) : am wM 8 187 [.ref a_mo, .int a, .int b] a_M0 (fun u _ => u = some (.int (-1))) := by
  refine ⟨_, rfl, ?_⟩
  refine aw_e rfl rfl rfl ?_
  refine aw_e rfl rfl rfl ?_
  refine aw_ci rfl rfl (by decide) rfl rfl ?_
  refine aw_e rfl rfl rfl ?_
  refine aw_i1t rfl (q1_lt_t (by omega)) ?_
  refine aw_e rfl rfl rfl ?_
  refine aw_ri rfl (by first | exact Or.inl rfl | exact Or.inr (by decide +kernel)) ?_
  refine aw_i1f rfl (by decide +kernel) ?_
  refine aw_e rfl rfl rfl ?_
  refine aw_e rfl rfl rfl ?_
  refine aw_ck (P := fun u _ => u = some (.int (-1))) rfl rfl (by decide) rfl rfl (aw_k 100000 (by decide +kernel)) (fun u M1 hu => ?_)
  subst hu
  refine aw_ri rfl (by first | exact Or.inl rfl | exact Or.inr (by decide +kernel)) ?_
  exact congrArg (fun z => some (Value.int z)) (by first | decide +kernel | (simp only [a_up_ap]; decide +kernel) | (simp +decide only [a_up_ap]; decide +kernel) | rfl | (simp [a_up_ap]; done))
theorem pC_place_1 (a : Int32) (ha0 : 0 ≤ a.toInt) (b : Int32) : am wC 8 8 [.ref 0, .int a, .int b] a_M0 (fun u _ => u = some (.int (-1))) := by
  refine ⟨_, rfl, ?_⟩
  refine aw_e rfl rfl rfl ?_
  refine aw_e rfl rfl rfl ?_
  refine aw_ci rfl rfl (by decide) rfl rfl ?_
  refine aw_e rfl rfl rfl ?_
  refine aw_i1f rfl (q1_lt_f (by omega)) ?_
  refine aw_e rfl rfl rfl ?_
  refine aw_e rfl rfl rfl ?_
  refine aw_e rfl rfl rfl ?_
  refine aw_e rfl rfl rfl ?_
  refine aw_e rfl rfl rfl ?_
  refine aw_i2t rfl (q2_ge_t (z := 0) (by decide +kernel) (by omega)) ?_
  refine aw_e rfl rfl rfl ?_
  refine aw_ri rfl (by first | exact Or.inl rfl | exact Or.inr (by decide +kernel)) ?_
  refine aw_i1f rfl (by decide +kernel) ?_
  refine aw_e rfl rfl rfl ?_
  refine aw_e rfl rfl rfl ?_
  refine aw_ck (P := fun u _ => u = some (.int (-1))) rfl rfl (by decide) rfl rfl (aw_k 100000 (by decide +kernel)) (fun u M1 hu => ?_)
  subst hu
  refine aw_ri rfl (by first | exact Or.inl rfl | exact Or.inr (by decide +kernel)) ?_
  exact congrArg (fun z => some (Value.int z)) (by first | decide +kernel | (simp only [a_up_ap]; decide +kernel) | (simp +decide only [a_up_ap]; decide +kernel) | rfl | (simp [a_up_ap]; done))
theorem pM_place_1 (a : Int32) (ha0 : 0 ≤ a.toInt) (b : Int32) : am wM 8 187 [.ref a_mo, .int a, .int b] a_M0 (fun u _ => u = some (.int (-1))) := by
  refine ⟨_, rfl, ?_⟩
  refine aw_e rfl rfl rfl ?_
  refine aw_e rfl rfl rfl ?_
  refine aw_ci rfl rfl (by decide) rfl rfl ?_
  refine aw_e rfl rfl rfl ?_
  refine aw_i1f rfl (q1_lt_f (by omega)) ?_
  refine aw_e rfl rfl rfl ?_
  refine aw_e rfl rfl rfl ?_
  refine aw_e rfl rfl rfl ?_
  refine aw_i2t rfl (q2_ge_t (z := 0) (by decide +kernel) (by omega)) ?_
  refine aw_e rfl rfl rfl ?_
  refine aw_ri rfl (by first | exact Or.inl rfl | exact Or.inr (by decide +kernel)) ?_
  refine aw_i1f rfl (by decide +kernel) ?_
  refine aw_e rfl rfl rfl ?_
  refine aw_e rfl rfl rfl ?_
  refine aw_ck (P := fun u _ => u = some (.int (-1))) rfl rfl (by decide) rfl rfl (aw_k 100000 (by decide +kernel)) (fun u M1 hu => ?_)
  subst hu
  refine aw_ri rfl (by first | exact Or.inl rfl | exact Or.inr (by decide +kernel)) ?_
  exact congrArg (fun z => some (Value.int z)) (by first | decide +kernel | (simp only [a_up_ap]; decide +kernel) | (simp +decide only [a_up_ap]; decide +kernel) | rfl | (simp [a_up_ap]; done))
theorem op_place (a b : Int32) : op_ok 8 187 [.int a, .int b] := by
  have ba0 := Int32.le_toInt a
  have ba1 := Int32.toInt_lt a
  have bb0 := Int32.le_toInt b
  have bb1 := Int32.toInt_lt b
  rcases (show a.toInt ≤ (-1) ∨ 0 ≤ a.toInt by omega) with ha | ha
  · exact ⟨_, pC_place_0 a (by omega) b, pM_place_0 a (by omega) b⟩
  · exact ⟨_, pC_place_1 a (by omega) b, pM_place_1 a (by omega) b⟩
theorem pC_when_0 (a : Int32) (ha1 : a.toInt ≤ (-1)) (b : Int32) : am wC 8 12 [.ref 0, .int a, .int b] a_M0 (fun u _ => u = some (.int (-1))) := by
  refine ⟨_, rfl, ?_⟩
  refine aw_e rfl rfl rfl ?_
  refine aw_e rfl rfl rfl ?_
  refine aw_ci rfl rfl (by decide) rfl rfl ?_
  refine aw_e rfl rfl rfl ?_
  refine aw_i1t rfl (q1_lt_t (by omega)) ?_
  refine aw_e rfl rfl rfl ?_
  refine aw_ri rfl (by first | exact Or.inl rfl | exact Or.inr (by decide +kernel)) ?_
  refine aw_i1f rfl (by decide +kernel) ?_
  refine aw_e rfl rfl rfl ?_
  refine aw_e rfl rfl rfl ?_
  refine aw_ck (P := fun u _ => u = some (.int (-1))) rfl rfl (by decide) rfl rfl (aw_k 100000 (by decide +kernel)) (fun u M1 hu => ?_)
  subst hu
  refine aw_ri rfl (by first | exact Or.inl rfl | exact Or.inr (by decide +kernel)) ?_
  exact congrArg (fun z => some (Value.int z)) (by first | decide +kernel | (simp only [a_up_ap]; decide +kernel) | (simp +decide only [a_up_ap]; decide +kernel) | rfl | (simp [a_up_ap]; done))
theorem pM_when_0 (a : Int32) (ha1 : a.toInt ≤ (-1)) (b : Int32) : am wM 8 199 [.ref a_mo, .int a, .int b] a_M0 (fun u _ => u = some (.int (-1))) := by
  refine ⟨_, rfl, ?_⟩
  refine aw_e rfl rfl rfl ?_
  refine aw_e rfl rfl rfl ?_
  refine aw_ci rfl rfl (by decide) rfl rfl ?_
  refine aw_e rfl rfl rfl ?_
  refine aw_i1t rfl (q1_lt_t (by omega)) ?_
  refine aw_e rfl rfl rfl ?_
  refine aw_ri rfl (by first | exact Or.inl rfl | exact Or.inr (by decide +kernel)) ?_
  refine aw_i1f rfl (by decide +kernel) ?_
  refine aw_e rfl rfl rfl ?_
  refine aw_e rfl rfl rfl ?_
  refine aw_ck (P := fun u _ => u = some (.int (-1))) rfl rfl (by decide) rfl rfl (aw_k 100000 (by decide +kernel)) (fun u M1 hu => ?_)
  subst hu
  refine aw_ri rfl (by first | exact Or.inl rfl | exact Or.inr (by decide +kernel)) ?_
  exact congrArg (fun z => some (Value.int z)) (by first | decide +kernel | (simp only [a_up_ap]; decide +kernel) | (simp +decide only [a_up_ap]; decide +kernel) | rfl | (simp [a_up_ap]; done))
theorem pC_when_1 (a : Int32) (ha0 : 0 ≤ a.toInt) (b : Int32) : am wC 8 12 [.ref 0, .int a, .int b] a_M0 (fun u _ => u = some (.int (-1))) := by
  refine ⟨_, rfl, ?_⟩
  refine aw_e rfl rfl rfl ?_
  refine aw_e rfl rfl rfl ?_
  refine aw_ci rfl rfl (by decide) rfl rfl ?_
  refine aw_e rfl rfl rfl ?_
  refine aw_i1f rfl (q1_lt_f (by omega)) ?_
  refine aw_e rfl rfl rfl ?_
  refine aw_e rfl rfl rfl ?_
  refine aw_e rfl rfl rfl ?_
  refine aw_e rfl rfl rfl ?_
  refine aw_e rfl rfl rfl ?_
  refine aw_i2t rfl (q2_ge_t (z := 0) (by decide +kernel) (by omega)) ?_
  refine aw_e rfl rfl rfl ?_
  refine aw_ri rfl (by first | exact Or.inl rfl | exact Or.inr (by decide +kernel)) ?_
  refine aw_i1f rfl (by decide +kernel) ?_
  refine aw_e rfl rfl rfl ?_
  refine aw_e rfl rfl rfl ?_
  refine aw_ck (P := fun u _ => u = some (.int (-1))) rfl rfl (by decide) rfl rfl (aw_k 100000 (by decide +kernel)) (fun u M1 hu => ?_)
  subst hu
  refine aw_ri rfl (by first | exact Or.inl rfl | exact Or.inr (by decide +kernel)) ?_
  exact congrArg (fun z => some (Value.int z)) (by first | decide +kernel | (simp only [a_up_ap]; decide +kernel) | (simp +decide only [a_up_ap]; decide +kernel) | rfl | (simp [a_up_ap]; done))
theorem pM_when_1 (a : Int32) (ha0 : 0 ≤ a.toInt) (b : Int32) : am wM 8 199 [.ref a_mo, .int a, .int b] a_M0 (fun u _ => u = some (.int (-1))) := by
  refine ⟨_, rfl, ?_⟩
  refine aw_e rfl rfl rfl ?_
  refine aw_e rfl rfl rfl ?_
  refine aw_ci rfl rfl (by decide) rfl rfl ?_
  refine aw_e rfl rfl rfl ?_
  refine aw_i1f rfl (q1_lt_f (by omega)) ?_
  refine aw_e rfl rfl rfl ?_
  refine aw_e rfl rfl rfl ?_
  refine aw_e rfl rfl rfl ?_
  refine aw_i2t rfl (q2_ge_t (z := 0) (by decide +kernel) (by omega)) ?_
  refine aw_e rfl rfl rfl ?_
  refine aw_ri rfl (by first | exact Or.inl rfl | exact Or.inr (by decide +kernel)) ?_
  refine aw_i1f rfl (by decide +kernel) ?_
  refine aw_e rfl rfl rfl ?_
  refine aw_e rfl rfl rfl ?_
  refine aw_ck (P := fun u _ => u = some (.int (-1))) rfl rfl (by decide) rfl rfl (aw_k 100000 (by decide +kernel)) (fun u M1 hu => ?_)
  subst hu
  refine aw_ri rfl (by first | exact Or.inl rfl | exact Or.inr (by decide +kernel)) ?_
  exact congrArg (fun z => some (Value.int z)) (by first | decide +kernel | (simp only [a_up_ap]; decide +kernel) | (simp +decide only [a_up_ap]; decide +kernel) | rfl | (simp [a_up_ap]; done))
theorem op_when (a b : Int32) : op_ok 12 199 [.int a, .int b] := by
  have ba0 := Int32.le_toInt a
  have ba1 := Int32.toInt_lt a
  have bb0 := Int32.le_toInt b
  have bb1 := Int32.toInt_lt b
  rcases (show a.toInt ≤ (-1) ∨ 0 ≤ a.toInt by omega) with ha | ha
  · exact ⟨_, pC_when_0 a (by omega) b, pM_when_0 a (by omega) b⟩
  · exact ⟨_, pC_when_1 a (by omega) b, pM_when_1 a (by omega) b⟩
theorem pC_where_0 (a : Int32) (ha1 : a.toInt ≤ (-1)) : am wC 8 22 [.ref 0, .int a] a_M0 (fun u _ => u = some (.int (-1))) := by
  refine ⟨_, rfl, ?_⟩
  refine aw_e rfl rfl rfl ?_
  refine aw_e rfl rfl rfl ?_
  refine aw_ci rfl rfl (by decide) rfl rfl ?_
  refine aw_e rfl rfl rfl ?_
  refine aw_i1t rfl (q1_lt_t (by omega)) ?_
  refine aw_e rfl rfl rfl ?_
  refine aw_ri rfl (by first | exact Or.inl rfl | exact Or.inr (by decide +kernel)) ?_
  refine aw_i1t rfl (by decide +kernel) ?_
  refine aw_e rfl rfl rfl ?_
  refine aw_e rfl rfl rfl ?_
  refine aw_ck (P := fun u _ => u = some (.int (-1))) rfl rfl (by decide) rfl rfl (aw_k 100000 (by decide +kernel)) (fun u M1 hu => ?_)
  subst hu
  refine aw_ri rfl (by first | exact Or.inl rfl | exact Or.inr (by decide +kernel)) ?_
  exact congrArg (fun z => some (Value.int z)) (by first | decide +kernel | (simp only [a_up_ap]; decide +kernel) | (simp +decide only [a_up_ap]; decide +kernel) | rfl | (simp [a_up_ap]; done))
theorem pM_where_0 (a : Int32) (ha1 : a.toInt ≤ (-1)) : am wM 8 222 [.ref a_mo, .int a] a_M0 (fun u _ => u = some (.int (-1))) := by
  refine ⟨_, rfl, ?_⟩
  refine aw_e rfl rfl rfl ?_
  refine aw_e rfl rfl rfl ?_
  refine aw_ci rfl rfl (by decide) rfl rfl ?_
  refine aw_e rfl rfl rfl ?_
  refine aw_i1t rfl (q1_lt_t (by omega)) ?_
  refine aw_e rfl rfl rfl ?_
  refine aw_ri rfl (by first | exact Or.inl rfl | exact Or.inr (by decide +kernel)) ?_
  refine aw_i1t rfl (by decide +kernel) ?_
  refine aw_e rfl rfl rfl ?_
  refine aw_e rfl rfl rfl ?_
  refine aw_ck (P := fun u _ => u = some (.int (-1))) rfl rfl (by decide) rfl rfl (aw_k 100000 (by decide +kernel)) (fun u M1 hu => ?_)
  subst hu
  refine aw_ri rfl (by first | exact Or.inl rfl | exact Or.inr (by decide +kernel)) ?_
  exact congrArg (fun z => some (Value.int z)) (by first | decide +kernel | (simp only [a_up_ap]; decide +kernel) | (simp +decide only [a_up_ap]; decide +kernel) | rfl | (simp [a_up_ap]; done))
theorem pC_where_1 (a : Int32) (ha0 : 0 ≤ a.toInt) : am wC 8 22 [.ref 0, .int a] a_M0 (fun u _ => u = some (.int (-1))) := by
  refine ⟨_, rfl, ?_⟩
  refine aw_e rfl rfl rfl ?_
  refine aw_e rfl rfl rfl ?_
  refine aw_ci rfl rfl (by decide) rfl rfl ?_
  refine aw_e rfl rfl rfl ?_
  refine aw_i1f rfl (q1_lt_f (by omega)) ?_
  refine aw_e rfl rfl rfl ?_
  refine aw_e rfl rfl rfl ?_
  refine aw_e rfl rfl rfl ?_
  refine aw_e rfl rfl rfl ?_
  refine aw_e rfl rfl rfl ?_
  refine aw_i2t rfl (q2_ge_t (z := 0) (by decide +kernel) (by omega)) ?_
  refine aw_e rfl rfl rfl ?_
  refine aw_ri rfl (by first | exact Or.inl rfl | exact Or.inr (by decide +kernel)) ?_
  refine aw_i1t rfl (by decide +kernel) ?_
  refine aw_e rfl rfl rfl ?_
  refine aw_e rfl rfl rfl ?_
  refine aw_ck (P := fun u _ => u = some (.int (-1))) rfl rfl (by decide) rfl rfl (aw_k 100000 (by decide +kernel)) (fun u M1 hu => ?_)
  subst hu
  refine aw_ri rfl (by first | exact Or.inl rfl | exact Or.inr (by decide +kernel)) ?_
  exact congrArg (fun z => some (Value.int z)) (by first | decide +kernel | (simp only [a_up_ap]; decide +kernel) | (simp +decide only [a_up_ap]; decide +kernel) | rfl | (simp [a_up_ap]; done))
theorem pM_where_1 (a : Int32) (ha0 : 0 ≤ a.toInt) : am wM 8 222 [.ref a_mo, .int a] a_M0 (fun u _ => u = some (.int (-1))) := by
  refine ⟨_, rfl, ?_⟩
  refine aw_e rfl rfl rfl ?_
  refine aw_e rfl rfl rfl ?_
  refine aw_ci rfl rfl (by decide) rfl rfl ?_
  refine aw_e rfl rfl rfl ?_
  refine aw_i1f rfl (q1_lt_f (by omega)) ?_
  refine aw_e rfl rfl rfl ?_
  refine aw_e rfl rfl rfl ?_
  refine aw_e rfl rfl rfl ?_
  refine aw_i2t rfl (q2_ge_t (z := 0) (by decide +kernel) (by omega)) ?_
  refine aw_e rfl rfl rfl ?_
  refine aw_ri rfl (by first | exact Or.inl rfl | exact Or.inr (by decide +kernel)) ?_
  refine aw_i1t rfl (by decide +kernel) ?_
  refine aw_e rfl rfl rfl ?_
  refine aw_e rfl rfl rfl ?_
  refine aw_ck (P := fun u _ => u = some (.int (-1))) rfl rfl (by decide) rfl rfl (aw_k 100000 (by decide +kernel)) (fun u M1 hu => ?_)
  subst hu
  refine aw_ri rfl (by first | exact Or.inl rfl | exact Or.inr (by decide +kernel)) ?_
  exact congrArg (fun z => some (Value.int z)) (by first | decide +kernel | (simp only [a_up_ap]; decide +kernel) | (simp +decide only [a_up_ap]; decide +kernel) | rfl | (simp [a_up_ap]; done))
theorem op_where (a : Int32) : op_ok 22 222 [.int a] := by
  have ba0 := Int32.le_toInt a
  have ba1 := Int32.toInt_lt a
  rcases (show a.toInt ≤ (-1) ∨ 0 ≤ a.toInt by omega) with ha | ha
  · exact ⟨_, pC_where_0 a (by omega), pM_where_0 a (by omega)⟩
  · exact ⟨_, pC_where_1 a (by omega), pM_where_1 a (by omega)⟩
