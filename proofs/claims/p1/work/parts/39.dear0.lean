/-! what dear() asks of an evening without things, whatever else the memory holds -/
set_option maxRecDepth 1000000 in
theorem e_C (M : aM) (h4 : M 4 1 = 0) (r c : Int32) : am wC 6 131 [.ref 43, .int r, .int c] M (fun u M1 => u = some (.int 0) ∧ M1 4 1 = 0 ∧ M1 44 = M 44) := by
  refine ⟨_, rfl, ?_⟩
  refine aw_e rfl rfl rfl ?_
  refine aw_e rfl rfl rfl ?_
  refine aw_e rfl rfl rfl ?_
  refine aw_e rfl rfl rfl ?_
  refine aw_e rfl rfl rfl ?_
  refine aw_e rfl rfl rfl ?_
  refine aw_ci rfl rfl (by decide) rfl rfl ?_
  refine aw_e rfl rfl rfl ?_
  refine aw_e rfl rfl rfl ?_
  refine aw_e rfl rfl rfl ?_
  refine aw_e rfl rfl rfl ?_
  refine aw_i2f rfl (by first | decide +kernel | (simp only [a_up_ap]; simp [a_cf1, a_cf2, h4]; done) | (simp [a_up_ap, a_cf1, a_cf2, h4]; done) | (simp [a_up_ap, a_cf1, a_cf2, h4]; decide +kernel)) ?_
  refine aw_e rfl rfl rfl ?_
  refine aw_e rfl rfl rfl ?_
  refine aw_e rfl rfl rfl ?_
  refine aw_e rfl rfl rfl ?_
  refine aw_ci rfl rfl (by decide) rfl rfl ?_
  refine aw_e rfl rfl rfl ?_
  refine aw_e rfl rfl rfl ?_
  refine aw_e rfl rfl rfl ?_
  refine aw_i1f rfl (by first | decide +kernel | (simp only [a_up_ap]; simp [a_cf1, a_cf2, h4]; done) | (simp [a_up_ap, a_cf1, a_cf2, h4]; done) | (simp [a_up_ap, a_cf1, a_cf2, h4]; decide +kernel)) ?_
  refine aw_e rfl rfl rfl ?_
  refine aw_e rfl rfl rfl ?_
  refine aw_e rfl rfl rfl ?_
  refine aw_i2f rfl (by first | decide +kernel | (simp only [a_up_ap]; simp [a_cf1, a_cf2, h4]; done) | (simp [a_up_ap, a_cf1, a_cf2, h4]; done) | (simp [a_up_ap, a_cf1, a_cf2, h4]; decide +kernel)) ?_
  refine aw_e rfl rfl rfl ?_
  refine aw_e rfl rfl rfl ?_
  refine aw_e rfl rfl rfl ?_
  refine aw_e rfl rfl rfl ?_
  refine aw_ri rfl (by first | exact Or.inl rfl | exact Or.inr (by decide +kernel)) ?_
  refine aw_ci rfl rfl (by decide) rfl rfl ?_
  refine aw_e rfl rfl rfl ?_
  refine aw_e rfl rfl rfl ?_
  refine aw_e rfl rfl rfl ?_
  refine aw_i1f rfl (by first | decide +kernel | (simp only [a_up_ap]; simp [a_cf1, a_cf2, h4]; done) | (simp [a_up_ap, a_cf1, a_cf2, h4]; done) | (simp [a_up_ap, a_cf1, a_cf2, h4]; decide +kernel)) ?_
  refine aw_e rfl rfl rfl ?_
  refine aw_e rfl rfl rfl ?_
  refine aw_e rfl rfl rfl ?_
  refine aw_i2f rfl (by first | decide +kernel | (simp only [a_up_ap]; simp [a_cf1, a_cf2, h4]; done) | (simp [a_up_ap, a_cf1, a_cf2, h4]; done) | (simp [a_up_ap, a_cf1, a_cf2, h4]; decide +kernel)) ?_
  refine aw_e rfl rfl rfl ?_
  refine aw_e rfl rfl rfl ?_
  refine aw_e rfl rfl rfl ?_
  refine aw_e rfl rfl rfl ?_
  refine aw_rv rfl ?_
  refine aw_e rfl rfl rfl ?_
  refine aw_e rfl rfl rfl ?_
  refine aw_e rfl rfl rfl ?_
  refine aw_e rfl rfl rfl ?_
  refine aw_i2f rfl (by first | decide +kernel | (simp only [a_up_ap]; simp [a_cf1, a_cf2, h4]; done) | (simp [a_up_ap, a_cf1, a_cf2, h4]; done) | (simp [a_up_ap, a_cf1, a_cf2, h4]; decide +kernel)) ?_
  refine aw_e rfl rfl rfl ?_
  refine aw_e rfl rfl rfl ?_
  refine aw_e rfl rfl rfl ?_
  refine aw_e rfl rfl rfl ?_
  refine aw_ci rfl rfl (by decide) rfl rfl ?_
  refine aw_e rfl rfl rfl ?_
  refine aw_e rfl rfl rfl ?_
  refine aw_e rfl rfl rfl ?_
  refine aw_i1f rfl (by first | decide +kernel | (simp only [a_up_ap]; simp [a_cf1, a_cf2, h4]; done) | (simp [a_up_ap, a_cf1, a_cf2, h4]; done) | (simp [a_up_ap, a_cf1, a_cf2, h4]; decide +kernel)) ?_
  refine aw_e rfl rfl rfl ?_
  refine aw_e rfl rfl rfl ?_
  refine aw_e rfl rfl rfl ?_
  refine aw_i2f rfl (by first | decide +kernel | (simp only [a_up_ap]; simp [a_cf1, a_cf2, h4]; done) | (simp [a_up_ap, a_cf1, a_cf2, h4]; done) | (simp [a_up_ap, a_cf1, a_cf2, h4]; decide +kernel)) ?_
  refine aw_e rfl rfl rfl ?_
  refine aw_e rfl rfl rfl ?_
  refine aw_e rfl rfl rfl ?_
  refine aw_e rfl rfl rfl ?_
  refine aw_ri rfl (by first | exact Or.inl rfl | exact Or.inr (by decide +kernel)) ?_
  refine aw_ci rfl rfl (by decide) rfl rfl ?_
  refine aw_e rfl rfl rfl ?_
  refine aw_e rfl rfl rfl ?_
  refine aw_e rfl rfl rfl ?_
  refine aw_i1f rfl (by first | decide +kernel | (simp only [a_up_ap]; simp [a_cf1, a_cf2, h4]; done) | (simp [a_up_ap, a_cf1, a_cf2, h4]; done) | (simp [a_up_ap, a_cf1, a_cf2, h4]; decide +kernel)) ?_
  refine aw_e rfl rfl rfl ?_
  refine aw_e rfl rfl rfl ?_
  refine aw_e rfl rfl rfl ?_
  refine aw_i2f rfl (by first | decide +kernel | (simp only [a_up_ap]; simp [a_cf1, a_cf2, h4]; done) | (simp [a_up_ap, a_cf1, a_cf2, h4]; done) | (simp [a_up_ap, a_cf1, a_cf2, h4]; decide +kernel)) ?_
  refine aw_e rfl rfl rfl ?_
  refine aw_e rfl rfl rfl ?_
  refine aw_e rfl rfl rfl ?_
  refine aw_e rfl rfl rfl ?_
  refine aw_rv rfl ?_
  refine aw_e rfl rfl rfl ?_
  refine aw_e rfl rfl rfl ?_
  refine aw_e rfl rfl rfl ?_
  refine aw_e rfl rfl rfl ?_
  refine aw_i2f rfl (by first | decide +kernel | (simp only [a_up_ap]; simp [a_cf1, a_cf2, h4]; done) | (simp [a_up_ap, a_cf1, a_cf2, h4]; done) | (simp [a_up_ap, a_cf1, a_cf2, h4]; decide +kernel)) ?_
  refine aw_e rfl rfl rfl ?_
  refine aw_e rfl rfl rfl ?_
  refine aw_e rfl rfl rfl ?_
  refine aw_e rfl rfl rfl ?_
  refine aw_ci rfl rfl (by decide) rfl rfl ?_
  refine aw_e rfl rfl rfl ?_
  refine aw_e rfl rfl rfl ?_
  refine aw_e rfl rfl rfl ?_
  refine aw_i1f rfl (by first | decide +kernel | (simp only [a_up_ap]; simp [a_cf1, a_cf2, h4]; done) | (simp [a_up_ap, a_cf1, a_cf2, h4]; done) | (simp [a_up_ap, a_cf1, a_cf2, h4]; decide +kernel)) ?_
  refine aw_e rfl rfl rfl ?_
  refine aw_e rfl rfl rfl ?_
  refine aw_e rfl rfl rfl ?_
  refine aw_i2f rfl (by first | decide +kernel | (simp only [a_up_ap]; simp [a_cf1, a_cf2, h4]; done) | (simp [a_up_ap, a_cf1, a_cf2, h4]; done) | (simp [a_up_ap, a_cf1, a_cf2, h4]; decide +kernel)) ?_
  refine aw_e rfl rfl rfl ?_
  refine aw_e rfl rfl rfl ?_
  refine aw_e rfl rfl rfl ?_
  refine aw_e rfl rfl rfl ?_
  refine aw_ri rfl (by first | exact Or.inl rfl | exact Or.inr (by decide +kernel)) ?_
  refine aw_ci rfl rfl (by decide) rfl rfl ?_
  refine aw_e rfl rfl rfl ?_
  refine aw_e rfl rfl rfl ?_
  refine aw_e rfl rfl rfl ?_
  refine aw_i1f rfl (by first | decide +kernel | (simp only [a_up_ap]; simp [a_cf1, a_cf2, h4]; done) | (simp [a_up_ap, a_cf1, a_cf2, h4]; done) | (simp [a_up_ap, a_cf1, a_cf2, h4]; decide +kernel)) ?_
  refine aw_e rfl rfl rfl ?_
  refine aw_e rfl rfl rfl ?_
  refine aw_e rfl rfl rfl ?_
  refine aw_i2f rfl (by first | decide +kernel | (simp only [a_up_ap]; simp [a_cf1, a_cf2, h4]; done) | (simp [a_up_ap, a_cf1, a_cf2, h4]; done) | (simp [a_up_ap, a_cf1, a_cf2, h4]; decide +kernel)) ?_
  refine aw_e rfl rfl rfl ?_
  refine aw_e rfl rfl rfl ?_
  refine aw_e rfl rfl rfl ?_
  refine aw_e rfl rfl rfl ?_
  refine aw_rv rfl ?_
  refine aw_e rfl rfl rfl ?_
  refine aw_e rfl rfl rfl ?_
  refine aw_e rfl rfl rfl ?_
  refine aw_e rfl rfl rfl ?_
  refine aw_i2f rfl (by first | decide +kernel | (simp only [a_up_ap]; simp [a_cf1, a_cf2, h4]; done) | (simp [a_up_ap, a_cf1, a_cf2, h4]; done) | (simp [a_up_ap, a_cf1, a_cf2, h4]; decide +kernel)) ?_
  refine aw_e rfl rfl rfl ?_
  refine aw_e rfl rfl rfl ?_
  refine aw_e rfl rfl rfl ?_
  refine aw_e rfl rfl rfl ?_
  refine aw_ci rfl rfl (by decide) rfl rfl ?_
  refine aw_e rfl rfl rfl ?_
  refine aw_e rfl rfl rfl ?_
  refine aw_e rfl rfl rfl ?_
  refine aw_i1f rfl (by first | decide +kernel | (simp only [a_up_ap]; simp [a_cf1, a_cf2, h4]; done) | (simp [a_up_ap, a_cf1, a_cf2, h4]; done) | (simp [a_up_ap, a_cf1, a_cf2, h4]; decide +kernel)) ?_
  refine aw_e rfl rfl rfl ?_
  refine aw_e rfl rfl rfl ?_
  refine aw_e rfl rfl rfl ?_
  refine aw_i2f rfl (by first | decide +kernel | (simp only [a_up_ap]; simp [a_cf1, a_cf2, h4]; done) | (simp [a_up_ap, a_cf1, a_cf2, h4]; done) | (simp [a_up_ap, a_cf1, a_cf2, h4]; decide +kernel)) ?_
  refine aw_e rfl rfl rfl ?_
  refine aw_e rfl rfl rfl ?_
  refine aw_e rfl rfl rfl ?_
  refine aw_e rfl rfl rfl ?_
  refine aw_ri rfl (by first | exact Or.inl rfl | exact Or.inr (by decide +kernel)) ?_
  refine aw_ci rfl rfl (by decide) rfl rfl ?_
  refine aw_e rfl rfl rfl ?_
  refine aw_e rfl rfl rfl ?_
  refine aw_e rfl rfl rfl ?_
  refine aw_i1f rfl (by first | decide +kernel | (simp only [a_up_ap]; simp [a_cf1, a_cf2, h4]; done) | (simp [a_up_ap, a_cf1, a_cf2, h4]; done) | (simp [a_up_ap, a_cf1, a_cf2, h4]; decide +kernel)) ?_
  refine aw_e rfl rfl rfl ?_
  refine aw_e rfl rfl rfl ?_
  refine aw_e rfl rfl rfl ?_
  refine aw_i2f rfl (by first | decide +kernel | (simp only [a_up_ap]; simp [a_cf1, a_cf2, h4]; done) | (simp [a_up_ap, a_cf1, a_cf2, h4]; done) | (simp [a_up_ap, a_cf1, a_cf2, h4]; decide +kernel)) ?_
  refine aw_e rfl rfl rfl ?_
  refine aw_e rfl rfl rfl ?_
  refine aw_e rfl rfl rfl ?_
  refine aw_e rfl rfl rfl ?_
  refine aw_rv rfl ?_
  refine aw_e rfl rfl rfl ?_
  refine aw_e rfl rfl rfl ?_
  refine aw_e rfl rfl rfl ?_
  refine aw_e rfl rfl rfl ?_
  refine aw_i2f rfl (by first | decide +kernel | (simp only [a_up_ap]; simp [a_cf1, a_cf2, h4]; done) | (simp [a_up_ap, a_cf1, a_cf2, h4]; done) | (simp [a_up_ap, a_cf1, a_cf2, h4]; decide +kernel)) ?_
  refine aw_e rfl rfl rfl ?_
  refine aw_e rfl rfl rfl ?_
  refine aw_e rfl rfl rfl ?_
  refine aw_e rfl rfl rfl ?_
  refine aw_ci rfl rfl (by decide) rfl rfl ?_
  refine aw_e rfl rfl rfl ?_
  refine aw_e rfl rfl rfl ?_
  refine aw_e rfl rfl rfl ?_
  refine aw_i1f rfl (by first | decide +kernel | (simp only [a_up_ap]; simp [a_cf1, a_cf2, h4]; done) | (simp [a_up_ap, a_cf1, a_cf2, h4]; done) | (simp [a_up_ap, a_cf1, a_cf2, h4]; decide +kernel)) ?_
  refine aw_e rfl rfl rfl ?_
  refine aw_e rfl rfl rfl ?_
  refine aw_e rfl rfl rfl ?_
  refine aw_i2f rfl (by first | decide +kernel | (simp only [a_up_ap]; simp [a_cf1, a_cf2, h4]; done) | (simp [a_up_ap, a_cf1, a_cf2, h4]; done) | (simp [a_up_ap, a_cf1, a_cf2, h4]; decide +kernel)) ?_
  refine aw_e rfl rfl rfl ?_
  refine aw_e rfl rfl rfl ?_
  refine aw_e rfl rfl rfl ?_
  refine aw_e rfl rfl rfl ?_
  refine aw_ri rfl (by first | exact Or.inl rfl | exact Or.inr (by decide +kernel)) ?_
  refine aw_ci rfl rfl (by decide) rfl rfl ?_
  refine aw_e rfl rfl rfl ?_
  refine aw_e rfl rfl rfl ?_
  refine aw_e rfl rfl rfl ?_
  refine aw_i1f rfl (by first | decide +kernel | (simp only [a_up_ap]; simp [a_cf1, a_cf2, h4]; done) | (simp [a_up_ap, a_cf1, a_cf2, h4]; done) | (simp [a_up_ap, a_cf1, a_cf2, h4]; decide +kernel)) ?_
  refine aw_e rfl rfl rfl ?_
  refine aw_e rfl rfl rfl ?_
  refine aw_e rfl rfl rfl ?_
  refine aw_i2f rfl (by first | decide +kernel | (simp only [a_up_ap]; simp [a_cf1, a_cf2, h4]; done) | (simp [a_up_ap, a_cf1, a_cf2, h4]; done) | (simp [a_up_ap, a_cf1, a_cf2, h4]; decide +kernel)) ?_
  refine aw_e rfl rfl rfl ?_
  refine aw_e rfl rfl rfl ?_
  refine aw_e rfl rfl rfl ?_
  refine aw_e rfl rfl rfl ?_
  refine aw_rv rfl ?_
  refine aw_e rfl rfl rfl ?_
  refine aw_e rfl rfl rfl ?_
  refine aw_e rfl rfl rfl ?_
  refine aw_e rfl rfl rfl ?_
  refine aw_i2t rfl (by first | decide +kernel | (simp only [a_up_ap]; simp [a_cf1, a_cf2, h4]; done) | (simp [a_up_ap, a_cf1, a_cf2, h4]; done) | (simp [a_up_ap, a_cf1, a_cf2, h4]; decide +kernel)) ?_
  refine aw_rv rfl ?_
  refine aw_e rfl rfl rfl ?_
  refine aw_e rfl rfl rfl ?_
  refine aw_e rfl rfl rfl ?_
  refine aw_e rfl rfl rfl ?_
  refine aw_ci rfl rfl (by decide) rfl rfl ?_
  refine aw_e rfl rfl rfl ?_
  refine aw_e rfl rfl rfl ?_
  refine aw_e rfl rfl rfl ?_
  refine aw_i1f rfl (by first | decide +kernel | (simp only [a_up_ap]; simp [a_cf1, a_cf2, h4]; done) | (simp [a_up_ap, a_cf1, a_cf2, h4]; done) | (simp [a_up_ap, a_cf1, a_cf2, h4]; decide +kernel)) ?_
  refine aw_e rfl rfl rfl ?_
  refine aw_e rfl rfl rfl ?_
  refine aw_e rfl rfl rfl ?_
  refine aw_i2f rfl (by first | decide +kernel | (simp only [a_up_ap]; simp [a_cf1, a_cf2, h4]; done) | (simp [a_up_ap, a_cf1, a_cf2, h4]; done) | (simp [a_up_ap, a_cf1, a_cf2, h4]; decide +kernel)) ?_
  refine aw_e rfl rfl rfl ?_
  refine aw_e rfl rfl rfl ?_
  refine aw_e rfl rfl rfl ?_
  refine aw_e rfl rfl rfl ?_
  refine aw_rv rfl ?_
  refine aw_e rfl rfl rfl ?_
  refine aw_e rfl rfl rfl ?_
  refine aw_e rfl rfl rfl ?_
  refine aw_e rfl rfl rfl ?_
  refine aw_ci rfl rfl (by decide) rfl rfl ?_
  refine aw_e rfl rfl rfl ?_
  refine aw_e rfl rfl rfl ?_
  refine aw_e rfl rfl rfl ?_
  refine aw_i1f rfl (by first | decide +kernel | (simp only [a_up_ap]; simp [a_cf1, a_cf2, h4]; done) | (simp [a_up_ap, a_cf1, a_cf2, h4]; done) | (simp [a_up_ap, a_cf1, a_cf2, h4]; decide +kernel)) ?_
  refine aw_e rfl rfl rfl ?_
  refine aw_e rfl rfl rfl ?_
  refine aw_e rfl rfl rfl ?_
  refine aw_i2f rfl (by first | decide +kernel | (simp only [a_up_ap]; simp [a_cf1, a_cf2, h4]; done) | (simp [a_up_ap, a_cf1, a_cf2, h4]; done) | (simp [a_up_ap, a_cf1, a_cf2, h4]; decide +kernel)) ?_
  refine aw_e rfl rfl rfl ?_
  refine aw_e rfl rfl rfl ?_
  refine aw_e rfl rfl rfl ?_
  refine aw_e rfl rfl rfl ?_
  refine aw_rv rfl ?_
  refine aw_e rfl rfl rfl ?_
  refine aw_e rfl rfl rfl ?_
  refine aw_e rfl rfl rfl ?_
  refine aw_e rfl rfl rfl ?_
  refine aw_e rfl rfl rfl ?_
  refine aw_e rfl rfl rfl ?_
  refine aw_e rfl rfl rfl ?_
  refine aw_e rfl rfl rfl ?_
  refine aw_ci rfl rfl (by decide) rfl rfl ?_
  refine aw_e rfl rfl rfl ?_
  refine aw_e rfl rfl rfl ?_
  refine aw_ci rfl rfl (by decide) rfl rfl ?_
  refine aw_e rfl rfl rfl ?_
  refine aw_e rfl rfl rfl ?_
  refine aw_e rfl rfl rfl ?_
  refine aw_e rfl rfl rfl ?_
  refine aw_e rfl rfl rfl ?_
  refine aw_e rfl rfl rfl ?_
  refine aw_e rfl rfl rfl ?_
  refine aw_e rfl rfl rfl ?_
  refine aw_e rfl rfl rfl ?_
  refine aw_e rfl rfl rfl ?_
  refine aw_e rfl rfl rfl ?_
  refine aw_e rfl rfl rfl ?_
  refine aw_e rfl rfl rfl ?_
  refine aw_e rfl rfl rfl ?_
  refine aw_e rfl rfl rfl ?_
  refine aw_e rfl rfl rfl ?_
  refine aw_e rfl rfl rfl ?_
  refine aw_e rfl rfl rfl ?_
  refine aw_e rfl rfl rfl ?_
  refine aw_e rfl rfl rfl ?_
  refine aw_e rfl rfl rfl ?_
  refine aw_e rfl rfl rfl ?_
  refine aw_e rfl rfl rfl ?_
  refine aw_e rfl rfl rfl ?_
  refine aw_e rfl rfl rfl ?_
  refine aw_e rfl rfl rfl ?_
  refine aw_e rfl rfl rfl ?_
  refine aw_e rfl rfl rfl ?_
  refine aw_e rfl rfl rfl ?_
  refine aw_e rfl rfl rfl ?_
  refine aw_e rfl rfl rfl ?_
  refine aw_e rfl rfl rfl ?_
  refine aw_e rfl rfl rfl ?_
  refine aw_e rfl rfl rfl ?_
  refine aw_i2f rfl (by first | decide +kernel | (simp only [a_up_ap]; simp [a_cf1, a_cf2, h4]; done) | (simp [a_up_ap, a_cf1, a_cf2, h4]; done) | (simp [a_up_ap, a_cf1, a_cf2, h4]; decide +kernel)) ?_
  refine aw_e rfl rfl rfl ?_
  refine aw_e rfl rfl rfl ?_
  refine aw_e rfl rfl rfl ?_
  refine aw_e rfl rfl rfl ?_
  refine aw_ci rfl rfl (by decide) rfl rfl ?_
  refine aw_e rfl rfl rfl ?_
  refine aw_e rfl rfl rfl ?_
  refine aw_e rfl rfl rfl ?_
  refine aw_i1f rfl (by first | decide +kernel | (simp only [a_up_ap]; simp [a_cf1, a_cf2, h4]; done) | (simp [a_up_ap, a_cf1, a_cf2, h4]; done) | (simp [a_up_ap, a_cf1, a_cf2, h4]; decide +kernel)) ?_
  refine aw_e rfl rfl rfl ?_
  refine aw_e rfl rfl rfl ?_
  refine aw_e rfl rfl rfl ?_
  refine aw_i2f rfl (by first | decide +kernel | (simp only [a_up_ap]; simp [a_cf1, a_cf2, h4]; done) | (simp [a_up_ap, a_cf1, a_cf2, h4]; done) | (simp [a_up_ap, a_cf1, a_cf2, h4]; decide +kernel)) ?_
  refine aw_e rfl rfl rfl ?_
  refine aw_e rfl rfl rfl ?_
  refine aw_e rfl rfl rfl ?_
  refine aw_e rfl rfl rfl ?_
  refine aw_rv rfl ?_
  refine aw_e rfl rfl rfl ?_
  refine aw_e rfl rfl rfl ?_
  refine aw_e rfl rfl rfl ?_
  refine aw_e rfl rfl rfl ?_
  refine aw_i2f rfl (by first | decide +kernel | (simp only [a_up_ap]; simp [a_cf1, a_cf2, h4]; done) | (simp [a_up_ap, a_cf1, a_cf2, h4]; done) | (simp [a_up_ap, a_cf1, a_cf2, h4]; decide +kernel)) ?_
  refine aw_e rfl rfl rfl ?_
  refine aw_e rfl rfl rfl ?_
  refine aw_e rfl rfl rfl ?_
  refine aw_e rfl rfl rfl ?_
  refine aw_ci rfl rfl (by decide) rfl rfl ?_
  refine aw_e rfl rfl rfl ?_
  refine aw_e rfl rfl rfl ?_
  refine aw_e rfl rfl rfl ?_
  refine aw_i1f rfl (by first | decide +kernel | (simp only [a_up_ap]; simp [a_cf1, a_cf2, h4]; done) | (simp [a_up_ap, a_cf1, a_cf2, h4]; done) | (simp [a_up_ap, a_cf1, a_cf2, h4]; decide +kernel)) ?_
  refine aw_e rfl rfl rfl ?_
  refine aw_e rfl rfl rfl ?_
  refine aw_e rfl rfl rfl ?_
  refine aw_i2f rfl (by first | decide +kernel | (simp only [a_up_ap]; simp [a_cf1, a_cf2, h4]; done) | (simp [a_up_ap, a_cf1, a_cf2, h4]; done) | (simp [a_up_ap, a_cf1, a_cf2, h4]; decide +kernel)) ?_
  refine aw_e rfl rfl rfl ?_
  refine aw_e rfl rfl rfl ?_
  refine aw_e rfl rfl rfl ?_
  refine aw_e rfl rfl rfl ?_
  refine aw_rv rfl ?_
  refine aw_e rfl rfl rfl ?_
  refine aw_e rfl rfl rfl ?_
  refine aw_e rfl rfl rfl ?_
  refine aw_e rfl rfl rfl ?_
  refine aw_i2f rfl (by first | decide +kernel | (simp only [a_up_ap]; simp [a_cf1, a_cf2, h4]; done) | (simp [a_up_ap, a_cf1, a_cf2, h4]; done) | (simp [a_up_ap, a_cf1, a_cf2, h4]; decide +kernel)) ?_
  refine aw_e rfl rfl rfl ?_
  refine aw_e rfl rfl rfl ?_
  refine aw_e rfl rfl rfl ?_
  refine aw_e rfl rfl rfl ?_
  refine aw_ci rfl rfl (by decide) rfl rfl ?_
  refine aw_e rfl rfl rfl ?_
  refine aw_e rfl rfl rfl ?_
  refine aw_e rfl rfl rfl ?_
  refine aw_i1f rfl (by first | decide +kernel | (simp only [a_up_ap]; simp [a_cf1, a_cf2, h4]; done) | (simp [a_up_ap, a_cf1, a_cf2, h4]; done) | (simp [a_up_ap, a_cf1, a_cf2, h4]; decide +kernel)) ?_
  refine aw_e rfl rfl rfl ?_
  refine aw_e rfl rfl rfl ?_
  refine aw_e rfl rfl rfl ?_
  refine aw_i2f rfl (by first | decide +kernel | (simp only [a_up_ap]; simp [a_cf1, a_cf2, h4]; done) | (simp [a_up_ap, a_cf1, a_cf2, h4]; done) | (simp [a_up_ap, a_cf1, a_cf2, h4]; decide +kernel)) ?_
  refine aw_e rfl rfl rfl ?_
  refine aw_e rfl rfl rfl ?_
  refine aw_e rfl rfl rfl ?_
  refine aw_e rfl rfl rfl ?_
  refine aw_rv rfl ?_
  refine aw_e rfl rfl rfl ?_
  refine aw_e rfl rfl rfl ?_
  refine aw_e rfl rfl rfl ?_
  refine aw_e rfl rfl rfl ?_
  refine aw_i2t rfl (by first | decide +kernel | (simp only [a_up_ap]; simp [a_cf1, a_cf2, h4]; done) | (simp [a_up_ap, a_cf1, a_cf2, h4]; done) | (simp [a_up_ap, a_cf1, a_cf2, h4]; decide +kernel)) ?_
  refine aw_rv rfl ?_
  refine aw_e rfl rfl rfl ?_
  refine aw_e rfl rfl rfl ?_
  refine aw_e rfl rfl rfl ?_
  refine aw_e rfl rfl rfl ?_
  refine aw_e rfl rfl rfl ?_
  refine aw_i2t rfl (by first | decide +kernel | (simp only [a_up_ap]; simp [a_cf1, a_cf2, h4]; done) | (simp [a_up_ap, a_cf1, a_cf2, h4]; done) | (simp [a_up_ap, a_cf1, a_cf2, h4]; decide +kernel)) ?_
  refine aw_rv rfl ?_
  refine aw_e rfl rfl rfl ?_
  refine aw_e rfl rfl rfl ?_
  refine aw_e rfl rfl rfl ?_
  refine aw_ri rfl (by first | exact Or.inl rfl | exact Or.inr (by decide +kernel)) ?_
  refine ⟨congrArg (fun z => some (Value.int z)) ?_, ?_, ?_⟩
  · first | (simp [a_up_ap]; done) | (simp [a_up_ap]; decide +kernel) | rfl
  · simp [a_up_ap, h4]
  · funext k
    simp [a_up_ap]
set_option maxRecDepth 1000000 in
theorem e_M (M : aM) (h4 : M a_mo 10 = 0) (h5 : M a_mo 43 = 0) : am wM 7 197 [.ref a_mo] M (fun u M1 => u = some (.int 0) ∧ M1 a_mo 10 = 0 ∧ M1 a_mo 43 = 0) := by
  refine ⟨_, rfl, ?_⟩
  refine aw_e rfl rfl rfl ?_
  refine aw_ci rfl rfl (by decide) rfl rfl ?_
  refine aw_e rfl rfl rfl ?_
  refine aw_e rfl rfl rfl ?_
  refine aw_e rfl rfl rfl ?_
  refine aw_e rfl rfl rfl ?_
  refine aw_e rfl rfl rfl ?_
  refine aw_e rfl rfl rfl ?_
  refine aw_e rfl rfl rfl ?_
  refine aw_e rfl rfl rfl ?_
  refine aw_e rfl rfl rfl ?_
  refine aw_e rfl rfl rfl ?_
  refine aw_e rfl rfl rfl ?_
  refine aw_e rfl rfl rfl ?_
  refine aw_e rfl rfl rfl ?_
  refine aw_e rfl rfl rfl ?_
  refine aw_e rfl rfl rfl ?_
  refine aw_e rfl rfl rfl ?_
  refine aw_e rfl rfl rfl ?_
  refine aw_e rfl rfl rfl ?_
  refine aw_e rfl rfl rfl ?_
  refine aw_e rfl rfl rfl ?_
  refine aw_e rfl rfl rfl ?_
  refine aw_e rfl rfl rfl ?_
  refine aw_e rfl rfl rfl ?_
  refine aw_e rfl rfl rfl ?_
  refine aw_e rfl rfl rfl ?_
  refine aw_e rfl rfl rfl ?_
  refine aw_e rfl rfl rfl ?_
  refine aw_e rfl rfl rfl ?_
  refine aw_e rfl rfl rfl ?_
  refine aw_e rfl rfl rfl ?_
  refine aw_e rfl rfl rfl ?_
  refine aw_e rfl rfl rfl ?_
  refine aw_i2f rfl (by first | decide +kernel | (simp only [a_up_ap]; simp [a_cf1, a_cf2, h4, h5]; done) | (simp [a_up_ap, a_cf1, a_cf2, h4, h5]; done) | (simp [a_up_ap, a_cf1, a_cf2, h4, h5]; decide +kernel)) ?_
  refine aw_e rfl rfl rfl ?_
  refine aw_e rfl rfl rfl ?_
  refine aw_e rfl rfl rfl ?_
  refine aw_e rfl rfl rfl ?_
  refine aw_e rfl rfl rfl ?_
  refine aw_e rfl rfl rfl ?_
  refine aw_e rfl rfl rfl ?_
  refine aw_e rfl rfl rfl ?_
  refine aw_e rfl rfl rfl ?_
  refine aw_i2f rfl (by first | decide +kernel | (simp only [a_up_ap]; simp [a_cf1, a_cf2, h4, h5]; done) | (simp [a_up_ap, a_cf1, a_cf2, h4, h5]; done) | (simp [a_up_ap, a_cf1, a_cf2, h4, h5]; decide +kernel)) ?_
  refine aw_e rfl rfl rfl ?_
  refine aw_e rfl rfl rfl ?_
  refine aw_e rfl rfl rfl ?_
  refine aw_e rfl rfl rfl ?_
  refine aw_e rfl rfl rfl ?_
  refine aw_e rfl rfl rfl ?_
  refine aw_e rfl rfl rfl ?_
  refine aw_e rfl rfl rfl ?_
  refine aw_e rfl rfl rfl ?_
  refine aw_i2f rfl (by first | decide +kernel | (simp only [a_up_ap]; simp [a_cf1, a_cf2, h4, h5]; done) | (simp [a_up_ap, a_cf1, a_cf2, h4, h5]; done) | (simp [a_up_ap, a_cf1, a_cf2, h4, h5]; decide +kernel)) ?_
  refine aw_e rfl rfl rfl ?_
  refine aw_e rfl rfl rfl ?_
  refine aw_e rfl rfl rfl ?_
  refine aw_e rfl rfl rfl ?_
  refine aw_e rfl rfl rfl ?_
  refine aw_e rfl rfl rfl ?_
  refine aw_e rfl rfl rfl ?_
  refine aw_e rfl rfl rfl ?_
  refine aw_e rfl rfl rfl ?_
  refine aw_i2t rfl (by first | decide +kernel | (simp only [a_up_ap]; simp [a_cf1, a_cf2, h4, h5]; done) | (simp [a_up_ap, a_cf1, a_cf2, h4, h5]; done) | (simp [a_up_ap, a_cf1, a_cf2, h4, h5]; decide +kernel)) ?_
  refine aw_e rfl rfl rfl ?_
  refine aw_e rfl rfl rfl ?_
  refine aw_e rfl rfl rfl ?_
  refine aw_e rfl rfl rfl ?_
  refine aw_e rfl rfl rfl ?_
  refine aw_i2t rfl (by first | decide +kernel | (simp only [a_up_ap]; simp [a_cf1, a_cf2, h4, h5]; done) | (simp [a_up_ap, a_cf1, a_cf2, h4, h5]; done) | (simp [a_up_ap, a_cf1, a_cf2, h4, h5]; decide +kernel)) ?_
  refine aw_rv rfl ?_
  refine aw_e rfl rfl rfl ?_
  refine aw_e rfl rfl rfl ?_
  refine aw_ri rfl (by first | exact Or.inl rfl | exact Or.inr (by decide +kernel)) ?_
  refine ⟨congrArg (fun z => some (Value.int z)) ?_, ?_, ?_⟩
  · first | (simp [a_up_ap]; done) | (simp [a_up_ap]; decide +kernel) | rfl
  · simp [a_up_ap, h4]
  · simp [a_up_ap, h5]
