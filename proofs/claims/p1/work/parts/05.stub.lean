theorem a_vall : ∀ mt ∈ a_mth, a_vmt mt = true := sorry
