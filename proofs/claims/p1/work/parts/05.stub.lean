theorem a_vall : ∀ mt ∈ a_mth, a_vmt mt = true := sorry
theorem a_vlaw : a_c250.all (a_vrow "WashAndDryLaw" (some .boolean) code) = true := sorry
