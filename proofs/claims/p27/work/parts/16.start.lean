/-! what the Statement gives at the start of the law: the arrays that nobody writes -/
theorem c_over : Jvm.Cond.arrayOver (.object aR5) ∈ lw_tbl := a_wat_in (p := 1114) (by decide +kernel)
theorem c_arr : Jvm.Cond.arrayClass .int ∈ lw_tbl := a_wat_in (p := 1047) (by decide +kernel)
def c_tm (j : Nat) : Term := .static (a_stn j).1 (a_stn j).2 "[I"
def c_len (j : Nat) : Nat := (a_shape (a_ncw + j)).2.2
def c_el (j k : Nat) : Int32 := (a_scl (a_ncw + j)).getD k 0
theorem c_ls0 : Jvm.Cond.laysStatic (a_stn 0).1 (a_stn 0).2 "[I" ∈ lw_tbl ∧ Jvm.Cond.initialized (a_stn 0).1 ∈ lw_tbl := ⟨a_wat_in (p := 2189) (by decide +kernel), a_wat_in (p := 1001) (by decide +kernel)⟩
theorem c_pr0 : ([Jvm.Cond.arrayOf (c_tm 0) .int, .eq (.length (c_tm 0)) (.int (Int32.ofNat (c_len 0)))] ++ (List.range (c_len 0)).map (fun k => Jvm.Cond.eq (.elem (c_tm 0) (.int (Int32.ofNat k))) (.int (c_el 0 k)))).all (fun x => decide (x ∈ flatC (Jvm.Cond.and given_1 narrow_1))) = true := by decide +kernel
theorem c_ls1 : Jvm.Cond.laysStatic (a_stn 1).1 (a_stn 1).2 "[I" ∈ lw_tbl ∧ Jvm.Cond.initialized (a_stn 1).1 ∈ lw_tbl := ⟨a_wat_in (p := 2191) (by decide +kernel), a_wat_in (p := 1001) (by decide +kernel)⟩
theorem c_pr1 : ([Jvm.Cond.arrayOf (c_tm 1) .int, .eq (.length (c_tm 1)) (.int (Int32.ofNat (c_len 1)))] ++ (List.range (c_len 1)).map (fun k => Jvm.Cond.eq (.elem (c_tm 1) (.int (Int32.ofNat k))) (.int (c_el 1 k)))).all (fun x => decide (x ∈ flatC (Jvm.Cond.and given_1 narrow_1))) = true := by decide +kernel
theorem c_ls2 : Jvm.Cond.laysStatic (a_stn 2).1 (a_stn 2).2 "[I" ∈ lw_tbl ∧ Jvm.Cond.initialized (a_stn 2).1 ∈ lw_tbl := ⟨a_wat_in (p := 2181) (by decide +kernel), a_wat_in (p := 1001) (by decide +kernel)⟩
theorem c_pr2 : ([Jvm.Cond.arrayOf (c_tm 2) .int, .eq (.length (c_tm 2)) (.int (Int32.ofNat (c_len 2)))] ++ (List.range (c_len 2)).map (fun k => Jvm.Cond.eq (.elem (c_tm 2) (.int (Int32.ofNat k))) (.int (c_el 2 k)))).all (fun x => decide (x ∈ flatC (Jvm.Cond.and given_1 narrow_1))) = true := by decide +kernel
theorem c_ls3 : Jvm.Cond.laysStatic (a_stn 3).1 (a_stn 3).2 "[I" ∈ lw_tbl ∧ Jvm.Cond.initialized (a_stn 3).1 ∈ lw_tbl := ⟨a_wat_in (p := 2183) (by decide +kernel), a_wat_in (p := 1001) (by decide +kernel)⟩
theorem c_pr3 : ([Jvm.Cond.arrayOf (c_tm 3) .int, .eq (.length (c_tm 3)) (.int (Int32.ofNat (c_len 3)))] ++ (List.range (c_len 3)).map (fun k => Jvm.Cond.eq (.elem (c_tm 3) (.int (Int32.ofNat k))) (.int (c_el 3 k)))).all (fun x => decide (x ∈ flatC (Jvm.Cond.and given_1 narrow_1))) = true := by decide +kernel
