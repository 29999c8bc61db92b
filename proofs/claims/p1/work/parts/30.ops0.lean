def op_ok (kC kM : Nat) (As : List Value) : Prop := ∃ r : Int32, am wC 8 kC (.ref 0 :: As) a_M0 (fun u _ => u = some (.int r)) ∧ am wM 8 kM (.ref a_mo :: As) a_M0 (fun u _ => u = some (.int r))
theorem op_kitchen : op_ok 1 168 [] := ⟨(-1000), am_k 1000000 (by decide +kernel), am_k 1000000 (by decide +kernel)⟩
theorem op_take : op_ok 6 185 [] := ⟨(-3), am_k 1000000 (by decide +kernel), am_k 1000000 (by decide +kernel)⟩
theorem op_clear : op_ok 9 188 [] := ⟨0, am_k 1000000 (by decide +kernel), am_k 1000000 (by decide +kernel)⟩
theorem op_may : op_ok 11 190 [] := ⟨1, am_k 1000000 (by decide +kernel), am_k 1000000 (by decide +kernel)⟩
theorem op_through : op_ok 13 200 [] := ⟨0, am_k 1000000 (by decide +kernel), am_k 1000000 (by decide +kernel)⟩
theorem op_cloths : op_ok 20 219 [] := ⟨1, am_k 1000000 (by decide +kernel), am_k 1000000 (by decide +kernel)⟩
theorem op_changed : op_ok 21 221 [] := ⟨(-9), am_k 1000000 (by decide +kernel), am_k 1000000 (by decide +kernel)⟩
theorem op_either : op_ok 33 224 [] := ⟨0, am_k 1000000 (by decide +kernel), am_k 1000000 (by decide +kernel)⟩
theorem op_third : op_ok 35 227 [] := ⟨0, am_k 1000000 (by decide +kernel), am_k 1000000 (by decide +kernel)⟩
theorem op_best : op_ok 30 211 [] := ⟨0, am_k 1000000 (by decide +kernel), am_k 1000000 (by decide +kernel)⟩
theorem op_judge : op_ok 16 244 [] := ⟨(-9), am_k 1000000 (by decide +kernel), am_k 1000000 (by decide +kernel)⟩
theorem op_drop : op_ok 39 245 [] := ⟨0, am_k 1000000 (by decide +kernel), am_k 1000000 (by decide +kernel)⟩
theorem op_undo : op_ok 10 183 [] := ⟨(-3), am_k 1000000 (by decide +kernel), am_k 1000000 (by decide +kernel)⟩
theorem op_image : op_ok 41 172 [] := ⟨0, am_k 1000000 (by decide +kernel), am_k 1000000 (by decide +kernel)⟩
theorem op_restore : op_ok 42 173 [] := ⟨(-3), am_k 1000000 (by decide +kernel), am_k 1000000 (by decide +kernel)⟩
