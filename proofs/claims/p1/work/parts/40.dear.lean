theorem op_dear (a b c : Int32) : op_ok 25 237 [.int a, .int b, .int c] := sorry
