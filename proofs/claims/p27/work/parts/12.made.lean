def a_init : List (List Int32) := [[], [], [], [], [], [], [6, 2, 5, 2, 20], [], [], [], [], [], [6, 2, 5, 2, 20], [], [], [], [], [], [6, 2, 5, 2, 20], [], [], [], [], [], [], [], [], [], [], [], [], [], [], [], [], [], [], [], [], [], [], [], [], [], [-9, 1000000000], [], [], [], [0, 0, 0, 0, 0, 0, -9], [-9, 1000000000], [], [], [], [], [-9, 1000000000], [], [], [], [], [], [], [], [], [6, 2, 5, 2, 20], [], [], [], [], [], [], [], [], [], [], [], [], [], [], [], [], [], [], [], [], [], [], [], [], [], []]
/-- the world behind the two constructors -/
def a_M0 : aM := fun i k => ((a_init[i]?).getD []).getD k 0
def b_exp (i : Nat) : Nat → List (Option Nat) → List Value
  | _, [] => []
  | k, none :: t => .int (a_M0 i k) :: b_exp i (k + 1) t
  | k, some j :: t => .ref j :: b_exp i (k + 1) t
def b_low (rs : List (Option Nat)) : Bool := rs.all fun o => match o with
  | some j => decide (j < a_ncw)
  | none => true
def b_same (i : Nat) (e : bE) : Bool := match e with
  | .inl (ci, fs) => decide ((a_shape i).1 = ci) && decide (ci < 100) && decide (fs = b_exp i 0 (a_shape i).2.1) && b_low (a_shape i).2.1
  | .inr (n, .inl f) => decide ((a_shape i).1 = 100) && decide ((a_shape i).2.2 = n) && (List.range n).all (fun j => decide (f j = a_M0 i j))
  | .inr (n, .inr (.inr (.inr (.inr f)))) => decide ((a_shape i).1 = 102) && decide ((a_shape i).2.2 = n) && b_low (a_shape i).2.1 && (List.range n).all (fun j => decide (f j = ((a_shape i).2.1[j]?).join))
  | _ => false
def b_ok (r : Option bS) : Bool := match r with
  | some (pc, L, st, h) => decide (pc = 18) && decide (L = [.ref 950, .ref 0, .ref 61, .int 0]) && decide (st = []) && decide (h.length = a_ncw) && h.zipIdx.all (fun q => b_same q.2 q.1) && decide (b_sl h ≤ 5000)
  | none => false
theorem b_made : b_ok (b_run b_mth 5000 8 b_claw 18 0 [.ref 950, a_dead, a_dead, a_dead] [] []) = true := by decide +kernel
