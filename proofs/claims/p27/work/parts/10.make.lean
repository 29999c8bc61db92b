/-! a second small machine, for the constructors: its world grows, a cell a making, at the addresses behind the heap that was -/
abbrev bE : Type := (Nat × List Value) ⊕ vp_A
abbrev bS : Type := Nat × List Value × List Value × List bE
def b_ent (ad : Nat → Nat) (cI cO : ClassId) (e : bE) : va_E := match e with
  | .inl o => .inr (o.1, o.2.map (a_cv ad))
  | .inr (n, .inr (.inr (.inr (.inr f)))) => .inl (cO, n, .inr (.inr (.inr (.inr (fun j => (f j).map ad)))))
  | .inr a => .inl (cI, a)
def b_wd (ad : Nat → Nat) (cI cO : ClassId) (h : List bE) : va_W := h.zipIdx.map fun q => (ad q.2, b_ent ad cI cO q.1)
def b_sz (e : bE) : Nat := match e with
  | .inl o => o.2.length
  | .inr a => a.1
def b_sl (h : List bE) : Nat := (h.map b_sz).sum
def b_fit (ty : FieldType) (v : Value) : Bool := match ty, v with
  | .int, .int _ => true
  | .boolean, .int x => decide (x = 0) || decide (x = 1)
  | .object _, .ref _ => true
  | .array _, .ref _ => true
  | _, _ => false
def b_def (ci N : Nat) : List Value := (List.range N).map fun k => defaultValue (a_ty ci k)
def b_gf (nx ax : Nat) (L st : List Value) (h : List bE) : Option bS := match st with
  | .ref i :: r => (match h[i]? with
    | some (.inl (ci, fs)) => if ci = ax / 64 then (match fs[ax % 64]? with
      | some v => some (nx, L, v :: r, h)
      | none => none) else none
    | _ => none)
  | _ => none
def b_pf (nx ax : Nat) (L st : List Value) (h : List bE) : Option bS := match st with
  | v :: .ref i :: r => (match h[i]? with
    | some (.inl (ci, fs)) => if ci = ax / 64 ∧ ax % 64 < fs.length ∧ b_fit (a_ty (ax / 64) (ax % 64)) v = true ∧ i < 900 then some (nx, L, r, h.set i (.inl (ci, fs.set (ax % 64) v))) else none
    | _ => none)
  | _ => none
def b_new (nx ax : Nat) (L st : List Value) (h : List bE) : Option bS := match a_cls[ax]? with
  | some (_, _, N) => if h.length < 900 ∧ ax ≠ 6 then some (nx, L, .ref h.length :: st, h ++ [.inl (ax, b_def ax N)]) else none
  | none => none
def b_na (nx : Nat) (t : ArrayType) (L st : List Value) (h : List bE) : Option bS := match t, st with
  | .int, .int n :: r => if ¬ n < 0 ∧ n.toNatClampNeg ≤ 1000 ∧ h.length < 900 then some (nx, L, .ref h.length :: r, h ++ [.inr (n.toNatClampNeg, .inl (fun _ => 0))]) else none
  | _, _ => none
def b_nq (nx : Nat) (L st : List Value) (h : List bE) : Option bS := match st with
  | .int n :: r => if ¬ n < 0 ∧ n.toNatClampNeg ≤ 1000 ∧ h.length < 900 then some (nx, L, .ref h.length :: r, h ++ [.inr (n.toNatClampNeg, .inr (.inr (.inr (.inr (fun _ => none)))))]) else none
  | _ => none
def b_al (nx : Nat) (L st : List Value) (h : List bE) : Option bS := match st with
  | .ref i :: r => (match h[i]? with
    | some (.inr (n, .inr (.inr (.inr (.inr _))))) => some (nx, L, .int (Int32.ofNat n) :: r, h)
    | _ => none)
  | _ => none
def b_is (nx : Nat) (L st : List Value) (h : List bE) : Option bS := match st with
  | .int v :: .int j :: .ref i :: r => (match h[i]? with
    | some (.inr (n, .inl f)) => if ¬ j < 0 ∧ j.toNatClampNeg < n ∧ i < 900 then some (nx, L, r, h.set i (.inr (n, .inl (upd f j.toNatClampNeg v)))) else none
    | _ => none)
  | _ => none
def b_as (nx : Nat) (L st : List Value) (h : List bE) : Option bS := match st with
  | .ref v :: .int j :: .ref i :: r => (match h[i]?, h[v]? with
    | some (.inr (n, .inr (.inr (.inr (.inr f))))), some (.inl (5, _)) => if ¬ j < 0 ∧ j.toNatClampNeg < n ∧ i < 900 ∧ v < 900 then some (nx, L, r, h.set i (.inr (n, .inr (.inr (.inr (.inr (va_up f j.toNatClampNeg (some v)))))))) else none
    | _, _ => none)
  | _ => none
def b_eff (ins : Instr) (nx ax : Nat) (L st : List Value) (h : List bE) : Option bS := match ins with
  | .iconst n => some (nx, L, .int (Int32.ofInt n) :: st, h)
  | .bipush n => some (nx, L, .int (Int8.ofInt n).toInt32 :: st, h)
  | .sipush n => some (nx, L, .int (Int16.ofInt n).toInt32 :: st, h)
  | .ldc _ => some (nx, L, .int (Int32.ofNat ax) :: st, h)
  | .iload_n k => (match L[k.val]? with
    | some (.int x) => some (nx, L, .int x :: st, h)
    | _ => none)
  | .aload_n k => (match L[k.val]? with
    | some (.ref x) => some (nx, L, .ref x :: st, h)
    | _ => none)
  | .istore_n k => (match st with
    | .int x :: r => if k.val < L.length then some (nx, L.set k.val (.int x), r, h) else none
    | _ => none)
  | .astore_n k => (match st with
    | .ref x :: r => if k.val < L.length then some (nx, L.set k.val (.ref x), r, h) else none
    | _ => none)
  | .iinc i c => (match L[i]? with
    | some (.int x) => some (nx, L.set i (.int (x + Int32.ofInt c)), st, h)
    | _ => none)
  | .dup => (match st with
    | .ref x :: r => some (nx, L, .ref x :: .ref x :: r, h)
    | _ => none)
  | .dup2 => (match st with
    | .int x :: .ref y :: r => some (nx, L, .int x :: .ref y :: .int x :: .ref y :: r, h)
    | _ => none)
  | .goto _ => some (ax, L, st, h)
  | .if_icmp .ge _ => (match st with
    | .int y :: .int x :: r => if y ≤ x then some (ax, L, r, h) else some (nx, L, r, h)
    | _ => none)
  | .getfield _ => b_gf nx ax L st h
  | .putfield _ => b_pf nx ax L st h
  | .new _ => b_new nx ax L st h
  | .newarray t => b_na nx t L st h
  | .anewarray _ => b_nq nx L st h
  | .arraylength => b_al nx L st h
  | .iastore => b_is nx L st h
  | .aastore => b_as nx L st h
  | _ => none
/-- a constructor: name, bytes, locals; rows, arguments with this, where it ends; places of its words -/
abbrev bMt : Type := (MethodName × ByteArray × Nat) × List aR × Nat × Nat × (Nat × Nat × Nat)
def b_isC (ins : Instr) : Bool := match ins with
  | .invokespecial _ => true
  | _ => false
def b_obj (st : List Value) : Option (List Value) := match st with
  | .ref _ :: r => if (r.map fun v => v.category).sum ≤ 8 then some r else none
  | _ => none
def b_args (mt : bMt) (st : List Value) : Option (List Value × List Value) := match a_take mt.2.2.1 st [] with
  | some (.ref i :: As, st') => if (st'.map fun v => v.category).sum ≤ 8 ∧ mt.1.2.2 ≤ 19 ∧ (Value.ref i :: As).length ≤ mt.1.2.2 ∧ (∀ v ∈ Value.ref i :: As, v.category = 1) then some (.ref i :: As, st') else none
  | _ => none
def b_run (mts : List bMt) : Nat → Nat → List aR → Nat → Nat → List Value → List Value → List bE → Option bS
  | 0, _, _, _, _, _, _, _ => none
  | n + 1, fr, cd, stop, pc, L, st, h => if pc = stop then some (pc, L, st, h) else match a_find cd pc with
    | none => none
    | some (_, ins, nx, ax, _) => if b_isC ins = true then (if ax = 999 then (if fr = 0 then none else (match b_obj st with
          | none => none
          | some r => b_run mts n fr cd stop nx L r h))
        else (match mts[ax]? with
          | none => none
          | some mt => (match b_args mt st with
            | none => none
            | some (As, st') => (match fr with
              | 0 => none
              | fr' + 1 => (match b_run mts n fr' mt.2.1 mt.2.2.2.1 0 (As ++ List.replicate (mt.1.2.2 - As.length) a_dead) [] h with
                | some (_, _, [], h1) => b_run mts n fr cd stop nx L st' h1
                | _ => none)))))
      else (match b_eff ins nx ax L st h with
        | none => none
        | some (pc', L', st', h') => b_run mts n fr cd stop pc' L' st' h')
