/-! A small machine of this program's own: one fixed world of cells, whole numbers in them, references fixed; a run is a function. -/
abbrev aM : Type := Nat → Nat → Int32
abbrev aS : Type := Nat × List Value × List Value × aM
def a_up (M : aM) (i k : Nat) (v : Int32) : aM := fun i' k' => bif Nat.beq i' i && Nat.beq k' k then v else M i' k'
theorem a_up_ap (M : aM) (i k : Nat) (v : Int32) (i' k' : Nat) : a_up M i k v i' k' = if i' = i ∧ k' = k then v else M i' k' := by
  unfold a_up
  by_cases h : i' = i
  · by_cases h2 : k' = k
    · simp [h, h2]
    · have : Nat.beq k' k = false := by
        cases hh : Nat.beq k' k
        · rfl
        · exact absurd (Nat.eq_of_beq_eq_true hh) h2
      simp [h2, this]
  · have : Nat.beq i' i = false := by
      cases hh : Nat.beq i' i
      · rfl
      · exact absurd (Nat.eq_of_beq_eq_true hh) h
    simp [h, this]
def a_shape (i : Nat) : Nat × List (Option Nat) × Nat := (a_sh[i]?).getD (999, [], 0)
def a_rd (M : aM) (i k : Nat) : Int32 := if i < a_ncw then M i k else (a_scl i).getD k 0
/-- which cells may be written; the script: its length, its numbers -/
abbrev aW : Type := (Nat → Bool) × Nat × (Nat → Int32)
/-- the script's cell -/
def a_scr : Nat := a_ncw + 4
def a_dead : Value := .retAddr 0
def a_li (i nx : Nat) (L st : List Value) (M : aM) : Option aS := match L[i]? with
  | some (.int x) => some (nx, L, .int x :: st, M)
  | _ => none
def a_la (i nx : Nat) (L st : List Value) (M : aM) : Option aS := match L[i]? with
  | some (.ref x) => some (nx, L, .ref x :: st, M)
  | _ => none
def a_si (i nx : Nat) (L st : List Value) (M : aM) : Option aS := match st with
  | .int x :: r => if i < L.length then some (nx, L.set i (.int x), r, M) else none
  | _ => none
def a_sa (i nx : Nat) (L st : List Value) (M : aM) : Option aS := match st with
  | .ref x :: r => if i < L.length then some (nx, L.set i (.ref x), r, M) else none
  | _ => none
def a_ii (i nx : Nat) (c : Int) (L st : List Value) (M : aM) : Option aS := match L[i]? with
  | some (.int x) => some (nx, L.set i (.int (x + Int32.ofInt c)), st, M)
  | _ => none
def a_b2 (f : Int32 → Int32 → Int32) (nx : Nat) (L st : List Value) (M : aM) : Option aS := match st with
  | .int y :: .int x :: r => some (nx, L, .int (f x y) :: r, M)
  | _ => none
def a_d2 (f : Int32 → Int32 → Int32) (nx : Nat) (L st : List Value) (M : aM) : Option aS := match st with
  | .int y :: .int x :: r => if y = 0 then none else some (nx, L, .int (f x y) :: r, M)
  | _ => none
def a_neg (nx : Nat) (L st : List Value) (M : aM) : Option aS := match st with
  | .int x :: r => some (nx, L, .int (-x) :: r, M)
  | _ => none
def a_dup (nx : Nat) (L st : List Value) (M : aM) : Option aS := match st with
  | v :: r => if v.category = 1 then some (nx, L, v :: v :: r, M) else none
  | _ => none
def a_dup2 (nx : Nat) (L st : List Value) (M : aM) : Option aS := match st with
  | v :: u :: r => if v.category = 1 ∧ u.category = 1 then some (nx, L, v :: u :: v :: u :: r, M) else none
  | _ => none
def a_pop (nx : Nat) (L st : List Value) (M : aM) : Option aS := match st with
  | v :: r => if v.category = 1 then some (nx, L, r, M) else none
  | _ => none
def a_k1 (f : Int32 → Bool) (ax nx : Nat) (L st : List Value) (M : aM) : Option aS := match st with
  | .int x :: r => bif f x then some (ax, L, r, M) else some (nx, L, r, M)
  | _ => none
def a_k2 (f : Int32 → Int32 → Bool) (ax nx : Nat) (L st : List Value) (M : aM) : Option aS := match st with
  | .int y :: .int x :: r => bif f x y then some (ax, L, r, M) else some (nx, L, r, M)
  | _ => none
def a_cf1 (c : Jvm.ClassFile.Cond) (x : Int32) : Bool := match c with
  | .eq => decide (x = 0)
  | .ne => decide (¬ x = 0)
  | .lt => decide (x < 0)
  | .ge => decide (0 ≤ x)
  | .gt => decide (0 < x)
  | .le => decide (x ≤ 0)
def a_cf2 (c : Jvm.ClassFile.Cond) (x y : Int32) : Bool := match c with
  | .eq => decide (x = y)
  | .ne => decide (¬ x = y)
  | .lt => decide (x < y)
  | .ge => decide (y ≤ x)
  | .gt => decide (y < x)
  | .le => decide (x ≤ y)
def a_nl (b : Bool) (ax nx : Nat) (L st : List Value) (M : aM) : Option aS := match st with
  | .ref _ :: r => bif b then some (nx, L, r, M) else some (ax, L, r, M)
  | .null :: r => bif b then some (ax, L, r, M) else some (nx, L, r, M)
  | _ => none
def a_jmp (pc : Nat) (off : Int) (L st : List Value) (M : aM) : Option aS := match (pc : Int) + off with
  | .ofNat t => some (t, L, st, M)
  | _ => none
def a_tsw (pc : Nat) (d lo hi : Int) (offs : Array Int) (L st : List Value) (M : aM) : Option aS := match st with
  | .int x :: r => if x.toInt < lo ∨ hi < x.toInt then a_jmp pc d L r M else match offs[(x.toInt - lo).toNat]? with
    | some o => a_jmp pc o L r M
    | none => none
  | _ => none
def a_lsw (pc : Nat) (d : Int) (ps : Array (Int × Int)) (L st : List Value) (M : aM) : Option aS := match st with
  | .int x :: r => a_jmp pc (Op.lookupswitch.offset ps.toList d x.toInt) L r M
  | _ => none
def a_getf (w : aW) (ax i : Nat) (M : aM) : Option Value := if i < a_ncw then
    (if (a_shape i).1 = ax / 64 then (match (a_shape i).2.1[ax % 64]? with
      | some (some j) => some (.ref j)
      | some none => if w.1 i = true then some (.int (M i (ax % 64))) else none
      | none => none) else none)
  else none
def a_isB (ci k : Nat) : Bool := match a_ty ci k with | .boolean => true | _ => false
def a_isI (ci k : Nat) : Bool := match a_ty ci k with | .int => true | _ => false
def a_putf (w : aW) (ax i : Nat) (v : Int32) (M : aM) : Option aM := if i < a_ncw ∧ w.1 i = true then
    (if (a_shape i).1 = ax / 64 then (match (a_shape i).2.1[ax % 64]? with
      | some none => if a_isI (ax / 64) (ax % 64) = true ∨ (a_isB (ax / 64) (ax % 64) = true ∧ (v = 0 ∨ v = 1)) then some (a_up M i (ax % 64) v) else none
      | _ => none) else none)
  else none
def a_ald (w : aW) (i : Nat) (j : Int32) (M : aM) : Option Int32 := if i = a_scr then (if w.1 i = true ∧ ¬ j < 0 ∧ j.toNatClampNeg < w.2.1 then some (w.2.2 j.toNatClampNeg) else none) else if (((a_shape i).1 = 100 ∧ w.1 i = true) ∨ (a_shape i).1 = 101) ∧ ¬ j < 0 ∧ j.toNatClampNeg < (a_shape i).2.2 then some (a_rd M i j.toNatClampNeg) else none
def a_ast (w : aW) (i : Nat) (j v : Int32) (M : aM) : Option aM := if ((a_shape i).1 = 100 ∧ w.1 i = true) ∧ ¬ j < 0 ∧ j.toNatClampNeg < (a_shape i).2.2 then some (a_up M i j.toNatClampNeg v) else none
def a_aald (i : Nat) (j : Int32) : Option Nat := if (a_shape i).1 = 102 ∧ ¬ j < 0 ∧ j.toNatClampNeg < (a_shape i).2.2 then (match (a_shape i).2.1[j.toNatClampNeg]? with
    | some (some q) => some q
    | _ => none) else none
def a_alen (w : aW) (i : Nat) : Option Nat := if i = a_scr then (if w.1 i = true then some w.2.1 else none) else if (a_shape i).1 = 100 ∨ (a_shape i).1 = 101 ∨ (a_shape i).1 = 102 then some (a_shape i).2.2 else none
def a_gf (w : aW) (nx ax : Nat) (L st : List Value) (M : aM) : Option aS := match st with
  | .ref i :: r => (match a_getf w ax i M with
    | some v => some (nx, L, v :: r, M)
    | none => none)
  | _ => none
def a_pf (w : aW) (nx ax : Nat) (L st : List Value) (M : aM) : Option aS := match st with
  | .int v :: .ref i :: r => (match a_putf w ax i v M with
    | some M' => some (nx, L, r, M')
    | none => none)
  | _ => none
def a_ial (w : aW) (nx : Nat) (L st : List Value) (M : aM) : Option aS := match st with
  | .int j :: .ref i :: r => (match a_ald w i j M with
    | some v => some (nx, L, .int v :: r, M)
    | none => none)
  | _ => none
def a_ias (w : aW) (nx : Nat) (L st : List Value) (M : aM) : Option aS := match st with
  | .int v :: .int j :: .ref i :: r => (match a_ast w i j v M with
    | some M' => some (nx, L, r, M')
    | none => none)
  | _ => none
def a_aal (nx : Nat) (L st : List Value) (M : aM) : Option aS := match st with
  | .int j :: .ref i :: r => (match a_aald i j with
    | some q => some (nx, L, .ref q :: r, M)
    | none => none)
  | _ => none
def a_aln (w : aW) (nx : Nat) (L st : List Value) (M : aM) : Option aS := match st with
  | .ref i :: r => (match a_alen w i with
    | some n => some (nx, L, .int (Int32.ofNat n) :: r, M)
    | none => none)
  | _ => none
def a_eff (w : aW) (ins : Instr) (pc nx ax : Nat) (L st : List Value) (M : aM) : Option aS := match ins with
  | .iconst n => some (nx, L, .int (Int32.ofInt n) :: st, M)
  | .bipush n => some (nx, L, .int (Int8.ofInt n).toInt32 :: st, M)
  | .sipush n => some (nx, L, .int (Int16.ofInt n).toInt32 :: st, M)
  | .ldc _ => some (nx, L, .int (Int32.ofNat ax) :: st, M)
  | .ldc_w _ => some (nx, L, .int (Int32.ofNat ax) :: st, M)
  | .aconst_null => some (nx, L, .null :: st, M)
  | .iload_n k => a_li k.val nx L st M
  | .iload i => a_li i nx L st M
  | .aload_n k => a_la k.val nx L st M
  | .aload i => a_la i nx L st M
  | .istore_n k => a_si k.val nx L st M
  | .istore i => a_si i nx L st M
  | .astore_n k => a_sa k.val nx L st M
  | .astore i => a_sa i nx L st M
  | .iinc i c => a_ii i nx c L st M
  | .iadd => a_b2 (fun x y => x + y) nx L st M
  | .isub => a_b2 (fun x y => x - y) nx L st M
  | .imul => a_b2 (fun x y => x * y) nx L st M
  | .iand => a_b2 (fun x y => x &&& y) nx L st M
  | .ior => a_b2 (fun x y => x ||| y) nx L st M
  | .ixor => a_b2 (fun x y => x ^^^ y) nx L st M
  | .ishl => a_b2 (fun x y => x <<< (y &&& 31)) nx L st M
  | .ishr => a_b2 (fun x y => x >>> (y &&& 31)) nx L st M
  | .iushr => a_b2 (fun x y => (x.toUInt32 >>> (y.toUInt32 &&& Int32.toUInt32 31)).toInt32) nx L st M
  | .idiv => a_d2 (fun x y => x / y) nx L st M
  | .irem => a_d2 (fun x y => x - x / y * y) nx L st M
  | .ineg => a_neg nx L st M
  | .dup => a_dup nx L st M
  | .dup2 => a_dup2 nx L st M
  | .pop => a_pop nx L st M
  | .ifCond c _ => a_k1 (a_cf1 c) ax nx L st M
  | .if_icmp c _ => a_k2 (a_cf2 c) ax nx L st M
  | .goto _ => some (ax, L, st, M)
  | .ifnull _ => a_nl true ax nx L st M
  | .ifnonnull _ => a_nl false ax nx L st M
  | .tableswitch d lo hi offs => a_tsw pc d lo hi offs L st M
  | .lookupswitch d ps => a_lsw pc d ps L st M
  | .getfield _ => a_gf w nx ax L st M
  | .putfield _ => a_pf w nx ax L st M
  | .getstatic _ => some (nx, L, .ref (a_ncw + ax) :: st, M)
  | .iaload => a_ial w nx L st M
  | .iastore => a_ias w nx L st M
  | .aaload => a_aal nx L st M
  | .arraylength => a_aln w nx L st M
  | _ => none
def a_find : List aR → Nat → Option aR
  | [], _ => none
  | r :: t, pc => bif Nat.beq r.1 pc then some r else a_find t pc
def a_take : Nat → List Value → List Value → Option (List Value × List Value)
  | 0, st, acc => some (acc, st)
  | _ + 1, [], _ => none
  | k + 1, v :: st, acc => a_take k st (v :: acc)
/-- what an instruction is: 0 a step, 1 a call of an object's method, 2 of a static one, 3 to 5 an end, 6 one of Math's -/
def a_kind (ins : Instr) (ax : Nat) : Nat := match ins with
  | .invokevirtual _ => 1
  | .invokestatic _ => if ax < 1000 then 2 else 6
  | .ireturn => 3
  | .areturn => 4
  | .return_ => 5
  | _ => 0
def a_math (ax nx : Nat) (L st : List Value) (M : aM) : Option aS := match st with
  | .int y :: r => if ax = 1002 then (if (r.map fun v => v.category).sum ≤ 8 then some (nx, L, .int (if 0 ≤ y then y else 0 - y) :: r, M) else none) else (match r with
    | .int x :: r => if (r.map fun v => v.category).sum ≤ 8 then (if ax = 1000 then some (nx, L, .int (if x < y then y else x) :: r, M) else if ax = 1001 then some (nx, L, .int (if y < x then y else x) :: r, M) else none) else none
    | _ => none)
  | _ => none
def a_recv (ci : Nat) (As : List Value) : Bool := match As with
  | .ref i :: _ => decide (i < a_ncw) && decide ((a_shape i).1 = ci)
  | _ => false
def a_ret (k ax : Nat) (st : List Value) : Option (Option Value) := match k, st with
  | 3, [.int x] => if ax = 0 ∨ x = 0 ∨ x = 1 then some (some (.int x)) else none
  | 4, [.ref q] => some (some (.ref q))
  | 4, [.null] => some (some .null)
  | 5, [] => some none
  | _, _ => none
def a_args (k : Nat) (mt : aMt) (st : List Value) : Option (List Value × List Value) := match a_take mt.2.2.1 st [] with
  | some (As, st') => if (st'.map fun v => v.category).sum ≤ 8 ∧ mt.1.2.2.1 ≤ 19 ∧ As.length ≤ mt.1.2.2.1 ∧ (∀ v ∈ As, v.category = 1) ∧ ((k = 2 ∧ mt.2.2.2.1 = 100) ∨ (k = 1 ∧ mt.2.2.2.1 < 100 ∧ a_recv mt.2.2.2.1 As = true)) then some (As, st') else none
  | none => none
def a_run (w : aW) : Nat → Nat → List aR → Nat → List Value → List Value → aM → Option (Option Value × aM)
  | 0, _, _, _, _, _, _ => none
  | n + 1, fr, cd, pc, L, st, M => match a_find cd pc with
    | none => none
    | some (_, ins, nx, ax, _) => match a_kind ins ax with
      | 0 => (match a_eff w ins pc nx ax L st M with
        | none => none
        | some (pc', L', st', M') => a_run w n fr cd pc' L' st' M')
      | k + 1 => if k < 2 then (match a_mth[ax]? with
          | none => none
          | some mt => (match a_args (k + 1) mt st with
            | none => none
            | some (As, st') => (match fr with
              | 0 => none
              | fr' + 1 => (match a_run w n fr' mt.2.1 0 (As ++ List.replicate (mt.1.2.2.1 - As.length) a_dead) [] M with
                | none => none
                | some (r, M') => a_run w n fr cd nx L (r.toList ++ st') M'))))
        else if k = 5 then (if fr = 0 then none else (match a_math ax nx L st M with
          | none => none
          | some (pc', L', st', M') => a_run w n fr cd pc' L' st' M'))
        else (match a_ret (k + 1) ax st with
          | none => none
          | some r => some (r, M))
