/-! that the rows of the tables are the bytecode, and that what they link is said by the tables' words -/
def a_len (ins : Instr) : Nat := match ins with
  | .bipush _ => 2
  | .sipush _ => 3
  | .ldc _ => 2
  | .ldc_w _ => 3
  | .iload _ => 2
  | .aload _ => 2
  | .istore _ => 2
  | .astore _ => 2
  | .iinc _ _ => 3
  | .ifCond _ _ => 3
  | .if_icmp _ _ => 3
  | .goto _ => 3
  | .ifnull _ => 3
  | .ifnonnull _ => 3
  | .getfield _ => 3
  | .putfield _ => 3
  | .getstatic _ => 3
  | .invokevirtual _ => 3
  | .invokestatic _ => 3
  | .tableswitch _ _ _ _ => 0
  | .lookupswitch _ _ => 0
  | _ => 1
def a_wq (wp : Nat) (x : Jvm.Cond) : Bool := decide (a_wat wp = some x) && goodWord x
theorem a_wq_in {wp : Nat} {x : Jvm.Cond} (h : a_wq wp x = true) : x ∈ lw_ok := by
  have h := Bool.and_eq_true_iff.mp h
  exact a_okin (a_wat_in (of_decide_eq_true h.1)) h.2
def a_isNest (x : Jvm.Cond) : Bool := match x with
  | .fieldLinkNest _ _ _ _ _ _ => true
  | _ => false
/-- links between nest mates: what a callee must be told of the tables by its state -/
def a_nest : List Jvm.Cond := lw_tbl.filter a_isNest
def a_wn (wp : Nat) (x : Jvm.Cond) : Bool := decide (a_wat wp = some x)
theorem a_wn_in {wp : Nat} {x : Jvm.Cond} (h : a_wn wp x = true) (g : a_isNest x = true) : x ∈ a_nest := List.mem_filter.mpr ⟨a_wat_in (of_decide_eq_true h), g⟩
def a_vfl (own : String) (idx ax wp : Nat) : Bool := match a_cls[ax / 64]? with
  | some (_, T, N) => decide (ax % 64 < N) && (a_wq wp (.fieldLink own idx (T (ax % 64)).1 (T (ax % 64)).2.1 (T (ax % 64)).2.2.1) || a_wn wp (.fieldLinkNest own idx (T (ax % 64)).1 (T (ax % 64)).2.1 (T (ax % 64)).2.2.1 "WashAndDry"))
  | none => false
def a_vfin (ax : Nat) : Bool := match a_cls[ax / 64]? with
  | some (_, T, _) => !(T (ax % 64)).2.2.2
  | none => false
def a_jn (ax : Nat) : MethodName := if ax = 1000 then Lib.Math.max.name else if ax = 1001 then Lib.Math.min.name else Lib.Math.abs.name
def a_vins (own : String) (ret : Option FieldType) (pc : Nat) (ins : Instr) (ax wp : Nat) : Bool := match ins with
  | .ifCond _ off => decide ((pc : Int) + off = (ax : Int))
  | .if_icmp _ off => decide ((pc : Int) + off = (ax : Int))
  | .goto off => decide ((pc : Int) + off = (ax : Int))
  | .ifnull off => decide ((pc : Int) + off = (ax : Int))
  | .ifnonnull off => decide ((pc : Int) + off = (ax : Int))
  | .ldc idx => a_wq wp (.constant own idx (Int32.ofNat ax))
  | .ldc_w idx => a_wq wp (.constant own idx (Int32.ofNat ax))
  | .getfield idx => a_vfl own idx ax wp
  | .putfield idx => a_vfl own idx ax wp && a_vfin ax
  | .getstatic idx => decide (ax < 4) && (a_wq wp (.fieldLink own idx (a_stn ax).1 (a_stn ax).2 "[I") || a_wn wp (.fieldLinkNest own idx (a_stn ax).1 (a_stn ax).2 "[I" "WashAndDry"))
  | .invokevirtual idx => (match a_mth[ax]? with
    | some mt => a_wq wp (.methodLink own idx mt.1.1)
    | none => false)
  | .invokestatic idx => if ax < 1000 then (match a_mth[ax]? with
    | some mt => a_wq wp (.methodLink own idx mt.1.1)
    | none => false) else (decide (ax < 1003) && a_wq wp (.methodLink own idx (a_jn ax)))
  | .lookupswitch _ ps => (ps.toList.zip (ps.toList.drop 1)).all (fun (a, next) => a.1 < next.1)
  | .ireturn => decide (ret = some .int) || (decide (ret = some .boolean) && decide (ax = 1))
  | .areturn => (match ret with
    | some (.object _) => true
    | _ => false)
  | .return_ => decide (ret = none)
  | _ => true
def a_vrow (own : String) (ret : Option FieldType) (cc : ByteArray) (r : aR) : Bool :=
  decide (decode cc r.1 = .ok (r.2.1, r.2.2.1 - r.1)) && decide (r.1 ≤ r.2.2.1) && (decide (a_len r.2.1 = 0) || decide (r.2.2.1 - r.1 = a_len r.2.1)) && a_vins own ret r.1 r.2.1 r.2.2.2.1 r.2.2.2.2
def a_vmh (mt : aMt) : Bool :=
  a_wq mt.2.2.2.2.1 (.code mt.1.1 mt.1.2.1 mt.1.2.2.1 mt.1.2.2.2) && a_wq mt.2.2.2.2.2.2.2 (.initialized mt.1.1.cls) &&
  (if mt.2.2.2.1 = 100 then a_wq mt.2.2.2.2.2.1 (.static mt.1.1) && decide ((parseMethodDescriptor mt.1.1.desc).map (fun d => d.parameters.length) = some mt.2.2.1)
   else a_wq mt.2.2.2.2.2.1 (.instanceMethod mt.1.1) && a_wq mt.2.2.2.2.2.2.1 (.selects mt.1.1.cls mt.1.1 mt.1.1) && decide ((a_cls[mt.2.2.2.1]?).map (fun q => q.1) = some mt.1.1.cls) && decide ((parseMethodDescriptor mt.1.1.desc).map (fun d => d.parameters.length + 1) = some mt.2.2.1)) &&
  decide (plainName mt.1.1.cls = true) && decide (mt.1.1.cls ≠ "java/lang/invoke/MethodHandle" ∧ mt.1.1.cls ≠ "java/lang/invoke/VarHandle")
def a_vmt (mt : aMt) : Bool := a_vmh mt && mt.2.1.all (a_vrow mt.1.1.cls mt.1.2.2.2 mt.1.2.1)
theorem a_vmk {mt : aMt} {own : String} {ret : Option FieldType} {cc : ByteArray} {cd : List aR} (h : a_vmh mt = true) (h1 : mt.1.1.cls = own) (h2 : mt.1.2.2.2 = ret) (h3 : mt.1.2.1 = cc) (h4 : mt.2.1 = cd) (k : cd.all (a_vrow own ret cc) = true) : a_vmt mt = true := by
  unfold a_vmt
  rw [h, h1, h2, h3, h4, k]
  rfl
theorem a_vspl {p : aR → Bool} {l : List aR} (n : Nat) (h1 : (l.take n).all p = true) (h2 : (l.drop n).all p = true) : l.all p = true := by
  rw [← List.take_append_drop n l, List.all_append, h1, h2]
  rfl
theorem a_jmax : Jvm.Cond.code Lib.Math.max.name Lib.Math.max.code 2 (some .int) ∈ lw_ok ∧ Jvm.Cond.static Lib.Math.max.name ∈ lw_ok := ⟨a_wq_in (wp := 3030) (by decide +kernel), a_wq_in (wp := 3029) (by decide +kernel)⟩
theorem a_jmin : Jvm.Cond.code Lib.Math.min.name Lib.Math.min.code 2 (some .int) ∈ lw_ok ∧ Jvm.Cond.static Lib.Math.min.name ∈ lw_ok := ⟨a_wq_in (wp := 3053) (by decide +kernel), a_wq_in (wp := 3052) (by decide +kernel)⟩
theorem a_jabs : Jvm.Cond.code Lib.Math.abs.name Lib.Math.abs.code 1 (some .int) ∈ lw_ok ∧ Jvm.Cond.static Lib.Math.abs.name ∈ lw_ok := ⟨a_wq_in (wp := 5048) (by decide +kernel), a_wq_in (wp := 5047) (by decide +kernel)⟩
theorem a_jini : Jvm.Cond.initialized "java/lang/Math" ∈ lw_ok := a_wq_in (wp := 1014) (by decide +kernel)
