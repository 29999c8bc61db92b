/-! that the rows of the tables are the bytecode, and that what they link is said by the tables' words -/
def a_len (ins : Instr) : Nat := match ins with
  | .bipush _ => 2
  | .sipush _ => 3
  | .ldc _ => 2
  | .ldc_w _ => 3
  | .iload _ => 2
  | .aload _ => 2
  | .istore _ => 2
  | .astore _ => 2
  | .iinc _ _ => 3
  | .ifCond _ _ => 3
  | .if_icmp _ _ => 3
  | .goto _ => 3
  | .ifnull _ => 3
  | .ifnonnull _ => 3
  | .getfield _ => 3
  | .putfield _ => 3
  | .getstatic _ => 3
  | .invokevirtual _ => 3
  | .invokestatic _ => 3
  | .tableswitch _ _ _ _ => 0
  | .lookupswitch _ _ => 0
  | _ => 1
def a_wq (wp : Nat) (x : Jvm.Cond) : Bool := decide (lw_tbl[wp]? = some x) && goodWord x
theorem a_wq_in {wp : Nat} {x : Jvm.Cond} (h : a_wq wp x = true) : x ∈ lw_ok := by
  have h := Bool.and_eq_true_iff.mp h
  exact a_okin (List.mem_of_getElem? (of_decide_eq_true h.1)) h.2
def a_vfl (own : String) (idx ax wp : Nat) : Bool := match a_cls[ax / 64]? with
  | some (_, T, N) => decide (ax % 64 < N) && (a_wq wp (.fieldLink own idx (T (ax % 64)).1 (T (ax % 64)).2.1 (T (ax % 64)).2.2.1) || a_wq wp (.fieldLinkNest own idx (T (ax % 64)).1 (T (ax % 64)).2.1 (T (ax % 64)).2.2.1 "WashAndDry"))
  | none => false
def a_vfin (ax : Nat) : Bool := match a_cls[ax / 64]? with
  | some (_, T, _) => !(T (ax % 64)).2.2.2
  | none => false
def a_vins (own : String) (ret : Option FieldType) (pc : Nat) (ins : Instr) (ax wp : Nat) : Bool := match ins with
  | .ifCond _ off => decide ((pc : Int) + off = (ax : Int))
  | .if_icmp _ off => decide ((pc : Int) + off = (ax : Int))
  | .goto off => decide ((pc : Int) + off = (ax : Int))
  | .ifnull off => decide ((pc : Int) + off = (ax : Int))
  | .ifnonnull off => decide ((pc : Int) + off = (ax : Int))
  | .ldc idx => a_wq wp (.constant own idx (Int32.ofNat ax))
  | .ldc_w idx => a_wq wp (.constant own idx (Int32.ofNat ax))
  | .getfield idx => a_vfl own idx ax wp
  | .putfield idx => a_vfl own idx ax wp && a_vfin ax
  | .getstatic idx => decide (ax < 4) && (a_wq wp (.fieldLink own idx (a_stn ax).1 (a_stn ax).2 "[I") || a_wq wp (.fieldLinkNest own idx (a_stn ax).1 (a_stn ax).2 "[I" "WashAndDry"))
  | .invokevirtual idx => (match a_mth[ax]? with
    | some mt => a_wq wp (.methodLink own idx mt.1.1)
    | none => false)
  | .invokestatic idx => (match a_mth[ax]? with
    | some mt => a_wq wp (.methodLink own idx mt.1.1)
    | none => false)
  | .lookupswitch _ ps => (ps.toList.zip (ps.toList.drop 1)).all (fun (a, next) => a.1 < next.1)
  | .ireturn => decide (ret = some .int) || (decide (ret = some .boolean) && decide (ax = 1))
  | .areturn => (match ret with
    | some (.object _) => true
    | _ => false)
  | .return_ => decide (ret = none)
  | _ => true
def a_vrow (own : String) (ret : Option FieldType) (cc : ByteArray) (r : aR) : Bool :=
  decide (decode cc r.1 = .ok (r.2.1, r.2.2.1 - r.1)) && decide (r.1 ≤ r.2.2.1) && (decide (a_len r.2.1 = 0) || decide (r.2.2.1 - r.1 = a_len r.2.1)) && a_vins own ret r.1 r.2.1 r.2.2.2.1 r.2.2.2.2
def a_vmt (mt : aMt) : Bool :=
  a_wq mt.2.2.2.2.1 (.code mt.1.1 mt.1.2.1 mt.1.2.2.1 mt.1.2.2.2) && a_wq mt.2.2.2.2.2.2.2 (.initialized mt.1.1.cls) &&
  (if mt.2.2.2.1 = 100 then a_wq mt.2.2.2.2.2.1 (.static mt.1.1) && decide ((parseMethodDescriptor mt.1.1.desc).map (fun d => d.parameters.length) = some mt.2.2.1)
   else a_wq mt.2.2.2.2.2.1 (.instanceMethod mt.1.1) && a_wq mt.2.2.2.2.2.2.1 (.selects mt.1.1.cls mt.1.1 mt.1.1) && decide ((a_cls[mt.2.2.2.1]?).map (fun q => q.1) = some mt.1.1.cls) && decide ((parseMethodDescriptor mt.1.1.desc).map (fun d => d.parameters.length + 1) = some mt.2.2.1)) &&
  decide (plainName mt.1.1.cls = true) && decide (mt.1.1.cls ≠ "java/lang/invoke/MethodHandle" ∧ mt.1.1.cls ≠ "java/lang/invoke/VarHandle") && mt.2.1.all (a_vrow mt.1.1.cls mt.1.2.2.2 mt.1.2.1)
theorem a_v0 : a_m0.all a_vmt = true := by decide +kernel
theorem a_v1 : a_m1.all a_vmt = true := by decide +kernel
theorem a_v2 : a_m2.all a_vmt = true := by decide +kernel
theorem a_v3 : a_m3.all a_vmt = true := by decide +kernel
theorem a_v4 : a_m4.all a_vmt = true := by decide +kernel
theorem a_v5 : a_m5.all a_vmt = true := by decide +kernel
theorem a_v6 : a_m6.all a_vmt = true := by decide +kernel
theorem a_v7 : a_m7.all a_vmt = true := by decide +kernel
theorem a_v8 : a_m8.all a_vmt = true := by decide +kernel
theorem a_v9 : a_m9.all a_vmt = true := by decide +kernel
theorem a_v10 : a_m10.all a_vmt = true := by decide +kernel
theorem a_vall : ∀ mt ∈ a_mth, a_vmt mt = true := by
  unfold a_mth
  simp only [List.forall_mem_append]
  exact ⟨List.all_eq_true.mp a_v0, List.all_eq_true.mp a_v1, List.all_eq_true.mp a_v2, List.all_eq_true.mp a_v3, List.all_eq_true.mp a_v4, List.all_eq_true.mp a_v5, List.all_eq_true.mp a_v6, List.all_eq_true.mp a_v7, List.all_eq_true.mp a_v8, List.all_eq_true.mp a_v9, List.all_eq_true.mp a_v10⟩
theorem a_vlaw : a_c253.all (a_vrow "WashAndDryLaw" (some .boolean) code) = true := by decide +kernel
