/-! the constructors' machine is a walk of the real one -/
theorem b_wd_get (ad : Nat → Nat) (cI cO : ClassId) (h : List bE) (i : Nat) : (b_wd ad cI cO h)[i]? = (h[i]?).map fun e => (ad i, b_ent ad cI cO e) := by
  unfold b_wd
  rw [List.getElem?_map, List.getElem?_zipIdx]
  cases h[i]? <;> simp
theorem b_wd_len (ad : Nat → Nat) (cI cO : ClassId) (h : List bE) : (b_wd ad cI cO h).length = h.length := by simp [b_wd]
theorem b_wd_push (ad : Nat → Nat) (cI cO : ClassId) (h : List bE) (e : bE) : b_wd ad cI cO (h ++ [e]) = b_wd ad cI cO h ++ [(ad h.length, b_ent ad cI cO e)] := by
  simp [b_wd, List.zipIdx_append]
theorem b_wd_set (ad : Nat → Nat) (cI cO : ClassId) (h : List bE) (i : Nat) (e : bE) : (b_wd ad cI cO h).set i (ad i, b_ent ad cI cO e) = b_wd ad cI cO (h.set i e) := by
  apply List.ext_getElem?
  intro j
  rw [List.getElem?_set, b_wd_get, b_wd_get, List.getElem?_set, b_wd_len]
  by_cases hij : i = j
  · subst hij
    rw [if_pos rfl, if_pos rfl]
    split <;> simp
  · rw [if_neg hij, if_neg hij]
def b_Kn (D : va_G) (cI cO : ClassId) (U : State) : Prop := va_K D a_cls [(cI, .int), (cO, .object aR5)] U ∧ va_AO aR5 U ∧ ∀ x ∈ a_nest, va_Nw x U
def b_ad (base : Nat) (ad : Nat → Nat) : Prop := ∀ i, i < 900 → ad i = base + i
def b_A (base : Nat) : Nat → Prop := fun q => base ≤ q
def b_Cx (D : va_G) (ad : Nat → Nat) (base : Nat) (cI cO : ClassId) (p : Program) (R : Room) (s : State) (m : MethodId) (args : Array Value) (meth : Method) (c : Code) (cc : ByteArray) (nL : Nat) (own : String) (ini : Bool) (fr : Nat) : Prop :=
  p.tables.exec = Jvm.exec ∧ c.code = cc ∧ c.maxLocals = nL ∧ s.vm.findClass own = some m.cls ∧ (∀ x ∈ lw_ok, x.before args s = true) ∧ b_Kn D cI cO s ∧ b_ad base ad ∧ base ≤ s.heap.size ∧ (ini = true → meth.name = "<init>") ∧ fr ≤ R.frames ∧ 38 * fr ≤ R.locals
def b_Rl (D : va_G) (ad : Nat → Nat) (base : Nat) (cI cO : ClassId) (s : State) (nL : Nat) (h : List bE) (L : List Value) (H : Heap) (locs : List Loc) (ls : Array Slot) : Prop := va_P D a_cls (b_wd ad cI cO h) H ∧ H.size = base + h.length ∧ h.length ≤ 900 ∧ va_S (b_A base) s.heap H locs ∧ a_lr ad ls nL L
def b_vfin (own : String) (ini : Bool) (idx ax wp : Nat) : Bool := match a_cls[ax / 64]? with
  | some (_, T, N) => decide (ax % 64 < N) && a_wq wp (.fieldLink own idx (T (ax % 64)).1 (T (ax % 64)).2.1 (T (ax % 64)).2.2.1) && (if (T (ax % 64)).2.2.2 then ini && decide ((T (ax % 64)).1 = own) else true)
  | none => false
def b_vins (mts : List bMt) (own : String) (ini : Bool) (pc : Nat) (ins : Instr) (ax wp : Nat) : Bool := match ins with
  | .if_icmp _ off => decide ((pc : Int) + off = (ax : Int))
  | .goto off => decide ((pc : Int) + off = (ax : Int))
  | .ldc idx => a_wq wp (.constant own idx (Int32.ofNat ax))
  | .getfield idx => a_vfl own idx ax wp
  | .putfield idx => b_vfin own ini idx ax wp
  | .new idx => (match a_cls[ax]? with
    | some (C, _, _) => a_wq wp (.classLink own idx C)
    | none => false)
  | .newarray _ => a_wq wp (.arrayClass .int)
  | .anewarray idx => a_wq wp (.classLink own idx aR5)
  | .invokespecial idx => if ax = 999 then a_wq wp (.methodLink own idx Lib.objectInit) else (match mts[ax]? with
    | some mt => a_wq wp (.methodLink own idx mt.1.1)
    | none => false)
  | _ => true
def b_len (ins : Instr) : Nat := match ins with
  | .new _ => 3
  | .newarray _ => 2
  | .anewarray _ => 3
  | .invokespecial _ => 3
  | i => a_len i
def b_vrow (mts : List bMt) (own : String) (ini : Bool) (cc : ByteArray) (r : aR) : Bool :=
  decide (decode cc r.1 = .ok (r.2.1, b_len r.2.1)) && decide (r.2.2.1 = r.1 + b_len r.2.1) && b_vins mts own ini r.1 r.2.1 r.2.2.2.1 r.2.2.2.2
theorem b_vrow_dec {mts : List bMt} {own : String} {ini : Bool} {cc : ByteArray} {pc nx ax wp : Nat} {ins : Instr} (h : b_vrow mts own ini cc (pc, ins, nx, ax, wp) = true) : decode cc pc = .ok (ins, b_len ins) ∧ nx = pc + b_len ins ∧ b_vins mts own ini pc ins ax wp = true := by
  unfold b_vrow at h
  simp only [Bool.and_eq_true, decide_eq_true_eq] at h
  exact ⟨h.1.1, h.1.2, h.2⟩
theorem b_fit_ok {ty : FieldType} {v : Value} (ad : Nat → Nat) (h : b_fit ty v = true) : narrow ty (a_cv ad v) = a_cv ad v ∧ fits ty (a_cv ad v) = true := by
  unfold b_fit at h
  split at h
  · exact ⟨rfl, rfl⟩
  · simp only [Bool.or_eq_true, decide_eq_true_eq] at h
    rcases h with rfl | rfl
    · exact ⟨(by decide : narrow .boolean (.int 0) = .int 0), (by decide : fits .boolean (.int 0) = true)⟩
    · exact ⟨(by decide : narrow .boolean (.int 1) = .int 1), (by decide : fits .boolean (.int 1) = true)⟩
  · exact ⟨rfl, rfl⟩
  · exact ⟨rfl, rfl⟩
  · cases h
theorem b_D {base : Nat} {ad : Nat → Nat} (ha : b_ad base ad) (cI cO : ClassId) {h : List bE} (hl : h.length ≤ 900) : va_D (b_A base) (b_wd ad cI cO h) := by
  refine ⟨fun i j p q hp hq e => ?_, fun k q hk => ?_⟩
  · rw [b_wd_get] at hp hq
    obtain ⟨e1, h1, rfl⟩ := Option.map_eq_some_iff.mp hp
    obtain ⟨e2, h2, rfl⟩ := Option.map_eq_some_iff.mp hq
    have hi := (List.getElem?_eq_some_iff.mp h1).1
    have hj := (List.getElem?_eq_some_iff.mp h2).1
    simp only at e
    rw [ha i (by omega), ha j (by omega)] at e
    omega
  · rw [b_wd_get] at hk
    obtain ⟨e1, h1, rfl⟩ := Option.map_eq_some_iff.mp hk
    have hi := (List.getElem?_eq_some_iff.mp h1).1
    show base ≤ ad k
    rw [ha k (by omega)]
    omega
theorem b_at {ad : Nat → Nat} {cI cO : ClassId} {h : List bE} {i : Nat} {e : bE} (hi : h[i]? = some e) : (b_wd ad cI cO h)[i]? = some (ad i, b_ent ad cI cO e) := by
  rw [b_wd_get, hi]
  rfl
theorem hP_int {D : va_G} {ad : Nat → Nat} {cI cO : ClassId} {h : List bE} {H : Heap} {i n : Nat} {f : Nat → Int32} (hP : va_P D a_cls (b_wd ad cI cO h) H) (hi : h[i]? = some (.inr (n, .inl f))) : H[ad i]? = some (arrV cI n (fun j => .int (f j))) := hP i _ (b_at hi)
section BSTEP
variable {p : Program} {l : Launch} {e : Env} {R : Room} {s : State} {m : MethodId} {args : Array Value} {below : List Frame} {meth : Method} {c : Code} {cells slots : Nat} {Q : State → Prop} {cc : ByteArray} {D : va_G} {ad : Nat → Nat} {base : Nat} {cI cO : ClassId} {nL fr : Nat} {own : String} {ini : Bool}
theorem b_nestok (K : b_Kn D cI cO s) {x : Jvm.Cond} (h : x ∈ a_nest) : x.before args s = true := by
  obtain ⟨a, i, b, n, d, z, rfl⟩ := a_nest_form h
  exact va_Nw.use rfl (K.2.2 _ h)
theorem b_gf_ok (C : b_Cx D ad base cI cO p R s m args meth c cc nL own ini fr) {idx ax wp nx pc pc' : Nat} {L st L' st' : List Value} {h h' : List bE} (hv : a_vfl own idx ax wp = true) (he : b_gf nx ax L st h = some (pc', L', st', h')) (hdg : decode cc pc = .ok (.getfield idx, 3)) (hnx : nx = pc + 3) {H : Heap} {locs : List Loc} {ls : Array Slot} (r : b_Rl D ad base cI cO s nL h L H locs ls)
    (kk : ∀ H' locs' ls', b_Rl D ad base cI cO s nL h' L' H' locs' ls' → W p l e R s m args below meth c H' locs' cells slots Q (F0 m pc' ls' (st'.map (a_cv ad)))) : W p l e R s m args below meth c H locs cells slots Q (F0 m pc ls (st.map (a_cv ad))) := by
  obtain ⟨hx, hb, -, hown, hts, hK, -⟩ := id C
  subst hnx
  unfold b_gf at he
  split at he
  next i rest =>
    split at he
    next ci fs hi =>
      split at he
      next hci =>
        split at he
        next v hvv =>
          cases he
          subst hci
          unfold a_vfl at hv
          split at hv
          next C0 T N hc =>
            simp only [Bool.and_eq_true, Bool.or_eq_true, decide_eq_true_eq] at hv
            obtain ⟨hk, hl⟩ := hv
            obtain ⟨hin, -, -⟩ := a_cok_all _ _ _ _ hc
            have hval : (fs.map (a_cv ad))[ax % 64]? = some (a_cv ad v) := by rw [List.getElem?_map, hvv]; rfl
            rcases hl with hl | hl
            · exact va_get hx hb hts hin hown hK.1 r.1 i (b_at hi) hc (ax % 64) hk (hts _ (a_wq_in hl)) (fun _ h => h) hval hdg (kk _ _ _ r)
            · exact va_getN hx hb hts hin hown hK.1 r.1 i (b_at hi) hc (ax % 64) hk (b_nestok hK (a_wn_in hl rfl)) (fun _ h => h) hval hdg (kk _ _ _ r)
          next => cases hv
        next => cases he
      next => cases he
    next => cases he
  next => cases he
/-- a store into a field of an object of the world; the heap's size is told too -/
theorem b_putN {A : Nat → Prop} {ws : va_W} {tys : List (ClassId × FieldType)} {H0 H : Heap} {locs : List Loc} {pc a : Nat} {ls : Array Slot} {rest : List Value} (hx : p.tables.exec = Jvm.exec) (hb : c.code = cc) {C : String} {T : u_T} {N ci index : Nat} {Ts : List Jvm.Cond} (hts : ∀ w ∈ Ts, w.before args s = true) (hin : ∀ w ∈ u_ws C T N, w ∈ Ts) (ty0 : Nat → FieldType) (hty : ∀ k, k < N → parseFieldDescriptor (T k).2.2.1 = some (ty0 k)) (hnm : ∀ a, a < N → ∀ b, b < N → a ≠ b → (T a).2.1 ≠ (T b).2.1) (hown : s.vm.findClass own = some m.cls) (hK : va_K D a_cls tys s) (hP : va_P D a_cls ws H) (hD : va_D A ws) (hS : va_S A H0 H locs) (i : Nat) {fs : List Value} (he : ws[i]? = some (a, .inr (ci, fs))) (hc : a_cls[ci]? = some (C, T, N)) (k : Nat) (hk : k < N) (hlink : (Jvm.Cond.fieldLink own index (T k).1 (T k).2.1 (T k).2.2.1).before args s = true) (hfin : (T k).2.2.2 = false) {v : Value} (hn : narrow (ty0 k) v = v) (hfit : fits (ty0 k) v = true) (hl : k < fs.length)
    (hdg : decode cc pc = .ok (.putfield index, 3)) (kk : ∀ (H1 : Heap) (locs1 : List Loc), va_P D a_cls (ws.set i (a, .inr (ci, fs.set k v))) H1 → H1.size = H.size → va_S A H0 H1 locs1 → W p l e R s m args below meth c H1 locs1 cells slots Q (F0 m (pc + 3) ls rest)) : W p l e R s m args below meth c H locs cells slots Q (F0 m pc ls (v :: .ref a :: rest)) := by
  have hap := va_apart (own := own) hts hin ty0 hty hnm hK hc
  obtain ⟨r, h1, cell, q1, q2, q3, q4⟩ := hP i _ he
  obtain rfl : r = (C, T, N) := Option.some.inj (h1.symm.trans hc)
  obtain ⟨hSl, hfc, kC, hkC, hkind⟩ := hK.1 ci _ hc
  obtain ⟨cf, kf, fi, f, hi, hsl⟩ := hSl k hk
  have hlay := hts _ (hin _ (u_in_lay hk))
  unfold u_lay at hlay
  rw [if_neg (by rw [hfin]; decide)] at hlay
  refine W.putK hx hb (f := f) ⟨hown, hlink, ⟨_, _, _, hi⟩, (u_facts hfc hkC (u_lays hts hin hk) hi).1⟩ (by rw [q2]; exact u_store hfc hkC hkind hlay hi (hty k hk) hn hfit) q1 q3 (by rw [hsl]; exact k2_hasslot (q4 k hk)) rfl rfl hdg fun H' e1 e2 e3 => ?_
  rw [hsl] at e1 ⊢
  exact kk H' _ (hP.set hD he ⟨_, hc, t_OB.to (V := updV (vp_V fs) k v) ⟨_, e1, q2, q3, t_set q4 hap hk v⟩ (fun j _ => vp_updV_set hl v j)⟩ e3) e2 (hS.put e2 e3 (hD.2 i _ he))
/-- the same into a final field, in a constructor -/
theorem b_putF {A : Nat → Prop} {ws : va_W} {tys : List (ClassId × FieldType)} {H0 H : Heap} {locs : List Loc} {pc a : Nat} {ls : Array Slot} {rest : List Value} (hx : p.tables.exec = Jvm.exec) (hb : c.code = cc) {C : String} {T : u_T} {N ci index : Nat} {Ts : List Jvm.Cond} (hts : ∀ w ∈ Ts, w.before args s = true) (hin : ∀ w ∈ u_ws C T N, w ∈ Ts) (ty0 : Nat → FieldType) (hty : ∀ k, k < N → parseFieldDescriptor (T k).2.2.1 = some (ty0 k)) (hnm : ∀ a, a < N → ∀ b, b < N → a ≠ b → (T a).2.1 ≠ (T b).2.1) (hown : s.vm.findClass own = some m.cls) (hK : va_K D a_cls tys s) (hP : va_P D a_cls ws H) (hD : va_D A ws) (hS : va_S A H0 H locs) (i : Nat) {fs : List Value} (he : ws[i]? = some (a, .inr (ci, fs))) (hc : a_cls[ci]? = some (C, T, N)) (k : Nat) (hk : k < N) (hlink : (Jvm.Cond.fieldLink own index (T k).1 (T k).2.1 (T k).2.2.1).before args s = true) (hfin : (T k).2.2.2 = true) (hin2 : meth.name = "<init>") (hdecl : (T k).1 = own) {v : Value} (hn : narrow (ty0 k) v = v) (hfit : fits (ty0 k) v = true) (hl : k < fs.length)
    (hdg : decode cc pc = .ok (.putfield index, 3)) (kk : ∀ (H1 : Heap) (locs1 : List Loc), va_P D a_cls (ws.set i (a, .inr (ci, fs.set k v))) H1 → H1.size = H.size → va_S A H0 H1 locs1 → W p l e R s m args below meth c H1 locs1 cells slots Q (F0 m (pc + 3) ls rest)) : W p l e R s m args below meth c H locs cells slots Q (F0 m pc ls (v :: .ref a :: rest)) := by
  have hap := va_apart (own := own) hts hin ty0 hty hnm hK hc
  obtain ⟨r, h1, cell, q1, q2, q3, q4⟩ := hP i _ he
  obtain rfl : r = (C, T, N) := Option.some.inj (h1.symm.trans hc)
  obtain ⟨hSl, hfc, kC, hkC, hkind⟩ := hK.1 ci _ hc
  obtain ⟨cf, kf, fi, f, hi, hsl⟩ := hSl k hk
  have hlay := hts _ (hin _ (u_in_lay hk))
  unfold u_lay at hlay
  rw [if_pos hfin] at hlay
  have hcf : m.cls = cf := by
    obtain ⟨_, _, c', _, _, _, -, -, hf', -, -, -, hown2, -⟩ := Cond.laysFinal_spec hlay
    have e1 : c' = cf := by have := hi.symm.trans hf'; simp at this; exact this.1.symm
    rw [hdecl] at hown2
    rw [← e1]; exact Option.some.inj (hown.symm.trans hown2)
  refine W.putFinK hx hb hown hlink hi (u_facts hfc hkC (u_lays hts hin hk) hi).1 hcf hin2 (by rw [q2]; exact u_fits hfc hkC hkind (Or.inr hlay) hi (hty k hk) hn hfit) q1 q3 (by rw [hsl]; exact k2_hasslot (q4 k hk)) rfl rfl hdg fun H' e1 e2 e3 => ?_
  rw [hsl] at e1 ⊢
  exact kk H' _ (hP.set hD he ⟨_, hc, t_OB.to (V := updV (vp_V fs) k v) ⟨_, e1, q2, q3, t_set q4 hap hk v⟩ (fun j _ => vp_updV_set hl v j)⟩ e3) e2 (hS.put e2 e3 (hD.2 i _ he))
theorem b_pf_ok (C : b_Cx D ad base cI cO p R s m args meth c cc nL own ini fr) {idx ax wp nx pc pc' : Nat} {L st L' st' : List Value} {h h' : List bE} (hv : b_vfin own ini idx ax wp = true) (he : b_pf nx ax L st h = some (pc', L', st', h')) (hdg : decode cc pc = .ok (.putfield idx, 3)) (hnx : nx = pc + 3) {H : Heap} {locs : List Loc} {ls : Array Slot} (r : b_Rl D ad base cI cO s nL h L H locs ls)
    (kk : ∀ H' locs' ls', b_Rl D ad base cI cO s nL h' L' H' locs' ls' → W p l e R s m args below meth c H' locs' cells slots Q (F0 m pc' ls' (st'.map (a_cv ad)))) : W p l e R s m args below meth c H locs cells slots Q (F0 m pc ls (st.map (a_cv ad))) := by
  obtain ⟨hx, hb, -, hown, hts, hK, hA, hbs, hnm0, -⟩ := id C
  subst hnx
  unfold b_pf at he
  split at he
  next v i rest =>
    split at he
    next ci fs hi =>
      split at he
      next hcond =>
        obtain ⟨hci, hlen, hft, h9⟩ := hcond
        simp only [Option.some.injEq, Prod.mk.injEq] at he
        obtain ⟨rfl, rfl, rfl, rfl⟩ := he
        subst hci
        unfold b_vfin at hv
        split at hv
        next C0 T N hc =>
          simp only [Bool.and_eq_true, decide_eq_true_eq] at hv
          obtain ⟨⟨hk, hl⟩, hf⟩ := hv
          obtain ⟨hin, hty, hnm⟩ := a_cok_all _ _ _ _ hc
          obtain ⟨k1, k2⟩ := b_fit_ok ad hft
          have hset : (b_wd ad cI cO h).set i (ad i, .inr (ax / 64, (fs.map (a_cv ad)).set (ax % 64) (a_cv ad v))) = b_wd ad cI cO (h.set i (.inl (ax / 64, fs.set (ax % 64) v))) := by
            rw [← b_wd_set]
            simp [b_ent, List.map_set]
          have fin : ∀ (H1 : Heap) (locs1 : List Loc), va_P D a_cls ((b_wd ad cI cO h).set i (ad i, .inr (ax / 64, (fs.map (a_cv ad)).set (ax % 64) (a_cv ad v)))) H1 → H1.size = H.size → va_S (b_A base) s.heap H1 locs1 → W p l e R s m args below meth c H1 locs1 cells slots Q (F0 m (pc + 3) ls (rest.map (a_cv ad))) := fun H1 locs1 g1 g2 g3 => kk H1 locs1 ls ⟨by rw [← hset]; exact g1, by rw [g2, r.2.1, List.length_set], by rw [List.length_set]; exact r.2.2.1, g3, r.2.2.2.2⟩
          have hle : ax % 64 < (fs.map (a_cv ad)).length := by rw [List.length_map]; exact hlen
          by_cases hfinal : (T (ax % 64)).2.2.2 = true
          · rw [if_pos hfinal] at hf
            simp only [Bool.and_eq_true, decide_eq_true_eq] at hf
            exact b_putF hx hb hts hin (a_ty (ax / 64)) hty hnm hown hK.1 r.1 (b_D hA cI cO r.2.2.1) r.2.2.2.1 i (b_at hi) hc (ax % 64) hk (hts _ (a_wq_in hl)) hfinal (hnm0 hf.1) hf.2 k1 k2 hle hdg fin
          · exact b_putN hx hb hts hin (a_ty (ax / 64)) hty hnm hown hK.1 r.1 (b_D hA cI cO r.2.2.1) r.2.2.2.1 i (b_at hi) hc (ax % 64) hk (hts _ (a_wq_in hl)) (by simpa using hfinal) k1 k2 hle hdg fin
        next => cases hv
      next => cases he
    next => cases he
  next => cases he
theorem b_new_ok (C : b_Cx D ad base cI cO p R s m args meth c cc nL own ini fr) (hcl : cells + 1 ≤ R.cells) {idx ax nx pc pc' : Nat} {L st L' st' : List Value} {h h' : List bE} {Cn : String} {T : u_T} {N : Nat} (hc : a_cls[ax]? = some (Cn, T, N)) (hsl : slots + N ≤ R.slots) (hlink : Jvm.Cond.classLink own idx Cn ∈ lw_ok) (he : b_new nx ax L st h = some (pc', L', st', h')) (hdg : decode cc pc = .ok (.new idx, 3)) (hnx : nx = pc + 3) {H : Heap} {locs : List Loc} {ls : Array Slot} (r : b_Rl D ad base cI cO s nL h L H locs ls)
    (kk : ∀ H' locs' ls', b_Rl D ad base cI cO s nL h' L' H' locs' ls' → W p l e R s m args below meth c H' locs' (cells + 1) (slots + N) Q (F0 m pc' ls' (st'.map (a_cv ad)))) : W p l e R s m args below meth c H locs cells slots Q (F0 m pc ls (st.map (a_cv ad))) := by
  obtain ⟨hx, hb, -, hown, hts, hK, hA, hbs, -⟩ := id C
  subst hnx
  unfold b_new at he
  rw [hc] at he
  simp only at he
  split at he
  next hcond =>
    simp only [Option.some.injEq, Prod.mk.injEq] at he
    obtain ⟨rfl, rfl, rfl, rfl⟩ := he
    obtain ⟨hin, hty, hnm⟩ := a_cok_all _ _ _ _ hc
    obtain ⟨hins, hini⟩ := b_inst ax trivial _ _ _ hc
    have hKn := hK.1.1 ax _ hc
    refine W.newcK hx hb hown (hts _ hlink) (hts _ hins) (hts _ hini) rfl hdg hcl hsl hKn.2.1 rfl fun H1 kC hkC e1 z1 o1 => ?_
    have hk : ∀ (k : Nat) (x : Nat × va_E), (b_wd ad cI cO h)[k]? = some x → H1[x.1]? = H[x.1]? := fun k x hx => o1 x.1 ((r.1 k x hx).lt)
    have hadr : ad h.length = H.size := by rw [hA _ hcond.1, r.2.1]
    have hst : (F0 m (pc + 3) ls (.ref H.size :: st.map (a_cv ad))) = F0 m (pc + 3) ls ((Value.ref h.length :: st).map (a_cv ad)) := by
      simp [a_cv, hadr]
    show W p l e R s m args below meth c H1 locs (cells + 1) (slots + N) Q (F0 m (pc + 3) ls (.ref H.size :: st.map (a_cv ad)))
    rw [hst]
    refine kk H1 locs ls ⟨?_, by rw [z1, r.2.1, List.length_append]; rfl, by rw [List.length_append]; show h.length + 1 ≤ 900; omega, ⟨Nat.le_trans r.2.2.2.1.1 (by omega), fun x h1 h2 => (o1 x (Nat.lt_of_lt_of_le h1 r.2.2.2.1.1)).trans (r.2.2.2.1.2.1 x h1 h2), r.2.2.2.1.2.2⟩, r.2.2.2.2⟩
    rw [b_wd_push]
    refine (r.1.kept hk).app (fun k x hx => ?_)
    have hz : k < 1 := (List.getElem?_eq_some_iff.mp hx).1
    rw [show k = 0 by omega] at hx
    cases hx
    refine ⟨_, hc, ?_⟩
    show t_OB (ad h.length) _ _ _ _ _
    rw [hadr]
    refine (u_born (a_ty ax) hts hin hKn hkC e1 hty).to fun j hj => ?_
    show defaultValue (a_ty ax j) = vp_V ((b_def ax N).map (a_cv ad)) j
    unfold vp_V b_def
    rw [List.getD_eq_getElem?_getD, List.getElem?_map, List.getElem?_map, List.getElem?_range hj]
    show _ = a_cv ad (defaultValue (a_ty ax j))
    cases a_ty ax j <;> rfl
  next => cases he
theorem b_na_ok (C : b_Cx D ad base cI cO p R s m args meth c cc nL own ini fr) (hcl : cells + 1 ≤ R.cells) {n nx pc pc' : Nat} {t : ArrayType} {L st L' st' : List Value} {h h' : List bE} (harr : Jvm.Cond.arrayClass .int ∈ lw_ok) (he : b_na nx t L st h = some (pc', L', st', h')) (hn' : ∃ e, h' = h ++ [e] ∧ n = b_sz e) (hsl : slots + n ≤ R.slots) (hdg : decode cc pc = .ok (.newarray t, 2)) (hnx : nx = pc + 2) {H : Heap} {locs : List Loc} {ls : Array Slot} (r : b_Rl D ad base cI cO s nL h L H locs ls)
    (kk : ∀ H' locs' ls', b_Rl D ad base cI cO s nL h' L' H' locs' ls' → W p l e R s m args below meth c H' locs' (cells + 1) (slots + n) Q (F0 m pc' ls' (st'.map (a_cv ad)))) : W p l e R s m args below meth c H locs cells slots Q (F0 m pc ls (st.map (a_cv ad))) := by
  obtain ⟨hx, hb, -, hown, hts, hK, hA, hbs, -⟩ := id C
  subst hnx
  unfold b_na at he
  split at he
  next x rest =>
    split at he
    next hcond =>
      simp only [Option.some.injEq, Prod.mk.injEq] at he
      obtain ⟨rfl, rfl, rfl, rfl⟩ := he
      obtain ⟨ee, he1, rfl⟩ := hn'
      obtain rfl : ee = .inr (x.toNatClampNeg, .inl (fun _ => 0)) := by simpa using he1.symm
      have hadr : ad h.length = H.size := by rw [hA _ hcond.2.2, r.2.1]
      refine va_newaK (atype := .int) hx hb (hts _ harr) rfl hdg rfl hcond.1 rfl (by show x.toNatClampNeg * 4 ≤ _; omega) hcl hsl rfl fun H1 cA e1 z1 o1 hAr hNm => ?_
      have hcA : cA = cI := Option.some.inj (hNm.symm.trans (hK.1.2 0 _ rfl).2)
      subst hcA
      have hk : ∀ (k : Nat) (x : Nat × va_E), (b_wd ad cA cO h)[k]? = some x → H1[x.1]? = H[x.1]? := fun k x hx => o1 x.1 ((r.1 k x hx).lt)
      have hst : (F0 m (pc + 2) ls (.ref H.size :: rest.map (a_cv ad))) = F0 m (pc + 2) ls ((Value.ref h.length :: rest).map (a_cv ad)) := by
        simp [a_cv, hadr]
      show W p l e R s m args below meth c H1 locs (cells + 1) (slots + x.toNatClampNeg) Q (F0 m (pc + 2) ls (.ref H.size :: rest.map (a_cv ad)))
      rw [hst]
      refine kk H1 locs ls ⟨?_, by rw [z1, r.2.1, List.length_append]; rfl, by rw [List.length_append]; show h.length + 1 ≤ 900; omega, ⟨Nat.le_trans r.2.2.2.1.1 (by omega), fun x h1 h2 => (o1 x (Nat.lt_of_lt_of_le h1 r.2.2.2.1.1)).trans (r.2.2.2.1.2.1 x h1 h2), r.2.2.2.1.2.2⟩, r.2.2.2.2⟩
      rw [b_wd_push]
      refine (r.1.kept hk).app (fun k q hq => ?_)
      have hz : k < 1 := (List.getElem?_eq_some_iff.mp hq).1
      rw [show k = 0 by omega] at hq
      cases hq
      show H1[ad h.length]? = some (vp_cell _ _)
      rw [hadr]
      exact e1
    next => cases he
  next => cases he
theorem b_nq_ok (C : b_Cx D ad base cI cO p R s m args meth c cc nL own ini fr) (hcl : cells + 1 ≤ R.cells) {n nx pc pc' idx : Nat} {L st L' st' : List Value} {h h' : List bE} (hlink : Jvm.Cond.classLink own idx aR5 ∈ lw_ok) (he : b_nq nx L st h = some (pc', L', st', h')) (hn' : ∃ e, h' = h ++ [e] ∧ n = b_sz e) (hsl : slots + n ≤ R.slots) (hdg : decode cc pc = .ok (.anewarray idx, 3)) (hnx : nx = pc + 3) {H : Heap} {locs : List Loc} {ls : Array Slot} (r : b_Rl D ad base cI cO s nL h L H locs ls)
    (kk : ∀ H' locs' ls', b_Rl D ad base cI cO s nL h' L' H' locs' ls' → W p l e R s m args below meth c H' locs' (cells + 1) (slots + n) Q (F0 m pc' ls' (st'.map (a_cv ad)))) : W p l e R s m args below meth c H locs cells slots Q (F0 m pc ls (st.map (a_cv ad))) := by
  obtain ⟨hx, hb, -, hown, hts, hK, hA, hbs, -⟩ := id C
  subst hnx
  unfold b_nq at he
  split at he
  next x rest =>
    split at he
    next hcond =>
      simp only [Option.some.injEq, Prod.mk.injEq] at he
      obtain ⟨rfl, rfl, rfl, rfl⟩ := he
      obtain ⟨ee, he1, rfl⟩ := hn'
      obtain rfl : ee = .inr (x.toNatClampNeg, .inr (.inr (.inr (.inr (fun _ => none))))) := by simpa using he1.symm
      have hadr : ad h.length = H.size := by rw [hA _ hcond.2.2, r.2.1]
      refine W.anew hx hb hown (hts _ hlink) (va_AO.use hK.2.1) rfl hdg rfl hcond.1 (by omega) hcl hsl fun cA kA comp f1 f2 f3 f4 => ?_
      obtain ⟨kA', comp', g1, g2, g3, g4⟩ := (hK.1.2 1 _ rfl).2
      have hcA : cA = cO := Option.some.inj (f1.symm.trans g4)
      subst hcA
      generalize hH1 : H.push ({ cls := cA, slots := Array.replicate x.toNatClampNeg .null, vm := .none } : Cell) = H1
      have z1 : H1.size = H.size + 1 := by rw [← hH1, Array.size_push]
      have e1 : H1[H.size]? = some (arrV cA x.toNatClampNeg (fun _ => .null)) := by rw [← hH1, Array.getElem?_push_size, ← arrV_new]
      have o1 : ∀ q : Nat, q < H.size → H1[q]? = H[q]? := fun q hq => by rw [← hH1, Array.getElem?_push, if_neg (Nat.ne_of_lt hq)]
      have hk : ∀ (k : Nat) (x : Nat × va_E), (b_wd ad cI cA h)[k]? = some x → H1[x.1]? = H[x.1]? := fun k x hx => o1 x.1 ((r.1 k x hx).lt)
      have hst : (F0 m (pc + 3) ls (.ref H.size :: rest.map (a_cv ad))) = F0 m (pc + 3) ls ((Value.ref h.length :: rest).map (a_cv ad)) := by
        simp [a_cv, hadr]
      show W p l e R s m args below meth c H1 locs (cells + 1) (slots + x.toNatClampNeg) Q (F0 m (pc + 3) ls (.ref H.size :: rest.map (a_cv ad)))
      rw [hst]
      refine kk H1 locs ls ⟨?_, by rw [z1, r.2.1, List.length_append]; rfl, by rw [List.length_append]; show h.length + 1 ≤ 900; omega, ⟨Nat.le_trans r.2.2.2.1.1 (by omega), fun x h1 h2 => (o1 x (Nat.lt_of_lt_of_le h1 r.2.2.2.1.1)).trans (r.2.2.2.1.2.1 x h1 h2), r.2.2.2.1.2.2⟩, r.2.2.2.2⟩
      rw [b_wd_push]
      refine (r.1.kept hk).app (fun k q hq => ?_)
      have hz : k < 1 := (List.getElem?_eq_some_iff.mp hq).1
      rw [show k = 0 by omega] at hq
      cases hq
      show H1[ad h.length]? = some (vp_cell _ _)
      rw [hadr, vp_cell_q]
      exact e1
    next => cases he
  next => cases he
theorem b_al_ok (C : b_Cx D ad base cI cO p R s m args meth c cc nL own ini fr) {nx pc pc' : Nat} {L st L' st' : List Value} {h h' : List bE} (he : b_al nx L st h = some (pc', L', st', h')) (hdg : decode cc pc = .ok (.arraylength, 1)) (hnx : nx = pc + 1) {H : Heap} {locs : List Loc} {ls : Array Slot} (r : b_Rl D ad base cI cO s nL h L H locs ls)
    (kk : ∀ H' locs' ls', b_Rl D ad base cI cO s nL h' L' H' locs' ls' → W p l e R s m args below meth c H' locs' cells slots Q (F0 m pc' ls' (st'.map (a_cv ad)))) : W p l e R s m args below meth c H locs cells slots Q (F0 m pc ls (st.map (a_cv ad))) := by
  obtain ⟨hx, hb, -, hown, hts, hK, hA, hbs, -⟩ := id C
  subst hnx
  unfold b_al at he
  split at he
  next i rest =>
    split at he
    next n f hi =>
      simp only [Option.some.injEq, Prod.mk.injEq] at he
      obtain ⟨rfl, rfl, rfl, rfl⟩ := he
      exact va_alen hx hb hK.1 r.1 i 1 (x := (n, .inr (.inr (.inr (.inr (fun j => (f j).map ad)))))) (b_at hi) (ty := .object aR5) rfl rfl hdg (kk _ _ _ r)
    next => cases he
  next => cases he
theorem b_is_ok (C : b_Cx D ad base cI cO p R s m args meth c cc nL own ini fr) {nx pc pc' : Nat} {L st L' st' : List Value} {h h' : List bE} (he : b_is nx L st h = some (pc', L', st', h')) (hdg : decode cc pc = .ok (.iastore, 1)) (hnx : nx = pc + 1) {H : Heap} {locs : List Loc} {ls : Array Slot} (r : b_Rl D ad base cI cO s nL h L H locs ls)
    (kk : ∀ H' locs' ls', b_Rl D ad base cI cO s nL h' L' H' locs' ls' → W p l e R s m args below meth c H' locs' cells slots Q (F0 m pc' ls' (st'.map (a_cv ad)))) : W p l e R s m args below meth c H locs cells slots Q (F0 m pc ls (st.map (a_cv ad))) := by
  obtain ⟨hx, hb, -, hown, hts, hK, hA, hbs, -⟩ := id C
  subst hnx
  unfold b_is at he
  split at he
  next v j i rest =>
    split at he
    next n f hi =>
      split at he
      next hcond =>
        simp only [Option.some.injEq, Prod.mk.injEq] at he
        obtain ⟨rfl, rfl, rfl, rfl⟩ := he
        have hat := hP_int r.1 hi
        refine W.iast hx hb hat ((hK.1.2 0 _ rfl).1 n (fun j => .int (f j))) (fun q => by cases q) (by show ¬ (j < 0 ∨ (arrV _ _ _).slots.size ≤ _); rw [arrV_size]; exact fun q => q.elim hcond.1 (fun z => absurd hcond.2.1 (Nat.not_lt.mpr z))) rfl rfl hdg fun H1 e1 z1 oq => ?_
        refine kk H1 _ ls ⟨?_, by rw [z1, r.2.1, List.length_set], by rw [List.length_set]; exact r.2.2.1, r.2.2.2.1.put z1 oq ((b_D hA cI cO r.2.2.1).2 i _ (b_at hi)), r.2.2.2.2⟩
        rw [← b_wd_set]
        refine r.1.set (b_D hA cI cO r.2.2.1) (b_at hi) ?_ oq
        show H1[ad i]? = some (vp_cell _ _)
        rw [e1, vp_cell_i, arrV_store]
        congr 2
        funext q
        by_cases hq : q = j.toNatClampNeg
        · subst hq
          simp [updV, upd]
        · simp [updV, upd, hq]
      next => cases he
    next => cases he
  next => cases he
theorem b_as_ok (C : b_Cx D ad base cI cO p R s m args meth c cc nL own ini fr) {nx pc pc' : Nat} {L st L' st' : List Value} {h h' : List bE} (he : b_as nx L st h = some (pc', L', st', h')) (hdg : decode cc pc = .ok (.aastore, 1)) (hnx : nx = pc + 1) {H : Heap} {locs : List Loc} {ls : Array Slot} (r : b_Rl D ad base cI cO s nL h L H locs ls)
    (kk : ∀ H' locs' ls', b_Rl D ad base cI cO s nL h' L' H' locs' ls' → W p l e R s m args below meth c H' locs' cells slots Q (F0 m pc' ls' (st'.map (a_cv ad)))) : W p l e R s m args below meth c H locs cells slots Q (F0 m pc ls (st.map (a_cv ad))) := by
  obtain ⟨hx, hb, -, hown, hts, hK, hA, hbs, -⟩ := id C
  subst hnx
  unfold b_as at he
  split at he
  next v j i rest =>
    split at he
    next n f vs hi hv =>
      split at he
      next hcond =>
        simp only [Option.some.injEq, Prod.mk.injEq] at he
        obtain ⟨rfl, rfl, rfl, rfl⟩ := he
        obtain ⟨r', hr', cellV, g1, g2, g3, -⟩ := r.1 v _ (b_at hv)
        obtain rfl : r' = (aR5, aT5, 3) := Option.some.inj (hr'.symm.trans rfl)
        have hcls := (hK.1.1 5 _ rfl).2
        obtain ⟨kA, comp, k1, k2, k3, -⟩ := (hK.1.2 1 _ rfl).2
        have hcomp : comp = D.1 5 := Option.some.inj (k3.symm.trans hcls.1)
        subst hcomp
        obtain ⟨kC, hkC, -⟩ := hcls.2
        have hat : H[ad i]? = some (arrV cO n (fun q => va_rf ((f q).map ad))) := r.1 i _ (b_at hi)
        refine W.aast hx hb hat (fun q h => by cases h) (fun h => by cases h) k1 k2 rfl hkC ⟨hcond.1, by show _ < (arrV _ _ _).slots.size; rw [arrV_size]; exact hcond.2.1⟩ g1 (fun q h => by rw [g3] at h; cases h) (by rw [g2]; exact hkC) (by rw [g2]; exact va_assign hcls) rfl rfl hdg fun H1 e1 z1 oq => ?_
        refine kk H1 _ ls ⟨?_, by rw [z1, r.2.1, List.length_set], by rw [List.length_set]; exact r.2.2.1, r.2.2.2.1.put z1 oq ((b_D hA cI cO r.2.2.1).2 i _ (b_at hi)), r.2.2.2.2⟩
        rw [← b_wd_set]
        refine r.1.set (b_D hA cI cO r.2.2.1) (b_at hi) ?_ oq
        show H1[ad i]? = some (vp_cell _ _)
        rw [e1, vp_cell_q, arrV_store]
        congr 2
        funext q
        by_cases hq : q = j.toNatClampNeg
        · subst hq
          simp [updV, va_up, va_rf, a_cv]
        · simp [updV, va_up, hq]
      next => cases he
    next => cases he
  next => cases he
end BSTEP
