/-! runs of the small machine are runs of the real one: methods by contract -/
def a_Pc (w : aW) (D : va_G) (ad : Nat → Nat) (cA : Nat → ClassId) (As : List Value) (M : aM) : Array Value → State → Prop := fun a U => a = (As.map (a_cv ad)).toArray ∧ va_P D a_cls (a_wd ad cA M) U.heap ∧ a_Kn w D ad cA U
def a_Qc (D : va_G) (ad : Nat → Nat) (cA : Nat → ClassId) (v : Option Value) (M : aM) : Array Value → State → Outcome → State → Prop := fun _ st o t => o = .returned (v.map (a_cv ad)) ∧ va_P D a_cls (a_wd ad cA M) t.heap ∧ va_F (a_A ad) st t
def a_rm (fr : Nat) : Room := { frames := fr, cells := 0, slots := 0, locals := 38 * fr }
def a_ws (mt : aMt) : List Jvm.Cond := .code mt.1.1 mt.1.2.1 mt.1.2.2.1 mt.1.2.2.2 :: lw_ok
def a_Met (w : aW) (l : Launch) (D : va_G) (ad : Nat → Nat) (cA : Nat → ClassId) (fr : Nat) (mt : aMt) (As : List Value) (M : aM) (v : Option Value) (M' : aM) : Prop := Met l mt.1.1 (a_ws mt) (a_rm fr) (a_Pc w D ad cA As M) (a_Qc D ad cA v M') 0 0 (a_A ad)
def a_endok (ret : Option FieldType) (i : Instr) (v : Option Value) : Prop :=
  (i = .ireturn ∧ ∃ x : Int32, v = some (.int x) ∧ (ret = some .int ∨ (ret = some .boolean ∧ (x = 0 ∨ x = 1)))) ∨ (i = .areturn ∧ (∃ n, ret = some (.object n)) ∧ (v = some .null ∨ ∃ q, v = some (.ref q))) ∨ (i = .return_ ∧ ret = none ∧ v = none)
/-- a frame's run, in whatever frame it stands -/
def a_Fr (w : aW) (l : Launch) (D : va_G) (ad : Nat → Nat) (cA : Nat → ClassId) (n : Nat) : Prop :=
  ∀ (fr : Nat) (cd : List aR) (pc : Nat) (L st : List Value) (M : aM) (v : Option Value) (M' : aM), a_run w n fr cd pc L st M = some (v, M') →
  ∀ (p : Program) (e : Env) (R : Room) (s : State) (m : MethodId) (args : Array Value) (below : List Frame) (meth : Method) (c : Code) (cells slots : Nat) (Q : State → Prop) (cc : ByteArray) (nL : Nat) (own : String) (ret : Option FieldType),
  a_Cx w D ad cA p R s m args c cc nL own fr cells slots → cd.all (a_vrow own ret cc) = true →
  (∀ (i : Instr) (pc : Nat) (ls : Array Slot) (H : Heap) (locs : List Loc), decode cc pc = .ok (i, 1) → a_endok ret i v → va_P D a_cls (a_wd ad cA M') H → va_S (a_A ad) s.heap H locs → W p l e R s m args below meth c H locs cells slots Q (F0 m pc ls (v.map (a_cv ad)).toList)) →
  ∀ (H : Heap) (locs : List Loc) (ls : Array Slot), a_Rl D ad cA s nL M L H locs ls → W p l e R s m args below meth c H locs cells slots Q (F0 m pc ls (st.map (a_cv ad)))
theorem a_Pc.blind {w : aW} {D : va_G} {ad : Nat → Nat} {cA : Nat → ClassId} {As : List Value} {M : aM} : FrameBlind (a_Pc w D ad cA As M) := fun a U g mk h => ⟨h.1, h.2.1, a_Kn.call g mk a h.2.2⟩
theorem a_vmh_facts {mt : aMt} (h : a_vmh mt = true) : Jvm.Cond.code mt.1.1 mt.1.2.1 mt.1.2.2.1 mt.1.2.2.2 ∈ lw_ok ∧ Jvm.Cond.initialized mt.1.1.cls ∈ lw_ok ∧ plainName mt.1.1.cls = true ∧ (mt.1.1.cls ≠ "java/lang/invoke/MethodHandle" ∧ mt.1.1.cls ≠ "java/lang/invoke/VarHandle") ∧
    (mt.2.2.2.1 = 100 → Jvm.Cond.static mt.1.1 ∈ lw_ok ∧ (parseMethodDescriptor mt.1.1.desc).map (fun d => d.parameters.length) = some mt.2.2.1) ∧
    (mt.2.2.2.1 ≠ 100 → Jvm.Cond.instanceMethod mt.1.1 ∈ lw_ok ∧ Jvm.Cond.selects mt.1.1.cls mt.1.1 mt.1.1 ∈ lw_ok ∧ (a_cls[mt.2.2.2.1]?).map (fun q => q.1) = some mt.1.1.cls ∧ (parseMethodDescriptor mt.1.1.desc).map (fun d => d.parameters.length + 1) = some mt.2.2.1) := by
  unfold a_vmh at h
  simp only [Bool.and_eq_true, decide_eq_true_eq] at h
  obtain ⟨⟨⟨⟨h1, h2⟩, h3⟩, h4⟩, h5⟩ := h
  refine ⟨a_wq_in h1, a_wq_in h2, h4, h5, fun hc => ?_, fun hc => ?_⟩
  · rw [if_pos hc] at h3
    simp only [Bool.and_eq_true, decide_eq_true_eq] at h3
    exact ⟨a_wq_in h3.1, h3.2⟩
  · rw [if_neg hc] at h3
    simp only [Bool.and_eq_true, decide_eq_true_eq] at h3
    obtain ⟨⟨⟨g1, g2⟩, g3⟩, g4⟩ := h3
    exact ⟨a_wq_in g1, a_wq_in g2, g3, g4⟩
theorem a_met_of {w : aW} {l : Launch} {D : va_G} {ad : Nat → Nat} {cA : Nat → ClassId} (hinj : a_inj ad) {n : Nat} (h : a_Fr w l D ad cA n) {fr : Nat} {mt : aMt} (hmt : a_vmt mt = true) {As : List Value} {M M' : aM} {v : Option Value} (hc : ∀ x ∈ As, x.category = 1) (hl : As.length ≤ mt.1.2.2.1)
    (hrun : a_run w n fr mt.2.1 0 (As ++ List.replicate (mt.1.2.2.1 - As.length) a_dead) [] M = some (v, M')) : a_Met w l D ad cA fr mt As M v M' := by
  unfold a_vmt at hmt
  simp only [Bool.and_eq_true] at hmt
  obtain ⟨hh, hrows⟩ := hmt
  obtain ⟨f1, f2, f3, f4, -, -⟩ := a_vmh_facts hh
  refine Met.ofW (cc := mt.1.2.1) (maxL := mt.1.2.2.1) (ret := mt.1.2.2.2) f3 rfl ?_
  intro p e s m args below meth c s₁ B hml hPc
  obtain ⟨rfl, hP, hK⟩ := hPc
  have hts := atoms_spec (ws := a_ws mt) B.pre
  have hown : s.vm.findClass mt.1.1.cls = some m.cls := findClass_of_methodNamed B.named
  have hcc : ∀ x ∈ As.map (a_cv ad), x.category = 1 := fun x hx => by
    obtain ⟨u, hu, rfl⟩ := List.mem_map.mp hx
    rw [a_cv_cat]
    exact hc u hu
  have hle := lv_entry (As.map (a_cv ad)) (n := mt.1.2.2.1) (by rw [a_args_len _ hcc, List.length_map]; exact hl)
  rw [lg_entry_eq]
  generalize (lg_sl (As.map (a_cv ad)) ++ List.replicate (mt.1.2.2.1 - (lg_sl (As.map (a_cv ad))).length) Slot.unset).toArray = ls at hle ⊢
  refine h fr mt.2.1 0 _ [] M v M' hrun p e _ s m _ below meth c 0 0 _ mt.1.2.1 mt.1.2.2.1 mt.1.1.cls mt.1.2.2.2 ⟨B.exec, B.bytes, hml, hown, fun x hx => hts x (List.mem_cons_of_mem _ hx), hK, hinj, Nat.le_refl _, Nat.le_refl _, Nat.zero_le _, Nat.zero_le _⟩ hrows ?_ s.heap [] ls ⟨hP, va_S.rf, a_lr_entry ad hc hl hle⟩
  intro i pc ls H locs hdg hend hP' hS'
  have hr := B.returns
  have hlocks := B.notSynchronized
  have hq : ∀ t : State, t.heap = H → s.WarmedH t.vm → a_Qc D ad cA v M' (As.map (a_cv ad)).toArray s (.returned (v.map (a_cv ad))) t := fun t ht _ => ⟨rfl, by rw [ht]; exact hP', hS'.F ht⟩
  rcases hend with ⟨rfl, x, rfl, hx⟩ | ⟨rfl, ⟨nm, hn⟩, hx⟩ | ⟨rfl, hn, rfl⟩
  · rcases hx with hx | ⟨hx, h01⟩
    · exact W.iret B.exec B.bytes (hr.trans hx) hq hS'.2.2 hdg
    · refine W.zret (ty := .boolean) B.exec B.bytes (hr.trans hx) ?_ hq hS'.2.2 hdg
      rcases h01 with rfl | rfl <;> decide
  · rcases hx with rfl | ⟨q, rfl⟩
    · exact W.aret B.exec B.bytes (hr.trans hn) (Or.inl ⟨nm, rfl⟩) (Or.inl rfl) hq hS'.2.2 hdg
    · exact W.aret B.exec B.bytes (hr.trans hn) (Or.inl ⟨nm, rfl⟩) (Or.inr ⟨_, rfl⟩) hq hS'.2.2 hdg
  · exact W.vret B.exec B.bytes (hr.trans hn) hq hS'.2.2 hdg
theorem a_take_spec : ∀ (k : Nat) (st acc As st' : List Value), a_take k st acc = some (As, st') → ∃ vs : List Value, st = vs.reverse ++ st' ∧ As = vs ++ acc ∧ vs.length = k
  | 0, st, acc, As, st', h => by
    simp only [a_take, Option.some.injEq, Prod.mk.injEq] at h
    obtain ⟨rfl, rfl⟩ := h
    exact ⟨[], rfl, rfl, rfl⟩
  | k + 1, [], acc, As, st', h => by simp [a_take] at h
  | k + 1, v :: st, acc, As, st', h => by
    simp only [a_take] at h
    obtain ⟨vs, h1, h2, h3⟩ := a_take_spec k st (v :: acc) As st' h
    exact ⟨vs ++ [v], by simp [h1], by simp [h2], by simp [h3]⟩
section ACALL
variable {p : Program} {l : Launch} {e : Env} {R : Room} {s : State} {m : MethodId} {args : Array Value} {below : List Frame} {meth : Method} {c : Code} {cells slots : Nat} {Q : State → Prop} {cc : ByteArray} {D : va_G} {ad : Nat → Nat} {cA : Nat → ClassId} {nL fr : Nat} {own : String} {w : aW}
theorem a_back {v : Option Value} {M1 : aM} {L : List Value} {H : Heap} {locs : List Loc} {ls : Array Slot} {pc : Nat} {st0 st' : List Value} {a : Array Value} (hS : va_S (a_A ad) s.heap H locs) (hl : a_lr ad ls nL L)
    (hr : va_Run p l e R s m args below meth c H locs cells slots 0 0 (F0 m pc ls st0) (st'.map (a_cv ad)) (a_Qc D ad cA v M1 a) (a_A ad))
    (kk : ∀ H' locs', a_Rl D ad cA s nL M1 L H' locs' ls → W p l e R s m args below meth c H' locs' cells slots Q (F0 m (pc + 3) ls ((v.toList ++ st').map (a_cv ad)))) : W p l e R s m args below meth c H locs cells slots Q (F0 m pc ls st0) := by
  intro T hT X
  obtain ⟨v', st₀, t, T', L', h0, X', hL, e1, e2, ⟨hv, hP1, hz, hk⟩, stp⟩ := hr T hT X
  rw [h0] at hz hk
  simp only [Outcome.returned.injEq] at hv
  subst hv
  have hS' : va_S (a_A ad) s.heap T'.heap (locs ++ L') := ⟨Nat.le_trans hS.1 (by rw [e1]; exact hz), fun q h1 h2 => by rw [e1, hk q (Nat.lt_of_lt_of_le h1 hS.1) h2]; exact hS.2.1 q h1 h2, fun q hq => by
    rcases List.mem_append.mp hq with h | h
    · exact hS.2.2 q h
    · exact hL q h⟩
  obtain ⟨t2, a1, b1⟩ := kk T'.heap (locs ++ L') ⟨by rw [e1]; exact hP1, hS', hl⟩ T' rfl X'
  refine ⟨t2, stp t2 ?_, b1⟩
  have e3 : (v.map (a_cv ad)).toList ++ st'.map (a_cv ad) = (v.toList ++ st').map (a_cv ad) := by cases v <;> simp
  rw [e3]
  exact a1
theorem a_call_ok (C : a_Cx w D ad cA p R s m args c cc nL own (fr + 1) cells slots) {mt : aMt} (hmt : a_vmt mt = true) {idx k pc : Nat} {st As st' : List Value} {M M1 : aM} {v : Option Value} (ha : a_args k mt st = some (As, st')) (hM : a_Met w l D ad cA fr mt As M v M1) (hlk : Jvm.Cond.methodLink own idx mt.1.1 ∈ lw_ok)
    (hdg : (k = 1 ∧ decode cc pc = .ok (.invokevirtual idx, 3)) ∨ (k = 2 ∧ decode cc pc = .ok (.invokestatic idx, 3))) {L : List Value} {H : Heap} {locs : List Loc} {ls : Array Slot} (r : a_Rl D ad cA s nL M L H locs ls)
    (kk : ∀ H' locs', a_Rl D ad cA s nL M1 L H' locs' ls → W p l e R s m args below meth c H' locs' cells slots Q (F0 m (pc + 3) ls ((v.toList ++ st').map (a_cv ad)))) : W p l e R s m args below meth c H locs cells slots Q (F0 m pc ls (st.map (a_cv ad))) := by
  obtain ⟨hx, hb, hml, hown, hts, hK, hinj, hfr, hlo, hce, hsl⟩ := id C
  unfold a_vmt at hmt
  simp only [Bool.and_eq_true] at hmt
  obtain ⟨hh, -⟩ := hmt
  obtain ⟨f1, f2, f3, f4, f5, f6⟩ := a_vmh_facts hh
  unfold a_args at ha
  split at ha
  next As0 st0 ht =>
    split at ha
    next hcond =>
      simp only [Option.some.injEq, Prod.mk.injEq] at ha
      obtain ⟨rfl, rfl⟩ := ha
      obtain ⟨c1, c2, c3, c4, c5⟩ := hcond
      obtain ⟨vs, hst, hAs, hlen⟩ := a_take_spec _ _ _ _ _ ht
      rw [List.append_nil] at hAs
      subst hAs
      have hgood : GoodIn lw_ok (a_ws mt) := fun x hx => by
        rcases List.mem_cons.mp hx with rfl | hx
        · exact a_goodIn _ f1
        · exact a_goodIn _ hx
      have hW : 2 * (F0 m pc ls (st.map (a_cv ad))).monitorRoom + ((st0.map (a_cv ad)).map fun v => v.category).sum ≤ 8 := by
        rw [a_cv_sum]
        show 2 * 0 + _ ≤ 8
        omega
      have hroom : (a_rm fr).frames + 1 ≤ R.frames ∧ 8 + (mt.1.2.2.1 + 11) + (a_rm fr).locals ≤ R.locals := by
        show fr + 1 ≤ R.frames ∧ 8 + (mt.1.2.2.1 + 11) + 38 * fr ≤ R.locals
        omega
      have hCB : ∀ k, (∀ sig, parseMethodDescriptor mt.1.1.desc = some sig → k = sig.parameters.length) → CallB R s args own idx mt.1.1 mt.1.2.1 mt.1.2.2.1 mt.1.2.2.2 (a_ws mt) (a_rm fr) 0 0 k := fun k hk =>
        ⟨rfl, rfl, hroom.1, hroom.2, pay_in hts hgood, List.mem_cons_self, hts _ f1, hts _ f2, f4, hk, hts _ hlk⟩
      have hPc : ∀ U : State, U.heap = H → s.WarmedH U.vm → a_Pc w D ad cA As0 M (As0.map (a_cv ad)).toArray U := fun U hU hW => ⟨rfl, by rw [hU]; exact r.1, hK.step r.2.1 hU hW⟩
      rcases hdg with ⟨rfl, hdg⟩ | ⟨rfl, hdg⟩
      · have hrv := c5.resolve_left (fun q => by omega)
        have h2 := hrv.2.2
        have h3 := hrv.2.1
        unfold a_recv at h2
        split at h2
        next i As' =>
          simp only [Bool.and_eq_true, decide_eq_true_eq] at h2
          obtain ⟨hi, hci⟩ := h2
          have hne : mt.2.2.2.1 ≠ 100 := by omega
          obtain ⟨g1, g2, g3, g4⟩ := f6 hne
          obtain ⟨q, hq, hqn⟩ := Option.map_eq_some_iff.mp g3
          have hlt : (a_shape i).1 < 100 := by rw [hci]; exact a_cls_lt hq
          have he : (a_wd ad cA M)[i]? = some (ad i, .inr (mt.2.2.2.1, a_fs ad (M i) 0 (a_shape i).2.1)) := by rw [a_wd_get ad cA M hi, a_ent_obj hlt, hci]
          have hrecv := va_recv hK.2.1 r.1 hq he
          rw [hqn] at hrecv
          have hstk : st.map (a_cv ad) = (As'.map (a_cv ad)).reverse ++ .ref (ad i) :: st0.map (a_cv ad) := by
            rw [hst]
            simp [a_cv]
          refine a_back (v := v) (st' := st0) (a := (Value.ref (ad i) :: As'.map (a_cv ad)).toArray) r.2.1 r.2.2 (va_runV (C := mt.1.1.cls) (n := As'.length) ⟨hx, hb, hml, hown, hts⟩ hM ⟨hCB _ (fun sig hsig => ?_), hts _ g1, hts _ g2⟩ ⟨a_Pc.blind, hrecv, hPc⟩ rfl (by simp) r.2.2.1 hstk hW hdg ⟨hce, hsl⟩) kk
          rw [hsig] at g4
          have := Option.some.inj g4
          simp at hlen this
          omega
        next => cases h2
      · have hrv := c5.resolve_right (fun q => by omega)
        obtain ⟨g1, g2⟩ := f5 hrv.2
        have hstk : st.map (a_cv ad) = (As0.map (a_cv ad)).reverse ++ st0.map (a_cv ad) := by
          rw [hst]
          simp
        refine a_back (v := v) (st' := st0) (a := (As0.map (a_cv ad)).toArray) r.2.1 r.2.2 (va_runS (n := As0.length) ⟨hx, hb, hml, hown, hts⟩ hM ⟨hCB _ (fun sig hsig => ?_), hts _ g1⟩ ⟨a_Pc.blind, hPc⟩ rfl (by simp) r.2.2.1 hstk hW hdg ⟨hce, hsl⟩) kk
        rw [hsig] at g2
        have := Option.some.inj g2
        simp at hlen this
        omega
    next => cases ha
  next => cases ha
theorem a_math_ok (C : a_Cx w D ad cA p R s m args c cc nL own fr cells slots) (hfr0 : fr ≠ 0) {idx ax pc nx pc' : Nat} {st L st' L' : List Value} {M M' : aM} (he : a_math ax nx L st M = some (pc', L', st', M')) (hlk : Jvm.Cond.methodLink own idx (a_jn ax) ∈ lw_ok) (hdg : decode cc pc = .ok (.invokestatic idx, 3)) (hnx : nx = pc + 3) {H : Heap} {locs : List Loc} {ls : Array Slot} (r : a_Rl D ad cA s nL M L H locs ls)
    (kk : ∀ H' locs' ls', a_Rl D ad cA s nL M' L' H' locs' ls' → W p l e R s m args below meth c H' locs' cells slots Q (F0 m pc' ls' (st'.map (a_cv ad)))) : W p l e R s m args below meth c H locs cells slots Q (F0 m pc ls (st.map (a_cv ad))) := by
  obtain ⟨hx, hb, hml, hown, hts, hK, hinj, hfr, hlo, hce, hsl⟩ := id C
  subst hnx
  have hR1 : 1 ≤ R.frames := by omega
  have hsz : c.maxLocals = ls.size := by rw [hml, r.2.2.1]
  unfold a_math at he
  split at he
  next y rest =>
    split at he
    next h2 =>
      split at he
      next hs =>
        cases he
        subst h2
        exact va_mabs hx hb hsz hown (hts _ hlk) (hts _ a_jabs.2) (hts _ a_jini) (hts _ a_jabs.1) hR1 (by rw [a_cv_sum]; omega) hce hsl hdg (kk _ _ _ r)
      next => cases he
    next h2 =>
      split at he
      next x rest' =>
        split at he
        next hs =>
          split at he
          next h0 =>
            cases he
            subst h0
            exact va_mmax hx hb hsz hown (hts _ hlk) (hts _ a_jmax.2) (hts _ a_jini) (hts _ a_jmax.1) hR1 (by rw [a_cv_sum]; omega) hce hsl hdg (kk _ _ _ r)
          next h0 =>
            split at he
            next h1 =>
              cases he
              subst h1
              exact va_mmin hx hb hsz hown (hts _ hlk) (hts _ a_jmin.2) (hts _ a_jini) (hts _ a_jmin.1) hR1 (by rw [a_cv_sum]; omega) hce hsl hdg (kk _ _ _ r)
            next => cases he
        next => cases he
      next => cases he
  next => cases he
end ACALL
theorem a_find_mem : ∀ {cd : List aR} {pc : Nat} {q : aR}, a_find cd pc = some q → q ∈ cd ∧ q.1 = pc
  | [], pc, q, h => by simp [a_find] at h
  | r :: t, pc, q, h => by
    simp only [a_find] at h
    cases hb : Nat.beq r.1 pc with
    | true =>
      rw [hb, cond_true] at h
      cases h
      exact ⟨List.mem_cons_self, Nat.eq_of_beq_eq_true hb⟩
    | false =>
      rw [hb, cond_false] at h
      obtain ⟨h1, h2⟩ := a_find_mem h
      exact ⟨List.mem_cons_of_mem _ h1, h2⟩
theorem a_sound (w : aW) (l : Launch) (D : va_G) (ad : Nat → Nat) (cA : Nat → ClassId) (hinj : a_inj ad) : ∀ n, a_Fr w l D ad cA n := by
  intro n
  induction n with
  | zero =>
    intro fr cd pc L st M v M' h
    simp [a_run] at h
  | succ n ih =>
    intro fr cd pc L st M v M' h p e R s m args below meth c cells slots Q cc nL own ret C hcd hret H locs ls r
    simp only [a_run] at h
    split at h
    next => cases h
    next pc0 ins nx ax wp hf =>
      obtain ⟨hmem, hpc⟩ := a_find_mem hf
      have hpc' : pc = pc0 := hpc.symm
      subst hpc'
      have hrow := List.all_eq_true.mp hcd _ hmem
      have hv := a_vrow_dec hrow
      split at h
      next hk =>
        split at h
        next => cases h
        next pc' L' st' M1 he =>
          exact a_eff_ok C hrow he r fun H' locs' ls' r' => ih fr cd pc' L' st' M1 v M' h p e R s m args below meth c cells slots Q cc nL own ret C hcd hret H' locs' ls' r'
      next k hk =>
        split at h
        next hk2 =>
          split at h
          next => cases h
          next mt hm =>
            split at h
            next => cases h
            next As st' ha =>
              split at h
              next => cases h
              next fr' =>
                split at h
                next => cases h
                next v1 M1 h1 =>
                  have hmt := a_vall mt (List.mem_of_getElem? hm)
                  have hcl : (∀ x ∈ As, x.category = 1) ∧ As.length ≤ mt.1.2.2.1 := by
                    unfold a_args at ha
                    split at ha
                    next =>
                      split at ha
                      next hc =>
                        simp only [Option.some.injEq, Prod.mk.injEq] at ha
                        obtain ⟨rfl, rfl⟩ := ha
                        exact ⟨hc.2.2.2.1, hc.2.2.1⟩
                      next => cases ha
                    next => cases ha
                  have hmet := a_met_of (l := l) (D := D) (cA := cA) hinj ih hmt hcl.1 hcl.2 h1
                  have hgo : ∀ (idx : Nat), Jvm.Cond.methodLink own idx mt.1.1 ∈ lw_ok → nx = pc + 3 → ((k + 1 = 1 ∧ decode cc pc = .ok (.invokevirtual idx, 3)) ∨ (k + 1 = 2 ∧ decode cc pc = .ok (.invokestatic idx, 3))) → W p l e R s m args below meth c H locs cells slots Q (F0 m pc ls (st.map (a_cv ad))) := by
                    intro idx hlk hnx hdg
                    subst hnx
                    exact a_call_ok C hmt ha hmet hlk hdg r fun H' locs' r' => ih (fr' + 1) cd (pc + 3) L (v1.toList ++ st') M1 v M' h p e R s m args below meth c cells slots Q cc nL own ret C hcd hret H' locs' ls r'
                  cases ins with
                  | invokevirtual idx =>
                    simp only [a_kind] at hk
                    obtain ⟨hdg, hnx⟩ := hv.2.1 (by simp [a_len])
                    have h2 := hv.2.2
                    simp only [a_vins, hm] at h2
                    exact hgo idx (a_wq_in h2) hnx (Or.inl ⟨hk.symm, hdg⟩)
                  | invokestatic idx =>
                    simp only [a_kind] at hk
                    obtain ⟨hdg, hnx⟩ := hv.2.1 (by simp [a_len])
                    have h2 := hv.2.2
                    split at hk
                    next hax =>
                      simp only [a_vins, if_pos hax, hm] at h2
                      exact hgo idx (a_wq_in h2) hnx (Or.inr ⟨hk.symm, hdg⟩)
                    next => omega
                  | ireturn => simp [a_kind] at hk; omega
                  | areturn => simp [a_kind] at hk; omega
                  | return_ => simp [a_kind] at hk; omega
                  | _ => simp [a_kind] at hk
        next hk2 =>
          split at h
          next hk5 =>
            split at h
            next => cases h
            next hfr0 =>
              split at h
              next => cases h
              next pc' L' st' M1 he =>
                cases ins with
                | invokestatic idx =>
                  obtain ⟨hdg, hnx⟩ := hv.2.1 (by simp [a_len])
                  have h2 := hv.2.2
                  have hax : ¬ ax < 1000 := fun q => by
                    simp only [a_kind, if_pos q] at hk
                    omega
                  simp only [a_vins, if_neg hax, Bool.and_eq_true] at h2
                  exact a_math_ok C hfr0 he (a_wq_in h2.2) hdg hnx r fun H' locs' ls' r' => ih fr cd pc' L' st' M1 v M' h p e R s m args below meth c cells slots Q cc nL own ret C hcd hret H' locs' ls' r'
                | invokevirtual idx => simp [a_kind] at hk; omega
                | ireturn => simp [a_kind] at hk; omega
                | areturn => simp [a_kind] at hk; omega
                | return_ => simp [a_kind] at hk; omega
                | _ => simp [a_kind] at hk
          next hk5 =>
            split at h
            next => cases h
            next v1 hr =>
              simp only [Option.some.injEq, Prod.mk.injEq] at h
              obtain ⟨rfl, rfl⟩ := h
              have hfin : ∀ (hdg : decode cc pc = .ok (ins, 1)), a_endok ret ins v1 → (v1.map (a_cv ad)).toList = st.map (a_cv ad) → W p l e R s m args below meth c H locs cells slots Q (F0 m pc ls (st.map (a_cv ad))) := by
                intro hdg hend hst
                rw [← hst]
                exact hret ins pc ls H locs hdg hend r.1 r.2.1
              cases ins with
              | ireturn =>
                simp only [a_kind] at hk
                obtain ⟨hdg, -⟩ := hv.2.1 (by simp [a_len])
                have h2 := hv.2.2
                simp only [a_vins, Bool.or_eq_true, Bool.and_eq_true, decide_eq_true_eq] at h2
                obtain rfl : k = 2 := by omega
                unfold a_ret at hr
                split at hr
                next x h23 =>
                  split at hr
                  next hx =>
                    cases hr
                    refine hfin hdg (Or.inl ⟨rfl, x, rfl, ?_⟩) rfl
                    rcases h2 with h2 | ⟨h2, h3⟩
                    · exact Or.inl h2
                    · exact Or.inr ⟨h2, hx.resolve_left (by omega)⟩
                  next => cases hr
                next hq => omega
                next hq => omega
                next hq => omega
                next => cases hr
              | areturn =>
                simp only [a_kind] at hk
                obtain ⟨hdg, -⟩ := hv.2.1 (by simp [a_len])
                have h2 := hv.2.2
                obtain rfl : k = 3 := by omega
                have hret2 : ∃ n, ret = some (.object n) := by
                  simp only [a_vins] at h2
                  split at h2
                  next n => exact ⟨n, rfl⟩
                  next => cases h2
                unfold a_ret at hr
                split at hr
                next hq => omega
                next q => cases hr; exact hfin hdg (Or.inr (Or.inl ⟨rfl, hret2, Or.inr ⟨_, rfl⟩⟩)) rfl
                next => cases hr; exact hfin hdg (Or.inr (Or.inl ⟨rfl, hret2, Or.inl rfl⟩)) rfl
                next hq => omega
                next => cases hr
              | return_ =>
                simp only [a_kind] at hk
                obtain ⟨hdg, -⟩ := hv.2.1 (by simp [a_len])
                have h2 := hv.2.2
                simp only [a_vins, decide_eq_true_eq] at h2
                obtain rfl : k = 4 := by omega
                unfold a_ret at hr
                split at hr
                next hq => omega
                next hq => omega
                next hq => omega
                next => cases hr; exact hfin hdg (Or.inr (Or.inr ⟨rfl, h2, rfl⟩)) rfl
                next => cases hr
              | invokevirtual idx => simp [a_kind] at hk; omega
              | invokestatic idx =>
                simp only [a_kind] at hk
                split at hk <;> omega
              | _ => simp [a_kind] at hk
