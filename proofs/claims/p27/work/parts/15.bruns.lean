/-! constructors by contract -/
def b_Pc (D : va_G) (ad : Nat → Nat) (base : Nat) (cI cO : ClassId) (As : List Value) (h : List bE) : Array Value → State → Prop := fun a U => a = (As.map (a_cv ad)).toArray ∧ va_P D a_cls (b_wd ad cI cO h) U.heap ∧ U.heap.size = base + h.length ∧ h.length ≤ 900 ∧ b_Kn D cI cO U
def b_Qc (D : va_G) (ad : Nat → Nat) (base : Nat) (cI cO : ClassId) (h : List bE) : Array Value → State → Outcome → State → Prop := fun _ st o t => o = .returned none ∧ va_P D a_cls (b_wd ad cI cO h) t.heap ∧ t.heap.size = base + h.length ∧ h.length ≤ 900 ∧ va_F (b_A base) st t
def b_rm (fr mc ms : Nat) : Room := { frames := fr, cells := mc, slots := ms, locals := 38 * fr }
def b_ws (mt : bMt) : List Jvm.Cond := .code mt.1.1 mt.1.2.1 mt.1.2.2 none :: lw_ok
def b_Met (l : Launch) (D : va_G) (ad : Nat → Nat) (base : Nat) (cI cO : ClassId) (fr : Nat) (mt : bMt) (As : List Value) (h h' : List bE) : Prop := Met l mt.1.1 (b_ws mt) (b_rm fr (h'.length - h.length) (b_sl h' - b_sl h)) (b_Pc D ad base cI cO As h) (b_Qc D ad base cI cO h') (h'.length - h.length) (b_sl h' - b_sl h) (b_A base)
theorem b_Kn.moved {D : va_G} {cI cO : ClassId} {s U : State} (h : b_Kn D cI cO s) (hW : s.WarmedH U.vm) : b_Kn D cI cO U := by
  refine ⟨va_K.moved hW.alike h.1, va_AO.moved hW.alike h.2.1, fun x hx => ?_⟩
  obtain ⟨a, i, b, n, d, z, rfl⟩ := a_nest_form hx
  exact va_Nw.warmF hW (h.2.2 _ hx)
theorem b_Kn.call {D : va_G} {cI cO : ClassId} {U : State} (g : JFrame) (mk : MethodId) (a : Array Value) (h : b_Kn D cI cO U) : b_Kn D cI cO (U.calling g mk a) := by
  refine ⟨va_K.moved (u := U) (U := U.calling g mk a) (Vm.Alike.refl U.vm) h.1, va_AO.moved (u := U) (U := U.calling g mk a) (Vm.Alike.refl U.vm) h.2.1, fun x hx => ?_⟩
  obtain ⟨q, i, b, n, d, z, rfl⟩ := a_nest_form hx
  exact va_Nw.same (u := U) (U := U.calling g mk a) rfl rfl (h.2.2 _ hx)
theorem b_Pc.blind {D : va_G} {ad : Nat → Nat} {base : Nat} {cI cO : ClassId} {As : List Value} {h : List bE} : FrameBlind (b_Pc D ad base cI cO As h) := fun _ _ g mk q => ⟨q.1, q.2.1, q.2.2.1, q.2.2.2.1, b_Kn.call g mk _ q.2.2.2.2⟩
def b_Fr (l : Launch) (D : va_G) (ad : Nat → Nat) (base : Nat) (cI cO : ClassId) (n : Nat) : Prop :=
  ∀ (fr : Nat) (cd : List aR) (stop pc : Nat) (L st : List Value) (h : List bE) (pc' : Nat) (L' st' : List Value) (h' : List bE), b_run b_mth n fr cd stop pc L st h = some (pc', L', st', h') →
  ∀ (p : Program) (e : Env) (R : Room) (s : State) (m : MethodId) (args : Array Value) (below : List Frame) (meth : Method) (c : Code) (Q : State → Prop) (cc : ByteArray) (nL : Nat) (own : String) (ini : Bool) (len0 sl0 : Nat),
  b_Cx D ad base cI cO p R s m args meth c cc nL own ini fr → cd.all (b_vrow b_mth own ini cc) = true → len0 ≤ h.length → sl0 ≤ b_sl h → h'.length - len0 ≤ R.cells → b_sl h' - sl0 ≤ R.slots →
  (∀ (H : Heap) (locs : List Loc) (ls : Array Slot), b_Rl D ad base cI cO s nL h' L' H locs ls → W p l e R s m args below meth c H locs (h'.length - len0) (b_sl h' - sl0) Q (F0 m pc' ls (st'.map (a_cv ad)))) →
  ∀ (H : Heap) (locs : List Loc) (ls : Array Slot), b_Rl D ad base cI cO s nL h L H locs ls → W p l e R s m args below meth c H locs (h.length - len0) (b_sl h - sl0) Q (F0 m pc ls (st.map (a_cv ad)))
theorem b_stop {mts : List bMt} : ∀ (n fr : Nat) (cd : List aR) (stop pc : Nat) (L st : List Value) (h : List bE) (pc' : Nat) (L' st' : List Value) (h' : List bE), b_run mts n fr cd stop pc L st h = some (pc', L', st', h') → pc' = stop := by
  intro n
  induction n with
  | zero => intro fr cd stop pc L st h pc' L' st' h' he; simp [b_run] at he
  | succ n ih =>
    intro fr cd stop pc L st h pc' L' st' h' he
    simp only [b_run] at he
    split at he
    next hq =>
      simp only [Option.some.injEq, Prod.mk.injEq] at he
      exact he.1.symm.trans hq
    next =>
      split at he
      next => cases he
      next pc0 ins nx ax wp hf =>
        split at he
        next =>
          split at he
          next =>
            split at he
            next => cases he
            next =>
              split at he
              next => cases he
              next r hr => exact ih _ _ _ _ _ _ _ _ _ _ _ he
          next =>
            split at he
            next => cases he
            next =>
              split at he
              next => cases he
              next =>
                split at he
                next => cases he
                next =>
                  split at he
                  next h1 hr => exact ih _ _ _ _ _ _ _ _ _ _ _ he
                  next => cases he
        next =>
          split at he
          next => cases he
          next pc1 L1 st1 h1 h2 => exact ih _ _ _ _ _ _ _ _ _ _ _ he
theorem b_met_of {l : Launch} {D : va_G} {ad : Nat → Nat} {base : Nat} {cI cO : ClassId} (had : b_ad base ad) {n : Nat} (hF : b_Fr l D ad base cI cO n) {fr : Nat} {mt : bMt} (hmt : b_mok b_mth mt = true) {As : List Value} {h h' : List bE} {L' : List Value} {pc' : Nat} (hc : ∀ x ∈ As, x.category = 1) (hl : As.length ≤ mt.1.2.2)
    (hrun : b_run b_mth n fr mt.2.1 mt.2.2.2.1 0 (As ++ List.replicate (mt.1.2.2 - As.length) a_dead) [] h = some (pc', L', [], h')) : b_Met l D ad base cI cO fr mt As h h' := by
  unfold b_mok b_mch at hmt
  simp only [Bool.and_eq_true, decide_eq_true_eq] at hmt
  obtain ⟨⟨⟨⟨⟨⟨⟨⟨f3, f4⟩, f5⟩, f1⟩, f6⟩, f2⟩, f7⟩, f8⟩, hrows⟩ := hmt
  refine Met.ofW (cc := mt.1.2.1) (maxL := mt.1.2.2) (ret := none) f3 rfl ?_
  intro p e s m args below meth c s₁ B hml hPc
  obtain ⟨rfl, hP, hsz, h9, hK⟩ := hPc
  have hts := atoms_spec (ws := b_ws mt) B.pre
  have hown : s.vm.findClass mt.1.1.cls = some m.cls := findClass_of_methodNamed B.named
  have hnm : meth.name = "<init>" := ((name_of_methodNamed B.named B.method).1).trans f5
  have hcc : ∀ x ∈ As.map (a_cv ad), x.category = 1 := fun x hx => by
    obtain ⟨u, hu, rfl⟩ := List.mem_map.mp hx
    rw [a_cv_cat]
    exact hc u hu
  have hle := lv_entry (As.map (a_cv ad)) (n := mt.1.2.2) (by rw [a_args_len _ hcc, List.length_map]; exact hl)
  rw [lg_entry_eq]
  generalize (lg_sl (As.map (a_cv ad)) ++ List.replicate (mt.1.2.2 - (lg_sl (As.map (a_cv ad))).length) Slot.unset).toArray = ls at hle ⊢
  have hlocks := B.notSynchronized
  have hgo := b_stop _ _ _ _ _ _ _ _ _ _ _ _ hrun
  subst hgo
  refine W.cs (Nat.sub_self h.length).symm (Nat.sub_self (b_sl h)).symm ?_
  refine hF fr mt.2.1 _ 0 _ [] h _ L' [] h' hrun p e _ s m _ below meth c _ mt.1.2.1 mt.1.2.2 mt.1.1.cls true h.length (b_sl h) ⟨B.exec, B.bytes, hml, hown, fun x hx => hts x (List.mem_cons_of_mem _ hx), hK, had, by omega, fun _ => hnm, Nat.le_refl _, Nat.le_refl _⟩ hrows (Nat.le_refl _) (Nat.le_refl _) (Nat.le_refl _) (Nat.le_refl _) ?_ s.heap [] ls ⟨hP, hsz, h9, va_S.rf, a_lr_entry ad hc hl hle⟩
  intro H locs ls r
  exact W.vret B.exec B.bytes B.returns (fun t ht _ => ⟨rfl, by rw [ht]; exact r.1, by rw [ht]; exact r.2.1, r.2.2.1, r.2.2.2.1.F ht⟩) r.2.2.2.1.2.2 f8
theorem b_sound (l : Launch) (D : va_G) (ad : Nat → Nat) (base : Nat) (cI cO : ClassId) (had : b_ad base ad) : ∀ n, b_Fr l D ad base cI cO n := by
  intro n
  induction n with
  | zero =>
    intro fr cd stop pc L st h pc' L' st' h' hrun
    simp [b_run] at hrun
  | succ n ih =>
    intro fr cd stop pc L st h pc' L' st' h' hrun p e R s m args below meth c Q cc nL own ini len0 sl0 C hcd hl0 hs0 hl1 hs1 kk H locs ls r
    obtain ⟨hx, hb, hml, hown, hts, hK, hA, hbs, hnm, hfr, hlo⟩ := id C
    have hgr := b_run_grow _ _ _ _ _ _ _ _ _ _ _ _ hrun
    simp only [b_run] at hrun
    split at hrun
    next hq =>
      simp only [Option.some.injEq, Prod.mk.injEq] at hrun
      obtain ⟨rfl, rfl, rfl, rfl⟩ := hrun
      exact kk H locs ls r
    next =>
      split at hrun
      next => cases hrun
      next pc0 ins nx ax wp hf =>
        obtain ⟨hmem, hpc⟩ := a_find_mem hf
        simp only at hpc
        have hpc' : pc = pc0 := hpc.symm
        subst hpc'
        have hrow := List.all_eq_true.mp hcd _ hmem
        split at hrun
        next hisC =>
          cases ins with
          | invokespecial idx =>
            obtain ⟨hdg, hnx, hv⟩ := b_vrow_dec hrow
            split at hrun
            next hax =>
              split at hrun
              next => cases hrun
              next hfr0 =>
                split at hrun
                next => cases hrun
                next rr hobj =>
                  simp only [b_vins, if_pos hax] at hv
                  unfold b_obj at hobj
                  split at hobj
                  next q rest =>
                    split at hobj
                    next hsum =>
                      cases hobj
                      subst hnx
                      refine W.objInit hx hb hown (hts _ (a_wq_in hv)) (hts _ b_jo.1) (hts _ b_jo.2) rfl (by rw [hml]; exact r.2.2.2.2.1) rfl hdg (by omega) (by rw [a_cv_sum]; show 2 * 0 + _ + 12 ≤ _; omega) ?_
                      exact ih fr cd stop (pc + 3) L _ h pc' L' st' h' hrun p e R s m args below meth c Q cc nL own ini len0 sl0 C hcd hl0 hs0 hl1 hs1 kk H locs ls r
                    next => cases hobj
                  next => cases hobj
            next hax =>
              split at hrun
              next => cases hrun
              next mt hm =>
                split at hrun
                next => cases hrun
                next As st0 ha =>
                  split at hrun
                  next => cases hrun
                  next fr' =>
                    split at hrun
                    next pcx Lx h1 hcall =>
                      simp only [b_vins, if_neg hax, hm] at hv
                      have hmt := b_mall mt (List.mem_of_getElem? hm)
                      have hmt2 := hmt
                      unfold b_mok b_mch at hmt2
                      simp only [Bool.and_eq_true, decide_eq_true_eq] at hmt2
                      obtain ⟨⟨⟨⟨⟨⟨⟨⟨f3, f4⟩, f5⟩, f1⟩, f6⟩, f2⟩, f7⟩, f8⟩, hrows⟩ := hmt2
                      unfold b_args at ha
                      split at ha
                      next i As' st1 htk =>
                        split at ha
                        next hcond =>
                          simp only [Option.some.injEq, Prod.mk.injEq] at ha
                          obtain ⟨rfl, rfl⟩ := ha
                          obtain ⟨c1, c2, c3, c4⟩ := hcond
                          obtain ⟨vs, hst, hAs, hlen⟩ := a_take_spec _ _ _ _ _ htk
                          rw [List.append_nil] at hAs
                          subst hAs
                          have hM := b_met_of had ih hmt c4 c3 hcall
                          have g1 := b_run_grow _ _ _ _ _ _ _ _ _ _ _ _ hcall
                          have g2 := b_run_grow _ _ _ _ _ _ _ _ _ _ _ _ hrun
                          have hgood : GoodIn lw_ok (b_ws mt) := fun x hx => by
                            rcases List.mem_cons.mp hx with rfl | hx
                            · exact a_goodIn _ (a_wq_in f1)
                            · exact a_goodIn _ hx
                          have hW : 2 * (F0 m pc ls (st.map (a_cv ad))).monitorRoom + ((st1.map (a_cv ad)).map fun v => v.category).sum ≤ 8 := by
                            rw [a_cv_sum]
                            show 2 * 0 + _ ≤ 8
                            omega
                          have hroom : (b_rm fr' (h1.length - h.length) (b_sl h1 - b_sl h)).frames + 1 ≤ R.frames ∧ 8 + (mt.1.2.2 + 11) + (b_rm fr' (h1.length - h.length) (b_sl h1 - b_sl h)).locals ≤ R.locals := by
                            show fr' + 1 ≤ R.frames ∧ 8 + (mt.1.2.2 + 11) + 38 * fr' ≤ R.locals
                            omega
                          have hCB : CallB R s args own idx mt.1.1 mt.1.2.1 mt.1.2.2 none (b_ws mt) (b_rm fr' (h1.length - h.length) (b_sl h1 - b_sl h)) (h1.length - h.length) (b_sl h1 - b_sl h) As'.length :=
                            ⟨rfl, rfl, hroom.1, hroom.2, pay_in hts hgood, List.mem_cons_self, hts _ (a_wq_in f1), hts _ (a_wq_in f2), f4, fun sig hsig => by
                              rw [hsig] at f7
                              have := Option.some.inj f7
                              simp at hlen this
                              omega, hts _ (a_wq_in hv)⟩
                          have hPc : ∀ U : State, U.heap = H → s.WarmedH U.vm → b_Pc D ad base cI cO (.ref i :: As') h ((Value.ref i :: As').map (a_cv ad)).toArray U := fun U hU hW => ⟨rfl, by rw [hU]; exact r.1, by rw [hU]; exact r.2.1, r.2.2.1, hK.moved hW⟩
                          have hstk : st.map (a_cv ad) = (As'.map (a_cv ad)).reverse ++ .ref (ad i) :: st1.map (a_cv ad) := by
                            rw [hst]
                            simp [a_cv]
                          have hrun2 := va_runI (p := p) (l := l) (e := e) (below := below) (meth := meth) (locs := locs) (H := H) (cells := h.length - len0) (slots := b_sl h - sl0) (g := F0 m pc ls (st.map (a_cv ad))) (As := As'.map (a_cv ad)) (rest := st1.map (a_cv ad)) (b := ad i) (n := As'.length) ⟨hx, hb, hml, hown, hts⟩ hM ⟨hCB, f5, hts _ (a_wq_in f6)⟩ ⟨b_Pc.blind, hPc⟩ rfl (by simp) r.2.2.2.2.1 hstk hW (by subst hnx; exact hdg) ⟨by omega, by omega⟩
                          intro T hT X
                          obtain ⟨v', st₀, t, T', L2, e0, X', hL, e1, e2, ⟨hv', hP1, hz1, h91, hz, hk⟩, stp⟩ := hrun2 T hT X
                          rw [e0] at hz hk
                          simp only [Outcome.returned.injEq] at hv'
                          subst hv'
                          have hS := r.2.2.2.1
                          have hS' : va_S (b_A base) s.heap T'.heap (locs ++ L2) := ⟨Nat.le_trans hS.1 (by rw [e1]; exact hz), fun q q1 q2 => by rw [e1, hk q (Nat.lt_of_lt_of_le q1 hS.1) q2]; exact hS.2.1 q q1 q2, fun q hq => by
                            rcases List.mem_append.mp hq with g | g
                            · exact hS.2.2 q g
                            · exact hL q g⟩
                          have kgo := ih (fr' + 1) cd stop nx L st1 h1 pc' L' st' h' hrun p e R s m args below meth c Q cc nL own ini len0 sl0 C hcd (by omega) (by omega) hl1 hs1 kk T'.heap (locs ++ L2) ls ⟨by rw [e1]; exact hP1, by rw [e1]; exact hz1, h91, hS', r.2.2.2.2⟩
                          obtain ⟨t2, a1, b1⟩ := (W.cs (by omega) (by omega) kgo : W p l e R s m args below meth c T'.heap (locs ++ L2) ((h.length - len0) + (h1.length - h.length)) ((b_sl h - sl0) + (b_sl h1 - b_sl h)) Q _) T' rfl X'
                          subst hnx
                          exact ⟨t2, stp t2 a1, b1⟩
                        next => cases ha
                      next => cases ha
                    next => cases hrun
          | _ => simp [b_isC] at hisC
        next =>
          split at hrun
          next => cases hrun
          next pc1 L1 st1 h1 he =>
            have g2 := b_run_grow _ _ _ _ _ _ _ _ _ _ _ _ hrun
            have g1 : h.length ≤ h1.length ∧ b_sl h ≤ b_sl h1 := by
              rcases b_eff_grow he with ⟨e1, e2⟩ | ⟨e', rfl⟩
              · exact ⟨by omega, by omega⟩
              · rw [b_sl_push, List.length_append]
                exact ⟨by omega, by omega⟩
            exact b_eff_ok C hrow he hl0 hs0 (by omega) (by omega) r fun H' locs' ls' r' => ih fr cd stop pc1 L1 st1 h1 pc' L' st' h' hrun p e R s m args below meth c Q cc nL own ini len0 sl0 C hcd (by omega) (by omega) hl1 hs1 kk H' locs' ls' r'
