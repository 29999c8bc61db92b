/-! one step of the small machine is a walk of the real one -/
theorem a_vrow_dec {own : String} {ret : Option FieldType} {cc : ByteArray} {pc nx ax wp : Nat} {ins : Instr} (h : a_vrow own ret cc (pc, ins, nx, ax, wp) = true) : (∃ len, decode cc pc = .ok (ins, len)) ∧ (a_len ins ≠ 0 → decode cc pc = .ok (ins, a_len ins) ∧ nx = pc + a_len ins) ∧ a_vins own ret pc ins ax wp = true := by
  unfold a_vrow at h
  simp only [Bool.and_eq_true, Bool.or_eq_true, decide_eq_true_eq] at h
  obtain ⟨⟨⟨h1, h2⟩, h3⟩, h4⟩ := h
  refine ⟨⟨_, h1⟩, fun hn => ?_, h4⟩
  have h5 : nx - pc = a_len ins := h3.resolve_left hn
  rw [h5] at h1
  exact ⟨h1, by omega⟩
/-- the fixed things of a frame: the machine, the code, the tables' words, the room -/
def a_Cx (w : aW) (D : va_G) (ad : Nat → Nat) (cA : Nat → ClassId) (p : Program) (R : Room) (s : State) (m : MethodId) (args : Array Value) (c : Code) (cc : ByteArray) (nL : Nat) (own : String) (fr cells slots : Nat) : Prop :=
  p.tables.exec = Jvm.exec ∧ c.code = cc ∧ c.maxLocals = nL ∧ s.vm.findClass own = some m.cls ∧ (∀ x ∈ lw_ok, x.before args s = true) ∧ a_Kn w D ad cA s ∧ a_inj ad ∧ fr ≤ R.frames ∧ 38 * fr ≤ R.locals ∧ cells ≤ R.cells ∧ slots ≤ R.slots
/-- the moving things of a frame: the heap's world, what was written, the locals -/
def a_Rl (D : va_G) (ad : Nat → Nat) (cA : Nat → ClassId) (s : State) (nL : Nat) (M : aM) (L : List Value) (H : Heap) (locs : List Loc) (ls : Array Slot) : Prop := va_P D a_cls (a_wd ad cA M) H ∧ va_S (a_A ad) s.heap H locs ∧ a_lr ad ls nL L
theorem a_kinds : ∀ i, i < a_ncw + 4 → ((a_shape i).1 = 100 ∨ (a_shape i).1 = 102) → i < a_ncw := by decide +kernel
theorem a_k100 {i : Nat} (h : (a_shape i).1 = 100) : i < a_ncw := a_kinds i (a_shape_lt (by omega)) (Or.inl h)
theorem a_k102 {i : Nat} (h : (a_shape i).1 = 102) : i < a_ncw := a_kinds i (a_shape_lt (by omega)) (Or.inr h)
theorem a_kinds1 : ∀ i, i < a_ncw + 4 → (a_shape i).1 = 101 → a_ncw ≤ i := by decide +kernel
theorem a_k101 {i : Nat} (h : (a_shape i).1 = 101) : a_ncw ≤ i := a_kinds1 i (a_shape_lt (by omega)) h
section ASTEP
variable {p : Program} {l : Launch} {e : Env} {R : Room} {s : State} {m : MethodId} {args : Array Value} {below : List Frame} {meth : Method} {c : Code} {cells slots : Nat} {Q : State → Prop} {cc : ByteArray} {D : va_G} {ad : Nat → Nat} {cA : Nat → ClassId} {nL fr : Nat} {own : String} {ret : Option FieldType} {w : aW}
theorem a_nestok (C : a_Cx w D ad cA p R s m args c cc nL own fr cells slots) {x : Jvm.Cond} (h : x ∈ a_nest) : x.before args s = true := by
  obtain ⟨a, i, b, n, d, z, rfl⟩ := a_nest_form h
  exact va_Nw.use rfl (C.2.2.2.2.2.1.2.2.2.2 _ h)
theorem a_get_ok (C : a_Cx w D ad cA p R s m args c cc nL own fr cells slots) {idx ax wp i pc : Nat} {M : aM} {v : Value} (hv : a_vfl own idx ax wp = true) (hg : a_getf w ax i M = some v) (hdg : decode cc pc = .ok (.getfield idx, 3)) {L : List Value} {H : Heap} {locs : List Loc} {ls : Array Slot} (r : a_Rl D ad cA s nL M L H locs ls) {rest : List Value}
    (kk : W p l e R s m args below meth c H locs cells slots Q (F0 m (pc + 3) ls (a_cv ad v :: rest))) : W p l e R s m args below meth c H locs cells slots Q (F0 m pc ls (.ref (ad i) :: rest)) := by
  obtain ⟨hx, hb, -, hown, hts, hK, -, -⟩ := id C
  unfold a_vfl at hv
  split at hv
  next C0 T N hc =>
    simp only [Bool.and_eq_true, Bool.or_eq_true, decide_eq_true_eq] at hv
    obtain ⟨hk, hl⟩ := hv
    have h100 : ax / 64 < 100 := a_cls_lt hc
    obtain ⟨hin, -, -⟩ := a_cok_all _ _ _ _ hc
    unfold a_getf at hg
    split at hg
    next hi =>
      split at hg
      next hci =>
        have he : (a_wd ad cA M)[i]? = some (ad i, .inr (ax / 64, a_fs ad (M i) 0 (a_shape i).2.1)) := by
          rw [a_wd_get ad cA M hi, a_ent_obj (by omega), hci]
        have hval : (a_fs ad (M i) 0 (a_shape i).2.1)[ax % 64]? = some (a_cv ad v) := by
          split at hg
          next j hr =>
            cases hg
            exact a_fs_ref ad _ _ _ _ _ hr
          next hr =>
            split at hg
            next =>
              cases hg
              have := a_fs_int ad (M i) _ 0 _ hr
              rw [Nat.zero_add] at this
              exact this
            next => cases hg
          next => cases hg
        rcases hl with hl | hl
        · exact va_get hx hb hts hin hown hK.2.1 r.1 i he hc (ax % 64) hk (hts _ (a_wq_in hl)) (fun _ h => h) hval hdg kk
        · exact va_getN hx hb hts hin hown hK.2.1 r.1 i he hc (ax % 64) hk (a_nestok C (a_wn_in hl rfl)) (fun _ h => h) hval hdg kk
      next => cases hg
    next => cases hg
  next => cases hv
theorem a_isI_ty {ci k : Nat} (h : a_isI ci k = true) : a_ty ci k = .int := by
  unfold a_isI at h
  split at h
  · assumption
  · cases h
theorem a_isB_ty {ci k : Nat} (h : a_isB ci k = true) : a_ty ci k = .boolean := by
  unfold a_isB at h
  split at h
  · assumption
  · cases h
theorem a_put_ok (C : a_Cx w D ad cA p R s m args c cc nL own fr cells slots) {idx ax wp i pc : Nat} {M M' : aM} {v : Int32} (hv : a_vfl own idx ax wp = true) (hfin : a_vfin ax = true) (hg : a_putf w ax i v M = some M') (hdg : decode cc pc = .ok (.putfield idx, 3)) {L : List Value} {H : Heap} {locs : List Loc} {ls : Array Slot} (r : a_Rl D ad cA s nL M L H locs ls) {rest : List Value}
    (kk : ∀ H' locs', a_Rl D ad cA s nL M' L H' locs' ls → W p l e R s m args below meth c H' locs' cells slots Q (F0 m (pc + 3) ls rest)) : W p l e R s m args below meth c H locs cells slots Q (F0 m pc ls (.int v :: .ref (ad i) :: rest)) := by
  obtain ⟨hx, hb, -, hown, hts, hK, hinj, -⟩ := id C
  unfold a_vfl at hv
  split at hv
  next C0 T N hc =>
    simp only [Bool.and_eq_true, Bool.or_eq_true, decide_eq_true_eq] at hv
    obtain ⟨hk, hl⟩ := hv
    have hfin : (T (ax % 64)).2.2.2 = false := by
      unfold a_vfin at hfin
      rw [hc] at hfin
      simpa using hfin
    have h100 : ax / 64 < 100 := a_cls_lt hc
    obtain ⟨hin, hty, hnm⟩ := a_cok_all _ _ _ _ hc
    unfold a_putf at hg
    split at hg
    next hi =>
      split at hg
      next hci =>
        split at hg
        next hr =>
          split at hg
          next htv =>
            cases hg
            have he : (a_wd ad cA M)[i]? = some (ad i, .inr (ax / 64, a_fs ad (M i) 0 (a_shape i).2.1)) := by
              rw [a_wd_get ad cA M hi.1, a_ent_obj (by omega), hci]
            have hset : (a_wd ad cA M).set i (ad i, .inr (ax / 64, (a_fs ad (M i) 0 (a_shape i).2.1).set (ax % 64) (.int v))) = a_wd ad cA (a_up M i (ax % 64) v) :=
              a_wd_set hi.1 (by rw [a_ent_put (by omega) hr, hci]) (fun j hj => a_up_other hj)
            have hlen : ax % 64 < (a_fs ad (M i) 0 (a_shape i).2.1).length := by
              rw [a_fs_len]
              exact (List.getElem?_eq_some_iff.mp hr).1
            have key : narrow (a_ty (ax / 64) (ax % 64)) (.int v) = .int v ∧ fits (a_ty (ax / 64) (ax % 64)) (.int v) = true := by
              rcases htv with h | ⟨h, rfl | rfl⟩
              · rw [a_isI_ty h]
                exact ⟨rfl, rfl⟩
              · rw [a_isB_ty h]
                exact ⟨by decide, by decide⟩
              · rw [a_isB_ty h]
                exact ⟨by decide, by decide⟩
            have fin : ∀ (H1 : Heap) (locs1 : List Loc), va_P D a_cls ((a_wd ad cA M).set i (ad i, .inr (ax / 64, (a_fs ad (M i) 0 (a_shape i).2.1).set (ax % 64) (.int v)))) H1 → va_S (a_A ad) s.heap H1 locs1 → W p l e R s m args below meth c H1 locs1 cells slots Q (F0 m (pc + 3) ls rest) := fun H1 locs1 h1 h2 => kk H1 locs1 ⟨by rw [← hset]; exact h1, h2, r.2.2⟩
            rcases hl with hl | hl
            · exact va_put hx hb hts hin (a_ty (ax / 64)) hty hnm hown hK.2.1 r.1 (a_D hinj cA M) r.2.1 i he hc (ax % 64) hk (hts _ (a_wq_in hl)) (fun _ h => h) hfin (hty _ hk) key.1 key.2 hlen hdg (fun H1 locs1 h1 _ h2 => fin H1 locs1 h1 h2)
            · exact va_putN hx hb hts hin (a_ty (ax / 64)) hty hnm hown hK.2.1 r.1 (a_D hinj cA M) r.2.1 i he hc (ax % 64) hk (a_nestok C (a_wn_in hl rfl)) (fun _ h => h) hfin (hty _ hk) key.1 key.2 hlen hdg (fun H1 locs1 h1 _ h2 => fin H1 locs1 h1 h2)
          next => cases hg
        next => cases hg
      next => cases hg
    next => cases hg
  next => cases hv
theorem a_tyI {i : Nat} (h : (a_shape i).1 = 100 ∨ (a_shape i).1 = 101) (hi : i < a_ncw) : (a_tys cA)[i]? = some (cA i, .int) := by
  rw [a_tys_get cA hi, if_neg (by omega)]
theorem a_ald_ok (C : a_Cx w D ad cA p R s m args c cc nL own fr cells slots) {i pc : Nat} {M : aM} {j v : Int32} (hg : a_ald w i j M = some v) (hdg : decode cc pc = .ok (.iaload, 1)) {L : List Value} {H : Heap} {locs : List Loc} {ls : Array Slot} (r : a_Rl D ad cA s nL M L H locs ls) {rest : List Value}
    (kk : W p l e R s m args below meth c H locs cells slots Q (F0 m (pc + 1) ls (.int v :: rest))) : W p l e R s m args below meth c H locs cells slots Q (F0 m pc ls (.int j :: .ref (ad i) :: rest)) := by
  obtain ⟨hx, hb, -, hown, hts, hK, hinj, -⟩ := id C
  unfold a_ald at hg
  split at hg
  next hscr =>
    subst hscr
    split at hg
    next h =>
      cases hg
      exact va_sld hx hb hK.1.1 hK.1.2.1 hK.1.2.2 r.2.1 (fun q => q.elim h.2.1 (fun z => absurd h.2.2 (Nat.not_lt.mpr z))) hdg kk
    next => cases hg
  next hscr =>
  split at hg
  next h =>
    obtain ⟨hk', h0, hn⟩ := h
    have hk : (a_shape i).1 = 100 ∨ (a_shape i).1 = 101 := hk'.elim (fun q => Or.inl q.1) Or.inr
    cases hg
    have hin : vp_in j (a_shape i).2.2 := fun q => q.elim h0 (fun z => absurd hn (Nat.not_lt.mpr z))
    unfold a_rd at kk
    split at kk
    next hi =>
      exact va_iald hx hb hK.2.1 r.1 i i (by rw [a_wd_get ad cA M hi, a_ent_arr hk]) (a_tyI hk hi) hin hdg kk
    next hi =>
      have hlt := a_shape_lt (i := i) (by omega)
      have hj : i - a_ncw < 4 := by omega
      have hT := hK.2.2.2.1 (i - a_ncw) hj
      rw [show a_ncw + (i - a_ncw) = i by omega] at hT
      exact va_ti hx hb hT r.2.1 hin rfl hdg kk
  next => cases hg
theorem a_ast_ok (C : a_Cx w D ad cA p R s m args c cc nL own fr cells slots) {i pc : Nat} {M M' : aM} {j v : Int32} (hg : a_ast w i j v M = some M') (hdg : decode cc pc = .ok (.iastore, 1)) {L : List Value} {H : Heap} {locs : List Loc} {ls : Array Slot} (r : a_Rl D ad cA s nL M L H locs ls) {rest : List Value}
    (kk : ∀ H' locs', a_Rl D ad cA s nL M' L H' locs' ls → W p l e R s m args below meth c H' locs' cells slots Q (F0 m (pc + 1) ls rest)) : W p l e R s m args below meth c H locs cells slots Q (F0 m pc ls (.int v :: .int j :: .ref (ad i) :: rest)) := by
  obtain ⟨hx, hb, -, hown, hts, hK, hinj, -⟩ := id C
  unfold a_ast at hg
  split at hg
  next h =>
    obtain ⟨⟨hk, hw⟩, h0, hn⟩ := h
    cases hg
    have hi : i < a_ncw := a_k100 hk
    have hin : vp_in j (a_shape i).2.2 := fun q => q.elim h0 (fun z => absurd hn (Nat.not_lt.mpr z))
    have hset : (a_wd ad cA M).set i (ad i, .inl (cA i, (a_shape i).2.2, .inl (upd (M i) j.toNatClampNeg v))) = a_wd ad cA (a_up M i j.toNatClampNeg v) := by
      refine a_wd_set hi ?_ (fun j hj => a_up_other hj)
      rw [a_ent_arr (Or.inl hk)]
      have e : a_up M i j.toNatClampNeg v i = upd (M i) j.toNatClampNeg v := by
        funext x
        rw [a_up_ap]
        simp [upd]
      rw [e]
    exact va_iast hx hb hK.2.1 r.1 (a_D hinj cA M) r.2.1 i i (by rw [a_wd_get ad cA M hi, a_ent_arr (Or.inl hk)]) (a_tyI (Or.inl hk) hi) hin hdg (fun H1 locs1 h1 _ h2 => kk H1 locs1 ⟨by rw [← hset]; exact h1, h2, r.2.2⟩)
  next => cases hg
theorem a_aald_ok (C : a_Cx w D ad cA p R s m args c cc nL own fr cells slots) {i pc q : Nat} {M : aM} {j : Int32} (hg : a_aald i j = some q) (hdg : decode cc pc = .ok (.aaload, 1)) {L : List Value} {H : Heap} {locs : List Loc} {ls : Array Slot} (r : a_Rl D ad cA s nL M L H locs ls) {rest : List Value}
    (kk : W p l e R s m args below meth c H locs cells slots Q (F0 m (pc + 1) ls (.ref (ad q) :: rest))) : W p l e R s m args below meth c H locs cells slots Q (F0 m pc ls (.int j :: .ref (ad i) :: rest)) := by
  obtain ⟨hx, hb, -, hown, hts, hK, hinj, -⟩ := id C
  unfold a_aald at hg
  split at hg
  next h =>
    obtain ⟨hk, h0, hn⟩ := h
    have hin : vp_in j (a_shape i).2.2 := fun q => q.elim h0 (fun z => absurd hn (Nat.not_lt.mpr z))
    have hi : i < a_ncw := a_k102 hk
    split at hg
    next q' hr =>
      cases hg
      refine va_aldq hx hb hK.2.1 r.1 i i (f := a_oa ad (a_shape i).2.1) (by rw [a_wd_get ad cA M hi, a_ent_refs hk]) (C := aR5) (by rw [a_tys_get cA hi, if_pos hk]) hin hdg ?_
      have : va_rf (a_oa ad (a_shape i).2.1 j.toNatClampNeg) = .ref (ad q) := by
        unfold a_oa
        rw [hr]
        rfl
      rw [this]
      exact kk
    next => cases hg
  next => cases hg
theorem a_alen_ok (C : a_Cx w D ad cA p R s m args c cc nL own fr cells slots) {i pc n : Nat} {M : aM} (hg : a_alen w i = some n) (hdg : decode cc pc = .ok (.arraylength, 1)) {L : List Value} {H : Heap} {locs : List Loc} {ls : Array Slot} (r : a_Rl D ad cA s nL M L H locs ls) {rest : List Value}
    (kk : W p l e R s m args below meth c H locs cells slots Q (F0 m (pc + 1) ls (.int (Int32.ofNat n) :: rest))) : W p l e R s m args below meth c H locs cells slots Q (F0 m pc ls (.ref (ad i) :: rest)) := by
  obtain ⟨hx, hb, -, hown, hts, hK, hinj, -⟩ := id C
  unfold a_alen at hg
  split at hg
  next hscr =>
    subst hscr
    split at hg
    next =>
      cases hg
      exact va_slen hx hb hK.1.1 hK.1.2.1 hK.1.2.2 r.2.1 hdg kk
    next => cases hg
  next hscr =>
  split at hg
  next h =>
    cases hg
    rcases h with hk | hk | hk
    · exact va_alen hx hb hK.2.1 r.1 i i (x := ((a_shape i).2.2, .inl (M i))) (by rw [a_wd_get ad cA M (a_k100 hk), a_ent_arr (Or.inl hk)]) (a_tyI (Or.inl hk) (a_k100 hk)) rfl hdg kk
    · have hlt := a_shape_lt (i := i) (by omega)
      by_cases hi : i < a_ncw
      · exact va_alen hx hb hK.2.1 r.1 i i (x := ((a_shape i).2.2, .inl (M i))) (by rw [a_wd_get ad cA M hi, a_ent_arr (Or.inr hk)]) (a_tyI (Or.inr hk) hi) rfl hdg kk
      · have hj : i - a_ncw < 4 := by omega
        have hT := hK.2.2.2.1 (i - a_ncw) hj
        rw [show a_ncw + (i - a_ncw) = i by omega] at hT
        exact va_tlen hx hb hT r.2.1 rfl hdg kk
    · exact va_alen hx hb hK.2.1 r.1 i i (x := ((a_shape i).2.2, .inr (.inr (.inr (.inr (a_oa ad (a_shape i).2.1)))))) (by rw [a_wd_get ad cA M (a_k102 hk), a_ent_refs hk]) (by rw [a_tys_get cA (a_k102 hk), if_pos hk]) rfl hdg kk
  next => cases hg
end ASTEP
