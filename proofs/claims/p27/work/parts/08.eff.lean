theorem a_jmp_ok {pc : Nat} {off : Int} {L st : List Value} {M : aM} {pc' : Nat} {L' st' : List Value} {M' : aM} (h : a_jmp pc off L st M = some (pc', L', st', M')) : (pc : Int) + off = (pc' : Int) ∧ L = L' ∧ st = st' ∧ M = M' := by
  unfold a_jmp at h
  split at h
  next t ht =>
    simp only [Option.some.injEq, Prod.mk.injEq] at h
    obtain ⟨rfl, rfl, rfl, rfl⟩ := h
    exact ⟨ht, rfl, rfl, rfl⟩
  next => cases h
/-- a step that is no call and no end -/
theorem a_eff_ok {p : Program} {l : Launch} {e : Env} {R : Room} {s : State} {m : MethodId} {args : Array Value} {below : List Frame} {meth : Method} {c : Code} {cells slots : Nat} {Q : State → Prop} {cc : ByteArray} {D : va_G} {ad : Nat → Nat} {cA : Nat → ClassId} {nL fr : Nat} {own : String} {ret : Option FieldType} {w : aW}
    (C : a_Cx w D ad cA p R s m args c cc nL own fr cells slots) {ins : Instr} {pc nx ax wp pc' : Nat} {L st L' st' : List Value} {M M' : aM} (hrow : a_vrow own ret cc (pc, ins, nx, ax, wp) = true) (he : a_eff w ins pc nx ax L st M = some (pc', L', st', M')) {H : Heap} {locs : List Loc} {ls : Array Slot} (r : a_Rl D ad cA s nL M L H locs ls)
    (kk : ∀ H' locs' ls', a_Rl D ad cA s nL M' L' H' locs' ls' → W p l e R s m args below meth c H' locs' cells slots Q (F0 m pc' ls' (st'.map (a_cv ad)))) : W p l e R s m args below meth c H locs cells slots Q (F0 m pc ls (st.map (a_cv ad))) := by
  have hv := a_vrow_dec hrow
  obtain ⟨hx, hb, hml, hown, hts, hK, -⟩ := id C
  cases ins with
  | iconst n =>
    simp only [a_eff, Option.some.injEq, Prod.mk.injEq] at he
    obtain ⟨rfl, rfl, rfl, rfl⟩ := he
    obtain ⟨hdg, rfl⟩ := hv.2.1 (by simp [a_len])
    exact lv_iconst hx hb hdg rfl (kk _ _ _ r)
  | bipush n =>
    simp only [a_eff, Option.some.injEq, Prod.mk.injEq] at he
    obtain ⟨rfl, rfl, rfl, rfl⟩ := he
    obtain ⟨hdg, rfl⟩ := hv.2.1 (by simp [a_len])
    exact lv_bipush hx hb hdg rfl (kk _ _ _ r)
  | sipush n =>
    simp only [a_eff, Option.some.injEq, Prod.mk.injEq] at he
    obtain ⟨rfl, rfl, rfl, rfl⟩ := he
    obtain ⟨hdg, rfl⟩ := hv.2.1 (by simp [a_len])
    exact lv_sipush hx hb hdg rfl (kk _ _ _ r)
  | ldc i =>
    simp only [a_eff, Option.some.injEq, Prod.mk.injEq] at he
    obtain ⟨rfl, rfl, rfl, rfl⟩ := he
    obtain ⟨hdg, rfl⟩ := hv.2.1 (by simp [a_len])
    exact lv_ldc hx hb hown (hts _ (a_wq_in hv.2.2)) hdg (kk _ _ _ r)
  | ldc_w i =>
    simp only [a_eff, Option.some.injEq, Prod.mk.injEq] at he
    obtain ⟨rfl, rfl, rfl, rfl⟩ := he
    obtain ⟨hdg, rfl⟩ := hv.2.1 (by simp [a_len])
    exact lv_ldcw hx hb hown (hts _ (a_wq_in hv.2.2)) hdg (kk _ _ _ r)
  | aconst_null =>
    simp only [a_eff, Option.some.injEq, Prod.mk.injEq] at he
    obtain ⟨rfl, rfl, rfl, rfl⟩ := he
    obtain ⟨hdg, rfl⟩ := hv.2.1 (by simp [a_len])
    exact lv_null hx hb hdg (kk _ _ _ r)
  | iload_n k =>
    simp only [a_eff, a_li] at he
    obtain ⟨hdg, rfl⟩ := hv.2.1 (by simp [a_len])
    split at he
    next x hL =>
      cases he
      exact lv_iload_n hx hb hdg rfl (r.2.2.int hL) (kk _ _ _ r)
    next => cases he
  | iload i =>
    simp only [a_eff, a_li] at he
    obtain ⟨hdg, rfl⟩ := hv.2.1 (by simp [a_len])
    split at he
    next x hL =>
      cases he
      exact lv_iload hx hb hdg (r.2.2.int hL) (kk _ _ _ r)
    next => cases he
  | aload_n k =>
    simp only [a_eff, a_la] at he
    obtain ⟨hdg, rfl⟩ := hv.2.1 (by simp [a_len])
    split at he
    next x hL =>
      cases he
      exact lv_aload_n hx hb hdg rfl (r.2.2.ref hL) (kk _ _ _ r)
    next => cases he
  | aload i =>
    simp only [a_eff, a_la] at he
    obtain ⟨hdg, rfl⟩ := hv.2.1 (by simp [a_len])
    split at he
    next x hL =>
      cases he
      exact lv_aload hx hb hdg (r.2.2.ref hL) (kk _ _ _ r)
    next => cases he
  | istore_n k =>
    simp only [a_eff, a_si] at he
    obtain ⟨hdg, rfl⟩ := hv.2.1 (by simp [a_len])
    split at he
    next x rest =>
      split at he
      next hi =>
        cases he
        exact lv_istore_n hx hb hdg rfl r.2.2.has (Nat.lt_of_lt_of_le hi r.2.2.2.2.1) rfl (fun ls' hl => kk _ _ _ ⟨r.1, r.2.1, a_lr.of_store (v0 := .int x) r.2.2.2.2.1 hi hl⟩)
      next => cases he
    next => cases he
  | istore i =>
    simp only [a_eff, a_si] at he
    obtain ⟨hdg, rfl⟩ := hv.2.1 (by simp [a_len])
    split at he
    next x rest =>
      split at he
      next hi =>
        cases he
        exact lv_istore hx hb hdg r.2.2.has (Nat.lt_of_lt_of_le hi r.2.2.2.2.1) rfl (fun ls' hl => kk _ _ _ ⟨r.1, r.2.1, a_lr.of_store (v0 := .int x) r.2.2.2.2.1 hi hl⟩)
      next => cases he
    next => cases he
  | astore_n k =>
    simp only [a_eff, a_sa] at he
    obtain ⟨hdg, rfl⟩ := hv.2.1 (by simp [a_len])
    split at he
    next x rest =>
      split at he
      next hi =>
        cases he
        exact lv_astore_n hx hb hdg rfl r.2.2.has (Nat.lt_of_lt_of_le hi r.2.2.2.2.1) rfl (fun ls' hl => kk _ _ _ ⟨r.1, r.2.1, a_lr.of_store (v0 := .ref x) r.2.2.2.2.1 hi hl⟩)
      next => cases he
    next => cases he
  | astore i =>
    simp only [a_eff, a_sa] at he
    obtain ⟨hdg, rfl⟩ := hv.2.1 (by simp [a_len])
    split at he
    next x rest =>
      split at he
      next hi =>
        cases he
        exact lv_astore hx hb hdg r.2.2.has (Nat.lt_of_lt_of_le hi r.2.2.2.2.1) rfl (fun ls' hl => kk _ _ _ ⟨r.1, r.2.1, a_lr.of_store (v0 := .ref x) r.2.2.2.2.1 hi hl⟩)
      next => cases he
    next => cases he
  | iinc i k =>
    simp only [a_eff, a_ii] at he
    obtain ⟨hdg, rfl⟩ := hv.2.1 (by simp [a_len])
    split at he
    next x hL =>
      cases he
      have hi : i < L.length := (List.getElem?_eq_some_iff.mp hL).1
      obtain ⟨j, hj⟩ := List.getElem?_of_mem (a_ll_mem (ad := ad) hL (by simp [a_dead]) rfl)
      exact lv_iinc hx hb hdg r.2.2.has hj rfl (Nat.lt_of_lt_of_le hi r.2.2.2.2.1) rfl (fun ls' hl => kk _ _ _ ⟨r.1, r.2.1, a_lr.of_store (v0 := .int (x + Int32.ofInt k)) r.2.2.2.2.1 hi hl⟩)
    next => cases he
  | iadd =>
    simp only [a_eff, a_b2] at he
    obtain ⟨hdg, rfl⟩ := hv.2.1 (by simp [a_len])
    split at he
    next y x rest =>
      cases he
      exact lv_iadd hx hb hdg (kk _ _ _ r)
    next => cases he
  | isub =>
    simp only [a_eff, a_b2] at he
    obtain ⟨hdg, rfl⟩ := hv.2.1 (by simp [a_len])
    split at he
    next y x rest =>
      cases he
      exact lv_isub hx hb hdg (kk _ _ _ r)
    next => cases he
  | imul =>
    simp only [a_eff, a_b2] at he
    obtain ⟨hdg, rfl⟩ := hv.2.1 (by simp [a_len])
    split at he
    next y x rest =>
      cases he
      exact lv_imul hx hb hdg (kk _ _ _ r)
    next => cases he
  | iand =>
    simp only [a_eff, a_b2] at he
    obtain ⟨hdg, rfl⟩ := hv.2.1 (by simp [a_len])
    split at he
    next y x rest =>
      cases he
      exact lv_iand hx hb hdg (kk _ _ _ r)
    next => cases he
  | ior =>
    simp only [a_eff, a_b2] at he
    obtain ⟨hdg, rfl⟩ := hv.2.1 (by simp [a_len])
    split at he
    next y x rest =>
      cases he
      exact lv_ior hx hb hdg (kk _ _ _ r)
    next => cases he
  | ixor =>
    simp only [a_eff, a_b2] at he
    obtain ⟨hdg, rfl⟩ := hv.2.1 (by simp [a_len])
    split at he
    next y x rest =>
      cases he
      exact lv_ixor hx hb hdg (kk _ _ _ r)
    next => cases he
  | ishl =>
    simp only [a_eff, a_b2] at he
    obtain ⟨hdg, rfl⟩ := hv.2.1 (by simp [a_len])
    split at he
    next y x rest =>
      cases he
      exact lv_ishl hx hb hdg (kk _ _ _ r)
    next => cases he
  | ishr =>
    simp only [a_eff, a_b2] at he
    obtain ⟨hdg, rfl⟩ := hv.2.1 (by simp [a_len])
    split at he
    next y x rest =>
      cases he
      exact lv_ishr hx hb hdg (kk _ _ _ r)
    next => cases he
  | iushr =>
    simp only [a_eff, a_b2] at he
    obtain ⟨hdg, rfl⟩ := hv.2.1 (by simp [a_len])
    split at he
    next y x rest =>
      cases he
      exact lv_iushr hx hb hdg rfl (kk _ _ _ r)
    next => cases he
  | idiv =>
    simp only [a_eff, a_d2] at he
    obtain ⟨hdg, rfl⟩ := hv.2.1 (by simp [a_len])
    split at he
    next y x rest =>
      split at he
      next => cases he
      next h0 =>
        cases he
        exact lv_idiv hx hb hdg h0 (kk _ _ _ r)
    next => cases he
  | irem =>
    simp only [a_eff, a_d2] at he
    obtain ⟨hdg, rfl⟩ := hv.2.1 (by simp [a_len])
    split at he
    next y x rest =>
      split at he
      next => cases he
      next h0 =>
        cases he
        exact lv_irem hx hb hdg h0 (kk _ _ _ r)
    next => cases he
  | ineg =>
    simp only [a_eff, a_neg] at he
    obtain ⟨hdg, rfl⟩ := hv.2.1 (by simp [a_len])
    split at he
    next x rest =>
      cases he
      exact lv_ineg hx hb hdg (kk _ _ _ r)
    next => cases he
  | dup =>
    simp only [a_eff, a_dup] at he
    obtain ⟨hdg, rfl⟩ := hv.2.1 (by simp [a_len])
    split at he
    next v rest =>
      split at he
      next hc =>
        cases he
        exact lv_dup hx hb hdg ((a_cv_cat ad v).trans hc) (kk _ _ _ r)
      next => cases he
    next => cases he
  | dup2 =>
    simp only [a_eff, a_dup2] at he
    obtain ⟨hdg, rfl⟩ := hv.2.1 (by simp [a_len])
    split at he
    next v u rest =>
      split at he
      next hc =>
        cases he
        exact lv_dup2_11 hx hb hdg ((a_cv_cat ad v).trans hc.1) ((a_cv_cat ad u).trans hc.2) (kk _ _ _ r)
      next => cases he
    next => cases he
  | pop =>
    simp only [a_eff, a_pop] at he
    obtain ⟨hdg, rfl⟩ := hv.2.1 (by simp [a_len])
    split at he
    next v rest =>
      split at he
      next hc =>
        cases he
        exact lv_pop hx hb hdg ((a_cv_cat ad v).trans hc) (kk _ _ _ r)
      next => cases he
    next => cases he
  | ifCond co off =>
    simp only [a_eff, a_k1] at he
    obtain ⟨hdg, rfl⟩ := hv.2.1 (by simp [a_len])
    have ht : (pc : Int) + off = (ax : Int) := of_decide_eq_true hv.2.2
    split at he
    next x rest =>
      cases co with
      | eq =>
        simp only [a_cf1] at he
        refine lv_if_eq hx hb hdg ht (fun h => ?_) (fun h => ?_)
        · rw [decide_eq_true h, cond_true] at he
          cases he
          exact kk _ _ _ r
        · rw [decide_eq_false h, cond_false] at he
          cases he
          exact kk _ _ _ r
      | ne =>
        simp only [a_cf1] at he
        refine lv_if_ne hx hb hdg ht (fun h => ?_) (fun h => ?_)
        · rw [decide_eq_true h, cond_true] at he
          cases he
          exact kk _ _ _ r
        · rw [decide_eq_false (fun q => q h), cond_false] at he
          cases he
          exact kk _ _ _ r
      | lt =>
        simp only [a_cf1] at he
        refine lv_if_lt hx hb hdg ht (fun h => ?_) (fun h => ?_)
        · rw [decide_eq_true h, cond_true] at he
          cases he
          exact kk _ _ _ r
        · rw [decide_eq_false h, cond_false] at he
          cases he
          exact kk _ _ _ r
      | ge =>
        simp only [a_cf1] at he
        refine lv_if_ge hx hb hdg ht (fun h => ?_) (fun h => ?_)
        · rw [decide_eq_true h, cond_true] at he
          cases he
          exact kk _ _ _ r
        · rw [decide_eq_false h, cond_false] at he
          cases he
          exact kk _ _ _ r
      | gt =>
        simp only [a_cf1] at he
        refine lv_if_gt hx hb hdg ht (fun h => ?_) (fun h => ?_)
        · rw [decide_eq_true h, cond_true] at he
          cases he
          exact kk _ _ _ r
        · rw [decide_eq_false h, cond_false] at he
          cases he
          exact kk _ _ _ r
      | le =>
        simp only [a_cf1] at he
        refine lv_if_le hx hb hdg ht (fun h => ?_) (fun h => ?_)
        · rw [decide_eq_true h, cond_true] at he
          cases he
          exact kk _ _ _ r
        · rw [decide_eq_false h, cond_false] at he
          cases he
          exact kk _ _ _ r
    next => cases he
  | if_icmp co off =>
    simp only [a_eff, a_k2] at he
    obtain ⟨hdg, rfl⟩ := hv.2.1 (by simp [a_len])
    have ht : (pc : Int) + off = (ax : Int) := of_decide_eq_true hv.2.2
    split at he
    next y x rest =>
      cases co with
      | eq =>
        simp only [a_cf2] at he
        refine lv_icmp_eq hx hb hdg ht (fun h => ?_) (fun h => ?_)
        · rw [decide_eq_true h, cond_true] at he
          cases he
          exact kk _ _ _ r
        · rw [decide_eq_false h, cond_false] at he
          cases he
          exact kk _ _ _ r
      | ne =>
        simp only [a_cf2] at he
        refine lv_icmp_ne hx hb hdg ht (fun h => ?_) (fun h => ?_)
        · rw [decide_eq_true h, cond_true] at he
          cases he
          exact kk _ _ _ r
        · rw [decide_eq_false (fun q => q h), cond_false] at he
          cases he
          exact kk _ _ _ r
      | lt =>
        simp only [a_cf2] at he
        refine lv_icmp_lt hx hb hdg ht (fun h => ?_) (fun h => ?_)
        · rw [decide_eq_true h, cond_true] at he
          cases he
          exact kk _ _ _ r
        · rw [decide_eq_false h, cond_false] at he
          cases he
          exact kk _ _ _ r
      | ge =>
        simp only [a_cf2] at he
        refine lv_icmp_ge hx hb hdg ht (fun h => ?_) (fun h => ?_)
        · rw [decide_eq_true h, cond_true] at he
          cases he
          exact kk _ _ _ r
        · rw [decide_eq_false h, cond_false] at he
          cases he
          exact kk _ _ _ r
      | gt =>
        simp only [a_cf2] at he
        refine lv_icmp_gt hx hb hdg ht (fun h => ?_) (fun h => ?_)
        · rw [decide_eq_true h, cond_true] at he
          cases he
          exact kk _ _ _ r
        · rw [decide_eq_false h, cond_false] at he
          cases he
          exact kk _ _ _ r
      | le =>
        simp only [a_cf2] at he
        refine lv_icmp_le hx hb hdg ht (fun h => ?_) (fun h => ?_)
        · rw [decide_eq_true h, cond_true] at he
          cases he
          exact kk _ _ _ r
        · rw [decide_eq_false h, cond_false] at he
          cases he
          exact kk _ _ _ r
    next => cases he
  | goto off =>
    simp only [a_eff, Option.some.injEq, Prod.mk.injEq] at he
    obtain ⟨rfl, rfl, rfl, rfl⟩ := he
    obtain ⟨hdg, -⟩ := hv.2.1 (by simp [a_len])
    have ht := of_decide_eq_true hv.2.2
    exact lv_goto hx hb hdg ht (kk _ _ _ r)
  | ifnull off =>
    simp only [a_eff, a_nl] at he
    obtain ⟨hdg, rfl⟩ := hv.2.1 (by simp [a_len])
    have ht : (pc : Int) + off = (ax : Int) := of_decide_eq_true hv.2.2
    split at he
    next q rest =>
      simp only [cond_true] at he
      cases he
      exact lv_ifnull hx hb hdg (kk _ _ _ r)
    next rest =>
      simp only [cond_true] at he
      cases he
      exact lv_ifnullN hx hb hdg ht (kk _ _ _ r)
    next => cases he
  | ifnonnull off =>
    simp only [a_eff, a_nl] at he
    obtain ⟨hdg, rfl⟩ := hv.2.1 (by simp [a_len])
    have ht : (pc : Int) + off = (ax : Int) := of_decide_eq_true hv.2.2
    split at he
    next q rest =>
      simp only [cond_false] at he
      cases he
      exact lv_ifnonnull hx hb hdg ht (kk _ _ _ r)
    next rest =>
      simp only [cond_false] at he
      cases he
      exact lv_ifnonnullN hx hb hdg (kk _ _ _ r)
    next => cases he
  | tableswitch d lo hi offs =>
    obtain ⟨len, hdg⟩ := hv.1
    simp only [a_eff, a_tsw] at he
    split at he
    next x rest =>
      split at he
      next h =>
        obtain ⟨ht, rfl, rfl, rfl⟩ := a_jmp_ok he
        exact lv_tableOut hx hb hdg h ht (kk _ _ _ r)
      next h =>
        split at he
        next o ho =>
          obtain ⟨ht, rfl, rfl, rfl⟩ := a_jmp_ok he
          exact lv_tableIn hx hb hdg (fun q => h (Or.inl q)) (fun q => h (Or.inr q)) ho ht (kk _ _ _ r)
        next => cases he
    next => cases he
  | lookupswitch d ps =>
    obtain ⟨len, hdg⟩ := hv.1
    simp only [a_eff, a_lsw] at he
    split at he
    next x rest =>
      obtain ⟨ht, rfl, rfl, rfl⟩ := a_jmp_ok he
      exact lv_lookup hx hb hdg hv.2.2 rfl ht (kk _ _ _ r)
    next => cases he
  | getfield i =>
    simp only [a_eff, a_gf] at he
    obtain ⟨hdg, rfl⟩ := hv.2.1 (by simp [a_len])
    split at he
    next q rest =>
      split at he
      next v hg =>
        cases he
        exact a_get_ok C hv.2.2 hg hdg r (kk _ _ _ r)
      next => cases he
    next => cases he
  | putfield i =>
    simp only [a_eff, a_pf] at he
    obtain ⟨hdg, rfl⟩ := hv.2.1 (by simp [a_len])
    split at he
    next v q rest =>
      split at he
      next M1 hg =>
        cases he
        have h2 := hv.2.2
        simp only [a_vins, Bool.and_eq_true] at h2
        exact a_put_ok C h2.1 h2.2 hg hdg r (fun H' locs' r' => kk _ _ _ r')
      next => cases he
    next => cases he
  | getstatic i =>
    simp only [a_eff, Option.some.injEq, Prod.mk.injEq] at he
    obtain ⟨rfl, rfl, rfl, rfl⟩ := he
    obtain ⟨hdg, rfl⟩ := hv.2.1 (by simp [a_len])
    have h2 := hv.2.2
    simp only [a_vins, Bool.and_eq_true, Bool.or_eq_true, decide_eq_true_eq] at h2
    obtain ⟨hj, h2⟩ := h2
    rcases h2 with h2 | h2
    · exact va_gets hx hb (hK.2.2.1 ax hj) r.2.1 hown (hts _ (a_wq_in h2)) (fun _ h => h) hdg (kk _ _ _ r)
    · exact va_getsN hx hb (hK.2.2.1 ax hj) r.2.1 hown (a_nestok C (a_wn_in h2 rfl)) (fun _ h => h) hdg (kk _ _ _ r)
  | iaload =>
    simp only [a_eff, a_ial] at he
    obtain ⟨hdg, rfl⟩ := hv.2.1 (by simp [a_len])
    split at he
    next j q rest =>
      split at he
      next v hg =>
        cases he
        exact a_ald_ok C hg hdg r (kk _ _ _ r)
      next => cases he
    next => cases he
  | iastore =>
    simp only [a_eff, a_ias] at he
    obtain ⟨hdg, rfl⟩ := hv.2.1 (by simp [a_len])
    split at he
    next v j q rest =>
      split at he
      next M1 hg =>
        cases he
        exact a_ast_ok C hg hdg r (fun H' locs' r' => kk _ _ _ r')
      next => cases he
    next => cases he
  | aaload =>
    simp only [a_eff, a_aal] at he
    obtain ⟨hdg, rfl⟩ := hv.2.1 (by simp [a_len])
    split at he
    next j q rest =>
      split at he
      next v hg =>
        cases he
        exact a_aald_ok C hg hdg r (kk _ _ _ r)
      next => cases he
    next => cases he
  | arraylength =>
    simp only [a_eff, a_aln] at he
    obtain ⟨hdg, rfl⟩ := hv.2.1 (by simp [a_len])
    split at he
    next q rest =>
      split at he
      next v hg =>
        cases he
        exact a_alen_ok C hg hdg r (kk _ _ _ r)
      next => cases he
    next => cases he
  | _ => simp [a_eff] at he
