/-! runs of the constructors' machine -/
theorem b_sl_push (h : List bE) (e : bE) : b_sl (h ++ [e]) = b_sl h + b_sz e := by simp [b_sl]
theorem b_sl_set : ∀ (h : List bE) (i : Nat) (e e0 : bE), h[i]? = some e0 → b_sz e = b_sz e0 → b_sl (h.set i e) = b_sl h
  | [], i, e, e0, hi, _ => by simp at hi
  | a :: t, 0, e, e0, hi, hs => by
    simp at hi
    subst hi
    simp [b_sl, hs]
  | a :: t, i + 1, e, e0, hi, hs => by
    have := b_sl_set t i e e0 (by simpa using hi) hs
    simp only [b_sl, List.set_cons_succ, List.map_cons, List.sum_cons] at this ⊢
    rw [this]
/-- a step makes at most one cell -/
theorem b_eff_grow {ins : Instr} {nx ax pc' : Nat} {L st L' st' : List Value} {h h' : List bE} (he : b_eff ins nx ax L st h = some (pc', L', st', h')) : (h'.length = h.length ∧ b_sl h' = b_sl h) ∨ ∃ e, h' = h ++ [e] := by
  unfold b_eff at he
  split at he <;> first
    | (simp only [Option.some.injEq, Prod.mk.injEq] at he; obtain ⟨-, -, -, rfl⟩ := he; exact Or.inl ⟨rfl, rfl⟩)
    | (cases he; done)
    | skip
  all_goals first
    | (split at he <;> first | (split at he <;> first | (simp only [Option.some.injEq, Prod.mk.injEq] at he; obtain ⟨-, -, -, rfl⟩ := he; exact Or.inl ⟨rfl, rfl⟩) | (cases he; done)) | (simp only [Option.some.injEq, Prod.mk.injEq] at he; obtain ⟨-, -, -, rfl⟩ := he; exact Or.inl ⟨rfl, rfl⟩) | (cases he; done))
    | skip
  · unfold b_gf at he
    split at he
    next =>
      split at he
      next =>
        split at he
        next =>
          split at he
          next => cases he; exact Or.inl ⟨rfl, rfl⟩
          next => cases he
        next => cases he
      next => cases he
    next => cases he
  · unfold b_pf at he
    split at he
    next v i rest =>
      split at he
      next ci fs hi =>
        split at he
        next => cases he; exact Or.inl ⟨List.length_set, b_sl_set _ _ _ _ hi (by simp [b_sz])⟩
        next => cases he
      next => cases he
    next => cases he
  · unfold b_new at he
    split at he
    next =>
      split at he
      next => cases he; exact Or.inr ⟨_, rfl⟩
      next => cases he
    next => cases he
  · unfold b_na at he
    split at he
    next =>
      split at he
      next => cases he; exact Or.inr ⟨_, rfl⟩
      next => cases he
    next => cases he
  · unfold b_nq at he
    split at he
    next =>
      split at he
      next => cases he; exact Or.inr ⟨_, rfl⟩
      next => cases he
    next => cases he
  · unfold b_al at he
    split at he
    next =>
      split at he
      next => cases he; exact Or.inl ⟨rfl, rfl⟩
      next => cases he
    next => cases he
  · unfold b_is at he
    split at he
    next =>
      split at he
      next n f hi =>
        split at he
        next => cases he; exact Or.inl ⟨List.length_set, b_sl_set _ _ _ _ hi rfl⟩
        next => cases he
      next => cases he
    next => cases he
  · unfold b_as at he
    split at he
    next =>
      split at he
      next n f vs hi hv =>
        split at he
        next => cases he; exact Or.inl ⟨List.length_set, b_sl_set _ _ _ _ hi rfl⟩
        next => cases he
      next => cases he
    next => cases he
theorem b_run_grow {mts : List bMt} : ∀ (n fr : Nat) (cd : List aR) (stop pc : Nat) (L st : List Value) (h : List bE) (pc' : Nat) (L' st' : List Value) (h' : List bE), b_run mts n fr cd stop pc L st h = some (pc', L', st', h') → h.length ≤ h'.length ∧ b_sl h ≤ b_sl h' := by
  intro n
  induction n with
  | zero => intro fr cd stop pc L st h pc' L' st' h' he; simp [b_run] at he
  | succ n ih =>
    intro fr cd stop pc L st h pc' L' st' h' he
    simp only [b_run] at he
    split at he
    next =>
      simp only [Option.some.injEq, Prod.mk.injEq] at he
      obtain ⟨-, -, -, rfl⟩ := he
      exact ⟨Nat.le_refl _, Nat.le_refl _⟩
    next =>
      split at he
      next => cases he
      next pc0 ins nx ax wp hf =>
        split at he
        next =>
          split at he
          next =>
            split at he
            next => cases he
            next =>
              split at he
              next => cases he
              next r hr => exact ih _ _ _ _ _ _ _ _ _ _ _ he
          next =>
            split at he
            next => cases he
            next =>
              split at he
              next => cases he
              next =>
                split at he
                next => cases he
                next =>
                  split at he
                  next h1 hr =>
                    have g1 := ih _ _ _ _ _ _ _ _ _ _ _ hr
                    have g2 := ih _ _ _ _ _ _ _ _ _ _ _ he
                    exact ⟨Nat.le_trans g1.1 g2.1, Nat.le_trans g1.2 g2.2⟩
                  next => cases he
        next =>
          split at he
          next => cases he
          next pc1 L1 st1 h1 h2 =>
            have g2 := ih _ _ _ _ _ _ _ _ _ _ _ he
            rcases b_eff_grow h2 with ⟨e1, e2⟩ | ⟨e, rfl⟩
            · exact ⟨by omega, by omega⟩
            · rw [b_sl_push, List.length_append] at g2
              exact ⟨by omega, by omega⟩
/-- a step that is no call -/
theorem b_eff_ok {p : Program} {l : Launch} {e : Env} {R : Room} {s : State} {m : MethodId} {args : Array Value} {below : List Frame} {meth : Method} {c : Code} {Q : State → Prop} {cc : ByteArray} {D : va_G} {ad : Nat → Nat} {base : Nat} {cI cO : ClassId} {nL fr : Nat} {own : String} {ini : Bool} {mts : List bMt} {len0 sl0 : Nat}
    (C : b_Cx D ad base cI cO p R s m args meth c cc nL own ini fr) {ins : Instr} {pc nx ax wp pc' : Nat} {L st L' st' : List Value} {h h' : List bE} (hrow : b_vrow mts own ini cc (pc, ins, nx, ax, wp) = true) (he : b_eff ins nx ax L st h = some (pc', L', st', h')) (h0 : len0 ≤ h.length) (h1 : sl0 ≤ b_sl h) (h2 : h'.length - len0 ≤ R.cells) (h3 : b_sl h' - sl0 ≤ R.slots) {H : Heap} {locs : List Loc} {ls : Array Slot} (r : b_Rl D ad base cI cO s nL h L H locs ls)
    (kk : ∀ H' locs' ls', b_Rl D ad base cI cO s nL h' L' H' locs' ls' → W p l e R s m args below meth c H' locs' (h'.length - len0) (b_sl h' - sl0) Q (F0 m pc' ls' (st'.map (a_cv ad)))) : W p l e R s m args below meth c H locs (h.length - len0) (b_sl h - sl0) Q (F0 m pc ls (st.map (a_cv ad))) := by
  obtain ⟨hdg, hnx, hv⟩ := b_vrow_dec hrow
  obtain ⟨hx, hb, hml, hown, hts, hK, -⟩ := id C
  have same : ∀ (q : h'.length = h.length ∧ b_sl h' = b_sl h) (H' : Heap) (locs' : List Loc) (ls' : Array Slot), b_Rl D ad base cI cO s nL h' L' H' locs' ls' → W p l e R s m args below meth c H' locs' (h.length - len0) (b_sl h - sl0) Q (F0 m pc' ls' (st'.map (a_cv ad))) := fun q H' locs' ls' r' => W.cs (by rw [q.1]) (by rw [q.2]) (kk H' locs' ls' r')
  have grow : ∀ e', h' = h ++ [e'] → (h.length - len0) + 1 ≤ R.cells ∧ (b_sl h - sl0) + b_sz e' ≤ R.slots ∧ ∀ (H' : Heap) (locs' : List Loc) (ls' : Array Slot), b_Rl D ad base cI cO s nL h' L' H' locs' ls' → W p l e R s m args below meth c H' locs' ((h.length - len0) + 1) ((b_sl h - sl0) + b_sz e') Q (F0 m pc' ls' (st'.map (a_cv ad))) := by
    intro e' hq
    have q1 : h'.length = h.length + 1 := by rw [hq]; simp
    have q2 : b_sl h' = b_sl h + b_sz e' := by rw [hq, b_sl_push]
    exact ⟨by omega, by omega, fun H' locs' ls' r' => W.cs (by omega) (by omega) (kk H' locs' ls' r')⟩
  cases ins with
  | iconst n =>
    simp only [b_eff, Option.some.injEq, Prod.mk.injEq] at he
    obtain ⟨rfl, rfl, rfl, rfl⟩ := he
    subst hnx
    exact lv_iconst hx hb hdg rfl (kk _ _ _ r)
  | bipush n =>
    simp only [b_eff, Option.some.injEq, Prod.mk.injEq] at he
    obtain ⟨rfl, rfl, rfl, rfl⟩ := he
    subst hnx
    exact lv_bipush hx hb hdg rfl (kk _ _ _ r)
  | sipush n =>
    simp only [b_eff, Option.some.injEq, Prod.mk.injEq] at he
    obtain ⟨rfl, rfl, rfl, rfl⟩ := he
    subst hnx
    exact lv_sipush hx hb hdg rfl (kk _ _ _ r)
  | ldc i =>
    simp only [b_eff, Option.some.injEq, Prod.mk.injEq] at he
    obtain ⟨rfl, rfl, rfl, rfl⟩ := he
    subst hnx
    exact lv_ldc hx hb hown (hts _ (a_wq_in hv)) hdg (kk _ _ _ r)
  | iload_n k =>
    simp only [b_eff] at he
    subst hnx
    split at he
    next x hL =>
      cases he
      exact lv_iload_n hx hb hdg rfl (r.2.2.2.2.int hL) (kk _ _ _ r)
    next => cases he
  | aload_n k =>
    simp only [b_eff] at he
    subst hnx
    split at he
    next x hL =>
      cases he
      exact lv_aload_n hx hb hdg rfl (r.2.2.2.2.ref hL) (kk _ _ _ r)
    next => cases he
  | istore_n k =>
    simp only [b_eff] at he
    subst hnx
    split at he
    next x rest =>
      split at he
      next hi =>
        cases he
        exact lv_istore_n hx hb hdg rfl r.2.2.2.2.has (Nat.lt_of_lt_of_le hi r.2.2.2.2.2.2.1) rfl (fun ls' hl => kk _ _ _ ⟨r.1, r.2.1, r.2.2.1, r.2.2.2.1, a_lr.of_store (v0 := .int x) r.2.2.2.2.2.2.1 hi hl⟩)
      next => cases he
    next => cases he
  | astore_n k =>
    simp only [b_eff] at he
    subst hnx
    split at he
    next x rest =>
      split at he
      next hi =>
        cases he
        exact lv_astore_n hx hb hdg rfl r.2.2.2.2.has (Nat.lt_of_lt_of_le hi r.2.2.2.2.2.2.1) rfl (fun ls' hl => kk _ _ _ ⟨r.1, r.2.1, r.2.2.1, r.2.2.2.1, a_lr.of_store (v0 := .ref x) r.2.2.2.2.2.2.1 hi hl⟩)
      next => cases he
    next => cases he
  | iinc i k =>
    simp only [b_eff] at he
    subst hnx
    split at he
    next x hL =>
      cases he
      have hi : i < L.length := (List.getElem?_eq_some_iff.mp hL).1
      obtain ⟨j, hj⟩ := List.getElem?_of_mem (a_ll_mem (ad := ad) hL (by simp [a_dead]) rfl)
      exact lv_iinc hx hb hdg r.2.2.2.2.has hj rfl (Nat.lt_of_lt_of_le hi r.2.2.2.2.2.2.1) rfl (fun ls' hl => kk _ _ _ ⟨r.1, r.2.1, r.2.2.1, r.2.2.2.1, a_lr.of_store (v0 := .int (x + Int32.ofInt k)) r.2.2.2.2.2.2.1 hi hl⟩)
    next => cases he
  | dup =>
    simp only [b_eff] at he
    subst hnx
    split at he
    next x rest =>
      cases he
      exact lv_dup hx hb hdg rfl (kk _ _ _ r)
    next => cases he
  | dup2 =>
    simp only [b_eff] at he
    subst hnx
    split at he
    next x y rest =>
      cases he
      exact lv_dup2_11 hx hb hdg rfl rfl (kk _ _ _ r)
    next => cases he
  | goto off =>
    simp only [b_eff, Option.some.injEq, Prod.mk.injEq] at he
    obtain ⟨rfl, rfl, rfl, rfl⟩ := he
    exact lv_goto hx hb hdg (of_decide_eq_true hv) (kk _ _ _ r)
  | if_icmp co off =>
    have ht : (pc : Int) + off = (ax : Int) := of_decide_eq_true hv
    cases co with
    | ge =>
      simp only [b_eff] at he
      subst hnx
      split at he
      next y x rest =>
        refine lv_icmp_ge hx hb hdg ht (fun q => ?_) (fun q => ?_)
        · rw [if_pos q] at he
          cases he
          exact kk _ _ _ r
        · rw [if_neg q] at he
          cases he
          exact kk _ _ _ r
      next => cases he
    | _ => simp [b_eff] at he
  | getfield i => exact b_gf_ok C hv he hdg hnx r (same (by
      rcases b_eff_grow (ins := .getfield i) he with q | ⟨e', q⟩
      · exact q
      · exact absurd q (by
          have he := he
          simp only [b_eff, b_gf] at he
          split at he
          next =>
            split at he
            next =>
              split at he
              next =>
                split at he
                next => cases he; simp
                next => cases he
              next => cases he
            next => cases he
          next => cases he)))
  | putfield i =>
    refine b_pf_ok C hv he hdg hnx r (same ?_)
    rcases b_eff_grow (ins := .putfield i) he with q | ⟨e', q⟩
    · exact q
    · exfalso
      simp only [b_eff, b_pf] at he
      split at he
      next =>
        split at he
        next =>
          split at he
          next =>
            cases he
            have := congrArg List.length q
            simp at this
          next => cases he
        next => cases he
      next => cases he
  | new i =>
    have he2 := he
    simp only [b_eff, b_new] at he2
    split at he2
    next C0 T N hc =>
      split at he2
      next hcond =>
        simp only [Option.some.injEq, Prod.mk.injEq] at he2
        obtain ⟨-, -, -, hq⟩ := he2
        obtain ⟨g1, g2, g3⟩ := grow _ hq.symm
        have hN : b_sz (.inl (ax, b_def ax N)) = N := by simp [b_sz, b_def]
        rw [hN] at g2 g3
        simp only [b_vins, hc] at hv
        exact b_new_ok C g1 hc g2 (a_wq_in hv) he hdg hnx r g3
      next => cases he2
    next => cases he2
  | newarray t =>
    rcases b_eff_grow he with q | ⟨e', hq⟩
    · exfalso
      simp only [b_eff, b_na] at he
      split at he
      next =>
        split at he
        next =>
          cases he
          simp at q
        next => cases he
      next => cases he
    · obtain ⟨g1, g2, g3⟩ := grow _ hq
      exact b_na_ok C g1 (a_wq_in hv) he ⟨e', hq, rfl⟩ g2 hdg hnx r g3
  | anewarray i =>
    rcases b_eff_grow he with q | ⟨e', hq⟩
    · exfalso
      simp only [b_eff, b_nq] at he
      split at he
      next =>
        split at he
        next =>
          cases he
          simp at q
        next => cases he
      next => cases he
    · obtain ⟨g1, g2, g3⟩ := grow _ hq
      exact b_nq_ok C g1 (a_wq_in hv) he ⟨e', hq, rfl⟩ g2 hdg hnx r g3
  | arraylength =>
    refine b_al_ok C he hdg hnx r (same ?_)
    simp only [b_eff, b_al] at he
    split at he
    next =>
      split at he
      next => cases he; exact ⟨rfl, rfl⟩
      next => cases he
    next => cases he
  | iastore =>
    refine b_is_ok C he hdg hnx r (same ?_)
    simp only [b_eff, b_is] at he
    split at he
    next =>
      split at he
      next n f hi =>
        split at he
        next => cases he; exact ⟨List.length_set, b_sl_set _ _ _ _ hi rfl⟩
        next => cases he
      next => cases he
    next => cases he
  | aastore =>
    refine b_as_ok C he hdg hnx r (same ?_)
    simp only [b_eff, b_as] at he
    split at he
    next =>
      split at he
      next n f vs hi hv =>
        split at he
        next => cases he; exact ⟨List.length_set, b_sl_set _ _ _ _ hi rfl⟩
        next => cases he
      next => cases he
    next => cases he
  | _ => simp [b_eff] at he
def b_mch (mt : bMt) : Bool := decide (plainName mt.1.1.cls = true) && decide (mt.1.1.cls ≠ "java/lang/invoke/MethodHandle" ∧ mt.1.1.cls ≠ "java/lang/invoke/VarHandle") && decide (mt.1.1.name = "<init>") && a_wq mt.2.2.2.2.1 (.code mt.1.1 mt.1.2.1 mt.1.2.2 none) && a_wq mt.2.2.2.2.2.1 (.instanceMethod mt.1.1) && a_wq mt.2.2.2.2.2.2 (.initialized mt.1.1.cls) && decide ((parseMethodDescriptor mt.1.1.desc).map (fun d => d.parameters.length + 1) = some mt.2.2.1) && decide (decode mt.1.2.1 mt.2.2.2.1 = .ok (.return_, 1))
def b_mok (mts : List bMt) (mt : bMt) : Bool := b_mch mt && mt.2.1.all (b_vrow mts mt.1.1.cls true mt.1.2.1)
theorem b_mall : ∀ mt ∈ b_mth, b_mok b_mth mt = true := by decide +kernel
theorem b_vlaw : b_claw.all (b_vrow b_mth "WashAndDryLaw" false code) = true := by decide +kernel
