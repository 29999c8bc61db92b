/-! the small machine alone: what a run may read and write; runs under a wider leave, from another memory -/
def p_fn (M : aM) (q : aS) : aS := (q.1, q.2.1, q.2.2.1, M)
theorem p_li (i nx : Nat) (L st : List Value) (M M0 : aM) : a_li i nx L st M = (a_li i nx L st M0).map (p_fn M) := by unfold a_li; split <;> rfl
theorem p_la (i nx : Nat) (L st : List Value) (M M0 : aM) : a_la i nx L st M = (a_la i nx L st M0).map (p_fn M) := by unfold a_la; split <;> rfl
theorem p_si (i nx : Nat) (L st : List Value) (M M0 : aM) : a_si i nx L st M = (a_si i nx L st M0).map (p_fn M) := by unfold a_si; split <;> first | rfl | (split <;> rfl)
theorem p_sa (i nx : Nat) (L st : List Value) (M M0 : aM) : a_sa i nx L st M = (a_sa i nx L st M0).map (p_fn M) := by unfold a_sa; split <;> first | rfl | (split <;> rfl)
theorem p_ii (i nx : Nat) (c : Int) (L st : List Value) (M M0 : aM) : a_ii i nx c L st M = (a_ii i nx c L st M0).map (p_fn M) := by unfold a_ii; split <;> rfl
theorem p_b2 (f : Int32 → Int32 → Int32) (nx : Nat) (L st : List Value) (M M0 : aM) : a_b2 f nx L st M = (a_b2 f nx L st M0).map (p_fn M) := by unfold a_b2; split <;> rfl
theorem p_d2 (f : Int32 → Int32 → Int32) (nx : Nat) (L st : List Value) (M M0 : aM) : a_d2 f nx L st M = (a_d2 f nx L st M0).map (p_fn M) := by unfold a_d2; split <;> first | rfl | (split <;> rfl)
theorem p_neg (nx : Nat) (L st : List Value) (M M0 : aM) : a_neg nx L st M = (a_neg nx L st M0).map (p_fn M) := by unfold a_neg; split <;> rfl
theorem p_dup (nx : Nat) (L st : List Value) (M M0 : aM) : a_dup nx L st M = (a_dup nx L st M0).map (p_fn M) := by unfold a_dup; split <;> first | rfl | (split <;> rfl)
theorem p_dup2 (nx : Nat) (L st : List Value) (M M0 : aM) : a_dup2 nx L st M = (a_dup2 nx L st M0).map (p_fn M) := by unfold a_dup2; split <;> first | rfl | (split <;> rfl)
theorem p_pop (nx : Nat) (L st : List Value) (M M0 : aM) : a_pop nx L st M = (a_pop nx L st M0).map (p_fn M) := by unfold a_pop; split <;> first | rfl | (split <;> rfl)
theorem p_k1 (f : Int32 → Bool) (ax nx : Nat) (L st : List Value) (M M0 : aM) : a_k1 f ax nx L st M = (a_k1 f ax nx L st M0).map (p_fn M) := by
  unfold a_k1
  split
  next x r => cases f x <;> rfl
  next => rfl
theorem p_k2 (f : Int32 → Int32 → Bool) (ax nx : Nat) (L st : List Value) (M M0 : aM) : a_k2 f ax nx L st M = (a_k2 f ax nx L st M0).map (p_fn M) := by
  unfold a_k2
  split
  next y x r => cases f x y <;> rfl
  next => rfl
theorem p_nl (b : Bool) (ax nx : Nat) (L st : List Value) (M M0 : aM) : a_nl b ax nx L st M = (a_nl b ax nx L st M0).map (p_fn M) := by unfold a_nl; split <;> cases b <;> rfl
theorem p_jmp (pc : Nat) (off : Int) (L st : List Value) (M M0 : aM) : a_jmp pc off L st M = (a_jmp pc off L st M0).map (p_fn M) := by unfold a_jmp; split <;> rfl
theorem p_tsw (pc : Nat) (d lo hi : Int) (offs : Array Int) (L st : List Value) (M M0 : aM) : a_tsw pc d lo hi offs L st M = (a_tsw pc d lo hi offs L st M0).map (p_fn M) := by
  unfold a_tsw
  split
  next x r =>
    split
    next => exact p_jmp _ _ _ _ _ _
    next =>
      split
      next => exact p_jmp _ _ _ _ _ _
      next => rfl
  next => rfl
theorem p_lsw (pc : Nat) (d : Int) (ps : Array (Int × Int)) (L st : List Value) (M M0 : aM) : a_lsw pc d ps L st M = (a_lsw pc d ps L st M0).map (p_fn M) := by
  unfold a_lsw
  split
  next x r => exact p_jmp _ _ _ _ _ _
  next => rfl
theorem p_aal (nx : Nat) (L st : List Value) (M M0 : aM) : a_aal nx L st M = (a_aal nx L st M0).map (p_fn M) := by unfold a_aal; split <;> first | rfl | (split <;> rfl)
theorem p_math (ax nx : Nat) (L st : List Value) (M M0 : aM) : a_math ax nx L st M = (a_math ax nx L st M0).map (p_fn M) := by
  unfold a_math
  split
  next y r =>
    split
    next => split <;> rfl
    next =>
      split
      next x r' =>
        split
        next =>
          split
          next => rfl
          next => split <;> rfl
        next => rfl
      next => rfl
  next => rfl
/-- which instructions look at the memory or at the script -/
def p_mem (ins : Instr) : Bool := match ins with
  | .getfield _ => true
  | .putfield _ => true
  | .iaload => true
  | .iastore => true
  | .arraylength => true
  | _ => false
theorem p_eff {ins : Instr} (h : p_mem ins = false) (w w' : aW) (pc nx ax : Nat) (L st : List Value) (M M0 : aM) : a_eff w' ins pc nx ax L st M = (a_eff w ins pc nx ax L st M0).map (p_fn M) := by
  cases ins <;> first
    | rfl
    | exact p_li _ _ _ _ _ _
    | exact p_la _ _ _ _ _ _
    | exact p_si _ _ _ _ _ _
    | exact p_sa _ _ _ _ _ _
    | exact p_ii _ _ _ _ _ _ _
    | exact p_b2 _ _ _ _ _ _
    | exact p_d2 _ _ _ _ _ _
    | exact p_neg _ _ _ _ _
    | exact p_dup _ _ _ _ _
    | exact p_dup2 _ _ _ _ _
    | exact p_pop _ _ _ _ _
    | exact p_k1 _ _ _ _ _ _ _
    | exact p_k2 _ _ _ _ _ _ _
    | exact p_nl _ _ _ _ _ _ _
    | exact p_tsw _ _ _ _ _ _ _ _ _
    | exact p_lsw _ _ _ _ _ _ _
    | exact p_aal _ _ _ _ _
    | (simp [p_mem] at h; done)
/-- leave w lies within leave w' -/
def p_le (w w' : aW) : Prop := (∀ i, w.1 i = true → w'.1 i = true) ∧ w.1 a_scr = false
/-- the memories are the same where w may look -/
def p_ag (w : aW) (M Mx : aM) : Prop := ∀ i, w.1 i = true → Mx i = M i
theorem a_up_same {M : aM} {i k : Nat} {v : Int32} {Mx : aM} (h : Mx i = M i) : a_up Mx i k v i = a_up M i k v i := by
  funext x
  rw [a_up_ap, a_up_ap, h]
theorem p_up {w : aW} {M Mx : aM} (h : p_ag w M Mx) {i k : Nat} {v : Int32} (hw : w.1 i = true) : p_ag w (a_up M i k v) (a_up Mx i k v) ∧ ∀ j, w.1 j = false → a_up Mx i k v j = Mx j := by
  refine ⟨fun j hj => ?_, fun j hj => ?_⟩
  · by_cases hji : j = i
    · subst hji
      exact a_up_same (h j hj)
    · rw [a_up_other hji, a_up_other hji, h j hj]
  · refine a_up_other (fun q => ?_)
    rw [q, hw] at hj
    cases hj
theorem p_effm {ins : Instr} (hm : p_mem ins = true) {w w' : aW} (hw : p_le w w') {pc nx ax pc' : Nat} {L st L' st' : List Value} {M Mx M' : aM} (ha : p_ag w M Mx) (he : a_eff w ins pc nx ax L st M = some (pc', L', st', M')) : ∃ M1, a_eff w' ins pc nx ax L st Mx = some (pc', L', st', M1) ∧ p_ag w M' M1 ∧ ∀ j, w.1 j = false → M1 j = Mx j := by
  cases ins with
  | getfield q =>
    simp only [a_eff, a_gf] at he ⊢
    split at he
    next i r =>
      split at he
      next v hg =>
        cases he
        have : a_getf w' ax i Mx = some v := by
          unfold a_getf at hg ⊢
          split at hg
          next h1 =>
            rw [if_pos h1]
            split at hg
            next h2 =>
              rw [if_pos h2]
              split at hg
              next j hr => exact hg
              next hr =>
                split at hg
                next h3 =>
                  cases hg
                  rw [if_pos (hw.1 i h3), ha i h3]
                next => cases hg
              next hr => cases hg
            next => cases hg
          next => cases hg
        exact ⟨Mx, by simp only [this], ha, fun _ _ => rfl⟩
      next => cases he
    next => cases he
  | putfield q =>
    simp only [a_eff, a_pf] at he ⊢
    split at he
    next v i r =>
      split at he
      next M1 hg =>
        cases he
        have : w.1 i = true ∧ ∃ k, M' = a_up M i k v ∧ a_putf w' ax i v Mx = some (a_up Mx i k v) := by
          unfold a_putf at hg ⊢
          split at hg
          next h1 =>
            rw [if_pos ⟨h1.1, hw.1 i h1.2⟩]
            split at hg
            next h2 =>
              rw [if_pos h2]
              split at hg
              next hr =>
                split at hg
                next h3 =>
                  cases hg
                  exact ⟨h1.2, _, rfl, by rw [if_pos h3]⟩
                next => cases hg
              next => cases hg
            next => cases hg
          next => cases hg
        obtain ⟨hwi, k, rfl, h2⟩ := this
        obtain ⟨g1, g2⟩ := p_up ha (k := k) (v := v) hwi
        exact ⟨_, by simp only [h2], g1, g2⟩
      next => cases he
    next => cases he
  | iaload =>
    simp only [a_eff, a_ial] at he ⊢
    split at he
    next j i r =>
      split at he
      next v hg =>
        cases he
        have : a_ald w' i j Mx = some v := by
          unfold a_ald at hg ⊢
          split at hg
          next h1 =>
            split at hg
            next h2 =>
              rw [h1, hw.2] at h2
              exact absurd h2.1 (by decide)
            next => cases hg
          next h1 =>
            rw [if_neg h1]
            split at hg
            next h2 =>
              cases hg
              rw [if_pos ⟨h2.1.elim (fun q => Or.inl ⟨q.1, hw.1 i q.2⟩) Or.inr, h2.2⟩]
              unfold a_rd
              split
              next hi =>
                rcases h2.1 with q | q
                · rw [ha i q.2]
                · exact absurd hi (Nat.not_lt.mpr (a_k101 q))
              next => rfl
            next => cases hg
        exact ⟨Mx, by simp only [this], ha, fun _ _ => rfl⟩
      next => cases he
    next => cases he
  | iastore =>
    simp only [a_eff, a_ias] at he ⊢
    split at he
    next v j i r =>
      split at he
      next M1 hg =>
        cases he
        unfold a_ast at hg
        split at hg
        next h1 =>
          cases hg
          have h2 : a_ast w' i j v Mx = some (a_up Mx i j.toNatClampNeg v) := by
            unfold a_ast
            rw [if_pos ⟨⟨h1.1.1, hw.1 i h1.1.2⟩, h1.2⟩]
          obtain ⟨g1, g2⟩ := p_up ha (k := j.toNatClampNeg) (v := v) h1.1.2
          exact ⟨_, by simp only [h2], g1, g2⟩
        next => cases hg
      next => cases he
    next => cases he
  | arraylength =>
    simp only [a_eff, a_aln] at he ⊢
    split at he
    next i r =>
      split at he
      next v hg =>
        cases he
        have : a_alen w' i = some v := by
          unfold a_alen at hg ⊢
          split at hg
          next h1 =>
            split at hg
            next h2 =>
              rw [h1, hw.2] at h2
              cases h2
            next => cases hg
          next h1 =>
            rw [if_neg h1]
            exact hg
        exact ⟨Mx, by simp only [this], ha, fun _ _ => rfl⟩
      next => cases he
    next => cases he
  | _ => simp [p_mem] at hm
/-- a run under leave w is one under any wider leave, from any memory that is the same where w may look; elsewhere nothing changes -/
theorem p_run {w w' : aW} (hw : p_le w w') : ∀ (n fr : Nat) (cd : List aR) (pc : Nat) (L st : List Value) (M : aM) (v : Option Value) (M' Mx : aM), a_run w n fr cd pc L st M = some (v, M') → p_ag w M Mx → ∃ M1, a_run w' n fr cd pc L st Mx = some (v, M1) ∧ p_ag w M' M1 ∧ ∀ j, w.1 j = false → M1 j = Mx j := by
  intro n
  induction n with
  | zero => intro fr cd pc L st M v M' Mx h; simp [a_run] at h
  | succ n ih =>
    intro fr cd pc L st M v M' Mx h ha
    simp only [a_run] at h ⊢
    split at h
    next => cases h
    next pc0 ins nx ax wp hf =>
      (try rw [hf])
      (try simp only)
      split at h
      next hk =>
        (try rw [hk])
        (try simp only)
        split at h
        next => cases h
        next pc1 L1 st1 M1 he =>
          have hstep : ∃ M2, a_eff w' ins pc nx ax L st Mx = some (pc1, L1, st1, M2) ∧ p_ag w M1 M2 ∧ ∀ j, w.1 j = false → M2 j = Mx j := by
            cases hm : p_mem ins with
            | true => exact p_effm hm hw ha he
            | false =>
              have e1 := p_eff hm w w' pc nx ax L st Mx M
              have e2 := p_eff hm w w pc nx ax L st M M
              rw [he] at e1 e2
              simp only [Option.map_some, p_fn, Option.some.injEq, Prod.mk.injEq] at e1 e2
              obtain ⟨-, -, -, rfl⟩ := e2
              exact ⟨Mx, e1, ha, fun _ _ => rfl⟩
          obtain ⟨M2, e1, e2, e3⟩ := hstep
          obtain ⟨M3, g1, g2, g3⟩ := ih fr cd pc1 L1 st1 M1 v M' M2 h e2
          rw [e1]
          exact ⟨M3, g1, g2, fun j hj => (g3 j hj).trans (e3 j hj)⟩
      next k hk =>
        (try rw [hk])
        (try simp only)
        split at h
        next hk2 =>
          (try rw [if_pos hk2])
          split at h
          next => cases h
          next mt hm =>
            (try rw [hm])
            (try simp only)
            split at h
            next => cases h
            next As st0 ha2 =>
              (try rw [ha2])
              (try simp only)
              split at h
              next => cases h
              next fr' =>
                split at h
                next => cases h
                next v1 M1 h1 =>
                  obtain ⟨M2, e1, e2, e3⟩ := ih fr' _ _ _ _ M v1 M1 Mx h1 ha
                  obtain ⟨M3, g1, g2, g3⟩ := ih (fr' + 1) cd nx L _ M1 v M' M2 h e2
                  simp only [e1]
                  exact ⟨M3, g1, g2, fun j hj => (g3 j hj).trans (e3 j hj)⟩
        next hk2 =>
          (try rw [if_neg hk2])
          split at h
          next hk5 =>
            (try rw [if_pos hk5])
            split at h
            next => cases h
            next hfr =>
              (try rw [if_neg hfr])
              split at h
              next => cases h
              next pc1 L1 st1 M1 he =>
                have e1 := p_math ax nx L st Mx M
                have e2 := p_math ax nx L st M M
                rw [he] at e1 e2
                simp only [Option.map_some, p_fn, Option.some.injEq, Prod.mk.injEq] at e1 e2
                obtain ⟨-, -, -, hM⟩ := e2
                rw [hM] at h
                obtain ⟨M3, g1, g2, g3⟩ := ih fr cd pc1 L1 st1 M v M' Mx h ha
                rw [e1]
                exact ⟨M3, g1, g2, g3⟩
          next hk5 =>
            (try rw [if_neg hk5])
            split at h
            next => cases h
            next v1 hr =>
              simp only [Option.some.injEq, Prod.mk.injEq] at h
              obtain ⟨rfl, rfl⟩ := h
              (try rw [hr])
              exact ⟨Mx, rfl, ha, fun _ _ => rfl⟩
/-- more fuel does no harm -/
theorem p_more {w : aW} : ∀ (n fr : Nat) (cd : List aR) (pc : Nat) (L st : List Value) (M : aM) (q : Option Value × aM) (d : Nat), a_run w n fr cd pc L st M = some q → a_run w (n + d) fr cd pc L st M = some q := by
  intro n
  induction n with
  | zero => intro fr cd pc L st M q d h; simp [a_run] at h
  | succ n ih =>
    intro fr cd pc L st M q d h
    rw [show n + 1 + d = n + d + 1 by omega]
    simp only [a_run] at h ⊢
    split at h
    next => cases h
    next pc0 ins nx ax wp hf =>
      (try rw [hf])
      (try simp only)
      split at h
      next hk =>
        (try rw [hk])
        (try simp only)
        split at h
        next => cases h
        next pc1 L1 st1 M1 he =>
          (try rw [he])
          exact ih _ _ _ _ _ _ _ d h
      next k hk =>
        (try rw [hk])
        (try simp only)
        split at h
        next hk2 =>
          (try rw [if_pos hk2])
          split at h
          next => cases h
          next mt hm =>
            (try rw [hm])
            (try simp only)
            split at h
            next => cases h
            next As st0 ha2 =>
              (try rw [ha2])
              (try simp only)
              split at h
              next => cases h
              next fr' =>
                split at h
                next => cases h
                next v1 M1 h1 =>
                  (try simp only [ih _ _ _ _ _ _ _ d h1])
                  exact ih _ _ _ _ _ _ _ d h
        next hk2 =>
          (try rw [if_neg hk2])
          split at h
          next hk5 =>
            (try rw [if_pos hk5])
            split at h
            next => cases h
            next hfr =>
              (try rw [if_neg hfr])
              split at h
              next => cases h
              next pc1 L1 st1 M1 he =>
                (try rw [he])
                exact ih _ _ _ _ _ _ _ d h
          next hk5 =>
            (try rw [if_neg hk5])
            split at h
            next => cases h
            next v1 hr =>
              (try rw [hr])
              exact h
