/-! rules for runs: 'aw': from here the run comes to its end with Q -/
def aw (w : aW) (fr : Nat) (cd : List aR) (pc : Nat) (L st : List Value) (M : aM) (Q : Option Value → aM → Prop) : Prop := ∃ n v M', a_run w n fr cd pc L st M = some (v, M') ∧ Q v M'
section AWR
variable {w : aW} {fr : Nat} {cd : List aR} {pc q nx ax wp pc' : Nat} {ins : Instr} {L st L' st' : List Value} {M M' : aM} {Q : Option Value → aM → Prop}
theorem aw_e (hf : a_find cd pc = some (q, ins, nx, ax, wp)) (hk : a_kind ins ax = 0) (he : a_eff w ins pc nx ax L st M = some (pc', L', st', M')) (k : aw w fr cd pc' L' st' M' Q) : aw w fr cd pc L st M Q := by
  obtain ⟨n, v, M2, h, hq⟩ := k
  exact ⟨n + 1, v, M2, by simp only [a_run, hf, hk, he]; exact h, hq⟩
theorem aw_r {v : Option Value} {k : Nat} (hf : a_find cd pc = some (q, ins, nx, ax, wp)) (hk : a_kind ins ax = k + 1) (h2 : 2 ≤ k ∧ k ≤ 4) (hr : a_ret (k + 1) ax st = some v) (hq : Q v M) : aw w fr cd pc L st M Q := by
  refine ⟨1, v, M, ?_, hq⟩
  simp only [a_run, hf, hk, hr]
  rw [if_neg (by omega), if_neg (by omega)]
theorem aw_ri {x : Int32} {wp : Nat} (hf : a_find cd pc = some (q, .ireturn, nx, ax, wp)) (hx : ax = 0 ∨ x = 0 ∨ x = 1) (hq : Q (some (.int x)) M) : aw w fr cd pc L [.int x] M Q := aw_r hf rfl ⟨Nat.le_refl _, by omega⟩ (by simp only [a_ret]; rw [if_pos hx]) hq
theorem aw_rv (hf : a_find cd pc = some (q, .return_, nx, ax, wp)) (hq : Q none M) : aw w fr cd pc L [] M Q := aw_r hf rfl ⟨by omega, Nat.le_refl _⟩ rfl hq
/-- a call, its body walked in place -/
theorem aw_ci {mt : aMt} {As : List Value} {k : Nat} (hf : a_find cd pc = some (q, ins, nx, ax, wp)) (hk : a_kind ins ax = k + 1) (h2 : k < 2) (hm : a_mth[ax]? = some mt) (ha : a_args (k + 1) mt st = some (As, st'))
    (kk : aw w fr mt.2.1 0 (As ++ List.replicate (mt.1.2.2.1 - As.length) a_dead) [] M (fun v M1 => aw w (fr + 1) cd nx L (v.toList ++ st') M1 Q)) : aw w (fr + 1) cd pc L st M Q := by
  obtain ⟨n1, v1, M1, h1, n2, v2, M2, h3, hq⟩ := kk
  refine ⟨n1 + n2 + 1, v2, M2, ?_, hq⟩
  have e1 := p_more _ _ _ _ _ _ _ _ n2 h1
  have e2 := p_more _ _ _ _ _ _ _ _ n1 h3
  rw [Nat.add_comm n2 n1] at e2
  simp only [a_run, hf, hk, if_pos h2, hm, ha, e1]
  exact e2
/-- a call by what is known of it -/
theorem aw_ck {mt : aMt} {As : List Value} {k : Nat} {P : Option Value → aM → Prop} (hf : a_find cd pc = some (q, ins, nx, ax, wp)) (hk : a_kind ins ax = k + 1) (h2 : k < 2) (hm : a_mth[ax]? = some mt) (ha : a_args (k + 1) mt st = some (As, st'))
    (hc : aw w fr mt.2.1 0 (As ++ List.replicate (mt.1.2.2.1 - As.length) a_dead) [] M P) (kk : ∀ v M1, P v M1 → aw w (fr + 1) cd nx L (v.toList ++ st') M1 Q) : aw w (fr + 1) cd pc L st M Q := by
  obtain ⟨n, v, M1, h, hp⟩ := hc
  exact aw_ci hf hk h2 hm ha ⟨n, v, M1, h, kk v M1 hp⟩
theorem aw_m (hf : a_find cd pc = some (q, ins, nx, ax, wp)) (hk : a_kind ins ax = 6) (he : a_math ax nx L st M = some (pc', L', st', M')) (k : aw w (fr + 1) cd pc' L' st' M' Q) : aw w (fr + 1) cd pc L st M Q := by
  obtain ⟨n, v, M2, h, hq⟩ := k
  refine ⟨n + 1, v, M2, ?_, hq⟩
  simp only [a_run, hf, hk, he]
  rw [if_neg (by omega), if_pos (by trivial), if_neg (by omega)]
  exact h
theorem aw_i1 {x : Int32} {co : Jvm.ClassFile.Cond} {off : Int} {r : List Value} (hf : a_find cd pc = some (q, .ifCond co off, nx, ax, wp)) (kt : a_cf1 co x = true → aw w fr cd ax L r M Q) (kf : a_cf1 co x = false → aw w fr cd nx L r M Q) : aw w fr cd pc L (.int x :: r) M Q := by
  cases h : a_cf1 co x with
  | true => exact aw_e hf rfl (by simp only [a_eff, a_k1, h]; rfl) (kt h)
  | false => exact aw_e hf rfl (by simp only [a_eff, a_k1, h]; rfl) (kf h)
theorem aw_i2 {x y : Int32} {co : Jvm.ClassFile.Cond} {off : Int} {r : List Value} (hf : a_find cd pc = some (q, .if_icmp co off, nx, ax, wp)) (kt : a_cf2 co x y = true → aw w fr cd ax L r M Q) (kf : a_cf2 co x y = false → aw w fr cd nx L r M Q) : aw w fr cd pc L (.int y :: .int x :: r) M Q := by
  cases h : a_cf2 co x y with
  | true => exact aw_e hf rfl (by simp only [a_eff, a_k2, h]; rfl) (kt h)
  | false => exact aw_e hf rfl (by simp only [a_eff, a_k2, h]; rfl) (kf h)
theorem aw_i1t {x : Int32} {co : Jvm.ClassFile.Cond} {off : Int} {r : List Value} (hf : a_find cd pc = some (q, .ifCond co off, nx, ax, wp)) (h : a_cf1 co x = true) (k : aw w fr cd ax L r M Q) : aw w fr cd pc L (.int x :: r) M Q := aw_i1 hf (fun _ => k) (fun g => by rw [h] at g; cases g)
theorem aw_i1f {x : Int32} {co : Jvm.ClassFile.Cond} {off : Int} {r : List Value} (hf : a_find cd pc = some (q, .ifCond co off, nx, ax, wp)) (h : a_cf1 co x = false) (k : aw w fr cd nx L r M Q) : aw w fr cd pc L (.int x :: r) M Q := aw_i1 hf (fun g => by rw [h] at g; cases g) (fun _ => k)
theorem aw_i2t {x y : Int32} {co : Jvm.ClassFile.Cond} {off : Int} {r : List Value} (hf : a_find cd pc = some (q, .if_icmp co off, nx, ax, wp)) (h : a_cf2 co x y = true) (k : aw w fr cd ax L r M Q) : aw w fr cd pc L (.int y :: .int x :: r) M Q := aw_i2 hf (fun _ => k) (fun g => by rw [h] at g; cases g)
theorem aw_i2f {x y : Int32} {co : Jvm.ClassFile.Cond} {off : Int} {r : List Value} (hf : a_find cd pc = some (q, .if_icmp co off, nx, ax, wp)) (h : a_cf2 co x y = false) (k : aw w fr cd nx L r M Q) : aw w fr cd pc L (.int y :: .int x :: r) M Q := aw_i2 hf (fun g => by rw [h] at g; cases g) (fun _ => k)
theorem aw_q {P : Option Value → aM → Prop} (h : aw w fr cd pc L st M P) (hq : ∀ v M1, P v M1 → Q v M1) : aw w fr cd pc L st M Q := by
  obtain ⟨n, v, M1, h1, h2⟩ := h
  exact ⟨n, v, M1, h1, hq v M1 h2⟩
/-- a closed run, by reckoning -/
theorem aw_k {v : Option Value} (n : Nat) (h : ((a_run w n fr cd pc L st M).map fun q => q.1) = some v) : aw w fr cd pc L st M (fun u _ => u = v) := by
  cases h1 : a_run w n fr cd pc L st M with
  | none => rw [h1] at h; cases h
  | some q =>
    rw [h1] at h
    exact ⟨n, q.1, q.2, h1, Option.some.inj h⟩
end AWR
/-- a method's run: the method's number, its arguments -/
def am (w : aW) (fr id : Nat) (As : List Value) (M : aM) (Q : Option Value → aM → Prop) : Prop := ∃ mt, a_mth[id]? = some mt ∧ aw w fr mt.2.1 0 (As ++ List.replicate (mt.1.2.2.1 - As.length) a_dead) [] M Q
def am_chk (w : aW) (n fr id : Nat) (As : List Value) (M : aM) (v : Option Value) : Bool := match a_mth[id]? with
  | some mt => decide (((a_run w n fr mt.2.1 0 (As ++ List.replicate (mt.1.2.2.1 - As.length) a_dead) [] M).map fun q => q.1) = some v)
  | none => false
theorem am_k {w : aW} {fr id : Nat} {As : List Value} {M : aM} {v : Option Value} (n : Nat) (h : am_chk w n fr id As M v = true) : am w fr id As M (fun u _ => u = v) := by
  unfold am_chk at h
  split at h
  next mt hm => exact ⟨mt, hm, aw_k n (of_decide_eq_true h)⟩
  next => cases h
/-- leave to look at the class's cells alone, at the model's alone, at all -/
def wC : aW := (fun i => decide (i < a_mo), 0, fun _ => 0)
def wM : aW := (fun i => decide (a_mo ≤ i) && decide (i < a_ncw), 0, fun _ => 0)
def wA : Nat → Bool := fun _ => true
theorem p_leC (L : Nat) (xs : Nat → Int32) : p_le wC (wA, L, xs) := ⟨fun _ _ => rfl, by decide⟩
theorem p_leM (L : Nat) (xs : Nat → Int32) : p_le wM (wA, L, xs) := ⟨fun _ _ => rfl, by decide⟩
theorem am_C {fr id : Nat} {As : List Value} {M Mx : aM} {v : Option Value} {L : Nat} {xs : Nat → Int32} (h : am wC fr id As M (fun u _ => u = v)) (ha : ∀ i, i < a_mo → Mx i = M i) : am (wA, L, xs) fr id As Mx (fun u M1 => u = v ∧ ∀ i, a_mo ≤ i → M1 i = Mx i) := by
  obtain ⟨mt, hm, n, u, M1, h1, rfl⟩ := h
  obtain ⟨M2, g1, -, g3⟩ := p_run (p_leC L xs) n fr _ _ _ _ M u M1 Mx h1 (fun i hi => ha i (of_decide_eq_true hi))
  exact ⟨mt, hm, n, u, M2, g1, rfl, fun i hi => g3 i (decide_eq_false (by omega))⟩
theorem am_M {fr id : Nat} {As : List Value} {M Mx : aM} {v : Option Value} {L : Nat} {xs : Nat → Int32} (h : am wM fr id As M (fun u _ => u = v)) (ha : ∀ i, a_mo ≤ i → Mx i = M i) : am (wA, L, xs) fr id As Mx (fun u _ => u = v) := by
  obtain ⟨mt, hm, n, u, M1, h1, rfl⟩ := h
  obtain ⟨M2, g1, -, -⟩ := p_run (p_leM L xs) n fr _ _ _ _ M u M1 Mx h1 (fun i hi => ha i (by
    simp only [wM, Bool.and_eq_true, decide_eq_true_eq] at hi
    exact hi.1))
  exact ⟨mt, hm, n, u, M2, g1, rfl⟩
theorem aw_cm {w : aW} {fr : Nat} {cd : List aR} {pc q nx ax wp : Nat} {ins : Instr} {L st : List Value} {M : aM} {Q : Option Value → aM → Prop} {As st' : List Value} {k : Nat} {P : Option Value → aM → Prop} (hf : a_find cd pc = some (q, ins, nx, ax, wp)) (hk : a_kind ins ax = k + 1) (h2 : k < 2) (hc : am w fr ax As M P) (ha : ∀ mt, a_mth[ax]? = some mt → a_args (k + 1) mt st = some (As, st'))
    (kk : ∀ v M1, P v M1 → aw w (fr + 1) cd nx L (v.toList ++ st') M1 Q) : aw w (fr + 1) cd pc L st M Q := by
  obtain ⟨mt, hm, hc⟩ := hc
  exact aw_ck hf hk h2 hm (ha mt hm) hc kk
