/-! reckoning with bounds: loops, runs -/
/-- a loop: its place, the locals that change, the cells that change, the cells that stay, how the changed ones stand to each other, the one that rises or falls -/
abbrev xC : Type := Nat × List (Nat × Int × Int) × List (Nat × Nat × Int × Int) × xW × List (Nat × Nat × Int) × Nat × Bool
/-- a loop that goes on: it, the locals and the state as it was begun -/
abbrev xA : Type := xC × List xV × xS
def x_curL : List (Nat × Int × Int) → List xV → Option (List xV)
  | [], _ => some []
  | e :: t, L => match L[e.1]? with
    | none => none
    | some a => bif x_isI a then (match x_curL t L with
      | none => none
      | some u => some (a :: u)) else none
def x_curC (iv : xB) : List (Nat × Nat × Int × Int) → xS → List xV × xS
  | [], S => ([], S)
  | e :: t, S => let q := x_get iv S e.1 e.2.1
    let z := x_curC iv t q.2
    (q.1 :: z.1, z.2)
def x_bds (c : xC) : List (Int × Int) := c.2.1.map (fun e => e.2) ++ c.2.2.1.map (fun e => e.2.2)
def x_inb (S : xS) : List xV → List (Int × Int) → Bool
  | [], [] => true
  | a :: s, b :: t => x_isI a && x_ile b.1 (x_iv S.2.1 a).1 && x_ub 3 S a b.2 && x_inb S s t
  | _, _ => false
def x_rels (S : xS) (As : List xV) (rel : List (Nat × Nat × Int)) : Bool := rel.all (fun q => match As[q.1]?, As[q.2.1]? with
  | some a, some b => x_le 3 S a b q.2.2
  | _, _ => false)
/-- whole numbers for names -/
def x_is (r : List Int32) : List xV → List Int32 → Prop
  | [], [] => True
  | a :: s, x :: t => x_i r a x ∧ x_is r s t
  | _, _ => False
theorem x_is_ex {r r' : List Int32} (h : x_ex r r') : ∀ {A : List xV} {xs : List Int32}, x_is r A xs → x_is r' A xs
  | [], [], _ => trivial
  | _ :: _, _ :: _, g => ⟨x_i_ex h g.1, x_is_ex h g.2⟩
  | [], _ :: _, g => g.elim
  | _ :: _, [], g => g.elim
theorem x_is_get {r : List Int32} : ∀ {A : List xV} {xs : List Int32} {i : Nat} {a : xV}, x_is r A xs → A[i]? = some a → ∃ x, xs[i]? = some x ∧ x_i r a x
  | [], _, _, _, _, h => by simp at h
  | a :: s, x :: t, 0, b, h, hg => by
    simp at hg
    subst hg
    exact ⟨x, rfl, h.1⟩
  | a :: s, x :: t, i + 1, b, h, hg => by
    obtain ⟨u, h1, h2⟩ := x_is_get (i := i) h.2 (by simpa using hg)
    exact ⟨u, by simpa using h1, h2⟩
  | _ :: _, [], _, _, h, _ => h.elim
theorem x_is_len {r : List Int32} : ∀ {A : List xV} {xs : List Int32}, x_is r A xs → A.length = xs.length
  | [], [], _ => rfl
  | _ :: s, _ :: t, h => by simp [x_is_len h.2]
  | [], _ :: _, h => h.elim
  | _ :: _, [], h => h.elim
theorem x_is_app {r : List Int32} : ∀ {A B : List xV} {x y : List Int32}, x_is r A x → x_is r B y → x_is r (A ++ B) (x ++ y)
  | [], _, [], _, _, h => h
  | a :: s, _, v :: t, _, h, g => ⟨h.1, x_is_app h.2 g⟩
  | [], _, _ :: _, _, h, _ => h.elim
  | _ :: _, _, [], _, h, _ => h.elim
/-- numbers within bounds -/
def x_wb : List Int32 → List (Int × Int) → Prop
  | [], [] => True
  | x :: s, b :: t => b.1 ≤ x.toInt ∧ x.toInt ≤ b.2 ∧ x_wb s t
  | _, _ => False
theorem x_inb_ok {r : List Int32} {S : xS} {M : aM} (g : x_gs r S M) : ∀ {As : List xV} {bs : List (Int × Int)} {xs : List Int32}, x_is r As xs → x_inb S As bs = true → x_wb xs bs
  | [], [], [], _, _ => trivial
  | a :: s, b :: t, x :: u, h, hb => by
    unfold x_inb at hb
    simp only [Bool.and_eq_true] at hb
    obtain ⟨⟨⟨b1, b2⟩, b3⟩, b4⟩ := hb
    exact ⟨Int.le_trans (x_ile_ok.mp b2) (x_iv_ok g.2.1 h.1).1, x_ub_ok g 3 h.1 b3, x_inb_ok g h.2 b4⟩
  | [], _ :: _, _, _, hb => by cases hb
  | _ :: _, [], _, _, hb => by cases hb
  | [], [], _ :: _, h, _ => h.elim
  | _ :: _, _ :: _, [], h, _ => h.elim
def x_rok (xs : List Int32) (rel : List (Nat × Nat × Int)) : Prop := ∀ q ∈ rel, ∃ x y, xs[q.1]? = some x ∧ xs[q.2.1]? = some y ∧ x.toInt ≤ y.toInt + q.2.2
theorem x_rels_ok {r : List Int32} {S : xS} {M : aM} {As : List xV} {rel : List (Nat × Nat × Int)} {xs : List Int32} (g : x_gs r S M) (h : x_is r As xs) (hb : x_rels S As rel = true) : x_rok xs rel := by
  intro q hq
  have := List.all_eq_true.mp hb q hq
  split at this
  next a b ha hb2 =>
    obtain ⟨x, x1, x2⟩ := x_is_get h ha
    obtain ⟨y, y1, y2⟩ := x_is_get h hb2
    exact ⟨x, y, x1, y1, x_le_ok g y2 3 x2 this⟩
  next => cases this
def x_num : List (Int × Int) → Nat → List (Nat × Int × Int)
  | [], _ => []
  | b :: t, n => (n, b.1, b.2) :: x_num t (n + 1)
def x_chg : List (Nat × Int × Int) → Nat → List xV → List xV
  | [], _, L => L
  | e :: t, n, L => x_chg t (n + 1) (L.set e.1 (1, n, 0))
def x_hcn : List (Nat × Nat × Int × Int) → Nat → List (Nat × Nat × xV)
  | [], _ => []
  | e :: t, n => (e.1, e.2.1, (1, n, 0)) :: x_hcn t (n + 1)
def x_kept (c : xC) (S : xS) : List (Nat × Nat × xV) := S.2.2.2.filter (fun e => Nat.blt e.1 1000 && x_in c.2.2.2.1 e.1 e.2.1 && !(c.2.2.1.any (fun q => Nat.beq q.1 e.1 && Nat.beq q.2.1 e.2.1)))
/-- what the one that rises or falls was when the loop was begun -/
def x_ent (c : xC) (L : List xV) (S : xS) : Option xV := match x_curL c.2.1 L with
  | none => none
  | some A => (A ++ c.2.2.1.map (fun e => (x_cl S.2.2.2 e.1 e.2.1).getD (9, 0, 0)))[c.2.2.2.2.2.1]?
def x_mon (c : xC) (L : List xV) (S : xS) : List (Nat × Nat × Int) := match x_ent c L S with
  | some (1, n, _) => bif c.2.2.2.2.2.2 then [(n, S.1 + c.2.2.2.2.2.1, 0)] else [(S.1 + c.2.2.2.2.2.1, n, 0)]
  | _ => []
/-- the state at the loop's place, in each of its turns -/
def x_hdS (c : xC) (L : List xV) (S : xS) : xS := (S.1 + (x_bds c).length, x_num (x_bds c) S.1 ++ S.2.1, x_mon c L S ++ c.2.2.2.2.1.map (fun q => (S.1 + q.1, S.1 + q.2.1, q.2.2)) ++ S.2.2.1, x_hcn c.2.2.1 (S.1 + c.2.1.length) ++ x_kept c S)
def x_head (iv : xB) (c : xC) (L st : List xV) (S : xS) : Option xS := match st with
  | [] => (match x_curL c.2.1 L with
    | none => none
    | some A1 =>
      let z := x_curC iv c.2.2.1 S
      bif x_inb z.2 (A1 ++ z.1) (x_bds c) && x_rels z.2 (A1 ++ z.1) c.2.2.2.2.1 && Nat.blt c.2.2.2.2.2.1 (x_bds c).length && c.2.2.1.all (fun e => Nat.blt e.1 1000) then some z.2 else none)
  | _ => none
def x_same (ch : List (Nat × Int × Int)) : Nat → List xV → List xV → Bool
  | _, [], [] => true
  | i, a :: s, b :: t => (x_eqV a b || Nat.ble 4 b.1 || ch.any (fun e => Nat.beq e.1 i)) && x_same ch (i + 1) s t
  | _, _, _ => false
def x_back (iv : xB) (l : xA) (L st : List xV) (S : xS) : Bool := match st with
  | [] => (match x_curL l.1.2.1 L with
    | none => false
    | some A1 =>
      let z := x_curC iv l.1.2.2.1 S
      x_inb z.2 (A1 ++ z.1) (x_bds l.1) && x_rels z.2 (A1 ++ z.1) l.1.2.2.2.2.1 && x_same l.1.2.1 0 L l.2.1
        && (x_kept l.1 l.2.2).all (fun e => match x_cl z.2.2.2.2 e.1 e.2.1 with
          | some a => x_eqV a e.2.2
          | none => false)
        && (match (A1 ++ z.1)[l.1.2.2.2.2.2.1]? with
          | none => false
          | some a => bif l.1.2.2.2.2.2.2 then x_le 3 z.2 (1, l.2.2.1 + l.1.2.2.2.2.2.1, 0) a (-1) else x_le 3 z.2 a (1, l.2.2.1 + l.1.2.2.2.2.2.1, 0) (-1)))
  | _ => false
/-- the numbers of the changing locals and cells -/
def x_atL (V : List Value) : List (Nat × Int × Int) → List Int32 → Prop
  | [], [] => True
  | e :: t, x :: s => V[e.1]? = some (.int x) ∧ x_atL V t s
  | _, _ => False
def x_atC (M : aM) (hc : List (Nat × Nat × Int × Int)) : List Int32 := hc.map (fun e => M e.1 e.2.1)
theorem x_curL_ok {r : List Int32} {L : List xV} {V : List Value} (hL : x_vs r L V) : ∀ {ch : List (Nat × Int × Int)} {A : List xV}, x_curL ch L = some A → ∃ xs, x_atL V ch xs ∧ x_is r A xs
  | [], A, h => by
    cases h
    exact ⟨[], trivial, trivial⟩
  | e :: t, A, h => by
    unfold x_curL at h
    split at h
    next => cases h
    next a ha =>
      cases hb : x_isI a with
      | false => rw [hb] at h; cases h
      | true =>
        rw [hb] at h
        simp only [cond_true] at h
        split at h
        next => cases h
        next u hu =>
          cases h
          obtain ⟨xs, h1, h2⟩ := x_curL_ok hL hu
          obtain ⟨v, v1, v2⟩ := x_vs_get hL ha
          obtain ⟨x, rfl, x2⟩ := x_v_i v2 hb
          exact ⟨x :: xs, ⟨v1, h1⟩, x2, h2⟩
theorem x_curC_ok {iv : xB} {M : aM} (j : x_J iv M) : ∀ {hc : List (Nat × Nat × Int × Int)} {r : List Int32} {S : xS}, x_gs r S M → ∃ r', x_ex r r' ∧ x_gs r' (x_curC iv hc S).2 M ∧ x_is r' (x_curC iv hc S).1 (x_atC M hc)
  | [], r, S, g => ⟨r, x_ex_rf r, g, trivial⟩
  | e :: t, r, S, g => by
    obtain ⟨r1, k1, k2, k3⟩ := x_get_ok e.1 e.2.1 g j
    obtain ⟨r2, l1, l2, l3⟩ := x_curC_ok j (hc := t) k2
    exact ⟨r2, x_ex_tr k1 l1, l2, x_i_ex l1 k3, l3⟩
theorem x_num_ok {rb : List Int32} {tl : List Int32} : ∀ {bs : List (Int × Int)} {n : Nat} {xs pre : List Int32}, pre.length = n → x_wb xs bs → x_giv (pre ++ xs) (x_num bs n)
  | [], _, _, _, _, _ => fun e he => by cases he
  | b :: t, n, x :: s, pre, hp, h => by
    intro e he
    rcases List.mem_cons.mp he with rfl | he
    · exact ⟨x, by simp [← hp], h.1, h.2.1⟩
    · have := x_num_ok (rb := rb) (tl := tl) (bs := t) (n := n + 1) (xs := s) (pre := pre ++ [x]) (by simp [hp]) h.2.2 e he
      simpa using this
  | _ :: _, _, [], _, _, h => h.elim
theorem x_vs_st {r : List Int32} : ∀ {A : List xV} {V : List Value} {i : Nat} {a : xV} {v : Value}, x_vs r A V → V[i]? = some v → x_v r a v → x_vs r (A.set i a) V
  | [], [], _, _, _, _, _, _ => trivial
  | a :: s, v :: t, 0, b, u, h, hv, hg => by
    simp at hv
    subst hv
    exact ⟨hg, h.2⟩
  | a :: s, v :: t, i + 1, b, u, h, hv, hg => ⟨h.1, x_vs_st (i := i) h.2 (by simpa using hv) hg⟩
  | [], _ :: _, _, _, _, h, _, _ => h.elim
  | _ :: _, [], _, _, _, h, _, _ => h.elim
/-- the locals but for those that change -/
def x_vsx (r : List Int32) (ch : List (Nat × Int × Int)) : Nat → List xV → List Value → Prop
  | _, [], [] => True
  | i, a :: s, v :: t => (x_v r a v ∨ ch.any (fun e => Nat.beq e.1 i) = true) ∧ x_vsx r ch (i + 1) s t
  | _, _, _ => False
theorem x_vsx_len {r : List Int32} {ch : List (Nat × Int × Int)} : ∀ {i : Nat} {A : List xV} {V : List Value}, x_vsx r ch i A V → A.length = V.length
  | _, [], [], _ => rfl
  | _, a :: s, v :: t, h => by simp [x_vsx_len h.2]
  | _, [], _ :: _, h => h.elim
  | _, _ :: _, [], h => h.elim
theorem x_vsx_get {r : List Int32} {ch : List (Nat × Int × Int)} : ∀ {i : Nat} {A : List xV} {V : List Value} {k : Nat} {a : xV} {v : Value}, x_vsx r ch i A V → A[k]? = some a → V[k]? = some v → x_v r a v ∨ ch.any (fun e => Nat.beq e.1 (i + k)) = true
  | _, [], _, _, _, _, _, h, _ => by simp at h
  | i, a :: s, v :: t, 0, b, u, h, hg, hv => by
    simp at hg hv
    subst hg
    subst hv
    exact h.1
  | i, a :: s, v :: t, k + 1, b, u, h, hg, hv => by
    have := x_vsx_get (k := k) h.2 (by simpa using hg) (by simpa using hv)
    rwa [show i + 1 + k = i + (k + 1) by omega] at this
  | _, _ :: _, [], _, _, _, h, _, _ => h.elim
theorem x_vs_of {r : List Int32} : ∀ {A : List xV} {V : List Value}, A.length = V.length → (∀ (k : Nat) (a : xV) (v : Value), A[k]? = some a → V[k]? = some v → x_v r a v) → x_vs r A V
  | [], [], _, _ => trivial
  | a :: s, v :: t, hl, h => ⟨h 0 a v rfl rfl, x_vs_of (by simpa using hl) fun k b u hb hu => h (k + 1) b u (by simpa using hb) (by simpa using hu)⟩
  | [], _ :: _, hl, _ => by simp at hl
  | _ :: _, [], hl, _ => by simp at hl
theorem x_chg_len : ∀ {ch : List (Nat × Int × Int)} {n : Nat} {L : List xV}, (x_chg ch n L).length = L.length
  | [], _, _ => rfl
  | e :: t, n, L => by
    unfold x_chg
    rw [x_chg_len]
    simp
theorem x_chg_get {r : List Int32} {V : List Value} : ∀ {ch : List (Nat × Int × Int)} {n : Nat} {L : List xV} {xs pre : List Int32}, pre.length = n → r = pre ++ xs → x_atL V ch xs → ∀ (k : Nat) (a : xV) (v : Value), (x_chg ch n L)[k]? = some a → V[k]? = some v → (x_v r a v) ∨ (L[k]? = some a ∧ ch.any (fun e => Nat.beq e.1 k) = false)
  | [], n, L, xs, pre, hp, hr, hat, k, a, v, ha, hv => Or.inr ⟨ha, rfl⟩
  | e :: t, n, L, x :: s, pre, hp, hr, hat, k, a, v, ha, hv => by
    unfold x_chg at ha
    rcases x_chg_get (r := r) (pre := pre ++ [x]) (by simp [hp]) (by simp [hr]) hat.2 k a v ha hv with h | ⟨h1, h2⟩
    · exact Or.inl h
    · by_cases hk : e.1 = k
      · subst hk
        rw [hat.1] at hv
        cases hv
        by_cases hlt : e.1 < L.length
        · rw [List.getElem?_set_self hlt] at h1
          cases h1
          exact Or.inl ⟨x, by rw [hr, ← hp]; simp, rfl⟩
        · rw [List.getElem?_eq_none (by simp; omega)] at h1
          cases h1
      · rw [List.getElem?_set_ne hk] at h1
        refine Or.inr ⟨h1, ?_⟩
        simp only [List.any_cons, h2, Bool.or_false]
        cases hb : Nat.beq e.1 k with
        | false => rfl
        | true => exact absurd (Nat.eq_of_beq_eq_true hb) hk
  | _ :: _, _, _, [], _, _, _, hat, _, _, _, _, _ => hat.elim
theorem x_hcn_ok {M : aM} {r : List Int32} : ∀ {hc : List (Nat × Nat × Int × Int)} {n : Nat} {pre : List Int32}, (∀ e ∈ hc, e.1 < 1000) → pre.length = n → r = pre ++ x_atC M hc → x_gce r (x_hcn hc n) M
  | [], _, _, _, _, _ => fun e he => by cases he
  | q :: t, n, pre, hl, hp, hr => by
    intro e he
    rcases List.mem_cons.mp he with rfl | he
    · refine Or.inl ⟨hl q (List.mem_cons_self ..), ?_⟩
      show r[n]? = some _
      rw [hr, ← hp]
      simp [x_atC]
    · exact x_hcn_ok (M := M) (hc := t) (n := n + 1) (pre := pre ++ [M q.1 q.2.1]) (fun e he => hl e (List.mem_cons_of_mem _ he)) (by simp [hp]) (by simp [hr, x_atC]) e he
/-- the one that rises or falls, beside what it was -/
def x_mok (l : xA) (rb xs : List Int32) : Prop := ∀ n c, x_ent l.1 l.2.1 l.2.2 = some (1, n, c) → ∃ y x, rb[n]? = some y ∧ xs[l.1.2.2.2.2.2.1]? = some x ∧ (bif l.1.2.2.2.2.2.2 then y.toInt ≤ x.toInt else x.toInt ≤ y.toInt)
/-- what stands at the loop's place: the names ahead of it rb, the numbers that change, the run's locals and cells -/
def x_hc (iv : xB) (wr : xW) (M0 : aM) (l : xA) (rb xs : List Int32) (V : List Value) (M : aM) : Prop :=
  (∃ ys, xs = ys ++ x_atC M l.1.2.2.1 ∧ x_atL V l.1.2.1 ys) ∧ x_mok l rb xs ∧ x_wb xs (x_bds l.1) ∧ x_rok xs l.1.2.2.2.2.1 ∧ x_vsx rb l.1.2.1 0 l.2.1 V ∧ x_gce rb (x_kept l.1 l.2.2) M ∧ x_G iv wr M0 M
theorem x_wb_len : ∀ {xs : List Int32} {bs : List (Int × Int)}, x_wb xs bs → xs.length = bs.length
  | [], [], _ => rfl
  | _ :: s, _ :: t, h => by simp [x_wb_len h.2.2]
  | [], _ :: _, h => h.elim
  | _ :: _, [], h => h.elim
theorem x_atL_len {V : List Value} : ∀ {ch : List (Nat × Int × Int)} {xs : List Int32}, x_atL V ch xs → xs.length = ch.length
  | [], [], _ => rfl
  | _ :: s, _ :: t, h => by simp [x_atL_len h.2]
  | [], _ :: _, h => h.elim
  | _ :: _, [], h => h.elim
theorem x_hd_ok {iv : xB} {wr : xW} {M0 M : aM} {l : xA} {rb xs : List Int32} {V : List Value} (hlt : ∀ e ∈ l.1.2.2.1, e.1 < 1000) (hb : rb.length = l.2.2.1) (g1 : x_giv rb l.2.2.2.1) (g2 : x_gdf rb l.2.2.2.2.1) (h : x_hc iv wr M0 l rb xs V M) : x_vs (rb ++ xs) (x_chg l.1.2.1 l.2.2.1 l.2.1) V ∧ x_gs (rb ++ xs) (x_hdS l.1 l.2.1 l.2.2) M := by
  obtain ⟨⟨ys, rfl, h1⟩, h0, h2, h3, h4, h5, h6⟩ := h
  have ex : x_ex rb (rb ++ (ys ++ x_atC M l.1.2.2.1)) := ⟨_, rfl⟩
  constructor
  · refine x_vs_of (by rw [x_chg_len, x_vsx_len h4]) fun k a v ha hv => ?_
    rcases x_chg_get (r := rb ++ ys) (V := V) (xs := ys) (pre := rb) hb rfl h1 k a v ha hv with t | ⟨t1, t2⟩
    · exact x_v_ex ⟨x_atC M l.1.2.2.1, by simp⟩ t
    · rcases x_vsx_get h4 t1 hv with t | t
      · exact x_v_ex ex t
      · rw [Nat.zero_add, t2] at t
        cases t
  · refine ⟨?_, ?_, ?_, ?_⟩
    · show (rb ++ (ys ++ x_atC M l.1.2.2.1)).length = l.2.2.1 + (x_bds l.1).length
      rw [← x_wb_len h2, ← hb]
      simp
    · intro e he
      rcases List.mem_append.mp he with he | he
      · exact x_num_ok (rb := rb) (tl := []) hb h2 e he
      · exact x_giv_ex ex g1 e he
    · intro e he
      rcases List.mem_append.mp he with he | he
      rcases List.mem_append.mp he with he | he
      · unfold x_mon at he
        split at he
        next n c hent =>
          obtain ⟨y, x, y1, x1, hyx⟩ := h0 n c hent
          have y2 : (rb ++ (ys ++ x_atC M l.1.2.2.1))[n]? = some y := x_ex_at ex y1
          have x2 : (rb ++ (ys ++ x_atC M l.1.2.2.1))[l.2.2.1 + l.1.2.2.2.2.2.1]? = some x := by
            rw [← hb, List.getElem?_append_right (by omega), Nat.add_sub_cancel_left]
            exact x1
          cases hup : l.1.2.2.2.2.2.2 with
          | true =>
            rw [hup] at he hyx
            simp only [cond_true, List.mem_singleton] at he hyx
            subst he
            exact ⟨y, x, y2, x2, by simp only; omega⟩
          | false =>
            rw [hup] at he hyx
            simp only [cond_false, List.mem_singleton] at he hyx
            subst he
            exact ⟨x, y, x2, y2, by simp only; omega⟩
        next => cases he
      · obtain ⟨q, hq, rfl⟩ := List.mem_map.mp he
        obtain ⟨x, y, x1, x2, x3⟩ := h3 q hq
        refine ⟨x, y, ?_, ?_, x3⟩
        · show (rb ++ _)[l.2.2.1 + q.1]? = some x
          rw [← hb, List.getElem?_append_right (by omega), Nat.add_sub_cancel_left]
          exact x1
        · show (rb ++ _)[l.2.2.1 + q.2.1]? = some y
          rw [← hb, List.getElem?_append_right (by omega), Nat.add_sub_cancel_left]
          exact x2
      · exact x_gdf_ex ex g2 e he
    · intro e he
      rcases List.mem_append.mp he with he | he
      · exact x_hcn_ok (M := M) (r := rb ++ (ys ++ x_atC M l.1.2.2.1)) (hc := l.1.2.2.1) (n := l.2.2.1 + l.1.2.1.length) (pre := rb ++ ys) hlt (by simp [hb, x_atL_len h1]) (by simp) e he
      · exact x_gce_ex ex h5 e he
/-- what a loop that goes on gives -/
def x_hyp (iv : xB) (wr : xW) (M0 : aM) (w : aW) (fr : Nat) (cd : List aR) (Q : Option Value → aM → Prop) (l : xA) (r : List Int32) : Prop := ∃ rb old, rb.length = l.2.2.1 ∧ x_ex rb r ∧ (∃ V0, x_vs rb l.2.1 V0) ∧ (∀ e ∈ x_kept l.1 l.2.2, ∃ x, x_i rb e.2.2 x) ∧ r[l.2.2.1 + l.1.2.2.2.2.2.1]? = some old ∧ (∀ n c, x_ent l.1 l.2.1 l.2.2 = some (1, n, c) → ∃ y, rb[n]? = some y ∧ (bif l.1.2.2.2.2.2.2 then y.toInt ≤ old.toInt else old.toInt ≤ y.toInt)) ∧
  ∀ V M xs, x_hc iv wr M0 l rb xs V M → (∃ new, xs[l.1.2.2.2.2.2.1]? = some new ∧ (bif l.1.2.2.2.2.2.2 then old.toInt < new.toInt else new.toInt < old.toInt)) → aw w fr cd l.1.1 V [] M Q
theorem x_hyp_ex {iv : xB} {wr : xW} {M0 : aM} {w : aW} {fr : Nat} {cd : List aR} {Q : Option Value → aM → Prop} {l : xA} {r r' : List Int32} (h : x_ex r r') (g : x_hyp iv wr M0 w fr cd Q l r) : x_hyp iv wr M0 w fr cd Q l r' := by
  obtain ⟨rb, old, h1, h2, h3, h4, h5, h7, h6⟩ := g
  exact ⟨rb, old, h1, x_ex_tr h2 h, h3, h4, x_ex_at h h5, h7, h6⟩
theorem x_v_dn {rb r : List Int32} (h : x_ex rb r) {a : xV} {v v0 : Value} (g0 : x_v rb a v0) (g : x_v r a v) : x_v rb a v := by
  unfold x_v at g0 g ⊢
  split at g
  next => exact g
  next =>
    obtain ⟨x0, a1, a2⟩ := g0
    obtain ⟨x, b1, b2⟩ := g
    exact ⟨x0, a1, by
      rw [x_ex_at h a1] at b1
      cases b1
      exact b2⟩
  next => exact g
  next => exact g
  next => trivial
theorem x_v_dead {r : List Int32} {a : xV} {v : Value} (h : Nat.ble 4 a.1 = true) : x_v r a v := by
  have h := Nat.le_of_ble_eq_true h
  obtain ⟨t, n, c⟩ := a
  simp only at h
  unfold x_v
  split
  next e => simp only [Prod.mk.injEq] at e; omega
  next e => simp only [Prod.mk.injEq] at e; omega
  next e => simp only [Prod.mk.injEq] at e; omega
  next e => simp only [Prod.mk.injEq] at e; omega
  next => trivial
def x_kl : List Nat → List xV → List xV
  | [], L => L
  | i :: t, L => x_kl t (L.set i (9, 0, 0))
theorem x_kl1 {r : List Int32} : ∀ {A : List xV} {V : List Value} {i : Nat}, x_vs r A V → x_vs r (A.set i (9, 0, 0)) V
  | [], [], _, _ => trivial
  | a :: s, v :: t, 0, h => ⟨trivial, h.2⟩
  | a :: s, v :: t, i + 1, h => ⟨h.1, x_kl1 (i := i) h.2⟩
  | [], _ :: _, _, h => h.elim
  | _ :: _, [], _, h => h.elim
theorem x_kl_ok {r : List Int32} : ∀ {l : List Nat} {A : List xV} {V : List Value}, x_vs r A V → x_vs r (x_kl l A) V
  | [], _, _, h => h
  | _ :: t, _, _, h => x_kl_ok (l := t) (x_kl1 h)
theorem x_i_dn {rb r : List Int32} (h : x_ex rb r) {a : xV} {x x0 : Int32} (g0 : x_i rb a x0) (g : x_i r a x) : x_i rb a x := by
  have := x_i_un (x_i_ex h g0) g
  rw [← this]
  exact g0
theorem x_same_ok {rb r : List Int32} (hx : x_ex rb r) {ch : List (Nat × Int × Int)} : ∀ {i : Nat} {L L0 : List xV} {V V0 : List Value}, x_same ch i L L0 = true → x_vs r L V → x_vs rb L0 V0 → x_vsx rb ch i L0 V
  | _, [], [], [], _, _, _, _ => trivial
  | i, a :: s, b :: t, v :: u, w :: z, h, h1, h2 => by
    unfold x_same at h
    rw [Bool.and_eq_true, Bool.or_eq_true, Bool.or_eq_true] at h
    refine ⟨?_, x_same_ok hx h.2 h1.2 h2.2⟩
    rcases h.1 with (e | e) | e
    · have := x_eqV_ok e
      subst this
      exact Or.inl (x_v_dn hx h2.1 h1.1)
    · exact Or.inl (x_v_dead e)
    · exact Or.inr e
  | _, [], _ :: _, _, _, h, _, _ => by cases h
  | _, _ :: _, [], _, _, h, _, _ => by cases h
  | _, [], [], _ :: _, _, _, h, _ => h.elim
  | _, _ :: _, _ :: _, [], _, _, h, _ => h.elim
  | _, _ :: _, _ :: _, _ :: _, [], _, _, h => h.elim
theorem x_back_ok {iv : xB} {wr : xW} {M0 M : aM} {w : aW} {fr : Nat} {cd : List aR} {Q : Option Value → aM → Prop} {l : xA} {r : List Int32} {L st : List xV} {V T : List Value} {S : xS} (hL : x_vs r L V) (hs : x_vs r st T) (g : x_gs r S M) (G : x_G iv wr M0 M) (hy : x_hyp iv wr M0 w fr cd Q l r) (h : x_back iv l L st S = true) : aw w fr cd l.1.1 V T M Q := by
  unfold x_back at h
  split at h
  next =>
    match T, hs with
    | [], _ =>
    split at h
    next => cases h
    next A1 hA =>
      simp only [Bool.and_eq_true] at h
      obtain ⟨⟨⟨⟨c1, c2⟩, c3⟩, c4⟩, c5⟩ := h
      obtain ⟨ys, y1, y2⟩ := x_curL_ok hL hA
      obtain ⟨r2, k1, k2, k3⟩ := x_curC_ok (hc := l.1.2.2.1) G.1 g
      obtain ⟨rb, old, h1, h2, ⟨V0, h3⟩, h4, h5, h7, h6⟩ := x_hyp_ex k1 hy
      have hi := x_is_app (x_is_ex k1 y2) k3
      have hnew : ∃ new, (ys ++ x_atC M l.1.2.2.1)[l.1.2.2.2.2.2.1]? = some new ∧ (bif l.1.2.2.2.2.2.2 then old.toInt < new.toInt else new.toInt < old.toInt) := by
        split at c5
        next => cases c5
        next a ha =>
          obtain ⟨new, n1, n2⟩ := x_is_get hi ha
          refine ⟨new, n1, ?_⟩
          have ho : x_i r2 (1, l.2.2.1 + l.1.2.2.2.2.2.1, 0) old := h5
          cases hup : l.1.2.2.2.2.2.2 with
          | true =>
            rw [hup] at c5
            simp only [cond_true] at c5 ⊢
            have := x_le_ok k2 n2 3 ho c5
            omega
          | false =>
            rw [hup] at c5
            simp only [cond_false] at c5 ⊢
            have := x_le_ok k2 ho 3 n2 c5
            omega
      have hmok : x_mok l rb (ys ++ x_atC M l.1.2.2.1) := by
        intro n c he
        obtain ⟨y, e1, e2⟩ := h7 n c he
        obtain ⟨new, n1, n2⟩ := hnew
        refine ⟨y, new, e1, n1, ?_⟩
        cases hup : l.1.2.2.2.2.2.2 with
        | true =>
          rw [hup] at e2 n2
          simp only [cond_true] at e2 n2 ⊢
          omega
        | false =>
          rw [hup] at e2 n2
          simp only [cond_false] at e2 n2 ⊢
          omega
      refine h6 V M (ys ++ x_atC M l.1.2.2.1) ⟨⟨ys, rfl, y1⟩, hmok, x_inb_ok k2 hi c1, x_rels_ok k2 hi c2, x_same_ok h2 c3 (x_vs_ex k1 hL) h3, ?_, G⟩ hnew
      intro e he
      have hlt : e.1 < 1000 := by
        have := (List.mem_filter.mp he).2
        simp only [Bool.and_eq_true] at this
        have : e.1 + 1 ≤ 1000 := Nat.le_of_ble_eq_true this.1.1
        omega
      have := List.all_eq_true.mp c4 e he
      split at this
      next a ha =>
        have e1 := x_eqV_ok this
        subst e1
        obtain ⟨x0, hx0⟩ := h4 e he
        exact Or.inl ⟨hlt, x_i_dn h2 hx0 (x_cl_ok hlt k2.2.2.2 ha)⟩
      next => cases this
  next => cases h
theorem x_vsx_of {r : List Int32} {ch : List (Nat × Int × Int)} : ∀ {i : Nat} {A : List xV} {V : List Value}, x_vs r A V → x_vsx r ch i A V
  | _, [], [], _ => trivial
  | i, a :: s, v :: t, h => ⟨Or.inl h.1, x_vsx_of h.2⟩
  | _, [], _ :: _, h => h.elim
  | _, _ :: _, [], h => h.elim
/-- a loop is gone through: if each turn, begun with what its earlier turns give, comes to Q, so does the whole -/
theorem x_loop {iv : xB} {wr : xW} {M0 : aM} {w : aW} {fr : Nat} {cd : List aR} {Q : Option Value → aM → Prop} {l : xA} {rb : List Int32} (hlt : ∀ e ∈ l.1.2.2.1, e.1 < 1000) (hb : rb.length = l.2.2.1) (g1 : x_giv rb l.2.2.2.1) (g2 : x_gdf rb l.2.2.2.2.1) (hV0 : ∃ V0, x_vs rb l.2.1 V0) (hk0 : ∀ e ∈ x_kept l.1 l.2.2, ∃ x, x_i rb e.2.2 x) (hrk : l.1.2.2.2.2.2.1 < (x_bds l.1).length)
    (body : ∀ r V M, x_ex rb r → x_vs r (x_chg l.1.2.1 l.2.2.1 l.2.1) V → x_gs r (x_hdS l.1 l.2.1 l.2.2) M → x_G iv wr M0 M → x_hyp iv wr M0 w fr cd Q l r → aw w fr cd l.1.1 V [] M Q) :
    ∀ (m : Nat) (V : List Value) (M : aM) (xs : List Int32), x_hc iv wr M0 l rb xs V M → (∀ x, xs[l.1.2.2.2.2.2.1]? = some x → (bif l.1.2.2.2.2.2.2 then (x_mx - x.toInt).toNat else (x.toInt - x_mn).toNat) < m) → aw w fr cd l.1.1 V [] M Q := by
  intro m
  induction m with
  | zero =>
    intro V M xs h hm
    obtain ⟨x, hx⟩ : ∃ x, xs[l.1.2.2.2.2.2.1]? = some x := ⟨_, List.getElem?_eq_getElem (by rw [x_wb_len h.2.2.1]; exact hrk)⟩
    exact absurd (hm x hx) (by omega)
  | succ m ih =>
    intro V M xs h hm
    obtain ⟨x, hx⟩ : ∃ x, xs[l.1.2.2.2.2.2.1]? = some x := ⟨_, List.getElem?_eq_getElem (by rw [x_wb_len h.2.2.1]; exact hrk)⟩
    obtain ⟨k1, k2⟩ := x_hd_ok hlt hb g1 g2 h
    have hent : ∀ n c, x_ent l.1 l.2.1 l.2.2 = some (1, n, c) → ∃ y, rb[n]? = some y ∧ (bif l.1.2.2.2.2.2.2 then y.toInt ≤ x.toInt else x.toInt ≤ y.toInt) := by
      intro n c he
      obtain ⟨y, x', e1, e2, e3⟩ := h.2.1 n c he
      rw [hx] at e2
      cases e2
      exact ⟨y, e1, e3⟩
    refine body (rb ++ xs) V M ⟨xs, rfl⟩ k1 k2 h.2.2.2.2.2.2 ⟨rb, x, hb, ⟨xs, rfl⟩, hV0, hk0, ?_, hent, ?_⟩
    · rw [← hb, List.getElem?_append_right (by omega), Nat.add_sub_cancel_left]
      exact hx
    · rintro V2 M2 xs2 h2 ⟨new, n1, n2⟩
      refine ih V2 M2 xs2 h2 fun y hy => ?_
      rw [n1] at hy
      cases hy
      have hmx := hm x hx
      have b1 := x_le_mx new
      have b2 := x_mn_le new
      have b3 := x_le_mx x
      have b4 := x_mn_le x
      cases hup : l.1.2.2.2.2.2.2 with
      | true =>
        rw [hup] at n2 hmx
        simp only [cond_true] at n2 hmx ⊢
        omega
      | false =>
        rw [hup] at n2 hmx
        simp only [cond_false] at n2 hmx ⊢
        omega
theorem x_enter {iv : xB} {wr : xW} {M0 M : aM} {w : aW} {fr : Nat} {cd : List aR} {Q : Option Value → aM → Prop} {c : xC} {r : List Int32} {L st : List xV} {V T : List Value} {S S1 : xS} (hL : x_vs r L V) (hs : x_vs r st T) (g : x_gs r S M) (G : x_G iv wr M0 M) (h : x_head iv c L st S = some S1)
    (body : ∀ r2 V2 M2, x_ex r r2 → x_vs r2 (x_chg c.2.1 S1.1 L) V2 → x_gs r2 (x_hdS c L S1) M2 → x_G iv wr M0 M2 → x_hyp iv wr M0 w fr cd Q (c, L, S1) r2 → aw w fr cd c.1 V2 [] M2 Q) : aw w fr cd c.1 V T M Q := by
  unfold x_head at h
  split at h
  next =>
    match T, hs with
    | [], _ =>
    split at h
    next => cases h
    next A1 hA =>
      simp only at h
      cases hb : (x_inb (x_curC iv c.2.2.1 S).2 (A1 ++ (x_curC iv c.2.2.1 S).1) (x_bds c) && x_rels (x_curC iv c.2.2.1 S).2 (A1 ++ (x_curC iv c.2.2.1 S).1) c.2.2.2.2.1 && Nat.blt c.2.2.2.2.2.1 (x_bds c).length && c.2.2.1.all (fun e => Nat.blt e.1 1000)) with
      | false => rw [hb] at h; cases h
      | true =>
        rw [hb] at h
        simp only [cond_true, Option.some.injEq] at h
        simp only [Bool.and_eq_true] at hb
        obtain ⟨⟨⟨b1, b2⟩, b3⟩, b4⟩ := hb
        have hlt : ∀ e ∈ c.2.2.1, e.1 < 1000 := fun e he => by
          have : e.1 + 1 ≤ 1000 := Nat.le_of_ble_eq_true (List.all_eq_true.mp b4 e he)
          omega
        have b3 : c.2.2.2.2.2.1 + 1 ≤ (x_bds c).length := Nat.le_of_ble_eq_true b3
        obtain ⟨ys, y1, y2⟩ := x_curL_ok hL hA
        obtain ⟨rb, k1, k2, k3⟩ := x_curC_ok (hc := c.2.2.1) G.1 g
        have hi := x_is_app (x_is_ex k1 y2) k3
        subst h
        have hk : x_gce rb (x_kept c (x_curC iv c.2.2.1 S).2) M := fun e he => k2.2.2.2 e (List.mem_filter.mp he).1
        have hk0 : ∀ e ∈ x_kept c (x_curC iv c.2.2.1 S).2, ∃ x, x_i rb e.2.2 x := fun e he => by
          rcases hk e he with ⟨-, g1⟩ | ⟨-, y, -, g1⟩
          · exact ⟨_, g1⟩
          · exact ⟨_, g1⟩
        have hmok : x_mok (c, L, (x_curC iv c.2.2.1 S).2) rb (ys ++ x_atC M c.2.2.1) := by
          intro n c' he
          have he : x_ent c L (x_curC iv c.2.2.1 S).2 = some (1, n, c') := he
          unfold x_ent at he
          rw [hA] at he
          simp only at he
          have hlen := x_is_len y2
          have hv : ∃ x, (ys ++ x_atC M c.2.2.1)[c.2.2.2.2.2.1]? = some x ∧ rb[n]? = some x := by
            by_cases hlt2 : c.2.2.2.2.2.1 < A1.length
            · rw [List.getElem?_append_left hlt2] at he
              obtain ⟨x, x1, x2⟩ := x_is_get (x_is_ex k1 y2) he
              exact ⟨x, by rw [List.getElem?_append_left (by omega)]; exact x1, x2⟩
            · rw [List.getElem?_append_right (by omega), List.getElem?_map] at he
              rw [List.getElem?_append_right (by omega), ← hlen]
              unfold x_atC
              rw [List.getElem?_map]
              cases hq : c.2.2.1[c.2.2.2.2.2.1 - A1.length]? with
              | none => rw [hq] at he; cases he
              | some e =>
                rw [hq] at he
                simp only [Option.map_some, Option.some.injEq] at he
                refine ⟨M e.1 e.2.1, rfl, ?_⟩
                cases hcl : x_cl (x_curC iv c.2.2.1 S).2.2.2.2 e.1 e.2.1 with
                | none =>
                  rw [hcl] at he
                  simp at he
                | some a =>
                  rw [hcl] at he
                  simp only [Option.getD_some] at he
                  subst he
                  exact x_cl_ok (hlt e (List.mem_of_getElem? hq)) k2.2.2.2 hcl
          obtain ⟨x, x1, x2⟩ := hv
          refine ⟨x, x, x2, x1, ?_⟩
          cases c.2.2.2.2.2.2
          · exact Int.le_refl _
          · exact Int.le_refl _
        exact x_loop (l := (c, L, (x_curC iv c.2.2.1 S).2)) (rb := rb) hlt k2.1 k2.2.1 k2.2.2.1 ⟨V, x_vs_ex k1 hL⟩ hk0 (by show c.2.2.2.2.2.1 < (x_bds c).length; omega) (fun r2 V2 M2 e1 => body r2 V2 M2 (x_ex_tr k1 e1)) (2 ^ 32) V M (ys ++ x_atC M c.2.2.1) ⟨⟨ys, rfl, y1⟩, hmok, x_inb_ok k2 hi b1, x_rels_ok k2 hi b2, x_vsx_of (x_vs_ex k1 hL), hk, G⟩ fun x _ => by
          have b1 := x_le_mx x
          have b2 := x_mn_le x
          rw [x_mx_e] at b1 ⊢
          rw [x_mn_e] at b2 ⊢
          cases c.2.2.2.2.2.2
          · simp only [cond_false]
            omega
          · simp only [cond_true]
            omega
  next => cases h
/-! runs -/
/-- of a method: its loops, where a number is taken apart, what is dead at a loop's place -/
abbrev xK : Type := List xC × List (Nat × Nat) × List (Nat × List Nat) × List (Nat × Nat × Int)
abbrev xR : Type := Nat → xK → List aR → Nat → List xV → List xV → xS → List xA → Option (List xO)
def x_kof (ks : List (Nat × xK)) (id : Nat) : xK := match ks.find? (fun e => Nat.beq e.1 id) with
  | some e => e.2
  | none => ([], [], [], [])
def x_kls (l : List (Nat × List Nat)) (pc : Nat) : List Nat := match l.find? (fun q => Nat.beq q.1 pc) with
  | some q => q.2
  | none => []
def x_step (iv : xB) (tab : List xU) (ks : List (Nat × xK)) (wr : xW) (rec : xR) (d : Nat) (ck : xK) (cd : List aR) (pc : Nat) (L st : List xV) (S : xS) (act : List xA) : Option (List xO) := match a_find cd pc with
  | none => none
  | some (_, ins, nx, ax, _) => match a_kind ins ax with
    | 0 => (match x_eff iv wr ins pc nx ax L st S with
      | none => none
      | some l => x_all (fun q : xQ => rec d ck cd q.1 q.2.1 q.2.2.1 q.2.2.2 act) l)
    | k + 1 => if k < 2 then (match a_mth[ax]? with
        | none => none
        | some mt => (match x_args (k + 1) mt st with
          | none => none
          | some (As, s) => (match d with
            | 0 => none
            | d' + 1 => (match x_sum tab wr ax d' As S with
              | some (rv, S1) => rec (d' + 1) ck cd nx L (rv ++ s) S1 act
              | none => (match rec d' (x_kof ks ax) mt.2.1 0 (As ++ List.replicate (mt.1.2.2.1 - As.length) (9, 0, 0)) [] S [] with
                | none => none
                | some outs => x_all (fun o : xO => rec (d' + 1) ck cd nx L (o.1.toList ++ s) o.2 act) outs)))))
      else if k = 5 then (match d with
        | 0 => none
        | d' + 1 => (match x_math ax nx L st S with
          | none => none
          | some q => rec (d' + 1) ck cd q.1 q.2.1 q.2.2.1 q.2.2.2 act))
      else (match x_ret (k + 1) ax st S with
        | none => none
        | some rv => some [(rv, S)])
def x_spl (sp : List (Nat × Nat)) (pc : Nat) (L : List xV) (S : xS) (f : xS → Option (List xO)) : Option (List xO) := match sp.find? (fun q => Nat.beq q.1 pc) with
  | none => f S
  | some q => match L[q.2]? with
    | some (1, n, c) => let i := x_lk S.2.1 n
      bif x_ile 0 i.1 && x_ile i.2 300 then x_all (fun k : Nat => f (x_pi S (1, n, c) (Int.ofNat k) (Int.ofNat k))) (List.range' i.1.toNat (i.2.toNat + 1 - i.1.toNat)) else none
    | _ => f S
/-- a number below v, or not -/
def x_spq (sq : List (Nat × Nat × Int)) (pc : Nat) (L : List xV) (S : xS) (f : xS → Option (List xO)) : Option (List xO) := match sq.find? (fun q => Nat.beq q.1 pc) with
  | none => f S
  | some q => match L[q.2.1]? with
    | some (1, n, c) => let i := x_lk S.2.1 n
      x_all f ((bif x_ile i.1 (q.2.2 - 1) then [x_pi S (1, n, c) i.1 (x_mni i.2 (q.2.2 - 1))] else []) ++ (bif x_ile q.2.2 i.2 then [x_pi S (1, n, c) (x_mxi i.1 q.2.2) i.2] else []))
    | _ => f S
def x_run (iv : xB) (tab : List xU) (ks : List (Nat × xK)) (wr : xW) : Nat → xR
  | 0 => fun _ _ _ _ _ _ _ _ => none
  | n + 1 => fun d ck cd pc L st S act => match act.find? (fun l => Nat.beq l.1.1 pc) with
    | some l => bif x_back iv l L st S then some [] else none
    | none => match ck.1.find? (fun c => Nat.beq c.1 pc) with
      | some c => let L1 := x_kl (x_kls ck.2.2.1 pc) L
        (match x_head iv c L1 st S with
        | none => none
        | some S1 => x_spl ck.2.1 pc (x_chg c.2.1 S1.1 L1) (x_hdS c L1 S1) (fun S2 => x_spq ck.2.2.2 pc (x_chg c.2.1 S1.1 L1) S2 (fun S2 => x_step iv tab ks wr (x_run iv tab ks wr n) d ck cd pc (x_chg c.2.1 S1.1 L1) [] S2 ((c, L1, S1) :: act))))
      | none => x_spl ck.2.1 pc L S (fun S2 => x_spq ck.2.2.2 pc L S2 (fun S2 => x_step iv tab ks wr (x_run iv tab ks wr n) d ck cd pc L st S2 act))
/-- what a reckoned run owes -/
def x_snd (iv : xB) (wr : xW) (d : Nat) (cd : List aR) (pc : Nat) (L st : List xV) (S : xS) (act : List xA) (outs : List xO) : Prop := ∀ (Ln : Nat) (xs : Nat → Int32) (e : Nat) (r : List Int32) (V T : List Value) (M M0 : aM) (Q : Option Value → aM → Prop), x_vs r L V → x_vs r st T → x_gs r S M → x_G iv wr M0 M → (∀ l ∈ act, x_hyp iv wr M0 (wA, Ln, xs) (d + e) cd Q l r) → (∀ o ∈ outs, ∀ r' v M', x_ex r r' → x_gs r' o.2 M' → x_G iv wr M0 M' → x_ro r' o.1 v → Q v M') → aw (wA, Ln, xs) (d + e) cd pc V T M Q
theorem x_spl_ok {sp : List (Nat × Nat)} {pc : Nat} {L : List xV} {S : xS} {f : xS → Option (List xO)} {outs : List xO} {r : List Int32} {M : aM} {V : List Value} (hL : x_vs r L V) (g : x_gs r S M) (h : x_spl sp pc L S f = some outs) : ∃ S2 o2, x_gs r S2 M ∧ f S2 = some o2 ∧ ∀ o ∈ o2, o ∈ outs := by
  unfold x_spl at h
  split at h
  next => exact ⟨S, outs, g, h, fun _ ho => ho⟩
  next q hq =>
    split at h
    next n c ha =>
      simp only at h
      cases hb : (x_ile 0 (x_lk S.2.1 n).1 && x_ile (x_lk S.2.1 n).2 300) with
      | false => rw [hb] at h; cases h
      | true =>
        rw [hb] at h
        simp only [cond_true] at h
        rw [Bool.and_eq_true] at hb
        have b1 := x_ile_ok.mp hb.1
        obtain ⟨v, -, x, hx, rfl⟩ := x_vs_get hL ha
        obtain ⟨i1, i2⟩ := x_lk_ok hx g.2.1
        have hk : Int.ofNat x.toInt.toNat = x.toInt := by
          show ((x.toInt.toNat : Nat) : Int) = x.toInt
          omega
        obtain ⟨u, f1, f2⟩ := x_all_ok h x.toInt.toNat (by
          rw [List.mem_range']
          exact ⟨x.toInt.toNat - (x_lk S.2.1 n).1.toNat, by omega, by omega⟩)
        exact ⟨_, u, x_pi_ok g (show x_i r (1, n, c) x from hx) (by omega) (by omega), f1, f2⟩
    next => exact ⟨S, outs, g, h, fun _ ho => ho⟩
theorem x_spq_ok {sq : List (Nat × Nat × Int)} {pc : Nat} {L : List xV} {S : xS} {f : xS → Option (List xO)} {outs : List xO} {r : List Int32} {M : aM} {V : List Value} (hL : x_vs r L V) (g : x_gs r S M) (h : x_spq sq pc L S f = some outs) : ∃ S2 o2, x_gs r S2 M ∧ f S2 = some o2 ∧ ∀ o ∈ o2, o ∈ outs := by
  unfold x_spq at h
  split at h
  next => exact ⟨S, outs, g, h, fun _ ho => ho⟩
  next q hq =>
    split at h
    next n c ha =>
      simp only at h
      obtain ⟨v, -, x, hx, rfl⟩ := x_vs_get hL ha
      obtain ⟨i1, i2⟩ := x_lk_ok hx g.2.1
      have hxi : x_i r (1, n, c) x := hx
      by_cases hlt : x.toInt < q.2.2
      · have hc : x_ile (x_lk S.2.1 n).1 (q.2.2 - 1) = true := x_ile_ok.mpr (by omega)
        obtain ⟨m1, m2, m3⟩ := @x_mni_ok (x_lk S.2.1 n).2 (q.2.2 - 1)
        obtain ⟨u, f1, f2⟩ := x_all_ok h (x_pi S (1, n, c) (x_lk S.2.1 n).1 (x_mni (x_lk S.2.1 n).2 (q.2.2 - 1))) (List.mem_append_left _ (by rw [hc]; exact List.mem_cons_self ..))
        exact ⟨_, u, x_pi_ok g hxi i1 (by omega), f1, f2⟩
      · have hc : x_ile q.2.2 (x_lk S.2.1 n).2 = true := x_ile_ok.mpr (by omega)
        obtain ⟨m1, m2, m3⟩ := @x_mxi_ok (x_lk S.2.1 n).1 q.2.2
        obtain ⟨u, f1, f2⟩ := x_all_ok h (x_pi S (1, n, c) (x_mxi (x_lk S.2.1 n).1 q.2.2) (x_lk S.2.1 n).2) (List.mem_append_right _ (by rw [hc]; exact List.mem_cons_self ..))
        exact ⟨_, u, x_pi_ok g hxi (by omega) i2, f1, f2⟩
    next => exact ⟨S, outs, g, h, fun _ ho => ho⟩
theorem x_step_ok {iv : xB} {tab : List xU} {ks : List (Nat × xK)} {wr : xW} (ht : ∀ u ∈ tab, x_uok iv u) {rec : xR} (hrec : ∀ d ck cd pc L st S act outs, rec d ck cd pc L st S act = some outs → x_snd iv wr d cd pc L st S act outs) {d : Nat} {ck : xK} {cd : List aR} {pc : Nat} {L st : List xV} {S : xS} {act : List xA} {outs : List xO} (h : x_step iv tab ks wr rec d ck cd pc L st S act = some outs) : x_snd iv wr d cd pc L st S act outs := by
  intro Ln xs e r V T M M0 Q hL hs g G hy hQ
  unfold x_step at h
  split at h
  next => cases h
  next p0 ins nx ax wp hf =>
    split at h
    next hk =>
      split at h
      next => cases h
      next l hl =>
        obtain ⟨⟨pc', V', T', M'⟩, he, q, hq, r', k1, k2, k3, k4, k5, k6⟩ := x_eff_ok (w := (wA, Ln, xs)) (fun _ => rfl) hL hs g G hl
        simp only at k2 k3 k4 k5 k6
        subst k2
        obtain ⟨u, f1, f2⟩ := x_all_ok h q hq
        refine aw_e hf hk he ?_
        exact hrec _ _ _ _ _ _ _ _ _ f1 Ln xs e r' V' T' M' M0 Q k3 k4 k5 k6 (fun l hl => x_hyp_ex k1 (hy l hl)) fun o ho r'' v M'' e1 => hQ o (f2 o ho) r'' v M'' (x_ex_tr k1 e1)
    next k hk =>
      split at h
      next hk2 =>
        split at h
        next => cases h
        next mt hm =>
          split at h
          next => cases h
          next As s hA =>
            obtain ⟨Vs, T', ha, hAs, hss⟩ := x_args_ok hs hA
            cases d with
            | zero => cases h
            | succ d' =>
              simp only at h
              rw [show d' + 1 + e = d' + e + 1 by omega]
              split at h
              next rv S1 hsu =>
                obtain ⟨mt', hm', hc⟩ := x_sum_ok (e := e) (Ln := Ln) (xs := xs) ht hAs g G hsu
                rw [hm] at hm'
                cases hm'
                refine aw_ck hf hk hk2 hm ha hc ?_
                rintro v M1 ⟨r', k1, k2, k3, k4⟩
                have := hrec _ _ _ _ _ _ _ _ _ h Ln xs e r' V (v.toList ++ T') M1 M0 Q (x_vs_ex k1 hL) (x_vs_app k4 (x_vs_ex k1 hss)) k2 k3 (fun l hl => x_hyp_ex k1 (by have := hy l hl; exact this)) fun o ho r'' v M'' e1 => hQ o ho r'' v M'' (x_ex_tr k1 e1)
                rwa [show d' + 1 + e = d' + e + 1 by omega] at this
              next =>
                split at h
                next => cases h
                next o1 ho1 =>
                  refine aw_ci hf hk hk2 hm ha ?_
                  have hLc : x_vs r (As ++ List.replicate (mt.1.2.2.1 - As.length) (9, 0, 0)) (Vs ++ List.replicate (mt.1.2.2.1 - Vs.length) a_dead) := by
                    rw [← x_vs_len hAs]
                    refine x_vs_app hAs (x_vs_of (by simp) fun k a v ha hv => ?_)
                    have := List.eq_of_mem_replicate (List.mem_of_getElem? ha)
                    subst this
                    trivial
                  refine hrec _ _ _ _ _ _ _ _ _ ho1 Ln xs e r _ [] M M0 _ hLc trivial g G (fun l hl => by cases hl) ?_
                  intro o ho r' v M' e1 g' G' hro
                  obtain ⟨u, f1, f2⟩ := x_all_ok h o ho
                  have hst : x_vs r' (o.1.toList ++ s) (v.toList ++ T') := by
                    refine x_vs_app ?_ (x_vs_ex e1 hss)
                    unfold x_ro at hro
                    split at hro
                    next h0 => rw [h0, hro]; trivial
                    next a h0 =>
                      obtain ⟨v', rfl, hv⟩ := hro
                      rw [h0]
                      exact ⟨hv, trivial⟩
                  have := hrec _ _ _ _ _ _ _ _ _ f1 Ln xs e r' V (v.toList ++ T') M' M0 Q (x_vs_ex e1 hL) hst g' G' (fun l hl => x_hyp_ex e1 (by have := hy l hl; exact this)) fun o2 ho2 r'' v2 M'' e2 => hQ o2 (f2 o2 ho2) r'' v2 M'' (x_ex_tr e1 e2)
                  rwa [show d' + 1 + e = d' + e + 1 by omega] at this
      next hk2 =>
        split at h
        next hk5 =>
          subst hk5
          cases d with
          | zero => cases h
          | succ d' =>
            simp only at h
            split at h
            next => cases h
            next q hq =>
              obtain ⟨⟨pc', V', T', M'⟩, he, q', hq', r', k1, k2, k3, k4, k5, k6⟩ := x_math_ok hL hs g G hq
              simp only at k2 k3 k4 k5 k6
              rw [List.mem_singleton] at hq'
              subst hq'
              subst k2
              rw [show d' + 1 + e = d' + e + 1 by omega]
              refine aw_m hf hk he ?_
              have := hrec _ _ _ _ _ _ _ _ _ h Ln xs e r' V' T' M' M0 Q k3 k4 k5 k6 (fun l hl => x_hyp_ex k1 (hy l hl)) fun o ho r'' v M'' e1 => hQ o ho r'' v M'' (x_ex_tr k1 e1)
              rwa [show d' + 1 + e = d' + e + 1 by omega] at this
        next hk5 =>
          split at h
          next => cases h
          next rv hr =>
            cases h
            obtain ⟨v, h1, h2⟩ := x_ret_ok hs g hr
            have h4 : k ≤ 4 := by
              unfold x_ret at hr
              split at hr <;> first | omega | cases hr
            exact aw_r hf hk ⟨by omega, h4⟩ h1 (hQ (rv, S) (List.mem_cons_self ..) r v M (x_ex_rf r) g G h2)
theorem x_run_ok {iv : xB} {tab : List xU} {ks : List (Nat × xK)} {wr : xW} (ht : ∀ u ∈ tab, x_uok iv u) : ∀ (n d : Nat) (ck : xK) (cd : List aR) (pc : Nat) (L st : List xV) (S : xS) (act : List xA) (outs : List xO), x_run iv tab ks wr n d ck cd pc L st S act = some outs → x_snd iv wr d cd pc L st S act outs := by
  intro n
  induction n with
  | zero => intro d ck cd pc L st S act outs h; cases h
  | succ n ih =>
    intro d ck cd pc L st S act outs h
    unfold x_run at h
    split at h
    next l hl =>
      cases hb : x_back iv l L st S with
      | false => rw [hb] at h; cases h
      | true =>
        intro Ln xs e r V T M M0 Q hL hs g G hy hQ
        have hp : l.1.1 = pc := by
          have := List.find?_some hl
          exact Nat.eq_of_beq_eq_true this
        rw [← hp]
        exact x_back_ok hL hs g G (hy l (List.mem_of_find?_eq_some hl)) hb
    next =>
      split at h
      next c hc =>
        have hp : c.1 = pc := by
          have := List.find?_some hc
          exact Nat.eq_of_beq_eq_true this
        simp only at h
        split at h
        next => cases h
        next S1 hS1 =>
          intro Ln xs e r V T M M0 Q hL hs g G hy hQ
          rw [← hp]
          refine x_enter (x_kl_ok hL) hs g G hS1 ?_
          intro r2 V2 M2 e1 hL2 g2 G2 hy2
          obtain ⟨S2', o2', g3', f1', f2'⟩ := x_spl_ok hL2 g2 h
          obtain ⟨S2, o2, g3, f1, f2''⟩ := x_spq_ok hL2 g3' f1'
          have f2 : ∀ o ∈ o2, o ∈ outs := fun o ho => f2' o (f2'' o ho)
          rw [hp]
          exact x_step_ok ht ih f1 Ln xs e r2 V2 [] M2 M0 Q hL2 trivial g3 G2 (fun l hl => by
            rcases List.mem_cons.mp hl with rfl | hl
            · exact hy2
            · exact x_hyp_ex e1 (hy l hl)) fun o ho r' v M' e2 => hQ o (f2 o ho) r' v M' (x_ex_tr e1 e2)
      next =>
        intro Ln xs e r V T M M0 Q hL hs g G hy hQ
        obtain ⟨S2', o2', g3', f1', f2'⟩ := x_spl_ok hL g h
        obtain ⟨S2, o2, g3, f1, f2''⟩ := x_spq_ok hL g3' f1'
        have f2 : ∀ o ∈ o2, o ∈ outs := fun o ho => f2' o (f2'' o ho)
        exact x_step_ok ht ih f1 Ln xs e r V T M M0 Q hL hs g3 G hy fun o ho => hQ o (f2 o ho)
