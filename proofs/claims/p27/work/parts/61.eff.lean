/-! reckoning with bounds: cells, then every plain instruction -/
abbrev xQ : Type := Nat × List xV × List xV × xS
abbrev xW : Type := List (Nat × Nat × Nat)
def x_in (wr : xW) (i k : Nat) : Bool := wr.any (fun e => Nat.beq e.1 i && Nat.ble e.2.1 k && Nat.blt k e.2.2)
/-- the bounds of every cell: cell, from, till, least, greatest -/
abbrev xB : Type := List (Nat × Nat × Nat × Int × Int)
def x_J (iv : xB) (M : aM) : Prop := ∀ e ∈ iv, ∀ k, e.2.1 ≤ k → k < e.2.2.1 → e.2.2.2.1 ≤ (M e.1 k).toInt ∧ (M e.1 k).toInt ≤ e.2.2.2.2
def x_F (wr : xW) (M0 M : aM) : Prop := ∀ i k, x_in wr i k = false → M i k = M0 i k
def x_G (iv : xB) (wr : xW) (M0 M : aM) : Prop := x_J iv M ∧ x_F wr M0 M
def x_ld (iv : xB) (i l h : Nat) : Int × Int := match iv.find? (fun e => Nat.beq e.1 i && Nat.ble e.2.1 l && Nat.blt h e.2.2.1) with
  | some e => e.2.2.2
  | none => (x_mn, x_mx)
theorem x_ld_ok {iv : xB} {M : aM} {i l h k : Nat} (g : x_J iv M) (h1 : l ≤ k) (h2 : k ≤ h) : (x_ld iv i l h).1 ≤ (M i k).toInt ∧ (M i k).toInt ≤ (x_ld iv i l h).2 := by
  unfold x_ld
  split
  next e he =>
    have hp := List.find?_some he
    simp only [Bool.and_eq_true] at hp
    obtain ⟨⟨e1, e2⟩, e3⟩ := hp
    have e1 := Nat.eq_of_beq_eq_true e1
    have e2 := Nat.le_of_ble_eq_true e2
    have e3 : h + 1 ≤ e.2.2.1 := Nat.le_of_ble_eq_true e3
    have := g e (List.mem_of_find?_eq_some he) k (by omega) (by omega)
    rwa [e1] at this
  next => exact ⟨x_mn_le _, x_le_mx _⟩
def x_cl : List (Nat × Nat × xV) → Nat → Nat → Option xV
  | [], _, _ => none
  | e :: t, i, k => bif Nat.beq e.1 i && Nat.beq e.2.1 k then some e.2.2 else x_cl t i k
theorem x_cl_mem : ∀ {cs : List (Nat × Nat × xV)} {i k : Nat} {a : xV}, x_cl cs i k = some a → (i, k, a) ∈ cs
  | [], _, _, _, h => by cases h
  | e :: t, i, k, a, h => by
    unfold x_cl at h
    cases hb : (Nat.beq e.1 i && Nat.beq e.2.1 k) with
    | true =>
      rw [hb] at h
      cases h
      rw [Bool.and_eq_true] at hb
      obtain ⟨e1, e2, e3⟩ := e
      have h1 := Nat.eq_of_beq_eq_true hb.1
      have h2 := Nat.eq_of_beq_eq_true hb.2
      simp only at h1 h2
      rw [h1, h2]
      exact List.mem_cons_self ..
    | false =>
      rw [hb] at h
      exact List.mem_cons_of_mem _ (x_cl_mem h)
theorem x_cl_ok {r : List Int32} {M : aM} {cs : List (Nat × Nat × xV)} {i k : Nat} {a : xV} (hi : i < 1000) (g : x_gce r cs M) (h : x_cl cs i k = some a) : x_i r a (M i k) := by
  rcases g _ (x_cl_mem h) with ⟨-, g1⟩ | ⟨g1, -⟩
  · exact g1
  · simp only at g1
    omega
theorem x_cl_nm {r : List Int32} {M : aM} {cs : List (Nat × Nat × xV)} {i n : Nat} {a : xV} {y : Int32} (g : x_gce r cs M) (hy : r[n]? = some y) (h : x_cl cs (i + 1000) n = some a) : x_i r a (M i y.toNatClampNeg) := by
  rcases g _ (x_cl_mem h) with ⟨g1, -⟩ | ⟨-, y', g2, g3⟩
  · simp only at g1
    omega
  · simp only at g2 g3
    rw [hy] at g2
    cases g2
    rwa [Nat.add_sub_cancel] at g3
def x_get (iv : xB) (S : xS) (i k : Nat) : xV × xS := bif Nat.blt i 1000 then (match x_cl S.2.2.2 i k with
  | some a => (a, S)
  | none => let b := x_ld iv i k k
    let q := x_fr S b.1 b.2
    (q.1, (q.2.1, q.2.2.1, q.2.2.2.1, (i, k, q.1) :: q.2.2.2.2))) else let b := x_ld iv i k k
    x_fr S b.1 b.2
theorem x_get_ok {iv : xB} {r : List Int32} {S : xS} {M : aM} (i k : Nat) (g : x_gs r S M) (j : x_J iv M) : ∃ r', x_ex r r' ∧ x_gs r' (x_get iv S i k).2 M ∧ x_i r' (x_get iv S i k).1 (M i k) := by
  unfold x_get
  obtain ⟨b1, b2⟩ := x_ld_ok (i := i) (l := k) (h := k) (k := k) j (Nat.le_refl _) (Nat.le_refl _)
  cases hb : Nat.blt i 1000 with
  | false => exact x_fr_ok g b1 b2
  | true =>
    have hi : i + 1 ≤ 1000 := Nat.le_of_ble_eq_true hb
    simp only [cond_true]
    split
    next a h => exact ⟨r, x_ex_rf r, g, x_cl_ok (by omega) g.2.2.2 h⟩
    next =>
      simp only
      obtain ⟨r', k1, k2, k3⟩ := x_fr_ok g b1 b2
      refine ⟨r', k1, ⟨k2.1, k2.2.1, k2.2.2.1, ?_⟩, k3⟩
      intro e he
      rcases List.mem_cons.mp he with rfl | he
      · exact Or.inl ⟨by simp only; omega, k3⟩
      · exact k2.2.2.2 e he
def x_getr (iv : xB) (S : xS) (i l h : Nat) (j : xV) : xV × xS := bif Nat.beq l h then x_get iv S i l else let b := x_ld iv i l h
  match j with
  | (1, n, _) => (match x_cl S.2.2.2 (i + 1000) n with
    | some a => (a, S)
    | none => let q := x_fr S b.1 b.2
      (q.1, (q.2.1, q.2.2.1, q.2.2.2.1, (i + 1000, n, q.1) :: q.2.2.2.2)))
  | _ => x_fr S b.1 b.2
theorem x_getr_ok {iv : xB} {r : List Int32} {S : xS} {M : aM} {i l h : Nat} {jv : xV} {y : Int32} (g : x_gs r S M) (j : x_J iv M) (hy : x_i r jv y) (h1 : l ≤ y.toNatClampNeg) (h2 : y.toNatClampNeg ≤ h) : ∃ r', x_ex r r' ∧ x_gs r' (x_getr iv S i l h jv).2 M ∧ x_i r' (x_getr iv S i l h jv).1 (M i y.toNatClampNeg) := by
  unfold x_getr
  cases hb : Nat.beq l h with
  | true =>
    have := Nat.eq_of_beq_eq_true hb
    have e : y.toNatClampNeg = l := by omega
    rw [e]
    exact x_get_ok i l g j
  | false =>
    obtain ⟨b1, b2⟩ := x_ld_ok (i := i) (l := l) (h := h) (k := y.toNatClampNeg) j h1 h2
    simp only [cond_false]
    split
    next n c =>
      have hn : r[n]? = some y := hy
      split
      next a ha => exact ⟨r, x_ex_rf r, g, x_cl_nm g.2.2.2 hn ha⟩
      next =>
        obtain ⟨r', k1, k2, k3⟩ := x_fr_ok g b1 b2
        refine ⟨r', k1, ⟨k2.1, k2.2.1, k2.2.2.1, ?_⟩, k3⟩
        intro e he
        rcases List.mem_cons.mp he with rfl | he
        · exact Or.inr ⟨by simp only; omega, y, x_ex_at k1 hn, by simp only [Nat.add_sub_cancel]; exact k3⟩
        · exact k2.2.2.2 e he
    next => exact x_fr_ok g b1 b2
def x_stok (iv : xB) (wr : xW) (S : xS) (i l h : Nat) (a : xV) : Bool := wr.any (fun e => Nat.beq e.1 i && Nat.ble e.2.1 l && Nat.blt h e.2.2) && iv.all (fun e => !(Nat.beq e.1 i) || Nat.blt h e.2.1 || Nat.ble e.2.2.1 l || (x_ile e.2.2.2.1 (x_iv S.2.1 a).1 && x_ub 3 S a e.2.2.2.2))
def x_set (S : xS) (i l h : Nat) (a : xV) : xS := (S.1, S.2.1, S.2.2.1, bif Nat.beq l h && Nat.blt i 1000 then (i, l, a) :: S.2.2.2.filter (fun e => !(Nat.beq e.1 i && Nat.beq e.2.1 l) && !(Nat.beq e.1 (i + 1000))) else S.2.2.2.filter (fun e => !(Nat.beq e.1 i) && !(Nat.beq e.1 (i + 1000))))
theorem x_nb {a b : Nat} (h : Nat.beq a b = false) : a ≠ b := fun e => by
  subst e
  rw [Nat.beq_refl] at h
  cases h
theorem x_set_ok {r : List Int32} {S : xS} {M : aM} {i l h k : Nat} {a : xV} {v : Int32} (g : x_gs r S M) (ha : x_i r a v) (h1 : l ≤ k) (h2 : k ≤ h) : x_gs r (x_set S i l h a) (a_up M i k v) := by
  refine ⟨g.1, g.2.1, g.2.2.1, ?_⟩
  unfold x_set
  have hold : ∀ e : Nat × Nat × xV, e ∈ S.2.2.2 → ¬ (e.1 = i ∧ e.2.1 = k) → ¬ e.1 = i + 1000 → x_ce r (a_up M i k v) e := by
    intro e he h3 h4
    rcases g.2.2.2 e he with ⟨g1, g2⟩ | ⟨g1, y, g2, g3⟩
    · refine Or.inl ⟨g1, ?_⟩
      rw [a_up_ap, if_neg h3]
      exact g2
    · refine Or.inr ⟨g1, y, g2, ?_⟩
      rw [a_up_ap, if_neg (by omega)]
      exact g3
  cases hb : (Nat.beq l h && Nat.blt i 1000) with
  | true =>
    rw [Bool.and_eq_true] at hb
    have := Nat.eq_of_beq_eq_true hb.1
    have hi : i + 1 ≤ 1000 := Nat.le_of_ble_eq_true hb.2
    have : k = l := by omega
    subst this
    intro e he
    rcases List.mem_cons.mp he with rfl | he
    · refine Or.inl ⟨by simp only; omega, ?_⟩
      show x_i r a (a_up M i k v i k)
      rw [a_up_ap, if_pos ⟨rfl, rfl⟩]
      exact ha
    · obtain ⟨he, hn⟩ := List.mem_filter.mp he
      refine hold e he (fun hc => ?_) (fun hc => ?_)
      · simp [hc.1, hc.2] at hn
      · simp [hc] at hn
  | false =>
    intro e he
    obtain ⟨he, hn⟩ := List.mem_filter.mp he
    refine hold e he (fun hc => ?_) (fun hc => ?_)
    · simp [hc.1] at hn
    · simp [hc] at hn
theorem x_stok_ok {iv : xB} {wr : xW} {r : List Int32} {S : xS} {M0 M : aM} {i l h k : Nat} {a : xV} {v : Int32} (g : x_gs r S M) (G : x_G iv wr M0 M) (ha : x_i r a v) (h1 : l ≤ k) (h2 : k ≤ h) (hs : x_stok iv wr S i l h a = true) : x_G iv wr M0 (a_up M i k v) := by
  unfold x_stok at hs
  rw [Bool.and_eq_true] at hs
  constructor
  · intro e he q q1 q2
    rw [a_up_ap]
    split
    next hc =>
      obtain ⟨c1, c2⟩ := hc
      have := List.all_eq_true.mp hs.2 e he
      rw [Bool.or_eq_true, Bool.or_eq_true, Bool.or_eq_true] at this
      rcases this with ((t | t) | t) | t
      · rw [c1, Nat.beq_refl] at t
        cases t
      · have : h + 1 ≤ e.2.1 := Nat.le_of_ble_eq_true t
        omega
      · have := Nat.le_of_ble_eq_true t
        omega
      · rw [Bool.and_eq_true] at t
        have t1 := x_ile_ok.mp t.1
        have t2 := (x_iv_ok g.2.1 ha).1
        exact ⟨by omega, x_ub_ok g 3 ha t.2⟩
    next => exact G.1 e he q q1 q2
  · intro i' k' hn
    rw [a_up_ap]
    split
    next hc =>
      obtain ⟨rfl, rfl⟩ := hc
      obtain ⟨e, he, t⟩ := List.any_eq_true.mp hs.1
      simp only [Bool.and_eq_true] at t
      obtain ⟨⟨t1, t2⟩, t3⟩ := t
      have t2 := Nat.le_of_ble_eq_true t2
      have t3 : h + 1 ≤ e.2.2 := Nat.le_of_ble_eq_true t3
      have : x_in wr i' k' = true := List.any_eq_true.mpr ⟨e, he, by
        simp only [Bool.and_eq_true]
        exact ⟨⟨t1, Nat.ble_eq.mpr (by omega)⟩, Nat.ble_eq.mpr (by omega)⟩⟩
      rw [hn] at this
      cases this
    next => exact G.2 i' k' hn
/-- an index, looked at: where it may be -/
def x_idx (S : xS) (j : xV) (n : Nat) : Option (Nat × Nat) :=
  let i := x_iv S.2.1 j
  bif x_isI j && x_ile 0 i.1 && x_ub 3 S j (Int.ofNat n - 1) then some (i.1.toNat, bif x_ile i.2 (Int.ofNat n - 1) then i.2.toNat else n - 1) else none
theorem x_idx_ok {r : List Int32} {S : xS} {M : aM} {j : xV} {y : Int32} {n l h : Nat} (g : x_gs r S M) (hy : x_i r j y) (hs : x_idx S j n = some (l, h)) : ¬ y < 0 ∧ y.toNatClampNeg < n ∧ l ≤ y.toNatClampNeg ∧ y.toNatClampNeg ≤ h := by
  unfold x_idx at hs
  simp only at hs
  cases hc : (x_isI j && x_ile 0 (x_iv S.2.1 j).1 && x_ub 3 S j (Int.ofNat n - 1)) with
  | false => rw [hc] at hs; cases hs
  | true =>
    rw [hc] at hs
    simp only [cond_true, Option.some.injEq, Prod.mk.injEq] at hs
    simp only [Bool.and_eq_true] at hc
    obtain ⟨⟨-, c2⟩, c3⟩ := hc
    have c2 := x_ile_ok.mp c2
    have c3 := x_ub_ok g 3 hy c3
    obtain ⟨b1, b2⟩ := x_iv_ok g.2.1 hy
    have e : y.toNatClampNeg = y.toInt.toNat := (Int32.toNat_toInt y).symm
    have hn : ¬ y < 0 := by
      rw [Int32.lt_iff_toInt_lt, Int32.toInt_zero]
      omega
    have c3' : y.toInt ≤ (n : Int) - 1 := c3
    refine ⟨hn, by omega, by omega, ?_⟩
    cases hd : x_ile (x_iv S.2.1 j).2 (Int.ofNat n - 1) with
    | true =>
      rw [hd] at hs
      simp only [cond_true] at hs
      omega
    | false =>
      rw [hd] at hs
      simp only [cond_false] at hs
      omega
def x_in01 (S : xS) (a : xV) : Bool := x_isI a && x_ile 0 (x_iv S.2.1 a).1 && x_ile (x_iv S.2.1 a).2 1
theorem x_in01_ok {r : List Int32} {S : xS} {M : aM} {a : xV} {x : Int32} (g : x_gs r S M) (h : x_i r a x) (hb : x_in01 S a = true) : x = 0 ∨ x = 1 := by
  unfold x_in01 at hb
  simp only [Bool.and_eq_true] at hb
  obtain ⟨⟨-, b1⟩, b2⟩ := hb
  have b1 := x_ile_ok.mp b1
  have b2 := x_ile_ok.mp b2
  obtain ⟨h1, h2⟩ := x_iv_ok g.2.1 h
  rcases (show x.toInt = 0 ∨ x.toInt = 1 by omega) with e | e
  · exact Or.inl (Int32.toInt_inj.mp (by rw [e, Int32.toInt_zero]))
  · exact Or.inr (Int32.toInt_inj.mp (by rw [e, Int32.toInt_one]))
/-! instructions -/
def x_psh (nx : Nat) (c : Int32) (L st : List xV) (S : xS) : Option (List xQ) := some [(nx, L, (2, 0, c.toInt) :: st, S)]
def x_li (i nx : Nat) (L st : List xV) (S : xS) : Option (List xQ) := match L[i]? with
  | some a => bif x_isI a then some [(nx, L, a :: st, S)] else none
  | none => none
def x_la (i nx : Nat) (L st : List xV) (S : xS) : Option (List xQ) := match L[i]? with
  | some (0, j, c) => some [(nx, L, (0, j, c) :: st, S)]
  | _ => none
def x_si (i nx : Nat) (L st : List xV) (S : xS) : Option (List xQ) := match st with
  | a :: s => bif x_isI a && Nat.blt i L.length then some [(nx, L.set i a, s, S)] else none
  | _ => none
def x_sa (i nx : Nat) (L st : List xV) (S : xS) : Option (List xQ) := match st with
  | (0, j, c) :: s => bif Nat.blt i L.length then some [(nx, L.set i (0, j, c), s, S)] else none
  | _ => none
def x_ii (i nx : Nat) (c : Int) (L st : List xV) (S : xS) : Option (List xQ) := match L[i]? with
  | some a => bif x_isI a then (let q := x_addc S a (Int32.ofInt c).toInt; some [(nx, L.set i q.1, st, q.2)]) else none
  | none => none
def x_b2 (f : xS → xV → xV → xV × xS) (nx : Nat) (L st : List xV) (S : xS) : Option (List xQ) := match st with
  | b :: a :: s => bif x_isI a && x_isI b then (let q := f S a b; some [(nx, L, q.1 :: s, q.2)]) else none
  | _ => none
def x_d2 (f : xS → xV → xV → xV × xS) (nx : Nat) (L st : List xV) (S : xS) : Option (List xQ) := match st with
  | b :: a :: s => bif x_isI a && x_isI b && (x_ile 1 (x_iv S.2.1 b).1 || x_ile (x_iv S.2.1 b).2 (-1)) then (let q := f S a b; some [(nx, L, q.1 :: s, q.2)]) else none
  | _ => none
def x_ng (nx : Nat) (L st : List xV) (S : xS) : Option (List xQ) := match st with
  | a :: s => bif x_isI a then (let q := x_neg S a; some [(nx, L, q.1 :: s, q.2)]) else none
  | _ => none
def x_ct (a : xV) : Bool := Nat.ble a.1 3
def x_dup (nx : Nat) (L st : List xV) (S : xS) : Option (List xQ) := match st with
  | a :: s => bif x_ct a then some [(nx, L, a :: a :: s, S)] else none
  | _ => none
def x_dup2 (nx : Nat) (L st : List xV) (S : xS) : Option (List xQ) := match st with
  | a :: b :: s => bif x_ct a && x_ct b then some [(nx, L, a :: b :: a :: b :: s, S)] else none
  | _ => none
def x_pop (nx : Nat) (L st : List xV) (S : xS) : Option (List xQ) := match st with
  | a :: s => bif x_ct a then some [(nx, L, s, S)] else none
  | _ => none
def x_one (pc : Nat) (L st : List xV) (S : Option xS) : List xQ := match S with
  | some S1 => [(pc, L, st, S1)]
  | none => []
def x_br (c : Jvm.ClassFile.Cond) (ax nx : Nat) (L s : List xV) (S : xS) (a b : xV) : List xQ := x_one ax L s (x_cond c S a b) ++ x_one nx L s (x_cond (x_not c) S a b)
def x_k1 (c : Jvm.ClassFile.Cond) (ax nx : Nat) (L st : List xV) (S : xS) : Option (List xQ) := match st with
  | a :: s => bif x_isI a then some (x_br c ax nx L s S a (2, 0, 0)) else none
  | _ => none
def x_k2 (c : Jvm.ClassFile.Cond) (ax nx : Nat) (L st : List xV) (S : xS) : Option (List xQ) := match st with
  | b :: a :: s => bif x_isI a && x_isI b then some (x_br c ax nx L s S a b) else none
  | _ => none
def x_nl (t : Bool) (ax nx : Nat) (L st : List xV) (S : xS) : Option (List xQ) := match st with
  | (0, _, _) :: s => some [(bif t then nx else ax, L, s, S)]
  | (3, _, _) :: s => some [(bif t then ax else nx, L, s, S)]
  | _ => none
def x_jp (pc : Nat) (off : Int) (L st : List xV) (S : xS) : Option xQ := match (pc : Int) + off with
  | .ofNat t => some (t, L, st, S)
  | _ => none
def x_all {A B : Type} (f : A → Option (List B)) : List A → Option (List B)
  | [] => some []
  | a :: t => match f a with
    | none => none
    | some u => match x_all f t with
      | none => none
      | some v => some (u ++ v)
theorem x_all_ok {A B : Type} {f : A → Option (List B)} : ∀ {l : List A} {o : List B}, x_all f l = some o → ∀ a ∈ l, ∃ u, f a = some u ∧ ∀ b ∈ u, b ∈ o
  | [], _, _, a, ha => by cases ha
  | c :: t, o, h, a, ha => by
    unfold x_all at h
    split at h
    next => cases h
    next u hu =>
      split at h
      next => cases h
      next v hv =>
        cases h
        rcases List.mem_cons.mp ha with rfl | ha
        · exact ⟨u, hu, fun b hb => List.mem_append_left _ hb⟩
        · obtain ⟨u', h1, h2⟩ := x_all_ok hv a ha
          exact ⟨u', h1, fun b hb => List.mem_append_right _ (h2 b hb)⟩
def x_o1 {B : Type} (o : Option B) : Option (List B) := match o with
  | some b => some [b]
  | none => none
def x_tsw (pc : Nat) (d lo hi : Int) (offs : Array Int) (L st : List xV) (S : xS) : Option (List xQ) := match st with
  | a :: s => bif x_isI a then
      (let i := x_iv S.2.1 a
       match (bif x_ile lo i.1 && x_ile i.2 hi then some [] else x_o1 (x_jp pc d L s S)) with
       | none => none
       | some u => match x_all (fun k : Nat => bif x_ile i.1 (lo + Int.ofNat k) && x_ile (lo + Int.ofNat k) i.2 then (match offs[k]? with
           | some o => x_o1 (x_jp pc o L s (x_pi S a (lo + Int.ofNat k) (lo + Int.ofNat k)))
           | none => none) else some []) (List.range (hi - lo + 1).toNat) with
         | none => none
         | some v => some (u ++ v)) else none
  | _ => none
def x_lsw (pc : Nat) (d : Int) (ps : Array (Int × Int)) (L st : List xV) (S : xS) : Option (List xQ) := match st with
  | a :: s => bif x_isI a then
      (let i := x_iv S.2.1 a
       x_all (fun q : Option (Int × Int) => match q with
         | none => x_o1 (x_jp pc d L s S)
         | some q => bif x_ile i.1 q.1 && x_ile q.1 i.2 then x_o1 (x_jp pc q.2 L s (x_pi S a q.1 q.1)) else some []) (none :: ps.toList.map some)) else none
  | _ => none
def x_gf (iv : xB) (nx ax : Nat) (L st : List xV) (S : xS) : Option (List xQ) := match st with
  | (0, i, _) :: s => bif Nat.blt i a_ncw && Nat.beq (a_shape i).1 (ax / 64) then (match (a_shape i).2.1[ax % 64]? with
      | some (some j) => some [(nx, L, (0, j, 0) :: s, S)]
      | some none => (let q := x_get iv S i (ax % 64); some [(nx, L, q.1 :: s, q.2)])
      | none => none) else none
  | _ => none
def x_pf (iv : xB) (wr : xW) (nx ax : Nat) (L st : List xV) (S : xS) : Option (List xQ) := match st with
  | v :: (0, i, _) :: s => bif Nat.blt i a_ncw && Nat.beq (a_shape i).1 (ax / 64) && x_isI v && (a_isI (ax / 64) (ax % 64) || (a_isB (ax / 64) (ax % 64) && x_in01 S v)) && x_stok iv wr S i (ax % 64) (ax % 64) v then (match (a_shape i).2.1[ax % 64]? with
      | some none => some [(nx, L, s, x_set S i (ax % 64) (ax % 64) v)]
      | _ => none) else none
  | _ => none
def x_ial (iv : xB) (nx : Nat) (L st : List xV) (S : xS) : Option (List xQ) := match st with
  | j :: (0, i, _) :: s => bif Nat.beq i a_scr then none else (match x_idx S j (a_shape i).2.2 with
      | none => none
      | some (l, h) => bif Nat.blt i a_ncw && Nat.beq (a_shape i).1 100 then (let q := x_getr iv S i l h j; some [(nx, L, q.1 :: s, q.2)])
        else bif Nat.beq (a_shape i).1 101 && Nat.ble a_ncw i then (let q := (bif Nat.beq l h then ((2, 0, ((a_scl i).getD l 0).toInt), S) else x_any S); some [(nx, L, q.1 :: s, q.2)])
        else none)
  | _ => none
def x_ias (iv : xB) (wr : xW) (nx : Nat) (L st : List xV) (S : xS) : Option (List xQ) := match st with
  | v :: j :: (0, i, _) :: s => (match x_idx S j (a_shape i).2.2 with
      | none => none
      | some (l, h) => bif Nat.beq (a_shape i).1 100 && x_isI v && x_stok iv wr S i l h v then some [(nx, L, s, x_set S i l h v)] else none)
  | _ => none
def x_aal (nx : Nat) (L st : List xV) (S : xS) : Option (List xQ) := match st with
  | j :: (0, i, _) :: s => bif Nat.beq (a_shape i).1 102 then (match x_idx S j (a_shape i).2.2 with
      | none => none
      | some (l, h) => x_all (fun t => match (a_shape i).2.1[t]? with
        | some (some q) => some [(nx, L, (0, q, 0) :: s, x_pi S j (Int.ofNat t) (Int.ofNat t))]
        | _ => none) (List.range' l (h + 1 - l))) else none
  | _ => none
def x_aln (nx : Nat) (L st : List xV) (S : xS) : Option (List xQ) := match st with
  | (0, i, _) :: s => bif Nat.beq i a_scr then none else bif Nat.beq (a_shape i).1 100 || Nat.beq (a_shape i).1 101 || Nat.beq (a_shape i).1 102 then some [(nx, L, (2, 0, (Int32.ofNat (a_shape i).2.2).toInt) :: s, S)] else none
  | _ => none
def x_eff (iv : xB) (wr : xW) (ins : Instr) (pc nx ax : Nat) (L st : List xV) (S : xS) : Option (List xQ) := match ins with
  | .iconst n => x_psh nx (Int32.ofInt n) L st S
  | .bipush n => x_psh nx (Int8.ofInt n).toInt32 L st S
  | .sipush n => x_psh nx (Int16.ofInt n).toInt32 L st S
  | .ldc _ => x_psh nx (Int32.ofNat ax) L st S
  | .ldc_w _ => x_psh nx (Int32.ofNat ax) L st S
  | .aconst_null => some [(nx, L, (3, 0, 0) :: st, S)]
  | .iload_n k => x_li k.val nx L st S
  | .iload i => x_li i nx L st S
  | .aload_n k => x_la k.val nx L st S
  | .aload i => x_la i nx L st S
  | .istore_n k => x_si k.val nx L st S
  | .istore i => x_si i nx L st S
  | .astore_n k => x_sa k.val nx L st S
  | .astore i => x_sa i nx L st S
  | .iinc i c => x_ii i nx c L st S
  | .iadd => x_b2 x_add nx L st S
  | .isub => x_b2 x_sub nx L st S
  | .imul => x_b2 x_mul nx L st S
  | .iand => x_b2 x_and nx L st S
  | .ior => x_b2 (fun S _ _ => x_any S) nx L st S
  | .ixor => x_b2 (fun S _ _ => x_any S) nx L st S
  | .ishl => x_b2 x_shl nx L st S
  | .ishr => x_b2 (fun S _ _ => x_any S) nx L st S
  | .iushr => x_b2 (fun S _ _ => x_any S) nx L st S
  | .idiv => x_d2 x_div nx L st S
  | .irem => x_d2 x_rem nx L st S
  | .ineg => x_ng nx L st S
  | .dup => x_dup nx L st S
  | .dup2 => x_dup2 nx L st S
  | .pop => x_pop nx L st S
  | .ifCond c _ => x_k1 c ax nx L st S
  | .if_icmp c _ => x_k2 c ax nx L st S
  | .goto _ => some [(ax, L, st, S)]
  | .ifnull _ => x_nl true ax nx L st S
  | .ifnonnull _ => x_nl false ax nx L st S
  | .tableswitch d lo hi offs => x_tsw pc d lo hi offs L st S
  | .lookupswitch d ps => x_lsw pc d ps L st S
  | .getfield _ => x_gf iv nx ax L st S
  | .putfield _ => x_pf iv wr nx ax L st S
  | .getstatic _ => some [(nx, L, (0, a_ncw + ax, 0) :: st, S)]
  | .iaload => x_ial iv nx L st S
  | .iastore => x_ias iv wr nx L st S
  | .aaload => x_aal nx L st S
  | .arraylength => x_aln nx L st S
  | _ => none
/-- the abstract place q holds what the run's place s is, names as in r -/
def x_rel (iv : xB) (wr : xW) (M0 : aM) (r : List Int32) (q : xQ) (s : aS) : Prop := s.1 = q.1 ∧ x_vs r q.2.1 s.2.1 ∧ x_vs r q.2.2.1 s.2.2.1 ∧ x_gs r q.2.2.2 s.2.2.2 ∧ x_G iv wr M0 s.2.2.2
/-- what an effect owes -/
def x_goes (iv : xB) (wr : xW) (M0 : aM) (r : List Int32) (l : List xQ) (o : Option aS) : Prop := ∃ s, o = some s ∧ ∃ q ∈ l, ∃ r', x_ex r r' ∧ x_rel iv wr M0 r' q s
section XEF
variable {iv : xB} {wr : xW} {M0 M : aM} {r : List Int32} {L st : List xV} {V T : List Value} {S : xS} {l : List xQ} {nx ax pc i : Nat}
theorem x_go1 {q : xQ} {s : aS} {r' : List Int32} (h1 : x_ex r r') (h : x_rel iv wr M0 r' q s) : x_goes iv wr M0 r [q] (some s) := ⟨s, rfl, q, List.mem_cons_self .., r', h1, h⟩
theorem x_psh_ok {c : Int32} (hL : x_vs r L V) (hs : x_vs r st T) (g : x_gs r S M) (G : x_G iv wr M0 M) (h : x_psh nx c L st S = some l) : x_goes iv wr M0 r l (some (nx, V, .int c :: T, M)) := by
  unfold x_psh at h
  cases h
  exact x_go1 (x_ex_rf r) ⟨rfl, hL, ⟨⟨c, rfl, rfl⟩, hs⟩, g, G⟩
theorem x_li_ok (hL : x_vs r L V) (hs : x_vs r st T) (g : x_gs r S M) (G : x_G iv wr M0 M) (h : x_li i nx L st S = some l) : x_goes iv wr M0 r l (a_li i nx V T M) := by
  unfold x_li at h
  split at h
  next a ha =>
    cases hb : x_isI a with
    | false => rw [hb] at h; cases h
    | true =>
      rw [hb] at h
      cases h
      obtain ⟨v, h1, h2⟩ := x_vs_get hL ha
      obtain ⟨x, rfl, h3⟩ := x_v_i h2 hb
      unfold a_li
      rw [h1]
      exact x_go1 (x_ex_rf r) ⟨rfl, hL, ⟨h2, hs⟩, g, G⟩
  next => cases h
theorem x_la_ok (hL : x_vs r L V) (hs : x_vs r st T) (g : x_gs r S M) (G : x_G iv wr M0 M) (h : x_la i nx L st S = some l) : x_goes iv wr M0 r l (a_la i nx V T M) := by
  unfold x_la at h
  split at h
  next j c ha =>
    cases h
    obtain ⟨v, h1, h2⟩ := x_vs_get hL ha
    have h3 : v = .ref j := h2
    subst h3
    unfold a_la
    rw [h1]
    exact x_go1 (x_ex_rf r) ⟨rfl, hL, ⟨h2, hs⟩, g, G⟩
  next => cases h
theorem x_si_ok (hL : x_vs r L V) (hs : x_vs r st T) (g : x_gs r S M) (G : x_G iv wr M0 M) (h : x_si i nx L st S = some l) : x_goes iv wr M0 r l (a_si i nx V T M) := by
  unfold x_si at h
  split at h
  next a s =>
    match T, hs with
    | v :: T', hs =>
    cases hb : (x_isI a && Nat.blt i L.length) with
    | false => rw [hb] at h; cases h
    | true =>
      rw [hb] at h
      cases h
      rw [Bool.and_eq_true] at hb
      obtain ⟨x, rfl, h3⟩ := x_v_i hs.1 hb.1
      have hlt : i + 1 ≤ L.length := Nat.le_of_ble_eq_true hb.2
      unfold a_si
      simp only
      rw [if_pos (by rw [← x_vs_len hL]; omega)]
      exact x_go1 (x_ex_rf r) ⟨rfl, x_vs_set hL hs.1, hs.2, g, G⟩
  next => cases h
theorem x_sa_ok (hL : x_vs r L V) (hs : x_vs r st T) (g : x_gs r S M) (G : x_G iv wr M0 M) (h : x_sa i nx L st S = some l) : x_goes iv wr M0 r l (a_sa i nx V T M) := by
  unfold x_sa at h
  split at h
  next j c s =>
    match T, hs with
    | v :: T', hs =>
    cases hb : Nat.blt i L.length with
    | false => rw [hb] at h; cases h
    | true =>
      rw [hb] at h
      cases h
      have h3 : v = .ref j := hs.1
      have h4 := hs.1
      subst h3
      have hlt : i + 1 ≤ L.length := Nat.le_of_ble_eq_true hb
      unfold a_sa
      simp only
      rw [if_pos (by rw [← x_vs_len hL]; omega)]
      exact x_go1 (x_ex_rf r) ⟨rfl, x_vs_set hL h4, hs.2, g, G⟩
  next => cases h
theorem x_ii_ok {c : Int} (hL : x_vs r L V) (hs : x_vs r st T) (g : x_gs r S M) (G : x_G iv wr M0 M) (h : x_ii i nx c L st S = some l) : x_goes iv wr M0 r l (a_ii i nx c V T M) := by
  unfold x_ii at h
  split at h
  next a ha =>
    cases hb : x_isI a with
    | false => rw [hb] at h; cases h
    | true =>
      rw [hb] at h
      simp only [cond_true, Option.some.injEq] at h
      subst h
      obtain ⟨v, h1, h2⟩ := x_vs_get hL ha
      obtain ⟨x, rfl, h3⟩ := x_v_i h2 hb
      unfold a_ii
      rw [h1]
      obtain ⟨r', k1, k2, k3⟩ := x_addc_ok (y := Int32.ofInt c) (c := (Int32.ofInt c).toInt) g h3 rfl
      exact x_go1 k1 ⟨rfl, x_vs_set (x_vs_ex k1 hL) (x_i_v k3), x_vs_ex k1 hs, k2, G⟩
  next => cases h
theorem x_b2_ok {f : xS → xV → xV → xV × xS} {F : Int32 → Int32 → Int32} (hf : ∀ {r : List Int32} {S : xS} {M : aM} {a b : xV} {x y : Int32}, x_gs r S M → x_i r a x → x_i r b y → ∃ r', x_ex r r' ∧ x_gs r' (f S a b).2 M ∧ x_i r' (f S a b).1 (F x y)) (hL : x_vs r L V) (hs : x_vs r st T) (g : x_gs r S M) (G : x_G iv wr M0 M) (h : x_b2 f nx L st S = some l) : x_goes iv wr M0 r l (a_b2 F nx V T M) := by
  unfold x_b2 at h
  split at h
  next b a s =>
    match T, hs with
    | v :: u :: T', hs =>
    cases hb : (x_isI a && x_isI b) with
    | false => rw [hb] at h; cases h
    | true =>
      rw [hb] at h
      simp only [cond_true, Option.some.injEq] at h
      subst h
      rw [Bool.and_eq_true] at hb
      obtain ⟨x, rfl, h3⟩ := x_v_i hs.2.1 hb.1
      obtain ⟨y, rfl, h4⟩ := x_v_i hs.1 hb.2
      obtain ⟨r', k1, k2, k3⟩ := hf g h3 h4
      exact x_go1 k1 ⟨rfl, x_vs_ex k1 hL, ⟨x_i_v k3, x_vs_ex k1 hs.2.2⟩, k2, G⟩
  next => cases h
theorem x_d2_ok {f : xS → xV → xV → xV × xS} {F : Int32 → Int32 → Int32} (hf : ∀ {r : List Int32} {S : xS} {M : aM} {a b : xV} {x y : Int32}, x_gs r S M → x_i r a x → x_i r b y → ∃ r', x_ex r r' ∧ x_gs r' (f S a b).2 M ∧ x_i r' (f S a b).1 (F x y)) (hL : x_vs r L V) (hs : x_vs r st T) (g : x_gs r S M) (G : x_G iv wr M0 M) (h : x_d2 f nx L st S = some l) : x_goes iv wr M0 r l (a_d2 F nx V T M) := by
  unfold x_d2 at h
  split at h
  next b a s =>
    match T, hs with
    | v :: u :: T', hs =>
    cases hb : (x_isI a && x_isI b && (x_ile 1 (x_iv S.2.1 b).1 || x_ile (x_iv S.2.1 b).2 (-1))) with
    | false => rw [hb] at h; cases h
    | true =>
      rw [hb] at h
      simp only [cond_true, Option.some.injEq] at h
      subst h
      simp only [Bool.and_eq_true] at hb
      obtain ⟨⟨b1, b2⟩, b3⟩ := hb
      obtain ⟨x, rfl, h3⟩ := x_v_i hs.2.1 b1
      obtain ⟨y, rfl, h4⟩ := x_v_i hs.1 b2
      obtain ⟨r', k1, k2, k3⟩ := hf g h3 h4
      obtain ⟨i1, i2⟩ := x_iv_ok g.2.1 h4
      have hy : ¬ y = 0 := by
        intro e
        subst e
        rw [Int32.toInt_zero] at i1 i2
        rw [Bool.or_eq_true] at b3
        rcases b3 with b3 | b3
        · have := x_ile_ok.mp b3
          omega
        · have := x_ile_ok.mp b3
          omega
      unfold a_d2
      simp only
      rw [if_neg hy]
      exact x_go1 k1 ⟨rfl, x_vs_ex k1 hL, ⟨x_i_v k3, x_vs_ex k1 hs.2.2⟩, k2, G⟩
  next => cases h
theorem x_ng_ok (hL : x_vs r L V) (hs : x_vs r st T) (g : x_gs r S M) (G : x_G iv wr M0 M) (h : x_ng nx L st S = some l) : x_goes iv wr M0 r l (a_neg nx V T M) := by
  unfold x_ng at h
  split at h
  next a s =>
    match T, hs with
    | v :: T', hs =>
    cases hb : x_isI a with
    | false => rw [hb] at h; cases h
    | true =>
      rw [hb] at h
      simp only [cond_true, Option.some.injEq] at h
      subst h
      obtain ⟨x, rfl, h3⟩ := x_v_i hs.1 hb
      obtain ⟨r', k1, k2, k3⟩ := x_neg_ok g h3
      exact x_go1 k1 ⟨rfl, x_vs_ex k1 hL, ⟨x_i_v k3, x_vs_ex k1 hs.2⟩, k2, G⟩
  next => cases h
theorem x_ct_ok {a : xV} {v : Value} (h : x_v r a v) (hc : x_ct a = true) : v.category = 1 := by
  unfold x_ct at hc
  have hc := Nat.le_of_ble_eq_true hc
  unfold x_v at h
  split at h
  next => subst h; rfl
  next =>
    obtain ⟨x, -, rfl⟩ := h
    rfl
  next =>
    obtain ⟨x, rfl, -⟩ := h
    rfl
  next => subst h; rfl
  next h0 h1 h2 h3 =>
    obtain ⟨t, n, c⟩ := a
    simp only at hc
    rcases (show t = 0 ∨ t = 1 ∨ t = 2 ∨ t = 3 by omega) with e | e | e | e <;> subst e
    · exact absurd rfl (h0 _ _)
    · exact absurd rfl (h1 _ _)
    · exact absurd rfl (h2 _ _)
    · exact absurd rfl (h3 _ _)
theorem x_dup_ok (hL : x_vs r L V) (hs : x_vs r st T) (g : x_gs r S M) (G : x_G iv wr M0 M) (h : x_dup nx L st S = some l) : x_goes iv wr M0 r l (a_dup nx V T M) := by
  unfold x_dup at h
  split at h
  next a s =>
    match T, hs with
    | v :: T', hs =>
    cases hb : x_ct a with
    | false => rw [hb] at h; cases h
    | true =>
      rw [hb] at h
      cases h
      unfold a_dup
      simp only
      rw [if_pos (x_ct_ok hs.1 hb)]
      exact x_go1 (x_ex_rf r) ⟨rfl, hL, ⟨hs.1, hs.1, hs.2⟩, g, G⟩
  next => cases h
theorem x_dup2_ok (hL : x_vs r L V) (hs : x_vs r st T) (g : x_gs r S M) (G : x_G iv wr M0 M) (h : x_dup2 nx L st S = some l) : x_goes iv wr M0 r l (a_dup2 nx V T M) := by
  unfold x_dup2 at h
  split at h
  next a b s =>
    match T, hs with
    | v :: u :: T', hs =>
    cases hb : (x_ct a && x_ct b) with
    | false => rw [hb] at h; cases h
    | true =>
      rw [hb] at h
      cases h
      rw [Bool.and_eq_true] at hb
      unfold a_dup2
      simp only
      rw [if_pos ⟨x_ct_ok hs.1 hb.1, x_ct_ok hs.2.1 hb.2⟩]
      exact x_go1 (x_ex_rf r) ⟨rfl, hL, ⟨hs.1, hs.2.1, hs.1, hs.2.1, hs.2.2⟩, g, G⟩
  next => cases h
theorem x_pop_ok (hL : x_vs r L V) (hs : x_vs r st T) (g : x_gs r S M) (G : x_G iv wr M0 M) (h : x_pop nx L st S = some l) : x_goes iv wr M0 r l (a_pop nx V T M) := by
  unfold x_pop at h
  split at h
  next a s =>
    match T, hs with
    | v :: T', hs =>
    cases hb : x_ct a with
    | false => rw [hb] at h; cases h
    | true =>
      rw [hb] at h
      cases h
      unfold a_pop
      simp only
      rw [if_pos (x_ct_ok hs.1 hb)]
      exact x_go1 (x_ex_rf r) ⟨rfl, hL, hs.2, g, G⟩
  next => cases h
theorem x_br_ok {c : Jvm.ClassFile.Cond} {a b : xV} {x y : Int32} {s : List xV} {T : List Value} (hL : x_vs r L V) (hs : x_vs r s T) (g : x_gs r S M) (G : x_G iv wr M0 M) (ha : x_i r a x) (hb : x_i r b y) : x_goes iv wr M0 r (x_br c ax nx L s S a b) (bif a_cf2 c x y then some (ax, V, T, M) else some (nx, V, T, M)) := by
  unfold x_br
  cases hc : a_cf2 c x y with
  | true =>
    obtain ⟨S1, e, g1⟩ := x_cond_ok g ha hb hc
    rw [e]
    exact ⟨_, rfl, (ax, L, s, S1), List.mem_append_left _ (List.mem_cons_self ..), r, x_ex_rf r, rfl, hL, hs, g1, G⟩
  | false =>
    obtain ⟨S1, e, g1⟩ := x_cond_ok g ha hb (x_not_ok hc)
    rw [e]
    exact ⟨_, rfl, (nx, L, s, S1), List.mem_append_right _ (List.mem_cons_self ..), r, x_ex_rf r, rfl, hL, hs, g1, G⟩
theorem x_k1_ok {c : Jvm.ClassFile.Cond} (hL : x_vs r L V) (hs : x_vs r st T) (g : x_gs r S M) (G : x_G iv wr M0 M) (h : x_k1 c ax nx L st S = some l) : x_goes iv wr M0 r l (a_k1 (a_cf1 c) ax nx V T M) := by
  unfold x_k1 at h
  split at h
  next a s =>
    match T, hs with
    | v :: T', hs =>
    cases hb : x_isI a with
    | false => rw [hb] at h; cases h
    | true =>
      rw [hb] at h
      cases h
      obtain ⟨x, rfl, h3⟩ := x_v_i hs.1 hb
      unfold a_k1
      simp only [x_cf1]
      exact x_br_ok hL hs.2 g G h3 (show (0 : Int32).toInt = 0 from Int32.toInt_zero)
  next => cases h
theorem x_k2_ok {c : Jvm.ClassFile.Cond} (hL : x_vs r L V) (hs : x_vs r st T) (g : x_gs r S M) (G : x_G iv wr M0 M) (h : x_k2 c ax nx L st S = some l) : x_goes iv wr M0 r l (a_k2 (a_cf2 c) ax nx V T M) := by
  unfold x_k2 at h
  split at h
  next b a s =>
    match T, hs with
    | v :: u :: T', hs =>
    cases hb : (x_isI a && x_isI b) with
    | false => rw [hb] at h; cases h
    | true =>
      rw [hb] at h
      cases h
      rw [Bool.and_eq_true] at hb
      obtain ⟨x, rfl, h3⟩ := x_v_i hs.2.1 hb.1
      obtain ⟨y, rfl, h4⟩ := x_v_i hs.1 hb.2
      exact x_br_ok hL hs.2.2 g G h3 h4
  next => cases h
theorem x_nl_ok {t : Bool} (hL : x_vs r L V) (hs : x_vs r st T) (g : x_gs r S M) (G : x_G iv wr M0 M) (h : x_nl t ax nx L st S = some l) : x_goes iv wr M0 r l (a_nl t ax nx V T M) := by
  unfold x_nl at h
  split at h
  next j c s =>
    match T, hs with
    | v :: T', hs =>
    cases h
    have h3 : v = .ref j := hs.1
    subst h3
    unfold a_nl
    simp only
    cases t
    · exact x_go1 (x_ex_rf r) ⟨rfl, hL, hs.2, g, G⟩
    · exact x_go1 (x_ex_rf r) ⟨rfl, hL, hs.2, g, G⟩
  next j c s =>
    match T, hs with
    | v :: T', hs =>
    cases h
    have h3 : v = .null := hs.1
    subst h3
    unfold a_nl
    simp only
    cases t
    · exact x_go1 (x_ex_rf r) ⟨rfl, hL, hs.2, g, G⟩
    · exact x_go1 (x_ex_rf r) ⟨rfl, hL, hs.2, g, G⟩
  next => cases h
theorem x_jp_ok {off : Int} {s : List xV} {q : xQ} {T : List Value} (hL : x_vs r L V) (hs : x_vs r s T) (g : x_gs r S M) (G : x_G iv wr M0 M) (h : x_jp pc off L s S = some q) : ∃ z, a_jmp pc off V T M = some z ∧ x_rel iv wr M0 r q z := by
  unfold x_jp at h
  split at h
  next t ht =>
    cases h
    unfold a_jmp
    rw [ht]
    exact ⟨_, rfl, rfl, hL, hs, g, G⟩
  next => cases h
theorem x_o1_ok {B : Type} {o : Option B} {l : List B} (h : x_o1 o = some l) : ∃ b, o = some b ∧ l = [b] := by
  unfold x_o1 at h
  split at h
  next b => cases h; exact ⟨b, rfl, rfl⟩
  next => cases h
theorem x_tsw_ok {d lo hi : Int} {offs : Array Int} (hL : x_vs r L V) (hs : x_vs r st T) (g : x_gs r S M) (G : x_G iv wr M0 M) (h : x_tsw pc d lo hi offs L st S = some l) : x_goes iv wr M0 r l (a_tsw pc d lo hi offs V T M) := by
  unfold x_tsw at h
  split at h
  next a s =>
    match T, hs with
    | v :: T', hs =>
    cases hb : x_isI a with
    | false => rw [hb] at h; cases h
    | true =>
      rw [hb] at h
      simp only [cond_true] at h
      obtain ⟨x, rfl, h3⟩ := x_v_i hs.1 hb
      obtain ⟨i1, i2⟩ := x_iv_ok g.2.1 h3
      split at h
      next => cases h
      next u hu =>
        split at h
        next => cases h
        next w hw =>
          cases h
          unfold a_tsw
          simp only
          by_cases hc : x.toInt < lo ∨ hi < x.toInt
          · rw [if_pos hc]
            have hcc : (x_ile lo (x_iv S.2.1 a).1 && x_ile (x_iv S.2.1 a).2 hi) = false := by
              cases hq : (x_ile lo (x_iv S.2.1 a).1 && x_ile (x_iv S.2.1 a).2 hi) with
              | false => rfl
              | true =>
                rw [Bool.and_eq_true] at hq
                have q1 := x_ile_ok.mp hq.1
                have q2 := x_ile_ok.mp hq.2
                omega
            rw [hcc] at hu
            simp only [cond_false] at hu
            obtain ⟨q, hq, rfl⟩ := x_o1_ok hu
            obtain ⟨z, z1, z2⟩ := x_jp_ok hL hs.2 g G hq
            exact ⟨z, z1, q, List.mem_append_left _ (List.mem_cons_self ..), r, x_ex_rf r, z2⟩
          · rw [if_neg hc]
            have hk : x.toInt = lo + Int.ofNat (x.toInt - lo).toNat := by
              have : Int.ofNat (x.toInt - lo).toNat = x.toInt - lo := by
                show ((x.toInt - lo).toNat : Int) = x.toInt - lo
                omega
              omega
            obtain ⟨u', f1, f2⟩ := x_all_ok hw (x.toInt - lo).toNat (List.mem_range.mpr (by omega))
            rw [← hk] at f1
            have hcc : (x_ile (x_iv S.2.1 a).1 x.toInt && x_ile x.toInt (x_iv S.2.1 a).2) = true := by
              rw [Bool.and_eq_true]
              exact ⟨x_ile_ok.mpr i1, x_ile_ok.mpr i2⟩
            rw [hcc] at f1
            simp only [cond_true] at f1
            split at f1
            next o ho =>
              rw [ho]
              simp only
              obtain ⟨q, hq, rfl⟩ := x_o1_ok f1
              obtain ⟨z, z1, z2⟩ := x_jp_ok hL hs.2 (x_pi_ok g h3 (Int.le_refl _) (Int.le_refl _)) G hq
              exact ⟨z, z1, q, List.mem_append_right _ (f2 q (List.mem_cons_self ..)), r, x_ex_rf r, z2⟩
            next => cases f1
  next => cases h
theorem x_lo {d k : Int} : ∀ {ps : List (Int × Int)}, (Op.lookupswitch.offset ps d k = d) ∨ ∃ q ∈ ps, q.1 = k ∧ Op.lookupswitch.offset ps d k = q.2
  | [] => Or.inl rfl
  | (a, o) :: t => by
    rw [Op.lookupswitch.offset_cons]
    by_cases h : a = k
    · rw [if_pos h]
      exact Or.inr ⟨(a, o), List.mem_cons_self .., h, rfl⟩
    · rw [if_neg h]
      rcases @x_lo d k t with h1 | ⟨q, q1, q2, q3⟩
      · exact Or.inl h1
      · exact Or.inr ⟨q, List.mem_cons_of_mem _ q1, q2, q3⟩
theorem x_lsw_ok {d : Int} {ps : Array (Int × Int)} (hL : x_vs r L V) (hs : x_vs r st T) (g : x_gs r S M) (G : x_G iv wr M0 M) (h : x_lsw pc d ps L st S = some l) : x_goes iv wr M0 r l (a_lsw pc d ps V T M) := by
  unfold x_lsw at h
  split at h
  next a s =>
    match T, hs with
    | v :: T', hs =>
    cases hb : x_isI a with
    | false => rw [hb] at h; cases h
    | true =>
      rw [hb] at h
      simp only [cond_true] at h
      obtain ⟨x, rfl, h3⟩ := x_v_i hs.1 hb
      obtain ⟨i1, i2⟩ := x_iv_ok g.2.1 h3
      unfold a_lsw
      simp only
      rcases @x_lo d x.toInt ps.toList with e | ⟨q, q1, q2, e⟩
      · rw [e]
        obtain ⟨u, f1, f2⟩ := x_all_ok h none (List.mem_cons_self ..)
        obtain ⟨q, hq, rfl⟩ := x_o1_ok f1
        obtain ⟨z, z1, z2⟩ := x_jp_ok hL hs.2 g G hq
        exact ⟨z, z1, q, f2 q (List.mem_cons_self ..), r, x_ex_rf r, z2⟩
      · rw [e]
        obtain ⟨u, f1, f2⟩ := x_all_ok h (some q) (List.mem_cons_of_mem _ (List.mem_map.mpr ⟨q, q1, rfl⟩))
        simp only at f1
        rw [q2] at f1
        have hcc : (x_ile (x_iv S.2.1 a).1 x.toInt && x_ile x.toInt (x_iv S.2.1 a).2) = true := by
          rw [Bool.and_eq_true]
          exact ⟨x_ile_ok.mpr i1, x_ile_ok.mpr i2⟩
        rw [hcc] at f1
        simp only [cond_true] at f1
        obtain ⟨q', hq, rfl⟩ := x_o1_ok f1
        obtain ⟨z, z1, z2⟩ := x_jp_ok hL hs.2 (x_pi_ok g h3 (Int.le_refl _) (Int.le_refl _)) G hq
        exact ⟨z, z1, q', f2 q' (List.mem_cons_self ..), r, x_ex_rf r, z2⟩
  next => cases h
theorem x_gf_ok {w : aW} (hw : ∀ i, w.1 i = true) (hL : x_vs r L V) (hs : x_vs r st T) (g : x_gs r S M) (G : x_G iv wr M0 M) (h : x_gf iv nx ax L st S = some l) : x_goes iv wr M0 r l (a_gf w nx ax V T M) := by
  unfold x_gf at h
  split at h
  next i c s =>
    match T, hs with
    | v :: T', hs =>
    have h3 : v = .ref i := hs.1
    subst h3
    cases hb : (Nat.blt i a_ncw && Nat.beq (a_shape i).1 (ax / 64)) with
    | false => rw [hb] at h; cases h
    | true =>
      rw [hb] at h
      simp only [cond_true] at h
      rw [Bool.and_eq_true] at hb
      have b1 : i + 1 ≤ a_ncw := Nat.le_of_ble_eq_true hb.1
      have b2 := Nat.eq_of_beq_eq_true hb.2
      unfold a_gf a_getf
      simp only
      rw [if_pos (by omega), if_pos b2]
      split at h
      next j hj =>
        cases h
        rw [hj]
        exact x_go1 (x_ex_rf r) ⟨rfl, hL, ⟨rfl, hs.2⟩, g, G⟩
      next hj =>
        simp only [Option.some.injEq] at h
        subst h
        rw [hj]
        simp only [hw i, if_true]
        obtain ⟨r', k1, k2, k3⟩ := x_get_ok i (ax % 64) g G.1
        exact x_go1 k1 ⟨rfl, x_vs_ex k1 hL, ⟨x_i_v k3, x_vs_ex k1 hs.2⟩, k2, G⟩
      next => cases h
  next => cases h
theorem x_pf_ok {w : aW} (hw : ∀ i, w.1 i = true) (hL : x_vs r L V) (hs : x_vs r st T) (g : x_gs r S M) (G : x_G iv wr M0 M) (h : x_pf iv wr nx ax L st S = some l) : x_goes iv wr M0 r l (a_pf w nx ax V T M) := by
  unfold x_pf at h
  split at h
  next a i c s =>
    match T, hs with
    | u :: v :: T', hs =>
    have h3 : v = .ref i := hs.2.1
    subst h3
    cases hb : (Nat.blt i a_ncw && Nat.beq (a_shape i).1 (ax / 64) && x_isI a && (a_isI (ax / 64) (ax % 64) || (a_isB (ax / 64) (ax % 64) && x_in01 S a)) && x_stok iv wr S i (ax % 64) (ax % 64) a) with
    | false => rw [hb] at h; cases h
    | true =>
      rw [hb] at h
      simp only [cond_true] at h
      simp only [Bool.and_eq_true] at hb
      obtain ⟨⟨⟨⟨b1, b2⟩, b3⟩, b4⟩, b5⟩ := hb
      have b1 : i + 1 ≤ a_ncw := Nat.le_of_ble_eq_true b1
      have b2 := Nat.eq_of_beq_eq_true b2
      obtain ⟨x, rfl, h4⟩ := x_v_i hs.1 b3
      have b6 : a_isI (ax / 64) (ax % 64) = true ∨ (a_isB (ax / 64) (ax % 64) = true ∧ (x = 0 ∨ x = 1)) := by
        rw [Bool.or_eq_true] at b4
        rcases b4 with b4 | b4
        · exact Or.inl b4
        · rw [Bool.and_eq_true] at b4
          exact Or.inr ⟨b4.1, x_in01_ok g h4 b4.2⟩
      split at h
      next hj =>
        cases h
        unfold a_pf a_putf
        simp only
        rw [if_pos ⟨by omega, hw i⟩, if_pos b2, hj]
        simp only
        rw [if_pos b6]
        exact x_go1 (x_ex_rf r) ⟨rfl, hL, hs.2.2, x_set_ok g h4 (Nat.le_refl _) (Nat.le_refl _), x_stok_ok g G h4 (Nat.le_refl _) (Nat.le_refl _) b5⟩
      next => cases h
  next => cases h
theorem x_ial_ok {w : aW} (hw : ∀ i, w.1 i = true) (hL : x_vs r L V) (hs : x_vs r st T) (g : x_gs r S M) (G : x_G iv wr M0 M) (h : x_ial iv nx L st S = some l) : x_goes iv wr M0 r l (a_ial w nx V T M) := by
  unfold x_ial at h
  split at h
  next j i c s =>
    match T, hs with
    | u :: v :: T', hs =>
    have h3 : v = .ref i := hs.2.1
    subst h3
    cases hsc : Nat.beq i a_scr with
    | true => rw [hsc] at h; cases h
    | false =>
      rw [hsc] at h
      simp only [cond_false] at h
      have hsc := x_nb hsc
      split at h
      next => cases h
      next lo hi hx =>
        have hji : x_isI j = true := by
          unfold x_idx at hx
          simp only at hx
          cases hc : x_isI j with
          | true => rfl
          | false => rw [hc] at hx; simp at hx
        obtain ⟨y, rfl, h4⟩ := x_v_i hs.1 hji
        obtain ⟨y1, y2, y3, y4⟩ := x_idx_ok g h4 hx
        unfold a_ial a_ald
        simp only
        rw [if_neg hsc]
        cases hb : (Nat.blt i a_ncw && Nat.beq (a_shape i).1 100) with
        | true =>
          rw [hb] at h
          simp only [cond_true, Option.some.injEq] at h
          subst h
          rw [Bool.and_eq_true] at hb
          have b1 : i + 1 ≤ a_ncw := Nat.le_of_ble_eq_true hb.1
          have b2 := Nat.eq_of_beq_eq_true hb.2
          rw [if_pos ⟨Or.inl ⟨b2, hw i⟩, y1, y2⟩]
          obtain ⟨r', k1, k2, k3⟩ := x_getr_ok (i := i) g G.1 h4 y3 y4
          have hr : a_rd M i y.toNatClampNeg = M i y.toNatClampNeg := by
            unfold a_rd
            rw [if_pos (by omega)]
          rw [hr]
          exact x_go1 k1 ⟨rfl, x_vs_ex k1 hL, ⟨x_i_v k3, x_vs_ex k1 hs.2.2⟩, k2, G⟩
        | false =>
          rw [hb] at h
          simp only [cond_false] at h
          cases hb2 : (Nat.beq (a_shape i).1 101 && Nat.ble a_ncw i) with
          | false => rw [hb2] at h; cases h
          | true =>
            rw [hb2] at h
            simp only [cond_true, Option.some.injEq] at h
            subst h
            rw [Bool.and_eq_true] at hb2
            have b1 := Nat.eq_of_beq_eq_true hb2.1
            have b2 := Nat.le_of_ble_eq_true hb2.2
            rw [if_pos ⟨Or.inr b1, y1, y2⟩]
            have hr : a_rd M i y.toNatClampNeg = (a_scl i).getD y.toNatClampNeg 0 := by
              unfold a_rd
              rw [if_neg (by omega)]
            rw [hr]
            cases hlh : Nat.beq lo hi with
            | true =>
              have := Nat.eq_of_beq_eq_true hlh
              have : y.toNatClampNeg = lo := by omega
              rw [this]
              exact x_go1 (x_ex_rf r) ⟨rfl, hL, ⟨⟨_, rfl, rfl⟩, hs.2.2⟩, g, G⟩
            | false =>
              obtain ⟨r', k1, k2, k3⟩ := x_any_ok ((a_scl i).getD y.toNatClampNeg 0) g
              exact x_go1 k1 ⟨rfl, x_vs_ex k1 hL, ⟨x_i_v k3, x_vs_ex k1 hs.2.2⟩, k2, G⟩
  next => cases h
theorem x_ias_ok {w : aW} (hw : ∀ i, w.1 i = true) (hL : x_vs r L V) (hs : x_vs r st T) (g : x_gs r S M) (G : x_G iv wr M0 M) (h : x_ias iv wr nx L st S = some l) : x_goes iv wr M0 r l (a_ias w nx V T M) := by
  unfold x_ias at h
  split at h
  next a j i c s =>
    match T, hs with
    | t :: u :: v :: T', hs =>
    have h3 : v = .ref i := hs.2.2.1
    subst h3
    split at h
    next => cases h
    next lo hi hx =>
      have hji : x_isI j = true := by
        unfold x_idx at hx
        simp only at hx
        cases hc : x_isI j with
        | true => rfl
        | false => rw [hc] at hx; simp at hx
      obtain ⟨y, rfl, h4⟩ := x_v_i hs.2.1 hji
      obtain ⟨y1, y2, y3, y4⟩ := x_idx_ok g h4 hx
      cases hb : (Nat.beq (a_shape i).1 100 && x_isI a && x_stok iv wr S i lo hi a) with
      | false => rw [hb] at h; cases h
      | true =>
        rw [hb] at h
        cases h
        simp only [Bool.and_eq_true] at hb
        obtain ⟨⟨b1, b2⟩, b3⟩ := hb
        have b1 := Nat.eq_of_beq_eq_true b1
        obtain ⟨x, rfl, h5⟩ := x_v_i hs.1 b2
        unfold a_ias a_ast
        simp only
        rw [if_pos ⟨⟨b1, hw i⟩, y1, y2⟩]
        exact x_go1 (x_ex_rf r) ⟨rfl, hL, hs.2.2.2, x_set_ok g h5 y3 y4, x_stok_ok g G h5 y3 y4 b3⟩
  next => cases h
theorem x_aal_ok (hL : x_vs r L V) (hs : x_vs r st T) (g : x_gs r S M) (G : x_G iv wr M0 M) (h : x_aal nx L st S = some l) : x_goes iv wr M0 r l (a_aal nx V T M) := by
  unfold x_aal at h
  split at h
  next j i c s =>
    match T, hs with
    | u :: v :: T', hs =>
    have h3 : v = .ref i := hs.2.1
    subst h3
    cases hb : Nat.beq (a_shape i).1 102 with
    | false => rw [hb] at h; cases h
    | true =>
      rw [hb] at h
      simp only [cond_true] at h
      have hb := Nat.eq_of_beq_eq_true hb
      split at h
      next => cases h
      next lo hi hx =>
        have hji : x_isI j = true := by
          unfold x_idx at hx
          simp only at hx
          cases hc : x_isI j with
          | true => rfl
          | false => rw [hc] at hx; simp at hx
        obtain ⟨y, rfl, h4⟩ := x_v_i hs.1 hji
        obtain ⟨y1, y2, y3, y4⟩ := x_idx_ok g h4 hx
        obtain ⟨u', f1, f2⟩ := x_all_ok h y.toNatClampNeg (by
          rw [List.mem_range']
          exact ⟨y.toNatClampNeg - lo, by omega, by omega⟩)
        unfold a_aal a_aald
        simp only
        rw [if_pos ⟨hb, y1, y2⟩]
        split at f1
        next q hq =>
          cases f1
          rw [hq]
          have e : y.toInt = Int.ofNat y.toNatClampNeg := by
            have e1 : y.toNatClampNeg = y.toInt.toNat := (Int32.toNat_toInt y).symm
            rw [Int32.lt_iff_toInt_lt, Int32.toInt_zero] at y1
            show y.toInt = (y.toNatClampNeg : Int)
            omega
          exact ⟨_, rfl, _, f2 _ (List.mem_cons_self ..), r, x_ex_rf r, rfl, hL, ⟨rfl, hs.2.2⟩, x_pi_ok g h4 (by omega) (by omega), G⟩
        next => cases f1
  next => cases h
theorem x_aln_ok {w : aW} (hL : x_vs r L V) (hs : x_vs r st T) (g : x_gs r S M) (G : x_G iv wr M0 M) (h : x_aln nx L st S = some l) : x_goes iv wr M0 r l (a_aln w nx V T M) := by
  unfold x_aln at h
  split at h
  next i c s =>
    match T, hs with
    | v :: T', hs =>
    have h3 : v = .ref i := hs.1
    subst h3
    cases hsc : Nat.beq i a_scr with
    | true => rw [hsc] at h; cases h
    | false =>
      rw [hsc] at h
      simp only [cond_false] at h
      have hsc := x_nb hsc
      cases hb : (Nat.beq (a_shape i).1 100 || Nat.beq (a_shape i).1 101 || Nat.beq (a_shape i).1 102) with
      | false => rw [hb] at h; cases h
      | true =>
        rw [hb] at h
        cases h
        unfold a_aln a_alen
        simp only
        rw [if_neg hsc, if_pos]
        · exact x_go1 (x_ex_rf r) ⟨rfl, hL, ⟨⟨_, rfl, rfl⟩, hs.2⟩, g, G⟩
        · simp only [Bool.or_eq_true] at hb
          rcases hb with (hb | hb) | hb
          · exact Or.inl (Nat.eq_of_beq_eq_true hb)
          · exact Or.inr (Or.inl (Nat.eq_of_beq_eq_true hb))
          · exact Or.inr (Or.inr (Nat.eq_of_beq_eq_true hb))
  next => cases h
theorem x_eff_ok {w : aW} {ins : Instr} (hw : ∀ i, w.1 i = true) (hL : x_vs r L V) (hs : x_vs r st T) (g : x_gs r S M) (G : x_G iv wr M0 M) (h : x_eff iv wr ins pc nx ax L st S = some l) : x_goes iv wr M0 r l (a_eff w ins pc nx ax V T M) := by
  cases ins with
  | iconst n => exact x_psh_ok hL hs g G h
  | bipush n => exact x_psh_ok hL hs g G h
  | sipush n => exact x_psh_ok hL hs g G h
  | ldc n => exact x_psh_ok hL hs g G h
  | ldc_w n => exact x_psh_ok hL hs g G h
  | aconst_null =>
    cases h
    exact x_go1 (x_ex_rf r) ⟨rfl, hL, ⟨rfl, hs⟩, g, G⟩
  | iload_n k => exact x_li_ok hL hs g G h
  | iload i => exact x_li_ok hL hs g G h
  | aload_n k => exact x_la_ok hL hs g G h
  | aload i => exact x_la_ok hL hs g G h
  | istore_n k => exact x_si_ok hL hs g G h
  | istore i => exact x_si_ok hL hs g G h
  | astore_n k => exact x_sa_ok hL hs g G h
  | astore i => exact x_sa_ok hL hs g G h
  | iinc i c => exact x_ii_ok hL hs g G h
  | iadd => exact x_b2_ok x_add_ok hL hs g G h
  | isub => exact x_b2_ok x_sub_ok hL hs g G h
  | imul => exact x_b2_ok x_mul_ok hL hs g G h
  | iand => exact x_b2_ok x_and_ok hL hs g G h
  | ior => exact x_b2_ok (fun g _ _ => x_any_ok _ g) hL hs g G h
  | ixor => exact x_b2_ok (fun g _ _ => x_any_ok _ g) hL hs g G h
  | ishl => exact x_b2_ok x_shl_ok hL hs g G h
  | ishr => exact x_b2_ok (fun g _ _ => x_any_ok _ g) hL hs g G h
  | iushr => exact x_b2_ok (fun g _ _ => x_any_ok _ g) hL hs g G h
  | idiv => exact x_d2_ok x_div_ok hL hs g G h
  | irem => exact x_d2_ok x_rem_ok hL hs g G h
  | ineg => exact x_ng_ok hL hs g G h
  | dup => exact x_dup_ok hL hs g G h
  | dup2 => exact x_dup2_ok hL hs g G h
  | pop => exact x_pop_ok hL hs g G h
  | ifCond c o => exact x_k1_ok hL hs g G h
  | if_icmp c o => exact x_k2_ok hL hs g G h
  | goto o =>
    cases h
    exact x_go1 (x_ex_rf r) ⟨rfl, hL, hs, g, G⟩
  | ifnull o => exact x_nl_ok hL hs g G h
  | ifnonnull o => exact x_nl_ok hL hs g G h
  | tableswitch d lo hi offs => exact x_tsw_ok hL hs g G h
  | lookupswitch d ps => exact x_lsw_ok hL hs g G h
  | getfield c => exact x_gf_ok hw hL hs g G h
  | putfield c => exact x_pf_ok hw hL hs g G h
  | getstatic c =>
    cases h
    exact x_go1 (x_ex_rf r) ⟨rfl, hL, ⟨rfl, hs⟩, g, G⟩
  | iaload => exact x_ial_ok hw hL hs g G h
  | iastore => exact x_ias_ok hw hL hs g G h
  | aaload => exact x_aal_ok hL hs g G h
  | arraylength => exact x_aln_ok hL hs g G h
  | _ => cases h
end XEF
