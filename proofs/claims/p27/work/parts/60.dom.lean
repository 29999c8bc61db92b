/-! reckoning with bounds: what holds of every run of a method from every memory within bounds. A name stands for a whole number that is not known. -/
abbrev xV : Type := Nat × Nat × Int
abbrev xS : Type := Nat × List (Nat × Int × Int) × List (Nat × Nat × Int) × List (Nat × Nat × xV)
/-- what a value may be: (0, j) the reference j; (1, n) the whole number of name n; (2, _, c) the whole number c; (3) null -/
def x_v (r : List Int32) (a : xV) (v : Value) : Prop := match a with
  | (0, j, _) => v = .ref j
  | (1, n, _) => ∃ x, r[n]? = some x ∧ v = .int x
  | (2, _, c) => ∃ x : Int32, v = .int x ∧ x.toInt = c
  | (3, _, _) => v = .null
  | _ => True
def x_i (r : List Int32) (a : xV) (x : Int32) : Prop := match a with
  | (1, n, _) => r[n]? = some x
  | (2, _, c) => x.toInt = c
  | _ => False
def x_isI (a : xV) : Bool := match a with
  | (1, _, _) => true
  | (2, _, _) => true
  | _ => false
theorem x_v_i {r : List Int32} {a : xV} {v : Value} (h : x_v r a v) (hi : x_isI a = true) : ∃ x, v = .int x ∧ x_i r a x := by
  unfold x_isI at hi
  split at hi
  next n c =>
    obtain ⟨x, h1, h2⟩ := h
    exact ⟨x, h2, h1⟩
  next c =>
    obtain ⟨x, h1, h2⟩ := h
    exact ⟨x, h1, h2⟩
  next => cases hi
theorem x_i_v {r : List Int32} {a : xV} {x : Int32} (h : x_i r a x) : x_v r a (.int x) := by
  unfold x_i at h
  split at h
  next n c => exact ⟨x, h, rfl⟩
  next c => exact ⟨x, rfl, h⟩
  next => cases h
theorem x_i_isI {r : List Int32} {a : xV} {x : Int32} (h : x_i r a x) : x_isI a = true := by
  unfold x_i at h
  split at h
  next n c => rfl
  next c => rfl
  next => cases h
def x_vs (r : List Int32) : List xV → List Value → Prop
  | [], [] => True
  | a :: s, v :: t => x_v r a v ∧ x_vs r s t
  | _, _ => False
theorem x_vs_len {r : List Int32} : ∀ {A : List xV} {V : List Value}, x_vs r A V → A.length = V.length
  | [], [], _ => rfl
  | a :: s, v :: t, h => by simp [x_vs_len h.2]
  | [], _ :: _, h => h.elim
  | _ :: _, [], h => h.elim
theorem x_vs_get {r : List Int32} : ∀ {A : List xV} {V : List Value} {i : Nat} {a : xV}, x_vs r A V → A[i]? = some a → ∃ v, V[i]? = some v ∧ x_v r a v
  | [], _, _, _, _, h => by simp at h
  | a :: s, v :: t, 0, b, h, hg => by
    simp at hg
    subst hg
    exact ⟨v, rfl, h.1⟩
  | a :: s, v :: t, i + 1, b, h, hg => by
    obtain ⟨u, h1, h2⟩ := x_vs_get (i := i) h.2 (by simpa using hg)
    exact ⟨u, by simpa using h1, h2⟩
  | _ :: _, [], _, _, h, _ => h.elim
theorem x_vs_set {r : List Int32} : ∀ {A : List xV} {V : List Value} {i : Nat} {a : xV} {v : Value}, x_vs r A V → x_v r a v → x_vs r (A.set i a) (V.set i v)
  | [], [], _, _, _, _, _ => trivial
  | a :: s, v :: t, 0, b, u, h, hg => ⟨hg, h.2⟩
  | a :: s, v :: t, i + 1, b, u, h, hg => ⟨h.1, x_vs_set (i := i) h.2 hg⟩
  | [], _ :: _, _, _, _, h, _ => h.elim
  | _ :: _, [], _, _, _, h, _ => h.elim
theorem x_vs_app {r : List Int32} : ∀ {A B : List xV} {V W : List Value}, x_vs r A V → x_vs r B W → x_vs r (A ++ B) (V ++ W)
  | [], _, [], _, _, h => h
  | a :: s, _, v :: t, _, h, g => ⟨h.1, x_vs_app h.2 g⟩
  | [], _, _ :: _, _, h, _ => h.elim
  | _ :: _, _, [], _, h, _ => h.elim
/-- more names, the old ones as they were -/
def x_ex (r r' : List Int32) : Prop := ∃ t, r' = r ++ t
theorem x_ex_rf (r : List Int32) : x_ex r r := ⟨[], by simp⟩
theorem x_ex_tr {r r' r'' : List Int32} (h : x_ex r r') (g : x_ex r' r'') : x_ex r r'' := by
  obtain ⟨t, rfl⟩ := h
  obtain ⟨u, rfl⟩ := g
  exact ⟨t ++ u, by simp⟩
theorem x_ex_lt {r r' : List Int32} (h : x_ex r r') {n : Nat} (hn : n < r.length) : r'[n]? = r[n]? := by
  obtain ⟨t, rfl⟩ := h
  exact List.getElem?_append_left hn
theorem x_ex_at {r r' : List Int32} (h : x_ex r r') {n : Nat} {x : Int32} (hn : r[n]? = some x) : r'[n]? = some x := by
  rw [x_ex_lt h (List.getElem?_eq_some_iff.mp hn).1, hn]
theorem x_ex_len {r r' : List Int32} (h : x_ex r r') : r.length ≤ r'.length := by
  obtain ⟨t, rfl⟩ := h
  simp
theorem x_v_ex {r r' : List Int32} (h : x_ex r r') {a : xV} {v : Value} (g : x_v r a v) : x_v r' a v := by
  unfold x_v at g ⊢
  split at g
  next => exact g
  next =>
    obtain ⟨x, g1, g2⟩ := g
    exact ⟨x, x_ex_at h g1, g2⟩
  next => exact g
  next => exact g
  next => trivial
theorem x_i_ex {r r' : List Int32} (h : x_ex r r') {a : xV} {x : Int32} (g : x_i r a x) : x_i r' a x := by
  unfold x_i at g ⊢
  split at g
  next => exact x_ex_at h g
  next => exact g
  next => exact g.elim
theorem x_vs_ex {r r' : List Int32} (h : x_ex r r') : ∀ {A : List xV} {V : List Value}, x_vs r A V → x_vs r' A V
  | [], [], _ => trivial
  | _ :: _, _ :: _, g => ⟨x_v_ex h g.1, x_vs_ex h g.2⟩
  | [], _ :: _, g => g.elim
  | _ :: _, [], g => g.elim
/-! whole numbers, compared as the kernel likes it -/
def x_ile (a b : Int) : Bool := match a, b with
  | .ofNat m, .ofNat n => Nat.ble m n
  | .negSucc _, .ofNat _ => true
  | .ofNat _, .negSucc _ => false
  | .negSucc m, .negSucc n => Nat.ble n m
theorem x_ile_ok {a b : Int} : x_ile a b = true ↔ a ≤ b := by
  unfold x_ile
  split
  next m n =>
    rw [Nat.ble_eq]
    exact (Int.ofNat_le).symm
  next m n =>
    have e : Int.ofNat n = (n : Int) := rfl
    exact ⟨fun _ => by omega, fun _ => rfl⟩
  next m n =>
    have e : Int.ofNat m = (m : Int) := rfl
    exact ⟨fun h => by (cases h), fun h => by omega⟩
  next m n =>
    rw [Nat.ble_eq]
    omega
def x_mn : Int := Int.negSucc 2147483647
def x_mx : Int := Int.ofNat 2147483647
theorem x_mn_e : x_mn = -2147483648 := rfl
theorem x_mx_e : x_mx = 2147483647 := rfl
theorem x_mn_le (x : Int32) : x_mn ≤ x.toInt := by
  have h := x.le_toInt
  rw [x_mn_e]
  omega
theorem x_le_mx (x : Int32) : x.toInt ≤ x_mx := by
  have h := x.toInt_lt
  rw [x_mx_e]
  omega
theorem x_bm {n : Int} (h1 : x_mn ≤ n) (h2 : n ≤ x_mx) : n.bmod (2 ^ 32) = n := Int.bmod_eq_of_le (by rw [x_mn_e] at h1; omega) (by rw [x_mx_e] at h2; omega)
/-! bounds of names -/
def x_lk : List (Nat × Int × Int) → Nat → Int × Int
  | [], _ => (x_mn, x_mx)
  | e :: t, n => bif Nat.beq e.1 n then e.2 else x_lk t n
def x_iv (iv : List (Nat × Int × Int)) (a : xV) : Int × Int := match a with
  | (1, n, _) => x_lk iv n
  | (2, _, c) => (c, c)
  | _ => (x_mn, x_mx)
def x_giv (r : List Int32) (iv : List (Nat × Int × Int)) : Prop := ∀ e ∈ iv, ∃ x, r[e.1]? = some x ∧ e.2.1 ≤ x.toInt ∧ x.toInt ≤ e.2.2
def x_gdf (r : List Int32) (df : List (Nat × Nat × Int)) : Prop := ∀ d ∈ df, ∃ x y, r[d.1]? = some x ∧ r[d.2.1]? = some y ∧ x.toInt ≤ y.toInt + d.2.2
/-- a cell that is known: (cell, place, value); from 1000 on: (cell and 1000, the place's name, value) -/
def x_ce (r : List Int32) (M : aM) (e : Nat × Nat × xV) : Prop := (e.1 < 1000 ∧ x_i r e.2.2 (M e.1 e.2.1)) ∨ (1000 ≤ e.1 ∧ ∃ y : Int32, r[e.2.1]? = some y ∧ x_i r e.2.2 (M (e.1 - 1000) y.toNatClampNeg))
def x_gce (r : List Int32) (cs : List (Nat × Nat × xV)) (M : aM) : Prop := ∀ e ∈ cs, x_ce r M e
theorem x_giv_ex {r r' : List Int32} (h : x_ex r r') {iv : List (Nat × Int × Int)} (g : x_giv r iv) : x_giv r' iv := fun e he => by
  obtain ⟨x, g1, g2⟩ := g e he
  exact ⟨x, x_ex_at h g1, g2⟩
theorem x_gdf_ex {r r' : List Int32} (h : x_ex r r') {df : List (Nat × Nat × Int)} (g : x_gdf r df) : x_gdf r' df := fun e he => by
  obtain ⟨x, y, g1, g2, g3⟩ := g e he
  exact ⟨x, y, x_ex_at h g1, x_ex_at h g2, g3⟩
theorem x_gce_ex {r r' : List Int32} (h : x_ex r r') {cs : List (Nat × Nat × xV)} {M : aM} (g : x_gce r cs M) : x_gce r' cs M := fun e he => by
  rcases g e he with ⟨g1, g2⟩ | ⟨g1, y, g2, g3⟩
  · exact Or.inl ⟨g1, x_i_ex h g2⟩
  · exact Or.inr ⟨g1, y, x_ex_at h g2, x_i_ex h g3⟩
theorem x_lk_ok {r : List Int32} {n : Nat} {x : Int32} (hx : r[n]? = some x) : ∀ {iv : List (Nat × Int × Int)}, x_giv r iv → (x_lk iv n).1 ≤ x.toInt ∧ x.toInt ≤ (x_lk iv n).2
  | [], _ => ⟨x_mn_le x, x_le_mx x⟩
  | e :: t, h => by
    unfold x_lk
    cases hb : Nat.beq e.1 n with
    | true =>
      obtain ⟨y, h1, h2⟩ := h e (List.mem_cons_self ..)
      rw [Nat.eq_of_beq_eq_true hb, hx] at h1
      cases h1
      exact h2
    | false => exact x_lk_ok hx fun e' he' => h e' (List.mem_cons_of_mem _ he')
theorem x_iv_ok {r : List Int32} {a : xV} {x : Int32} {iv : List (Nat × Int × Int)} (g : x_giv r iv) (h : x_i r a x) : (x_iv iv a).1 ≤ x.toInt ∧ x.toInt ≤ (x_iv iv a).2 := by
  unfold x_i at h
  unfold x_iv
  split at h
  next => exact x_lk_ok h g
  next => exact ⟨Int.le_of_eq h.symm, Int.le_of_eq h⟩
  next => exact h.elim
/-- the whole state: how many names, bounds, differences, cells that are known -/
def x_gs (r : List Int32) (S : xS) (M : aM) : Prop := r.length = S.1 ∧ x_giv r S.2.1 ∧ x_gdf r S.2.2.1 ∧ x_gce r S.2.2.2 M
/-- at most k, by bounds and differences -/
def x_ub : Nat → xS → xV → Int → Bool
  | 0, S, a, k => x_ile (x_iv S.2.1 a).2 k
  | f + 1, S, a, k => x_ile (x_iv S.2.1 a).2 k || (match a with
    | (1, n, _) => S.2.2.1.any (fun d => Nat.beq d.1 n && x_ub f S (1, d.2.1, 0) (k - d.2.2))
    | _ => false)
theorem x_ub_ok {r : List Int32} {S : xS} {M : aM} (g : x_gs r S M) : ∀ (f : Nat) {a : xV} {k : Int} {x : Int32}, x_i r a x → x_ub f S a k = true → x.toInt ≤ k
  | 0, a, k, x, h, hb => Int.le_trans (x_iv_ok g.2.1 h).2 (x_ile_ok.mp hb)
  | f + 1, a, k, x, h, hb => by
    unfold x_ub at hb
    rw [Bool.or_eq_true] at hb
    rcases hb with hb | hb
    · exact Int.le_trans (x_iv_ok g.2.1 h).2 (x_ile_ok.mp hb)
    · split at hb
      next n c =>
        obtain ⟨d, hd, hb⟩ := List.any_eq_true.mp hb
        rw [Bool.and_eq_true] at hb
        obtain ⟨x1, y1, g1, g2, g3⟩ := g.2.2.1 d hd
        have he := Nat.eq_of_beq_eq_true hb.1
        rw [he] at g1
        have hx : r[n]? = some x := h
        rw [hx] at g1
        cases g1
        have := x_ub_ok g f (a := (1, d.2.1, 0)) (x := y1) g2 hb.2
        omega
      next => cases hb
def x_eqV (a b : xV) : Bool := Nat.beq a.1 b.1 && Nat.beq a.2.1 b.2.1 && decide (a.2.2 = b.2.2)
theorem x_eqV_ok {a b : xV} (h : x_eqV a b = true) : a = b := by
  unfold x_eqV at h
  simp only [Bool.and_eq_true, decide_eq_true_eq] at h
  obtain ⟨⟨h1, h2⟩, h3⟩ := h
  obtain ⟨a1, a2, a3⟩ := a
  obtain ⟨b1, b2, b3⟩ := b
  have e1 := Nat.eq_of_beq_eq_true h1
  have e2 := Nat.eq_of_beq_eq_true h2
  simp only at e1 e2 h3
  rw [e1, e2, h3]
/-- a is at most b and k -/
def x_le : Nat → xS → xV → xV → Int → Bool
  | 0, S, a, b, k => x_ile (x_iv S.2.1 a).2 ((x_iv S.2.1 b).1 + k) || (x_eqV a b && x_isI a && x_ile 0 k)
  | f + 1, S, a, b, k => x_ile (x_iv S.2.1 a).2 ((x_iv S.2.1 b).1 + k) || (x_eqV a b && x_isI a && x_ile 0 k) || (match a with
    | (1, n, _) => S.2.2.1.any (fun d => Nat.beq d.1 n && x_le f S (1, d.2.1, 0) b (k - d.2.2))
    | _ => false)
theorem x_i_un {r : List Int32} {a : xV} {x y : Int32} (h : x_i r a x) (g : x_i r a y) : x = y := by
  unfold x_i at h g
  split at h
  next n c =>
    have g : r[n]? = some y := g
    rw [h] at g
    exact Option.some.inj g
  next n c =>
    have g : y.toInt = c := g
    exact Int32.toInt_inj.mp (h.trans g.symm)
  next => exact h.elim
theorem x_le_z {r : List Int32} {S : xS} {M : aM} (g : x_gs r S M) {a b : xV} {k : Int} {x y : Int32} (ha : x_i r a x) (hb : x_i r b y) (h : (x_ile (x_iv S.2.1 a).2 ((x_iv S.2.1 b).1 + k) || (x_eqV a b && x_isI a && x_ile 0 k)) = true) : x.toInt ≤ y.toInt + k := by
  rw [Bool.or_eq_true] at h
  rcases h with h | h
  · have h1 := (x_iv_ok g.2.1 ha).2
    have h2 := (x_iv_ok g.2.1 hb).1
    have h3 := x_ile_ok.mp h
    omega
  · simp only [Bool.and_eq_true] at h
    have e := x_eqV_ok h.1.1
    subst e
    have h3 := x_ile_ok.mp h.2
    rw [x_i_un ha hb]
    omega
theorem x_le_ok {r : List Int32} {S : xS} {M : aM} (g : x_gs r S M) {b : xV} {y : Int32} (hy : x_i r b y) : ∀ (f : Nat) {a : xV} {k : Int} {x : Int32}, x_i r a x → x_le f S a b k = true → x.toInt ≤ y.toInt + k
  | 0, a, k, x, h, hb => x_le_z g h hy hb
  | f + 1, a, k, x, h, hb => by
    unfold x_le at hb
    rw [Bool.or_eq_true] at hb
    rcases hb with hb | hb
    · exact x_le_z g h hy hb
    · split at hb
      next n c =>
        obtain ⟨d, hd, hb⟩ := List.any_eq_true.mp hb
        rw [Bool.and_eq_true] at hb
        obtain ⟨x1, y1, g1, g2, g3⟩ := g.2.2.1 d hd
        have he := Nat.eq_of_beq_eq_true hb.1
        rw [he] at g1
        have hx : r[n]? = some x := h
        rw [hx] at g1
        cases g1
        have := x_le_ok g hy f (a := (1, d.2.1, 0)) (x := y1) g2 hb.2
        omega
      next => cases hb
/-! new names -/
def x_fr (S : xS) (l h : Int) : xV × xS := bif decide (l = h) then ((2, 0, l), S) else ((1, S.1, 0), (S.1 + 1, (S.1, l, h) :: S.2.1, S.2.2.1, S.2.2.2))
theorem x_fr_ok {r : List Int32} {S : xS} {M : aM} {l h : Int} {x : Int32} (g : x_gs r S M) (h1 : l ≤ x.toInt) (h2 : x.toInt ≤ h) : ∃ r', x_ex r r' ∧ x_gs r' (x_fr S l h).2 M ∧ x_i r' (x_fr S l h).1 x := by
  unfold x_fr
  by_cases he : l = h
  · subst he
    simp only [decide_true, cond_true]
    exact ⟨r, x_ex_rf r, g, by show x.toInt = l; omega⟩
  · simp only [he, decide_false, cond_false]
    have hx : x_ex r (r ++ [x]) := ⟨[x], rfl⟩
    have hn : (r ++ [x])[S.1]? = some x := by rw [← g.1]; simp
    refine ⟨r ++ [x], hx, ⟨by simp [g.1], ?_, x_gdf_ex hx g.2.2.1, x_gce_ex hx g.2.2.2⟩, hn⟩
    intro e he
    rcases List.mem_cons.mp he with rfl | he
    · exact ⟨x, hn, h1, h2⟩
    · exact x_giv_ex hx g.2.1 e he
def x_any (S : xS) : xV × xS := x_fr S x_mn x_mx
theorem x_any_ok {r : List Int32} {S : xS} {M : aM} (x : Int32) (g : x_gs r S M) : ∃ r', x_ex r r' ∧ x_gs r' (x_any S).2 M ∧ x_i r' (x_any S).1 x := x_fr_ok g (x_mn_le x) (x_le_mx x)
/-- a new name that is b and c -/
def x_dif (S : xS) (a b : xV) (c : Int) : xS := match a, b with
  | (1, n, _), (1, m, _) => (S.1, S.2.1, (n, m, c) :: (m, n, -c) :: S.2.2.1, S.2.2.2)
  | _, _ => S
theorem x_dif_ok {r : List Int32} {S : xS} {M : aM} {a b : xV} {x y : Int32} {c : Int} (g : x_gs r S M) (ha : x_i r a x) (hb : x_i r b y) (h : x.toInt = y.toInt + c) : x_gs r (x_dif S a b c) M := by
  unfold x_dif
  split
  next n c1 m c2 =>
    refine ⟨g.1, g.2.1, ?_, g.2.2.2⟩
    intro e he
    rcases List.mem_cons.mp he with rfl | he
    · exact ⟨x, y, ha, hb, by simp only; omega⟩
    · rcases List.mem_cons.mp he with rfl | he
      · exact ⟨y, x, hb, ha, by simp only; omega⟩
      · exact g.2.2.1 e he
  next => exact g
theorem x_dif_i {r : List Int32} {S : xS} {a b q : xV} {c : Int} {x : Int32} (h : x_i r q x) : x_i r q x := h
def x_fits (l h : Int) : Bool := x_ile x_mn l && x_ile h x_mx
theorem x_fits_ok {l h : Int} (g : x_fits l h = true) : x_mn ≤ l ∧ h ≤ x_mx := by
  unfold x_fits at g
  rw [Bool.and_eq_true] at g
  exact ⟨x_ile_ok.mp g.1, x_ile_ok.mp g.2⟩
/-- a name that is a and c already -/
def x_fnd (S : xS) (a : xV) (c : Int) : Option (Nat × Nat × Int) := match a with
  | (1, m, _) => S.2.2.1.find? (fun d => Nat.beq d.2.1 m && decide (d.2.2 = c) && S.2.2.1.any (fun e => Nat.beq e.1 m && Nat.beq e.2.1 d.1 && decide (e.2.2 = -c)))
  | _ => none
theorem x_fnd_ok {r : List Int32} {S : xS} {M : aM} {a : xV} {c : Int} {d : Nat × Nat × Int} {x : Int32} (g : x_gs r S M) (ha : x_i r a x) (h : x_fnd S a c = some d) : ∃ u, r[d.1]? = some u ∧ u.toInt = x.toInt + c := by
  unfold x_fnd at h
  split at h
  next m c' =>
    have hx : r[m]? = some x := ha
    have hd := List.mem_of_find?_eq_some h
    have hp := List.find?_some h
    simp only [Bool.and_eq_true, decide_eq_true_eq] at hp
    obtain ⟨⟨p1, p2⟩, p3⟩ := hp
    have p1 := Nat.eq_of_beq_eq_true p1
    obtain ⟨e, he, q⟩ := List.any_eq_true.mp p3
    simp only [Bool.and_eq_true, decide_eq_true_eq] at q
    obtain ⟨⟨q1, q2⟩, q3⟩ := q
    have q1 := Nat.eq_of_beq_eq_true q1
    have q2 := Nat.eq_of_beq_eq_true q2
    obtain ⟨x1, y1, g1, g2, g3⟩ := g.2.2.1 d hd
    obtain ⟨x2, y2, k1, k2, k3⟩ := g.2.2.1 e he
    rw [p1, hx] at g2
    cases g2
    rw [q1, hx] at k1
    cases k1
    rw [q2, g1] at k2
    cases k2
    exact ⟨x1, g1, by omega⟩
  next => cases h
def x_addc (S : xS) (a : xV) (c : Int) : xV × xS :=
  let i := x_iv S.2.1 a
  bif x_fits (i.1 + c) (i.2 + c) then (match x_fnd S a c with
    | some d => ((1, d.1, 0), S)
    | none => (let q := x_fr S (i.1 + c) (i.2 + c); (q.1, x_dif q.2 q.1 a c))) else x_any S
theorem x_addc_ok {r : List Int32} {S : xS} {M : aM} {a : xV} {x y : Int32} {c : Int} (g : x_gs r S M) (ha : x_i r a x) (hy : y.toInt = c) : ∃ r', x_ex r r' ∧ x_gs r' (x_addc S a c).2 M ∧ x_i r' (x_addc S a c).1 (x + y) := by
  unfold x_addc
  simp only
  cases hf : x_fits ((x_iv S.2.1 a).1 + c) ((x_iv S.2.1 a).2 + c) with
  | false => exact x_any_ok _ g
  | true =>
    simp only [cond_true]
    obtain ⟨f1, f2⟩ := x_fits_ok hf
    obtain ⟨h1, h2⟩ := x_iv_ok g.2.1 ha
    have e : (x + y).toInt = x.toInt + c := by rw [Int32.toInt_add, hy]; exact x_bm (by omega) (by omega)
    split
    next d hd =>
      obtain ⟨u, u1, u2⟩ := x_fnd_ok g ha hd
      have : x + y = u := Int32.toInt_inj.mp (by omega)
      rw [this]
      exact ⟨r, x_ex_rf r, g, u1⟩
    obtain ⟨r', k1, k2, k3⟩ := x_fr_ok (x := x + y) (l := (x_iv S.2.1 a).1 + c) (h := (x_iv S.2.1 a).2 + c) g (by omega) (by omega)
    exact ⟨r', k1, x_dif_ok k2 k3 (x_i_ex k1 ha) e, k3⟩
def x_add (S : xS) (a b : xV) : xV × xS :=
  let i := x_iv S.2.1 a
  let j := x_iv S.2.1 b
  bif decide (j.1 = j.2) then x_addc S a j.1 else bif decide (i.1 = i.2) then x_addc S b i.1 else bif x_fits (i.1 + j.1) (i.2 + j.2) then x_fr S (i.1 + j.1) (i.2 + j.2) else x_any S
theorem x_add_ok {r : List Int32} {S : xS} {M : aM} {a b : xV} {x y : Int32} (g : x_gs r S M) (ha : x_i r a x) (hb : x_i r b y) : ∃ r', x_ex r r' ∧ x_gs r' (x_add S a b).2 M ∧ x_i r' (x_add S a b).1 (x + y) := by
  unfold x_add
  simp only
  obtain ⟨h1, h2⟩ := x_iv_ok g.2.1 ha
  obtain ⟨h3, h4⟩ := x_iv_ok g.2.1 hb
  by_cases he : (x_iv S.2.1 b).1 = (x_iv S.2.1 b).2
  · simp only [he, decide_true, cond_true]
    exact x_addc_ok g ha (by omega)
  · simp only [he, decide_false, cond_false]
    by_cases he2 : (x_iv S.2.1 a).1 = (x_iv S.2.1 a).2
    · simp only [he2, decide_true, cond_true]
      rw [Int32.add_comm]
      exact x_addc_ok g hb (by omega)
    · simp only [he2, decide_false, cond_false]
      cases hf : x_fits ((x_iv S.2.1 a).1 + (x_iv S.2.1 b).1) ((x_iv S.2.1 a).2 + (x_iv S.2.1 b).2) with
      | false => exact x_any_ok _ g
      | true =>
        simp only [cond_true]
        obtain ⟨f1, f2⟩ := x_fits_ok hf
        have e : (x + y).toInt = x.toInt + y.toInt := by rw [Int32.toInt_add]; exact x_bm (by omega) (by omega)
        exact x_fr_ok g (by omega) (by omega)
def x_sub (S : xS) (a b : xV) : xV × xS :=
  let i := x_iv S.2.1 a
  let j := x_iv S.2.1 b
  bif decide (j.1 = j.2) && x_fits (-j.1) (-j.1) then x_addc S a (-j.1) else bif x_fits (i.1 - j.2) (i.2 - j.1) then x_fr S (i.1 - j.2) (i.2 - j.1) else x_any S
theorem x_sub_ok {r : List Int32} {S : xS} {M : aM} {a b : xV} {x y : Int32} (g : x_gs r S M) (ha : x_i r a x) (hb : x_i r b y) : ∃ r', x_ex r r' ∧ x_gs r' (x_sub S a b).2 M ∧ x_i r' (x_sub S a b).1 (x - y) := by
  unfold x_sub
  simp only
  obtain ⟨h1, h2⟩ := x_iv_ok g.2.1 ha
  obtain ⟨h3, h4⟩ := x_iv_ok g.2.1 hb
  cases he : (decide ((x_iv S.2.1 b).1 = (x_iv S.2.1 b).2) && x_fits (-(x_iv S.2.1 b).1) (-(x_iv S.2.1 b).1)) with
  | true =>
    simp only [cond_true]
    rw [Bool.and_eq_true, decide_eq_true_eq] at he
    obtain ⟨f1, f2⟩ := x_fits_ok he.2
    have hn : (-y).toInt = -(x_iv S.2.1 b).1 := by
      rw [Int32.toInt_neg]
      rw [x_bm (by omega) (by omega)]
      omega
    have := x_addc_ok g ha hn
    rwa [← Int32.sub_eq_add_neg] at this
  | false =>
    simp only [cond_false]
    cases hf : x_fits ((x_iv S.2.1 a).1 - (x_iv S.2.1 b).2) ((x_iv S.2.1 a).2 - (x_iv S.2.1 b).1) with
    | false => exact x_any_ok _ g
    | true =>
      simp only [cond_true]
      obtain ⟨f1, f2⟩ := x_fits_ok hf
      have e : (x - y).toInt = x.toInt - y.toInt := by rw [Int32.toInt_sub]; exact x_bm (by omega) (by omega)
      exact x_fr_ok g (by omega) (by omega)
def x_mul (S : xS) (a b : xV) : xV × xS :=
  let i := x_iv S.2.1 a
  let j := x_iv S.2.1 b
  bif x_ile 0 i.1 && x_ile 0 j.1 && x_ile (i.2 * j.2) x_mx then x_fr S (i.1 * j.1) (i.2 * j.2) else x_any S
theorem x_mul_ok {r : List Int32} {S : xS} {M : aM} {a b : xV} {x y : Int32} (g : x_gs r S M) (ha : x_i r a x) (hb : x_i r b y) : ∃ r', x_ex r r' ∧ x_gs r' (x_mul S a b).2 M ∧ x_i r' (x_mul S a b).1 (x * y) := by
  unfold x_mul
  simp only
  obtain ⟨h1, h2⟩ := x_iv_ok g.2.1 ha
  obtain ⟨h3, h4⟩ := x_iv_ok g.2.1 hb

  cases hf : (x_ile 0 (x_iv S.2.1 a).1 && x_ile 0 (x_iv S.2.1 b).1 && x_ile ((x_iv S.2.1 a).2 * (x_iv S.2.1 b).2) x_mx) with
  | false => exact x_any_ok _ g
  | true =>
    simp only [cond_true]
    simp only [Bool.and_eq_true] at hf
    obtain ⟨⟨f1, f2⟩, f3⟩ := hf
    have f1 := x_ile_ok.mp f1
    have f2 := x_ile_ok.mp f2
    have f3 := x_ile_ok.mp f3
    have l1 : (x_iv S.2.1 a).1 * (x_iv S.2.1 b).1 ≤ x.toInt * y.toInt := Int.mul_le_mul h1 h3 f2 (by omega)
    have l2 : x.toInt * y.toInt ≤ (x_iv S.2.1 a).2 * (x_iv S.2.1 b).2 := Int.mul_le_mul h2 h4 (by omega) (by omega)
    have l3 : 0 ≤ x.toInt * y.toInt := Int.mul_nonneg (by omega) (by omega)
    have e : (x * y).toInt = x.toInt * y.toInt := by rw [Int32.toInt_mul]; exact x_bm (by rw [x_mn_e]; omega) (by omega)
    exact x_fr_ok g (by omega) (by omega)
def x_neg (S : xS) (a : xV) : xV × xS :=
  let i := x_iv S.2.1 a
  bif x_fits (-i.2) (-i.1) then x_fr S (-i.2) (-i.1) else x_any S
theorem x_neg_ok {r : List Int32} {S : xS} {M : aM} {a : xV} {x : Int32} (g : x_gs r S M) (ha : x_i r a x) : ∃ r', x_ex r r' ∧ x_gs r' (x_neg S a).2 M ∧ x_i r' (x_neg S a).1 (-x) := by
  unfold x_neg
  simp only
  obtain ⟨h1, h2⟩ := x_iv_ok g.2.1 ha
  cases hf : x_fits (-(x_iv S.2.1 a).2) (-(x_iv S.2.1 a).1) with
  | false => exact x_any_ok _ g
  | true =>
    simp only [cond_true]
    obtain ⟨f1, f2⟩ := x_fits_ok hf
    have e : (-x).toInt = -x.toInt := by rw [Int32.toInt_neg]; exact x_bm (by omega) (by omega)
    exact x_fr_ok g (by omega) (by omega)
theorem x_and_le {x y : Int32} (h : 0 ≤ x.toInt) : 0 ≤ (x &&& y).toInt ∧ (x &&& y).toInt ≤ x.toInt := by
  have hx : x.toBitVec.toInt = x.toInt := rfl
  have e : (x &&& y).toInt = (x.toBitVec &&& y.toBitVec).toInt := rfl
  have hm : x.toBitVec.msb = false := by
    rw [BitVec.msb_eq_toInt, hx]
    exact decide_eq_false (by omega)
  have hm2 : (x.toBitVec &&& y.toBitVec).msb = false := by simp [hm]
  rw [e, BitVec.toInt_eq_toNat_of_msb hm2, ← hx, BitVec.toInt_eq_toNat_of_msb hm, BitVec.toNat_and]
  have := @Nat.and_le_left x.toBitVec.toNat y.toBitVec.toNat
  omega
def x_and (S : xS) (a b : xV) : xV × xS :=
  let i := x_iv S.2.1 a
  let j := x_iv S.2.1 b
  bif x_ile 0 j.1 then (bif x_ile 0 i.1 && x_ile i.2 j.2 then x_fr S 0 i.2 else x_fr S 0 j.2) else bif x_ile 0 i.1 then x_fr S 0 i.2 else x_any S
theorem x_and_ok {r : List Int32} {S : xS} {M : aM} {a b : xV} {x y : Int32} (g : x_gs r S M) (ha : x_i r a x) (hb : x_i r b y) : ∃ r', x_ex r r' ∧ x_gs r' (x_and S a b).2 M ∧ x_i r' (x_and S a b).1 (x &&& y) := by
  unfold x_and
  simp only
  obtain ⟨h1, h2⟩ := x_iv_ok g.2.1 ha
  obtain ⟨h3, h4⟩ := x_iv_ok g.2.1 hb
  cases hj : x_ile 0 (x_iv S.2.1 b).1 with
  | true =>
    simp only [cond_true]
    have hj := x_ile_ok.mp hj
    cases hi : (x_ile 0 (x_iv S.2.1 a).1 && x_ile (x_iv S.2.1 a).2 (x_iv S.2.1 b).2) with
    | true =>
      simp only [cond_true]
      rw [Bool.and_eq_true] at hi
      have hi := x_ile_ok.mp hi.1
      have := @x_and_le x y (by omega)
      exact x_fr_ok g (by omega) (by omega)
    | false =>
      simp only [cond_false]
      have := @x_and_le y x (by omega)
      rw [Int32.and_comm y x] at this
      exact x_fr_ok g (by omega) (by omega)
  | false =>
    simp only [cond_false]
    cases hi : x_ile 0 (x_iv S.2.1 a).1 with
    | true =>
      simp only [cond_true]
      have hi := x_ile_ok.mp hi
      have := @x_and_le x y (by omega)
      exact x_fr_ok g (by omega) (by omega)
    | false => exact x_any_ok _ g
theorem x_shl1 : ∀ k : Nat, k < 31 → ((1 : Int32) <<< (Int32.ofNat k &&& 31)).toInt = ((2 ^ k : Nat) : Int) := by decide +kernel
def x_shl (S : xS) (a b : xV) : xV × xS :=
  let i := x_iv S.2.1 a
  let j := x_iv S.2.1 b
  bif decide (i.1 = 1) && decide (i.2 = 1) && x_ile 0 j.1 && x_ile j.2 30 then x_fr S (Int.ofNat (2 ^ j.1.toNat)) (Int.ofNat (2 ^ j.2.toNat)) else x_any S
theorem x_shl_ok {r : List Int32} {S : xS} {M : aM} {a b : xV} {x y : Int32} (g : x_gs r S M) (ha : x_i r a x) (hb : x_i r b y) : ∃ r', x_ex r r' ∧ x_gs r' (x_shl S a b).2 M ∧ x_i r' (x_shl S a b).1 (x <<< (y &&& 31)) := by
  unfold x_shl
  simp only
  obtain ⟨h1, h2⟩ := x_iv_ok g.2.1 ha
  obtain ⟨h3, h4⟩ := x_iv_ok g.2.1 hb
  cases hf : (decide ((x_iv S.2.1 a).1 = 1) && decide ((x_iv S.2.1 a).2 = 1) && x_ile 0 (x_iv S.2.1 b).1 && x_ile (x_iv S.2.1 b).2 30) with
  | false => exact x_any_ok _ g
  | true =>
    simp only [cond_true]
    simp only [Bool.and_eq_true, decide_eq_true_eq] at hf
    obtain ⟨⟨⟨f1, f2⟩, f3⟩, f4⟩ := hf
    have f3 := x_ile_ok.mp f3
    have f4 := x_ile_ok.mp f4
    have hx : x = 1 := Int32.toInt_inj.mp (by rw [Int32.toInt_one]; omega)
    have hy : y = Int32.ofNat y.toInt.toNat := Int32.toInt_inj.mp (by rw [Int32.toInt_ofNat_of_lt (by omega)]; omega)
    have e : (x <<< (y &&& 31)).toInt = ((2 ^ y.toInt.toNat : Nat) : Int) := by
      rw [hx]
      conv => lhs; rw [hy]
      exact x_shl1 _ (by omega)
    have l1 : 2 ^ (x_iv S.2.1 b).1.toNat ≤ 2 ^ y.toInt.toNat := Nat.pow_le_pow_right (by decide) (by omega)
    have l2 : 2 ^ y.toInt.toNat ≤ 2 ^ (x_iv S.2.1 b).2.toNat := Nat.pow_le_pow_right (by decide) (by omega)
    refine x_fr_ok g ?_ ?_
    · rw [e]
      exact Int.ofNat_le.mpr l1
    · rw [e]
      exact Int.ofNat_le.mpr l2
theorem x_dv_z {x y : Int32} (h1 : 0 ≤ x.toInt) (h2 : 1 ≤ y.toInt) : (x / y).toInt = x.toInt / y.toInt ∧ 0 ≤ x.toInt / y.toInt ∧ x.toInt / y.toInt ≤ x.toInt := by
  have k1 : 0 ≤ x.toInt / y.toInt := Int.ediv_nonneg h1 (by omega)
  have k2 : x.toInt / y.toInt ≤ x.toInt := Int.ediv_le_self _ h1
  have h3 := x_le_mx x
  refine ⟨?_, k1, k2⟩
  rw [Int32.toInt_div, Int.tdiv_eq_ediv_of_nonneg h1]
  exact x_bm (by rw [x_mn_e]; omega) (by omega)
def x_div (S : xS) (a b : xV) : xV × xS :=
  let i := x_iv S.2.1 a
  let j := x_iv S.2.1 b
  bif x_ile 0 i.1 && x_ile 1 j.1 then x_fr S 0 i.2 else x_any S
theorem x_div_ok {r : List Int32} {S : xS} {M : aM} {a b : xV} {x y : Int32} (g : x_gs r S M) (ha : x_i r a x) (hb : x_i r b y) : ∃ r', x_ex r r' ∧ x_gs r' (x_div S a b).2 M ∧ x_i r' (x_div S a b).1 (x / y) := by
  unfold x_div
  simp only
  obtain ⟨h1, h2⟩ := x_iv_ok g.2.1 ha
  obtain ⟨h3, h4⟩ := x_iv_ok g.2.1 hb
  cases hf : (x_ile 0 (x_iv S.2.1 a).1 && x_ile 1 (x_iv S.2.1 b).1) with
  | false => exact x_any_ok _ g
  | true =>
    simp only [cond_true]
    rw [Bool.and_eq_true] at hf
    have f1 := x_ile_ok.mp hf.1
    have f2 := x_ile_ok.mp hf.2
    obtain ⟨e, k1, k2⟩ := @x_dv_z x y (by omega) (by omega)
    exact x_fr_ok g (by omega) (by omega)
def x_rem (S : xS) (a b : xV) : xV × xS :=
  let i := x_iv S.2.1 a
  let j := x_iv S.2.1 b
  bif x_ile 0 i.1 && x_ile 1 j.1 then x_fr S 0 (j.2 - 1) else x_any S
theorem x_rem_ok {r : List Int32} {S : xS} {M : aM} {a b : xV} {x y : Int32} (g : x_gs r S M) (ha : x_i r a x) (hb : x_i r b y) : ∃ r', x_ex r r' ∧ x_gs r' (x_rem S a b).2 M ∧ x_i r' (x_rem S a b).1 (x - x / y * y) := by
  unfold x_rem
  simp only
  obtain ⟨h1, h2⟩ := x_iv_ok g.2.1 ha
  obtain ⟨h3, h4⟩ := x_iv_ok g.2.1 hb
  cases hf : (x_ile 0 (x_iv S.2.1 a).1 && x_ile 1 (x_iv S.2.1 b).1) with
  | false => exact x_any_ok _ g
  | true =>
    simp only [cond_true]
    rw [Bool.and_eq_true] at hf
    have f1 := x_ile_ok.mp hf.1
    have f2 := x_ile_ok.mp hf.2
    obtain ⟨e, k1, k2⟩ := @x_dv_z x y (by omega) (by omega)
    have m1 : x.toInt / y.toInt * y.toInt = x.toInt - x.toInt % y.toInt := by
      have := Int.mul_ediv_add_emod x.toInt y.toInt
      rw [Int.mul_comm] at this
      omega
    have m2 : 0 ≤ x.toInt % y.toInt := Int.emod_nonneg _ (by omega)
    have m3 : x.toInt % y.toInt < y.toInt := Int.emod_lt_of_pos _ (by omega)
    have m4 : x.toInt % y.toInt ≤ x.toInt := by
      have : 0 ≤ x.toInt / y.toInt * y.toInt := Int.mul_nonneg k1 (by omega)
      omega
    have b1 := x_le_mx x
    have e2 : (x / y * y).toInt = x.toInt - x.toInt % y.toInt := by
      rw [Int32.toInt_mul, e, m1]
      exact x_bm (by rw [x_mn_e]; omega) (by omega)
    have e3 : (x - x / y * y).toInt = x.toInt % y.toInt := by
      rw [Int32.toInt_sub, e2]
      rw [x_bm (by rw [x_mn_e]; omega) (by omega)]
      omega
    exact x_fr_ok g (by omega) (by omega)
/-! what a comparison tells -/
def x_pi (S : xS) (a : xV) (l h : Int) : xS := match a with
  | (1, n, _) => (S.1, (n, l, h) :: S.2.1, S.2.2.1, S.2.2.2)
  | _ => S
theorem x_pi_ok {r : List Int32} {S : xS} {M : aM} {a : xV} {x : Int32} {l h : Int} (g : x_gs r S M) (ha : x_i r a x) (h1 : l ≤ x.toInt) (h2 : x.toInt ≤ h) : x_gs r (x_pi S a l h) M := by
  unfold x_pi
  split
  next n c =>
    refine ⟨g.1, ?_, g.2.2.1, g.2.2.2⟩
    intro e he
    rcases List.mem_cons.mp he with rfl | he
    · exact ⟨x, ha, h1, h2⟩
    · exact g.2.1 e he
  next => exact g
def x_pd (S : xS) (a b : xV) (k : Int) : xS := match a, b with
  | (1, n, _), (1, m, _) => (S.1, S.2.1, (n, m, k) :: S.2.2.1, S.2.2.2)
  | _, _ => S
theorem x_pd_ok {r : List Int32} {S : xS} {M : aM} {a b : xV} {x y : Int32} {k : Int} (g : x_gs r S M) (ha : x_i r a x) (hb : x_i r b y) (h : x.toInt ≤ y.toInt + k) : x_gs r (x_pd S a b k) M := by
  unfold x_pd
  split
  next n c1 m c2 =>
    refine ⟨g.1, g.2.1, ?_, g.2.2.2⟩
    intro e he
    rcases List.mem_cons.mp he with rfl | he
    · exact ⟨x, y, ha, hb, h⟩
    · exact g.2.2.1 e he
  next => exact g
/-- a is at most b and k: what follows; none: it can't be -/
def x_as (S : xS) (a b : xV) (k : Int) : Option xS :=
  let i := x_iv S.2.1 a
  let j := x_iv S.2.1 b
  bif x_ile i.1 (j.2 + k) && !(x_le 3 S b a (-k - 1)) then
    (let S1 := bif x_ile i.2 (j.2 + k) then S else x_pi S a i.1 (j.2 + k)
     let S2 := bif x_ile (i.1 - k) j.1 then S1 else x_pi S1 b (i.1 - k) j.2
     some (x_pd S2 a b k))
  else none
theorem x_as_ok {r : List Int32} {S : xS} {M : aM} {a b : xV} {x y : Int32} {k : Int} (g : x_gs r S M) (ha : x_i r a x) (hb : x_i r b y) (h : x.toInt ≤ y.toInt + k) : ∃ S', x_as S a b k = some S' ∧ x_gs r S' M := by
  unfold x_as
  simp only
  obtain ⟨h1, h2⟩ := x_iv_ok g.2.1 ha
  obtain ⟨h3, h4⟩ := x_iv_ok g.2.1 hb
  have hc : x_ile (x_iv S.2.1 a).1 ((x_iv S.2.1 b).2 + k) = true := x_ile_ok.mpr (by omega)
  have hc2 : x_le 3 S b a (-k - 1) = false := by
    cases hq : x_le 3 S b a (-k - 1) with
    | false => rfl
    | true =>
      have := x_le_ok g ha 3 hb hq
      omega
  simp only [hc, hc2, Bool.not_false, Bool.and_self, cond_true]
  refine ⟨_, rfl, x_pd_ok ?_ ha hb h⟩
  have g1 : x_gs r (bif x_ile (x_iv S.2.1 a).2 ((x_iv S.2.1 b).2 + k) then S else x_pi S a (x_iv S.2.1 a).1 ((x_iv S.2.1 b).2 + k)) M := by
    cases x_ile (x_iv S.2.1 a).2 ((x_iv S.2.1 b).2 + k) with
    | true => exact g
    | false => exact x_pi_ok g ha h1 (by omega)
  cases x_ile ((x_iv S.2.1 a).1 - k) (x_iv S.2.1 b).1 with
  | true => exact g1
  | false => exact x_pi_ok g1 hb (by omega) h4
def x_ne (S : xS) (a b : xV) : Option xS :=
  let i := x_iv S.2.1 a
  let j := x_iv S.2.1 b
  bif decide (j.1 = j.2) then
    (bif decide (i.1 = j.1) then (bif decide (i.2 = j.1) then none else some (x_pi S a (i.1 + 1) i.2)) else bif decide (i.2 = j.1) then some (x_pi S a i.1 (i.2 - 1)) else some S)
  else bif decide (i.1 = i.2) then
    (bif decide (j.1 = i.1) then some (x_pi S b (j.1 + 1) j.2) else bif decide (j.2 = i.1) then some (x_pi S b j.1 (j.2 - 1)) else some S)
  else some S
theorem x_ne_ok {r : List Int32} {S : xS} {M : aM} {a b : xV} {x y : Int32} (g : x_gs r S M) (ha : x_i r a x) (hb : x_i r b y) (h : ¬ x.toInt = y.toInt) : ∃ S', x_ne S a b = some S' ∧ x_gs r S' M := by
  unfold x_ne
  simp only
  obtain ⟨h1, h2⟩ := x_iv_ok g.2.1 ha
  obtain ⟨h3, h4⟩ := x_iv_ok g.2.1 hb
  by_cases e1 : (x_iv S.2.1 b).1 = (x_iv S.2.1 b).2
  · simp only [e1, decide_true, cond_true]
    by_cases e2 : (x_iv S.2.1 a).1 = (x_iv S.2.1 b).2
    · simp only [e2, decide_true, cond_true]
      by_cases e3 : (x_iv S.2.1 a).2 = (x_iv S.2.1 b).2
      · omega
      · simp only [e3, decide_false, cond_false]
        exact ⟨_, rfl, x_pi_ok g ha (by omega) (by omega)⟩
    · simp only [e2, decide_false, cond_false]
      by_cases e3 : (x_iv S.2.1 a).2 = (x_iv S.2.1 b).2
      · simp only [e3, decide_true, cond_true]
        exact ⟨_, rfl, x_pi_ok g ha (by omega) (by omega)⟩
      · simp only [e3, decide_false, cond_false]
        exact ⟨_, rfl, g⟩
  · simp only [e1, decide_false, cond_false]
    by_cases e2 : (x_iv S.2.1 a).1 = (x_iv S.2.1 a).2
    · simp only [e2, decide_true, cond_true]
      by_cases e3 : (x_iv S.2.1 b).1 = (x_iv S.2.1 a).2
      · simp only [e3, decide_true, cond_true]
        exact ⟨_, rfl, x_pi_ok g hb (by omega) (by omega)⟩
      · simp only [e3, decide_false, cond_false]
        by_cases e4 : (x_iv S.2.1 b).2 = (x_iv S.2.1 a).2
        · simp only [e4, decide_true, cond_true]
          exact ⟨_, rfl, x_pi_ok g hb (by omega) (by omega)⟩
        · simp only [e4, decide_false, cond_false]
          exact ⟨_, rfl, g⟩
    · simp only [e2, decide_false, cond_false]
      exact ⟨_, rfl, g⟩
def x_cond (c : Jvm.ClassFile.Cond) (S : xS) (a b : xV) : Option xS := match c with
  | .eq => (match x_as S a b 0 with
    | none => none
    | some S1 => x_as S1 b a 0)
  | .ne => x_ne S a b
  | .lt => x_as S a b (-1)
  | .ge => x_as S b a 0
  | .gt => x_as S b a (-1)
  | .le => x_as S a b 0
def x_not (c : Jvm.ClassFile.Cond) : Jvm.ClassFile.Cond := match c with
  | .eq => .ne
  | .ne => .eq
  | .lt => .ge
  | .ge => .lt
  | .gt => .le
  | .le => .gt
theorem x_cond_ok {r : List Int32} {S : xS} {M : aM} {a b : xV} {x y : Int32} {c : Jvm.ClassFile.Cond} (g : x_gs r S M) (ha : x_i r a x) (hb : x_i r b y) (h : a_cf2 c x y = true) : ∃ S', x_cond c S a b = some S' ∧ x_gs r S' M := by
  unfold a_cf2 at h
  unfold x_cond
  cases c <;> simp only [decide_eq_true_eq] at h ⊢
  case eq =>
    subst h
    obtain ⟨S1, e1, g1⟩ := x_as_ok (k := 0) g ha hb (by omega)
    rw [e1]
    exact x_as_ok g1 hb ha (by omega)
  case ne => exact x_ne_ok g ha hb (fun e => h (Int32.toInt_inj.mp e))
  case lt =>
    rw [Int32.lt_iff_toInt_lt] at h
    exact x_as_ok g ha hb (by omega)
  case ge =>
    rw [Int32.le_iff_toInt_le] at h
    exact x_as_ok g hb ha (by omega)
  case gt =>
    rw [Int32.lt_iff_toInt_lt] at h
    exact x_as_ok g hb ha (by omega)
  case le =>
    rw [Int32.le_iff_toInt_le] at h
    exact x_as_ok g ha hb (by omega)
theorem x_not_ok {c : Jvm.ClassFile.Cond} {x y : Int32} (h : a_cf2 c x y = false) : a_cf2 (x_not c) x y = true := by
  unfold a_cf2 at h
  unfold a_cf2 x_not
  cases c <;> simp only [decide_eq_false_iff_not, decide_eq_true_eq] at h ⊢
  case eq => exact h
  case ne => exact Classical.not_not.mp h
  case lt => rw [Int32.le_iff_toInt_le]; rw [Int32.lt_iff_toInt_lt] at h; omega
  case ge => rw [Int32.lt_iff_toInt_lt]; rw [Int32.le_iff_toInt_le] at h; omega
  case gt => rw [Int32.le_iff_toInt_le]; rw [Int32.lt_iff_toInt_lt] at h; omega
  case le => rw [Int32.lt_iff_toInt_lt]; rw [Int32.le_iff_toInt_le] at h; omega
theorem x_cf1 (c : Jvm.ClassFile.Cond) (x : Int32) : a_cf1 c x = a_cf2 c x 0 := by
  unfold a_cf1 a_cf2
  cases c <;> rfl
