/-! reckoning with bounds: calls, ends, what is known of methods -/
abbrev xO : Type := Option xV × xS
def x_mxi (a b : Int) : Int := bif x_ile a b then b else a
def x_mni (a b : Int) : Int := bif x_ile a b then a else b
theorem x_mxi_ok {a b : Int} : a ≤ x_mxi a b ∧ b ≤ x_mxi a b ∧ (x_mxi a b = a ∨ x_mxi a b = b) := by
  unfold x_mxi
  cases h : x_ile a b with
  | true =>
    have := x_ile_ok.mp h
    exact ⟨this, Int.le_refl _, Or.inr rfl⟩
  | false =>
    have : ¬ a ≤ b := fun g => by rw [x_ile_ok.mpr g] at h; cases h
    exact ⟨Int.le_refl _, by simp only [cond_false]; omega, Or.inl rfl⟩
theorem x_mni_ok {a b : Int} : x_mni a b ≤ a ∧ x_mni a b ≤ b ∧ (x_mni a b = a ∨ x_mni a b = b) := by
  unfold x_mni
  cases h : x_ile a b with
  | true =>
    have := x_ile_ok.mp h
    exact ⟨Int.le_refl _, this, Or.inl rfl⟩
  | false =>
    have : ¬ a ≤ b := fun g => by rw [x_ile_ok.mpr g] at h; cases h
    exact ⟨by simp only [cond_false]; omega, Int.le_refl _, Or.inr rfl⟩
theorem x_cts {r : List Int32} : ∀ {s : List xV} {T : List Value}, x_vs r s T → s.all x_ct = true → (T.map fun v => v.category).sum = s.length ∧ ∀ v ∈ T, v.category = 1
  | [], [], _, _ => ⟨rfl, fun v h => by cases h⟩
  | a :: s, v :: t, h, hc => by
    simp only [List.all_cons, Bool.and_eq_true] at hc
    obtain ⟨h1, h2⟩ := x_cts h.2 hc.2
    have h3 := x_ct_ok h.1 hc.1
    refine ⟨?_, fun u hu => ?_⟩
    · simp only [List.map_cons, List.sum_cons, List.length_cons, h1, h3]
      omega
    · rcases List.mem_cons.mp hu with rfl | hu
      · exact h3
      · exact h2 u hu
  | [], _ :: _, h, _ => h.elim
  | _ :: _, [], h, _ => h.elim
def x_math (ax nx : Nat) (L st : List xV) (S : xS) : Option xQ := match st with
  | b :: s => bif x_isI b then
      (bif Nat.beq ax 1002 then (bif s.all x_ct && Nat.ble s.length 8 then (let q := x_any S; some (nx, L, q.1 :: s, q.2)) else none)
       else match s with
        | a :: t => bif x_isI a && t.all x_ct && Nat.ble t.length 8 then
           (let i := x_iv S.2.1 a
            let j := x_iv S.2.1 b
            bif Nat.beq ax 1000 then (let q := x_fr S (x_mxi i.1 j.1) (x_mxi i.2 j.2); some (nx, L, q.1 :: t, q.2))
            else bif Nat.beq ax 1001 then (let q := x_fr S (x_mni i.1 j.1) (x_mni i.2 j.2); some (nx, L, q.1 :: t, q.2)) else none) else none
        | _ => none) else none
  | _ => none
def x_ret (k ax : Nat) (st : List xV) (S : xS) : Option (Option xV) := match k, st with
  | 3, [a] => bif x_isI a && (Nat.beq ax 0 || x_in01 S a) then some (some a) else none
  | 4, [(0, j, c)] => some (some (0, j, c))
  | 4, [(3, j, c)] => some (some (3, j, c))
  | 5, [] => some none
  | _, _ => none
def x_ro (r : List Int32) (o : Option xV) (v : Option Value) : Prop := match o with
  | none => v = none
  | some a => ∃ u, v = some u ∧ x_v r a u
section XCA
variable {iv : xB} {wr : xW} {M0 M : aM} {r : List Int32} {L st : List xV} {V T : List Value} {S : xS} {nx ax : Nat}
theorem x_math_ok {q : xQ} (hL : x_vs r L V) (hs : x_vs r st T) (g : x_gs r S M) (G : x_G iv wr M0 M) (h : x_math ax nx L st S = some q) : x_goes iv wr M0 r [q] (a_math ax nx V T M) := by
  unfold x_math at h
  split at h
  next b s =>
    match T, hs with
    | v :: T', hs =>
    cases hb : x_isI b with
    | false => rw [hb] at h; cases h
    | true =>
      rw [hb] at h
      simp only [cond_true] at h
      obtain ⟨y, rfl, h3⟩ := x_v_i hs.1 hb
      obtain ⟨j1, j2⟩ := x_iv_ok g.2.1 h3
      unfold a_math
      simp only
      cases h2 : Nat.beq ax 1002 with
      | true =>
        rw [h2] at h
        have h2 := Nat.eq_of_beq_eq_true h2
        simp only [cond_true] at h
        rw [if_pos h2]
        cases hc : (s.all x_ct && Nat.ble s.length 8) with
        | false => rw [hc] at h; cases h
        | true =>
          rw [hc] at h
          simp only [cond_true, Option.some.injEq] at h
          subst h
          rw [Bool.and_eq_true] at hc
          have hl := Nat.le_of_ble_eq_true hc.2
          rw [if_pos (by rw [(x_cts hs.2 hc.1).1]; exact hl)]
          obtain ⟨r', k1, k2, k3⟩ := x_any_ok (if 0 ≤ y then y else 0 - y) g
          exact x_go1 k1 ⟨rfl, x_vs_ex k1 hL, ⟨x_i_v k3, x_vs_ex k1 hs.2⟩, k2, G⟩
      | false =>
        rw [h2] at h
        have h2 := x_nb h2
        simp only [cond_false] at h
        rw [if_neg h2]
        match s, T', hs, h with
        | [], _, _, h => cases h
        | a :: t, u :: T'', hs, h =>
          simp only at h
          cases hc : (x_isI a && t.all x_ct && Nat.ble t.length 8) with
          | false => rw [hc] at h; cases h
          | true =>
            rw [hc] at h
            simp only [cond_true] at h
            simp only [Bool.and_eq_true] at hc
            obtain ⟨⟨c1, c2⟩, c3⟩ := hc
            have hl := Nat.le_of_ble_eq_true c3
            obtain ⟨x, rfl, h4⟩ := x_v_i hs.2.1 c1
            obtain ⟨i1, i2⟩ := x_iv_ok g.2.1 h4
            simp only
            rw [if_pos (by rw [(x_cts hs.2.2 c2).1]; exact hl)]
            cases h0 : Nat.beq ax 1000 with
            | true =>
              rw [h0] at h
              have h0 := Nat.eq_of_beq_eq_true h0
              simp only [cond_true, Option.some.injEq] at h
              subst h
              rw [if_pos h0]
              obtain ⟨m1, m2, m3⟩ := @x_mxi_ok (x_iv S.2.1 a).1 (x_iv S.2.1 b).1
              obtain ⟨n1, n2, n3⟩ := @x_mxi_ok (x_iv S.2.1 a).2 (x_iv S.2.1 b).2
              have hm : x_mxi (x_iv S.2.1 a).1 (x_iv S.2.1 b).1 ≤ (if x < y then y else x).toInt ∧ (if x < y then y else x).toInt ≤ x_mxi (x_iv S.2.1 a).2 (x_iv S.2.1 b).2 := by
                split
                next hlt => rw [Int32.lt_iff_toInt_lt] at hlt; omega
                next hlt => rw [Int32.lt_iff_toInt_lt] at hlt; omega
              obtain ⟨r', k1, k2, k3⟩ := x_fr_ok g hm.1 hm.2
              exact x_go1 k1 ⟨rfl, x_vs_ex k1 hL, ⟨x_i_v k3, x_vs_ex k1 hs.2.2⟩, k2, G⟩
            | false =>
              rw [h0] at h
              have h0 := x_nb h0
              simp only [cond_false] at h
              rw [if_neg h0]
              cases h1 : Nat.beq ax 1001 with
              | false => rw [h1] at h; cases h
              | true =>
                rw [h1] at h
                have h1 := Nat.eq_of_beq_eq_true h1
                simp only [cond_true, Option.some.injEq] at h
                subst h
                rw [if_pos h1]
                obtain ⟨m1, m2, m3⟩ := @x_mni_ok (x_iv S.2.1 a).1 (x_iv S.2.1 b).1
                obtain ⟨n1, n2, n3⟩ := @x_mni_ok (x_iv S.2.1 a).2 (x_iv S.2.1 b).2
                have hm : x_mni (x_iv S.2.1 a).1 (x_iv S.2.1 b).1 ≤ (if y < x then y else x).toInt ∧ (if y < x then y else x).toInt ≤ x_mni (x_iv S.2.1 a).2 (x_iv S.2.1 b).2 := by
                  split
                  next hlt => rw [Int32.lt_iff_toInt_lt] at hlt; omega
                  next hlt => rw [Int32.lt_iff_toInt_lt] at hlt; omega
                obtain ⟨r', k1, k2, k3⟩ := x_fr_ok g hm.1 hm.2
                exact x_go1 k1 ⟨rfl, x_vs_ex k1 hL, ⟨x_i_v k3, x_vs_ex k1 hs.2.2⟩, k2, G⟩
  next => cases h
theorem x_ret_ok {k : Nat} {o : Option xV} (hs : x_vs r st T) (g : x_gs r S M) (h : x_ret k ax st S = some o) : ∃ v, a_ret k ax T = some v ∧ x_ro r o v := by
  unfold x_ret at h
  split at h
  next a =>
    match T, hs with
    | [v], hs =>
    cases hb : (x_isI a && (Nat.beq ax 0 || x_in01 S a)) with
    | false => rw [hb] at h; cases h
    | true =>
      rw [hb] at h
      cases h
      rw [Bool.and_eq_true] at hb
      obtain ⟨x, rfl, h3⟩ := x_v_i hs.1 hb.1
      have hx : ax = 0 ∨ x = 0 ∨ x = 1 := by
        have hb2 := hb.2
        rw [Bool.or_eq_true] at hb2
        rcases hb2 with e | e
        · exact Or.inl (Nat.eq_of_beq_eq_true e)
        · exact Or.inr (x_in01_ok g h3 e)
      unfold a_ret
      simp only
      rw [if_pos hx]
      exact ⟨_, rfl, _, rfl, hs.1⟩
  next j c =>
    match T, hs with
    | [v], hs =>
    cases h
    have h3 : v = .ref j := hs.1
    subst h3
    exact ⟨_, rfl, _, rfl, rfl⟩
  next j c =>
    match T, hs with
    | [v], hs =>
    cases h
    have h3 : v = .null := hs.1
    subst h3
    exact ⟨_, rfl, _, rfl, rfl⟩
  next =>
    match T, hs with
    | [], _ =>
    cases h
    exact ⟨_, rfl, rfl⟩
  next => cases h
end XCA
def x_take : Nat → List xV → List xV → Option (List xV × List xV)
  | 0, st, acc => some (acc, st)
  | _ + 1, [], _ => none
  | k + 1, v :: st, acc => x_take k st (v :: acc)
theorem x_take_ok {r : List Int32} : ∀ {n : Nat} {st acc As s : List xV} {T W : List Value}, x_vs r st T → x_vs r acc W → x_take n st acc = some (As, s) → ∃ Vs T', a_take n T W = some (Vs, T') ∧ x_vs r As Vs ∧ x_vs r s T'
  | 0, st, acc, As, s, T, W, h1, h2, h => by
    cases h
    cases T <;> exact ⟨_, _, rfl, h2, h1⟩
  | _ + 1, [], _, _, _, _, _, _, _, h => by cases h
  | n + 1, a :: st, acc, As, s, v :: T, W, h1, h2, h => by
    obtain ⟨Vs, T', k1, k2, k3⟩ := x_take_ok (n := n) (acc := a :: acc) (W := v :: W) h1.2 ⟨h1.1, h2⟩ h
    exact ⟨Vs, T', k1, k2, k3⟩
  | _ + 1, _ :: _, _, _, _, [], _, h1, _, _ => h1.elim
def x_rcv (ci : Nat) (As : List xV) : Bool := match As with
  | (0, i, _) :: _ => Nat.blt i a_ncw && Nat.beq (a_shape i).1 ci
  | _ => false
def x_args (k : Nat) (mt : aMt) (st : List xV) : Option (List xV × List xV) := match x_take mt.2.2.1 st [] with
  | some (As, s) => bif s.all x_ct && As.all x_ct && Nat.ble s.length 8 && Nat.ble mt.1.2.2.1 19 && Nat.ble As.length mt.1.2.2.1 && ((Nat.beq k 2 && Nat.beq mt.2.2.2.1 100) || (Nat.beq k 1 && Nat.blt mt.2.2.2.1 100 && x_rcv mt.2.2.2.1 As)) then some (As, s) else none
  | none => none
theorem x_args_ok {r : List Int32} {k : Nat} {mt : aMt} {st As s : List xV} {T : List Value} (hs : x_vs r st T) (h : x_args k mt st = some (As, s)) : ∃ Vs T', a_args k mt T = some (Vs, T') ∧ x_vs r As Vs ∧ x_vs r s T' := by
  unfold x_args at h
  split at h
  next As' s' ht =>
    cases hb : (s'.all x_ct && As'.all x_ct && Nat.ble s'.length 8 && Nat.ble mt.1.2.2.1 19 && Nat.ble As'.length mt.1.2.2.1 && ((Nat.beq k 2 && Nat.beq mt.2.2.2.1 100) || (Nat.beq k 1 && Nat.blt mt.2.2.2.1 100 && x_rcv mt.2.2.2.1 As'))) with
    | false => rw [hb] at h; cases h
    | true =>
      rw [hb] at h
      cases h
      simp only [Bool.and_eq_true] at hb
      obtain ⟨⟨⟨⟨⟨b1, b2⟩, b3⟩, b4⟩, b5⟩, b6⟩ := hb
      have b3 := Nat.le_of_ble_eq_true b3
      have b4 := Nat.le_of_ble_eq_true b4
      have b5 := Nat.le_of_ble_eq_true b5
      obtain ⟨Vs, T', k1, k2, k3⟩ := x_take_ok hs (show x_vs r [] [] from trivial) ht
      refine ⟨Vs, T', ?_, k2, k3⟩
      unfold a_args
      rw [k1]
      simp only
      refine if_pos ⟨by rw [(x_cts k3 b1).1]; exact b3, b4, by rw [← x_vs_len k2]; exact b5, (x_cts k2 b2).2, ?_⟩
      rw [Bool.or_eq_true] at b6
      rcases b6 with b6 | b6
      · rw [Bool.and_eq_true] at b6
        exact Or.inl ⟨Nat.eq_of_beq_eq_true b6.1, Nat.eq_of_beq_eq_true b6.2⟩
      · simp only [Bool.and_eq_true] at b6
        obtain ⟨⟨c1, c2⟩, c3⟩ := b6
        have c2 : mt.2.2.2.1 + 1 ≤ 100 := Nat.le_of_ble_eq_true c2
        refine Or.inr ⟨Nat.eq_of_beq_eq_true c1, by omega, ?_⟩
        unfold x_rcv at c3
        split at c3
        next i c t _ =>
          match Vs, k2 with
          | v :: _, k2 =>
          have h3 : v = .ref i := k2.1
          subst h3
          rw [Bool.and_eq_true] at c3
          have c4 : i + 1 ≤ a_ncw := Nat.le_of_ble_eq_true c3.1
          have c5 := Nat.eq_of_beq_eq_true c3.2
          unfold a_recv
          simp only [Bool.and_eq_true, decide_eq_true_eq]
          exact ⟨c4, c5⟩
        next => cases c3
  next => cases h
/-! what is known of a method: its number, how deep, its arguments, what it may write, what it answers -/
abbrev xU : Type := Nat × Nat × List (Nat × Nat × Int × Int) × xW × (Nat × Int × Int)
def x_am (S : xS) : List xV → List (Nat × Nat × Int × Int) → Bool
  | [], [] => true
  | a :: s, p :: t => (bif Nat.beq p.1 0 then Nat.beq a.1 0 && Nat.beq a.2.1 p.2.1 else x_isI a && x_ile p.2.2.1 (x_iv S.2.1 a).1 && x_ub 3 S a p.2.2.2) && x_am S s t
  | _, _ => false
def x_av : List (Nat × Nat × Int × Int) → List Value → Prop
  | [], [] => True
  | p :: t, v :: s => ((p.1 = 0 ∧ v = .ref p.2.1) ∨ (p.1 ≠ 0 ∧ ∃ x : Int32, v = .int x ∧ p.2.2.1 ≤ x.toInt ∧ x.toInt ≤ p.2.2.2)) ∧ x_av t s
  | _, _ => False
theorem x_am_ok {r : List Int32} {S : xS} {M : aM} (g : x_gs r S M) : ∀ {As : List xV} {ps : List (Nat × Nat × Int × Int)} {Vs : List Value}, x_vs r As Vs → x_am S As ps = true → x_av ps Vs
  | [], [], [], _, _ => trivial
  | a :: s, p :: t, v :: u, h, hb => by
    unfold x_am at hb
    rw [Bool.and_eq_true] at hb
    refine ⟨?_, x_am_ok g h.2 hb.2⟩
    cases hp : Nat.beq p.1 0 with
    | true =>
      rw [hp] at hb
      simp only [cond_true, Bool.and_eq_true] at hb
      have e1 := Nat.eq_of_beq_eq_true hb.1.1
      have e2 := Nat.eq_of_beq_eq_true hb.1.2
      refine Or.inl ⟨Nat.eq_of_beq_eq_true hp, ?_⟩
      have h1 := h.1
      obtain ⟨a1, a2, a3⟩ := a
      simp only at e1 e2
      subst e1
      rw [← e2]
      exact h1
    | false =>
      rw [hp] at hb
      simp only [cond_false, Bool.and_eq_true] at hb
      obtain ⟨x, rfl, h3⟩ := x_v_i h.1 hb.1.1.1
      exact Or.inr ⟨x_nb hp, x, rfl, Int.le_trans (x_ile_ok.mp hb.1.1.2) (x_iv_ok g.2.1 h3).1, x_ub_ok g 3 h3 hb.1.2⟩
  | [], _ :: _, _, _, hb => by cases hb
  | _ :: _, [], _, _, hb => by cases hb
  | [], [], _ :: _, h, _ => h.elim
  | _ :: _, _ :: _, [], h, _ => h.elim
def x_wle (a b : xW) : Bool := a.all (fun e => b.any (fun d => Nat.beq d.1 e.1 && Nat.ble d.2.1 e.2.1 && Nat.ble e.2.2 d.2.2))
theorem x_wle_ok {a b : xW} (h : x_wle a b = true) {i k : Nat} (hn : x_in b i k = false) : x_in a i k = false := by
  cases hc : x_in a i k with
  | false => rfl
  | true =>
    obtain ⟨e, he, h1⟩ := List.any_eq_true.mp hc
    obtain ⟨d, hd, h2⟩ := List.any_eq_true.mp (List.all_eq_true.mp h e he)
    simp only [Bool.and_eq_true] at h1 h2
    have t1 := Nat.eq_of_beq_eq_true h1.1.1
    have t2 := Nat.le_of_ble_eq_true h1.1.2
    have t3 : k + 1 ≤ e.2.2 := Nat.le_of_ble_eq_true h1.2
    have u1 := Nat.eq_of_beq_eq_true h2.1.1
    have u2 := Nat.le_of_ble_eq_true h2.1.2
    have u3 := Nat.le_of_ble_eq_true h2.2
    have : x_in b i k = true := List.any_eq_true.mpr ⟨d, hd, by
      simp only [Bool.and_eq_true]
      exact ⟨⟨Nat.beq_eq.mpr (u1.trans t1), Nat.ble_eq.mpr (by omega)⟩, Nat.ble_eq.mpr (by omega)⟩⟩
    rw [hn] at this
    cases this
def x_rv (t : Nat × Int × Int) (v : Option Value) : Prop := (t.1 = 0 ∧ v = none) ∨ (t.1 ≠ 0 ∧ ∃ x : Int32, v = some (.int x) ∧ t.2.1 ≤ x.toInt ∧ x.toInt ≤ t.2.2)
def x_uok (iv : xB) (u : xU) : Prop := ∀ (Ln : Nat) (xs : Nat → Int32) (e : Nat) (M : aM) (Vs : List Value), x_J iv M → x_av u.2.2.1 Vs → am (wA, Ln, xs) (u.2.1 + e) u.1 Vs M (fun v M' => x_J iv M' ∧ x_F u.2.2.2.1 M M' ∧ x_rv u.2.2.2.2 v)
/-- what stays known when wr is written -/
def x_sty (wr : xW) (e : Nat × Nat × xV) : Bool := bif Nat.blt e.1 1000 then !(x_in wr e.1 e.2.1) else !(wr.any (fun q => Nat.beq (q.1 + 1000) e.1))
def x_sum (tab : List xU) (wr : xW) (id d : Nat) (As : List xV) (S : xS) : Option (List xV × xS) := match tab.find? (fun u => Nat.beq u.1 id && Nat.ble u.2.1 d && x_wle u.2.2.2.1 wr && x_am S As u.2.2.1) with
  | none => none
  | some u =>
    let S1 : xS := (S.1, S.2.1, S.2.2.1, S.2.2.2.filter (x_sty u.2.2.2.1))
    bif Nat.beq u.2.2.2.2.1 0 then some ([], S1) else (let q := x_fr S1 u.2.2.2.2.2.1 u.2.2.2.2.2.2; some ([q.1], q.2))
theorem x_sum_ok {iv : xB} {tab : List xU} {wr : xW} {M0 M : aM} {r : List Int32} {S S1 : xS} {id d e Ln : Nat} {xs : Nat → Int32} {As rv : List xV} {Vs : List Value} (ht : ∀ u ∈ tab, x_uok iv u) (hA : x_vs r As Vs) (g : x_gs r S M) (G : x_G iv wr M0 M) (h : x_sum tab wr id d As S = some (rv, S1)) : am (wA, Ln, xs) (d + e) id Vs M (fun v M' => ∃ r', x_ex r r' ∧ x_gs r' S1 M' ∧ x_G iv wr M0 M' ∧ x_vs r' rv v.toList) := by
  unfold x_sum at h
  split at h
  next => cases h
  next u hu =>
    have hp := List.find?_some hu
    simp only [Bool.and_eq_true] at hp
    obtain ⟨⟨⟨p1, p2⟩, p3⟩, p4⟩ := hp
    have p1 := Nat.eq_of_beq_eq_true p1
    have p2 := Nat.le_of_ble_eq_true p2
    obtain ⟨mt, hm, q⟩ := ht u (List.mem_of_find?_eq_some hu) Ln xs (d - u.2.1 + e) M Vs G.1 (x_am_ok g hA p4)
    rw [show u.2.1 + (d - u.2.1 + e) = d + e by omega] at q
    rw [p1] at hm
    refine ⟨mt, hm, aw_q q ?_⟩
    rintro v M' ⟨j1, j2, j3⟩
    have G' : x_G iv wr M0 M' := ⟨j1, fun i k hn => (j2 i k (x_wle_ok p3 hn)).trans (G.2 i k hn)⟩
    have g1 : x_gs r (S.1, S.2.1, S.2.2.1, S.2.2.2.filter (x_sty u.2.2.2.1)) M' := by
      refine ⟨g.1, g.2.1, g.2.2.1, ?_⟩
      intro c hc
      obtain ⟨c1, c2⟩ := List.mem_filter.mp hc
      unfold x_sty at c2
      rcases g.2.2.2 c c1 with ⟨e1, e2⟩ | ⟨e1, y, e2, e3⟩
      · have hb : Nat.blt c.1 1000 = true := Nat.ble_eq.mpr e1
        rw [hb] at c2
        refine Or.inl ⟨e1, ?_⟩
        rw [j2 c.1 c.2.1 (by simpa using c2)]
        exact e2
      · have hb : Nat.blt c.1 1000 = false := by
          cases hq : Nat.blt c.1 1000 with
          | false => rfl
          | true =>
            have : c.1 + 1 ≤ 1000 := Nat.le_of_ble_eq_true hq
            omega
        rw [hb] at c2
        refine Or.inr ⟨e1, y, e2, ?_⟩
        rw [j2 (c.1 - 1000) y.toNatClampNeg]
        · exact e3
        · cases hq : x_in u.2.2.2.1 (c.1 - 1000) y.toNatClampNeg with
          | false => rfl
          | true =>
            obtain ⟨q, q1, q2⟩ := List.any_eq_true.mp hq
            simp only [Bool.and_eq_true] at q2
            have q3 := Nat.eq_of_beq_eq_true q2.1.1
            have : u.2.2.2.1.any (fun q => Nat.beq (q.1 + 1000) c.1) = true := List.any_eq_true.mpr ⟨q, q1, Nat.beq_eq.mpr (by omega)⟩
            rw [this] at c2
            cases c2
    simp only at h
    cases h0 : Nat.beq u.2.2.2.2.1 0 with
    | true =>
      rw [h0] at h
      cases h
      have h0 := Nat.eq_of_beq_eq_true h0
      rcases j3 with ⟨-, rfl⟩ | ⟨hn, -⟩
      · exact ⟨r, x_ex_rf r, g1, G', trivial⟩
      · exact absurd h0 hn
    | false =>
      rw [h0] at h
      simp only [cond_false, Option.some.injEq, Prod.mk.injEq] at h
      obtain ⟨rfl, rfl⟩ := h
      have h0 := x_nb h0
      rcases j3 with ⟨hn, -⟩ | ⟨-, x, rfl, x1, x2⟩
      · exact absurd hn h0
      · obtain ⟨r', k1, k2, k3⟩ := x_fr_ok g1 x1 x2
        exact ⟨r', k1, k2, G', x_i_v k3, trivial⟩
