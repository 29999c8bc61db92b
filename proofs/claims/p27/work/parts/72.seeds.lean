theorem aw_gen3 {w : aW} {fr : Nat} {cd : List aR} {pc : Nat} {L st : List Value} {M : aM} {Q : Option Value → aM → Prop} {P : aM → Prop} (h : P M) (k : ∀ M1, P M1 → aw w fr cd pc L st M1 Q) : aw w fr cd pc L st M Q := k M h
theorem aw_gen2 {w : aW} {fr : Nat} {cd : List aR} {pc : Nat} {L r : List Value} {M : aM} {Q : Option Value → aM → Prop} {x : Int32} {P : Int32 → Prop} (h : P x) (k : ∀ u, P u → aw w fr cd pc L (.int u :: r) M Q) : aw w fr cd pc L (.int x :: r) M Q := k x h
/-! stores keep the bounds -/
theorem h_JupA {M : aM} {i k : Nat} {v : Int32} (a b : Int) (hJ : x_J x_B M) (hc : x_B.all (fun e => !(Nat.beq e.1 i) || (x_ile e.2.2.2.1 a && x_ile b e.2.2.2.2)) = true) (h1 : a ≤ v.toInt) (h2 : v.toInt ≤ b) : x_J x_B (a_up M i k v) := by
  intro e he q q1 q2
  rw [a_up_ap]
  split
  next h =>
    have := List.all_eq_true.mp hc e he
    rw [Bool.or_eq_true] at this
    rcases this with t | t
    · rw [h.1, Nat.beq_refl] at t
      cases t
    · rw [Bool.and_eq_true] at t
      exact ⟨Int.le_trans (x_ile_ok.mp t.1) h1, Int.le_trans h2 (x_ile_ok.mp t.2)⟩
  next => exact hJ e he q q1 q2
theorem h_JupB {M : aM} {i k : Nat} {v : Int32} (a b : Int) (hJ : x_J x_B M) (hc : x_B.all (fun e => !(Nat.beq e.1 i && Nat.ble e.2.1 k && Nat.blt k e.2.2.1) || (x_ile e.2.2.2.1 a && x_ile b e.2.2.2.2)) = true) (h1 : a ≤ v.toInt) (h2 : v.toInt ≤ b) : x_J x_B (a_up M i k v) := by
  intro e he q q1 q2
  rw [a_up_ap]
  split
  next h =>
    have := List.all_eq_true.mp hc e he
    rw [Bool.or_eq_true] at this
    rcases this with t | t
    · have e1 : Nat.beq e.1 i = true := Nat.beq_eq.mpr h.1
      have e2 : Nat.ble e.2.1 k = true := Nat.ble_eq.mpr (by omega)
      have e3 : Nat.blt k e.2.2.1 = true := Nat.ble_eq.mpr (by omega)
      rw [e1, e2, e3] at t
      cases t
    · rw [Bool.and_eq_true] at t
      exact ⟨Int.le_trans (x_ile_ok.mp t.1) h1, Int.le_trans h2 (x_ile_ok.mp t.2)⟩
  next => exact hJ e he q q1 q2
theorem h_Fup {wr : xW} {M0 M : aM} {i k : Nat} {v : Int32} (h : x_F wr M0 M) (hi : x_in wr i k = true) : x_F wr M0 (a_up M i k v) := by
  intro i' k' hn
  rw [a_up_ap, if_neg]
  · exact h i' k' hn
  · rintro ⟨rfl, rfl⟩
    rw [hi] at hn
    cases hn
theorem h_Ftr {a b c : xW} {M0 M M' : aM} (h : x_F a M0 M) (g : x_F b M M') (ha : x_wle a c = true) (hb : x_wle b c = true) : x_F c M0 M' := fun i k hn => (g i k (x_wle_ok hb hn)).trans (h i k (x_wle_ok ha hn))
theorem h_Frf (wr : xW) (M : aM) : x_F wr M M := fun _ _ _ => rfl
theorem h_Fle {a b : xW} {M M' : aM} (h : x_F a M M') (ha : x_wle a b = true) : x_F b M M' := fun i k hn => h i k (x_wle_ok ha hn)
theorem h_rem {x y : Int32} (h1 : 0 ≤ x.toInt) (h2 : 1 ≤ y.toInt) : 0 ≤ (x - x / y * y).toInt ∧ (x - x / y * y).toInt < y.toInt := by
  obtain ⟨e, k1, k2⟩ := @x_dv_z x y h1 h2
  have m1 : x.toInt / y.toInt * y.toInt = x.toInt - x.toInt % y.toInt := by
    have := Int.mul_ediv_add_emod x.toInt y.toInt
    rw [Int.mul_comm] at this
    omega
  have m2 : 0 ≤ x.toInt % y.toInt := Int.emod_nonneg _ (by omega)
  have m3 : x.toInt % y.toInt < y.toInt := Int.emod_lt_of_pos _ (by omega)
  have m4 : x.toInt % y.toInt ≤ x.toInt := by
    have : 0 ≤ x.toInt / y.toInt * y.toInt := Int.mul_nonneg k1 (by omega)
    omega
  have b1 := x_le_mx x
  have e2 : (x / y * y).toInt = x.toInt - x.toInt % y.toInt := by
    rw [Int32.toInt_mul, e, m1]
    exact x_bm (by rw [x_mn_e]; omega) (by omega)
  have e3 : (x - x / y * y).toInt = x.toInt % y.toInt := by
    rw [Int32.toInt_sub, e2]
    rw [x_bm (by rw [x_mn_e]; omega) (by omega)]
    omega
  omega
theorem h_subz {x y : Int32} (h1 : 0 ≤ x.toInt ∧ x.toInt ≤ 1000) (h2 : 0 ≤ y.toInt ∧ y.toInt ≤ 1000) : (x - y).toInt = x.toInt - y.toInt := by
  rw [Int32.toInt_sub]
  exact x_bm (by rw [x_mn_e]; omega) (by rw [x_mx_e]; omega)
theorem h_dec {p : Int32} {c : Int} (hc : c = -1) (h0 : 0 < p.toInt) : (p + Int32.ofInt c).toInt = p.toInt - 1 := by
  subst hc
  rw [Int32.toInt_add]
  have h1 : (Int32.ofInt (-1)).toInt = -1 := by decide
  have h2 := x_le_mx p
  rw [h1]
  rw [x_mx_e] at h2
  exact x_bm (by rw [x_mn_e]; omega) (by rw [x_mx_e]; omega)
theorem h_th {M : aM} (hJ : x_J x_B M) : 0 ≤ (M 61 9).toInt ∧ (M 61 9).toInt ≤ 8 := hJ (61, 9, 10, 0, 8) (by decide +kernel) 9 (by decide) (by decide)
theorem h_sz {M : aM} (hJ : x_J x_B M) : 0 ≤ (M 61 10).toInt ∧ (M 61 10).toInt ≤ 8 := h_bd8 (u := 0) hJ (by decide)
/-! which things are left -/
def h_in (M : aM) (k : Nat) : Bool := (List.range (M 61 10).toInt.toNat).any (fun p => decide ((M 70 p).toInt = (k : Int)))
def h_mis (M : aM) (t n : Nat) : Nat := (List.range' t n).countP (fun k => !(h_in M k))
theorem h_mis_le {M : aM} (n : Nat) : n ≤ h_mis M 0 n + (M 61 10).toInt.toNat := by
  have h1 : (List.range' 0 n).countP (fun k => h_in M k) + h_mis M 0 n = n := by
    have := List.length_eq_countP_add_countP (fun k => h_in M k) (l := List.range' 0 n)
    unfold h_mis
    simp only [List.length_range'] at this
    have e : (List.range' 0 n).countP (fun k => !(h_in M k)) = (List.range' 0 n).countP (fun k => decide ¬(h_in M k = true)) := by
      congr 1
      funext k
      cases h_in M k <;> rfl
    rw [e]
    omega
  have h2 : (List.range' 0 n).countP (fun k => h_in M k) ≤ (M 61 10).toInt.toNat := by
    rw [List.countP_eq_length_filter]
    have := h_sub ((List.range' 0 n).filter (fun k => h_in M k)) ((List.range (M 61 10).toInt.toNat).map (fun p => (M 70 p).toInt.toNat)) (List.Pairwise.filter _ List.nodup_range') (by
      intro x hx
      obtain ⟨-, hx⟩ := List.mem_filter.mp hx
      obtain ⟨p, hp, e⟩ := List.any_eq_true.mp hx
      exact List.mem_map.mpr ⟨p, hp, by have := of_decide_eq_true e; omega⟩)
    simpa using this
  omega
/-- the thing of a number among those that are left -/
theorem h_lo_loop {Ln fr : Nat} {xs : Nat → Int32} {M : aM} (hJ : x_J x_B M) {n0 : Int32} {Q : Option Value → aM → Prop} (hQ : ∀ x : Int32, 0 ≤ x.toInt → x.toInt ≤ 7 → Q (some (.int x)) M) : ∀ (m : Nat) (lf t : Int32), 0 ≤ t.toInt → t.toInt ≤ (M 61 9).toInt → ((M 61 9).toInt - t.toInt).toNat = m → 0 ≤ lf.toInt → lf.toInt < (h_mis M t.toInt.toNat m : Int) → aw (wA, Ln, xs) (fr + 1) a_e246.2.1 4 [.ref 61, .int n0, .int lf, .int t] [] M Q := by
  intro m
  have hth := h_th hJ
  induction m with
  | zero =>
    intro lf t h0 h1 hm h2 h3
    unfold h_mis at h3
    simp at h3
    omega
  | succ m ih =>
    intro lf t h0 h1 hm h2 h3
    have ht := h_inc (p := t) rfl (by omega)
    have hm3 : h_mis M t.toInt.toNat (m + 1) = (if h_in M t.toInt.toNat = true then 0 else 1) + h_mis M (t + Int32.ofInt 1).toInt.toNat m := by
      unfold h_mis
      rw [List.range'_succ, List.countP_cons, ht, show (t.toInt + 1).toNat = t.toInt.toNat + 1 by omega]
      cases h_in M t.toInt.toNat <;> simp <;> omega
    refine aw_e rfl rfl rfl ?_
    refine aw_e rfl rfl rfl ?_
    refine aw_e rfl rfl rfl ?_
    refine aw_i2f rfl (h_gef.mpr (show t.toInt < (M 61 9).toInt by omega)) ?_
    refine aw_e rfl rfl rfl ?_
    refine aw_e rfl rfl rfl ?_
    refine aw_cm2 (k := 0) rfl rfl (by decide) rfl (h_placeOf (w := (wA, Ln, xs)) (fun _ => rfl) hJ t) rfl (fun v M1 hu => ?_)
    obtain ⟨rfl, x, rfl, h⟩ := hu
    rcases h with ⟨x1, x2, x3⟩ | ⟨x1, x2⟩
    · have hin : h_in M1 t.toInt.toNat = true := List.any_eq_true.mpr ⟨x.toInt.toNat, List.mem_range.mpr (by omega), by rw [x3]; exact decide_eq_true (by omega)⟩
      rw [hin, if_pos rfl] at hm3
      obtain ⟨t2, et⟩ : ∃ u, u = t + Int32.ofInt 1 := ⟨_, rfl⟩
      rw [← et] at ht hm3
      have := ih lf t2 (by omega) (by omega) (by omega) h2 (by omega)
      rw [et] at this
      refine aw_i1f rfl (q1_lt_f (by omega)) ?_
      refine aw_e rfl rfl rfl ?_
      refine aw_e rfl rfl rfl ?_
      refine aw_e rfl rfl rfl ?_
      exact this
    · have hin : h_in M1 t.toInt.toNat = false := by
        cases hq : h_in M1 t.toInt.toNat with
        | false => rfl
        | true =>
          obtain ⟨p, hp, e⟩ := List.any_eq_true.mp hq
          have e := of_decide_eq_true e
          have hp := List.mem_range.mp hp
          exact absurd (Int32.toInt_inj.mp (by omega)) (x2 p (by omega))
      rw [hin, if_neg (by decide)] at hm3
      refine aw_i1t rfl (q1_lt_t (by omega)) ?_
      refine aw_e rfl rfl rfl ?_
      by_cases hz : lf.toInt = 0
      · refine aw_i1f rfl (q1_ne_f (by omega)) ?_
        refine aw_e rfl rfl rfl ?_
        exact aw_ri rfl (Or.inl rfl) (hQ t h0 (by omega))
      · refine aw_i1t rfl (q1_ne_t hz) ?_
        have hd := h_dec (p := lf) rfl (by omega)
        obtain ⟨t2, et⟩ : ∃ u, u = t + Int32.ofInt 1 := ⟨_, rfl⟩
        obtain ⟨l2, el⟩ : ∃ u, u = lf + Int32.ofInt (-1) := ⟨_, rfl⟩
        rw [← et] at ht hm3
        rw [← el] at hd
        have := ih l2 t2 (by omega) (by omega) (by omega) (by omega) (by omega)
        rw [et, el] at this
        refine aw_e rfl rfl rfl ?_
        refine aw_e rfl rfl rfl ?_
        refine aw_e rfl rfl rfl ?_
        exact this
theorem h_leftOne {Ln fr : Nat} {xs : Nat → Int32} {M : aM} (hJ : x_J x_B M) {n : Int32} (h0 : 0 ≤ n.toInt) (h1 : n.toInt < (M 61 9).toInt - (M 61 10).toInt) : am (wA, Ln, xs) (fr + 1) 246 [.ref 61, .int n] M (fun v M' => M' = M ∧ ∃ x : Int32, v = some (.int x) ∧ 0 ≤ x.toInt ∧ x.toInt ≤ 7) := by
  refine ⟨a_e246, rfl, ?_⟩
  have hth := h_th hJ
  have hsz := h_sz hJ
  have hz : (Int32.ofInt 0).toInt = 0 := by decide
  refine aw_e rfl rfl rfl ?_
  refine aw_e rfl rfl rfl ?_
  refine aw_e rfl rfl rfl ?_
  refine aw_e rfl rfl rfl ?_
  refine h_lo_loop hJ (fun x a b => ⟨rfl, x, rfl, a, b⟩) (M 61 9).toInt.toNat n (Int32.ofInt 0) (by omega) (by omega) (by omega) h0 ?_
  have := @h_mis_le M (M 61 9).toInt.toNat
  rw [hz]
  show n.toInt < (h_mis M 0 _ : Int)
  omega
/-! what is laid aside, and taken back -/
def h_wp1 : xW := [(61, 9, 12), (61, 23, 25), (77, 75, 139)]
def h_pp1 : List (Nat × Nat × Int × Int) := (61, 9, 0, 8) :: h_pre 0 8 [0]
def h_cp1 : List (Nat × Nat × Nat) := (61, 9, 0) :: (61, 10, 9) :: (77, 137, 9) :: (List.range 8).map (fun p => (77, 128 + p, 1 + p))
def h_chp1 : Bool := match x_go x_B [] [] h_wp1 20000 1 171 [(0, 61, 0, 0), (1, 0, 1, 1), (1, 0, 1, 1)] h_pp1 with
  | some outs => outs.all (fun o => x_resok (0, 0, 0) o && x_cpy (h_cp1.map (fun e => (e.1, e.2.1, 2 + e.2.2))) o)
  | none => false
theorem h_chp1_ok : h_chp1 = true := by decide +kernel
theorem h_pass1 {Ln e : Nat} {xs : Nat → Int32} {M : aM} (hJ : x_J x_B M) {a b : Int32} (ha : a.toInt = 1) (hb : b.toInt = 1) : am (wA, Ln, xs) (1 + e) 171 [.ref 61, .int a, .int b] M (fun v M' => v = none ∧ x_J x_B M' ∧ x_F h_wp1 M M' ∧ M' 61 9 = M 61 9 ∧ M' 61 10 = M 61 10 ∧ M' 77 137 = M 61 10 ∧ ∀ p, p < 8 → M' 77 (128 + p) = M 70 p) := by
  have hc := h_chp1_ok
  unfold h_chp1 at hc
  split at hc
  next outs ho =>
    have q := x_con (Ln := Ln) (e := e) (xs := xs) (Vs := [.ref 61, .int a, .int b]) (fun u h => by cases h) ho hJ ⟨Or.inl ⟨rfl, rfl⟩, Or.inr ⟨by decide, a, rfl, by simp only; omega, by simp only; omega⟩, Or.inr ⟨by decide, b, rfl, by simp only; omega, by simp only; omega⟩, trivial⟩ (by
      intro q hq
      rcases List.mem_cons.mp hq with rfl | hq
      · exact ⟨by decide, h_th hJ⟩
      · exact h_pre_ok hJ (h_sz hJ) q hq)
    obtain ⟨mt, hm, q⟩ := q
    refine ⟨mt, hm, aw_q q ?_⟩
    rintro v M' ⟨h1, h2, o, ho, r', hx, h4, h5⟩
    have hb2 := List.all_eq_true.mp hc o ho
    rw [Bool.and_eq_true] at hb2
    have hn : ∀ i p u, [0][i]? = some u → p < 9 → (x_r0 [.ref 61, .int a, .int b] h_pp1 M)[2 + (1 + (9 * i + p))]? = some (h_o M u p) := by
      intro i p u hi hp
      show ([a, b] ++ x_atC M h_pp1)[2 + (1 + (9 * i + p))]? = _
      rw [List.getElem?_append_right (by simp only [List.length_cons, List.length_nil]; omega)]
      show (M 61 9 :: x_atC M (h_pre 0 8 [0]))[2 + (1 + (9 * i + p)) - 2]? = _
      rw [show 2 + (1 + (9 * i + p)) - 2 = (9 * i + p) + 1 by omega, List.getElem?_cons_succ]
      exact h_pre_at hi hp
    have hcp := x_cpy_ok h4 hx hb2.2
    refine ⟨?_, h1, h2, ?_, ?_, ?_, fun p hp => ?_⟩
    · rcases x_resok_ok h4 h5 hb2.1 with ⟨-, h⟩ | ⟨h, -⟩
      · exact h
      · exact absurd rfl h
    · exact hcp (61, 9, 2 + 0) (List.mem_map.mpr ⟨(61, 9, 0), by simp [h_cp1], rfl⟩) _ rfl
    · exact hcp (61, 10, 2 + 9) (List.mem_map.mpr ⟨(61, 10, 9), by simp [h_cp1], rfl⟩) _ (hn 0 8 0 rfl (by decide))
    · exact hcp (77, 137, 2 + 9) (List.mem_map.mpr ⟨(77, 137, 9), by simp [h_cp1], rfl⟩) _ (hn 0 8 0 rfl (by decide))
    · have := hcp (77, 128 + p, 2 + (1 + p)) (List.mem_map.mpr ⟨(77, 128 + p, 1 + p), by simp [h_cp1, hp], rfl⟩) (h_o M 0 p) (by have := hn 0 p 0 rfl (by omega); rw [Nat.mul_zero, Nat.zero_add] at this; exact this)
      rw [this]
      unfold h_o h_cell
      rw [if_pos rfl, if_pos hp]
  next => cases hc
def h_wp2 : xW := [(61, 9, 12), (61, 23, 25), (63, 0, 5), (64, 0, 8), (65, 0, 8), (66, 0, 8), (67, 0, 8), (68, 0, 8), (69, 0, 8), (70, 0, 8)]
def h_pp2 : List (Nat × Nat × Int × Int) := (77, 137, 0, 8) :: (List.range 8).map (fun p => (77, 128 + p, 0, 7))
def h_cp2 : List (Nat × Nat × Nat) := (61, 10, 2) :: (List.range 8).map (fun p => (70, p, 3 + p))
def h_chp2 : Bool := match x_go x_B [] [] h_wp2 20000 1 171 [(0, 61, 0, 0), (1, 0, 1, 1), (1, 0, 0, 0)] h_pp2 with
  | some outs => outs.all (fun o => x_resok (0, 0, 0) o && x_cpy h_cp2 o)
  | none => false
theorem h_chp2_ok : h_chp2 = true := by decide +kernel
theorem h_pass2 {Ln e : Nat} {xs : Nat → Int32} {M : aM} (hJ : x_J x_B M) {a b : Int32} (ha : a.toInt = 1) (hb : b.toInt = 0) : am (wA, Ln, xs) (1 + e) 171 [.ref 61, .int a, .int b] M (fun v M' => v = none ∧ x_J x_B M' ∧ x_F h_wp2 M M' ∧ M' 61 10 = M 77 137 ∧ ∀ p, p < 8 → M' 70 p = M 77 (128 + p)) := by
  have hc := h_chp2_ok
  unfold h_chp2 at hc
  split at hc
  next outs ho =>
    have q := x_con (Ln := Ln) (e := e) (xs := xs) (Vs := [.ref 61, .int a, .int b]) (fun u h => by cases h) ho hJ ⟨Or.inl ⟨rfl, rfl⟩, Or.inr ⟨by decide, a, rfl, by simp only; omega, by simp only; omega⟩, Or.inr ⟨by decide, b, rfl, by simp only; omega, by simp only; omega⟩, trivial⟩ (by
      intro q hq
      rcases List.mem_cons.mp hq with rfl | hq
      · exact ⟨by decide, hJ (77, 137, 138, 0, 8) (by decide +kernel) 137 (by decide) (by decide)⟩
      · obtain ⟨p, hp, rfl⟩ := List.mem_map.mp hq
        have hp := List.mem_range.mp hp
        exact ⟨(show (77 : Nat) < 1000 by decide), hJ (77, 128, 136, 0, 7) (by decide +kernel) (128 + p) (by simp only; omega) (by simp only; omega)⟩)
    obtain ⟨mt, hm, q⟩ := q
    refine ⟨mt, hm, aw_q q ?_⟩
    rintro v M' ⟨h1, h2, o, ho, r', hx, h4, h5⟩
    have hb2 := List.all_eq_true.mp hc o ho
    rw [Bool.and_eq_true] at hb2
    have hcp := x_cpy_ok h4 hx hb2.2
    refine ⟨?_, h1, h2, ?_, fun p hp => ?_⟩
    · rcases x_resok_ok h4 h5 hb2.1 with ⟨-, h⟩ | ⟨h, -⟩
      · exact h
      · exact absurd rfl h
    · exact hcp (61, 10, 2) (by simp [h_cp2]) _ rfl
    · refine hcp (70, p, 3 + p) (by simp [h_cp2, hp]) _ ?_
      show ([a, b] ++ (M 77 137 :: ((List.range 8).map (fun p => (77, 128 + p, (0 : Int), (7 : Int)))).map (fun e => M e.1 e.2.1)))[3 + p]? = _
      rw [List.getElem?_append_right (by simp only [List.length_cons, List.length_nil]; omega)]
      simp only [List.length_cons, List.length_nil]
      rw [show 3 + p - (0 + 1 + 1) = p + 1 by omega, List.getElem?_cons_succ]
      simp [List.getElem?_map, List.getElem?_range, hp]
  next => cases hc
/-! seeds -/
def h_wsl : xW := [(61, 10, 11), (61, 35, 43), (70, 0, 8), (81, 0, 8), (82, 0, 8), (83, 0, 8), (84, 0, 8), (85, 0, 8), (86, 0, 3)]
def h_wsd : xW := [(61, 9, 12), (61, 23, 25), (61, 35, 43), (62, 1, 7), (63, 0, 5), (64, 0, 8), (65, 0, 8), (66, 0, 8), (67, 0, 8), (68, 0, 8), (69, 0, 8), (70, 0, 8), (77, 75, 139), (81, 0, 8), (82, 0, 8), (83, 0, 8), (84, 0, 8), (85, 0, 8), (86, 0, 3)]
theorem h_sd_in {Ln : Nat} {xs : Nat → Int32} {Mb : aM} {n a3 : Int32} {v4 v9 : Value} {z0 : Int32} {c6 c7 c8 : Int32} {Q : Option Value → aM → Prop} (hgo : ∀ (M : aM) (z : Int32), x_J x_B M → x_F h_wsl Mb M → aw (wA, Ln, xs) 8 a_e247.2.1 158 [.ref 61, .int n, .int z0, .int a3, v4, .int z, .int c6, .int c7, .int c8, v9] [] M Q) : ∀ (m : Nat) (M : aM) (z : Int32), x_J x_B M → x_F h_wsl Mb M → ((M 61 9).toInt - (M 61 10).toInt).toNat = m → aw (wA, Ln, xs) 8 a_e247.2.1 89 [.ref 61, .int n, .int z0, .int a3, v4, .int z, .int c6, .int c7, .int c8, v9] [] M Q := by
  intro m
  induction m with
  | zero =>
    intro M z hJ hF hm
    refine aw_e rfl rfl rfl ?_
    refine aw_e rfl rfl rfl ?_
    refine aw_e rfl rfl rfl ?_
    refine aw_e rfl rfl rfl ?_
    refine aw_i2t rfl (h_ge.mpr (show (M 61 9).toInt ≤ (M 61 10).toInt by omega)) ?_
    exact hgo M z hJ hF
  | succ m ih =>
    intro M z hJ hF hm
    have hth := h_th hJ
    have hsz := h_sz hJ
    have hd := h_subz (x := M 61 9) (y := M 61 10) (by omega) (by omega)
    refine aw_e rfl rfl rfl ?_
    refine aw_e rfl rfl rfl ?_
    refine aw_e rfl rfl rfl ?_
    refine aw_e rfl rfl rfl ?_
    refine aw_i2f rfl (h_gef.mpr (show (M 61 10).toInt < (M 61 9).toInt by omega)) ?_
    refine aw_e rfl rfl rfl ?_
    refine aw_e rfl rfl rfl ?_
    refine aw_e rfl rfl rfl ?_
    refine aw_e rfl rfl rfl ?_
    refine aw_e rfl rfl rfl ?_
    refine aw_e rfl rfl rfl ?_
    refine aw_e rfl rfl rfl ?_
    refine aw_e rfl rfl rfl ?_
    refine aw_e rfl rfl rfl ?_
    refine aw_e rfl rfl rfl ?_
    refine aw_e rfl rfl rfl ?_
    refine aw_e rfl rfl rfl ?_
    refine aw_e rfl rfl rfl ?_
    refine aw_e rfl rfl rfl ?_
    refine aw_e rfl rfl rfl ?_
    refine aw_dd rfl (by decide) ?_
    refine aw_e rfl rfl rfl ?_
    refine aw_e rfl rfl rfl ?_
    refine aw_e rfl rfl rfl ?_
    refine aw_e rfl rfl rfl ?_
    refine aw_e rfl rfl rfl ?_
    have hy : 1 ≤ (M 61 9 - M 61 10).toInt := by omega
    refine aw_dr rfl (fun e => ?_) ?_
    · have e : M 61 9 - M 61 10 = 0 := e
      rw [e, Int32.toInt_zero] at hy
      omega
    refine aw_gen2 (P := fun u : Int32 => 0 ≤ u.toInt ∧ u.toInt < (M 61 9 - M 61 10).toInt) (h_rem ?_ hy) (fun u hu => ?_)
    · have h3 : 0 ≤ ((z * Int32.ofNat 1103515245 + (Int16.ofInt 12345).toInt32) &&& Int32.ofNat 2147483647).toInt := by
        have := @x_and_le (Int32.ofNat 2147483647) (z * Int32.ofNat 1103515245 + (Int16.ofInt 12345).toInt32) (by decide)
        rw [Int32.and_comm] at this
        exact this.1
      obtain ⟨e, k1, -⟩ := @x_dv_z ((z * Int32.ofNat 1103515245 + (Int16.ofInt 12345).toInt32) &&& Int32.ofNat 2147483647) (Int32.ofNat 65536) h3 (by decide)
      rw [e]
      exact k1
    refine aw_cm2 (k := 0) rfl rfl (by decide) rfl (h_leftOne (fr := 6) hJ hu.1 (by omega)) rfl (fun v M1 hv => ?_)
    obtain ⟨rfl, x, rfl, x1, x2⟩ := hv
    refine aw_ist (i := 70) rfl rfl rfl hsz.1 (show (M1 61 10).toInt < ((8 : Nat) : Int) by omega) ?_
    have hJ2 : x_J x_B (a_up M1 70 (M1 61 10).toInt.toNat x) := h_JupA 0 7 hJ (by decide +kernel) x1 x2
    have e10 : a_up M1 70 (M1 61 10).toInt.toNat x 61 10 = M1 61 10 := rfl
    have hinc := h_inc (p := M1 61 10) rfl (by omega)
    refine aw_e rfl rfl rfl ?_
    refine aw_e rfl rfl rfl ?_
    refine aw_e rfl rfl rfl ?_
    refine aw_e rfl rfl rfl ?_
    refine aw_e rfl rfl rfl ?_
    refine aw_e rfl rfl rfl ?_
    refine aw_e rfl rfl rfl ?_
    refine ih (a_up (a_up M1 70 (M1 61 10).toInt.toNat x) 61 10 (M1 61 10 + Int32.ofInt 1)) _ (h_JupB 0 8 hJ2 (by decide +kernel) (by omega) (by omega)) (h_Fup (h_Fup hF ?_) (by decide +kernel)) ?_
    · have hx : (M1 61 10).toInt.toNat < 8 := by omega
      have : ∀ k, k < 8 → x_in h_wsl 70 k = true := by decide +kernel
      exact this _ hx
    · show ((M1 61 9).toInt - (M1 61 10 + Int32.ofInt 1).toInt).toNat = m
      omega
theorem h_sd_out {Ln : Nat} {xs : Nat → Int32} {Mb : aM} {n z0 a3 : Int32} {v4 : Value} {Q : Option Value → aM → Prop} (hgo : ∀ (M : aM) (z c6 c7 c8 : Int32) (v9 : Value), x_J x_B M → x_F h_wsl Mb M → aw (wA, Ln, xs) 8 a_e247.2.1 207 [.ref 61, .int n, .int z0, .int a3, v4, .int z, .int c6, .int c7, .int c8, v9] [] M Q) : ∀ (m : Nat) (M : aM) (z c6 c7 c8 : Int32) (v9 : Value), x_J x_B M → x_F h_wsl Mb M → (n.toInt - c8.toInt).toNat = m → aw (wA, Ln, xs) 8 a_e247.2.1 78 [.ref 61, .int n, .int z0, .int a3, v4, .int z, .int c6, .int c7, .int c8, v9] [] M Q := by
  intro m
  induction m with
  | zero =>
    intro M z c6 c7 c8 v9 hJ hF hm
    refine aw_e rfl rfl rfl ?_
    refine aw_e rfl rfl rfl ?_
    refine aw_i2t rfl (h_ge.mpr (by omega)) ?_
    exact hgo M z c6 c7 c8 v9 hJ hF
  | succ m ih =>
    intro M z c6 c7 c8 v9 hJ hF hm
    refine aw_e rfl rfl rfl ?_
    refine aw_e rfl rfl rfl ?_
    refine aw_i2f rfl (h_gef.mpr (by omega)) ?_
    have hmx := x_le_mx n
    rw [x_mx_e] at hmx
    have hinc := h_inc (p := c8) rfl (by omega)
    refine aw_e rfl rfl rfl ?_
    refine aw_e rfl rfl rfl ?_
    refine aw_e rfl rfl rfl ?_
    refine h_sd_in (Mb := Mb) (fun M1 z1 hJ1 hF1 => ?_) _ (a_up M 61 10 (Int32.ofInt 0)) z (h_JupB 0 0 hJ (by decide +kernel) (by decide) (by decide)) (h_Fup hF (by decide +kernel)) rfl
    refine aw_e rfl rfl rfl ?_
    refine aw_cm2 (k := 0) rfl rfl (by decide) rfl (xsM13 Ln xs 2 M1 [.ref 61] hJ1 ⟨Or.inl ⟨rfl, rfl⟩, trivial⟩) rfl (fun v M2 hu => ?_)
    obtain ⟨hJ2, hF2, hr⟩ := hu
    have hF3 : x_F h_wsl Mb M2 := h_Ftr hF1 hF2 (by decide +kernel) (by decide +kernel)
    rcases hr with ⟨hr, -⟩ | ⟨-, x, rfl, -, -⟩
    · cases hr
    refine aw_e rfl rfl rfl ?_
    refine aw_e rfl rfl rfl ?_
    refine aw_e rfl rfl rfl ?_
    refine aw_e rfl rfl rfl ?_
    have tail : ∀ c6 : Int32, aw (wA, Ln, xs) 8 a_e247.2.1 182 [.ref 61, .int n, .int z0, .int a3, v4, .int z1, .int c6, .int c7, .int c8, .int x] [] M2 Q := by
      intro c6
      refine aw_e rfl rfl rfl ?_
      refine aw_e rfl rfl rfl ?_
      refine aw_e rfl rfl rfl ?_
      refine aw_i2 rfl (fun _ => ?_) (fun _ => ?_)
      · refine aw_e rfl rfl rfl ?_
        refine aw_e rfl rfl rfl ?_
        refine aw_e rfl rfl rfl ?_
        refine aw_e rfl rfl rfl ?_
        refine aw_e rfl rfl rfl ?_
        exact ih M2 _ _ _ (c8 + Int32.ofInt 1) _ hJ2 hF3 (by omega)
      · refine aw_e rfl rfl rfl ?_
        refine aw_e rfl rfl rfl ?_
        refine aw_e rfl rfl rfl ?_
        refine aw_e rfl rfl rfl ?_
        refine aw_e rfl rfl rfl ?_
        refine aw_e rfl rfl rfl ?_
        exact ih M2 _ _ _ (c8 + Int32.ofInt 1) _ hJ2 hF3 (by omega)
    refine aw_i2 rfl (fun _ => ?_) (fun _ => ?_)
    · refine aw_e rfl rfl rfl ?_
      refine aw_e rfl rfl rfl ?_
      refine aw_e rfl rfl rfl ?_
      exact tail _
    · refine aw_e rfl rfl rfl ?_
      refine aw_e rfl rfl rfl ?_
      refine aw_e rfl rfl rfl ?_
      refine aw_e rfl rfl rfl ?_
      exact tail _
theorem hm_seeds : h_op 247 [(0, 61, 0, 0), (1, 0, -2147483648, 2147483647), (1, 0, -2147483648, 2147483647), (1, 0, -2147483648, 2147483647)] h_wsd := by
  intro Ln xs M Vs hJ hD hv
  match Vs, hv with
  | [v, v1, v2, v3], hv =>
    rcases hv.1 with ⟨-, rfl⟩ | ⟨h, -⟩
    rotate_left
    · exact absurd rfl h
    rcases hv.2.1 with ⟨h, -⟩ | ⟨-, n, rfl, -, -⟩
    · cases h
    rcases hv.2.2.1 with ⟨h, -⟩ | ⟨-, z0, rfl, -, -⟩
    · cases h
    rcases hv.2.2.2.1 with ⟨h, -⟩ | ⟨-, a3, rfl, -, -⟩
    · cases h
    refine ⟨a_e247, rfl, ?_⟩
    obtain ⟨Q, hQe⟩ : ∃ Q : Option Value → aM → Prop, Q = fun v M' => x_J x_B M' ∧ h_DM M' ∧ x_F h_wsd M M' ∧ ∃ x, v = some (.int x) := ⟨_, rfl⟩
    rw [← hQe]
    -- refused
    have href : ∀ w : Int32, -6 ≤ w.toInt → w.toInt ≤ -1 → ∀ l5 l6 l7 l8 l9 : Value, aw (wA, Ln, xs) 8 a_e247.2.1 43 [.ref 61, .int n, .int z0, .int a3, .int w, l5, l6, l7, l8, l9] [] M Q := by
      intro w w1 w2 l5 l6 l7 l8 l9
      refine aw_e rfl rfl rfl ?_
      refine aw_i1f rfl (q1_eq_f (by omega)) ?_
      refine aw_e rfl rfl rfl ?_
      refine aw_e rfl rfl rfl ?_
      refine aw_cm2 (fr := 7) (k := 0) rfl rfl (by decide) rfl (x_am0 (xsM30 Ln xs 7 M [.ref 61, .int w] hJ ⟨Or.inl ⟨rfl, rfl⟩, Or.inr ⟨by decide, w, rfl, w1, w2⟩, trivial⟩)) rfl (fun v M1 hu => ?_)
      obtain ⟨h1, h2, h3⟩ := hu
      rcases h3 with ⟨h3, -⟩ | ⟨-, x, rfl, -, -⟩
      · cases h3
      · refine aw_ri rfl (Or.inl rfl) ?_
        rw [hQe]
        exact ⟨h1, h_refD h1 h2 hD, h_Fle h2 (by decide +kernel), x, rfl⟩
    -- the evenings
    have hrun : ∀ l4 l5 l6 l7 l8 l9 : Value, aw (wA, Ln, xs) 8 a_e247.2.1 55 [.ref 61, .int n, .int z0, .int a3, l4, l5, l6, l7, l8, l9] [] M Q := by
      intro l4 l5 l6 l7 l8 l9
      refine aw_e rfl rfl rfl ?_
      refine aw_e rfl rfl rfl ?_
      refine aw_e rfl rfl rfl ?_
      refine aw_cm2 (fr := 7) (k := 0) rfl rfl (by decide) rfl (h_pass1 (e := 6) hJ (by decide) (by decide)) rfl (fun v M1 hu => ?_)
      obtain ⟨rfl, hJ1, hF1, e9, e10, e137, e128⟩ := hu
      refine aw_e rfl rfl rfl ?_
      refine aw_e rfl rfl rfl ?_
      refine aw_e rfl rfl rfl ?_
      refine aw_e rfl rfl rfl ?_
      refine aw_e rfl rfl rfl ?_
      refine aw_e rfl rfl rfl ?_
      refine aw_e rfl rfl rfl ?_
      refine aw_e rfl rfl rfl ?_
      refine aw_e rfl rfl rfl ?_
      refine aw_e rfl rfl rfl ?_
      refine aw_e rfl rfl rfl ?_
      refine h_sd_out (Mb := a_up M1 61 11 (Int32.ofInt 0)) (fun M2 z c6 c7 c8 v9 hJ2 hF2 => ?_) _ (a_up M1 61 11 (Int32.ofInt 0)) _ _ _ _ _ (h_JupB 0 0 hJ1 (by decide +kernel) (by decide) (by decide)) (h_Frf _ _) rfl
      refine aw_e rfl rfl rfl ?_
      refine aw_e rfl rfl rfl ?_
      refine aw_e rfl rfl rfl ?_
      refine aw_cm2 (fr := 7) (k := 0) rfl rfl (by decide) rfl (h_pass2 (e := 6) hJ2 (by decide) (by decide)) rfl (fun v M3 hu => ?_)
      obtain ⟨rfl, hJ3, hF3, f10, f70⟩ := hu
      have k137 : M2 77 137 = M 61 10 := by
        rw [hF2 77 137 (by decide +kernel)]
        exact e137
      have k128 : ∀ p, p < 8 → M2 77 (128 + p) = M 70 p := fun p hp => by
        have hq : ∀ p, p < 8 → x_in h_wsl 77 (128 + p) = false := by decide +kernel
        rw [hF2 77 (128 + p) (hq p hp)]
        exact e128 p hp
      have hFa : x_F h_wsd M M3 := by
        refine h_Ftr (a := h_wsd) (b := h_wp2) ?_ hF3 (by decide +kernel) (by decide +kernel)
        refine h_Ftr (a := h_wsd) (b := h_wsl) ?_ hF2 (by decide +kernel) (by decide +kernel)
        exact h_Fup (h_Fle hF1 (by decide +kernel)) (by decide +kernel)
      have hfin : ∀ x : Int32, Q (some (.int x)) M3 := by
        intro x
        rw [hQe]
        refine ⟨hJ3, fun u hu => ?_, hFa, x, rfl⟩
        rcases h_frm_ok (us := [0]) hFa (by decide +kernel) hu with h | h
        · rw [List.mem_singleton] at h
          subst h
          refine h_D_cp (u' := 0) hu hJ3 (fun p hp => ?_) ?_ (hD 0 hu)
          · unfold h_o h_cell
            rw [if_pos rfl, if_pos hp]
            show M3 70 p = M 70 p
            rw [f70 p hp, k128 p hp]
          · show (M3 61 10).toInt ≤ (M 61 10).toInt
            rw [f10, k137]
            exact Int.le_refl _
        · exact h_D_fr hu hJ3 h (hD u hu)
      refine aw_e rfl rfl rfl ?_
      refine aw_i1 rfl (fun _ => ?_) (fun _ => ?_)
      · refine aw_e rfl rfl rfl ?_
        exact aw_ri rfl (Or.inl rfl) (hfin _)
      · refine aw_e rfl rfl rfl ?_
        refine aw_e rfl rfl rfl ?_
        exact aw_ri rfl (Or.inl rfl) (hfin _)
    have h43 : ∀ w : Int32, -6 ≤ w.toInt → w.toInt ≤ 0 → ∀ l5 l6 l7 l8 l9 : Value, aw (wA, Ln, xs) 8 a_e247.2.1 43 [.ref 61, .int n, .int z0, .int a3, .int w, l5, l6, l7, l8, l9] [] M Q := by
      intro w w1 w2 l5 l6 l7 l8 l9
      by_cases hz : w.toInt = 0
      · refine aw_e rfl rfl rfl ?_
        refine aw_i1t rfl (q1_eq_t hz) ?_
        exact hrun _ _ _ _ _ _
      · exact href w w1 (by omega) l5 l6 l7 l8 l9
    refine aw_e rfl rfl rfl ?_
    refine aw_e rfl rfl rfl ?_
    refine aw_e rfl rfl rfl ?_
    refine aw_cm2 (fr := 7) (k := 1) rfl rfl (by decide) rfl (x_am0 (xsM31 Ln xs 7 M [.int n, .int (Int32.ofInt 1), .int (Int8.ofInt 20).toInt32] hJ ⟨Or.inr ⟨by decide, n, rfl, x_mn_le n, x_le_mx n⟩, Or.inr ⟨by decide, _, rfl, by decide, by decide⟩, Or.inr ⟨by decide, _, rfl, by decide, by decide⟩, trivial⟩)) rfl (fun v M1 hu => ?_)
    obtain ⟨-, hF, hr⟩ := hu
    have hM := x_F0 hF
    subst hM
    rcases hr with ⟨hr, -⟩ | ⟨-, w, rfl, w1, w2⟩
    · cases hr
    refine aw_e rfl rfl rfl ?_
    refine aw_e rfl rfl rfl ?_
    by_cases hz : w.toInt = 0
    rotate_left
    · refine aw_i1t rfl (q1_ne_t hz) ?_
      exact h43 w w1 w2 _ _ _ _ _
    refine aw_i1f rfl (q1_ne_f (by omega)) ?_
    refine aw_e rfl rfl rfl ?_
    refine aw_e rfl rfl rfl ?_
    refine aw_e rfl rfl rfl ?_
    refine aw_cm2 (fr := 7) (k := 1) rfl rfl (by decide) rfl (x_am0 (xsM32 Ln xs 7 M1 [.int a3, .int (Int32.ofInt 0), .int (Int32.ofInt 1)] hJ ⟨Or.inr ⟨by decide, a3, rfl, x_mn_le a3, x_le_mx a3⟩, Or.inr ⟨by decide, _, rfl, by decide, by decide⟩, Or.inr ⟨by decide, _, rfl, by decide, by decide⟩, trivial⟩)) rfl (fun v M2 hu => ?_)
    obtain ⟨-, hF, hr⟩ := hu
    have hM := x_F0 hF
    subst hM
    rcases hr with ⟨hr, -⟩ | ⟨-, b, rfl, -, -⟩
    · cases hr
    refine aw_i1 rfl (fun _ => ?_) (fun _ => ?_)
    · refine aw_e rfl rfl rfl ?_
      refine aw_e rfl rfl rfl ?_
      refine aw_i1 rfl (fun _ => ?_) (fun _ => ?_)
      · refine aw_e rfl rfl rfl ?_
        refine aw_e rfl rfl rfl ?_
        exact h43 _ (by decide) (by decide) _ _ _ _ _
      · refine aw_e rfl rfl rfl ?_
        refine aw_e rfl rfl rfl ?_
        refine aw_e rfl rfl rfl ?_
        exact h43 _ (by decide) (by decide) _ _ _ _ _
    · refine aw_e rfl rfl rfl ?_
      refine aw_e rfl rfl rfl ?_
      refine aw_e rfl rfl rfl ?_
      exact h43 _ (by decide) (by decide) _ _ _ _ _
