section AWA
variable {w : aW} {fr : Nat} {cd : List aR} {pc q nx ax wp : Nat} {L : List Value} {M : aM} {Q : Option Value → aM → Prop}
theorem h_clamp {j : Int32} (h0 : 0 ≤ j.toInt) : ¬ j < 0 ∧ j.toNatClampNeg = j.toInt.toNat := ⟨by rw [Int32.lt_iff_toInt_lt, Int32.toInt_zero]; omega, (Int32.toNat_toInt j).symm⟩
theorem aw_ild {i n : Nat} {rs : List (Option Nat)} {j : Int32} {r : List Value} (hf : a_find cd pc = some (q, .iaload, nx, ax, wp)) (hw : w.1 i = true) (hs : a_shape i = (100, rs, n)) (hi : i < a_ncw) (h0 : 0 ≤ j.toInt) (h1 : j.toInt < n) (k : aw w fr cd nx L (.int (M i j.toInt.toNat) :: r) M Q) : aw w fr cd pc L (.int j :: .ref i :: r) M Q := by
  obtain ⟨c1, c2⟩ := h_clamp h0
  refine aw_e hf rfl ?_ k
  show a_ial w nx L (.int j :: .ref i :: r) M = _
  unfold a_ial a_ald
  simp only
  rw [if_neg (by unfold a_scr; omega), if_pos ⟨Or.inl ⟨by rw [hs], hw⟩, c1, by rw [hs, c2]; simp only; omega⟩]
  simp only [a_rd, if_pos hi, c2]
theorem aw_ist {i n : Nat} {rs : List (Option Nat)} {j v : Int32} {r : List Value} (hf : a_find cd pc = some (q, .iastore, nx, ax, wp)) (hw : w.1 i = true) (hs : a_shape i = (100, rs, n)) (h0 : 0 ≤ j.toInt) (h1 : j.toInt < n) (k : aw w fr cd nx L r (a_up M i j.toInt.toNat v) Q) : aw w fr cd pc L (.int v :: .int j :: .ref i :: r) M Q := by
  obtain ⟨c1, c2⟩ := h_clamp h0
  refine aw_e hf rfl ?_ k
  show a_ias w nx L (.int v :: .int j :: .ref i :: r) M = _
  unfold a_ias a_ast
  simp only
  rw [if_pos ⟨⟨by rw [hs], hw⟩, c1, by rw [hs, c2]; simp only; omega⟩]
  simp only [c2]
end AWA
theorem h_inc {p : Int32} {c : Int} (hc : c = 1) (h0 : p.toInt < 2147483647) : (p + Int32.ofInt c).toInt = p.toInt + 1 := by
  subst hc
  rw [Int32.toInt_add]
  have h1 : (Int32.ofInt 1).toInt = 1 := by decide
  have h2 := x_mn_le p
  rw [h1]
  rw [x_mn_e] at h2
  exact x_bm (by rw [x_mn_e]; omega) (by rw [x_mx_e]; omega)
theorem h_ge {x y : Int32} : a_cf2 .ge x y = true ↔ y.toInt ≤ x.toInt := by
  unfold a_cf2
  simp only [decide_eq_true_eq]
  exact Int32.le_iff_toInt_le
theorem h_gef {x y : Int32} : a_cf2 .ge x y = false ↔ x.toInt < y.toInt := by
  unfold a_cf2
  simp only [decide_eq_false_iff_not, Int32.le_iff_toInt_le]
  omega
theorem h_nef {x y : Int32} : a_cf2 .ne x y = false ↔ x = y := by
  unfold a_cf2
  simp only [decide_eq_false_iff_not, Classical.not_not]
theorem h_net {x y : Int32} : a_cf2 .ne x y = true ↔ ¬ x = y := by
  unfold a_cf2
  simp only [decide_eq_true_eq]
/-! the place of a thing: found, or nowhere -/
theorem h_pl_loop {w : aW} (hw : ∀ i, w.1 i = true) {fr : Nat} {M : aM} (hJ : x_J x_B M) {t : Int32} {Q : Option Value → aM → Prop} (hfound : ∀ x : Int32, 0 ≤ x.toInt → x.toInt < (M 61 10).toInt → M 70 x.toInt.toNat = t → Q (some (.int x)) M) (hnone : ∀ x : Int32, x.toInt = -9 → (∀ k : Nat, (k : Int) < (M 61 10).toInt → M 70 k ≠ t) → Q (some (.int x)) M) : ∀ (m : Nat) (p : Int32), 0 ≤ p.toInt → p.toInt ≤ (M 61 10).toInt → ((M 61 10).toInt - p.toInt).toNat = m → (∀ k : Nat, (k : Int) < p.toInt → M 70 k ≠ t) → aw w fr a_e156.2.1 2 [.ref 61, .int t, .int p] [] M Q := by
  intro m
  have hs : 0 ≤ (M 61 10).toInt ∧ (M 61 10).toInt ≤ 8 := h_bd8 (u := 0) hJ (by decide)
  induction m with
  | zero =>
    intro p h0 h1 hm hk
    refine aw_e rfl rfl rfl ?_
    refine aw_e rfl rfl rfl ?_
    refine aw_e (M' := M) (st' := [.int (M 61 10), .int p]) rfl rfl (by simp only [a_eff, a_gf, a_getf]; simp only [hw]; rfl) ?_
    refine aw_i2t rfl (h_ge.mpr (by omega)) ?_
    refine aw_e rfl rfl rfl ?_
    exact aw_ri rfl (Or.inl rfl) (hnone _ (by decide) fun k hk2 => hk k (by omega))
  | succ m ih =>
    intro p h0 h1 hm hk
    refine aw_e rfl rfl rfl ?_
    refine aw_e rfl rfl rfl ?_
    refine aw_e (M' := M) (st' := [.int (M 61 10), .int p]) rfl rfl (by simp only [a_eff, a_gf, a_getf]; simp only [hw]; rfl) ?_
    refine aw_i2f rfl (h_gef.mpr (by omega)) ?_
    refine aw_e rfl rfl rfl ?_
    refine aw_e rfl rfl rfl ?_
    refine aw_e rfl rfl rfl ?_
    refine aw_ild (i := 70) rfl (hw _) rfl (by decide) h0 (show p.toInt < ((8 : Nat) : Int) by omega) ?_
    refine aw_e rfl rfl rfl ?_
    refine aw_i2 rfl (fun hne => ?_) (fun heq => ?_)
    · refine aw_e rfl rfl rfl ?_
      refine aw_e rfl rfl rfl ?_
      have e := h_inc (p := p) rfl (by omega)
      refine ih (p + Int32.ofInt 1) (by omega) (by omega) (by omega) fun k hk2 => ?_
      by_cases hkp : (k : Int) < p.toInt
      · exact hk k hkp
      · have ek : k = p.toInt.toNat := by omega
        rw [ek]
        exact h_net.mp hne
    · refine aw_e rfl rfl rfl ?_
      exact aw_ri rfl (Or.inl rfl) (hfound p h0 (by omega) (h_nef.mp heq))
theorem h_placeOf {w : aW} (hw : ∀ i, w.1 i = true) {fr : Nat} {M : aM} (hJ : x_J x_B M) (t : Int32) : am w fr 156 [.ref 61, .int t] M (fun v M' => M' = M ∧ ∃ x : Int32, v = some (.int x) ∧ ((0 ≤ x.toInt ∧ x.toInt < (M 61 10).toInt ∧ M 70 x.toInt.toNat = t) ∨ (x.toInt = -9 ∧ ∀ k : Nat, (k : Int) < (M 61 10).toInt → M 70 k ≠ t))) := by
  refine ⟨a_e156, rfl, ?_⟩
  have hs : 0 ≤ (M 61 10).toInt ∧ (M 61 10).toInt ≤ 8 := h_bd8 (u := 0) hJ (by decide)
  refine aw_e rfl rfl rfl ?_
  refine aw_e rfl rfl rfl ?_
  refine h_pl_loop hw hJ (fun x h1 h2 h3 => ⟨rfl, x, rfl, Or.inl ⟨h1, h2, h3⟩⟩) (fun x h1 h2 => ⟨rfl, x, rfl, Or.inr ⟨h1, h2⟩⟩) ((M 61 10).toInt - 0).toNat (Int32.ofInt 0) (by decide) hs.1 rfl fun k hk => ?_
  have : (Int32.ofInt 0).toInt = 0 := by decide
  omega
theorem h_isThing {w : aW} (hw : ∀ i, w.1 i = true) {fr : Nat} {M : aM} (t : Int32) : am w fr 154 [.ref 61, .int t] M (fun v M' => M' = M ∧ ∃ x : Int32, v = some (.int x) ∧ ((x = 1 ∧ 0 ≤ t.toInt ∧ t.toInt < (M 61 9).toInt) ∨ (x = 0 ∧ (t.toInt < 0 ∨ (M 61 9).toInt ≤ t.toInt)))) := by
  refine ⟨a_e154, rfl, ?_⟩
  refine aw_e rfl rfl rfl ?_
  by_cases h : t.toInt < 0
  · refine aw_i1t rfl (q1_lt_t h) ?_
    refine aw_e rfl rfl rfl ?_
    exact aw_ri rfl (Or.inr (by decide)) ⟨rfl, _, rfl, Or.inr ⟨by decide, Or.inl h⟩⟩
  · refine aw_i1f rfl (q1_lt_f h) ?_
    refine aw_e rfl rfl rfl ?_
    refine aw_e rfl rfl rfl ?_
    refine aw_e (M' := M) (st' := [.int (M 61 9), .int t]) rfl rfl (by simp only [a_eff, a_gf, a_getf]; simp only [hw]; rfl) ?_
    refine aw_i2 rfl (fun hge => ?_) (fun hlt => ?_)
    · refine aw_e rfl rfl rfl ?_
      exact aw_ri rfl (Or.inr (by decide)) ⟨rfl, _, rfl, Or.inr ⟨by decide, Or.inr (h_ge.mp hge)⟩⟩
    · refine aw_e rfl rfl rfl ?_
      refine aw_e rfl rfl rfl ?_
      exact aw_ri rfl (Or.inr (by decide)) ⟨rfl, _, rfl, Or.inl ⟨by decide, by omega, h_gef.mp hlt⟩⟩
/-- a call refused with -1 -/
theorem h_ref1 {Ln fr : Nat} {xs : Nat → Int32} {cd : List aR} {pc q1 q2 q3 q4 nx1 nx2 ax1 ax2 nx4 w1 w2 w3 w4 nx3 : Nat} {i3 : Nat} {L : List Value} {M : aM} (hJ : x_J x_B M) {Q : Option Value → aM → Prop} (f1 : a_find cd pc = some (q1, .aload_n 0, nx1, ax1, w1)) (hL : L[0]? = some (.ref 61)) (f2 : a_find cd nx1 = some (q2, .iconst (-1), nx2, ax2, w2)) (f3 : a_find cd nx2 = some (q3, .invokevirtual i3, nx3, 146, w3)) (f4 : a_find cd nx3 = some (q4, .ireturn, nx4, 0, w4)) (hQ : ∀ M' x, x_J x_B M' → x_F [(62, 1, 7)] M M' → Q (some (.int x)) M') : aw (wA, Ln, xs) (fr + 1) cd pc L [] M Q := by
  refine aw_e f1 rfl (by show a_la 0 nx1 L [] M = _; unfold a_la; rw [hL]) ?_
  refine aw_e f2 rfl rfl ?_
  refine aw_cm2 (k := 0) f3 rfl (by decide) rfl (x_am0 (xsM30 Ln xs fr M [.ref 61, .int (Int32.ofInt (-1))] hJ ⟨Or.inl ⟨rfl, rfl⟩, Or.inr ⟨by decide, _, rfl, by decide, by decide⟩, trivial⟩)) rfl (fun v M1 hu => ?_)
  obtain ⟨h1, h2, h3⟩ := hu
  rcases h3 with ⟨h3, -⟩ | ⟨-, x, rfl, x1, x2⟩
  · cases h3
  · exact aw_ri f4 (Or.inl rfl) (hQ M1 x h1 h2)
/-- what a refused call leaves as it was -/
theorem h_refD {M M' : aM} (hJ : x_J x_B M') (hF : x_F [(62, 1, 7)] M M') (hD : h_DM M) : h_DM M' := fun u hu => by
  rcases h_frm_ok (us := []) hF (by decide +kernel) hu with h | h
  · cases h
  · exact h_D_fr hu hJ h (hD u hu)
/-- whether a thing is there and not in the order; else refused -/
theorem h_head {Ln : Nat} {xs : Nat → Int32} {id : Nat} {mt : aMt} (hm : a_mth[id]? = some mt) {L0 : List Value} {t : Int32} {M : aM} (hJ : x_J x_B M) (hD : h_DM M) {Q : Option Value → aM → Prop}
    (f0 : ∃ w, a_find mt.2.1 0 = some (0, .aload_n 0, 1, 0, w)) (f1 : ∃ w, a_find mt.2.1 1 = some (1, .iload_n 1, 2, 0, w)) (f2 : ∃ i w, a_find mt.2.1 2 = some (2, .invokevirtual i, 5, 154, w)) (f5 : ∃ o w, a_find mt.2.1 5 = some (5, .ifCond .eq o, 8, 16, w)) (f8 : ∃ w, a_find mt.2.1 8 = some (8, .aload_n 0, 9, 0, w)) (f9 : ∃ w, a_find mt.2.1 9 = some (9, .iload_n 1, 10, 0, w)) (f10 : ∃ i w, a_find mt.2.1 10 = some (10, .invokevirtual i, 13, 156, w)) (f13 : ∃ o w, a_find mt.2.1 13 = some (13, .ifCond .lt o, 16, 22, w)) (f16 : ∃ w, a_find mt.2.1 16 = some (16, .aload_n 0, 17, 0, w)) (f17 : ∃ w, a_find mt.2.1 17 = some (17, .iconst (-1), 18, 0, w)) (f18 : ∃ i w, a_find mt.2.1 18 = some (18, .invokevirtual i, 21, 146, w)) (f21 : ∃ n w, a_find mt.2.1 21 = some (21, .ireturn, n, 0, w))
    (hL0 : L0[0]? = some (.ref 61)) (hL1 : L0[1]? = some (.int t))
    (hQ : ∀ M' x, x_J x_B M' → h_DM M' → x_F [(62, 1, 7)] M M' → Q (some (.int x)) M')
    (hgo : 0 ≤ t.toInt → t.toInt ≤ 7 → (∀ k : Nat, (k : Int) < (M 61 10).toInt → M 70 k ≠ t) → (M 61 10).toInt ≤ 7 → aw (wA, Ln, xs) 8 mt.2.1 22 L0 [] M Q) : aw (wA, Ln, xs) 8 mt.2.1 0 L0 [] M Q := by
  obtain ⟨w0, f0⟩ := f0
  obtain ⟨w1, f1⟩ := f1
  obtain ⟨i2, w2, f2⟩ := f2
  obtain ⟨o5, w5, f5⟩ := f5
  obtain ⟨w8, f8⟩ := f8
  obtain ⟨w9, f9⟩ := f9
  obtain ⟨i10, w10, f10⟩ := f10
  obtain ⟨o13, w13, f13⟩ := f13
  obtain ⟨w16, f16⟩ := f16
  obtain ⟨w17, f17⟩ := f17
  obtain ⟨i18, w18, f18⟩ := f18
  obtain ⟨n21, w21, f21⟩ := f21
  have href : aw (wA, Ln, xs) 8 mt.2.1 16 L0 [] M Q := h_ref1 (fr := 7) hJ f16 hL0 f17 f18 f21 fun M' x h1 h2 => hQ M' x h1 (h_refD h1 h2 hD) h2
  refine aw_e f0 rfl (by show a_la 0 1 L0 [] M = _; unfold a_la; rw [hL0]) ?_
  refine aw_e f1 rfl (by show a_li 1 2 L0 _ M = _; unfold a_li; rw [hL1]) ?_
  refine aw_cm2 (fr := 7) (k := 0) f2 rfl (by decide) rfl (h_isThing (w := (wA, Ln, xs)) (fun _ => rfl) t) rfl (fun v M1 hu => ?_)
  obtain ⟨rfl, x, rfl, h⟩ := hu
  rcases h with ⟨rfl, h1, h2⟩ | ⟨rfl, -⟩
  · refine aw_i1f f5 (by decide) ?_
    refine aw_e f8 rfl (by show a_la 0 9 L0 [] M1 = _; unfold a_la; rw [hL0]) ?_
    refine aw_e f9 rfl (by show a_li 1 10 L0 _ M1 = _; unfold a_li; rw [hL1]) ?_
    refine aw_cm2 (fr := 7) (k := 0) f10 rfl (by decide) rfl (h_placeOf (w := (wA, Ln, xs)) (fun _ => rfl) hJ t) rfl (fun v M2 hu => ?_)
    obtain ⟨rfl, x, rfl, h⟩ := hu
    have ht : t.toInt ≤ 7 := by
      have := (hJ (61, 9, 10, 0, 8) (by decide +kernel) 9 (by decide) (by decide)).2
      simp only at this
      omega
    rcases h with ⟨x1, x2, x3⟩ | ⟨x1, x2⟩
    · exact aw_i1f f13 (q1_lt_f (by omega)) href
    · exact aw_i1t f13 (q1_lt_t (by omega)) (hgo h1 ht x2 (h_full hJ (hD 0 (by decide)) h1 ht x2))
  · exact aw_i1t f5 (by decide) href
/-! put -/
def h_wput : xW := [(61, 10, 11), (61, 28, 29), (62, 1, 7), (70, 0, 8), (78, 0, 64), (79, 0, 8), (80, 0, 8)]
def h_psp : List (Nat × Nat × Int × Int) := [(0, 61, 0, 0), (1, 0, 0, 7)]
def h_cpp (s : Nat) : List (Nat × Nat × Nat) := (70, s, 0) :: (List.range s).map (fun p => (70, p, 1 + p))
def h_kput : List (Nat × xK) := []
def h_chput (s : Nat) : Bool := match x_goT x_B xtM33 h_kput h_wput 20000 8 184 22 h_psp (h_pre s s (List.range 10)) with
  | some outs => outs.all (fun o => h_isr o && (List.range' 1 9).all (fun u => h_hit 1 (List.range 10) u o) && x_cpy (h_cpp s) o && x_num0 [(61, 10, (s : Int) + 1)] o)
  | none => false
theorem h_chput_ok : ∀ s, s < 8 → h_chput s = true := by decide +kernel
theorem hm_put : h_op 184 [(0, 61, 0, 0), (1, 0, -2147483648, 2147483647)] h_wput := by
  intro Ln xs M Vs hJ hD hv
  match Vs, hv with
  | [v, v1], hv =>
    rcases hv.1 with ⟨-, rfl⟩ | ⟨h, -⟩
    rotate_left
    · exact absurd rfl h
    rcases hv.2.1 with ⟨h, -⟩ | ⟨-, t, rfl, -, -⟩
    · cases h
    refine ⟨a_e184, rfl, ?_⟩
    refine h_head (id := 184) rfl hJ hD ⟨_, rfl⟩ ⟨_, rfl⟩ ⟨_, _, rfl⟩ ⟨_, _, rfl⟩ ⟨_, rfl⟩ ⟨_, rfl⟩ ⟨_, _, rfl⟩ ⟨_, _, rfl⟩ ⟨_, rfl⟩ ⟨_, rfl⟩ ⟨_, _, rfl⟩ ⟨_, _, rfl⟩ rfl rfl (fun M' x h1 h2 h3 => ⟨h1, h2, fun i k hn => h3 i k (x_wle_ok (b := h_wput) (by decide +kernel) hn), x, rfl⟩) fun t0 t7 hnot h7 => ?_
    have hs0 : 0 ≤ (M 61 10).toInt := (h_bd8 (u := 0) hJ (by decide)).1
    obtain ⟨s, hs⟩ : ∃ s : Nat, (M 61 10).toInt = s := ⟨(M 61 10).toInt.toNat, by omega⟩
    have hc := h_chput_ok s (by omega)
    unfold h_chput at hc
    split at hc
    next outs ho =>
      have q := x_conT (Ln := Ln) (e := 0) (xs := xs) (mt := a_e184) (Vs := [.ref 61, .int t]) (tl := []) xoM33 rfl ho hJ ⟨Or.inl ⟨rfl, rfl⟩, Or.inr ⟨by decide, t, rfl, t0, t7⟩, trivial⟩ (h_pre_ok hJ (by omega)) (by decide +kernel)
      refine aw_q q ?_
      rintro v M' ⟨h1, h2, o, ho, r', hx, h4, h5⟩
      have hb := List.all_eq_true.mp hc o ho
      simp only [Bool.and_eq_true] at hb
      obtain ⟨⟨⟨b1, b2⟩, b3⟩, b4⟩ := hb
      refine ⟨h1, fun u hu => ?_, h2, h_isr_ok h5 b1⟩
      by_cases hu0 : u = 0
      · subst hu0
        have e8 : (M' 61 10).toInt = (s : Int) + 1 := x_num0_ok h4 b4 (61, 10, (s : Int) + 1) (List.mem_cons_self ..)
        have es : M' 70 s = t := x_cpy_ok h4 hx b3 (70, s, 0) (List.mem_cons_self ..) t rfl
        have ep : ∀ p, p < s → M' 70 p = M 70 p := fun p hp => by
          refine x_cpy_ok h4 hx b3 (70, p, 1 + p) (List.mem_cons_of_mem _ (List.mem_map.mpr ⟨p, List.mem_range.mpr hp, rfl⟩)) (M 70 p) ?_
          show ([t] ++ x_atC M (h_pre s s (List.range 10)))[1 + p]? = some (M 70 p)
          have := h_pre_at (M := M) (a := s) (b := s) (us := List.range 10) (i := 0) (p := p) (u := 0) (by decide) (by omega)
          rw [List.getElem?_append_right (by simp)]
          simp only [List.length_singleton, Nat.add_sub_cancel_left]
          have e : h_o M 0 p = M 70 p := by
            unfold h_o h_cell
            rw [if_pos rfl, if_pos (by omega)]
          rw [← e]
          simpa using this
        have eo : ∀ N : aM, ∀ p, p < 8 → h_o N 0 p = N 70 p := fun N p hp => by
          unfold h_o h_cell
          rw [if_pos rfl, if_pos hp]
        intro i j hij hj
        have hj : (j : Int) < (M' 61 10).toInt := hj
        rw [eo M' i (by omega), eo M' j (by omega)]
        by_cases hjs : j = s
        · subst hjs
          rw [es, ep i hij]
          exact hnot i (by omega)
        · rw [ep i (by omega), ep j (by omega), ← eo M i (by omega), ← eo M j (by omega)]
          exact hD 0 (by decide) i j hij (by show (j : Int) < (M 61 10).toInt; omega)
      · obtain ⟨u', hu', c1, c2⟩ := h_hit_ok (ys := [t]) h4 hx (List.all_eq_true.mp b2 u (by rw [List.mem_range']; exact ⟨u - 1, by omega, by omega⟩))
        exact h_D_cp hu h1 c1 c2 (hD u' (List.mem_range.mp hu'))
    next => cases hc
/-! where -/
def h_wwh : xW := [(61, 9, 12), (61, 23, 25), (61, 35, 43), (62, 1, 7), (63, 0, 5), (64, 0, 8), (65, 0, 8), (66, 0, 8), (67, 0, 8), (68, 0, 8), (69, 0, 8), (70, 0, 8), (77, 75, 139), (81, 0, 8), (82, 0, 8), (83, 0, 8), (84, 0, 8), (85, 0, 8), (86, 0, 3)]
def h_kwh : List (Nat × xK) := [(222, [(44, [(2, (-2147483648), 100000000), (3, (-9), 7), (5, 0, 8)], [], [(61, 9, 10), (61, 24, 25), (63, 0, 5), (64, 0, 8), (65, 0, 8), (66, 0, 8), (67, 0, 8), (68, 0, 8), (69, 0, 8), (77, 75, 139)], [], 2, true), (61, [(6, 0, 7)], [], [(61, 9, 12), (61, 23, 25), (63, 0, 5), (64, 0, 8), (65, 0, 8), (66, 0, 8), (67, 0, 8), (68, 0, 8), (69, 0, 8), (77, 75, 139)], [], 0, false)], [], [(44, [6])], [])]
def h_chwh : Bool := h_frm h_wwh [0] && (match x_goT x_B xtM33 h_kwh h_wwh 20000 8 222 22 h_psp (h_pre 0 7 [0]) with
  | some outs => outs.all (fun o => h_isr o && h_hit 1 [0] 0 o)
  | none => false)
theorem h_chwh_ok : h_chwh = true := by decide +kernel
theorem hm_where : h_op 222 [(0, 61, 0, 0), (1, 0, -2147483648, 2147483647)] h_wwh := by
  intro Ln xs M Vs hJ hD hv
  match Vs, hv with
  | [v, v1], hv =>
    rcases hv.1 with ⟨-, rfl⟩ | ⟨h, -⟩
    rotate_left
    · exact absurd rfl h
    rcases hv.2.1 with ⟨h, -⟩ | ⟨-, t, rfl, -, -⟩
    · cases h
    refine ⟨a_e222, rfl, ?_⟩
    refine h_head (id := 222) rfl hJ hD ⟨_, rfl⟩ ⟨_, rfl⟩ ⟨_, _, rfl⟩ ⟨_, _, rfl⟩ ⟨_, rfl⟩ ⟨_, rfl⟩ ⟨_, _, rfl⟩ ⟨_, _, rfl⟩ ⟨_, rfl⟩ ⟨_, rfl⟩ ⟨_, _, rfl⟩ ⟨_, _, rfl⟩ rfl rfl (fun M' x h1 h2 h3 => ⟨h1, h2, fun i k hn => h3 i k (x_wle_ok (b := h_wwh) (by decide +kernel) hn), x, rfl⟩) fun t0 t7 hnot h7 => ?_
    have hs0 : 0 ≤ (M 61 10).toInt := (h_bd8 (u := 0) hJ (by decide)).1
    have hc := h_chwh_ok
    unfold h_chwh at hc
    rw [Bool.and_eq_true] at hc
    obtain ⟨hf, hc⟩ := hc
    split at hc
    next outs ho =>
      have q := x_conT (Ln := Ln) (e := 0) (xs := xs) (mt := a_e222) (Vs := [.ref 61, .int t]) (tl := List.replicate 5 a_dead) xoM33 rfl ho hJ ⟨Or.inl ⟨rfl, rfl⟩, Or.inr ⟨by decide, t, rfl, t0, t7⟩, trivial⟩ (h_pre_ok hJ ⟨hs0, h7⟩) (by decide +kernel)
      refine aw_q q ?_
      rintro v M' ⟨h1, h2, o, ho, r', hx, h4, h5⟩
      have hb := List.all_eq_true.mp hc o ho
      rw [Bool.and_eq_true] at hb
      refine ⟨h1, fun u hu => ?_, h2, h_isr_ok h5 hb.1⟩
      rcases h_frm_ok h2 hf hu with hm | hm
      · rw [List.mem_singleton] at hm
        subst hm
        obtain ⟨u', hu', c1, c2⟩ := h_hit_ok (ys := [t]) h4 hx hb.2
        rw [List.mem_singleton] at hu'
        subst hu'
        exact h_D_cp hu h1 c1 c2 (hD 0 (by decide))
      · exact h_D_fr hu h1 hm (hD u hu)
    next => cases hc
