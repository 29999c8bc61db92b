/-! what stands between two calls -/
def h_eqs (M : aM) : Prop := M 0 11 = M 61 46 ∧ M 19 1 = M 61 18 ∧ ∀ k, k < 12 → M 59 k = M 88 k
def h_Inv (M : aM) : Prop := x_J x_B M ∧ h_DM M ∧ h_eqs M
/-- wr leaves row and letters alone -/
def h_fre (wr : xW) : Bool := !(x_in wr 0 11) && !(x_in wr 61 46) && !(x_in wr 19 1) && !(x_in wr 61 18) && (List.range 12).all (fun k => !(x_in wr 59 k) && !(x_in wr 88 k))
theorem h_fre_ok {wr : xW} {M M' : aM} (hF : x_F wr M M') (h : h_fre wr = true) (g : h_eqs M) : h_eqs M' := by
  unfold h_fre at h
  simp only [Bool.and_eq_true, Bool.not_eq_true'] at h
  obtain ⟨⟨⟨⟨h1, h2⟩, h3⟩, h4⟩, h5⟩ := h
  refine ⟨?_, ?_, fun k hk => ?_⟩
  · rw [hF 0 11 h1, hF 61 46 h2]
    exact g.1
  · rw [hF 19 1 h3, hF 61 18 h4]
    exact g.2.1
  · have := List.all_eq_true.mp h5 k (List.mem_range.mpr hk)
    simp only [Bool.and_eq_true, Bool.not_eq_true'] at this
    rw [hF 59 k this.1, hF 88 k this.2]
    exact g.2.2 k hk
theorem h_cl {id : Nat} {ps : List (Nat × Nat × Int × Int)} {wr : xW} (h : h_op id ps wr) (hf : h_fre wr = true) {Ln : Nat} {xs : Nat → Int32} {M : aM} {Vs : List Value} (I : h_Inv M) (hv : x_av ps Vs) : am (wA, Ln, xs) 8 id Vs M (fun v M' => h_Inv M' ∧ ∃ x, v = some (.int x)) := by
  obtain ⟨mt, hm, q⟩ := h Ln xs M Vs I.1 I.2.1 hv
  exact ⟨mt, hm, aw_q q fun v M' g => ⟨⟨g.1, g.2.1, h_fre_ok g.2.2.1 hf I.2.2⟩, g.2.2.2⟩⟩
theorem h_ar (x : Int32) : ((1 : Nat) = 0 ∧ Value.int x = .ref 0) ∨ ((1 : Nat) ≠ 0 ∧ ∃ y : Int32, Value.int x = .int y ∧ (-2147483648 : Int) ≤ y.toInt ∧ y.toInt ≤ 2147483647) := Or.inr ⟨by decide, x, rfl, x_mn_le x, x_le_mx x⟩
theorem h_av0 (o : Nat) : x_av [(0, o, 0, 0)] [.ref o] := ⟨Or.inl ⟨rfl, rfl⟩, trivial⟩
theorem h_av1 (o : Nat) (a : Int32) : x_av [(0, o, 0, 0), (1, 0, (-2147483648), 2147483647)] [.ref o, .int a] := ⟨Or.inl ⟨rfl, rfl⟩, h_ar a, trivial⟩
theorem h_av2 (o : Nat) (a b : Int32) : x_av [(0, o, 0, 0), (1, 0, (-2147483648), 2147483647), (1, 0, (-2147483648), 2147483647)] [.ref o, .int a, .int b] := ⟨Or.inl ⟨rfl, rfl⟩, h_ar a, h_ar b, trivial⟩
theorem h_av3 (o : Nat) (a b c : Int32) : x_av [(0, o, 0, 0), (1, 0, (-2147483648), 2147483647), (1, 0, (-2147483648), 2147483647), (1, 0, (-2147483648), 2147483647)] [.ref o, .int a, .int b, .int c] := ⟨Or.inl ⟨rfl, rfl⟩, h_ar a, h_ar b, h_ar c, trivial⟩
/-! a number more: how many; refused below 0, above hi, at cap -/
def h_eqn (S : xS) (a : xV) (n : Nat) (k : Int) : Bool := x_isI a && x_le 3 S a (1, n, 0) k && x_le 3 S (1, n, 0) a (-k)
theorem h_eqn_ok {r : List Int32} {S : xS} {M : aM} {a : xV} {n : Nat} {k : Int} {x y : Int32} (g : x_gs r S M) (hn : r[n]? = some y) (hx : x_i r a x) (h : h_eqn S a n k = true) : x.toInt = y.toInt + k := by
  unfold h_eqn at h
  simp only [Bool.and_eq_true] at h
  have hy : x_i r (1, n, 0) y := hn
  have h1 := x_le_ok g hy 3 hx h.1.2
  have h2 := x_le_ok g hx 3 hy h.2
  omega
def h_cq (cell slot : Nat) (rk : Option Int) (k : Int) (o : xO) : Bool := (match o.1 with
  | some a => (match rk with
    | some c => x_isI a && x_ile c (x_iv o.2.2.1 a).1 && x_ile (x_iv o.2.2.1 a).2 c
    | none => h_eqn o.2 a 1 k)
  | none => false) && Nat.blt cell 1000 && (match x_cl o.2.2.2.2 cell slot with
  | some b => h_eqn o.2 b 1 k
  | none => false)
def h_run (tab : List xU) (ks : List (Nat × xK)) (wr : xW) (id obj : Nat) (lo hi : Int) (cell slot : Nat) (c1 c2 : Int) (rk : Option Int) (k : Int) (l : List (Nat × Nat × Nat)) : Bool := h_frm wr [] && (match x_go x_B tab ks wr 20000 8 id [(0, obj, 0, 0), (1, 0, lo, hi)] [(cell, slot, c1, c2)] with
  | some outs => outs.all (fun o => h_cq cell slot rk k o && x_cpy l o)
  | none => false)
theorem h_run_ok {tab : List xU} {ks : List (Nat × xK)} {wr : xW} {id obj cell slot : Nat} {lo hi c1 c2 k : Int} {rk : Option Int} {l : List (Nat × Nat × Nat)} (ht : ∀ u ∈ tab, x_uok x_B u) (h : h_run tab ks wr id obj lo hi cell slot c1 c2 rk k l = true) (hcell : cell < 1000) {Ln : Nat} {xs : Nat → Int32} {M : aM} (hJ : x_J x_B M) (hD : h_DM M) {a : Int32} (a1 : lo ≤ a.toInt) (a2 : a.toInt ≤ hi) (b1 : c1 ≤ (M cell slot).toInt) (b2 : (M cell slot).toInt ≤ c2) : am (wA, Ln, xs) 8 id [.ref obj, .int a] M (fun v M' => x_J x_B M' ∧ h_DM M' ∧ x_F wr M M' ∧ (M' cell slot).toInt = (M cell slot).toInt + k ∧ (∃ x, v = some (.int x) ∧ x.toInt = rk.getD ((M cell slot).toInt + k)) ∧ ∀ e ∈ l, ∀ x, [a, M cell slot][e.2.2]? = some x → M' e.1 e.2.1 = x) := by
  unfold h_run at h
  rw [Bool.and_eq_true] at h
  obtain ⟨hf, h⟩ := h
  split at h
  next outs ho =>
    obtain ⟨mt, hm, q⟩ := x_con (Ln := Ln) (e := 0) (xs := xs) (Vs := [.ref obj, .int a]) ht ho hJ ⟨Or.inl ⟨rfl, rfl⟩, Or.inr ⟨(show (1 : Nat) ≠ 0 by decide), a, rfl, a1, a2⟩, trivial⟩ (by
      intro q hq
      rcases List.mem_cons.mp hq with rfl | hq
      · exact ⟨hcell, b1, b2⟩
      · cases hq)
    refine ⟨mt, hm, aw_q q ?_⟩
    rintro v M' ⟨h1, h2, o, ho, r', hx, h4, h5⟩
    have hb := List.all_eq_true.mp h o ho
    rw [Bool.and_eq_true] at hb
    obtain ⟨hb, hb2⟩ := hb
    unfold h_cq at hb
    simp only [Bool.and_eq_true] at hb
    obtain ⟨⟨e1, -⟩, e2⟩ := hb
    have hn : r'[1]? = some (M cell slot) := x_ex_at hx rfl
    refine ⟨h1, fun u hu => ?_, h2, ?_, ?_, x_cpy_ok h4 hx hb2⟩
    · rcases h_frm_ok h2 hf hu with h | h
      · cases h
      · exact h_D_fr hu h1 h (hD u hu)
    · split at e2
      next b hb => exact h_eqn_ok h4 hn (x_cl_ok hcell h4.2.2.2 hb) e2
      next => cases e2
    · split at e1
      next a' ha =>
        unfold x_ro at h5
        rw [ha] at h5
        obtain ⟨u, rfl, hu⟩ := h5
        cases rk with
        | some c =>
          simp only [Bool.and_eq_true] at e1
          obtain ⟨x, rfl, hxx⟩ := x_v_i hu e1.1.1
          obtain ⟨i1, i2⟩ := x_iv_ok h4.2.1 hxx
          have j1 := x_ile_ok.mp e1.1.2
          have j2 := x_ile_ok.mp e1.2
          exact ⟨x, rfl, by simp only [Option.getD_some]; omega⟩
        | none =>
          simp only at e1
          have hi : x_isI a' = true := by
            unfold h_eqn at e1
            simp only [Bool.and_eq_true] at e1
            exact e1.1.1
          obtain ⟨x, rfl, hxx⟩ := x_v_i hu hi
          exact ⟨x, rfl, by simp only [Option.getD_none]; exact h_eqn_ok h4 hn hxx e1⟩
      next => cases e1
  next => cases h
/-- the answer and the number behind it -/
def h_ans (hi cap : Int) (a c : Int32) : Int × Int := if a.toInt < 0 then (-4, 0) else if hi < a.toInt ∨ c.toInt = cap then (-6, 0) else (c.toInt + 1, 1)
theorem hr_feedC_A : h_run xtC88 [] [(60, 4, 5)] 0 0 (-2147483648) (-1) 19 1 0 96 (some (-4)) 0 [] = true := by decide +kernel
theorem hr_feedC_B : h_run xtC88 [] [(60, 6, 7)] 0 0 256 2147483647 19 1 0 96 (some (-6)) 0 [] = true := by decide +kernel
theorem hr_feedC_C : h_run xtC88 [] [(60, 6, 7)] 0 0 0 255 19 1 96 96 (some (-6)) 0 [] = true := by decide +kernel
theorem hr_feedC_D : h_run xtC88 [] [(19, 1, 2), (20, 0, 96)] 0 0 0 255 19 1 0 95 none 1 [] = true := by decide +kernel
def hw_feedC : xW := [(19, 1, 2), (20, 0, 96), (60, 4, 5), (60, 6, 7)]
theorem hx_feedC {Ln : Nat} {xs : Nat → Int32} {M : aM} (hJ : x_J x_B M) (hD : h_DM M) (a : Int32) : am (wA, Ln, xs) 8 0 [.ref 0, .int a] M (fun v M' => x_J x_B M' ∧ h_DM M' ∧ x_F hw_feedC M M' ∧ (M' 19 1).toInt = (M 19 1).toInt + (h_ans 255 96 a (M 19 1)).2 ∧ (∃ x, v = some (.int x) ∧ x.toInt = (h_ans 255 96 a (M 19 1)).1)) := by
  have hc := hJ (19, 1, 2, 0, 96) (by decide +kernel) 1 (by decide) (by decide)
  simp only at hc
  have l1 := x_mn_le a
  have l2 := x_le_mx a
  rw [x_mn_e] at l1
  rw [x_mx_e] at l2
  by_cases hA : a.toInt < 0
  · have e : h_ans 255 96 a (M 19 1) = (-4, 0) := by
      unfold h_ans
      rw [if_pos hA]
    obtain ⟨mt, hm, q⟩ := h_run_ok (Ln := Ln) (xs := xs) xoC88 hr_feedC_A (by decide) hJ hD (a := a) (by omega) (by omega) (by omega) (by omega)
    refine ⟨mt, hm, aw_q q ?_⟩
    rintro v M' ⟨h1, h2, h3, h4, ⟨x, hv, hx⟩, h6⟩
    rw [e]
    refine ⟨h1, h2, h_Fle h3 (by decide +kernel), by simp only; omega, ⟨x, hv, by simp only; first | exact hx | (rw [hx]; rfl)⟩⟩
  by_cases hB : 255 < a.toInt
  · have e : h_ans 255 96 a (M 19 1) = (-6, 0) := by
      unfold h_ans
      rw [if_neg hA, if_pos (Or.inl hB)]
    obtain ⟨mt, hm, q⟩ := h_run_ok (Ln := Ln) (xs := xs) xoC88 hr_feedC_B (by decide) hJ hD (a := a) (by omega) (by omega) (by omega) (by omega)
    refine ⟨mt, hm, aw_q q ?_⟩
    rintro v M' ⟨h1, h2, h3, h4, ⟨x, hv, hx⟩, h6⟩
    rw [e]
    refine ⟨h1, h2, h_Fle h3 (by decide +kernel), by simp only; omega, ⟨x, hv, by simp only; first | exact hx | (rw [hx]; rfl)⟩⟩
  by_cases hC : (M 19 1).toInt = 96
  · have e : h_ans 255 96 a (M 19 1) = (-6, 0) := by
      unfold h_ans
      rw [if_neg hA, if_pos (Or.inr hC)]
    obtain ⟨mt, hm, q⟩ := h_run_ok (Ln := Ln) (xs := xs) xoC88 hr_feedC_C (by decide) hJ hD (a := a) (by omega) (by omega) (by omega) (by omega)
    refine ⟨mt, hm, aw_q q ?_⟩
    rintro v M' ⟨h1, h2, h3, h4, ⟨x, hv, hx⟩, h6⟩
    rw [e]
    refine ⟨h1, h2, h_Fle h3 (by decide +kernel), by simp only; omega, ⟨x, hv, by simp only; first | exact hx | (rw [hx]; rfl)⟩⟩
  · have e : h_ans 255 96 a (M 19 1) = ((M 19 1).toInt + 1, 1) := by
      unfold h_ans
      rw [if_neg hA, if_neg (by omega)]
    obtain ⟨mt, hm, q⟩ := h_run_ok (Ln := Ln) (xs := xs) xoC88 hr_feedC_D (by decide) hJ hD (a := a) (by omega) (by omega) (by omega) (by omega)
    refine ⟨mt, hm, aw_q q ?_⟩
    rintro v M' ⟨h1, h2, h3, h4, ⟨x, hv, hx⟩, h6⟩
    rw [e]
    refine ⟨h1, h2, h_Fle h3 (by decide +kernel), by simp only; omega, ⟨x, hv, by simp only; first | exact hx | (rw [hx]; rfl)⟩⟩
theorem hr_feedM_A : h_run xtM33 [] [(62, 4, 5)] 157 61 (-2147483648) (-1) 61 18 0 96 (some (-4)) 0 [] = true := by decide +kernel
theorem hr_feedM_B : h_run xtM33 [] [(62, 6, 7)] 157 61 256 2147483647 61 18 0 96 (some (-6)) 0 [] = true := by decide +kernel
theorem hr_feedM_C : h_run xtM33 [] [(62, 6, 7)] 157 61 0 255 61 18 96 96 (some (-6)) 0 [] = true := by decide +kernel
theorem hr_feedM_D : h_run xtM33 [] [(61, 18, 19), (71, 0, 96)] 157 61 0 255 61 18 0 95 none 1 [] = true := by decide +kernel
def hw_feedM : xW := [(61, 18, 19), (71, 0, 96), (62, 4, 5), (62, 6, 7)]
theorem hx_feedM {Ln : Nat} {xs : Nat → Int32} {M : aM} (hJ : x_J x_B M) (hD : h_DM M) (a : Int32) : am (wA, Ln, xs) 8 157 [.ref 61, .int a] M (fun v M' => x_J x_B M' ∧ h_DM M' ∧ x_F hw_feedM M M' ∧ (M' 61 18).toInt = (M 61 18).toInt + (h_ans 255 96 a (M 61 18)).2 ∧ (∃ x, v = some (.int x) ∧ x.toInt = (h_ans 255 96 a (M 61 18)).1)) := by
  have hc := hJ (61, 18, 19, 0, 96) (by decide +kernel) 18 (by decide) (by decide)
  simp only at hc
  have l1 := x_mn_le a
  have l2 := x_le_mx a
  rw [x_mn_e] at l1
  rw [x_mx_e] at l2
  by_cases hA : a.toInt < 0
  · have e : h_ans 255 96 a (M 61 18) = (-4, 0) := by
      unfold h_ans
      rw [if_pos hA]
    obtain ⟨mt, hm, q⟩ := h_run_ok (Ln := Ln) (xs := xs) xoM33 hr_feedM_A (by decide) hJ hD (a := a) (by omega) (by omega) (by omega) (by omega)
    refine ⟨mt, hm, aw_q q ?_⟩
    rintro v M' ⟨h1, h2, h3, h4, ⟨x, hv, hx⟩, h6⟩
    rw [e]
    refine ⟨h1, h2, h_Fle h3 (by decide +kernel), by simp only; omega, ⟨x, hv, by simp only; first | exact hx | (rw [hx]; rfl)⟩⟩
  by_cases hB : 255 < a.toInt
  · have e : h_ans 255 96 a (M 61 18) = (-6, 0) := by
      unfold h_ans
      rw [if_neg hA, if_pos (Or.inl hB)]
    obtain ⟨mt, hm, q⟩ := h_run_ok (Ln := Ln) (xs := xs) xoM33 hr_feedM_B (by decide) hJ hD (a := a) (by omega) (by omega) (by omega) (by omega)
    refine ⟨mt, hm, aw_q q ?_⟩
    rintro v M' ⟨h1, h2, h3, h4, ⟨x, hv, hx⟩, h6⟩
    rw [e]
    refine ⟨h1, h2, h_Fle h3 (by decide +kernel), by simp only; omega, ⟨x, hv, by simp only; first | exact hx | (rw [hx]; rfl)⟩⟩
  by_cases hC : (M 61 18).toInt = 96
  · have e : h_ans 255 96 a (M 61 18) = (-6, 0) := by
      unfold h_ans
      rw [if_neg hA, if_pos (Or.inr hC)]
    obtain ⟨mt, hm, q⟩ := h_run_ok (Ln := Ln) (xs := xs) xoM33 hr_feedM_C (by decide) hJ hD (a := a) (by omega) (by omega) (by omega) (by omega)
    refine ⟨mt, hm, aw_q q ?_⟩
    rintro v M' ⟨h1, h2, h3, h4, ⟨x, hv, hx⟩, h6⟩
    rw [e]
    refine ⟨h1, h2, h_Fle h3 (by decide +kernel), by simp only; omega, ⟨x, hv, by simp only; first | exact hx | (rw [hx]; rfl)⟩⟩
  · have e : h_ans 255 96 a (M 61 18) = ((M 61 18).toInt + 1, 1) := by
      unfold h_ans
      rw [if_neg hA, if_neg (by omega)]
    obtain ⟨mt, hm, q⟩ := h_run_ok (Ln := Ln) (xs := xs) xoM33 hr_feedM_D (by decide) hJ hD (a := a) (by omega) (by omega) (by omega) (by omega)
    refine ⟨mt, hm, aw_q q ?_⟩
    rintro v M' ⟨h1, h2, h3, h4, ⟨x, hv, hx⟩, h6⟩
    rw [e]
    refine ⟨h1, h2, h_Fle h3 (by decide +kernel), by simp only; omega, ⟨x, hv, by simp only; first | exact hx | (rw [hx]; rfl)⟩⟩
theorem hr_rowC_A : h_run xtC88 [] [(60, 4, 5)] 38 0 (-2147483648) (-1) 0 11 0 12 (some (-4)) 0 [] = true := by decide +kernel
theorem hr_rowC_B : h_run xtC88 [] [(60, 6, 7)] 38 0 100 2147483647 0 11 0 12 (some (-6)) 0 [] = true := by decide +kernel
theorem hr_rowC_C : h_run xtC88 [] [(60, 6, 7)] 38 0 0 99 0 11 12 12 (some (-6)) 0 [] = true := by decide +kernel
theorem hr_rowC_D : ∀ s, s < 12 → h_run xtC88 [] [(0, 11, 12), (59, s, s + 1)] 38 0 0 99 0 11 s s none 1 [(59, s, 0)] = true := by decide +kernel
def hw_rowC : xW := [(0, 11, 12), (59, 0, 12), (60, 4, 5), (60, 6, 7)]
theorem hx_rowC {Ln : Nat} {xs : Nat → Int32} {M : aM} (hJ : x_J x_B M) (hD : h_DM M) (a : Int32) : am (wA, Ln, xs) 8 38 [.ref 0, .int a] M (fun v M' => x_J x_B M' ∧ h_DM M' ∧ x_F hw_rowC M M' ∧ (M' 0 11).toInt = (M 0 11).toInt + (h_ans 99 12 a (M 0 11)).2 ∧ (∃ x, v = some (.int x) ∧ x.toInt = (h_ans 99 12 a (M 0 11)).1) ∧ (∀ k, k < 12 → M' 59 k = if (h_ans 99 12 a (M 0 11)).2 = 1 ∧ (k : Int) = (M 0 11).toInt then a else M 59 k)) := by
  have hc := hJ (0, 11, 12, 0, 12) (by decide +kernel) 11 (by decide) (by decide)
  simp only at hc
  have l1 := x_mn_le a
  have l2 := x_le_mx a
  rw [x_mn_e] at l1
  rw [x_mx_e] at l2
  by_cases hA : a.toInt < 0
  · have e : h_ans 99 12 a (M 0 11) = (-4, 0) := by
      unfold h_ans
      rw [if_pos hA]
    obtain ⟨mt, hm, q⟩ := h_run_ok (Ln := Ln) (xs := xs) xoC88 hr_rowC_A (by decide) hJ hD (a := a) (by omega) (by omega) (by omega) (by omega)
    refine ⟨mt, hm, aw_q q ?_⟩
    rintro v M' ⟨h1, h2, h3, h4, ⟨x, hv, hx⟩, h6⟩
    rw [e]
    refine ⟨h1, h2, h_Fle h3 (by decide +kernel), by simp only; omega, ⟨x, hv, by simp only; first | exact hx | (rw [hx]; rfl)⟩, fun k hk => by
        rw [if_neg (fun q => by simp at q)]
        have hq : ∀ k, k < 12 → x_in [(60, 4, 5)] 59 k = false := by decide +kernel
        exact h3 59 k (hq k hk)⟩
  by_cases hB : 99 < a.toInt
  · have e : h_ans 99 12 a (M 0 11) = (-6, 0) := by
      unfold h_ans
      rw [if_neg hA, if_pos (Or.inl hB)]
    obtain ⟨mt, hm, q⟩ := h_run_ok (Ln := Ln) (xs := xs) xoC88 hr_rowC_B (by decide) hJ hD (a := a) (by omega) (by omega) (by omega) (by omega)
    refine ⟨mt, hm, aw_q q ?_⟩
    rintro v M' ⟨h1, h2, h3, h4, ⟨x, hv, hx⟩, h6⟩
    rw [e]
    refine ⟨h1, h2, h_Fle h3 (by decide +kernel), by simp only; omega, ⟨x, hv, by simp only; first | exact hx | (rw [hx]; rfl)⟩, fun k hk => by
        rw [if_neg (fun q => by simp at q)]
        have hq : ∀ k, k < 12 → x_in [(60, 6, 7)] 59 k = false := by decide +kernel
        exact h3 59 k (hq k hk)⟩
  by_cases hC : (M 0 11).toInt = 12
  · have e : h_ans 99 12 a (M 0 11) = (-6, 0) := by
      unfold h_ans
      rw [if_neg hA, if_pos (Or.inr hC)]
    obtain ⟨mt, hm, q⟩ := h_run_ok (Ln := Ln) (xs := xs) xoC88 hr_rowC_C (by decide) hJ hD (a := a) (by omega) (by omega) (by omega) (by omega)
    refine ⟨mt, hm, aw_q q ?_⟩
    rintro v M' ⟨h1, h2, h3, h4, ⟨x, hv, hx⟩, h6⟩
    rw [e]
    refine ⟨h1, h2, h_Fle h3 (by decide +kernel), by simp only; omega, ⟨x, hv, by simp only; first | exact hx | (rw [hx]; rfl)⟩, fun k hk => by
        rw [if_neg (fun q => by simp at q)]
        have hq : ∀ k, k < 12 → x_in [(60, 6, 7)] 59 k = false := by decide +kernel
        exact h3 59 k (hq k hk)⟩
  · have e : h_ans 99 12 a (M 0 11) = ((M 0 11).toInt + 1, 1) := by
      unfold h_ans
      rw [if_neg hA, if_neg (by omega)]
    obtain ⟨mt, hm, q⟩ := h_run_ok (Ln := Ln) (xs := xs) xoC88 (hr_rowC_D (M 0 11).toInt.toNat (by omega)) (by decide) hJ hD (a := a) (by omega) (by omega) (by omega) (by omega)
    refine ⟨mt, hm, aw_q q ?_⟩
    rintro v M' ⟨h1, h2, h3, h4, ⟨x, hv, hx⟩, h6⟩
    rw [e]
    refine ⟨h1, h2, h_Fle h3 (by
      have hq : ∀ s, s < 12 → x_wle [(0, 11, 12), (59, s, s + 1)] hw_rowC = true := by decide +kernel
      exact hq _ (by omega)), by simp only; omega, ⟨x, hv, by simp only; first | exact hx | (rw [hx]; rfl)⟩, fun k hk => by
        by_cases hks : (k : Int) = (M 0 11).toInt
        · rw [if_pos ⟨rfl, hks⟩]
          have ek : k = (M 0 11).toInt.toNat := by omega
          rw [ek]
          exact h6 (59, (M 0 11).toInt.toNat, 0) (List.mem_cons_self ..) a rfl
        · rw [if_neg (fun q => hks q.2)]
          have hq : ∀ s, s < 12 → ∀ k, k < 12 → k ≠ s → x_in [(0, 11, 12), (59, s, s + 1)] 59 k = false := by decide +kernel
          exact h3 59 k (hq _ (by omega) k hk (by omega))⟩
theorem hr_rowM_A : h_run xtM33 [] [(62, 4, 5)] 243 61 (-2147483648) (-1) 61 46 0 12 (some (-4)) 0 [] = true := by decide +kernel
theorem hr_rowM_B : h_run xtM33 [] [(62, 6, 7)] 243 61 100 2147483647 61 46 0 12 (some (-6)) 0 [] = true := by decide +kernel
theorem hr_rowM_C : h_run xtM33 [] [(62, 6, 7)] 243 61 0 99 61 46 12 12 (some (-6)) 0 [] = true := by decide +kernel
theorem hr_rowM_D : ∀ s, s < 12 → h_run xtM33 [] [(61, 46, 47), (88, s, s + 1)] 243 61 0 99 61 46 s s none 1 [(88, s, 0)] = true := by decide +kernel
def hw_rowM : xW := [(61, 46, 47), (88, 0, 12), (62, 4, 5), (62, 6, 7)]
theorem hx_rowM {Ln : Nat} {xs : Nat → Int32} {M : aM} (hJ : x_J x_B M) (hD : h_DM M) (a : Int32) : am (wA, Ln, xs) 8 243 [.ref 61, .int a] M (fun v M' => x_J x_B M' ∧ h_DM M' ∧ x_F hw_rowM M M' ∧ (M' 61 46).toInt = (M 61 46).toInt + (h_ans 99 12 a (M 61 46)).2 ∧ (∃ x, v = some (.int x) ∧ x.toInt = (h_ans 99 12 a (M 61 46)).1) ∧ (∀ k, k < 12 → M' 88 k = if (h_ans 99 12 a (M 61 46)).2 = 1 ∧ (k : Int) = (M 61 46).toInt then a else M 88 k)) := by
  have hc := hJ (61, 46, 47, 0, 12) (by decide +kernel) 46 (by decide) (by decide)
  simp only at hc
  have l1 := x_mn_le a
  have l2 := x_le_mx a
  rw [x_mn_e] at l1
  rw [x_mx_e] at l2
  by_cases hA : a.toInt < 0
  · have e : h_ans 99 12 a (M 61 46) = (-4, 0) := by
      unfold h_ans
      rw [if_pos hA]
    obtain ⟨mt, hm, q⟩ := h_run_ok (Ln := Ln) (xs := xs) xoM33 hr_rowM_A (by decide) hJ hD (a := a) (by omega) (by omega) (by omega) (by omega)
    refine ⟨mt, hm, aw_q q ?_⟩
    rintro v M' ⟨h1, h2, h3, h4, ⟨x, hv, hx⟩, h6⟩
    rw [e]
    refine ⟨h1, h2, h_Fle h3 (by decide +kernel), by simp only; omega, ⟨x, hv, by simp only; first | exact hx | (rw [hx]; rfl)⟩, fun k hk => by
        rw [if_neg (fun q => by simp at q)]
        have hq : ∀ k, k < 12 → x_in [(62, 4, 5)] 88 k = false := by decide +kernel
        exact h3 88 k (hq k hk)⟩
  by_cases hB : 99 < a.toInt
  · have e : h_ans 99 12 a (M 61 46) = (-6, 0) := by
      unfold h_ans
      rw [if_neg hA, if_pos (Or.inl hB)]
    obtain ⟨mt, hm, q⟩ := h_run_ok (Ln := Ln) (xs := xs) xoM33 hr_rowM_B (by decide) hJ hD (a := a) (by omega) (by omega) (by omega) (by omega)
    refine ⟨mt, hm, aw_q q ?_⟩
    rintro v M' ⟨h1, h2, h3, h4, ⟨x, hv, hx⟩, h6⟩
    rw [e]
    refine ⟨h1, h2, h_Fle h3 (by decide +kernel), by simp only; omega, ⟨x, hv, by simp only; first | exact hx | (rw [hx]; rfl)⟩, fun k hk => by
        rw [if_neg (fun q => by simp at q)]
        have hq : ∀ k, k < 12 → x_in [(62, 6, 7)] 88 k = false := by decide +kernel
        exact h3 88 k (hq k hk)⟩
  by_cases hC : (M 61 46).toInt = 12
  · have e : h_ans 99 12 a (M 61 46) = (-6, 0) := by
      unfold h_ans
      rw [if_neg hA, if_pos (Or.inr hC)]
    obtain ⟨mt, hm, q⟩ := h_run_ok (Ln := Ln) (xs := xs) xoM33 hr_rowM_C (by decide) hJ hD (a := a) (by omega) (by omega) (by omega) (by omega)
    refine ⟨mt, hm, aw_q q ?_⟩
    rintro v M' ⟨h1, h2, h3, h4, ⟨x, hv, hx⟩, h6⟩
    rw [e]
    refine ⟨h1, h2, h_Fle h3 (by decide +kernel), by simp only; omega, ⟨x, hv, by simp only; first | exact hx | (rw [hx]; rfl)⟩, fun k hk => by
        rw [if_neg (fun q => by simp at q)]
        have hq : ∀ k, k < 12 → x_in [(62, 6, 7)] 88 k = false := by decide +kernel
        exact h3 88 k (hq k hk)⟩
  · have e : h_ans 99 12 a (M 61 46) = ((M 61 46).toInt + 1, 1) := by
      unfold h_ans
      rw [if_neg hA, if_neg (by omega)]
    obtain ⟨mt, hm, q⟩ := h_run_ok (Ln := Ln) (xs := xs) xoM33 (hr_rowM_D (M 61 46).toInt.toNat (by omega)) (by decide) hJ hD (a := a) (by omega) (by omega) (by omega) (by omega)
    refine ⟨mt, hm, aw_q q ?_⟩
    rintro v M' ⟨h1, h2, h3, h4, ⟨x, hv, hx⟩, h6⟩
    rw [e]
    refine ⟨h1, h2, h_Fle h3 (by
      have hq : ∀ s, s < 12 → x_wle [(61, 46, 47), (88, s, s + 1)] hw_rowM = true := by decide +kernel
      exact hq _ (by omega)), by simp only; omega, ⟨x, hv, by simp only; first | exact hx | (rw [hx]; rfl)⟩, fun k hk => by
        by_cases hks : (k : Int) = (M 61 46).toInt
        · rw [if_pos ⟨rfl, hks⟩]
          have ek : k = (M 61 46).toInt.toNat := by omega
          rw [ek]
          exact h6 (88, (M 61 46).toInt.toNat, 0) (List.mem_cons_self ..) a rfl
        · rw [if_neg (fun q => hks q.2)]
          have hq : ∀ s, s < 12 → ∀ k, k < 12 → k ≠ s → x_in [(61, 46, 47), (88, s, s + 1)] 88 k = false := by decide +kernel
          exact h3 88 k (hq _ (by omega) k hk (by omega))⟩
def hw_dropC : xW := [(0, 11, 12)]
def hz_dropC : Bool := h_frm hw_dropC [] && (match x_go x_B xtC88 [] hw_dropC 20000 8 39 [(0, 0, 0, 0)] [(0, 11, 0, 12)] with
  | some outs => outs.all (fun o => h_isr o && x_num0 [(0, 11, 0)] o && (match o.1 with
    | some a => h_eqn o.2 a 0 0
    | none => false))
  | none => false)
theorem hz_dropC_ok : hz_dropC = true := by decide +kernel
theorem hx_dropC {Ln : Nat} {xs : Nat → Int32} {M : aM} (hJ : x_J x_B M) (hD : h_DM M) : am (wA, Ln, xs) 8 39 [.ref 0] M (fun v M' => x_J x_B M' ∧ h_DM M' ∧ x_F hw_dropC M M' ∧ (M' 0 11).toInt = 0 ∧ ∃ x, v = some (.int x) ∧ x.toInt = (M 0 11).toInt) := by
  have hc := hz_dropC_ok
  unfold hz_dropC at hc
  rw [Bool.and_eq_true] at hc
  obtain ⟨hf, hc⟩ := hc
  split at hc
  next outs ho =>
    obtain ⟨mt, hm, q⟩ := x_con (Ln := Ln) (e := 0) (xs := xs) (Vs := [.ref 0]) xoC88 ho hJ ⟨Or.inl ⟨rfl, rfl⟩, trivial⟩ (by
      intro q hq
      rcases List.mem_cons.mp hq with rfl | hq
      · exact ⟨by decide, hJ (0, 11, 12, 0, 12) (by decide +kernel) 11 (by decide) (by decide)⟩
      · cases hq)
    refine ⟨mt, hm, aw_q q ?_⟩
    rintro v M' ⟨h1, h2, o, ho, r', hx, h4, h5⟩
    have hb := List.all_eq_true.mp hc o ho
    simp only [Bool.and_eq_true] at hb
    refine ⟨h1, fun u hu => ?_, h2, x_num0_ok h4 hb.1.2 (0, 11, 0) (List.mem_cons_self ..), ?_⟩
    · rcases h_frm_ok h2 hf hu with h | h
      · cases h
      · exact h_D_fr hu h1 h (hD u hu)
    · have e1 := hb.2
      split at e1
      next a' ha =>
        unfold x_ro at h5
        rw [ha] at h5
        obtain ⟨u, rfl, hu⟩ := h5
        have hi : x_isI a' = true := by
          unfold h_eqn at e1
          simp only [Bool.and_eq_true] at e1
          exact e1.1.1
        obtain ⟨x, rfl, hxx⟩ := x_v_i hu hi
        have hn : r'[0]? = some (M 0 11) := x_ex_at hx rfl
        have := h_eqn_ok h4 hn hxx e1
        exact ⟨x, rfl, by omega⟩
      next => cases e1
  next => cases hc
def hw_dropM : xW := [(61, 46, 47)]
def hz_dropM : Bool := h_frm hw_dropM [] && (match x_go x_B xtM33 [] hw_dropM 20000 8 245 [(0, 61, 0, 0)] [(61, 46, 0, 12)] with
  | some outs => outs.all (fun o => h_isr o && x_num0 [(61, 46, 0)] o && (match o.1 with
    | some a => h_eqn o.2 a 0 0
    | none => false))
  | none => false)
theorem hz_dropM_ok : hz_dropM = true := by decide +kernel
theorem hx_dropM {Ln : Nat} {xs : Nat → Int32} {M : aM} (hJ : x_J x_B M) (hD : h_DM M) : am (wA, Ln, xs) 8 245 [.ref 61] M (fun v M' => x_J x_B M' ∧ h_DM M' ∧ x_F hw_dropM M M' ∧ (M' 61 46).toInt = 0 ∧ ∃ x, v = some (.int x) ∧ x.toInt = (M 61 46).toInt) := by
  have hc := hz_dropM_ok
  unfold hz_dropM at hc
  rw [Bool.and_eq_true] at hc
  obtain ⟨hf, hc⟩ := hc
  split at hc
  next outs ho =>
    obtain ⟨mt, hm, q⟩ := x_con (Ln := Ln) (e := 0) (xs := xs) (Vs := [.ref 61]) xoM33 ho hJ ⟨Or.inl ⟨rfl, rfl⟩, trivial⟩ (by
      intro q hq
      rcases List.mem_cons.mp hq with rfl | hq
      · exact ⟨by decide, hJ (61, 46, 47, 0, 12) (by decide +kernel) 46 (by decide) (by decide)⟩
      · cases hq)
    refine ⟨mt, hm, aw_q q ?_⟩
    rintro v M' ⟨h1, h2, o, ho, r', hx, h4, h5⟩
    have hb := List.all_eq_true.mp hc o ho
    simp only [Bool.and_eq_true] at hb
    refine ⟨h1, fun u hu => ?_, h2, x_num0_ok h4 hb.1.2 (61, 46, 0) (List.mem_cons_self ..), ?_⟩
    · rcases h_frm_ok h2 hf hu with h | h
      · cases h
      · exact h_D_fr hu h1 h (hD u hu)
    · have e1 := hb.2
      split at e1
      next a' ha =>
        unfold x_ro at h5
        rw [ha] at h5
        obtain ⟨u, rfl, hu⟩ := h5
        have hi : x_isI a' = true := by
          unfold h_eqn at e1
          simp only [Bool.and_eq_true] at e1
          exact e1.1.1
        obtain ⟨x, rfl, hxx⟩ := x_v_i hu hi
        have hn : r'[0]? = some (M 61 46) := x_ex_at hx rfl
        have := h_eqn_ok h4 hn hxx e1
        exact ⟨x, rfl, by omega⟩
      next => cases e1
  next => cases hc
def hw_judgeC : xW := [(0, 11, 12), (39, 4, 14), (40, 0, 40), (41, 0, 8), (42, 0, 3)]
def hz_judgeC : Bool := h_frm hw_judgeC [] && (match x_go x_B xtC88 [(16, [(9, [(1, (-9), 12), (2, 0, 12)], [], [(0, 11, 12)], [], 1, true)], [], [], [])] hw_judgeC 20000 8 16 [(0, 0, 0, 0)] [(0, 11, 0, 12)] with
  | some outs => outs.all (fun o => h_isr o && x_num0 [(0, 11, 0)] o)
  | none => false)
theorem hz_judgeC_ok : hz_judgeC = true := by decide +kernel
theorem hx_judgeC {Ln : Nat} {xs : Nat → Int32} {M : aM} (hJ : x_J x_B M) (hD : h_DM M) : am (wA, Ln, xs) 8 16 [.ref 0] M (fun v M' => x_J x_B M' ∧ h_DM M' ∧ x_F hw_judgeC M M' ∧ (M' 0 11).toInt = 0 ∧ ∃ x, v = some (.int x)) := by
  have hc := hz_judgeC_ok
  unfold hz_judgeC at hc
  rw [Bool.and_eq_true] at hc
  obtain ⟨hf, hc⟩ := hc
  split at hc
  next outs ho =>
    obtain ⟨mt, hm, q⟩ := x_con (Ln := Ln) (e := 0) (xs := xs) (Vs := [.ref 0]) xoC88 ho hJ ⟨Or.inl ⟨rfl, rfl⟩, trivial⟩ (by
      intro q hq
      rcases List.mem_cons.mp hq with rfl | hq
      · exact ⟨by decide, hJ (0, 11, 12, 0, 12) (by decide +kernel) 11 (by decide) (by decide)⟩
      · cases hq)
    refine ⟨mt, hm, aw_q q ?_⟩
    rintro v M' ⟨h1, h2, o, ho, r', hx, h4, h5⟩
    have hb := List.all_eq_true.mp hc o ho
    simp only [Bool.and_eq_true] at hb
    refine ⟨h1, fun u hu => ?_, h2, x_num0_ok h4 hb.2 (0, 11, 0) (List.mem_cons_self ..), ?_⟩
    · rcases h_frm_ok h2 hf hu with h | h
      · cases h
      · exact h_D_fr hu h1 h (hD u hu)
    · exact h_isr_ok h5 hb.1
  next => cases hc
def hw_judgeM : xW := [(61, 35, 43), (61, 46, 47), (81, 0, 8), (82, 0, 8), (83, 0, 8), (84, 0, 8), (85, 0, 8), (86, 0, 3)]
def hz_judgeM : Bool := h_frm hw_judgeM [] && (match x_go x_B xtM33 [(244, [(16, [(2, 0, 8)], [], [(61, 46, 47)], [], 0, true)], [], [], [])] hw_judgeM 20000 8 244 [(0, 61, 0, 0)] [(61, 46, 0, 12)] with
  | some outs => outs.all (fun o => h_isr o && x_num0 [(61, 46, 0)] o)
  | none => false)
theorem hz_judgeM_ok : hz_judgeM = true := by decide +kernel
theorem hx_judgeM {Ln : Nat} {xs : Nat → Int32} {M : aM} (hJ : x_J x_B M) (hD : h_DM M) : am (wA, Ln, xs) 8 244 [.ref 61] M (fun v M' => x_J x_B M' ∧ h_DM M' ∧ x_F hw_judgeM M M' ∧ (M' 61 46).toInt = 0 ∧ ∃ x, v = some (.int x)) := by
  have hc := hz_judgeM_ok
  unfold hz_judgeM at hc
  rw [Bool.and_eq_true] at hc
  obtain ⟨hf, hc⟩ := hc
  split at hc
  next outs ho =>
    obtain ⟨mt, hm, q⟩ := x_con (Ln := Ln) (e := 0) (xs := xs) (Vs := [.ref 61]) xoM33 ho hJ ⟨Or.inl ⟨rfl, rfl⟩, trivial⟩ (by
      intro q hq
      rcases List.mem_cons.mp hq with rfl | hq
      · exact ⟨by decide, hJ (61, 46, 47, 0, 12) (by decide +kernel) 46 (by decide) (by decide)⟩
      · cases hq)
    refine ⟨mt, hm, aw_q q ?_⟩
    rintro v M' ⟨h1, h2, o, ho, r', hx, h4, h5⟩
    have hb := List.all_eq_true.mp hc o ho
    simp only [Bool.and_eq_true] at hb
    refine ⟨h1, fun u hu => ?_, h2, x_num0_ok h4 hb.2 (61, 46, 0) (List.mem_cons_self ..), ?_⟩
    · rcases h_frm_ok h2 hf hu with h | h
      · cases h
      · exact h_D_fr hu h1 h (hD u hu)
    · exact h_isr_ok h5 hb.1
  next => cases hc
def hw_kitC : xW := [(2, 1, 2), (3, 0, 48), (4, 1, 3), (5, 0, 8), (6, 0, 5), (8, 1, 2), (9, 0, 48), (10, 1, 3), (11, 0, 8), (12, 0, 5), (19, 1, 2), (21, 2, 3)]
def hz_kitC : Bool := h_frm hw_kitC [] && (match x_go x_B xtC88 [(112, [(2, [(3, 0, 96)], [], [(2, 1, 2), (4, 1, 3), (8, 1, 2), (10, 1, 3), (19, 1, 2)], [], 0, true)], [], [], []), (79, [(7, [(2, (-2147483648), 2147483647), (3, 0, 2147483647), (4, 0, 255)], [], [(2, 1, 2), (4, 1, 3), (8, 1, 2), (10, 1, 3), (19, 1, 2)], [], 2, true), (52, [(3, (-2147483648), 2147483647), (4, 0, 2147483647)], [], [(2, 1, 2), (4, 1, 3), (19, 1, 2)], [], 1, true)], [], [(52, [5])], [])] hw_kitC 20000 8 1 [(0, 0, 0, 0)] [(19, 1, 0, 96)] with
  | some outs => outs.all (fun o => h_isr o && x_num0 [(19, 1, 0)] o)
  | none => false)
theorem hz_kitC_ok : hz_kitC = true := by decide +kernel
theorem hx_kitC {Ln : Nat} {xs : Nat → Int32} {M : aM} (hJ : x_J x_B M) (hD : h_DM M) : am (wA, Ln, xs) 8 1 [.ref 0] M (fun v M' => x_J x_B M' ∧ h_DM M' ∧ x_F hw_kitC M M' ∧ (M' 19 1).toInt = 0 ∧ ∃ x, v = some (.int x)) := by
  have hc := hz_kitC_ok
  unfold hz_kitC at hc
  rw [Bool.and_eq_true] at hc
  obtain ⟨hf, hc⟩ := hc
  split at hc
  next outs ho =>
    obtain ⟨mt, hm, q⟩ := x_con (Ln := Ln) (e := 0) (xs := xs) (Vs := [.ref 0]) xoC88 ho hJ ⟨Or.inl ⟨rfl, rfl⟩, trivial⟩ (by
      intro q hq
      rcases List.mem_cons.mp hq with rfl | hq
      · exact ⟨by decide, hJ (19, 1, 2, 0, 96) (by decide +kernel) 1 (by decide) (by decide)⟩
      · cases hq)
    refine ⟨mt, hm, aw_q q ?_⟩
    rintro v M' ⟨h1, h2, o, ho, r', hx, h4, h5⟩
    have hb := List.all_eq_true.mp hc o ho
    simp only [Bool.and_eq_true] at hb
    refine ⟨h1, fun u hu => ?_, h2, x_num0_ok h4 hb.2 (19, 1, 0) (List.mem_cons_self ..), ?_⟩
    · rcases h_frm_ok h2 hf hu with h | h
      · cases h
      · exact h_D_fr hu h1 h (hD u hu)
    · exact h_isr_ok h5 hb.1
  next => cases hc
