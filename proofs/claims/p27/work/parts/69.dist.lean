/-! the model's orders hold nothing twice: the order itself (0), what can be undone (1 to 8), the image's (9) -/
def h_cell (u p : Nat) : Nat × Nat := if u = 0 then (if p < 8 then (70, p) else (61, 10)) else if u < 9 then (if p < 8 then (78, 8 * (u - 1) + p) else (79, u - 1)) else (if p < 8 then (77, 53 + p) else (77, 62))
theorem h_clt (u p : Nat) : (h_cell u p).1 < 1000 := by
  unfold h_cell
  repeat' split
  all_goals simp
def h_o (M : aM) (u p : Nat) : Int32 := M (h_cell u p).1 (h_cell u p).2
def h_D1 (M : aM) (u : Nat) : Prop := ∀ i j : Nat, i < j → (j : Int) < (h_o M u 8).toInt → h_o M u i ≠ h_o M u j
def h_DM (M : aM) : Prop := ∀ u, u < 10 → h_D1 M u
def h_ld (u p : Nat) : Int × Int := x_ld x_B (h_cell u p).1 (h_cell u p).2 (h_cell u p).2
theorem h_bd : ∀ u, u < 10 → ∀ p, p < 9 → (x_ile 0 (h_ld u p).1 && x_ile (h_ld u p).2 (if p < 8 then 7 else 8)) = true := by decide +kernel
theorem h_bd8 {M : aM} (hJ : x_J x_B M) {u : Nat} (hu : u < 10) : 0 ≤ (h_o M u 8).toInt ∧ (h_o M u 8).toInt ≤ 8 := by
  have h := h_bd u hu 8 (by decide)
  rw [Bool.and_eq_true] at h
  have h1 := x_ile_ok.mp h.1
  have h2 := x_ile_ok.mp h.2
  obtain ⟨k1, k2⟩ := x_ld_ok (i := (h_cell u 8).1) (l := (h_cell u 8).2) (h := (h_cell u 8).2) hJ (Nat.le_refl _) (Nat.le_refl _)
  exact ⟨Int.le_trans h1 k1, Int.le_trans k2 h2⟩
theorem h_bd7 {M : aM} (hJ : x_J x_B M) {u p : Nat} (hu : u < 10) (hp : p < 8) : 0 ≤ (h_o M u p).toInt ∧ (h_o M u p).toInt ≤ 7 := by
  have h := h_bd u hu p (by omega)
  rw [Bool.and_eq_true, if_pos hp] at h
  have h1 := x_ile_ok.mp h.1
  have h2 := x_ile_ok.mp h.2
  obtain ⟨k1, k2⟩ := x_ld_ok (i := (h_cell u p).1) (l := (h_cell u p).2) (h := (h_cell u p).2) hJ (Nat.le_refl _) (Nat.le_refl _)
  exact ⟨Int.le_trans h1 k1, Int.le_trans k2 h2⟩
theorem h_D_cp {M M' : aM} {u u' : Nat} (hu : u < 10) (hJ : x_J x_B M') (hc : ∀ p, p < 8 → h_o M' u p = h_o M u' p) (hs : (h_o M' u 8).toInt ≤ (h_o M u' 8).toInt) (h : h_D1 M u') : h_D1 M' u := by
  intro i j hij hj
  have := (h_bd8 hJ hu).2
  rw [hc i (by omega), hc j (by omega)]
  exact h i j hij (by omega)
/-- eight different ones below eight: the ninth is among them -/
theorem h_full {M : aM} (hJ : x_J x_B M) (hD : h_D1 M 0) {t : Int32} (h0 : 0 ≤ t.toInt) (h7 : t.toInt ≤ 7) (hn : ∀ k : Nat, (k : Int) < (M 61 10).toInt → M 70 k ≠ t) : (M 61 10).toInt ≤ 7 := by
  by_cases h : (M 61 10).toInt ≤ 7
  · exact h
  · have h8 : (h_o M 0 8).toInt ≤ 8 := (h_bd8 hJ (by decide)).2
    have e8 : (M 61 10).toInt = 8 := by
      have : (h_o M 0 8) = M 61 10 := rfl
      rw [this] at h8
      omega
    have hl := h_sub (t.toInt.toNat :: (List.range 8).map fun k => (M 70 k).toInt.toNat) (List.range 8) (by
      refine List.nodup_cons.mpr ⟨fun hm => ?_, ?_⟩
      · obtain ⟨k, hk, e⟩ := List.mem_map.mp hm
        have hk := List.mem_range.mp hk
        have hb := h_bd7 hJ (u := 0) (p := k) (by decide) hk
        have eo : h_o M 0 k = M 70 k := by
          unfold h_o h_cell
          rw [if_pos rfl, if_pos hk]
        rw [eo] at hb
        exact hn k (by omega) (Int32.toInt_inj.mp (by omega))
      · rw [List.nodup_iff_pairwise_ne, List.pairwise_map]
        refine List.Pairwise.imp_of_mem ?_ (List.pairwise_lt_range (n := 8))
        intro i j hi hj hij e
        have hi := List.mem_range.mp hi
        have hj := List.mem_range.mp hj
        have bi := h_bd7 hJ (u := 0) (p := i) (by decide) hi
        have bj := h_bd7 hJ (u := 0) (p := j) (by decide) hj
        have ei : h_o M 0 i = M 70 i := by
          unfold h_o h_cell
          rw [if_pos rfl, if_pos hi]
        have ej : h_o M 0 j = M 70 j := by
          unfold h_o h_cell
          rw [if_pos rfl, if_pos hj]
        refine hD i j hij (by show (j : Int) < (M 61 10).toInt; omega) ?_
        rw [ei, ej]
        rw [ei] at bi
        rw [ej] at bj
        exact Int32.toInt_inj.mp (by omega)) (by
      intro x hx
      rcases List.mem_cons.mp hx with rfl | hx
      · exact List.mem_range.mpr (by omega)
      · obtain ⟨k, hk, rfl⟩ := List.mem_map.mp hx
        have hk := List.mem_range.mp hk
        have hb := h_bd7 hJ (u := 0) (p := k) (by decide) hk
        have eo : h_o M 0 k = M 70 k := by
          unfold h_o h_cell
          rw [if_pos rfl, if_pos hk]
        rw [eo] at hb
        exact List.mem_range.mpr (by omega))
    simp at hl
/-- the cells of orders us as a run's first cells; the size of order 0 within a, b -/
def h_pre (a b : Int) (us : List Nat) : List (Nat × Nat × Int × Int) := us.flatMap (fun u => (List.range 9).map (fun p => ((h_cell u p).1, (h_cell u p).2, if u = 0 ∧ p = 8 then (a, b) else h_ld u p)))
theorem h_pre_at {M : aM} {a b : Int} : ∀ {us : List Nat} {i p u : Nat}, us[i]? = some u → p < 9 → (x_atC M (h_pre a b us))[9 * i + p]? = some (h_o M u p)
  | [], _, _, _, h, _ => by simp at h
  | v :: t, 0, p, u, h, hp => by
    simp at h
    subst h
    unfold x_atC h_pre
    rw [List.flatMap_cons, List.map_append, List.getElem?_append_left (by simp; omega)]
    simp [List.getElem?_map, List.getElem?_range, hp, h_o]
  | v :: t, i + 1, p, u, h, hp => by
    have := h_pre_at (M := M) (a := a) (b := b) (us := t) (i := i) (p := p) (u := u) (by simpa using h) hp
    unfold x_atC h_pre at this ⊢
    rw [List.flatMap_cons, List.map_append, List.getElem?_append_right (by simp; omega)]
    simp only [List.length_map, List.length_range]
    rw [show 9 * (i + 1) + p - 9 = 9 * i + p by omega]
    exact this
theorem h_pre_ok {M : aM} {a b : Int} {us : List Nat} (hJ : x_J x_B M) (h : a ≤ (M 61 10).toInt ∧ (M 61 10).toInt ≤ b) : x_pre (h_pre a b us) M := by
  intro e he
  obtain ⟨u, hu, he⟩ := List.mem_flatMap.mp he
  obtain ⟨p, hp, rfl⟩ := List.mem_map.mp he
  refine ⟨h_clt u p, ?_⟩
  simp only
  split
  next hc =>
    obtain ⟨rfl, rfl⟩ := hc
    exact h
  next => exact x_ld_ok hJ (Nat.le_refl _) (Nat.le_refl _)
def h_hit (base : Nat) (us : List Nat) (u : Nat) (o : xO) : Bool := us.zipIdx.any (fun q => (List.range 8).all (fun p => match x_cl o.2.2.2.2 (h_cell u p).1 (h_cell u p).2 with
  | some a => x_eqV a (1, base + (9 * q.2 + p), 0)
  | none => false) && (match x_cl o.2.2.2.2 (h_cell u 8).1 (h_cell u 8).2 with
  | some a => x_isI a && x_le 3 o.2 a (1, base + (9 * q.2 + 8), 0) 0
  | none => false))
theorem h_hit_ok {M M' : aM} {a b : Int} {us : List Nat} {ys r : List Int32} {o : xO} {u : Nat} (g : x_gs r o.2 M') (hx : x_ex (ys ++ x_atC M (h_pre a b us)) r) (h : h_hit ys.length us u o = true) : ∃ u' ∈ us, (∀ p, p < 8 → h_o M' u p = h_o M u' p) ∧ (h_o M' u 8).toInt ≤ (h_o M u' 8).toInt := by
  obtain ⟨⟨u', i⟩, hq, hb⟩ := List.any_eq_true.mp h
  have hi : us[i]? = some u' := List.mem_zipIdx_iff_getElem?.mp hq
  rw [Bool.and_eq_true] at hb
  have hn : ∀ p, p < 9 → r[ys.length + (9 * i + p)]? = some (h_o M u' p) := fun p hp => x_ex_at hx (by
    rw [List.getElem?_append_right (by omega), Nat.add_sub_cancel_left]
    exact h_pre_at hi hp)
  refine ⟨u', List.mem_of_getElem? hi, fun p hp => ?_, ?_⟩
  · have := List.all_eq_true.mp hb.1 p (List.mem_range.mpr hp)
    split at this
    next c hc =>
      have e := x_eqV_ok this
      subst e
      have h1 : r[ys.length + (9 * i + p)]? = some (M' (h_cell u p).1 (h_cell u p).2) := x_cl_ok (h_clt u _) g.2.2.2 hc
      rw [hn p (by omega)] at h1
      exact (Option.some.inj h1).symm
    next => cases this
  · have := hb.2
    split at this
    next c hc =>
      rw [Bool.and_eq_true] at this
      have h1 := x_cl_ok (h_clt u _) g.2.2.2 hc
      have h2 : x_i r (1, ys.length + (9 * i + 8), 0) (h_o M u' 8) := hn 8 (by decide)
      have := x_le_ok g h2 3 h1 this.2
      show (M' (h_cell u 8).1 (h_cell u 8).2).toInt ≤ _
      omega
    next => cases this
def h_frm (wr : xW) (us : List Nat) : Bool := (List.range 10).all (fun u => us.any (fun v => Nat.beq v u) || (List.range 9).all (fun p => !(x_in wr (h_cell u p).1 (h_cell u p).2)))
theorem h_frm_ok {M M' : aM} {wr : xW} {us : List Nat} (hF : x_F wr M M') (h : h_frm wr us = true) {u : Nat} (hu : u < 10) : u ∈ us ∨ ∀ p, p < 9 → h_o M' u p = h_o M u p := by
  have := List.all_eq_true.mp h u (List.mem_range.mpr hu)
  rw [Bool.or_eq_true] at this
  rcases this with t | t
  · obtain ⟨v, hv, e⟩ := List.any_eq_true.mp t
    rw [← Nat.eq_of_beq_eq_true e]
    exact Or.inl hv
  · refine Or.inr fun p hp => ?_
    have := List.all_eq_true.mp t p (List.mem_range.mpr hp)
    exact hF _ _ (by simpa using this)
theorem h_D_fr {M M' : aM} {u : Nat} (hu : u < 10) (hJ : x_J x_B M') (h : ∀ p, p < 9 → h_o M' u p = h_o M u p) (hD : h_D1 M u) : h_D1 M' u := h_D_cp hu hJ (fun p hp => h p (by omega)) (by rw [h 8 (by decide)]; exact Int.le_refl _) hD
/-- what is owed of a call's method -/
def h_op (id : Nat) (ps : List (Nat × Nat × Int × Int)) (wr : xW) : Prop := ∀ (Ln : Nat) (xs : Nat → Int32) (M : aM) (Vs : List Value), x_J x_B M → h_DM M → x_av ps Vs → am (wA, Ln, xs) 8 id Vs M (fun v M' => x_J x_B M' ∧ h_DM M' ∧ x_F wr M M' ∧ ∃ x, v = some (.int x))
theorem h_opA {u : xU} (hu : x_uok x_B u) (hc : (h_frm u.2.2.2.1 [] && Nat.beq u.2.2.2.2.1 1 && Nat.beq u.2.1 8) = true) : h_op u.1 u.2.2.1 u.2.2.2.1 := by
  intro Ln xs M Vs hJ hD hv
  simp only [Bool.and_eq_true] at hc
  obtain ⟨mt, hm, q⟩ := hu Ln xs 0 M Vs hJ hv
  rw [Nat.eq_of_beq_eq_true hc.2] at q
  refine ⟨mt, hm, aw_q q ?_⟩
  rintro v M' ⟨h1, h2, h3⟩
  refine ⟨h1, fun u hu => ?_, h2, ?_⟩
  · rcases h_frm_ok h2 hc.1.1 hu with h | h
    · cases h
    · exact h_D_fr hu h1 h (hD u hu)
  · rcases h3 with ⟨h3, -⟩ | ⟨-, x, h3, -⟩
    · have := Nat.eq_of_beq_eq_true hc.1.2
      rw [h3] at this
      cases this
    · exact ⟨x, h3⟩
def h_isr (o : xO) : Bool := match o.1 with
  | some a => x_isI a
  | none => false
theorem h_isr_ok {o : xO} {r : List Int32} {v : Option Value} (hr : x_ro r o.1 v) (h : h_isr o = true) : ∃ x, v = some (.int x) := by
  unfold h_isr at h
  unfold x_ro at hr
  split at h
  next a h0 =>
    rw [h0] at hr
    obtain ⟨u, rfl, hu⟩ := hr
    obtain ⟨x, rfl, -⟩ := x_v_i hu h
    exact ⟨x, rfl⟩
  next => cases h
def h_chB (tab : List xU) (ks : List (Nat × xK)) (wr : xW) (n id : Nat) (ps : List (Nat × Nat × Int × Int)) (us : List Nat) : Bool := h_frm wr us && us.all (fun u => Nat.blt u 10) && (match x_go x_B tab ks wr n 8 id ps (h_pre 0 8 us) with
  | some outs => outs.all (fun o => h_isr o && us.all (fun u => h_hit (x_aB ps).length us u o))
  | none => false)
theorem h_opB {tab : List xU} {ks : List (Nat × xK)} {wr : xW} {n id : Nat} {ps : List (Nat × Nat × Int × Int)} {us : List Nat} (ht : ∀ u ∈ tab, x_uok x_B u) (h : h_chB tab ks wr n id ps us = true) : h_op id ps wr := by
  intro Ln xs M Vs hJ hD hv
  unfold h_chB at h
  simp only [Bool.and_eq_true] at h
  obtain ⟨⟨hf, hus⟩, h⟩ := h
  split at h
  next outs ho =>
    obtain ⟨mt, hm, q⟩ := x_con (Ln := Ln) (e := 0) (xs := xs) ht ho hJ hv (h_pre_ok hJ (h_bd8 (u := 0) hJ (by decide)))
    refine ⟨mt, hm, aw_q q ?_⟩
    rintro v M' ⟨h1, h2, o, ho, r', hx, h4, h5⟩
    have hb := List.all_eq_true.mp h o ho
    rw [Bool.and_eq_true] at hb
    refine ⟨h1, fun u hu => ?_, h2, h_isr_ok h5 hb.1⟩
    rcases h_frm_ok h2 hf hu with hm | hm
    · obtain ⟨u', hu', c1, c2⟩ := h_hit_ok h4 hx (by rw [x_wb_len (x_av_ok hv)]; exact List.all_eq_true.mp hb.2 u hm)
      have hlt : u' + 1 ≤ 10 := Nat.le_of_ble_eq_true (List.all_eq_true.mp hus u' hu')
      exact h_D_cp hu h1 c1 c2 (hD u' (by omega))
    · exact h_D_fr hu h1 hm (hD u hu)
  next => cases h
/-- the same from a place further on: locals as at the beginning -/
def x_goT (iv : xB) (tab : List xU) (ks : List (Nat × xK)) (wr : xW) (n d id pc : Nat) (ps pre : List (Nat × Nat × Int × Int)) : Option (List xO) := match a_mth[id]? with
  | none => none
  | some mt => x_run iv tab ks wr n d (x_kof ks id) mt.2.1 pc (x_aL ps 0 ++ List.replicate (mt.1.2.2.1 - ps.length) (9, 0, 0)) [] (x_S0 ps pre) []
theorem x_conT {iv : xB} {tab : List xU} {ks : List (Nat × xK)} {wr : xW} (ht : ∀ u ∈ tab, x_uok iv u) {n d id pc : Nat} {ps pre : List (Nat × Nat × Int × Int)} {outs : List xO} {mt : aMt} (hm : a_mth[id]? = some mt) (h : x_goT iv tab ks wr n d id pc ps pre = some outs) {Ln e : Nat} {xs : Nat → Int32} {M : aM} {Vs tl : List Value} (hJ : x_J iv M) (hv : x_av ps Vs) (hp : x_pre pre M) (htl : tl.length = mt.1.2.2.1 - ps.length) : aw (wA, Ln, xs) (d + e) mt.2.1 pc (Vs ++ tl) [] M (fun v M' => x_J iv M' ∧ x_F wr M M' ∧ ∃ o ∈ outs, ∃ r', x_ex (x_r0 Vs pre M) r' ∧ x_gs r' o.2 M' ∧ x_ro r' o.1 v) := by
  unfold x_goT at h
  rw [hm] at h
  simp only at h
  have hL : x_vs (x_r0 Vs pre M) (x_aL ps 0 ++ List.replicate (mt.1.2.2.1 - ps.length) (9, 0, 0)) (Vs ++ tl) := by
    refine x_vs_app (x_av_vs (n := 0) (pre := []) hv rfl) (x_vs_of (by simp [htl]) fun k a v ha hv => ?_)
    have := List.eq_of_mem_replicate (List.mem_of_getElem? ha)
    subst this
    trivial
  exact x_run_ok ht _ _ _ _ _ _ _ _ _ _ h Ln xs e (x_r0 Vs pre M) _ [] M M _ hL trivial (x_S0_ok hv hp) ⟨hJ, fun _ _ _ => rfl⟩ (fun l hl => by cases hl) fun o ho r' v M' e1 g' G' hr => ⟨G'.1, G'.2, o, ho, r', e1, g', hr⟩
