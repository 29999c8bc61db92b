/-! what a reckoned run gives of a method -/
def x_aL : List (Nat × Nat × Int × Int) → Nat → List xV
  | [], _ => []
  | p :: t, n => bif Nat.beq p.1 0 then (0, p.2.1, 0) :: x_aL t n else (1, n, 0) :: x_aL t (n + 1)
def x_aB : List (Nat × Nat × Int × Int) → List (Int × Int)
  | [] => []
  | p :: t => bif Nat.beq p.1 0 then x_aB t else (p.2.2.1, p.2.2.2) :: x_aB t
def x_ys : List Value → List Int32
  | [] => []
  | .int x :: t => x :: x_ys t
  | _ :: t => x_ys t
theorem x_av_ok : ∀ {ps : List (Nat × Nat × Int × Int)} {Vs : List Value}, x_av ps Vs → x_wb (x_ys Vs) (x_aB ps)
  | [], [], _ => trivial
  | p :: t, v :: s, h => by
    rcases h.1 with ⟨h1, rfl⟩ | ⟨h1, x, rfl, h2, h3⟩
    · unfold x_aB x_ys
      rw [h1]
      exact x_av_ok h.2
    · unfold x_aB x_ys
      cases hb : Nat.beq p.1 0 with
      | true => exact absurd (Nat.eq_of_beq_eq_true hb) h1
      | false => exact ⟨h2, h3, x_av_ok h.2⟩
  | [], _ :: _, h => h.elim
  | _ :: _, [], h => h.elim
theorem x_av_vs : ∀ {ps : List (Nat × Nat × Int × Int)} {Vs : List Value} {n : Nat} {pre tl : List Int32}, x_av ps Vs → pre.length = n → x_vs (pre ++ (x_ys Vs ++ tl)) (x_aL ps n) Vs
  | [], [], _, _, _, _, _ => trivial
  | p :: t, v :: s, n, pre, tl, h, hp => by
    rcases h.1 with ⟨h1, rfl⟩ | ⟨h1, x, rfl, h2, h3⟩
    · unfold x_aL x_ys
      rw [h1]
      exact ⟨rfl, x_av_vs h.2 hp⟩
    · unfold x_aL x_ys
      cases hb : Nat.beq p.1 0 with
      | true => exact absurd (Nat.eq_of_beq_eq_true hb) h1
      | false =>
        refine ⟨⟨x, by simp [← hp], rfl⟩, ?_⟩
        have := x_av_vs (n := n + 1) (pre := pre ++ [x]) (tl := tl) h.2 (by simp [hp])
        simpa using this
  | [], _ :: _, _, _, _, h, _ => h.elim
  | _ :: _, [], _, _, _, h, _ => h.elim
def x_pre (pre : List (Nat × Nat × Int × Int)) (M : aM) : Prop := ∀ e ∈ pre, e.1 < 1000 ∧ e.2.2.1 ≤ (M e.1 e.2.1).toInt ∧ (M e.1 e.2.1).toInt ≤ e.2.2.2
theorem x_pre_wb {M : aM} : ∀ {pre : List (Nat × Nat × Int × Int)}, x_pre pre M → x_wb (x_atC M pre) (pre.map (fun e => e.2.2))
  | [], _ => trivial
  | e :: t, h => ⟨(h e (List.mem_cons_self ..)).2.1, (h e (List.mem_cons_self ..)).2.2, x_pre_wb fun q hq => h q (List.mem_cons_of_mem _ hq)⟩
theorem x_wb_app : ∀ {a : List Int32} {b : List (Int × Int)} {c : List Int32} {d : List (Int × Int)}, x_wb a b → x_wb c d → x_wb (a ++ c) (b ++ d)
  | [], [], _, _, _, h => h
  | _ :: _, _ :: _, _, _, h, g => ⟨h.1, h.2.1, x_wb_app h.2.2 g⟩
  | [], _ :: _, _, _, h, _ => h.elim
  | _ :: _, [], _, _, h, _ => h.elim
def x_S0 (ps pre : List (Nat × Nat × Int × Int)) : xS := ((x_aB ps).length + pre.length, x_num (x_aB ps ++ pre.map (fun e => e.2.2)) 0, [], x_hcn pre (x_aB ps).length)
def x_r0 (Vs : List Value) (pre : List (Nat × Nat × Int × Int)) (M : aM) : List Int32 := x_ys Vs ++ x_atC M pre
theorem x_S0_ok {ps pre : List (Nat × Nat × Int × Int)} {Vs : List Value} {M : aM} (h : x_av ps Vs) (hp : x_pre pre M) : x_gs (x_r0 Vs pre M) (x_S0 ps pre) M := by
  have hl := x_wb_len (x_av_ok h)
  refine ⟨?_, ?_, fun e he => (by cases he), ?_⟩
  · unfold x_r0 x_S0 x_atC
    simp [hl]
  · have := x_num_ok (rb := []) (tl := []) (n := 0) (pre := []) rfl (x_wb_app (x_av_ok h) (x_pre_wb hp))
    simpa [x_r0, x_S0] using this
  · exact x_hcn_ok (pre := x_ys Vs) (fun e he => (hp e he).1) hl rfl
/-- the run of method id from arguments ps and cells pre -/
def x_go (iv : xB) (tab : List xU) (ks : List (Nat × xK)) (wr : xW) (n d id : Nat) (ps pre : List (Nat × Nat × Int × Int)) : Option (List xO) := match a_mth[id]? with
  | none => none
  | some mt => x_run iv tab ks wr n d (x_kof ks id) mt.2.1 0 (x_aL ps 0 ++ List.replicate (mt.1.2.2.1 - ps.length) (9, 0, 0)) [] (x_S0 ps pre) []
theorem x_av_len : ∀ {ps : List (Nat × Nat × Int × Int)} {Vs : List Value}, x_av ps Vs → ps.length = Vs.length
  | [], [], _ => rfl
  | _ :: _, _ :: _, h => by simp [x_av_len h.2]
  | [], _ :: _, h => h.elim
  | _ :: _, [], h => h.elim
theorem x_con {iv : xB} {tab : List xU} {ks : List (Nat × xK)} {wr : xW} (ht : ∀ u ∈ tab, x_uok iv u) {n d id : Nat} {ps pre : List (Nat × Nat × Int × Int)} {outs : List xO} (h : x_go iv tab ks wr n d id ps pre = some outs) {Ln e : Nat} {xs : Nat → Int32} {M : aM} {Vs : List Value} (hJ : x_J iv M) (hv : x_av ps Vs) (hp : x_pre pre M) : am (wA, Ln, xs) (d + e) id Vs M (fun v M' => x_J iv M' ∧ x_F wr M M' ∧ ∃ o ∈ outs, ∃ r', x_ex (x_r0 Vs pre M) r' ∧ x_gs r' o.2 M' ∧ x_ro r' o.1 v) := by
  unfold x_go at h
  split at h
  next => cases h
  next mt hm =>
    refine ⟨mt, hm, ?_⟩
    have hL : x_vs (x_r0 Vs pre M) (x_aL ps 0 ++ List.replicate (mt.1.2.2.1 - ps.length) (9, 0, 0)) (Vs ++ List.replicate (mt.1.2.2.1 - Vs.length) a_dead) := by
      rw [x_av_len hv]
      refine x_vs_app (x_av_vs (n := 0) (pre := []) hv rfl) (x_vs_of (by simp) fun k a v ha hv => ?_)
      have := List.eq_of_mem_replicate (List.mem_of_getElem? ha)
      subst this
      trivial
    exact x_run_ok ht _ _ _ _ _ _ _ _ _ _ h Ln xs e (x_r0 Vs pre M) _ [] M M _ hL trivial (x_S0_ok hv hp) ⟨hJ, fun _ _ _ => rfl⟩ (fun l hl => by cases hl) fun o ho r' v M' e1 g' G' hr => ⟨G'.1, G'.2, o, ho, r', e1, g', hr⟩
def x_resok (t : Nat × Int × Int) (o : xO) : Bool := match o.1 with
  | none => Nat.beq t.1 0
  | some a => Nat.beq t.1 1 && x_isI a && x_ile t.2.1 (x_iv o.2.2.1 a).1 && x_ub 3 o.2 a t.2.2
theorem x_resok_ok {t : Nat × Int × Int} {o : xO} {r : List Int32} {M : aM} {v : Option Value} (g : x_gs r o.2 M) (hr : x_ro r o.1 v) (h : x_resok t o = true) : x_rv t v := by
  unfold x_resok at h
  unfold x_ro at hr
  split at h
  next h0 =>
    rw [h0] at hr
    exact Or.inl ⟨Nat.eq_of_beq_eq_true h, hr⟩
  next a h0 =>
    rw [h0] at hr
    simp only [Bool.and_eq_true] at h
    obtain ⟨⟨⟨h1, h2⟩, h3⟩, h4⟩ := h
    obtain ⟨u, rfl, hu⟩ := hr
    obtain ⟨x, rfl, hx⟩ := x_v_i hu h2
    have h1 := Nat.eq_of_beq_eq_true h1
    exact Or.inr ⟨by omega, x, rfl, Int.le_trans (x_ile_ok.mp h3) (x_iv_ok g.2.1 hx).1, x_ub_ok g 3 hx h4⟩
/-- a method's short story, reckoned -/
def x_chk (iv : xB) (tab : List xU) (ks : List (Nat × xK)) (n : Nat) (u : xU) : Bool := match x_go iv tab ks u.2.2.2.1 n u.2.1 u.1 u.2.2.1 [] with
  | none => false
  | some outs => outs.all (x_resok u.2.2.2.2)
theorem x_chk_ok {iv : xB} {tab : List xU} {ks : List (Nat × xK)} {n : Nat} {u : xU} (ht : ∀ u ∈ tab, x_uok iv u) (h : x_chk iv tab ks n u = true) : x_uok iv u := by
  intro Ln xs e M Vs hJ hv
  unfold x_chk at h
  split at h
  next => cases h
  next outs ho =>
    obtain ⟨mt, hm, q⟩ := x_con (Ln := Ln) (e := e) (xs := xs) ht ho hJ hv (fun e he => by cases he)
    refine ⟨mt, hm, aw_q q ?_⟩
    rintro v M' ⟨h1, h2, o, ho, r', -, h4, h5⟩
    exact ⟨h1, h2, x_resok_ok h4 h5 (List.all_eq_true.mp h o ho)⟩
theorem x_tab {iv : xB} {tab : List xU} {u : xU} (hu : x_uok iv u) (ht : ∀ u ∈ tab, x_uok iv u) : ∀ v ∈ u :: tab, x_uok iv v := by
  intro v hv
  rcases List.mem_cons.mp hv with rfl | hv
  · exact hu
  · exact ht v hv
/-- cells that hold in the end what stood elsewhere in the beginning (name n), or a number -/
def x_cpy (l : List (Nat × Nat × Nat)) (o : xO) : Bool := l.all (fun e => Nat.blt e.1 1000 && match x_cl o.2.2.2.2 e.1 e.2.1 with
  | some a => Nat.beq a.1 1 && Nat.beq a.2.1 e.2.2
  | none => false)
theorem x_cpy_ok {l : List (Nat × Nat × Nat)} {o : xO} {r0 r : List Int32} {M : aM} (g : x_gs r o.2 M) (hx : x_ex r0 r) (h : x_cpy l o = true) : ∀ e ∈ l, ∀ x, r0[e.2.2]? = some x → M e.1 e.2.1 = x := by
  intro e he x hr
  have := List.all_eq_true.mp h e he
  rw [Bool.and_eq_true] at this
  obtain ⟨hlt, this⟩ := this
  have hlt : e.1 + 1 ≤ 1000 := Nat.le_of_ble_eq_true hlt
  split at this
  next a ha =>
    rw [Bool.and_eq_true] at this
    have e1 := Nat.eq_of_beq_eq_true this.1
    have e2 := Nat.eq_of_beq_eq_true this.2
    have h1 := x_cl_ok (by omega) g.2.2.2 ha
    obtain ⟨a1, a2, a3⟩ := a
    simp only at e1 e2
    subst e1
    subst e2
    have h2 : r[e.2.2]? = some (M e.1 e.2.1) := h1
    rw [x_ex_at hx hr] at h2
    exact (Option.some.inj h2).symm
  next => cases this
def x_num0 (l : List (Nat × Nat × Int)) (o : xO) : Bool := l.all (fun e => Nat.blt e.1 1000 && match x_cl o.2.2.2.2 e.1 e.2.1 with
  | some a => x_isI a && x_ile e.2.2 (x_iv o.2.2.1 a).1 && x_ile (x_iv o.2.2.1 a).2 e.2.2
  | none => false)
theorem x_num0_ok {l : List (Nat × Nat × Int)} {o : xO} {r : List Int32} {M : aM} (g : x_gs r o.2 M) (h : x_num0 l o = true) : ∀ e ∈ l, (M e.1 e.2.1).toInt = e.2.2 := by
  intro e he
  have := List.all_eq_true.mp h e he
  rw [Bool.and_eq_true] at this
  obtain ⟨hlt, this⟩ := this
  have hlt : e.1 + 1 ≤ 1000 := Nat.le_of_ble_eq_true hlt
  split at this
  next a ha =>
    simp only [Bool.and_eq_true] at this
    have h1 := x_cl_ok (by omega) g.2.2.2 ha
    obtain ⟨b1, b2⟩ := x_iv_ok g.2.1 h1
    have h2 := x_ile_ok.mp this.1.2
    have h3 := x_ile_ok.mp this.2
    omega
  next => cases this
