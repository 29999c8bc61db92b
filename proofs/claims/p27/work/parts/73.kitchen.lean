/-! an order told: nothing twice -/
theorem h_eo (M : aM) {p : Nat} (hp : p < 8) : h_o M 0 p = M 70 p := by
  unfold h_o h_cell
  rw [if_pos rfl, if_pos hp]
theorem h_app {M : aM} (hJ : x_J x_B M) (hD : h_D1 M 0) {t : Int32} (h7 : (M 61 10).toInt ≤ 7) (hn : ∀ k : Nat, (k : Int) < (M 61 10).toInt → M 70 k ≠ t) : h_D1 (a_up (a_up M 70 (M 61 10).toInt.toNat t) 61 10 (M 61 10 + Int32.ofInt 1)) 0 := by
  have hsz := h_sz hJ
  have hinc := h_inc (p := M 61 10) rfl (by omega)
  intro i j hij hj
  have hj : (j : Int) < (M 61 10 + Int32.ofInt 1).toInt := hj
  have e : ∀ p, p < 8 → h_o (a_up (a_up M 70 (M 61 10).toInt.toNat t) 61 10 (M 61 10 + Int32.ofInt 1)) 0 p = if p = (M 61 10).toInt.toNat then t else M 70 p := by
    intro p hp
    rw [h_eo _ hp, a_up_ap, if_neg (by omega), a_up_ap]
    by_cases h : p = (M 61 10).toInt.toNat
    · rw [if_pos ⟨rfl, h⟩, if_pos h]
    · rw [if_neg (fun q => h q.2), if_neg h]
  rw [e i (by omega), e j (by omega), if_neg (by omega)]
  by_cases hjs : j = (M 61 10).toInt.toNat
  · rw [if_pos hjs]
    exact hn i (by omega)
  · rw [if_neg hjs, ← h_eo M (by omega), ← h_eo M (by omega)]
    exact hD i j hij (by show (j : Int) < (M 61 10).toInt; omega)
def h_wco : xW := [(61, 10, 12), (70, 0, 8)]
theorem h_co_loop {Ln fr : Nat} {xs : Nat → Int32} {Mb : aM} {kk : Int32} (hk0 : 0 ≤ kk.toInt) (hk : kk.toInt ≤ 47) {Q : Option Value → aM → Prop} (hQ : ∀ (M : aM) (x : Int32), x_J x_B M → x_F h_wco Mb M → (x = 0 ∨ (x = 1 ∧ h_D1 M 0)) → Q (some (.int x)) M) : ∀ (m : Nat) (M : aM) (i : Int32) (v3 : Value), x_J x_B M → x_F h_wco Mb M → h_D1 M 0 → 0 ≤ i.toInt → (96 - i.toInt).toNat = m → i.toInt ≤ 96 → aw (wA, Ln, xs) (fr + 1) a_e166.2.1 17 [.ref 61, .int kk, .int i, v3] [] M Q := by
  intro m
  induction m with
  | zero =>
    intro M i v3 hJ hF hD hi hm hi2
    have htl := (hJ (76, 0, 48, 0, 96) (by decide +kernel) kk.toInt.toNat (by simp only; omega) (by simp only; omega)).2
    simp only at htl
    refine aw_e rfl rfl rfl ?_
    refine aw_e rfl rfl rfl ?_
    refine aw_e rfl rfl rfl ?_
    refine aw_e rfl rfl rfl ?_
    refine aw_ild (i := 76) rfl rfl rfl (by decide) hk0 (show kk.toInt < ((48 : Nat) : Int) by omega) ?_
    refine aw_i2t rfl (h_ge.mpr (by omega)) ?_
    refine aw_e rfl rfl rfl ?_
    exact aw_ri rfl (Or.inr (by decide)) (hQ M _ hJ hF (Or.inr ⟨by decide, hD⟩))
  | succ m ih =>
    intro M i v3 hJ hF hD hi hm hi2
    have htl := (hJ (76, 0, 48, 0, 96) (by decide +kernel) kk.toInt.toNat (by simp only; omega) (by simp only; omega)).2
    simp only at htl
    refine aw_e rfl rfl rfl ?_
    refine aw_e rfl rfl rfl ?_
    refine aw_e rfl rfl rfl ?_
    refine aw_e rfl rfl rfl ?_
    refine aw_ild (i := 76) rfl rfl rfl (by decide) hk0 (show kk.toInt < ((48 : Nat) : Int) by omega) ?_
    refine aw_i2 rfl (fun _ => ?_) (fun hlt => ?_)
    · refine aw_e rfl rfl rfl ?_
      exact aw_ri rfl (Or.inr (by decide)) (hQ M _ hJ hF (Or.inr ⟨by decide, hD⟩))
    have hlt := h_gef.mp hlt
    refine aw_e rfl rfl rfl ?_
    refine aw_e rfl rfl rfl ?_
    refine aw_e rfl rfl rfl ?_
    refine aw_ild (i := 71) rfl rfl rfl (by decide) hi (show i.toInt < ((96 : Nat) : Int) by omega) ?_
    refine aw_e rfl rfl rfl ?_
    refine aw_e rfl rfl rfl ?_
    refine aw_gen2 (P := fun _ => True) trivial (fun t _ => ?_)
    refine aw_e rfl rfl rfl ?_
    refine aw_e rfl rfl rfl ?_
    refine aw_e rfl rfl rfl ?_
    refine aw_cm2 (k := 0) rfl rfl (by decide) rfl (h_isThing (w := (wA, Ln, xs)) (fun _ => rfl) t) rfl (fun v M1 hu => ?_)
    obtain ⟨rfl, x, rfl, h⟩ := hu
    have hno : aw (wA, Ln, xs) (fr + 1) a_e166.2.1 53 [.ref 61, .int kk, .int i, .int t] [] M1 Q := by
      refine aw_e rfl rfl rfl ?_
      exact aw_ri rfl (Or.inr (by decide)) (hQ M1 _ hJ hF (Or.inl (by decide)))
    rcases h with ⟨rfl, t0, t1⟩ | ⟨rfl, -⟩
    rotate_left
    · exact aw_i1t rfl (by decide) hno
    have hth := h_th hJ
    refine aw_i1f rfl (by decide) ?_
    refine aw_e rfl rfl rfl ?_
    refine aw_e rfl rfl rfl ?_
    refine aw_cm2 (k := 0) rfl rfl (by decide) rfl (h_placeOf (w := (wA, Ln, xs)) (fun _ => rfl) hJ t) rfl (fun v M2 hu => ?_)
    obtain ⟨rfl, x, rfl, h⟩ := hu
    rcases h with ⟨x1, -, -⟩ | ⟨x1, hn⟩
    · exact aw_i1f rfl (q1_lt_f (by omega)) hno
    have h7 := h_full hJ hD t0 (by omega) hn
    have hsz := h_sz hJ
    have hinc := h_inc (p := M2 61 10) rfl (by omega)
    have hii := h_inc (p := i) rfl (by omega)
    refine aw_i1t rfl (q1_lt_t (by omega)) ?_
    refine aw_e rfl rfl rfl ?_
    refine aw_e rfl rfl rfl ?_
    refine aw_e rfl rfl rfl ?_
    refine aw_e rfl rfl rfl ?_
    refine aw_e rfl rfl rfl ?_
    refine aw_ist (i := 70) rfl rfl rfl hsz.1 (show (M2 61 10).toInt < ((8 : Nat) : Int) by omega) ?_
    have hJ2 : x_J x_B (a_up M2 70 (M2 61 10).toInt.toNat t) := h_JupA 0 7 hJ (by decide +kernel) t0 (by omega)
    refine aw_e rfl rfl rfl ?_
    refine aw_e rfl rfl rfl ?_
    refine aw_e rfl rfl rfl ?_
    refine aw_e rfl rfl rfl ?_
    refine aw_e rfl rfl rfl ?_
    refine aw_e rfl rfl rfl ?_
    refine aw_e rfl rfl rfl ?_
    refine aw_e rfl rfl rfl ?_
    refine ih (a_up (a_up M2 70 (M2 61 10).toInt.toNat t) 61 10 (M2 61 10 + Int32.ofInt 1)) (i + Int32.ofInt 1) _ (h_JupB 0 8 hJ2 (by decide +kernel) (by omega) (by omega)) (h_Fup (h_Fup hF ?_) (by decide +kernel)) (h_app hJ hD h7 hn) (by omega) (by omega) (by omega)
    have hx : (M2 61 10).toInt.toNat < 8 := by omega
    have : ∀ k, k < 8 → x_in h_wco 70 k = true := by decide +kernel
    exact this _ hx
theorem h_co {Ln fr : Nat} {xs : Nat → Int32} {M : aM} (hJ : x_J x_B M) {kk : Int32} (hk0 : 0 ≤ kk.toInt) (hk : kk.toInt ≤ 47) : am (wA, Ln, xs) (fr + 1) 166 [.ref 61, .int kk] M (fun v M' => x_J x_B M' ∧ x_F h_wco M M' ∧ ∃ x : Int32, v = some (.int x) ∧ (x = 0 ∨ (x = 1 ∧ h_D1 M' 0))) := by
  refine ⟨a_e166, rfl, ?_⟩
  have hJ1 : x_J x_B (a_up M 61 10 (Int32.ofInt 0)) := h_JupB 0 0 hJ (by decide +kernel) (by decide) (by decide)
  have hJ2 : x_J x_B (a_up (a_up M 61 10 (Int32.ofInt 0)) 61 11 (Int32.ofInt 0)) := h_JupB 0 0 hJ1 (by decide +kernel) (by decide) (by decide)
  have hfr := hJ (75, 0, 48, 0, 96) (by decide +kernel) kk.toInt.toNat (by simp only; omega) (by simp only; omega)
  simp only at hfr
  refine aw_e rfl rfl rfl ?_
  refine aw_e rfl rfl rfl ?_
  refine aw_e rfl rfl rfl ?_
  refine aw_e rfl rfl rfl ?_
  refine aw_e rfl rfl rfl ?_
  refine aw_e rfl rfl rfl ?_
  refine aw_e rfl rfl rfl ?_
  refine aw_e rfl rfl rfl ?_
  refine aw_e rfl rfl rfl ?_
  refine aw_ild (i := 75) rfl rfl rfl (by decide) hk0 (show kk.toInt < ((48 : Nat) : Int) by omega) ?_
  refine aw_e rfl rfl rfl ?_
  refine h_co_loop (Mb := M) hk0 hk (fun M' x a b c => ⟨a, b, x, rfl, c⟩) _ (a_up (a_up M 61 10 (Int32.ofInt 0)) 61 11 (Int32.ofInt 0)) (M 75 kk.toInt.toNat) _ hJ2 (h_Fup (h_Fup (h_Frf _ _) (by decide +kernel)) (by decide +kernel)) ?_ hfr.1 rfl hfr.2
  intro i j hij hj
  have hj : (j : Int) < (Int32.ofInt 0).toInt := hj
  have : (Int32.ofInt 0).toInt = 0 := by decide
  omega
/-! a statement comes -/
def h_wcm : xW := [(61, 9, 10), (61, 11, 12), (63, 0, 5), (64, 0, 8), (65, 0, 8), (66, 0, 8), (67, 0, 8), (68, 0, 8), (69, 0, 8)]
def h_kcm : List (Nat × xK) := []
def h_chcm (lo hi : Int) : Bool := match x_run x_B xtM33 h_kcm h_wcm 20000 7 (x_kof h_kcm 167) a_e167.2.1 11 [(0, 61, 0), (1, 0, 0), (1, 1, 0)] [(1, 2, 0)] (3, [(0, 0, 47), (1, 0, 282), (2, lo, hi)], [], []) [] with
  | some outs => outs.all (x_resok (1, 0, 1))
  | none => false
theorem h_chcm_lo : h_chcm (-2147483648) 110 = true := by decide +kernel
theorem h_chcm_hi : h_chcm 112 2147483647 = true := by decide +kernel
def h_wc2 : xW := h_wco ++ h_wcm
theorem h_cm_run {Ln : Nat} {xs : Nat → Int32} {M : aM} (hJ : x_J x_B M) {kk p v : Int32} {lo hi : Int} (hk0 : 0 ≤ kk.toInt) (hk : kk.toInt ≤ 47) (hp0 : 0 ≤ p.toInt) (hp : p.toInt ≤ 282) (h1 : lo ≤ v.toInt) (h2 : v.toInt ≤ hi) (hc : h_chcm lo hi = true) {Q : Option Value → aM → Prop} (hQ : ∀ M' x, x_J x_B M' → x_F h_wcm M M' → (x = 0 ∨ x = 1) → Q (some (.int x)) M') : aw (wA, Ln, xs) 7 a_e167.2.1 11 [.ref 61, .int kk, .int p] [.int v] M Q := by
  unfold h_chcm at hc
  split at hc
  next outs ho =>
    refine x_run_ok xoM33 _ _ _ _ _ _ _ _ _ _ ho Ln xs 0 [kk, p, v] [.ref 61, .int kk, .int p] [.int v] M M Q ⟨rfl, ⟨kk, rfl, rfl⟩, ⟨p, rfl, rfl⟩, trivial⟩ ⟨⟨v, rfl, rfl⟩, trivial⟩ ⟨rfl, ?_, fun e he => (by cases he), fun e he => (by cases he)⟩ ⟨hJ, fun _ _ _ => rfl⟩ (fun l hl => by cases hl) ?_
    · intro e he
      rcases List.mem_cons.mp he with rfl | he
      · exact ⟨kk, rfl, hk0, hk⟩
      · rcases List.mem_cons.mp he with rfl | he
        · exact ⟨p, rfl, hp0, hp⟩
        · rcases List.mem_cons.mp he with rfl | he
          · exact ⟨v, rfl, h1, h2⟩
          · cases he
    · intro o ho r' u M' hx g' G' hr
      rcases x_resok_ok g' hr (List.all_eq_true.mp hc o ho) with ⟨h, -⟩ | ⟨-, x, rfl, x1, x2⟩
      · cases h
      · have x1 : 0 ≤ x.toInt := x1
        have x2 : x.toInt ≤ 1 := x2
        refine hQ M' x G'.1 G'.2 ?_
        rcases (show x.toInt = 0 ∨ x.toInt = 1 by omega) with e | e
        · exact Or.inl (Int32.toInt_inj.mp (by rw [e, Int32.toInt_zero]))
        · exact Or.inr (Int32.toInt_inj.mp (by rw [e, Int32.toInt_one]))
  next => cases hc
theorem h_six : ∀ k, k < 48 → ((Int8.ofInt 6).toInt32 * Int32.ofNat k).toInt = 6 * (k : Int) := by decide +kernel
theorem aw_lk {w : aW} {fr : Nat} {cd : List aR} {pc q nx ax wp t : Nat} {L r : List Value} {M : aM} {Q : Option Value → aM → Prop} {d o : Int} {ps : Array (Int × Int)} {x : Int32} (hf : a_find cd pc = some (q, .lookupswitch d ps, nx, ax, wp)) (ho : Op.lookupswitch.offset ps.toList d x.toInt = o) (ht : (pc : Int) + o = Int.ofNat t) (k : aw w fr cd t L r M Q) : aw w fr cd pc L (.int x :: r) M Q := by
  refine aw_e hf rfl ?_ k
  show a_lsw pc d ps L (.int x :: r) M = _
  unfold a_lsw
  simp only
  rw [ho]
  unfold a_jmp
  rw [ht]
theorem h_cm {Ln : Nat} {xs : Nat → Int32} {M : aM} (hJ : x_J x_B M) (hD : h_D1 M 0) {kk : Int32} (hk0 : 0 ≤ kk.toInt) (hk : kk.toInt ≤ 47) : am (wA, Ln, xs) 7 167 [.ref 61, .int kk] M (fun v M' => x_J x_B M' ∧ x_F h_wc2 M M' ∧ ∃ x : Int32, v = some (.int x) ∧ (x = 0 ∨ (x = 1 ∧ h_D1 M' 0))) := by
  refine ⟨a_e167, rfl, ?_⟩
  have ek : kk = Int32.ofNat kk.toInt.toNat := Int32.toInt_inj.mp (by rw [Int32.toInt_ofNat_of_lt (by omega)]; omega)
  have e6 : ((Int8.ofInt 6).toInt32 * kk).toInt = 6 * kk.toInt := by
    have := h_six kk.toInt.toNat (by omega)
    rw [← ek] at this
    omega
  refine aw_e rfl rfl rfl ?_
  refine aw_e rfl rfl rfl ?_
  refine aw_e rfl rfl rfl ?_
  refine aw_gen2 (P := fun p => 0 ≤ p.toInt ∧ p.toInt ≤ 282) ⟨by rw [e6]; omega, by rw [e6]; omega⟩ (fun p hp => ?_)
  refine aw_e rfl rfl rfl ?_
  refine aw_e rfl rfl rfl ?_
  refine aw_e rfl rfl rfl ?_
  refine aw_e rfl rfl rfl ?_
  refine aw_ild (i := 72) rfl rfl rfl (by decide) hk0 (show kk.toInt < ((48 : Nat) : Int) by omega) ?_
  have fin : ∀ (M' : aM) (x : Int32), x_J x_B M' → x_F h_wcm M M' → (x = 0 ∨ x = 1) → x_J x_B M' ∧ x_F h_wc2 M M' ∧ ∃ y : Int32, some (Value.int x) = some (.int y) ∧ (y = 0 ∨ (y = 1 ∧ h_D1 M' 0)) := by
    intro M' x h1 h2 h3
    refine ⟨h1, h_Fle h2 (by decide +kernel), x, rfl, ?_⟩
    rcases h3 with h3 | h3
    · exact Or.inl h3
    · refine Or.inr ⟨h3, ?_⟩
      rcases h_frm_ok (us := [1, 2, 3, 4, 5, 6, 7, 8, 9]) h2 (by decide +kernel) (show 0 < 10 by decide) with h | h
      · simp at h
      · exact h_D_fr (by decide) h1 h hD
  by_cases h1 : (M 72 kk.toInt.toNat).toInt ≤ 110
  · exact h_cm_run hJ hk0 hk hp.1 hp.2 (by have := x_mn_le (M 72 kk.toInt.toNat); rw [x_mn_e] at this; exact this) h1 h_chcm_lo fin
  by_cases h2 : 112 ≤ (M 72 kk.toInt.toNat).toInt
  · exact h_cm_run hJ hk0 hk hp.1 hp.2 h2 (by have := x_le_mx (M 72 kk.toInt.toNat); rw [x_mx_e] at this; exact this) h_chcm_hi fin
  have e : M 72 kk.toInt.toNat = Int32.ofNat 111 := Int32.toInt_inj.mp (by
    have : (Int32.ofNat 111).toInt = 111 := by decide
    rw [this]
    omega)
  rw [e]
  refine aw_lk (t := 115) rfl (o := 104) (by decide +kernel) (by decide) ?_
  refine aw_e rfl rfl rfl ?_
  refine aw_e rfl rfl rfl ?_
  refine aw_cm2 (fr := 6) (k := 0) rfl rfl (by decide) rfl (h_co (fr := 5) hJ hk0 hk) rfl (fun v M1 hu => ?_)
  obtain ⟨h3, h4, x, rfl, h5⟩ := hu
  refine aw_ri rfl (Or.inr ?_) ⟨h3, h_Fle h4 (by decide +kernel), x, rfl, h5⟩
  rcases h5 with rfl | ⟨rfl, -⟩
  · exact Or.inl rfl
  · exact Or.inr rfl
/-! a statement read: it has two letters at least -/
def x_up : Nat → xS → Nat → xV → Int → Bool
  | 0, _, _, _, _ => false
  | f + 1, S, n, b, k => x_ile (x_lk S.2.1 n).2 ((x_iv S.2.1 b).1 + k) || (Nat.beq b.1 1 && Nat.beq b.2.1 n && x_ile 0 k) || S.2.2.1.any (fun d => Nat.beq d.1 n && Nat.blt n d.2.1 && x_up f S d.2.1 b (k - d.2.2))
theorem x_up_ok {r : List Int32} {S : xS} {M : aM} (g : x_gs r S M) {b : xV} {y : Int32} (hy : x_i r b y) : ∀ (f : Nat) {n : Nat} {k : Int} {x : Int32}, r[n]? = some x → x_up f S n b k = true → x.toInt ≤ y.toInt + k
  | 0, _, _, _, _, h => by cases h
  | f + 1, n, k, x, hx, h => by
    unfold x_up at h
    rw [Bool.or_eq_true, Bool.or_eq_true] at h
    rcases h with (h | h) | h
    · have h1 := (x_lk_ok hx g.2.1).2
      have h2 := (x_iv_ok g.2.1 hy).1
      have h3 := x_ile_ok.mp h
      omega
    · simp only [Bool.and_eq_true] at h
      obtain ⟨⟨h1, h2⟩, h3⟩ := h
      have e1 := Nat.eq_of_beq_eq_true h1
      have e2 := Nat.eq_of_beq_eq_true h2
      have e3 := x_ile_ok.mp h3
      clear h1 h2 h3
      obtain ⟨b1, b2, b3⟩ := b
      simp only at e1 e2
      subst e1
      subst e2
      have hy : r[b2]? = some y := hy
      rw [hx] at hy
      cases hy
      omega
    · obtain ⟨d, hd, h⟩ := List.any_eq_true.mp h
      simp only [Bool.and_eq_true] at h
      obtain ⟨x1, y1, g1, g2, g3⟩ := g.2.2.1 d hd
      rw [Nat.eq_of_beq_eq_true h.1.1, hx] at g1
      cases g1
      have := x_up_ok g hy f g2 h.2
      omega
def h_wst : xW := [(61, 19, 20), (72, 0, 48), (73, 0, 48), (74, 0, 288), (75, 0, 48), (76, 0, 48)]
def h_kst : List (Nat × xK) := [(163, [(13, [], [(61, 19, 1, 96)], [(61, 18, 19), (61, 20, 21)], [], 0, true)], [], [], [])]
def h_pst : List (Nat × Nat × Int × Int) := [(61, 20, 0, 47), (61, 19, 0, 96), (61, 18, 0, 96)]
def h_chst : Bool := match x_go x_B xtM33 h_kst h_wst 20000 7 164 [(0, 61, 0, 0)] h_pst with
  | some outs => outs.all (fun o => x_resok (1, 0, 1) o && (x_resok (1, 0, 0) o || (match x_cl o.2.2.2.2 61 19 with
    | some a => x_isI a && x_up 30 o.2 1 a (-2)
    | none => false)))
  | none => false
theorem h_chst_ok : h_chst = true := by decide +kernel
theorem h_st {Ln : Nat} {xs : Nat → Int32} {M : aM} (hJ : x_J x_B M) (h47 : (M 61 20).toInt ≤ 47) : am (wA, Ln, xs) 7 164 [.ref 61] M (fun v M' => x_J x_B M' ∧ x_F h_wst M M' ∧ ∃ x : Int32, v = some (.int x) ∧ (x = 0 ∨ (x = 1 ∧ (M 61 19).toInt + 2 ≤ (M' 61 19).toInt))) := by
  have hc := h_chst_ok
  unfold h_chst at hc
  split at hc
  next outs ho =>
    obtain ⟨mt, hm, q⟩ := x_con (Ln := Ln) (e := 0) (xs := xs) (Vs := [.ref 61]) xoM33 ho hJ ⟨Or.inl ⟨rfl, rfl⟩, trivial⟩ (by
      intro q hq
      rcases List.mem_cons.mp hq with rfl | hq
      · exact ⟨by decide, (hJ (61, 20, 21, 0, 48) (by decide +kernel) 20 (by decide) (by decide)).1, h47⟩
      · rcases List.mem_cons.mp hq with rfl | hq
        · exact ⟨by decide, hJ (61, 19, 20, 0, 96) (by decide +kernel) 19 (by decide) (by decide)⟩
        · rcases List.mem_cons.mp hq with rfl | hq
          · exact ⟨by decide, hJ (61, 18, 19, 0, 96) (by decide +kernel) 18 (by decide) (by decide)⟩
          · cases hq)
    refine ⟨mt, hm, aw_q q ?_⟩
    rintro v M' ⟨h1, h2, o, ho, r', hx, h4, h5⟩
    have hb := List.all_eq_true.mp hc o ho
    rw [Bool.and_eq_true, Bool.or_eq_true] at hb
    refine ⟨h1, h2, ?_⟩
    rcases x_resok_ok h4 h5 hb.1 with ⟨h, -⟩ | ⟨-, x, rfl, x1, x2⟩
    · cases h
    have x1 : 0 ≤ x.toInt := x1
    have x2 : x.toInt ≤ 1 := x2
    refine ⟨x, rfl, ?_⟩
    rcases hb.2 with hz | hu
    · rcases x_resok_ok h4 h5 hz with ⟨h, -⟩ | ⟨-, x', hxx, y1, y2⟩
      · cases h
      · cases hxx
        have y1 : 0 ≤ x.toInt := y1
        have y2 : x.toInt ≤ 0 := y2
        exact Or.inl (Int32.toInt_inj.mp (by rw [Int32.toInt_zero]; omega))
    · split at hu
      next a ha =>
        rw [Bool.and_eq_true] at hu
        have h6 := x_cl_ok (by decide) h4.2.2.2 ha
        have h7 : r'[1]? = some (M 61 19) := x_ex_at hx rfl
        have := x_up_ok h4 h6 30 h7 hu.2
        rcases (show x.toInt = 0 ∨ x.toInt = 1 by omega) with e | e
        · exact Or.inl (Int32.toInt_inj.mp (by rw [e, Int32.toInt_zero]))
        · exact Or.inr ⟨Int32.toInt_inj.mp (by rw [e, Int32.toInt_one]), by omega⟩
      next => cases hu
  next => cases hc
/-! kitchen -/
def h_wk1 : xW := [(61, 18, 21), (72, 0, 48), (73, 0, 48), (74, 0, 288), (75, 0, 48), (76, 0, 48)]
def h_wki : xW := [(61, 9, 12), (61, 18, 21), (61, 23, 25), (61, 28, 29), (63, 0, 5), (64, 0, 8), (65, 0, 8), (66, 0, 8), (67, 0, 8), (68, 0, 8), (69, 0, 8), (70, 0, 8), (72, 0, 48), (73, 0, 48), (74, 0, 288), (75, 0, 48), (76, 0, 48), (77, 75, 139)]
theorem h_ki1 {Ln : Nat} {xs : Nat → Int32} {Mb : aM} {v2 : Value} {Q : Option Value → aM → Prop} (hgo : ∀ (M : aM) (g : Int32), x_J x_B M → x_F h_wk1 Mb M → aw (wA, Ln, xs) 8 a_e168.2.1 60 [.ref 61, .int g, v2] [] M Q) : ∀ (m : Nat) (M : aM) (g : Int32), x_J x_B M → x_F h_wk1 Mb M → (g = 0 ∨ (2 * (M 61 20).toInt ≤ (M 61 19).toInt ∧ (96 - (M 61 19).toInt).toNat < m)) → aw (wA, Ln, xs) 8 a_e168.2.1 12 [.ref 61, .int g, v2] [] M Q := by
  have stop : ∀ (M : aM), x_J x_B M → x_F h_wk1 Mb M → aw (wA, Ln, xs) 8 a_e168.2.1 12 [.ref 61, .int 0, v2] [] M Q := by
    intro M hJ hF
    refine aw_e rfl rfl rfl ?_
    refine aw_i1t rfl (by decide) ?_
    exact hgo M 0 hJ hF
  intro m
  induction m with
  | zero =>
    intro M g hJ hF h
    rcases h with rfl | ⟨-, h⟩
    · exact stop M hJ hF
    · omega
  | succ m ih =>
    intro M g hJ hF h
    rcases h with rfl | ⟨h1, h2⟩
    · exact stop M hJ hF
    have hst := hJ (61, 20, 21, 0, 48) (by decide +kernel) 20 (by decide) (by decide)
    have hat := hJ (61, 19, 20, 0, 96) (by decide +kernel) 19 (by decide) (by decide)
    have hta := hJ (61, 18, 19, 0, 96) (by decide +kernel) 18 (by decide) (by decide)
    simp only at hst hat hta
    have go : (M 61 20).toInt ≤ 47 → aw (wA, Ln, xs) 8 a_e168.2.1 34 [.ref 61, .int g, v2] [] M Q := by
      intro h47
      refine aw_e rfl rfl rfl ?_
      refine aw_cm2 (fr := 7) (k := 0) rfl rfl (by decide) rfl (h_st hJ h47) rfl (fun v M1 hu => ?_)
      obtain ⟨hJ1, hF1, x, rfl, hx⟩ := hu
      have e20 : M1 61 20 = M 61 20 := hF1 61 20 (by decide +kernel)
      have hF2 : x_F h_wk1 Mb M1 := h_Ftr hF hF1 (by decide +kernel) (by decide +kernel)
      refine aw_e rfl rfl rfl ?_
      refine aw_e rfl rfl rfl ?_
      refine aw_e rfl rfl rfl ?_
      refine aw_e rfl rfl rfl ?_
      refine aw_e rfl rfl rfl ?_
      rcases hx with rfl | ⟨rfl, hx⟩
      · refine aw_i1t rfl (by decide) ?_
        refine aw_e rfl rfl rfl ?_
        refine aw_e rfl rfl rfl ?_
        refine aw_e rfl rfl rfl ?_
        refine aw_e rfl rfl rfl ?_
        have e : (M1 61 20 + Int32.ofInt 0).toInt = (M1 61 20).toInt := by
          have : Int32.ofInt 0 = 0 := by decide
          rw [this, Int32.add_zero]
        exact ih _ 0 (h_JupB 0 48 hJ1 (by decide +kernel) (show 0 ≤ (M1 61 20 + Int32.ofInt 0).toInt by rw [e, e20]; omega) (show (M1 61 20 + Int32.ofInt 0).toInt ≤ 48 by rw [e, e20]; omega)) (h_Fup hF2 (by decide +kernel)) (Or.inl rfl)
      · refine aw_i1f rfl (by decide) ?_
        refine aw_e rfl rfl rfl ?_
        refine aw_e rfl rfl rfl ?_
        refine aw_e rfl rfl rfl ?_
        refine aw_e rfl rfl rfl ?_
        refine aw_e rfl rfl rfl ?_
        have hinc := h_inc (p := M1 61 20) rfl (by rw [e20]; omega)
        have hat1 := (hJ1 (61, 19, 20, 0, 96) (by decide +kernel) 19 (by decide) (by decide)).2
        simp only at hat1
        refine ih (a_up M1 61 20 (M1 61 20 + Int32.ofInt 1)) 1 (h_JupB 0 48 hJ1 (by decide +kernel) (by rw [e20] at hinc ⊢; omega) (by rw [e20] at hinc ⊢; omega)) (h_Fup hF2 (by decide +kernel)) (Or.inr ⟨?_, ?_⟩)
        · show 2 * (M1 61 20 + Int32.ofInt 1).toInt ≤ (M1 61 19).toInt
          rw [e20] at hinc ⊢
          omega
        · show (96 - (M1 61 19).toInt).toNat < m
          omega
    have rest : aw (wA, Ln, xs) 8 a_e168.2.1 16 [.ref 61, .int g, v2] [] M Q := by
      refine aw_e rfl rfl rfl ?_
      refine aw_e rfl rfl rfl ?_
      refine aw_e rfl rfl rfl ?_
      refine aw_e rfl rfl rfl ?_
      by_cases hlt : (M 61 19).toInt < (M 61 18).toInt
      · refine aw_i2t rfl (decide_eq_true (Int32.lt_iff_toInt_lt.mpr hlt)) ?_
        exact go (by omega)
      · refine aw_i2f rfl (decide_eq_false (fun q => hlt (Int32.lt_iff_toInt_lt.mp q))) ?_
        refine aw_e rfl rfl rfl ?_
        refine aw_e rfl rfl rfl ?_
        by_cases hz : (M 61 20).toInt = 0
        · refine aw_i1f rfl (q1_ne_f (show ¬ ¬ (M 61 20).toInt = 0 by omega)) ?_
          exact go (by omega)
        · refine aw_i1t rfl (q1_ne_t (show ¬ (M 61 20).toInt = 0 from hz)) ?_
          exact hgo M g hJ hF
    refine aw_e rfl rfl rfl ?_
    by_cases hg : g.toInt = 0
    · refine aw_i1t rfl (q1_eq_t hg) ?_
      exact hgo M g hJ hF
    · exact aw_i1f rfl (q1_eq_f hg) rest
theorem h_ki2 {Ln : Nat} {xs : Nat → Int32} {Mb : aM} {g : Int32} {Q : Option Value → aM → Prop} (hbad : ∀ (M : aM) (k : Int32), x_J x_B M → x_F h_wc2 Mb M → 0 ≤ k.toInt → k.toInt ≤ 47 → aw (wA, Ln, xs) 8 a_e168.2.1 105 [.ref 61, .int g, .int k] [] M Q) (hend : ∀ (M : aM) (k : Int32), x_J x_B M → x_F h_wc2 Mb M → h_D1 M 0 → aw (wA, Ln, xs) 8 a_e168.2.1 128 [.ref 61, .int g, .int k] [] M Q) : ∀ (m : Nat) (M : aM) (k : Int32), x_J x_B M → x_F h_wc2 Mb M → h_D1 M 0 → 0 ≤ k.toInt → (48 - k.toInt).toNat = m → k.toInt ≤ 48 → aw (wA, Ln, xs) 8 a_e168.2.1 86 [.ref 61, .int g, .int k] [] M Q := by
  intro m
  induction m with
  | zero =>
    intro M k hJ hF hD h0 hm h48
    have hst := (hJ (61, 20, 21, 0, 48) (by decide +kernel) 20 (by decide) (by decide)).2
    simp only at hst
    refine aw_e rfl rfl rfl ?_
    refine aw_e rfl rfl rfl ?_
    refine aw_e rfl rfl rfl ?_
    refine aw_i2t rfl (h_ge.mpr (show (M 61 20).toInt ≤ k.toInt by omega)) ?_
    exact hend M k hJ hF hD
  | succ m ih =>
    intro M k hJ hF hD h0 hm h48
    refine aw_e rfl rfl rfl ?_
    refine aw_e rfl rfl rfl ?_
    refine aw_e rfl rfl rfl ?_
    refine aw_i2 rfl (fun _ => hend M k hJ hF hD) (fun hlt => ?_)
    have hinc := h_inc (p := k) rfl (by omega)
    refine aw_e rfl rfl rfl ?_
    refine aw_e rfl rfl rfl ?_
    refine aw_cm2 (fr := 7) (k := 0) rfl rfl (by decide) rfl (h_cm hJ hD h0 (by omega)) rfl (fun v M1 hu => ?_)
    obtain ⟨hJ1, hF1, x, rfl, hx⟩ := hu
    have hF2 : x_F h_wc2 Mb M1 := h_Ftr hF hF1 (by decide +kernel) (by decide +kernel)
    rcases hx with rfl | ⟨rfl, hD1⟩
    · refine aw_i1t rfl (by decide) ?_
      exact hbad M1 k hJ1 hF2 h0 (by omega)
    · refine aw_i1f rfl (by decide) ?_
      refine aw_e rfl rfl rfl ?_
      refine aw_e rfl rfl rfl ?_
      refine aw_e rfl rfl rfl ?_
      exact ih M1 (k + Int32.ofInt 1) hJ1 hF2 hD1 (by omega) (by omega) (by omega)
theorem hm_kitchen0 {Ln : Nat} {xs : Nat → Int32} {M : aM} (hJ : x_J x_B M) (hD : h_DM M) : am (wA, Ln, xs) 8 168 [.ref 61] M (fun v M' => x_J x_B M' ∧ h_DM M' ∧ x_F h_wki M M' ∧ (M' 61 18).toInt = 0 ∧ ∃ x, v = some (.int x)) := by
  refine ⟨a_e168, rfl, ?_⟩
  have z0 : (Int32.ofInt 0).toInt = 0 := by decide
  have hJ1 : x_J x_B (a_up M 61 19 (Int32.ofInt 0)) := h_JupB 0 0 hJ (by decide +kernel) (by decide) (by decide)
  have hJ2 : x_J x_B (a_up (a_up M 61 19 (Int32.ofInt 0)) 61 20 (Int32.ofInt 0)) := h_JupB 0 0 hJ1 (by decide +kernel) (by decide) (by decide)
  refine aw_e rfl rfl rfl ?_
  refine aw_e rfl rfl rfl ?_
  refine aw_e rfl rfl rfl ?_
  refine aw_e rfl rfl rfl ?_
  refine aw_e rfl rfl rfl ?_
  refine aw_e rfl rfl rfl ?_
  refine aw_e rfl rfl rfl ?_
  refine aw_e rfl rfl rfl ?_
  refine h_ki1 (Mb := M) (fun M1 g hJ1 hF1 => ?_) 97 (a_up (a_up M 61 19 (Int32.ofInt 0)) 61 20 (Int32.ofInt 0)) _ hJ2 (h_Fup (h_Fup (h_Frf _ _) (by decide +kernel)) (by decide +kernel)) (Or.inr ⟨(show 2 * (Int32.ofInt 0).toInt ≤ (Int32.ofInt 0).toInt by decide), (show (96 - (Int32.ofInt 0).toInt).toNat < 97 by decide)⟩)
  have hJ3 : x_J x_B (a_up M1 61 18 (Int32.ofInt 0)) := h_JupB 0 0 hJ1 (by decide +kernel) (by decide) (by decide)
  have hF3 : x_F h_wk1 M (a_up M1 61 18 (Int32.ofInt 0)) := h_Fup hF1 (by decide +kernel)
  have keep : ∀ M' : aM, x_J x_B M' → x_F h_wk1 M M' → h_DM M' := fun M' hJ' hF' u hu => by
    rcases h_frm_ok (us := []) hF' (by decide +kernel) hu with h | h
    · cases h
    · exact h_D_fr hu hJ' h (hD u hu)
  refine aw_e rfl rfl rfl ?_
  refine aw_e rfl rfl rfl ?_
  refine aw_e rfl rfl rfl ?_
  refine aw_e rfl rfl rfl ?_
  refine aw_i1 rfl (fun _ => ?_) (fun _ => ?_)
  rotate_left
  · refine aw_e rfl rfl rfl ?_
    refine aw_e rfl rfl rfl ?_
    refine aw_e rfl rfl rfl ?_
    refine aw_e rfl rfl rfl ?_
    exact aw_ri rfl (Or.inl rfl) ⟨hJ3, keep _ hJ3 hF3, h_Fle hF3 (by decide +kernel), (show (Int32.ofInt 0).toInt = 0 by decide), _, rfl⟩
  have hD3 := keep _ hJ3 hF3
  refine aw_e rfl rfl rfl ?_
  refine aw_e rfl rfl rfl ?_
  refine aw_e rfl rfl rfl ?_
  refine aw_gen3 (P := fun N => x_J x_B N ∧ x_F h_wk1 M N ∧ h_DM N ∧ (N 61 18).toInt = 0) ⟨hJ3, hF3, hD3, (show (Int32.ofInt 0).toInt = 0 by decide)⟩ (fun M3 hM3 => ?_)
  obtain ⟨hJ3, hF3, hD3, e18⟩ := hM3
  refine aw_cm2 (fr := 7) (k := 0) rfl rfl (by decide) rfl (h_pass1 (e := 6) hJ3 (by decide) (by decide)) rfl (fun v M4 hu => ?_)
  obtain ⟨rfl, hJ4, hF4, e9, e10, e137, e128⟩ := hu
  have hD4 : h_D1 M4 0 := by
    refine h_D_cp (u' := 0) (by decide) hJ4 (fun p hp => ?_) ?_ (hD3 0 (by decide))
    · rw [h_eo _ hp, h_eo _ hp]
      have hq : ∀ p, p < 8 → x_in h_wp1 70 p = false := by decide +kernel
      exact hF4 70 p (hq p hp)
    · show (M4 61 10).toInt ≤ (M3 61 10).toInt
      rw [e10]
      exact Int.le_refl _
  refine aw_e rfl rfl rfl ?_
  refine aw_e rfl rfl rfl ?_
  have hF34 : x_F h_wki M M4 := h_Ftr hF3 hF4 (by decide +kernel) (by decide +kernel)
  have e184 : (M4 61 18).toInt = 0 := by
    rw [hF4 61 18 (by decide +kernel)]
    exact e18
  refine h_ki2 (Mb := M4) (fun M5 k hJ5 hF5 k0 k47 => ?_) (fun M5 k hJ5 hF5 hD5 => ?_) 48 M4 _ hJ4 (h_Frf _ _) hD4 (by decide) (by decide) (by decide)
  · refine aw_e rfl rfl rfl ?_
    refine aw_e rfl rfl rfl ?_
    refine aw_e rfl rfl rfl ?_
    refine aw_cm2 (fr := 7) (k := 0) rfl rfl (by decide) rfl (h_pass2 (e := 6) hJ5 (by decide) (by decide)) rfl (fun v M6 hu => ?_)
    obtain ⟨rfl, hJ6, hF6, f10, f70⟩ := hu
    have k137 : M5 77 137 = M3 61 10 := by
      rw [hF5 77 137 (by decide +kernel)]
      exact e137
    have k128 : ∀ p, p < 8 → M5 77 (128 + p) = M3 70 p := fun p hp => by
      have hq : ∀ p, p < 8 → x_in h_wc2 77 (128 + p) = false := by decide +kernel
      rw [hF5 77 (128 + p) (hq p hp)]
      exact e128 p hp
    have hFa : x_F h_wki M M6 := h_Ftr (a := h_wki) (b := h_wp2) (h_Ftr (a := h_wki) (b := h_wc2) hF34 hF5 (by decide +kernel) (by decide +kernel)) hF6 (by decide +kernel) (by decide +kernel)
    have hFb : x_F h_wki M3 M6 := h_Ftr (a := h_wki) (b := h_wp2) (h_Ftr (a := h_wp1) (b := h_wc2) hF4 hF5 (by decide +kernel) (by decide +kernel)) hF6 (by decide +kernel) (by decide +kernel)
    refine aw_e rfl rfl rfl ?_
    refine aw_e rfl rfl rfl ?_
    refine aw_e rfl rfl rfl ?_
    refine aw_e rfl rfl rfl ?_
    refine aw_ild (i := 73) rfl rfl rfl (by decide) k0 (show k.toInt < ((48 : Nat) : Int) by omega) ?_
    refine aw_e rfl rfl rfl ?_
    refine aw_ri rfl (Or.inl rfl) ⟨hJ6, fun u hu => ?_, hFa, ?_, _, rfl⟩
    · rcases h_frm_ok (us := [0]) hFb (by decide +kernel) hu with h | h
      · rw [List.mem_singleton] at h
        subst h
        refine h_D_cp (u' := 0) hu hJ6 (fun p hp => ?_) ?_ (hD3 0 hu)
        · rw [h_eo _ hp, h_eo _ hp, f70 p hp, k128 p hp]
        · show (M6 61 10).toInt ≤ (M3 61 10).toInt
          rw [f10, k137]
          exact Int.le_refl _
      · exact h_D_fr hu hJ6 h (hD3 u hu)
    · rw [hF6 61 18 (by decide +kernel), hF5 61 18 (by decide +kernel)]
      exact e184
  · have hJ6 : x_J x_B (a_up M5 61 28 (Int32.ofInt 0)) := h_JupB 0 0 hJ5 (by decide +kernel) (by decide) (by decide)
    have hF6 : x_F h_wki M3 (a_up M5 61 28 (Int32.ofInt 0)) := h_Fup (h_Ftr (a := h_wp1) (b := h_wc2) hF4 hF5 (by decide +kernel) (by decide +kernel)) (by decide +kernel)
    have hFa : x_F h_wki M (a_up M5 61 28 (Int32.ofInt 0)) := h_Fup (h_Ftr (a := h_wki) (b := h_wc2) hF34 hF5 (by decide +kernel) (by decide +kernel)) (by decide +kernel)
    refine aw_e rfl rfl rfl ?_
    refine aw_e rfl rfl rfl ?_
    refine aw_e rfl rfl rfl ?_
    refine aw_e rfl rfl rfl ?_
    refine aw_e rfl rfl rfl ?_
    refine aw_ri rfl (Or.inl rfl) ⟨hJ6, fun u hu => ?_, hFa, ?_, _, rfl⟩
    · rcases h_frm_ok (us := [0]) hF6 (by decide +kernel) hu with h | h
      · rw [List.mem_singleton] at h
        subst h
        refine h_D_cp (M := M5) (u' := 0) hu hJ6 (fun p hp => ?_) (Int.le_refl _) hD5
        rw [h_eo _ hp, h_eo _ hp]
        rfl
      · exact h_D_fr hu hJ6 h (hD3 u hu)
    · show (M5 61 18).toInt = 0
      rw [hF5 61 18 (by decide +kernel)]
      exact e184
theorem hm_kitchen : h_op 168 [(0, 61, 0, 0)] h_wki := by
  intro Ln xs M Vs hJ hD hv
  match Vs, hv with
  | [v], hv =>
    rcases hv.1 with ⟨-, rfl⟩ | ⟨h, -⟩
    · obtain ⟨mt, hm, q⟩ := hm_kitchen0 (Ln := Ln) (xs := xs) hJ hD
      exact ⟨mt, hm, aw_q q fun v M' h => ⟨h.1, h.2.1, h.2.2.1, h.2.2.2.2⟩⟩
    · exact absurd rfl h
