/-! week: how far apart both are, by the bits of the days -/
theorem am_and {w : aW} {fr id : Nat} {As : List Value} {M : aM} {P R : Option Value → aM → Prop} (h : am w fr id As M P) (g : am w fr id As M R) : am w fr id As M (fun v M' => P v M' ∧ R v M') := by
  obtain ⟨mt, hm, n1, v1, M1, h1, p⟩ := h
  obtain ⟨mt2, hm2, n2, v2, M2, h2, r⟩ := g
  rw [hm] at hm2
  cases hm2
  have e1 := p_more _ _ _ _ _ _ _ _ n2 h1
  have e2 := p_more _ _ _ _ _ _ _ _ n1 h2
  rw [Nat.add_comm n2 n1, e1] at e2
  cases e2
  exact ⟨mt, hm, n1, v1, M1, h1, p, r⟩
def k_s (f : Nat → Int32) (b : Int32) : Nat → Int32
  | 0 => Int32.ofNat 0
  | d + 1 => k_s f b d + (if ((b >>> (Int32.ofNat d &&& 31)) &&& Int32.ofInt 1) = Int32.ofInt 1 then f d else -f d)
def k_g (f : Nat → Int32) (b : Int32) : Int32 := if 0 ≤ k_s f b 7 then k_s f b 7 else 0 - k_s f b 7
theorem k_sb {f : Nat → Int32} (hf : ∀ k, k < 7 → 0 ≤ (f k).toInt ∧ (f k).toInt ≤ 99) (b : Int32) : ∀ d : Nat, d ≤ 7 → -99 * (d : Int) ≤ (k_s f b d).toInt ∧ (k_s f b d).toInt ≤ 99 * (d : Int)
  | 0, _ => by
    have : (k_s f b 0).toInt = 0 := show (Int32.ofNat 0).toInt = 0 by decide
    rw [this]
    decide
  | d + 1, h => by
    have ih := k_sb hf b d (by omega)
    have hd := hf d (by omega)
    have hn : (-f d).toInt = -(f d).toInt := by
      rw [Int32.toInt_neg]
      exact x_bm (by rw [x_mn_e]; omega) (by rw [x_mx_e]; omega)
    unfold k_s
    split
    next =>
      rw [Int32.toInt_add, x_bm (by rw [x_mn_e]; omega) (by rw [x_mx_e]; omega)]
      omega
    next =>
      rw [Int32.toInt_add, hn, x_bm (by rw [x_mn_e]; omega) (by rw [x_mx_e]; omega)]
      omega
theorem k_gb {f : Nat → Int32} (hf : ∀ k, k < 7 → 0 ≤ (f k).toInt ∧ (f k).toInt ≤ 99) (b : Int32) : (k_g f b).toInt ≤ 693 := by
  have h := k_sb hf b 7 (by decide)
  unfold k_g
  split
  next => omega
  next hn =>
    rw [Int32.le_iff_toInt_le, Int32.toInt_zero] at hn
    rw [Int32.toInt_sub, Int32.toInt_zero, x_bm (by rw [x_mn_e]; omega) (by rw [x_mx_e]; omega)]
    omega
/-- the best so far, behind 1, 3 .. 2n + 1 -/
def k_b (f : Nat → Int32) : Nat → Int32
  | 0 => Int32.ofNat 1
  | n + 1 => if k_g f (Int32.ofNat (2 * n + 3)) < k_g f (k_b f n) then Int32.ofNat (2 * n + 3) else k_b f n
theorem k_bn {f : Nat → Int32} : ∀ n : Nat, n ≤ 63 → 1 ≤ (k_b f n).toInt
  | 0, _ => show 1 ≤ (Int32.ofNat 1).toInt by decide
  | n + 1, h => by
    unfold k_b
    split
    next =>
      rw [Int32.toInt_ofNat_of_lt (by omega)]
      omega
    next => exact k_bn n (by omega)
def k_ans (n : Int32) (f : Nat → Int32) (a : Int32) : Int32 := if a.toInt = 0 ∨ a.toInt = 1 then (if n.toInt = 7 then (if a.toInt = 0 then k_b f 63 else k_g f (k_b f 63)) else -3) else -2
theorem k_dn {d : Nat} (h : d < 1000) : (Int32.ofNat d).toInt = (d : Int) := Int32.toInt_ofNat_of_lt (by omega)
theorem k_up {d : Nat} (h : d < 1000) : Int32.ofNat d + Int32.ofInt 1 = Int32.ofNat (d + 1) := Int32.toInt_inj.mp (by
  rw [h_inc rfl (by rw [k_dn h]; omega), k_dn h, Int32.toInt_ofNat_of_lt (show d + 1 < 2 ^ 31 by omega)]
  omega)
theorem k_up2 {d : Nat} (h : d < 1000) : Int32.ofNat d + Int32.ofInt 2 = Int32.ofNat (d + 2) := Int32.toInt_inj.mp (by
  have e2 : (Int32.ofInt 2).toInt = 2 := by decide
  rw [Int32.toInt_add, k_dn h, e2, x_bm (by rw [x_mn_e]; omega) (by rw [x_mx_e]; omega), Int32.toInt_ofNat_of_lt (show d + 2 < 2 ^ 31 by omega)]
  omega)
theorem k_sc {f g : Nat → Int32} (h : ∀ k, k < 7 → f k = g k) (b : Int32) : ∀ d, d ≤ 7 → k_s f b d = k_s g b d
  | 0, _ => rfl
  | d + 1, hd => by
    rw [k_s, k_s, k_sc h b d (by omega), h d (by omega)]
theorem k_gc {f g : Nat → Int32} (h : ∀ k, k < 7 → f k = g k) (b : Int32) : k_g f b = k_g g b := by
  rw [k_g, k_g, k_sc h b 7 (by decide)]
theorem k_bc {f g : Nat → Int32} (h : ∀ k, k < 7 → f k = g k) : ∀ n, k_b f n = k_b g n
  | 0 => rfl
  | n + 1 => by
    rw [k_b, k_b, k_bc h n, k_gc h, k_gc h]
theorem k_ansc {n : Int32} {f g : Nat → Int32} {a : Int32} (h : ∀ k, k < 7 → f k = g k) : k_ans n f a = k_ans n g a := by
  rw [k_ans, k_ans, k_bc h, k_gc h]
/-! the class -/
theorem k_at {Ln fr : Nat} {xs : Nat → Int32} {M : aM} {d : Nat} (hd : d < 7) : am (wA, Ln, xs) fr 110 [.ref 59, .int (Int32.ofNat d)] M (fun v M' => M' = M ∧ v = some (.int (M 59 d))) := by
  have hdn := k_dn (d := d) (by omega)
  refine ⟨a_e110, rfl, ?_⟩
  refine aw_e rfl rfl rfl ?_
  refine aw_e rfl rfl rfl ?_
  refine aw_e rfl rfl rfl ?_
  refine aw_i1f rfl (q1_lt_f (by omega)) ?_
  refine aw_e rfl rfl rfl ?_
  refine aw_e rfl rfl rfl ?_
  refine aw_e rfl rfl rfl ?_
  refine aw_i2f rfl (h_gef.mpr (by rw [hdn]; show (d : Int) < (Int32.ofNat 12).toInt; have : (Int32.ofNat 12).toInt = 12 := by decide
                                   omega)) ?_
  refine aw_e rfl rfl rfl ?_
  refine aw_e rfl rfl rfl ?_
  refine aw_ild (i := 59) rfl rfl rfl (by decide) (by omega) (show (Int32.ofNat d).toInt < ((12 : Nat) : Int) by omega) ?_
  refine aw_e rfl rfl rfl ?_
  refine aw_ri rfl (Or.inl rfl) ⟨rfl, ?_⟩
  rw [hdn, Int.toNat_natCast]
theorem k_in {Ln : Nat} {xs : Nat → Int32} {M : aM} {b : Int32} {Q : Option Value → aM → Prop} (hgo : ∀ x4 x5 : Value, aw (wA, Ln, xs) 7 a_e73.2.1 65 [.ref 53, .ref 59, .int b, .int (k_s (fun k => M 59 k) b 7), x4, x5] [] M Q) : ∀ (m d : Nat) (x5 : Value), d ≤ 7 → 7 - d = m → aw (wA, Ln, xs) 7 a_e73.2.1 23 [.ref 53, .ref 59, .int b, .int (k_s (fun k => M 59 k) b d), .int (Int32.ofNat d), x5] [] M Q := by
  intro m
  induction m with
  | zero =>
    intro d x5 hd hm
    have : d = 7 := by omega
    subst this
    refine aw_e rfl rfl rfl ?_
    refine aw_e rfl rfl rfl ?_
    refine aw_i2t rfl (by decide +kernel) ?_
    exact hgo _ _
  | succ m ih =>
    intro d x5 hd hm
    have hdn := k_dn (d := d) (by omega)
    refine aw_e rfl rfl rfl ?_
    refine aw_e rfl rfl rfl ?_
    refine aw_i2f rfl (h_gef.mpr (by rw [hdn]; have : ((Int8.ofInt 7).toInt32).toInt = 7 := by decide
                                     omega)) ?_
    refine aw_e rfl rfl rfl ?_
    refine aw_e rfl rfl rfl ?_
    refine aw_cm2 (fr := 6) (k := 1) rfl rfl (by decide) rfl (k_at (by omega)) rfl (fun v M1 hu => ?_)
    obtain ⟨rfl, rfl⟩ := hu
    refine aw_e rfl rfl rfl ?_
    refine aw_e rfl rfl rfl ?_
    refine aw_e rfl rfl rfl ?_
    refine aw_e rfl rfl rfl ?_
    refine aw_e rfl rfl rfl ?_
    refine aw_e rfl rfl rfl ?_
    refine aw_e rfl rfl rfl ?_
    refine aw_e rfl rfl rfl ?_
    have nxt := fun x5 => ih (d + 1) x5 (by omega) (by omega)
    rw [← k_up (d := d) (by omega)] at nxt
    refine aw_i2 rfl (fun hne => ?_) (fun heq => ?_)
    · have e : k_s (fun k => M1 59 k) b (d + 1) = k_s (fun k => M1 59 k) b d + -(M1 59 d) := by
        rw [k_s, if_neg (h_net.mp hne)]
      rw [e] at nxt
      refine aw_e rfl rfl rfl ?_
      refine aw_e rfl rfl rfl ?_
      refine aw_e rfl rfl rfl ?_
      refine aw_e rfl rfl rfl ?_
      refine aw_e rfl rfl rfl ?_
      refine aw_e rfl rfl rfl ?_
      exact nxt _
    · have e : k_s (fun k => M1 59 k) b (d + 1) = k_s (fun k => M1 59 k) b d + M1 59 d := by
        rw [k_s, if_pos (h_nef.mp heq)]
      rw [e] at nxt
      refine aw_e rfl rfl rfl ?_
      refine aw_e rfl rfl rfl ?_
      refine aw_e rfl rfl rfl ?_
      refine aw_e rfl rfl rfl ?_
      refine aw_e rfl rfl rfl ?_
      refine aw_e rfl rfl rfl ?_
      exact nxt _
/-- one turn: what is less is kept -/
theorem k_it {Ln : Nat} {xs : Nat → Int32} {M : aM} {n : Nat} (hn : n < 128) {x3 x4 x5 : Value} {Q : Option Value → aM → Prop} (hgo : ∀ (M' : aM) (x3 x4 x5 : Value), (∀ i k, i ≠ 54 → M' i k = M i k) → (M' 54 0, M' 54 1) = (if k_g (fun k => M 59 k) (Int32.ofNat n) < M 54 1 then (Int32.ofNat n, k_g (fun k => M 59 k) (Int32.ofNat n)) else (M 54 0, M 54 1)) → aw (wA, Ln, xs) 7 a_e73.2.1 11 [.ref 53, .ref 59, .int (Int32.ofNat (n + 2)), x3, x4, x5] [] M' Q) : aw (wA, Ln, xs) 7 a_e73.2.1 11 [.ref 53, .ref 59, .int (Int32.ofNat n), x3, x4, x5] [] M Q := by
  have hnn := k_dn (d := n) (by omega)
  refine aw_e rfl rfl rfl ?_
  refine aw_e rfl rfl rfl ?_
  refine aw_i2f rfl (h_gef.mpr (by rw [hnn]; have : ((Int16.ofInt 128).toInt32).toInt = 128 := by decide
                                   omega)) ?_
  refine aw_e rfl rfl rfl ?_
  refine aw_e rfl rfl rfl ?_
  refine aw_e rfl rfl rfl ?_
  refine aw_e rfl rfl rfl ?_
  rw [show Int32.ofInt 0 = Int32.ofNat 0 from by decide]
  refine k_in (fun x4 x5 => ?_) 7 0 _ (by decide) (by decide)
  refine aw_e rfl rfl rfl ?_
  refine aw_e rfl rfl rfl ?_
  refine aw_e rfl rfl rfl ?_
  refine aw_e rfl rfl rfl ?_
  refine aw_m rfl rfl rfl ?_
  refine aw_ci rfl rfl (by decide) rfl rfl ?_
  refine aw_e rfl rfl rfl ?_
  refine aw_e rfl rfl rfl ?_
  refine aw_e rfl rfl rfl ?_
  have hk : (if 0 ≤ k_s (fun k => M 59 k) (Int32.ofNat n) 7 then k_s (fun k => M 59 k) (Int32.ofNat n) 7 else 0 - k_s (fun k => M 59 k) (Int32.ofNat n) 7) = k_g (fun k => M 59 k) (Int32.ofNat n) := rfl
  refine aw_i2 rfl (fun hge => ?_) (fun hlt => ?_)
  · have hge := h_ge.mp hge
    refine aw_rv rfl ?_
    refine aw_e rfl rfl rfl ?_
    refine aw_e rfl rfl rfl ?_
    rw [← k_up2 (d := n) (by omega)] at hgo
    refine hgo M _ _ _ (fun i k _ => rfl) ?_
    have hge2 : (M 54 1).toInt ≤ (k_g (fun k => M 59 k) (Int32.ofNat n)).toInt := hge
    rw [if_neg]
    rw [Int32.lt_iff_toInt_lt]
    omega
  · have hlt := h_gef.mp hlt
    refine aw_e rfl rfl rfl ?_
    refine aw_e rfl rfl rfl ?_
    refine aw_e rfl rfl rfl ?_
    refine aw_e rfl rfl rfl ?_
    refine aw_e rfl rfl rfl ?_
    refine aw_e rfl rfl rfl ?_
    refine aw_rv rfl ?_
    refine aw_e rfl rfl rfl ?_
    refine aw_e rfl rfl rfl ?_
    rw [← k_up2 (d := n) (by omega)] at hgo
    refine hgo (a_up (a_up M 54 0 (Int32.ofNat n)) 54 1 (k_g (fun k => M 59 k) (Int32.ofNat n))) _ _ _ (fun i k hi => ?_) ?_
    · rw [a_up_ap, if_neg (fun q => hi q.1), a_up_ap, if_neg (fun q => hi q.1)]
    · have hlt2 : (k_g (fun k => M 59 k) (Int32.ofNat n)).toInt < (M 54 1).toInt := hlt
      rw [if_pos]
      · rfl
      · rw [Int32.lt_iff_toInt_lt]
        exact hlt2
theorem k_out {Ln : Nat} {xs : Nat → Int32} {M0 : aM} {Q : Option Value → aM → Prop} (hgo : ∀ M' : aM, (∀ i k, i ≠ 54 → M' i k = M0 i k) → M' 54 0 = k_b (fun k => M0 59 k) 63 → M' 54 1 = k_g (fun k => M0 59 k) (k_b (fun k => M0 59 k) 63) → Q none M') : ∀ (m n : Nat) (M : aM) (x3 x4 x5 : Value), n ≤ 63 → 63 - n = m → (∀ i k, i ≠ 54 → M i k = M0 i k) → M 54 0 = k_b (fun k => M0 59 k) n → M 54 1 = k_g (fun k => M0 59 k) (k_b (fun k => M0 59 k) n) → aw (wA, Ln, xs) 7 a_e73.2.1 11 [.ref 53, .ref 59, .int (Int32.ofNat (2 * n + 3)), x3, x4, x5] [] M Q := by
  intro m
  induction m with
  | zero =>
    intro n M x3 x4 x5 hn hm hF h0 h1
    have : n = 63 := by omega
    subst this
    refine aw_e rfl rfl rfl ?_
    refine aw_e rfl rfl rfl ?_
    refine aw_i2t rfl (by decide +kernel) ?_
    exact aw_rv rfl (hgo M hF h0 h1)
  | succ m ih =>
    intro n M x3 x4 x5 hn hm hF h0 h1
    have ef : (fun k => M 59 k) = (fun k => M0 59 k) := funext fun k => hF 59 k (by decide)
    refine k_it (n := 2 * n + 3) (by omega) (fun M' x3 x4 x5 hF' hb => ?_)
    rw [ef, h0, h1] at hb
    have hb2 : M' 54 0 = k_b (fun k => M0 59 k) (n + 1) ∧ M' 54 1 = k_g (fun k => M0 59 k) (k_b (fun k => M0 59 k) (n + 1)) := by
      rw [k_b]
      split at hb
      next hc =>
        rw [if_pos hc]
        exact ⟨congrArg Prod.fst hb, congrArg Prod.snd hb⟩
      next hc =>
        rw [if_neg hc]
        exact ⟨congrArg Prod.fst hb, congrArg Prod.snd hb⟩
    have := ih (n + 1) M' x3 x4 x5 (by omega) (by omega) (fun i k hi => (hF' i k hi).trans (hF i k hi)) hb2.1 hb2.2
    rwa [show 2 * (n + 1) + 3 = 2 * n + 3 + 2 by omega] at this
theorem k_far : ((Int32.ofNat 1000000000)).toInt = 1000000000 := by decide +kernel
theorem k_fw {Ln : Nat} {xs : Nat → Int32} {M : aM} (hf : ∀ k, k < 7 → 0 ≤ (M 59 k).toInt ∧ (M 59 k).toInt ≤ 99) : am (wA, Ln, xs) 7 73 [.ref 53, .ref 59] M (fun v M' => v = none ∧ M' 54 0 = k_b (fun k => M 59 k) 63 ∧ M' 54 1 = k_g (fun k => M 59 k) (k_b (fun k => M 59 k) 63)) := by
  refine ⟨a_e73, rfl, ?_⟩
  refine aw_e rfl rfl rfl ?_
  refine aw_e rfl rfl rfl ?_
  refine aw_e rfl rfl rfl ?_
  refine aw_ci rfl rfl (by decide) rfl rfl ?_
  refine aw_e rfl rfl rfl ?_
  refine aw_e rfl rfl rfl ?_
  refine aw_e rfl rfl rfl ?_
  refine aw_e rfl rfl rfl ?_
  refine aw_e rfl rfl rfl ?_
  refine aw_e rfl rfl rfl ?_
  refine aw_rv rfl ?_
  refine aw_e rfl rfl rfl ?_
  refine aw_e rfl rfl rfl ?_
  rw [show Int32.ofInt 1 = Int32.ofNat 1 from by decide]
  refine k_it (n := 1) (by decide) (fun M' x3 x4 x5 hF hb => ?_)
  have hF2 : ∀ i k, i ≠ 54 → M' i k = M i k := fun i k hi => by
    rw [hF i k hi, a_up_ap, if_neg (fun q => hi q.1), a_up_ap, if_neg (fun q => hi q.1)]
  have ef : (fun k => a_up (a_up M 54 0 (Int8.ofInt (-9)).toInt32) 54 1 (Int32.ofNat 1000000000) 59 k) = (fun k => M 59 k) := rfl
  have hlt : k_g (fun k => M 59 k) (Int32.ofNat 1) < Int32.ofNat 1000000000 := by
    rw [Int32.lt_iff_toInt_lt, k_far]
    have := k_gb (f := fun k => M 59 k) hf (Int32.ofNat 1)
    omega
  have hb : (M' 54 0, M' 54 1) = (if k_g (fun k => M 59 k) (Int32.ofNat 1) < Int32.ofNat 1000000000 then (Int32.ofNat 1, k_g (fun k => M 59 k) (Int32.ofNat 1)) else _) := hb
  rw [if_pos hlt] at hb
  exact k_out (M0 := M) (fun M'' _ h0 h1 => ⟨rfl, h0, h1⟩) 63 0 M' x3 x4 x5 (by decide) (by decide) hF2 (congrArg Prod.fst hb) (congrArg Prod.snd hb)
theorem k_isE {Ln fr : Nat} {xs : Nat → Int32} {M : aM} (a : Int32) : am (wA, Ln, xs) fr 47 [.ref 0, .int a] M (fun v M' => M' = M ∧ ∃ x : Int32, v = some (.int x) ∧ ((x = 1 ∧ (a.toInt = 0 ∨ a.toInt = 1)) ∨ (x = 0 ∧ ¬ (a.toInt = 0 ∨ a.toInt = 1)))) := by
  refine ⟨a_e47, rfl, ?_⟩
  refine aw_e rfl rfl rfl ?_
  by_cases h0 : a.toInt = 0
  · refine aw_i1t rfl (q1_eq_t h0) ?_
    refine aw_e rfl rfl rfl ?_
    refine aw_e rfl rfl rfl ?_
    exact aw_ri rfl (Or.inr (by decide)) ⟨rfl, _, rfl, Or.inl ⟨by decide, Or.inl h0⟩⟩
  · refine aw_i1f rfl (q1_eq_f h0) ?_
    refine aw_e rfl rfl rfl ?_
    refine aw_e rfl rfl rfl ?_
    have e1 : (Int32.ofInt 1).toInt = 1 := by decide
    refine aw_i2 rfl (fun hne => ?_) (fun heq => ?_)
    · have hne : ¬ a = Int32.ofInt 1 := h_net.mp hne
      refine aw_e rfl rfl rfl ?_
      refine aw_ri rfl (Or.inr (by decide)) ⟨rfl, _, rfl, Or.inr ⟨by decide, fun q => ?_⟩⟩
      rcases q with q | q
      · exact h0 q
      · exact hne (Int32.toInt_inj.mp (by rw [e1, q]))
    · have heq : a = Int32.ofInt 1 := h_nef.mp heq
      refine aw_e rfl rfl rfl ?_
      refine aw_e rfl rfl rfl ?_
      exact aw_ri rfl (Or.inr (by decide)) ⟨rfl, _, rfl, Or.inl ⟨by decide, Or.inr (by rw [heq, e1])⟩⟩
theorem k_rf2 : x_uok x_B (44, 3, [(0, 0, 0, 0), (1, 0, -2, -2)], [(60, 2, 3)], (1, -2, -2)) := x_chk_ok (n := 20000) (tab := []) (ks := []) (fun u h => by cases h) (by decide +kernel)
theorem k_rf3 : x_uok x_B (44, 3, [(0, 0, 0, 0), (1, 0, -3, -3)], [(60, 3, 4)], (1, -3, -3)) := x_chk_ok (n := 20000) (tab := []) (ks := []) (fun u h => by cases h) (by decide +kernel)
theorem k_C {Ln : Nat} {xs : Nat → Int32} {M : aM} (hJ : x_J x_B M) (a : Int32) : am (wA, Ln, xs) 8 40 [.ref 0, .int a] M (fun v _ => v = some (.int (k_ans (M 0 11) (fun k => M 59 k) a))) := by
  have hf : ∀ k, k < 7 → 0 ≤ (M 59 k).toInt ∧ (M 59 k).toInt ≤ 99 := fun k hk => hJ (59, 0, 12, 0, 99) (by decide +kernel) k (by simp only; omega) (by simp only; omega)
  refine ⟨a_e40, rfl, ?_⟩
  refine aw_e rfl rfl rfl ?_
  refine aw_e rfl rfl rfl ?_
  refine aw_cm2 (fr := 7) (k := 0) rfl rfl (by decide) rfl (k_isE a) rfl (fun v M1 hu => ?_)
  obtain ⟨rfl, x, rfl, h⟩ := hu
  rcases h with ⟨rfl, hw⟩ | ⟨rfl, hw⟩
  rotate_left
  · refine aw_i1f rfl (by decide) ?_
    refine aw_e rfl rfl rfl ?_
    refine aw_e rfl rfl rfl ?_
    refine aw_cm2 (fr := 7) (k := 0) rfl rfl (by decide) rfl (k_rf2 Ln xs 4 M1 [.ref 0, .int (Int8.ofInt (-2)).toInt32] hJ ⟨Or.inl ⟨rfl, rfl⟩, Or.inr ⟨by decide, _, rfl, by decide, by decide⟩, trivial⟩) rfl (fun v M2 hu => ?_)
    obtain ⟨-, -, hr⟩ := hu
    rcases hr with ⟨hr, -⟩ | ⟨-, x, rfl, x1, x2⟩
    · cases hr
    refine aw_ri rfl (Or.inl rfl) ?_
    have x1 : -2 ≤ x.toInt := x1
    have x2 : x.toInt ≤ -2 := x2
    rw [k_ans, if_neg hw, show x = -2 from Int32.toInt_inj.mp (by have : (-2 : Int32).toInt = -2 := by decide
                                                                  omega)]
  refine aw_i1t rfl (by decide) ?_
  refine aw_e rfl rfl rfl ?_
  refine aw_e rfl rfl rfl ?_
  refine aw_e rfl rfl rfl ?_
  have e7 : ((Int8.ofInt 7).toInt32).toInt = 7 := by decide
  by_cases h7 : (M1 0 11).toInt = 7
  rotate_left
  · refine aw_i2f rfl (q2_eq_f e7 h7) ?_
    refine aw_e rfl rfl rfl ?_
    refine aw_e rfl rfl rfl ?_
    refine aw_cm2 (fr := 7) (k := 0) rfl rfl (by decide) rfl (k_rf3 Ln xs 4 M1 [.ref 0, .int (Int8.ofInt (-3)).toInt32] hJ ⟨Or.inl ⟨rfl, rfl⟩, Or.inr ⟨by decide, _, rfl, by decide, by decide⟩, trivial⟩) rfl (fun v M2 hu => ?_)
    obtain ⟨-, -, hr⟩ := hu
    rcases hr with ⟨hr, -⟩ | ⟨-, x, rfl, x1, x2⟩
    · cases hr
    refine aw_ri rfl (Or.inl rfl) ?_
    have x1 : -3 ≤ x.toInt := x1
    have x2 : x.toInt ≤ -3 := x2
    rw [k_ans, if_pos hw, if_neg h7, show x = -3 from Int32.toInt_inj.mp (by have : (-3 : Int32).toInt = -3 := by decide
                                                                             omega)]
  refine aw_i2t rfl (q2_eq_t e7 h7) ?_
  refine aw_e rfl rfl rfl ?_
  refine aw_e rfl rfl rfl ?_
  refine aw_e rfl rfl rfl ?_
  refine aw_e rfl rfl rfl ?_
  refine aw_cm2 (fr := 7) (k := 0) rfl rfl (by decide) rfl (k_fw hf) rfl (fun v M2 hu => ?_)
  obtain ⟨rfl, h0, h1⟩ := hu
  refine aw_e rfl rfl rfl ?_
  rw [k_ans, if_pos hw, if_pos h7]
  by_cases ha : a.toInt = 0
  · rw [if_pos ha]
    refine aw_i1f rfl (q1_ne_f (by omega)) ?_
    refine aw_e rfl rfl rfl ?_
    refine aw_e rfl rfl rfl ?_
    refine aw_e rfl rfl rfl ?_
    refine aw_e rfl rfl rfl ?_
    refine aw_e rfl rfl rfl ?_
    exact aw_ri rfl (Or.inl rfl) (congrArg (fun z => some (Value.int z)) h0)
  · rw [if_neg ha]
    refine aw_i1t rfl (q1_ne_t ha) ?_
    refine aw_e rfl rfl rfl ?_
    refine aw_e rfl rfl rfl ?_
    refine aw_e rfl rfl rfl ?_
    refine aw_ci rfl rfl (by decide) rfl rfl ?_
    refine aw_e rfl rfl rfl ?_
    refine aw_e rfl rfl rfl ?_
    refine aw_e rfl rfl rfl ?_
    have hne : ¬ M2 54 0 = (Int8.ofInt (-9)).toInt32 := fun q => by
      have h2 := k_bn (f := fun k => M1 59 k) 63 (by decide)
      rw [← h0, q] at h2
      have : ((Int8.ofInt (-9)).toInt32).toInt = -9 := by decide
      omega
    refine aw_i2t rfl (h_net.mpr hne) ?_
    refine aw_e rfl rfl rfl ?_
    refine aw_e rfl rfl rfl ?_
    refine aw_ri rfl (Or.inl rfl) ?_
    exact aw_ri rfl (Or.inl rfl) (congrArg (fun z => some (Value.int z)) h1)
/-! the model -/
theorem k_has {Ln fr : Nat} {xs : Nat → Int32} {M : aM} (b k : Int32) : am (wA, Ln, xs) fr 150 [.int b, .int k] M (fun v M' => M' = M ∧ ∃ x : Int32, v = some (.int x) ∧ ((x = 1 ∧ ((b >>> (k &&& 31)) &&& Int32.ofInt 1) = Int32.ofInt 1) ∨ (x = 0 ∧ ¬ ((b >>> (k &&& 31)) &&& Int32.ofInt 1) = Int32.ofInt 1))) := by
  refine ⟨a_e150, rfl, ?_⟩
  refine aw_e rfl rfl rfl ?_
  refine aw_e rfl rfl rfl ?_
  refine aw_e rfl rfl rfl ?_
  refine aw_e rfl rfl rfl ?_
  refine aw_e rfl rfl rfl ?_
  refine aw_e rfl rfl rfl ?_
  refine aw_i2 rfl (fun hne => ?_) (fun heq => ?_)
  · refine aw_e rfl rfl rfl ?_
    exact aw_ri rfl (Or.inr (by decide)) ⟨rfl, _, rfl, Or.inr ⟨by decide, h_net.mp hne⟩⟩
  · refine aw_e rfl rfl rfl ?_
    refine aw_e rfl rfl rfl ?_
    exact aw_ri rfl (Or.inr (by decide)) ⟨rfl, _, rfl, Or.inl ⟨by decide, h_nef.mp heq⟩⟩
theorem k_wfl {Ln fr : Nat} {xs : Nat → Int32} {M : aM} {b : Int32} {Q : Option Value → aM → Prop} (hgo : ∀ x3 : Value, aw (wA, Ln, xs) (fr + 1) a_e241.2.1 43 [.ref 61, .int b, .int (k_s (fun k => M 88 k) b 7), x3] [] M Q) : ∀ (m d : Nat), d ≤ 7 → 7 - d = m → aw (wA, Ln, xs) (fr + 1) a_e241.2.1 4 [.ref 61, .int b, .int (k_s (fun k => M 88 k) b d), .int (Int32.ofNat d)] [] M Q := by
  intro m
  induction m with
  | zero =>
    intro d hd hm
    have : d = 7 := by omega
    subst this
    refine aw_e rfl rfl rfl ?_
    refine aw_e rfl rfl rfl ?_
    refine aw_i2t rfl (by decide +kernel) ?_
    exact hgo _
  | succ m ih =>
    intro d hd hm
    have hdn := k_dn (d := d) (by omega)
    refine aw_e rfl rfl rfl ?_
    refine aw_e rfl rfl rfl ?_
    refine aw_i2f rfl (h_gef.mpr (by rw [hdn]; have : ((Int8.ofInt 7).toInt32).toInt = 7 := by decide
                                     omega)) ?_
    refine aw_e rfl rfl rfl ?_
    refine aw_e rfl rfl rfl ?_
    refine aw_e rfl rfl rfl ?_
    refine aw_cm2 (k := 1) rfl rfl (by decide) rfl (k_has b (Int32.ofNat d)) rfl (fun v M1 hu => ?_)
    obtain ⟨rfl, x, rfl, h⟩ := hu
    have nxt := ih (d + 1) (by omega) (by omega)
    rw [← k_up (d := d) (by omega)] at nxt
    have ec : (Int32.ofNat d).toInt.toNat = d := by rw [hdn, Int.toNat_natCast]
    rcases h with ⟨rfl, h⟩ | ⟨rfl, h⟩
    · have e : k_s (fun k => M1 88 k) b (d + 1) = k_s (fun k => M1 88 k) b d + M1 88 d := by
        rw [k_s, if_pos h]
      rw [e] at nxt
      refine aw_i1f rfl (by decide) ?_
      refine aw_e rfl rfl rfl ?_
      refine aw_e rfl rfl rfl ?_
      refine aw_e rfl rfl rfl ?_
      refine aw_ild (i := 88) rfl rfl rfl (by decide) (by omega) (show (Int32.ofNat d).toInt < ((12 : Nat) : Int) by omega) ?_
      rw [ec]
      refine aw_e rfl rfl rfl ?_
      refine aw_e rfl rfl rfl ?_
      refine aw_e rfl rfl rfl ?_
      refine aw_e rfl rfl rfl ?_
      refine aw_e rfl rfl rfl ?_
      exact nxt
    · have e : k_s (fun k => M1 88 k) b (d + 1) = k_s (fun k => M1 88 k) b d + -(M1 88 d) := by
        rw [k_s, if_neg h]
      rw [e] at nxt
      refine aw_i1t rfl (by decide) ?_
      refine aw_e rfl rfl rfl ?_
      refine aw_e rfl rfl rfl ?_
      refine aw_e rfl rfl rfl ?_
      refine aw_ild (i := 88) rfl rfl rfl (by decide) (by omega) (show (Int32.ofNat d).toInt < ((12 : Nat) : Int) by omega) ?_
      rw [ec]
      refine aw_e rfl rfl rfl ?_
      refine aw_e rfl rfl rfl ?_
      refine aw_e rfl rfl rfl ?_
      refine aw_e rfl rfl rfl ?_
      refine aw_e rfl rfl rfl ?_
      exact nxt
theorem k_wf {Ln fr : Nat} {xs : Nat → Int32} {M : aM} (b : Int32) : am (wA, Ln, xs) (fr + 1) 241 [.ref 61, .int b] M (fun v M' => M' = M ∧ v = some (.int (k_g (fun k => M 88 k) b))) := by
  refine ⟨a_e241, rfl, ?_⟩
  refine aw_e rfl rfl rfl ?_
  refine aw_e rfl rfl rfl ?_
  refine aw_e rfl rfl rfl ?_
  refine aw_e rfl rfl rfl ?_
  rw [show Int32.ofInt 0 = Int32.ofNat 0 from by decide]
  refine k_wfl (fun x3 => ?_) 7 0 (by decide) (by decide)
  refine aw_e rfl rfl rfl ?_
  by_cases h : 0 ≤ (k_s (fun k => M 88 k) b 7).toInt
  · refine aw_i1t rfl (q1_ge_t h) ?_
    refine aw_e rfl rfl rfl ?_
    refine aw_ri rfl (Or.inl rfl) ⟨rfl, ?_⟩
    rw [k_g, if_pos (by rw [Int32.le_iff_toInt_le, Int32.toInt_zero]; exact h)]
  · refine aw_i1f rfl (q1_ge_f h) ?_
    refine aw_e rfl rfl rfl ?_
    refine aw_e rfl rfl rfl ?_
    refine aw_e rfl rfl rfl ?_
    refine aw_ri rfl (Or.inl rfl) ⟨rfl, ?_⟩
    rw [k_g, if_neg (by rw [Int32.le_iff_toInt_le, Int32.toInt_zero]; exact h), Int32.zero_sub]
theorem k_mo {Ln : Nat} {xs : Nat → Int32} {M : aM} {a : Int32} {x2 : Value} {Q : Option Value → aM → Prop} (hgo : ∀ x4 : Value, aw (wA, Ln, xs) 8 a_e242.2.1 80 [.ref 61, .int a, x2, .int (k_b (fun k => M 88 k) 63), x4] [] M Q) : ∀ (m n : Nat), n ≤ 63 → 63 - n = m → aw (wA, Ln, xs) 8 a_e242.2.1 45 [.ref 61, .int a, x2, .int (k_b (fun k => M 88 k) n), .int (Int32.ofNat (2 * n + 3))] [] M Q := by
  intro m
  induction m with
  | zero =>
    intro n hn hm
    have : n = 63 := by omega
    subst this
    refine aw_e rfl rfl rfl ?_
    refine aw_e rfl rfl rfl ?_
    refine aw_i2t rfl (by decide +kernel) ?_
    exact hgo _
  | succ m ih =>
    intro n hn hm
    have hnn := k_dn (d := 2 * n + 3) (by omega)
    have nxt := ih (n + 1) (by omega) (by omega)
    rw [show 2 * (n + 1) + 3 = 2 * n + 3 + 2 by omega, ← k_up2 (d := 2 * n + 3) (by omega), k_b] at nxt
    refine aw_e rfl rfl rfl ?_
    refine aw_e rfl rfl rfl ?_
    refine aw_i2f rfl (h_gef.mpr (by rw [hnn]; have : ((Int16.ofInt 128).toInt32).toInt = 128 := by decide
                                     omega)) ?_
    refine aw_e rfl rfl rfl ?_
    refine aw_e rfl rfl rfl ?_
    refine aw_cm2 (fr := 7) (k := 0) rfl rfl (by decide) rfl (k_wf (fr := 6) _) rfl (fun v M1 hu => ?_)
    obtain ⟨rfl, rfl⟩ := hu
    refine aw_e rfl rfl rfl ?_
    refine aw_e rfl rfl rfl ?_
    refine aw_cm2 (fr := 7) (k := 0) rfl rfl (by decide) rfl (k_wf (fr := 6) _) rfl (fun v M2 hu => ?_)
    obtain ⟨rfl, rfl⟩ := hu
    refine aw_i2 rfl (fun hge => ?_) (fun hlt => ?_)
    · rw [if_neg (by rw [Int32.lt_iff_toInt_lt]; have := h_ge.mp hge; omega)] at nxt
      refine aw_e rfl rfl rfl ?_
      refine aw_e rfl rfl rfl ?_
      refine aw_e rfl rfl rfl ?_
      refine aw_e rfl rfl rfl ?_
      exact nxt
    · rw [if_pos (by rw [Int32.lt_iff_toInt_lt]; exact h_gef.mp hlt)] at nxt
      refine aw_e rfl rfl rfl ?_
      refine aw_e rfl rfl rfl ?_
      refine aw_e rfl rfl rfl ?_
      refine aw_e rfl rfl rfl ?_
      refine aw_e rfl rfl rfl ?_
      exact nxt
theorem k_isI {Ln fr : Nat} {xs : Nat → Int32} {M : aM} (a : Int32) : am (wA, Ln, xs) fr 148 [.int a, .int (Int32.ofInt 0), .int (Int32.ofInt 1)] M (fun v M' => M' = M ∧ ∃ x : Int32, v = some (.int x) ∧ ((x = 1 ∧ (a.toInt = 0 ∨ a.toInt = 1)) ∨ (x = 0 ∧ ¬ (a.toInt = 0 ∨ a.toInt = 1)))) := by
  have e0 : (Int32.ofInt 0).toInt = 0 := by decide
  have e1 : (Int32.ofInt 1).toInt = 1 := by decide
  refine ⟨a_e148, rfl, ?_⟩
  refine aw_e rfl rfl rfl ?_
  refine aw_e rfl rfl rfl ?_
  by_cases h0 : a.toInt < 0
  · refine aw_i2t rfl (q2_lt_t e0 h0) ?_
    refine aw_e rfl rfl rfl ?_
    exact aw_ri rfl (Or.inr (by decide)) ⟨rfl, _, rfl, Or.inr ⟨by decide, by omega⟩⟩
  · refine aw_i2f rfl (q2_lt_f e0 h0) ?_
    refine aw_e rfl rfl rfl ?_
    refine aw_e rfl rfl rfl ?_
    by_cases h1 : 1 < a.toInt
    · refine aw_i2t rfl (q2_gt_t e1 h1) ?_
      refine aw_e rfl rfl rfl ?_
      exact aw_ri rfl (Or.inr (by decide)) ⟨rfl, _, rfl, Or.inr ⟨by decide, by omega⟩⟩
    · refine aw_i2f rfl (q2_gt_f e1 h1) ?_
      refine aw_e rfl rfl rfl ?_
      refine aw_e rfl rfl rfl ?_
      exact aw_ri rfl (Or.inr (by decide)) ⟨rfl, _, rfl, Or.inl ⟨by decide, by omega⟩⟩
theorem k_no2 : x_uok x_B (146, 0, [(0, 61, 0, 0), (1, 0, -2, -2)], [(62, 2, 3)], (1, -2, -2)) := x_chk_ok (n := 20000) (tab := []) (ks := []) (fun u h => by cases h) (by decide +kernel)
theorem k_no3 : x_uok x_B (146, 0, [(0, 61, 0, 0), (1, 0, -3, -3)], [(62, 3, 4)], (1, -3, -3)) := x_chk_ok (n := 20000) (tab := []) (ks := []) (fun u h => by cases h) (by decide +kernel)
theorem k_M {Ln : Nat} {xs : Nat → Int32} {M : aM} (hJ : x_J x_B M) (a : Int32) : am (wA, Ln, xs) 8 242 [.ref 61, .int a] M (fun v _ => v = some (.int (k_ans (M 61 46) (fun k => M 88 k) a))) := by
  refine ⟨a_e242, rfl, ?_⟩
  refine aw_e rfl rfl rfl ?_
  refine aw_e rfl rfl rfl ?_
  refine aw_e rfl rfl rfl ?_
  refine aw_cm2 (fr := 7) (k := 1) rfl rfl (by decide) rfl (k_isI a) rfl (fun v M1 hu => ?_)
  obtain ⟨rfl, x, rfl, h⟩ := hu
  rcases h with ⟨rfl, hw⟩ | ⟨rfl, hw⟩
  rotate_left
  · refine aw_i1f rfl (by decide) ?_
    refine aw_e rfl rfl rfl ?_
    refine aw_e rfl rfl rfl ?_
    refine aw_e rfl rfl rfl ?_
    refine aw_e rfl rfl rfl ?_
    refine aw_i1f rfl (by decide) ?_
    refine aw_e rfl rfl rfl ?_
    refine aw_e rfl rfl rfl ?_
    refine aw_cm2 (fr := 7) (k := 0) rfl rfl (by decide) rfl (x_am0 (k_no2 Ln xs 7 M1 [.ref 61, .int (Int8.ofInt (-2)).toInt32] hJ ⟨Or.inl ⟨rfl, rfl⟩, Or.inr ⟨by decide, _, rfl, by decide, by decide⟩, trivial⟩)) rfl (fun v M2 hu => ?_)
    obtain ⟨-, -, hr⟩ := hu
    rcases hr with ⟨hr, -⟩ | ⟨-, x, rfl, x1, x2⟩
    · cases hr
    refine aw_ri rfl (Or.inl rfl) ?_
    have x1 : -2 ≤ x.toInt := x1
    have x2 : x.toInt ≤ -2 := x2
    rw [k_ans, if_neg hw, show x = -2 from Int32.toInt_inj.mp (by have : (-2 : Int32).toInt = -2 := by decide
                                                                  omega)]
  refine aw_i1t rfl (by decide) ?_
  refine aw_e rfl rfl rfl ?_
  refine aw_e rfl rfl rfl ?_
  refine aw_e rfl rfl rfl ?_
  have e7 : ((Int8.ofInt 7).toInt32).toInt = 7 := by decide
  by_cases h7 : (M1 61 46).toInt = 7
  rotate_left
  · refine aw_i2f rfl (q2_eq_f e7 h7) ?_
    refine aw_e rfl rfl rfl ?_
    refine aw_e rfl rfl rfl ?_
    refine aw_e rfl rfl rfl ?_
    refine aw_e rfl rfl rfl ?_
    refine aw_i1f rfl (by decide) ?_
    refine aw_e rfl rfl rfl ?_
    refine aw_e rfl rfl rfl ?_
    refine aw_cm2 (fr := 7) (k := 0) rfl rfl (by decide) rfl (x_am0 (k_no3 Ln xs 7 M1 [.ref 61, .int (Int8.ofInt (-3)).toInt32] hJ ⟨Or.inl ⟨rfl, rfl⟩, Or.inr ⟨by decide, _, rfl, by decide, by decide⟩, trivial⟩)) rfl (fun v M2 hu => ?_)
    obtain ⟨-, -, hr⟩ := hu
    rcases hr with ⟨hr, -⟩ | ⟨-, x, rfl, x1, x2⟩
    · cases hr
    refine aw_ri rfl (Or.inl rfl) ?_
    have x1 : -3 ≤ x.toInt := x1
    have x2 : x.toInt ≤ -3 := x2
    rw [k_ans, if_pos hw, if_neg h7, show x = -3 from Int32.toInt_inj.mp (by have : (-3 : Int32).toInt = -3 := by decide
                                                                             omega)]
  refine aw_i2t rfl (q2_eq_t e7 h7) ?_
  refine aw_e rfl rfl rfl ?_
  refine aw_e rfl rfl rfl ?_
  refine aw_e rfl rfl rfl ?_
  refine aw_i1t rfl (by decide) ?_
  refine aw_e rfl rfl rfl ?_
  refine aw_e rfl rfl rfl ?_
  refine aw_e rfl rfl rfl ?_
  refine aw_e rfl rfl rfl ?_
  rw [k_ans, if_pos hw, if_pos h7, show Int32.ofInt 1 = Int32.ofNat 1 from by decide, show Int32.ofInt 3 = Int32.ofNat 3 from by decide]
  refine k_mo (fun x4 => ?_) 63 0 (by decide) (by decide)
  refine aw_e rfl rfl rfl ?_
  by_cases ha : a.toInt = 0
  · rw [if_pos ha]
    refine aw_i1f rfl (q1_ne_f (by omega)) ?_
    refine aw_e rfl rfl rfl ?_
    refine aw_e rfl rfl rfl ?_
    exact aw_ri rfl (Or.inl rfl) rfl
  · rw [if_neg ha]
    refine aw_i1t rfl (q1_ne_t ha) ?_
    refine aw_e rfl rfl rfl ?_
    refine aw_e rfl rfl rfl ?_
    refine aw_cm2 (fr := 7) (k := 0) rfl rfl (by decide) rfl (k_wf (fr := 6) _) rfl (fun v M2 hu => ?_)
    obtain ⟨rfl, rfl⟩ := hu
    exact aw_ri rfl (Or.inl rfl) rfl
