/-! the law: its two constructors make the world; then the small machine runs it -/
theorem c_arrV {cI : ClassId} {n : Nat} {f g : Nat → Value} (h : ∀ j, j < n → f j = g j) : arrV cI n f = arrV cI n g := by
  unfold arrV
  congr 2
  funext j
  exact h j.val j.isLt
theorem c_exp (ada adb : Nat → Nat) (had : ∀ i, i < a_ncw → ada i = adb i) (i : Nat) : ∀ (rs : List (Option Nat)) (k : Nat), b_low rs = true → (b_exp i k rs).map (a_cv adb) = a_fs ada (a_M0 i) k rs
  | [], _, _ => rfl
  | none :: t, k, h => by
    have h2 : b_low t = true := by
      simp only [b_low, List.all_cons, Bool.and_eq_true] at h ⊢
      exact h.2
    simp only [b_exp, a_fs, List.map_cons, c_exp ada adb had i t (k + 1) h2]
    rfl
  | some j :: t, k, h => by
    simp only [b_low, List.all_cons, Bool.and_eq_true, decide_eq_true_eq] at h
    have h2 : b_low t = true := by
      simp only [b_low]
      exact h.2
    simp only [b_exp, a_fs, List.map_cons, c_exp ada adb had i t (k + 1) h2, had j h.1]
    rfl
theorem c_conv {D : va_G} {ada adb : Nat → Nat} {cI cO : ClassId} {cA : Nat → ClassId} {h : List bE} {H : Heap} (had : ∀ i, i < a_ncw → ada i = adb i) (hcA : ∀ i, cA i = if (a_shape i).1 = 102 then cO else cI) (hl : h.length = a_ncw) (hs : h.zipIdx.all (fun q => b_same q.2 q.1) = true) (hP : va_P D a_cls (b_wd adb cI cO h) H) : va_P D a_cls (a_wd ada cA a_M0) H := by
  intro k q hk
  obtain ⟨hi, rfl⟩ := a_wd_of hk
  obtain ⟨e, he⟩ : ∃ e, h[k]? = some e := ⟨h[k]'(by omega), List.getElem?_eq_getElem (by omega)⟩
  have hsame : b_same k e = true := List.all_eq_true.mp hs (e, k) (List.mem_zipIdx_iff_getElem?.mpr he)
  have hat := hP k _ (b_at he)
  rw [had k hi]
  unfold b_same at hsame
  split at hsame
  next ci fs =>
    simp only [Bool.and_eq_true, decide_eq_true_eq] at hsame
    obtain ⟨⟨⟨h1, h2⟩, h3⟩, h4⟩ := hsame
    have hE : a_ent ada cA a_M0 k = b_ent adb cI cO (.inl (ci, fs)) := by
      rw [a_ent_obj (by omega), ← c_exp ada adb had k _ 0 h4, ← h3, h1]
      rfl
    rw [hE]
    exact hat
  next n f =>
    simp only [Bool.and_eq_true, decide_eq_true_eq] at hsame
    obtain ⟨⟨h1, h2⟩, h3⟩ := hsame
    rw [a_ent_arr (Or.inl h1), hcA, if_neg (by omega), h2]
    have hat' : H[adb k]? = some (arrV cI n (fun j => .int (f j))) := hat
    show H[adb k]? = some (arrV cI n (fun j => .int (a_M0 k j)))
    rw [hat', c_arrV (g := fun j => .int (a_M0 k j)) fun j hj => by rw [of_decide_eq_true (List.all_eq_true.mp h3 j (List.mem_range.mpr hj))]]
  next n f =>
    simp only [Bool.and_eq_true, decide_eq_true_eq] at hsame
    obtain ⟨⟨⟨h1, h2⟩, h4⟩, h3⟩ := hsame
    rw [a_ent_refs h1, hcA, if_pos h1, h2]
    have hat' : H[adb k]? = some (arrV cO n (fun j => va_rf ((f j).map adb))) := hat
    show H[adb k]? = some (arrV cO n (fun j => va_rf (a_oa ada (a_shape k).2.1 j)))
    rw [hat', c_arrV (g := fun j => va_rf (a_oa ada (a_shape k).2.1 j)) fun j hj => by
      have hf : f j = ((a_shape k).2.1[j]?).join := of_decide_eq_true (List.all_eq_true.mp h3 j (List.mem_range.mpr hj))
      show va_rf ((f j).map adb) = va_rf (a_oa ada (a_shape k).2.1 j)
      rw [hf]
      unfold a_oa
      cases hr : (a_shape k).2.1[j]? with
      | none => rfl
      | some o =>
        cases o with
        | none => rfl
        | some q =>
          have := List.all_eq_true.mp h4 _ (List.mem_of_getElem? hr)
          simp only [decide_eq_true_eq] at this
          show va_rf (some (adb q)) = va_rf (some (ada q))
          rw [had q this]]
  next => cases hsame
theorem c_known {args : Array Value} {s : State} (hts : ∀ w ∈ lw_ok, w.before args s = true) : ∃ D : va_G, ∀ (k : Nat) (q : vw_C), a_cls[k]? = some q → u_Kn s q.1 q.2.1 q.2.2 (D.1 k) (D.2 k) := by
  have h : ∀ k : Nat, ∃ (cC : ClassId) (iS : Nat → Nat), ∀ q : vw_C, a_cls[k]? = some q → u_Kn s q.1 q.2.1 q.2.2 cC iS := by
    intro k
    cases hq : a_cls[k]? with
    | none => exact ⟨0, fun _ => 0, fun q h => by cases h⟩
    | some q =>
      obtain ⟨C, T, N⟩ := q
      obtain ⟨hin, -, -⟩ := a_cok_all _ _ _ _ hq
      obtain ⟨hi, -⟩ := b_inst k trivial _ _ _ hq
      obtain ⟨cC, iS, hK⟩ := u_known hts hin (hts _ hi)
      exact ⟨cC, iS, fun q h => by cases h; exact hK⟩
  exact ⟨(fun k => Classical.choose (h k), fun k => Classical.choose (Classical.choose_spec (h k))), fun k q hq => Classical.choose_spec (Classical.choose_spec (h k)) q hq⟩
theorem c_stat {args : Array Value} {s : State} {A : Nat → Prop} (hgv : (Jvm.Cond.and given_1 narrow_1).before args s = true) (hA : ∀ a : Nat, a < s.heap.size → ¬ A a) {j : Nat} (hN : c_len j < 2 ^ 31) (h : ([Jvm.Cond.arrayOf (c_tm j) .int, .eq (.length (c_tm j)) (.int (Int32.ofNat (c_len j)))] ++ (List.range (c_len j)).map (fun k => Jvm.Cond.eq (.elem (c_tm j) (.int (Int32.ofNat k))) (.int (c_el j k)))).all (fun x => decide (x ∈ flatC (Jvm.Cond.and given_1 narrow_1))) = true) : ∃ t : Nat, (c_tm j).eval args s none [] s = some (.ref t) ∧ va_T .int t (c_len j) (fun k => .int (c_el j k)) A s s.heap := by
  have hs := flat_of_before _ hgv
  have hb : ∀ x ∈ ([Jvm.Cond.arrayOf (c_tm j) .int, .eq (.length (c_tm j)) (.int (Int32.ofNat (c_len j)))] ++ (List.range (c_len j)).map (fun k => Jvm.Cond.eq (.elem (c_tm j) (.int (Int32.ofNat k))) (.int (c_el j k)))), x.before args s = true := fun x hx => hs x (of_decide_eq_true (List.all_eq_true.mp h x hx))
  refine va_Tof hN (hb _ (by simp)) (va_eqt (hb _ (by simp))) (fun k hk => va_eqt (hb _ ?_)) hA
  exact List.mem_append_right _ (List.mem_map.mpr ⟨k, List.mem_range.mpr hk, rfl⟩)
theorem c_stats {args : Array Value} {s : State} {A : Nat → Prop} (hgv : (Jvm.Cond.and given_1 narrow_1).before args s = true) (hA : ∀ a : Nat, a < s.heap.size → ¬ A a) : ∃ st : Nat → Nat, ∀ j, j < 4 → (c_tm j).eval args s none [] s = some (.ref (st j)) ∧ va_T .int (st j) (c_len j) (fun k => .int (c_el j k)) A s s.heap := by
  obtain ⟨t0, h0⟩ := c_stat hgv hA (j := 0) (by decide +kernel) c_pr0
  obtain ⟨t1, h1⟩ := c_stat hgv hA (j := 1) (by decide +kernel) c_pr1
  obtain ⟨t2, h2⟩ := c_stat hgv hA (j := 2) (by decide +kernel) c_pr2
  obtain ⟨t3, h3⟩ := c_stat hgv hA (j := 3) (by decide +kernel) c_pr3
  refine ⟨fun j => if j = 0 then t0 else if j = 1 then t1 else if j = 2 then t2 else t3, fun j hj => ?_⟩
  rcases (show j = 0 ∨ j = 1 ∨ j = 2 ∨ j = 3 by omega) with rfl | rfl | rfl | rfl
  · exact h0
  · exact h1
  · exact h2
  · exact h3
/-- what is to be shown of the small machine alone: the law's run behind the constructors answers 1 -/
def c_law (w : Nat → Bool) (L : Nat) (xs : Nat → Int32) : Prop := ∃ n M', a_run (w, L, xs) n 9 a_claw 18 [.ref a_scr, .ref 0, .ref a_mo, .int 0] [] a_M0 = some (some (.int 1), M')
theorem c_start {p : Program} {e : Env} {s : State} {m : MethodId} {below : List Frame} {meth : Method} {c : Code} (l : Launch) {b L : Nat} {xs : Nat → Int32} {w0 : Nat → Bool} (hrun : c_law w0 L xs) (C0 : lw_At p s m meth c b L xs) : W p l e room_1 s m #[Value.ref b] below meth c s.heap [] 0 0 (lw_Z below #[Value.ref b] s) (entryFrame m ([Value.ref b] : List Value).toArray 4) := by
  obtain ⟨hx, hb, hr, hml, hown, hts0, hX, hbl, hlocks, hgv⟩ := id C0
  have hts : ∀ w ∈ lw_ok, w.before #[Value.ref b] s = true := fun w hw => hts0 w (List.mem_filter.mp hw).1
  obtain ⟨D, hD⟩ := c_known hts
  obtain ⟨cI, kI, compI, i1, i2, i3⟩ := Cond.arrayClass_spec (hts0 _ c_arr)
  obtain ⟨compO, cO, kO, o1, -, o2, o3, o4⟩ := Cond.arrayOver_spec (hts0 _ c_over)
  have aI : ArrOfT s cI .int := fun n z => ⟨fun k h => (by cases h), kI, i2, compI, i3⟩
  have aO : ArrOfT s cO (.object aR5) := fun n z => ⟨fun k h => (by cases h), kO, o2, compO, o3⟩
  have rO : va_RA s cO (.object aR5) := ⟨kO, compO, o2, o3, o1, o4⟩
  have hnest : ∀ x ∈ a_nest, va_Nw x s := fun x hx => by
    have := hts0 x (List.mem_filter.mp hx).1
    obtain ⟨q, i, bb, n, d, z, rfl⟩ := a_nest_form hx
    exact va_Nw.of rfl this
  have hKb : b_Kn D cI cO s := ⟨⟨hD, fun k q hk => by
    rcases k with _ | _ | k
    · cases hk; exact ⟨aI, i1⟩
    · cases hk; exact ⟨aO, rO⟩
    · simp at hk⟩, va_AO.of (hts0 _ c_over), hnest⟩
  obtain ⟨st, hst⟩ := c_stats (A := fun q => s.heap.size ≤ q) hgv (fun a ha => Nat.not_le.mpr ha)
  obtain ⟨adb, hadb⟩ : ∃ f : Nat → Nat, f = fun i => if i < 900 then s.heap.size + i else b := ⟨_, rfl⟩
  have hb1 : b_ad s.heap.size adb := fun i hi => by rw [hadb]; exact if_pos hi
  have hb2 : adb 950 = b := by rw [hadb]; rfl
  obtain ⟨ada, hada⟩ : ∃ f : Nat → Nat, f = fun i => if i < a_ncw then s.heap.size + i else if i < a_ncw + 4 then st (i - a_ncw) else b := ⟨_, rfl⟩
  have ha1 : ∀ i, i < a_ncw → ada i = s.heap.size + i := fun i hi => by rw [hada]; exact if_pos hi
  have ha2 : ∀ j, j < 4 → ada (a_ncw + j) = st j := fun j hj => by
    rw [hada]
    show (if a_ncw + j < a_ncw then _ else if a_ncw + j < a_ncw + 4 then st (a_ncw + j - a_ncw) else b) = st j
    rw [if_neg (by omega), if_pos (by omega), Nat.add_sub_cancel_left]
  have ha3 : ada a_scr = b := by
    rw [hada]
    show (if a_scr < a_ncw then _ else if a_scr < a_ncw + 4 then _ else b) = b
    rw [if_neg (by unfold a_scr; omega), if_neg (by unfold a_scr; omega)]
  have hAA : ∀ q, a_A ada q → s.heap.size ≤ q := fun q ⟨i, hi, hq⟩ => by
    rw [hq, ha1 i hi]
    omega
  have hinj : a_inj ada := fun i j hi hj h => by
    rw [ha1 i hi, ha1 j hj] at h
    omega
  obtain ⟨cA, hcA⟩ : ∃ f : Nat → ClassId, f = fun i => if (a_shape i).1 = 102 then cO else cI := ⟨_, rfl⟩
  have hKa : a_Kn (w0, L, xs) D ada cA s := by
    refine ⟨⟨by rw [ha3]; exact hX, by rw [ha3]; exact hbl, fun q => Nat.not_le.mpr hbl (by rw [← ha3]; exact hAA _ q)⟩, ⟨hD, fun k q hk => ?_⟩, fun j hj => ?_, fun j hj => ?_, hnest⟩
    · have hk2 : k < a_ncw := by
        have := (List.getElem?_eq_some_iff.mp hk).1
        simpa [a_tys] using this
      rw [a_tys_get cA hk2] at hk
      cases hk
      rw [hcA]
      show ArrOfT s (if (a_shape k).1 = 102 then cO else cI) (if (a_shape k).1 = 102 then .object aR5 else .int) ∧ va_RA s (if (a_shape k).1 = 102 then cO else cI) (if (a_shape k).1 = 102 then .object aR5 else .int)
      by_cases h : (a_shape k).1 = 102
      · rw [if_pos h, if_pos h]
        exact ⟨aO, rO⟩
      · rw [if_neg h, if_neg h]
        exact ⟨aI, i1⟩
    · rw [ha2 j hj]
      have hl : Jvm.Cond.laysStatic (a_stn j).1 (a_stn j).2 "[I" ∈ lw_tbl ∧ Jvm.Cond.initialized (a_stn j).1 ∈ lw_tbl := by
        rcases (show j = 0 ∨ j = 1 ∨ j = 2 ∨ j = 3 by omega) with rfl | rfl | rfl | rfl
        · exact c_ls0
        · exact c_ls1
        · exact c_ls2
        · exact c_ls3
      exact va_Zref (hts0 _ hl.1) (hts0 _ hl.2) (hst j hj).1 (fun a ha q => Nat.not_le.mpr ha (hAA a q))
    · rw [ha2 j hj]
      exact (hst j hj).2.narrow hAA
  have hmade := b_made
  unfold b_ok at hmade
  split at hmade
  next pc' L' st' h' hrb =>
    simp only [Bool.and_eq_true, decide_eq_true_eq] at hmade
    obtain ⟨⟨⟨⟨⟨rfl, rfl⟩, rfl⟩, hlen⟩, hall⟩, hsl⟩ := hmade
    have hl := lv_entry ([.ref b]) (n := 4) (Nat.le_of_ble_eq_true rfl)
    rw [lg_entry_eq]
    generalize (lg_sl ([.ref b]) ++ List.replicate (4 - (lg_sl ([.ref b])).length) Slot.unset).toArray = ls at hl ⊢
    have hlr : a_lr adb ls 4 ([.ref 950] ++ List.replicate (4 - ([.ref 950] : List Value).length) a_dead) := a_lr_entry adb (fun x hx => by simp at hx; subst hx; rfl) (by decide) (by
      have : ([.ref 950] : List Value).map (a_cv adb) = [.ref b] := by simp [a_cv, hb2]
      rw [this]
      exact hl)
    have hn90 : h'.length ≤ 900 := by rw [hlen]; decide
    have hsz90 : h'.length ≤ 600000 := by omega
    refine b_sound l D adb s.heap.size cI cO hb1 5000 8 b_claw 18 0 [.ref 950, a_dead, a_dead, a_dead] [] [] 18 _ [] h' hrb p e room_1 s m _ below meth c _ code 4 "WashAndDryLaw" false 0 0 ⟨hx, hb, hml, hown, hts, hKb, hb1, Nat.le_refl _, (fun h => by cases h), by decide, by decide⟩ b_vlaw (Nat.le_refl _) (Nat.le_refl _) (by show h'.length - 0 ≤ 600000; omega) (by show b_sl h' - 0 ≤ 7302250; omega) ?_ s.heap [] ls ⟨fun k q hk => by simp [b_wd] at hk, rfl, by simp, va_S.rf, hlr⟩
    intro H locs ls r
    refine va_forget (fun q hq => r.2.2.2.1.2.2 q hq) ?_
    obtain ⟨n, M', hrun⟩ := hrun
    refine a_sound (w0, L, xs) l D ada cA hinj n 9 a_claw 18 [.ref a_scr, .ref 0, .ref a_mo, .int 0] [] a_M0 (some (.int 1)) M' hrun p e room_1 s m _ below meth c _ _ _ code 4 "WashAndDryLaw" (some .boolean) ⟨hx, hb, hml, hown, hts, hKa, hinj, by decide, by decide, by show h'.length - 0 ≤ 600000; omega, by show b_sl h' - 0 ≤ 7302250; omega⟩ a_vlaw ?_ H [] ls ⟨?_, ?_, ?_⟩
    · intro i pc ls H1 locs1 hdg hend hP1 hS1
      rcases hend with ⟨rfl, -⟩ | ⟨-, -, h | ⟨q, h⟩⟩ | ⟨-, -, h⟩
      · refine va_forget (fun q hq => hAA _ (hS1.2.2 q hq)) ?_
        refine W.widen (k := 600000) (n := 7302250) (by omega) (by omega) ?_
        exact lw_ret hx hb hr hlocks hdg
      · cases h
      · cases h
      · cases h
    · exact c_conv (fun i hi => by rw [ha1 i hi, hb1 i (Nat.lt_trans hi (by decide))]) (fun i => by rw [hcA]) hlen hall r.1
    · exact ⟨r.2.2.2.1.1, fun q h1 h2 => r.2.2.2.1.2.1 q h1 (Nat.not_le.mpr h1), fun q hq => by cases hq⟩
    · obtain ⟨l1, l2, l3, l4⟩ := r.2.2.2.2
      refine ⟨l1, l2, by decide, fun i v hi hd hc => ?_⟩
      have h0 : adb 0 = ada 0 := by rw [hb1 0 (by decide), ha1 0 (by decide)]
      have h61 : adb a_mo = ada a_mo := by rw [hb1 a_mo (by decide), ha1 a_mo (by decide)]
      rcases i with _ | _ | _ | _ | i
      · cases hi
        have := l4 0 (.ref 950) rfl (by simp [a_dead]) rfl
        rw [this]
        show some (Slot.val (.ref (adb 950))) = some (Slot.val (.ref (ada a_scr)))
        rw [hb2, ha3]
      · cases hi
        have := l4 1 (.ref 0) rfl (by simp [a_dead]) rfl
        rw [this]
        show some (Slot.val (.ref (adb 0))) = some (Slot.val (.ref (ada 0)))
        rw [h0]
      · cases hi
        have := l4 2 (.ref a_mo) rfl (by simp [a_dead]) rfl
        rw [this]
        show some (Slot.val (.ref (adb a_mo))) = some (Slot.val (.ref (ada a_mo)))
        rw [h61]
      · cases hi
        exact l4 3 (.int 0) rfl (by simp [a_dead]) rfl
      · simp at hi
  next => cases hmade
