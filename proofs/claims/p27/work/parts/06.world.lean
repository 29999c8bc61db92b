/-! the small machine's world at its addresses in a heap -/
def a_cv (ad : Nat → Nat) (v : Value) : Value := match v with
  | .ref a => .ref (ad a)
  | v => v
theorem a_cv_cat (ad : Nat → Nat) (v : Value) : (a_cv ad v).category = v.category := by cases v <;> rfl
theorem a_cv_sum (ad : Nat → Nat) (l : List Value) : ((l.map (a_cv ad)).map fun v => v.category).sum = (l.map fun v => v.category).sum := by
  rw [List.map_map]
  congr 1
  exact List.map_congr_left fun v _ => a_cv_cat ad v
def a_fs (ad : Nat → Nat) (f : Nat → Int32) : Nat → List (Option Nat) → List Value
  | _, [] => []
  | k, none :: t => .int (f k) :: a_fs ad f (k + 1) t
  | k, some j :: t => .ref (ad j) :: a_fs ad f (k + 1) t
theorem a_fs_len (ad : Nat → Nat) (f : Nat → Int32) : ∀ (rs : List (Option Nat)) (k : Nat), (a_fs ad f k rs).length = rs.length
  | [], _ => rfl
  | none :: t, k => by simp [a_fs, a_fs_len ad f t (k + 1)]
  | some _ :: t, k => by simp [a_fs, a_fs_len ad f t (k + 1)]
theorem a_fs_int (ad : Nat → Nat) (f : Nat → Int32) : ∀ (rs : List (Option Nat)) (k j : Nat), rs[j]? = some none → (a_fs ad f k rs)[j]? = some (.int (f (k + j)))
  | [], _, _, h => by simp at h
  | none :: t, k, 0, _ => by simp [a_fs]
  | none :: t, k, j + 1, h => by
    have := a_fs_int ad f t (k + 1) j (by simpa using h)
    simp only [a_fs, List.getElem?_cons_succ, this]
    rw [show k + 1 + j = k + (j + 1) by omega]
  | some _ :: t, k, 0, h => by simp at h
  | some _ :: t, k, j + 1, h => by
    have := a_fs_int ad f t (k + 1) j (by simpa using h)
    simp only [a_fs, List.getElem?_cons_succ, this]
    rw [show k + 1 + j = k + (j + 1) by omega]
theorem a_fs_ref (ad : Nat → Nat) (f : Nat → Int32) : ∀ (rs : List (Option Nat)) (k j q : Nat), rs[j]? = some (some q) → (a_fs ad f k rs)[j]? = some (.ref (ad q))
  | [], _, _, _, h => by simp at h
  | none :: t, k, 0, _, h => by simp at h
  | none :: t, k, j + 1, q, h => by
    have := a_fs_ref ad f t (k + 1) j q (by simpa using h)
    simp only [a_fs, List.getElem?_cons_succ, this]
  | some _ :: t, k, 0, q, h => by
    simp at h
    simp [a_fs, h]
  | some _ :: t, k, j + 1, q, h => by
    have := a_fs_ref ad f t (k + 1) j q (by simpa using h)
    simp only [a_fs, List.getElem?_cons_succ, this]
theorem a_fs_congr (ad : Nat → Nat) (f g : Nat → Int32) : ∀ (rs : List (Option Nat)) (k : Nat), (∀ x, k ≤ x → f x = g x) → a_fs ad f k rs = a_fs ad g k rs
  | [], _, _ => rfl
  | none :: t, k, h => by simp only [a_fs, h k (Nat.le_refl k), a_fs_congr ad f g t (k + 1) (fun x hx => h x (by omega))]
  | some _ :: t, k, h => by simp only [a_fs, a_fs_congr ad f g t (k + 1) (fun x hx => h x (by omega))]
theorem a_fs_set (ad : Nat → Nat) (f g : Nat → Int32) (v : Int32) : ∀ (rs : List (Option Nat)) (k j : Nat), rs[j]? = some none → g (k + j) = v → (∀ x, x ≠ k + j → g x = f x) → (a_fs ad f k rs).set j (.int v) = a_fs ad g k rs
  | [], _, _, h, _, _ => by simp at h
  | none :: t, k, 0, _, hv, hg => by
    simp only [a_fs, List.set_cons_zero]
    rw [a_fs_congr ad f g t (k + 1) (fun x hx => (hg x (by omega)).symm), ← hv]
    rfl
  | none :: t, k, j + 1, h, hv, hg => by
    simp only [a_fs, List.set_cons_succ]
    rw [a_fs_set ad f g v t (k + 1) j (by simpa using h) (by rw [show k + 1 + j = k + (j + 1) by omega]; exact hv) (fun x hx => hg x (by omega)), hg k (by omega)]
  | some _ :: t, k, 0, h, _, _ => by simp at h
  | some _ :: t, k, j + 1, h, hv, hg => by
    simp only [a_fs, List.set_cons_succ]
    rw [a_fs_set ad f g v t (k + 1) j (by simpa using h) (by rw [show k + 1 + j = k + (j + 1) by omega]; exact hv) (fun x hx => hg x (by omega))]
def a_oa (ad : Nat → Nat) (rs : List (Option Nat)) (j : Nat) : Option Nat := match rs[j]? with
  | some (some q) => some (ad q)
  | _ => none
def a_ent (ad : Nat → Nat) (cA : Nat → ClassId) (M : aM) (i : Nat) : va_E := if (a_shape i).1 < 100 then .inr ((a_shape i).1, a_fs ad (M i) 0 (a_shape i).2.1) else if (a_shape i).1 = 102 then .inl (cA i, (a_shape i).2.2, .inr (.inr (.inr (.inr (a_oa ad (a_shape i).2.1))))) else .inl (cA i, (a_shape i).2.2, .inl (M i))
def a_wd (ad : Nat → Nat) (cA : Nat → ClassId) (M : aM) : va_W := (List.range a_ncw).map fun i => (ad i, a_ent ad cA M i)
theorem a_wd_get (ad : Nat → Nat) (cA : Nat → ClassId) (M : aM) {i : Nat} (h : i < a_ncw) : (a_wd ad cA M)[i]? = some (ad i, a_ent ad cA M i) := by
  unfold a_wd
  rw [List.getElem?_map, List.getElem?_range h]
  rfl
theorem a_wd_of {ad : Nat → Nat} {cA : Nat → ClassId} {M : aM} {i : Nat} {q : Nat × va_E} (h : (a_wd ad cA M)[i]? = some q) : i < a_ncw ∧ q = (ad i, a_ent ad cA M i) := by
  have hl : i < a_ncw := by
    have := (List.getElem?_eq_some_iff.mp h).1
    simpa [a_wd] using this
  exact ⟨hl, (Option.some.inj ((a_wd_get ad cA M hl).symm.trans h)).symm⟩
theorem a_wd_set {ad : Nat → Nat} {cA : Nat → ClassId} {M M' : aM} {i : Nat} {e : va_E} (hi : i < a_ncw) (he : a_ent ad cA M' i = e) (hM : ∀ j, j ≠ i → M' j = M j) : (a_wd ad cA M).set i (ad i, e) = a_wd ad cA M' := by
  subst he
  apply List.ext_getElem?
  intro j
  rw [List.getElem?_set]
  have hlen : (a_wd ad cA M).length = a_ncw := by simp [a_wd]
  by_cases hj : i = j
  · subst hj
    rw [if_pos rfl, if_pos (by rw [hlen]; exact hi), a_wd_get ad cA M' hi]
  · rw [if_neg hj]
    by_cases hjl : j < a_ncw
    · rw [a_wd_get ad cA M hjl, a_wd_get ad cA M' hjl]
      have : a_ent ad cA M' j = a_ent ad cA M j := by
        unfold a_ent
        rw [hM j (Ne.symm hj)]
      rw [this]
    · rw [List.getElem?_eq_none (by rw [hlen]; omega), List.getElem?_eq_none (by simp [a_wd]; omega)]
theorem a_up_other {M : aM} {i k : Nat} {v : Int32} {j : Nat} (h : j ≠ i) : a_up M i k v j = M j := by
  funext x
  rw [a_up_ap, if_neg (fun q => h q.1)]
theorem a_ent_obj {ad : Nat → Nat} {cA : Nat → ClassId} {M : aM} {i : Nat} (h : (a_shape i).1 < 100) : a_ent ad cA M i = .inr ((a_shape i).1, a_fs ad (M i) 0 (a_shape i).2.1) := by
  unfold a_ent
  rw [if_pos h]
theorem a_ent_put {ad : Nat → Nat} {cA : Nat → ClassId} {M : aM} {i k : Nat} {v : Int32} (h : (a_shape i).1 < 100) (hk : (a_shape i).2.1[k]? = some none) : a_ent ad cA (a_up M i k v) i = .inr ((a_shape i).1, (a_fs ad (M i) 0 (a_shape i).2.1).set k (.int v)) := by
  rw [a_ent_obj h, a_fs_set ad (M i) (a_up M i k v i) v _ 0 k hk (by rw [a_up_ap, if_pos ⟨rfl, by omega⟩]) (fun x hx => by rw [a_up_ap, if_neg (fun q => hx (by omega))])]
theorem a_ent_arr {ad : Nat → Nat} {cA : Nat → ClassId} {M : aM} {i : Nat} (h : (a_shape i).1 = 100 ∨ (a_shape i).1 = 101) : a_ent ad cA M i = .inl (cA i, (a_shape i).2.2, .inl (M i)) := by
  unfold a_ent
  rw [if_neg (by omega), if_neg (by omega)]
theorem a_ent_refs {ad : Nat → Nat} {cA : Nat → ClassId} {M : aM} {i : Nat} (h : (a_shape i).1 = 102) : a_ent ad cA M i = .inl (cA i, (a_shape i).2.2, .inr (.inr (.inr (.inr (a_oa ad (a_shape i).2.1))))) := by
  unfold a_ent
  rw [if_neg (by omega), if_pos h]
def a_tys (cA : Nat → ClassId) : List (ClassId × FieldType) := (List.range a_ncw).map fun i => (cA i, if (a_shape i).1 = 102 then .object aR5 else .int)
theorem a_tys_get (cA : Nat → ClassId) {i : Nat} (h : i < a_ncw) : (a_tys cA)[i]? = some (cA i, if (a_shape i).1 = 102 then .object aR5 else .int) := by
  unfold a_tys
  rw [List.getElem?_map, List.getElem?_range h]
  rfl
def a_A (ad : Nat → Nat) : Nat → Prop := fun q => ∃ i, i < a_ncw ∧ q = ad i
def a_inj (ad : Nat → Nat) : Prop := ∀ i j, i < a_ncw → j < a_ncw → ad i = ad j → i = j
theorem a_D {ad : Nat → Nat} (h : a_inj ad) (cA : Nat → ClassId) (M : aM) : va_D (a_A ad) (a_wd ad cA M) := by
  refine ⟨fun i j p q hp hq e => ?_, fun k q hk => ?_⟩
  · obtain ⟨hi, rfl⟩ := a_wd_of hp
    obtain ⟨hj, rfl⟩ := a_wd_of hq
    exact h i j hi hj e
  · obtain ⟨hi, rfl⟩ := a_wd_of hk
    exact ⟨k, hi, rfl⟩
theorem a_sh_len : a_sh.length = a_ncw + 4 := by decide +kernel
theorem a_shape_lt {i : Nat} (h : (a_shape i).1 ≠ 999) : i < a_ncw + 4 := by
  rcases Nat.lt_or_ge i (a_ncw + 4) with q | q
  · exact q
  · exfalso
    apply h
    unfold a_shape
    rw [List.getElem?_eq_none (by rw [a_sh_len]; exact q)]
    rfl
theorem a_cls_lt {ci : Nat} {q : vw_C} (h : a_cls[ci]? = some q) : ci < 100 := by
  have := (List.getElem?_eq_some_iff.mp h).1
  simp [a_cls] at this
  omega
theorem a_nest_form {x : Jvm.Cond} (h : x ∈ a_nest) : ∃ a i b n d z, x = .fieldLinkNest a i b n d z := by
  have h1 := (List.mem_filter.mp h).2
  cases x <;> first | exact ⟨_, _, _, _, _, _, rfl⟩ | (simp [a_isNest] at h1)
/-- what a state must say of the tables, and of the arrays that nobody writes -/
def a_Kn (w : aW) (D : va_G) (ad : Nat → Nat) (cA : Nat → ClassId) (U : State) : Prop := (va_X (ad a_scr) w.2.1 w.2.2 U U.heap ∧ ad a_scr < U.heap.size ∧ ¬ a_A ad (ad a_scr)) ∧ va_K D a_cls (a_tys cA) U ∧ (∀ j, j < 4 → va_Z (a_stn j).1 (a_stn j).2 "[I" (.ref (ad (a_ncw + j))) (a_A ad) U U.heap) ∧ (∀ j, j < 4 → va_T .int (ad (a_ncw + j)) (a_shape (a_ncw + j)).2.2 (fun k => .int ((a_scl (a_ncw + j)).getD k 0)) (a_A ad) U U.heap) ∧ ∀ x ∈ a_nest, va_Nw x U
theorem a_Kn.step {w : aW} {D : va_G} {ad : Nat → Nat} {cA : Nat → ClassId} {s U : State} {H : Heap} {locs : List Loc} (h : a_Kn w D ad cA s) (hS : va_S (a_A ad) s.heap H locs) (hU : U.heap = H) (hW : s.WarmedH U.vm) : a_Kn w D ad cA U := by
  refine ⟨⟨by rw [hU]; exact (va_X.moved hW.alike h.1.1).kept (hS.2.1 _ h.1.2.1 h.1.2.2), by rw [hU]; exact Nat.lt_of_lt_of_le h.1.2.1 hS.1, h.1.2.2⟩, va_K.moved hW.alike h.2.1, fun j hj => ?_, fun j hj => ?_, fun x hx => ?_⟩
  · rw [hU]
    exact (va_Z.moved hW.alike (h.2.2.1 j hj)).kept fun a h1 h2 => hS.2.1 a h1 h2
  · rw [hU]
    exact (va_T.moved hW.alike (h.2.2.2.1 j hj)).kept fun a h1 h2 => hS.2.1 a h1 h2
  · obtain ⟨a, i, b, n, d, z, rfl⟩ := a_nest_form hx
    exact va_Nw.warmF hW (h.2.2.2.2 _ hx)
theorem a_Kn.call {w : aW} {D : va_G} {ad : Nat → Nat} {cA : Nat → ClassId} {U : State} (g : JFrame) (mk : MethodId) (a : Array Value) (h : a_Kn w D ad cA U) : a_Kn w D ad cA (U.calling g mk a) := by
  refine ⟨⟨va_X.moved (u := U) (U := U.calling g mk a) (Vm.Alike.refl U.vm) h.1.1, h.1.2⟩, va_K.moved (u := U) (U := U.calling g mk a) (Vm.Alike.refl U.vm) h.2.1, fun j hj => va_Z.moved (u := U) (U := U.calling g mk a) (Vm.Alike.refl U.vm) (h.2.2.1 j hj), fun j hj => va_T.moved (u := U) (U := U.calling g mk a) (Vm.Alike.refl U.vm) (h.2.2.2.1 j hj), fun x hx => ?_⟩
  obtain ⟨q, i, b, n, d, z, rfl⟩ := a_nest_form hx
  exact va_Nw.same (u := U) (U := U.calling g mk a) rfl rfl (h.2.2.2.2 _ hx)
/-- a frame's locals -/
def a_lr (ad : Nat → Nat) (ls : Array Slot) (nL : Nat) (L : List Value) : Prop := ls.size = nL ∧ lv_wf ls ∧ L.length ≤ nL ∧ ∀ (i : Nat) (v : Value), L[i]? = some v → v ≠ a_dead → v.category = 1 → ls[i]? = some (.val (a_cv ad v))
theorem a_lr.int {ad : Nat → Nat} {ls : Array Slot} {nL : Nat} {L : List Value} (h : a_lr ad ls nL L) {i : Nat} {x : Int32} (hi : L[i]? = some (.int x)) : ls[i]? = some (.val (.int x)) := h.2.2.2 i _ hi (by simp [a_dead]) rfl
theorem a_lr.ref {ad : Nat → Nat} {ls : Array Slot} {nL : Nat} {L : List Value} (h : a_lr ad ls nL L) {i : Nat} {x : Nat} (hi : L[i]? = some (.ref x)) : ls[i]? = some (.val (.ref (ad x))) := h.2.2.2 i _ hi (by simp [a_dead]) rfl
def a_ll (ad : Nat → Nat) (L : List Value) : List (Nat × Value) := (L.zipIdx.filter fun q => decide (q.1 ≠ a_dead) && decide (q.1.category = 1)).map fun q => (q.2, a_cv ad q.1)
theorem a_ll_mem {ad : Nat → Nat} {L : List Value} {i : Nat} {v : Value} (h : L[i]? = some v) (hd : v ≠ a_dead) (hc : v.category = 1) : (i, a_cv ad v) ∈ a_ll ad L := by
  unfold a_ll
  refine List.mem_map.mpr ⟨(v, i), List.mem_filter.mpr ⟨List.mem_zipIdx_iff_getElem?.mpr h, by simp [hd, hc]⟩, rfl⟩
theorem a_lr.has {ad : Nat → Nat} {ls : Array Slot} {nL : Nat} {L : List Value} (h : a_lr ad ls nL L) : lv_has ls nL (a_ll ad L) := by
  refine ⟨h.1, h.2.1, fun q hq => ?_⟩
  unfold a_ll at hq
  obtain ⟨⟨v, i⟩, h1, rfl⟩ := List.mem_map.mp hq
  obtain ⟨h2, h3⟩ := List.mem_filter.mp h1
  simp only [Bool.and_eq_true, decide_eq_true_eq] at h3
  exact h.2.2.2 i v (List.mem_zipIdx_iff_getElem?.mp h2) h3.1 h3.2
theorem a_lr.of_store {ad : Nat → Nat} {ls : Array Slot} {nL : Nat} {L : List Value} {i : Nat} {v0 : Value} (hl : L.length ≤ nL) (hi : i < L.length) (h : lv_has ls nL ((i, a_cv ad v0) :: (a_ll ad L).filter (fun q => !(q.1 == i) && !(q.1 + 1 == i && q.2.category == 2)))) : a_lr ad ls nL (L.set i v0) := by
  refine ⟨h.1, h.2.1, by simpa using hl, fun j v hj hd hc => ?_⟩
  by_cases hji : j = i
  · subst hji
    rw [List.getElem?_set_self hi] at hj
    cases hj
    exact h.2.2 (j, a_cv ad v0) List.mem_cons_self
  · rw [List.getElem?_set_ne (Ne.symm hji)] at hj
    refine h.2.2 (j, a_cv ad v) (List.mem_cons_of_mem _ (List.mem_filter.mpr ⟨a_ll_mem hj hd hc, ?_⟩))
    simp [hji, a_cv_cat, hc]
theorem a_args_len : ∀ (vs : List Value), (∀ v ∈ vs, v.category = 1) → (lg_sl vs).length = vs.length := by
  intro vs h
  induction vs with
  | nil => rfl
  | cons v t ih =>
    have h1 := h v List.mem_cons_self
    have h2 := ih fun w hw => h w (List.mem_cons_of_mem _ hw)
    unfold lg_sl at h2 ⊢
    simp [h1, h2]
theorem a_args_mem : ∀ (vs : List Value) (k i : Nat) (v : Value), (∀ v ∈ vs, v.category = 1) → vs[i]? = some v → (k + i, v) ∈ lv_args k vs := by
  intro vs
  induction vs with
  | nil => intro k i v _ h; simp at h
  | cons u t ih =>
    intro k i v hc h
    have h1 := hc u List.mem_cons_self
    cases i with
    | zero =>
      simp at h
      subst h
      simp [lv_args]
    | succ i =>
      simp only [List.getElem?_cons_succ] at h
      have := ih (k + 1) i v (fun w hw => hc w (List.mem_cons_of_mem _ hw)) h
      simp only [lv_args, h1]
      rw [show k + (i + 1) = k + 1 + i by omega]
      exact List.mem_cons_of_mem _ (by simpa using this)
theorem a_lr_entry (ad : Nat → Nat) {As : List Value} {n : Nat} (hc : ∀ v ∈ As, v.category = 1) (hn : As.length ≤ n) {ls : Array Slot} (h : lv_has ls n (lv_args 0 (As.map (a_cv ad)))) : a_lr ad ls n (As ++ List.replicate (n - As.length) a_dead) := by
  refine ⟨h.1, h.2.1, by simp; omega, fun i v hi hd _ => ?_⟩
  rcases Nat.lt_or_ge i As.length with q | q
  · rw [List.getElem?_append_left q] at hi
    have := a_args_mem (As.map (a_cv ad)) 0 i (a_cv ad v) (fun v hv => by
      obtain ⟨u, hu, rfl⟩ := List.mem_map.mp hv
      rw [a_cv_cat]
      exact hc u hu) (by rw [List.getElem?_map, hi]; rfl)
    rw [Nat.zero_add] at this
    exact h.2.2 _ this
  · rw [List.getElem?_append_right q] at hi
    have := List.mem_of_getElem? hi
    exact absurd (List.eq_of_mem_replicate this) hd
