abbrev l_Q : Option Value → aM → Prop := fun u _ => u = some (.int 1)
set_option maxRecDepth 100000 in
theorem l_end {w : aW} {L : List Value} {M : aM} : aw w 9 a_claw 1262 L [] M l_Q := by
  refine aw_e rfl rfl rfl ?_
  exact aw_ri rfl (Or.inr (by decide +kernel)) (congrArg (fun z => some (Value.int z)) (by decide +kernel))
set_option maxRecDepth 100000 in
theorem l_next {xs : Nat → Int32} {M : aM} : aw (wA, 4, xs) 9 a_claw 1256 [.ref a_scr, .ref 0, .ref a_mo, .int 0] [] M l_Q := by
  refine aw_e rfl rfl rfl ?_
  refine aw_e rfl rfl rfl ?_
  refine aw_e rfl rfl rfl ?_
  refine aw_e rfl rfl rfl ?_
  refine aw_e rfl rfl rfl ?_
  refine aw_e rfl rfl rfl ?_
  refine aw_e rfl rfl rfl ?_
  refine aw_i2t rfl (by dsimp only; decide +kernel) ?_
  exact l_end
set_option maxRecDepth 100000 in
theorem l_0 (xs : Nat → Int32) : aw (wA, 4, xs) 9 a_claw 224 [.ref a_scr, .ref 0, .ref a_mo, .int 0] [] a_M0 l_Q := by
  obtain ⟨r, hC, hM⟩ := op_feed (xs 1)
  refine aw_e rfl rfl rfl ?_
  refine aw_e rfl rfl rfl ?_
  refine aw_e rfl rfl rfl ?_
  refine aw_e rfl rfl rfl ?_
  refine aw_e rfl rfl rfl ?_
  refine aw_e rfl rfl rfl ?_
  refine aw_cm rfl rfl (by decide) (am_C hC (fun _ _ => rfl)) (fun mt h => by cases h; rfl) (fun u M1 hu => ?_)
  obtain ⟨rfl, hag⟩ := hu
  refine aw_e rfl rfl rfl ?_
  refine aw_e rfl rfl rfl ?_
  refine aw_e rfl rfl rfl ?_
  refine aw_e rfl rfl rfl ?_
  refine aw_e rfl rfl rfl ?_
  refine aw_e rfl rfl rfl ?_
  refine aw_cm rfl rfl (by decide) (am_M hM (fun i hi => hag i hi)) (fun mt h => by cases h; rfl) (fun u M2 hu => ?_)
  subst hu
  refine aw_i2t rfl (decide_eq_true rfl) ?_
  exact l_next
set_option maxRecDepth 100000 in
theorem l_1 (xs : Nat → Int32) : aw (wA, 4, xs) 9 a_claw 247 [.ref a_scr, .ref 0, .ref a_mo, .int 0] [] a_M0 l_Q := by
  obtain ⟨r, hC, hM⟩ := op_kitchen 
  refine aw_e rfl rfl rfl ?_
  refine aw_cm rfl rfl (by decide) (am_C hC (fun _ _ => rfl)) (fun mt h => by cases h; rfl) (fun u M1 hu => ?_)
  obtain ⟨rfl, hag⟩ := hu
  refine aw_e rfl rfl rfl ?_
  refine aw_cm rfl rfl (by decide) (am_M hM (fun i hi => hag i hi)) (fun mt h => by cases h; rfl) (fun u M2 hu => ?_)
  subst hu
  refine aw_i2t rfl (decide_eq_true rfl) ?_
  exact l_next
set_option maxRecDepth 100000 in
theorem l_2 (xs : Nat → Int32) : aw (wA, 4, xs) 9 a_claw 260 [.ref a_scr, .ref 0, .ref a_mo, .int 0] [] a_M0 l_Q := by
  obtain ⟨r, hC, hM⟩ := op_thing (xs 1) (xs 2)
  refine aw_e rfl rfl rfl ?_
  refine aw_e rfl rfl rfl ?_
  refine aw_e rfl rfl rfl ?_
  refine aw_e rfl rfl rfl ?_
  refine aw_e rfl rfl rfl ?_
  refine aw_e rfl rfl rfl ?_
  refine aw_e rfl rfl rfl ?_
  refine aw_e rfl rfl rfl ?_
  refine aw_e rfl rfl rfl ?_
  refine aw_e rfl rfl rfl ?_
  refine aw_e rfl rfl rfl ?_
  refine aw_cm rfl rfl (by decide) (am_C hC (fun _ _ => rfl)) (fun mt h => by cases h; rfl) (fun u M1 hu => ?_)
  obtain ⟨rfl, hag⟩ := hu
  refine aw_e rfl rfl rfl ?_
  refine aw_e rfl rfl rfl ?_
  refine aw_e rfl rfl rfl ?_
  refine aw_e rfl rfl rfl ?_
  refine aw_e rfl rfl rfl ?_
  refine aw_e rfl rfl rfl ?_
  refine aw_e rfl rfl rfl ?_
  refine aw_e rfl rfl rfl ?_
  refine aw_e rfl rfl rfl ?_
  refine aw_e rfl rfl rfl ?_
  refine aw_e rfl rfl rfl ?_
  refine aw_cm rfl rfl (by decide) (am_M hM (fun i hi => hag i hi)) (fun mt h => by cases h; rfl) (fun u M2 hu => ?_)
  subst hu
  refine aw_i2t rfl (decide_eq_true rfl) ?_
  exact l_next
set_option maxRecDepth 100000 in
theorem l_3 (xs : Nat → Int32) : aw (wA, 4, xs) 9 a_claw 293 [.ref a_scr, .ref 0, .ref a_mo, .int 0] [] a_M0 l_Q := by
  obtain ⟨r, hC, hM⟩ := op_washing (xs 1) (xs 2) (xs 3)
  refine aw_e rfl rfl rfl ?_
  refine aw_e rfl rfl rfl ?_
  refine aw_e rfl rfl rfl ?_
  refine aw_e rfl rfl rfl ?_
  refine aw_e rfl rfl rfl ?_
  refine aw_e rfl rfl rfl ?_
  refine aw_e rfl rfl rfl ?_
  refine aw_e rfl rfl rfl ?_
  refine aw_e rfl rfl rfl ?_
  refine aw_e rfl rfl rfl ?_
  refine aw_e rfl rfl rfl ?_
  refine aw_e rfl rfl rfl ?_
  refine aw_e rfl rfl rfl ?_
  refine aw_e rfl rfl rfl ?_
  refine aw_e rfl rfl rfl ?_
  refine aw_e rfl rfl rfl ?_
  refine aw_cm rfl rfl (by decide) (am_C hC (fun _ _ => rfl)) (fun mt h => by cases h; rfl) (fun u M1 hu => ?_)
  obtain ⟨rfl, hag⟩ := hu
  refine aw_e rfl rfl rfl ?_
  refine aw_e rfl rfl rfl ?_
  refine aw_e rfl rfl rfl ?_
  refine aw_e rfl rfl rfl ?_
  refine aw_e rfl rfl rfl ?_
  refine aw_e rfl rfl rfl ?_
  refine aw_e rfl rfl rfl ?_
  refine aw_e rfl rfl rfl ?_
  refine aw_e rfl rfl rfl ?_
  refine aw_e rfl rfl rfl ?_
  refine aw_e rfl rfl rfl ?_
  refine aw_e rfl rfl rfl ?_
  refine aw_e rfl rfl rfl ?_
  refine aw_e rfl rfl rfl ?_
  refine aw_e rfl rfl rfl ?_
  refine aw_e rfl rfl rfl ?_
  refine aw_cm rfl rfl (by decide) (am_M hM (fun i hi => hag i hi)) (fun mt h => by cases h; rfl) (fun u M2 hu => ?_)
  subst hu
  refine aw_i2t rfl (decide_eq_true rfl) ?_
  exact l_next
set_option maxRecDepth 100000 in
theorem l_4 (xs : Nat → Int32) : aw (wA, 4, xs) 9 a_claw 336 [.ref a_scr, .ref 0, .ref a_mo, .int 0] [] a_M0 l_Q := by
  obtain ⟨r, hC, hM⟩ := op_set (xs 1) (xs 2)
  refine aw_e rfl rfl rfl ?_
  refine aw_e rfl rfl rfl ?_
  refine aw_e rfl rfl rfl ?_
  refine aw_e rfl rfl rfl ?_
  refine aw_e rfl rfl rfl ?_
  refine aw_e rfl rfl rfl ?_
  refine aw_e rfl rfl rfl ?_
  refine aw_e rfl rfl rfl ?_
  refine aw_e rfl rfl rfl ?_
  refine aw_e rfl rfl rfl ?_
  refine aw_e rfl rfl rfl ?_
  refine aw_cm rfl rfl (by decide) (am_C hC (fun _ _ => rfl)) (fun mt h => by cases h; rfl) (fun u M1 hu => ?_)
  obtain ⟨rfl, hag⟩ := hu
  refine aw_e rfl rfl rfl ?_
  refine aw_e rfl rfl rfl ?_
  refine aw_e rfl rfl rfl ?_
  refine aw_e rfl rfl rfl ?_
  refine aw_e rfl rfl rfl ?_
  refine aw_e rfl rfl rfl ?_
  refine aw_e rfl rfl rfl ?_
  refine aw_e rfl rfl rfl ?_
  refine aw_e rfl rfl rfl ?_
  refine aw_e rfl rfl rfl ?_
  refine aw_e rfl rfl rfl ?_
  refine aw_cm rfl rfl (by decide) (am_M hM (fun i hi => hag i hi)) (fun mt h => by cases h; rfl) (fun u M2 hu => ?_)
  subst hu
  refine aw_i2t rfl (decide_eq_true rfl) ?_
  exact l_next
set_option maxRecDepth 100000 in
theorem l_5 (xs : Nat → Int32) : aw (wA, 4, xs) 9 a_claw 369 [.ref a_scr, .ref 0, .ref a_mo, .int 0] [] a_M0 l_Q := by
  obtain ⟨r, hC, hM⟩ := op_put (xs 1)
  refine aw_e rfl rfl rfl ?_
  refine aw_e rfl rfl rfl ?_
  refine aw_e rfl rfl rfl ?_
  refine aw_e rfl rfl rfl ?_
  refine aw_e rfl rfl rfl ?_
  refine aw_e rfl rfl rfl ?_
  refine aw_cm rfl rfl (by decide) (am_C hC (fun _ _ => rfl)) (fun mt h => by cases h; rfl) (fun u M1 hu => ?_)
  obtain ⟨rfl, hag⟩ := hu
  refine aw_e rfl rfl rfl ?_
  refine aw_e rfl rfl rfl ?_
  refine aw_e rfl rfl rfl ?_
  refine aw_e rfl rfl rfl ?_
  refine aw_e rfl rfl rfl ?_
  refine aw_e rfl rfl rfl ?_
  refine aw_cm rfl rfl (by decide) (am_M hM (fun i hi => hag i hi)) (fun mt h => by cases h; rfl) (fun u M2 hu => ?_)
  subst hu
  refine aw_i2t rfl (decide_eq_true rfl) ?_
  exact l_next
set_option maxRecDepth 100000 in
theorem l_6 (xs : Nat → Int32) : aw (wA, 4, xs) 9 a_claw 392 [.ref a_scr, .ref 0, .ref a_mo, .int 0] [] a_M0 l_Q := by
  obtain ⟨r, hC, hM⟩ := op_take 
  refine aw_e rfl rfl rfl ?_
  refine aw_cm rfl rfl (by decide) (am_C hC (fun _ _ => rfl)) (fun mt h => by cases h; rfl) (fun u M1 hu => ?_)
  obtain ⟨rfl, hag⟩ := hu
  refine aw_e rfl rfl rfl ?_
  refine aw_cm rfl rfl (by decide) (am_M hM (fun i hi => hag i hi)) (fun mt h => by cases h; rfl) (fun u M2 hu => ?_)
  subst hu
  refine aw_i2t rfl (decide_eq_true rfl) ?_
  exact l_next
set_option maxRecDepth 100000 in
theorem l_7 (xs : Nat → Int32) : aw (wA, 4, xs) 9 a_claw 405 [.ref a_scr, .ref 0, .ref a_mo, .int 0] [] a_M0 l_Q := by
  obtain ⟨r, hC, hM⟩ := op_fresh (xs 1)
  refine aw_e rfl rfl rfl ?_
  refine aw_e rfl rfl rfl ?_
  refine aw_e rfl rfl rfl ?_
  refine aw_e rfl rfl rfl ?_
  refine aw_e rfl rfl rfl ?_
  refine aw_e rfl rfl rfl ?_
  refine aw_cm rfl rfl (by decide) (am_C hC (fun _ _ => rfl)) (fun mt h => by cases h; rfl) (fun u M1 hu => ?_)
  obtain ⟨rfl, hag⟩ := hu
  refine aw_e rfl rfl rfl ?_
  refine aw_e rfl rfl rfl ?_
  refine aw_e rfl rfl rfl ?_
  refine aw_e rfl rfl rfl ?_
  refine aw_e rfl rfl rfl ?_
  refine aw_e rfl rfl rfl ?_
  refine aw_cm rfl rfl (by decide) (am_M hM (fun i hi => hag i hi)) (fun mt h => by cases h; rfl) (fun u M2 hu => ?_)
  subst hu
  refine aw_i2t rfl (decide_eq_true rfl) ?_
  exact l_next
set_option maxRecDepth 100000 in
theorem l_8 (xs : Nat → Int32) : aw (wA, 4, xs) 9 a_claw 428 [.ref a_scr, .ref 0, .ref a_mo, .int 0] [] a_M0 l_Q := by
  obtain ⟨r, hC, hM⟩ := op_place (xs 1) (xs 2)
  refine aw_e rfl rfl rfl ?_
  refine aw_e rfl rfl rfl ?_
  refine aw_e rfl rfl rfl ?_
  refine aw_e rfl rfl rfl ?_
  refine aw_e rfl rfl rfl ?_
  refine aw_e rfl rfl rfl ?_
  refine aw_e rfl rfl rfl ?_
  refine aw_e rfl rfl rfl ?_
  refine aw_e rfl rfl rfl ?_
  refine aw_e rfl rfl rfl ?_
  refine aw_e rfl rfl rfl ?_
  refine aw_cm rfl rfl (by decide) (am_C hC (fun _ _ => rfl)) (fun mt h => by cases h; rfl) (fun u M1 hu => ?_)
  obtain ⟨rfl, hag⟩ := hu
  refine aw_e rfl rfl rfl ?_
  refine aw_e rfl rfl rfl ?_
  refine aw_e rfl rfl rfl ?_
  refine aw_e rfl rfl rfl ?_
  refine aw_e rfl rfl rfl ?_
  refine aw_e rfl rfl rfl ?_
  refine aw_e rfl rfl rfl ?_
  refine aw_e rfl rfl rfl ?_
  refine aw_e rfl rfl rfl ?_
  refine aw_e rfl rfl rfl ?_
  refine aw_e rfl rfl rfl ?_
  refine aw_cm rfl rfl (by decide) (am_M hM (fun i hi => hag i hi)) (fun mt h => by cases h; rfl) (fun u M2 hu => ?_)
  subst hu
  refine aw_i2t rfl (decide_eq_true rfl) ?_
  exact l_next
set_option maxRecDepth 100000 in
theorem l_9 (xs : Nat → Int32) : aw (wA, 4, xs) 9 a_claw 461 [.ref a_scr, .ref 0, .ref a_mo, .int 0] [] a_M0 l_Q := by
  obtain ⟨r, hC, hM⟩ := op_clear 
  refine aw_e rfl rfl rfl ?_
  refine aw_cm rfl rfl (by decide) (am_C hC (fun _ _ => rfl)) (fun mt h => by cases h; rfl) (fun u M1 hu => ?_)
  obtain ⟨rfl, hag⟩ := hu
  refine aw_e rfl rfl rfl ?_
  refine aw_cm rfl rfl (by decide) (am_M hM (fun i hi => hag i hi)) (fun mt h => by cases h; rfl) (fun u M2 hu => ?_)
  subst hu
  refine aw_i2t rfl (decide_eq_true rfl) ?_
  exact l_next
set_option maxRecDepth 100000 in
theorem l_10 (xs : Nat → Int32) : aw (wA, 4, xs) 9 a_claw 474 [.ref a_scr, .ref 0, .ref a_mo, .int 0] [] a_M0 l_Q := by
  obtain ⟨r, hC, hM⟩ := op_may 
  refine aw_e rfl rfl rfl ?_
  refine aw_cm rfl rfl (by decide) (am_C hC (fun _ _ => rfl)) (fun mt h => by cases h; rfl) (fun u M1 hu => ?_)
  obtain ⟨rfl, hag⟩ := hu
  refine aw_e rfl rfl rfl ?_
  refine aw_cm rfl rfl (by decide) (am_M hM (fun i hi => hag i hi)) (fun mt h => by cases h; rfl) (fun u M2 hu => ?_)
  subst hu
  refine aw_i2t rfl (decide_eq_true rfl) ?_
  exact l_next
set_option maxRecDepth 100000 in
theorem l_11 (xs : Nat → Int32) : aw (wA, 4, xs) 9 a_claw 487 [.ref a_scr, .ref 0, .ref a_mo, .int 0] [] a_M0 l_Q := by
  obtain ⟨r, hC, hM⟩ := op_when (xs 1) (xs 2)
  refine aw_e rfl rfl rfl ?_
  refine aw_e rfl rfl rfl ?_
  refine aw_e rfl rfl rfl ?_
  refine aw_e rfl rfl rfl ?_
  refine aw_e rfl rfl rfl ?_
  refine aw_e rfl rfl rfl ?_
  refine aw_e rfl rfl rfl ?_
  refine aw_e rfl rfl rfl ?_
  refine aw_e rfl rfl rfl ?_
  refine aw_e rfl rfl rfl ?_
  refine aw_e rfl rfl rfl ?_
  refine aw_cm rfl rfl (by decide) (am_C hC (fun _ _ => rfl)) (fun mt h => by cases h; rfl) (fun u M1 hu => ?_)
  obtain ⟨rfl, hag⟩ := hu
  refine aw_e rfl rfl rfl ?_
  refine aw_e rfl rfl rfl ?_
  refine aw_e rfl rfl rfl ?_
  refine aw_e rfl rfl rfl ?_
  refine aw_e rfl rfl rfl ?_
  refine aw_e rfl rfl rfl ?_
  refine aw_e rfl rfl rfl ?_
  refine aw_e rfl rfl rfl ?_
  refine aw_e rfl rfl rfl ?_
  refine aw_e rfl rfl rfl ?_
  refine aw_e rfl rfl rfl ?_
  refine aw_cm rfl rfl (by decide) (am_M hM (fun i hi => hag i hi)) (fun mt h => by cases h; rfl) (fun u M2 hu => ?_)
  subst hu
  refine aw_i2t rfl (decide_eq_true rfl) ?_
  exact l_next
set_option maxRecDepth 100000 in
theorem l_12 (xs : Nat → Int32) : aw (wA, 4, xs) 9 a_claw 520 [.ref a_scr, .ref 0, .ref a_mo, .int 0] [] a_M0 l_Q := by
  obtain ⟨r, hC, hM⟩ := op_through 
  refine aw_e rfl rfl rfl ?_
  refine aw_cm rfl rfl (by decide) (am_C hC (fun _ _ => rfl)) (fun mt h => by cases h; rfl) (fun u M1 hu => ?_)
  obtain ⟨rfl, hag⟩ := hu
  refine aw_e rfl rfl rfl ?_
  refine aw_cm rfl rfl (by decide) (am_M hM (fun i hi => hag i hi)) (fun mt h => by cases h; rfl) (fun u M2 hu => ?_)
  subst hu
  refine aw_i2t rfl (decide_eq_true rfl) ?_
  exact l_next
set_option maxRecDepth 100000 in
theorem l_13 (xs : Nat → Int32) : aw (wA, 4, xs) 9 a_claw 533 [.ref a_scr, .ref 0, .ref a_mo, .int 0] [] a_M0 l_Q := by
  obtain ⟨r, hC, hM⟩ := op_waits (xs 1)
  refine aw_e rfl rfl rfl ?_
  refine aw_e rfl rfl rfl ?_
  refine aw_e rfl rfl rfl ?_
  refine aw_e rfl rfl rfl ?_
  refine aw_e rfl rfl rfl ?_
  refine aw_e rfl rfl rfl ?_
  refine aw_cm rfl rfl (by decide) (am_C hC (fun _ _ => rfl)) (fun mt h => by cases h; rfl) (fun u M1 hu => ?_)
  obtain ⟨rfl, hag⟩ := hu
  refine aw_e rfl rfl rfl ?_
  refine aw_e rfl rfl rfl ?_
  refine aw_e rfl rfl rfl ?_
  refine aw_e rfl rfl rfl ?_
  refine aw_e rfl rfl rfl ?_
  refine aw_e rfl rfl rfl ?_
  refine aw_cm rfl rfl (by decide) (am_M hM (fun i hi => hag i hi)) (fun mt h => by cases h; rfl) (fun u M2 hu => ?_)
  subst hu
  refine aw_i2t rfl (decide_eq_true rfl) ?_
  exact l_next
set_option maxRecDepth 100000 in
theorem l_14 (xs : Nat → Int32) : aw (wA, 4, xs) 9 a_claw 556 [.ref a_scr, .ref 0, .ref a_mo, .int 0] [] a_M0 l_Q := by
  obtain ⟨r, hC, hM⟩ := op_wet (xs 1)
  refine aw_e rfl rfl rfl ?_
  refine aw_e rfl rfl rfl ?_
  refine aw_e rfl rfl rfl ?_
  refine aw_e rfl rfl rfl ?_
  refine aw_e rfl rfl rfl ?_
  refine aw_e rfl rfl rfl ?_
  refine aw_cm rfl rfl (by decide) (am_C hC (fun _ _ => rfl)) (fun mt h => by cases h; rfl) (fun u M1 hu => ?_)
  obtain ⟨rfl, hag⟩ := hu
  refine aw_e rfl rfl rfl ?_
  refine aw_e rfl rfl rfl ?_
  refine aw_e rfl rfl rfl ?_
  refine aw_e rfl rfl rfl ?_
  refine aw_e rfl rfl rfl ?_
  refine aw_e rfl rfl rfl ?_
  refine aw_cm rfl rfl (by decide) (am_M hM (fun i hi => hag i hi)) (fun mt h => by cases h; rfl) (fun u M2 hu => ?_)
  subst hu
  refine aw_i2t rfl (decide_eq_true rfl) ?_
  exact l_next
set_option maxRecDepth 100000 in
theorem l_15 (xs : Nat → Int32) : aw (wA, 4, xs) 9 a_claw 579 [.ref a_scr, .ref 0, .ref a_mo, .int 0] [] a_M0 l_Q := by
  obtain ⟨r, hC, hM⟩ := op_hands (xs 1)
  refine aw_e rfl rfl rfl ?_
  refine aw_e rfl rfl rfl ?_
  refine aw_e rfl rfl rfl ?_
  refine aw_e rfl rfl rfl ?_
  refine aw_e rfl rfl rfl ?_
  refine aw_e rfl rfl rfl ?_
  refine aw_cm rfl rfl (by decide) (am_C hC (fun _ _ => rfl)) (fun mt h => by cases h; rfl) (fun u M1 hu => ?_)
  obtain ⟨rfl, hag⟩ := hu
  refine aw_e rfl rfl rfl ?_
  refine aw_e rfl rfl rfl ?_
  refine aw_e rfl rfl rfl ?_
  refine aw_e rfl rfl rfl ?_
  refine aw_e rfl rfl rfl ?_
  refine aw_e rfl rfl rfl ?_
  refine aw_cm rfl rfl (by decide) (am_M hM (fun i hi => hag i hi)) (fun mt h => by cases h; rfl) (fun u M2 hu => ?_)
  subst hu
  refine aw_i2t rfl (decide_eq_true rfl) ?_
  exact l_next
set_option maxRecDepth 100000 in
theorem l_16 (xs : Nat → Int32) : aw (wA, 4, xs) 9 a_claw 602 [.ref a_scr, .ref 0, .ref a_mo, .int 0] [] a_M0 l_Q := by
  obtain ⟨r, hC, hM⟩ := op_soonest (xs 1)
  refine aw_e rfl rfl rfl ?_
  refine aw_e rfl rfl rfl ?_
  refine aw_e rfl rfl rfl ?_
  refine aw_e rfl rfl rfl ?_
  refine aw_e rfl rfl rfl ?_
  refine aw_e rfl rfl rfl ?_
  refine aw_cm rfl rfl (by decide) (am_C hC (fun _ _ => rfl)) (fun mt h => by cases h; rfl) (fun u M1 hu => ?_)
  obtain ⟨rfl, hag⟩ := hu
  refine aw_e rfl rfl rfl ?_
  refine aw_e rfl rfl rfl ?_
  refine aw_e rfl rfl rfl ?_
  refine aw_e rfl rfl rfl ?_
  refine aw_e rfl rfl rfl ?_
  refine aw_e rfl rfl rfl ?_
  refine aw_cm rfl rfl (by decide) (am_M hM (fun i hi => hag i hi)) (fun mt h => by cases h; rfl) (fun u M2 hu => ?_)
  subst hu
  refine aw_i2t rfl (decide_eq_true rfl) ?_
  exact l_next
set_option maxRecDepth 100000 in
theorem l_17 (xs : Nat → Int32) : aw (wA, 4, xs) 9 a_claw 625 [.ref a_scr, .ref 0, .ref a_mo, .int 0] [] a_M0 l_Q := by
  obtain ⟨r, hC, hM⟩ := op_rack (xs 1)
  refine aw_e rfl rfl rfl ?_
  refine aw_e rfl rfl rfl ?_
  refine aw_e rfl rfl rfl ?_
  refine aw_e rfl rfl rfl ?_
  refine aw_e rfl rfl rfl ?_
  refine aw_e rfl rfl rfl ?_
  refine aw_cm rfl rfl (by decide) (am_C hC (fun _ _ => rfl)) (fun mt h => by cases h; rfl) (fun u M1 hu => ?_)
  obtain ⟨rfl, hag⟩ := hu
  refine aw_e rfl rfl rfl ?_
  refine aw_e rfl rfl rfl ?_
  refine aw_e rfl rfl rfl ?_
  refine aw_e rfl rfl rfl ?_
  refine aw_e rfl rfl rfl ?_
  refine aw_e rfl rfl rfl ?_
  refine aw_cm rfl rfl (by decide) (am_M hM (fun i hi => hag i hi)) (fun mt h => by cases h; rfl) (fun u M2 hu => ?_)
  subst hu
  refine aw_i2t rfl (decide_eq_true rfl) ?_
  exact l_next
set_option maxRecDepth 100000 in
theorem l_18 (xs : Nat → Int32) : aw (wA, 4, xs) 9 a_claw 648 [.ref a_scr, .ref 0, .ref a_mo, .int 0] [] a_M0 l_Q := by
  obtain ⟨r, hC, hM⟩ := op_water (xs 1)
  refine aw_e rfl rfl rfl ?_
  refine aw_e rfl rfl rfl ?_
  refine aw_e rfl rfl rfl ?_
  refine aw_e rfl rfl rfl ?_
  refine aw_e rfl rfl rfl ?_
  refine aw_e rfl rfl rfl ?_
  refine aw_cm rfl rfl (by decide) (am_C hC (fun _ _ => rfl)) (fun mt h => by cases h; rfl) (fun u M1 hu => ?_)
  obtain ⟨rfl, hag⟩ := hu
  refine aw_e rfl rfl rfl ?_
  refine aw_e rfl rfl rfl ?_
  refine aw_e rfl rfl rfl ?_
  refine aw_e rfl rfl rfl ?_
  refine aw_e rfl rfl rfl ?_
  refine aw_e rfl rfl rfl ?_
  refine aw_cm rfl rfl (by decide) (am_M hM (fun i hi => hag i hi)) (fun mt h => by cases h; rfl) (fun u M2 hu => ?_)
  subst hu
  refine aw_i2t rfl (decide_eq_true rfl) ?_
  exact l_next
set_option maxRecDepth 100000 in
theorem l_19 (xs : Nat → Int32) : aw (wA, 4, xs) 9 a_claw 671 [.ref a_scr, .ref 0, .ref a_mo, .int 0] [] a_M0 l_Q := by
  obtain ⟨r, hC, hM⟩ := op_cloths 
  refine aw_e rfl rfl rfl ?_
  refine aw_cm rfl rfl (by decide) (am_C hC (fun _ _ => rfl)) (fun mt h => by cases h; rfl) (fun u M1 hu => ?_)
  obtain ⟨rfl, hag⟩ := hu
  refine aw_e rfl rfl rfl ?_
  refine aw_cm rfl rfl (by decide) (am_M hM (fun i hi => hag i hi)) (fun mt h => by cases h; rfl) (fun u M2 hu => ?_)
  subst hu
  refine aw_i2t rfl (decide_eq_true rfl) ?_
  exact l_next
set_option maxRecDepth 100000 in
theorem l_20 (xs : Nat → Int32) : aw (wA, 4, xs) 9 a_claw 684 [.ref a_scr, .ref 0, .ref a_mo, .int 0] [] a_M0 l_Q := by
  obtain ⟨r, hC, hM⟩ := op_changed 
  refine aw_e rfl rfl rfl ?_
  refine aw_cm rfl rfl (by decide) (am_C hC (fun _ _ => rfl)) (fun mt h => by cases h; rfl) (fun u M1 hu => ?_)
  obtain ⟨rfl, hag⟩ := hu
  refine aw_e rfl rfl rfl ?_
  refine aw_cm rfl rfl (by decide) (am_M hM (fun i hi => hag i hi)) (fun mt h => by cases h; rfl) (fun u M2 hu => ?_)
  subst hu
  refine aw_i2t rfl (decide_eq_true rfl) ?_
  exact l_next
set_option maxRecDepth 100000 in
theorem l_21 (xs : Nat → Int32) : aw (wA, 4, xs) 9 a_claw 697 [.ref a_scr, .ref 0, .ref a_mo, .int 0] [] a_M0 l_Q := by
  obtain ⟨r, hC, hM⟩ := op_where (xs 1)
  refine aw_e rfl rfl rfl ?_
  refine aw_e rfl rfl rfl ?_
  refine aw_e rfl rfl rfl ?_
  refine aw_e rfl rfl rfl ?_
  refine aw_e rfl rfl rfl ?_
  refine aw_e rfl rfl rfl ?_
  refine aw_cm rfl rfl (by decide) (am_C hC (fun _ _ => rfl)) (fun mt h => by cases h; rfl) (fun u M1 hu => ?_)
  obtain ⟨rfl, hag⟩ := hu
  refine aw_e rfl rfl rfl ?_
  refine aw_e rfl rfl rfl ?_
  refine aw_e rfl rfl rfl ?_
  refine aw_e rfl rfl rfl ?_
  refine aw_e rfl rfl rfl ?_
  refine aw_e rfl rfl rfl ?_
  refine aw_cm rfl rfl (by decide) (am_M hM (fun i hi => hag i hi)) (fun mt h => by cases h; rfl) (fun u M2 hu => ?_)
  subst hu
  refine aw_i2t rfl (decide_eq_true rfl) ?_
  exact l_next
set_option maxRecDepth 100000 in
theorem l_22 (xs : Nat → Int32) : aw (wA, 4, xs) 9 a_claw 720 [.ref a_scr, .ref 0, .ref a_mo, .int 0] [] a_M0 l_Q := by
  obtain ⟨r, hC, hM⟩ := op_either 
  refine aw_e rfl rfl rfl ?_
  refine aw_cm rfl rfl (by decide) (am_C hC (fun _ _ => rfl)) (fun mt h => by cases h; rfl) (fun u M1 hu => ?_)
  obtain ⟨rfl, hag⟩ := hu
  refine aw_e rfl rfl rfl ?_
  refine aw_cm rfl rfl (by decide) (am_M hM (fun i hi => hag i hi)) (fun mt h => by cases h; rfl) (fun u M2 hu => ?_)
  subst hu
  refine aw_i2t rfl (decide_eq_true rfl) ?_
  exact l_next
set_option maxRecDepth 100000 in
theorem l_23 (xs : Nat → Int32) : aw (wA, 4, xs) 9 a_claw 733 [.ref a_scr, .ref 0, .ref a_mo, .int 0] [] a_M0 l_Q := by
  obtain ⟨r, hC, hM⟩ := op_alone (xs 1)
  refine aw_e rfl rfl rfl ?_
  refine aw_e rfl rfl rfl ?_
  refine aw_e rfl rfl rfl ?_
  refine aw_e rfl rfl rfl ?_
  refine aw_e rfl rfl rfl ?_
  refine aw_e rfl rfl rfl ?_
  refine aw_cm rfl rfl (by decide) (am_C hC (fun _ _ => rfl)) (fun mt h => by cases h; rfl) (fun u M1 hu => ?_)
  obtain ⟨rfl, hag⟩ := hu
  refine aw_e rfl rfl rfl ?_
  refine aw_e rfl rfl rfl ?_
  refine aw_e rfl rfl rfl ?_
  refine aw_e rfl rfl rfl ?_
  refine aw_e rfl rfl rfl ?_
  refine aw_e rfl rfl rfl ?_
  refine aw_cm rfl rfl (by decide) (am_M hM (fun i hi => hag i hi)) (fun mt h => by cases h; rfl) (fun u M2 hu => ?_)
  subst hu
  refine aw_i2t rfl (decide_eq_true rfl) ?_
  exact l_next
set_option maxRecDepth 100000 in
theorem l_24 (xs : Nat → Int32) : aw (wA, 4, xs) 9 a_claw 756 [.ref a_scr, .ref 0, .ref a_mo, .int 0] [] a_M0 l_Q := by
  obtain ⟨r, hC, hM⟩ := op_third 
  refine aw_e rfl rfl rfl ?_
  refine aw_cm rfl rfl (by decide) (am_C hC (fun _ _ => rfl)) (fun mt h => by cases h; rfl) (fun u M1 hu => ?_)
  obtain ⟨rfl, hag⟩ := hu
  refine aw_e rfl rfl rfl ?_
  refine aw_cm rfl rfl (by decide) (am_M hM (fun i hi => hag i hi)) (fun mt h => by cases h; rfl) (fun u M2 hu => ?_)
  subst hu
  refine aw_i2t rfl (decide_eq_true rfl) ?_
  exact l_next
set_option maxRecDepth 100000 in
theorem l_25 (xs : Nat → Int32) : aw (wA, 4, xs) 9 a_claw 769 [.ref a_scr, .ref 0, .ref a_mo, .int 0] [] a_M0 l_Q := by
  obtain ⟨r, hC, hM⟩ := op_week (xs 1)
  refine aw_e rfl rfl rfl ?_
  refine aw_e rfl rfl rfl ?_
  refine aw_e rfl rfl rfl ?_
  refine aw_e rfl rfl rfl ?_
  refine aw_e rfl rfl rfl ?_
  refine aw_e rfl rfl rfl ?_
  refine aw_cm rfl rfl (by decide) (am_C hC (fun _ _ => rfl)) (fun mt h => by cases h; rfl) (fun u M1 hu => ?_)
  obtain ⟨rfl, hag⟩ := hu
  refine aw_e rfl rfl rfl ?_
  refine aw_e rfl rfl rfl ?_
  refine aw_e rfl rfl rfl ?_
  refine aw_e rfl rfl rfl ?_
  refine aw_e rfl rfl rfl ?_
  refine aw_e rfl rfl rfl ?_
  refine aw_cm rfl rfl (by decide) (am_M hM (fun i hi => hag i hi)) (fun mt h => by cases h; rfl) (fun u M2 hu => ?_)
  subst hu
  refine aw_i2t rfl (decide_eq_true rfl) ?_
  exact l_next
set_option maxRecDepth 100000 in
theorem l_26 (xs : Nat → Int32) : aw (wA, 4, xs) 9 a_claw 792 [.ref a_scr, .ref 0, .ref a_mo, .int 0] [] a_M0 l_Q := by
  obtain ⟨r, hC, hM⟩ := op_rule (xs 1) (xs 2)
  refine aw_e rfl rfl rfl ?_
  refine aw_e rfl rfl rfl ?_
  refine aw_e rfl rfl rfl ?_
  refine aw_e rfl rfl rfl ?_
  refine aw_e rfl rfl rfl ?_
  refine aw_e rfl rfl rfl ?_
  refine aw_e rfl rfl rfl ?_
  refine aw_e rfl rfl rfl ?_
  refine aw_e rfl rfl rfl ?_
  refine aw_e rfl rfl rfl ?_
  refine aw_e rfl rfl rfl ?_
  refine aw_cm rfl rfl (by decide) (am_C hC (fun _ _ => rfl)) (fun mt h => by cases h; rfl) (fun u M1 hu => ?_)
  obtain ⟨rfl, hag⟩ := hu
  refine aw_e rfl rfl rfl ?_
  refine aw_e rfl rfl rfl ?_
  refine aw_e rfl rfl rfl ?_
  refine aw_e rfl rfl rfl ?_
  refine aw_e rfl rfl rfl ?_
  refine aw_e rfl rfl rfl ?_
  refine aw_e rfl rfl rfl ?_
  refine aw_e rfl rfl rfl ?_
  refine aw_e rfl rfl rfl ?_
  refine aw_e rfl rfl rfl ?_
  refine aw_e rfl rfl rfl ?_
  refine aw_cm rfl rfl (by decide) (am_M hM (fun i hi => hag i hi)) (fun mt h => by cases h; rfl) (fun u M2 hu => ?_)
  subst hu
  refine aw_i2t rfl (decide_eq_true rfl) ?_
  exact l_next
set_option maxRecDepth 100000 in
theorem l_27 (xs : Nat → Int32) : aw (wA, 4, xs) 9 a_claw 825 [.ref a_scr, .ref 0, .ref a_mo, .int 0] [] a_M0 l_Q := by
  obtain ⟨r, hC, hM⟩ := op_best 
  refine aw_e rfl rfl rfl ?_
  refine aw_cm rfl rfl (by decide) (am_C hC (fun _ _ => rfl)) (fun mt h => by cases h; rfl) (fun u M1 hu => ?_)
  obtain ⟨rfl, hag⟩ := hu
  refine aw_e rfl rfl rfl ?_
  refine aw_cm rfl rfl (by decide) (am_M hM (fun i hi => hag i hi)) (fun mt h => by cases h; rfl) (fun u M2 hu => ?_)
  subst hu
  refine aw_i2t rfl (decide_eq_true rfl) ?_
  exact l_next
set_option maxRecDepth 100000 in
theorem l_28 (xs : Nat → Int32) : aw (wA, 4, xs) 9 a_claw 838 [.ref a_scr, .ref 0, .ref a_mo, .int 0] [] a_M0 l_Q := by
  obtain ⟨r, hC, hM⟩ := op_fits (xs 1) (xs 2) (xs 3)
  refine aw_e rfl rfl rfl ?_
  refine aw_e rfl rfl rfl ?_
  refine aw_e rfl rfl rfl ?_
  refine aw_e rfl rfl rfl ?_
  refine aw_e rfl rfl rfl ?_
  refine aw_e rfl rfl rfl ?_
  refine aw_e rfl rfl rfl ?_
  refine aw_e rfl rfl rfl ?_
  refine aw_e rfl rfl rfl ?_
  refine aw_e rfl rfl rfl ?_
  refine aw_e rfl rfl rfl ?_
  refine aw_e rfl rfl rfl ?_
  refine aw_e rfl rfl rfl ?_
  refine aw_e rfl rfl rfl ?_
  refine aw_e rfl rfl rfl ?_
  refine aw_e rfl rfl rfl ?_
  refine aw_cm rfl rfl (by decide) (am_C hC (fun _ _ => rfl)) (fun mt h => by cases h; rfl) (fun u M1 hu => ?_)
  obtain ⟨rfl, hag⟩ := hu
  refine aw_e rfl rfl rfl ?_
  refine aw_e rfl rfl rfl ?_
  refine aw_e rfl rfl rfl ?_
  refine aw_e rfl rfl rfl ?_
  refine aw_e rfl rfl rfl ?_
  refine aw_e rfl rfl rfl ?_
  refine aw_e rfl rfl rfl ?_
  refine aw_e rfl rfl rfl ?_
  refine aw_e rfl rfl rfl ?_
  refine aw_e rfl rfl rfl ?_
  refine aw_e rfl rfl rfl ?_
  refine aw_e rfl rfl rfl ?_
  refine aw_e rfl rfl rfl ?_
  refine aw_e rfl rfl rfl ?_
  refine aw_e rfl rfl rfl ?_
  refine aw_e rfl rfl rfl ?_
  refine aw_cm rfl rfl (by decide) (am_M hM (fun i hi => hag i hi)) (fun mt h => by cases h; rfl) (fun u M2 hu => ?_)
  subst hu
  refine aw_i2t rfl (decide_eq_true rfl) ?_
  exact l_next
set_option maxRecDepth 100000 in
theorem l_29 (xs : Nat → Int32) : aw (wA, 4, xs) 9 a_claw 881 [.ref a_scr, .ref 0, .ref a_mo, .int 0] [] a_M0 l_Q := by
  obtain ⟨r, hC, hM⟩ := op_row (xs 1)
  refine aw_e rfl rfl rfl ?_
  refine aw_e rfl rfl rfl ?_
  refine aw_e rfl rfl rfl ?_
  refine aw_e rfl rfl rfl ?_
  refine aw_e rfl rfl rfl ?_
  refine aw_e rfl rfl rfl ?_
  refine aw_cm rfl rfl (by decide) (am_C hC (fun _ _ => rfl)) (fun mt h => by cases h; rfl) (fun u M1 hu => ?_)
  obtain ⟨rfl, hag⟩ := hu
  refine aw_e rfl rfl rfl ?_
  refine aw_e rfl rfl rfl ?_
  refine aw_e rfl rfl rfl ?_
  refine aw_e rfl rfl rfl ?_
  refine aw_e rfl rfl rfl ?_
  refine aw_e rfl rfl rfl ?_
  refine aw_cm rfl rfl (by decide) (am_M hM (fun i hi => hag i hi)) (fun mt h => by cases h; rfl) (fun u M2 hu => ?_)
  subst hu
  refine aw_i2t rfl (decide_eq_true rfl) ?_
  exact l_next
set_option maxRecDepth 100000 in
theorem l_30 (xs : Nat → Int32) : aw (wA, 4, xs) 9 a_claw 904 [.ref a_scr, .ref 0, .ref a_mo, .int 0] [] a_M0 l_Q := by
  obtain ⟨r, hC, hM⟩ := op_judge 
  refine aw_e rfl rfl rfl ?_
  refine aw_cm rfl rfl (by decide) (am_C hC (fun _ _ => rfl)) (fun mt h => by cases h; rfl) (fun u M1 hu => ?_)
  obtain ⟨rfl, hag⟩ := hu
  refine aw_e rfl rfl rfl ?_
  refine aw_cm rfl rfl (by decide) (am_M hM (fun i hi => hag i hi)) (fun mt h => by cases h; rfl) (fun u M2 hu => ?_)
  subst hu
  refine aw_i2t rfl (decide_eq_true rfl) ?_
  exact l_next
set_option maxRecDepth 100000 in
theorem l_31 (xs : Nat → Int32) : aw (wA, 4, xs) 9 a_claw 917 [.ref a_scr, .ref 0, .ref a_mo, .int 0] [] a_M0 l_Q := by
  obtain ⟨r, hC, hM⟩ := op_drop 
  refine aw_e rfl rfl rfl ?_
  refine aw_cm rfl rfl (by decide) (am_C hC (fun _ _ => rfl)) (fun mt h => by cases h; rfl) (fun u M1 hu => ?_)
  obtain ⟨rfl, hag⟩ := hu
  refine aw_e rfl rfl rfl ?_
  refine aw_cm rfl rfl (by decide) (am_M hM (fun i hi => hag i hi)) (fun mt h => by cases h; rfl) (fun u M2 hu => ?_)
  subst hu
  refine aw_i2t rfl (decide_eq_true rfl) ?_
  exact l_next
set_option maxRecDepth 100000 in
theorem l_32 (xs : Nat → Int32) : aw (wA, 4, xs) 9 a_claw 930 [.ref a_scr, .ref 0, .ref a_mo, .int 0] [] a_M0 l_Q := by
  obtain ⟨r, hC, hM⟩ := op_seeds (xs 1) (xs 2) (xs 3)
  refine aw_e rfl rfl rfl ?_
  refine aw_e rfl rfl rfl ?_
  refine aw_e rfl rfl rfl ?_
  refine aw_e rfl rfl rfl ?_
  refine aw_e rfl rfl rfl ?_
  refine aw_e rfl rfl rfl ?_
  refine aw_e rfl rfl rfl ?_
  refine aw_e rfl rfl rfl ?_
  refine aw_e rfl rfl rfl ?_
  refine aw_e rfl rfl rfl ?_
  refine aw_e rfl rfl rfl ?_
  refine aw_e rfl rfl rfl ?_
  refine aw_e rfl rfl rfl ?_
  refine aw_e rfl rfl rfl ?_
  refine aw_e rfl rfl rfl ?_
  refine aw_e rfl rfl rfl ?_
  refine aw_cm rfl rfl (by decide) (am_C hC (fun _ _ => rfl)) (fun mt h => by cases h; rfl) (fun u M1 hu => ?_)
  obtain ⟨rfl, hag⟩ := hu
  refine aw_e rfl rfl rfl ?_
  refine aw_e rfl rfl rfl ?_
  refine aw_e rfl rfl rfl ?_
  refine aw_e rfl rfl rfl ?_
  refine aw_e rfl rfl rfl ?_
  refine aw_e rfl rfl rfl ?_
  refine aw_e rfl rfl rfl ?_
  refine aw_e rfl rfl rfl ?_
  refine aw_e rfl rfl rfl ?_
  refine aw_e rfl rfl rfl ?_
  refine aw_e rfl rfl rfl ?_
  refine aw_e rfl rfl rfl ?_
  refine aw_e rfl rfl rfl ?_
  refine aw_e rfl rfl rfl ?_
  refine aw_e rfl rfl rfl ?_
  refine aw_e rfl rfl rfl ?_
  refine aw_cm rfl rfl (by decide) (am_M hM (fun i hi => hag i hi)) (fun mt h => by cases h; rfl) (fun u M2 hu => ?_)
  subst hu
  refine aw_i2t rfl (decide_eq_true rfl) ?_
  exact l_next
set_option maxRecDepth 100000 in
theorem l_33 (xs : Nat → Int32) : aw (wA, 4, xs) 9 a_claw 973 [.ref a_scr, .ref 0, .ref a_mo, .int 0] [] a_M0 l_Q := by
  obtain ⟨r, hC, hM⟩ := op_undo 
  refine aw_e rfl rfl rfl ?_
  refine aw_cm rfl rfl (by decide) (am_C hC (fun _ _ => rfl)) (fun mt h => by cases h; rfl) (fun u M1 hu => ?_)
  obtain ⟨rfl, hag⟩ := hu
  refine aw_e rfl rfl rfl ?_
  refine aw_cm rfl rfl (by decide) (am_M hM (fun i hi => hag i hi)) (fun mt h => by cases h; rfl) (fun u M2 hu => ?_)
  subst hu
  refine aw_i2t rfl (decide_eq_true rfl) ?_
  exact l_next
set_option maxRecDepth 100000 in
theorem l_34 (xs : Nat → Int32) : aw (wA, 4, xs) 9 a_claw 986 [.ref a_scr, .ref 0, .ref a_mo, .int 0] [] a_M0 l_Q := by
  obtain ⟨r, hC, hM⟩ := op_tomorrow (xs 1) (xs 2)
  refine aw_e rfl rfl rfl ?_
  refine aw_e rfl rfl rfl ?_
  refine aw_e rfl rfl rfl ?_
  refine aw_e rfl rfl rfl ?_
  refine aw_e rfl rfl rfl ?_
  refine aw_e rfl rfl rfl ?_
  refine aw_e rfl rfl rfl ?_
  refine aw_e rfl rfl rfl ?_
  refine aw_e rfl rfl rfl ?_
  refine aw_e rfl rfl rfl ?_
  refine aw_e rfl rfl rfl ?_
  refine aw_cm rfl rfl (by decide) (am_C hC (fun _ _ => rfl)) (fun mt h => by cases h; rfl) (fun u M1 hu => ?_)
  obtain ⟨rfl, hag⟩ := hu
  refine aw_e rfl rfl rfl ?_
  refine aw_e rfl rfl rfl ?_
  refine aw_e rfl rfl rfl ?_
  refine aw_e rfl rfl rfl ?_
  refine aw_e rfl rfl rfl ?_
  refine aw_e rfl rfl rfl ?_
  refine aw_e rfl rfl rfl ?_
  refine aw_e rfl rfl rfl ?_
  refine aw_e rfl rfl rfl ?_
  refine aw_e rfl rfl rfl ?_
  refine aw_e rfl rfl rfl ?_
  refine aw_cm rfl rfl (by decide) (am_M hM (fun i hi => hag i hi)) (fun mt h => by cases h; rfl) (fun u M2 hu => ?_)
  subst hu
  refine aw_i2t rfl (decide_eq_true rfl) ?_
  exact l_next
set_option maxRecDepth 100000 in
theorem l_35 (xs : Nat → Int32) : aw (wA, 4, xs) 9 a_claw 1019 [.ref a_scr, .ref 0, .ref a_mo, .int 0] [] a_M0 l_Q := by
  obtain ⟨r, hC, hM⟩ := op_stopped (xs 1) (xs 2)
  refine aw_e rfl rfl rfl ?_
  refine aw_e rfl rfl rfl ?_
  refine aw_e rfl rfl rfl ?_
  refine aw_e rfl rfl rfl ?_
  refine aw_e rfl rfl rfl ?_
  refine aw_e rfl rfl rfl ?_
  refine aw_e rfl rfl rfl ?_
  refine aw_e rfl rfl rfl ?_
  refine aw_e rfl rfl rfl ?_
  refine aw_e rfl rfl rfl ?_
  refine aw_e rfl rfl rfl ?_
  refine aw_cm rfl rfl (by decide) (am_C hC (fun _ _ => rfl)) (fun mt h => by cases h; rfl) (fun u M1 hu => ?_)
  obtain ⟨rfl, hag⟩ := hu
  refine aw_e rfl rfl rfl ?_
  refine aw_e rfl rfl rfl ?_
  refine aw_e rfl rfl rfl ?_
  refine aw_e rfl rfl rfl ?_
  refine aw_e rfl rfl rfl ?_
  refine aw_e rfl rfl rfl ?_
  refine aw_e rfl rfl rfl ?_
  refine aw_e rfl rfl rfl ?_
  refine aw_e rfl rfl rfl ?_
  refine aw_e rfl rfl rfl ?_
  refine aw_e rfl rfl rfl ?_
  refine aw_cm rfl rfl (by decide) (am_M hM (fun i hi => hag i hi)) (fun mt h => by cases h; rfl) (fun u M2 hu => ?_)
  subst hu
  refine aw_i2t rfl (decide_eq_true rfl) ?_
  exact l_next
set_option maxRecDepth 100000 in
theorem l_36 (xs : Nat → Int32) : aw (wA, 4, xs) 9 a_claw 1052 [.ref a_scr, .ref 0, .ref a_mo, .int 0] [] a_M0 l_Q := by
  obtain ⟨r, hC, hM⟩ := op_picked (xs 1)
  refine aw_e rfl rfl rfl ?_
  refine aw_e rfl rfl rfl ?_
  refine aw_e rfl rfl rfl ?_
  refine aw_e rfl rfl rfl ?_
  refine aw_e rfl rfl rfl ?_
  refine aw_e rfl rfl rfl ?_
  refine aw_cm rfl rfl (by decide) (am_C hC (fun _ _ => rfl)) (fun mt h => by cases h; rfl) (fun u M1 hu => ?_)
  obtain ⟨rfl, hag⟩ := hu
  refine aw_e rfl rfl rfl ?_
  refine aw_e rfl rfl rfl ?_
  refine aw_e rfl rfl rfl ?_
  refine aw_e rfl rfl rfl ?_
  refine aw_e rfl rfl rfl ?_
  refine aw_e rfl rfl rfl ?_
  refine aw_cm rfl rfl (by decide) (am_M hM (fun i hi => hag i hi)) (fun mt h => by cases h; rfl) (fun u M2 hu => ?_)
  subst hu
  refine aw_i2t rfl (decide_eq_true rfl) ?_
  exact l_next
set_option maxRecDepth 100000 in
theorem l_37 (xs : Nat → Int32) : aw (wA, 4, xs) 9 a_claw 1075 [.ref a_scr, .ref 0, .ref a_mo, .int 0] [] a_M0 l_Q := by
  obtain ⟨r, hC, hM⟩ := op_steps (xs 1)
  refine aw_e rfl rfl rfl ?_
  refine aw_e rfl rfl rfl ?_
  refine aw_e rfl rfl rfl ?_
  refine aw_e rfl rfl rfl ?_
  refine aw_e rfl rfl rfl ?_
  refine aw_e rfl rfl rfl ?_
  refine aw_cm rfl rfl (by decide) (am_C hC (fun _ _ => rfl)) (fun mt h => by cases h; rfl) (fun u M1 hu => ?_)
  obtain ⟨rfl, hag⟩ := hu
  refine aw_e rfl rfl rfl ?_
  refine aw_e rfl rfl rfl ?_
  refine aw_e rfl rfl rfl ?_
  refine aw_e rfl rfl rfl ?_
  refine aw_e rfl rfl rfl ?_
  refine aw_e rfl rfl rfl ?_
  refine aw_cm rfl rfl (by decide) (am_M hM (fun i hi => hag i hi)) (fun mt h => by cases h; rfl) (fun u M2 hu => ?_)
  subst hu
  refine aw_i2t rfl (decide_eq_true rfl) ?_
  exact l_next
set_option maxRecDepth 100000 in
theorem l_38 (xs : Nat → Int32) : aw (wA, 4, xs) 9 a_claw 1098 [.ref a_scr, .ref 0, .ref a_mo, .int 0] [] a_M0 l_Q := by
  obtain ⟨r, hC, hM⟩ := op_later (xs 1)
  refine aw_e rfl rfl rfl ?_
  refine aw_e rfl rfl rfl ?_
  refine aw_e rfl rfl rfl ?_
  refine aw_e rfl rfl rfl ?_
  refine aw_e rfl rfl rfl ?_
  refine aw_e rfl rfl rfl ?_
  refine aw_cm rfl rfl (by decide) (am_C hC (fun _ _ => rfl)) (fun mt h => by cases h; rfl) (fun u M1 hu => ?_)
  obtain ⟨rfl, hag⟩ := hu
  refine aw_e rfl rfl rfl ?_
  refine aw_e rfl rfl rfl ?_
  refine aw_e rfl rfl rfl ?_
  refine aw_e rfl rfl rfl ?_
  refine aw_e rfl rfl rfl ?_
  refine aw_e rfl rfl rfl ?_
  refine aw_cm rfl rfl (by decide) (am_M hM (fun i hi => hag i hi)) (fun mt h => by cases h; rfl) (fun u M2 hu => ?_)
  subst hu
  refine aw_i2t rfl (decide_eq_true rfl) ?_
  exact l_next
set_option maxRecDepth 100000 in
theorem l_39 (xs : Nat → Int32) : aw (wA, 4, xs) 9 a_claw 1121 [.ref a_scr, .ref 0, .ref a_mo, .int 0] [] a_M0 l_Q := by
  obtain ⟨r, hC, hM⟩ := op_dear (xs 1) (xs 2) (xs 3)
  refine aw_e rfl rfl rfl ?_
  refine aw_e rfl rfl rfl ?_
  refine aw_e rfl rfl rfl ?_
  refine aw_e rfl rfl rfl ?_
  refine aw_e rfl rfl rfl ?_
  refine aw_e rfl rfl rfl ?_
  refine aw_e rfl rfl rfl ?_
  refine aw_e rfl rfl rfl ?_
  refine aw_e rfl rfl rfl ?_
  refine aw_e rfl rfl rfl ?_
  refine aw_e rfl rfl rfl ?_
  refine aw_e rfl rfl rfl ?_
  refine aw_e rfl rfl rfl ?_
  refine aw_e rfl rfl rfl ?_
  refine aw_e rfl rfl rfl ?_
  refine aw_e rfl rfl rfl ?_
  refine aw_cm rfl rfl (by decide) (am_C hC (fun _ _ => rfl)) (fun mt h => by cases h; rfl) (fun u M1 hu => ?_)
  obtain ⟨rfl, hag⟩ := hu
  refine aw_e rfl rfl rfl ?_
  refine aw_e rfl rfl rfl ?_
  refine aw_e rfl rfl rfl ?_
  refine aw_e rfl rfl rfl ?_
  refine aw_e rfl rfl rfl ?_
  refine aw_e rfl rfl rfl ?_
  refine aw_e rfl rfl rfl ?_
  refine aw_e rfl rfl rfl ?_
  refine aw_e rfl rfl rfl ?_
  refine aw_e rfl rfl rfl ?_
  refine aw_e rfl rfl rfl ?_
  refine aw_e rfl rfl rfl ?_
  refine aw_e rfl rfl rfl ?_
  refine aw_e rfl rfl rfl ?_
  refine aw_e rfl rfl rfl ?_
  refine aw_e rfl rfl rfl ?_
  refine aw_cm rfl rfl (by decide) (am_M hM (fun i hi => hag i hi)) (fun mt h => by cases h; rfl) (fun u M2 hu => ?_)
  subst hu
  refine aw_i2t rfl (decide_eq_true rfl) ?_
  exact l_next
set_option maxRecDepth 100000 in
theorem l_40 (xs : Nat → Int32) : aw (wA, 4, xs) 9 a_claw 1164 [.ref a_scr, .ref 0, .ref a_mo, .int 0] [] a_M0 l_Q := by
  obtain ⟨r, hC, hM⟩ := op_over (xs 1) (xs 2) (xs 3)
  refine aw_e rfl rfl rfl ?_
  refine aw_e rfl rfl rfl ?_
  refine aw_e rfl rfl rfl ?_
  refine aw_e rfl rfl rfl ?_
  refine aw_e rfl rfl rfl ?_
  refine aw_e rfl rfl rfl ?_
  refine aw_e rfl rfl rfl ?_
  refine aw_e rfl rfl rfl ?_
  refine aw_e rfl rfl rfl ?_
  refine aw_e rfl rfl rfl ?_
  refine aw_e rfl rfl rfl ?_
  refine aw_e rfl rfl rfl ?_
  refine aw_e rfl rfl rfl ?_
  refine aw_e rfl rfl rfl ?_
  refine aw_e rfl rfl rfl ?_
  refine aw_e rfl rfl rfl ?_
  refine aw_cm rfl rfl (by decide) (am_C hC (fun _ _ => rfl)) (fun mt h => by cases h; rfl) (fun u M1 hu => ?_)
  obtain ⟨rfl, hag⟩ := hu
  refine aw_e rfl rfl rfl ?_
  refine aw_e rfl rfl rfl ?_
  refine aw_e rfl rfl rfl ?_
  refine aw_e rfl rfl rfl ?_
  refine aw_e rfl rfl rfl ?_
  refine aw_e rfl rfl rfl ?_
  refine aw_e rfl rfl rfl ?_
  refine aw_e rfl rfl rfl ?_
  refine aw_e rfl rfl rfl ?_
  refine aw_e rfl rfl rfl ?_
  refine aw_e rfl rfl rfl ?_
  refine aw_e rfl rfl rfl ?_
  refine aw_e rfl rfl rfl ?_
  refine aw_e rfl rfl rfl ?_
  refine aw_e rfl rfl rfl ?_
  refine aw_e rfl rfl rfl ?_
  refine aw_cm rfl rfl (by decide) (am_M hM (fun i hi => hag i hi)) (fun mt h => by cases h; rfl) (fun u M2 hu => ?_)
  subst hu
  refine aw_i2t rfl (decide_eq_true rfl) ?_
  exact l_next
set_option maxRecDepth 100000 in
theorem l_41 (xs : Nat → Int32) : aw (wA, 4, xs) 9 a_claw 1207 [.ref a_scr, .ref 0, .ref a_mo, .int 0] [] a_M0 l_Q := by
  obtain ⟨r, hC, hM⟩ := op_image 
  refine aw_e rfl rfl rfl ?_
  refine aw_cm rfl rfl (by decide) (am_C hC (fun _ _ => rfl)) (fun mt h => by cases h; rfl) (fun u M1 hu => ?_)
  obtain ⟨rfl, hag⟩ := hu
  refine aw_e rfl rfl rfl ?_
  refine aw_cm rfl rfl (by decide) (am_M hM (fun i hi => hag i hi)) (fun mt h => by cases h; rfl) (fun u M2 hu => ?_)
  subst hu
  refine aw_i2t rfl (decide_eq_true rfl) ?_
  exact l_next
set_option maxRecDepth 100000 in
theorem l_42 (xs : Nat → Int32) : aw (wA, 4, xs) 9 a_claw 1220 [.ref a_scr, .ref 0, .ref a_mo, .int 0] [] a_M0 l_Q := by
  obtain ⟨r, hC, hM⟩ := op_restore 
  refine aw_e rfl rfl rfl ?_
  refine aw_cm rfl rfl (by decide) (am_C hC (fun _ _ => rfl)) (fun mt h => by cases h; rfl) (fun u M1 hu => ?_)
  obtain ⟨rfl, hag⟩ := hu
  refine aw_e rfl rfl rfl ?_
  refine aw_cm rfl rfl (by decide) (am_M hM (fun i hi => hag i hi)) (fun mt h => by cases h; rfl) (fun u M2 hu => ?_)
  subst hu
  refine aw_i2t rfl (decide_eq_true rfl) ?_
  exact l_next
set_option maxRecDepth 100000 in
theorem l_43 (xs : Nat → Int32) : aw (wA, 4, xs) 9 a_claw 1233 [.ref a_scr, .ref 0, .ref a_mo, .int 0] [] a_M0 l_Q := by
  obtain ⟨r, hC, hM⟩ := op_count (xs 1)
  refine aw_e rfl rfl rfl ?_
  refine aw_e rfl rfl rfl ?_
  refine aw_e rfl rfl rfl ?_
  refine aw_e rfl rfl rfl ?_
  refine aw_e rfl rfl rfl ?_
  refine aw_e rfl rfl rfl ?_
  refine aw_cm rfl rfl (by decide) (am_C hC (fun _ _ => rfl)) (fun mt h => by cases h; rfl) (fun u M1 hu => ?_)
  obtain ⟨rfl, hag⟩ := hu
  refine aw_e rfl rfl rfl ?_
  refine aw_e rfl rfl rfl ?_
  refine aw_e rfl rfl rfl ?_
  refine aw_e rfl rfl rfl ?_
  refine aw_e rfl rfl rfl ?_
  refine aw_e rfl rfl rfl ?_
  refine aw_cm rfl rfl (by decide) (am_M hM (fun i hi => hag i hi)) (fun mt h => by cases h; rfl) (fun u M2 hu => ?_)
  subst hu
  refine aw_i2t rfl (decide_eq_true rfl) ?_
  exact l_next
set_option maxRecDepth 100000 in
theorem l_sw (xs : Nat → Int32) : ∀ j, j < 64 → aw (wA, 4, xs) 9 a_claw 32 [.ref a_scr, .ref 0, .ref a_mo, .int 0] [.int (nI j)] a_M0 l_Q := by
  intro j hj
  match j, hj with
  | 0, _ => exact aw_tk (t := 224) rfl (by decide +kernel) (l_0 xs)
  | 1, _ => exact aw_tk (t := 247) rfl (by decide +kernel) (l_1 xs)
  | 2, _ => exact aw_tk (t := 260) rfl (by decide +kernel) (l_2 xs)
  | 3, _ => exact aw_tk (t := 293) rfl (by decide +kernel) (l_3 xs)
  | 4, _ => exact aw_tk (t := 336) rfl (by decide +kernel) (l_4 xs)
  | 5, _ => exact aw_tk (t := 369) rfl (by decide +kernel) (l_5 xs)
  | 6, _ => exact aw_tk (t := 392) rfl (by decide +kernel) (l_6 xs)
  | 7, _ => exact aw_tk (t := 405) rfl (by decide +kernel) (l_7 xs)
  | 8, _ => exact aw_tk (t := 428) rfl (by decide +kernel) (l_8 xs)
  | 9, _ => exact aw_tk (t := 461) rfl (by decide +kernel) (l_9 xs)
  | 10, _ => exact aw_tk (t := 474) rfl (by decide +kernel) (l_10 xs)
  | 11, _ => exact aw_tk (t := 487) rfl (by decide +kernel) (l_11 xs)
  | 12, _ => exact aw_tk (t := 520) rfl (by decide +kernel) (l_12 xs)
  | 13, _ => exact aw_tk (t := 533) rfl (by decide +kernel) (l_13 xs)
  | 14, _ => exact aw_tk (t := 556) rfl (by decide +kernel) (l_14 xs)
  | 15, _ => exact aw_tk (t := 579) rfl (by decide +kernel) (l_15 xs)
  | 16, _ => exact aw_tk (t := 602) rfl (by decide +kernel) (l_16 xs)
  | 17, _ => exact aw_tk (t := 625) rfl (by decide +kernel) (l_17 xs)
  | 18, _ => exact aw_tk (t := 648) rfl (by decide +kernel) (l_18 xs)
  | 19, _ => exact aw_tk (t := 671) rfl (by decide +kernel) (l_19 xs)
  | 20, _ => exact aw_tk (t := 684) rfl (by decide +kernel) (l_20 xs)
  | 21, _ => exact aw_tk (t := 697) rfl (by decide +kernel) (l_21 xs)
  | 22, _ => exact aw_tk (t := 720) rfl (by decide +kernel) (l_22 xs)
  | 23, _ => exact aw_tk (t := 733) rfl (by decide +kernel) (l_23 xs)
  | 24, _ => exact aw_tk (t := 756) rfl (by decide +kernel) (l_24 xs)
  | 25, _ => exact aw_tk (t := 769) rfl (by decide +kernel) (l_25 xs)
  | 26, _ => exact aw_tk (t := 792) rfl (by decide +kernel) (l_26 xs)
  | 27, _ => exact aw_tk (t := 825) rfl (by decide +kernel) (l_27 xs)
  | 28, _ => exact aw_tk (t := 838) rfl (by decide +kernel) (l_28 xs)
  | 29, _ => exact aw_tk (t := 881) rfl (by decide +kernel) (l_29 xs)
  | 30, _ => exact aw_tk (t := 904) rfl (by decide +kernel) (l_30 xs)
  | 31, _ => exact aw_tk (t := 917) rfl (by decide +kernel) (l_31 xs)
  | 32, _ => exact aw_tk (t := 930) rfl (by decide +kernel) (l_32 xs)
  | 33, _ => exact aw_tk (t := 973) rfl (by decide +kernel) (l_33 xs)
  | 34, _ => exact aw_tk (t := 986) rfl (by decide +kernel) (l_34 xs)
  | 35, _ => exact aw_tk (t := 1019) rfl (by decide +kernel) (l_35 xs)
  | 36, _ => exact aw_tk (t := 1052) rfl (by decide +kernel) (l_36 xs)
  | 37, _ => exact aw_tk (t := 1075) rfl (by decide +kernel) (l_37 xs)
  | 38, _ => exact aw_tk (t := 1098) rfl (by decide +kernel) (l_38 xs)
  | 39, _ => exact aw_tk (t := 1121) rfl (by decide +kernel) (l_39 xs)
  | 40, _ => exact aw_tk (t := 1164) rfl (by decide +kernel) (l_40 xs)
  | 41, _ => exact aw_tk (t := 1207) rfl (by decide +kernel) (l_41 xs)
  | 42, _ => exact aw_tk (t := 1220) rfl (by decide +kernel) (l_42 xs)
  | 43, _ => exact aw_tk (t := 1233) rfl (by decide +kernel) (l_43 xs)
  | 44, _ => exact aw_tk (t := 1256) rfl (by decide +kernel) l_next
  | 45, _ => exact aw_tk (t := 1256) rfl (by decide +kernel) l_next
  | 46, _ => exact aw_tk (t := 1256) rfl (by decide +kernel) l_next
  | 47, _ => exact aw_tk (t := 1256) rfl (by decide +kernel) l_next
  | 48, _ => exact aw_tk (t := 1256) rfl (by decide +kernel) l_next
  | 49, _ => exact aw_tk (t := 1256) rfl (by decide +kernel) l_next
  | 50, _ => exact aw_tk (t := 1256) rfl (by decide +kernel) l_next
  | 51, _ => exact aw_tk (t := 1256) rfl (by decide +kernel) l_next
  | 52, _ => exact aw_tk (t := 1256) rfl (by decide +kernel) l_next
  | 53, _ => exact aw_tk (t := 1256) rfl (by decide +kernel) l_next
  | 54, _ => exact aw_tk (t := 1256) rfl (by decide +kernel) l_next
  | 55, _ => exact aw_tk (t := 1256) rfl (by decide +kernel) l_next
  | 56, _ => exact aw_tk (t := 1256) rfl (by decide +kernel) l_next
  | 57, _ => exact aw_tk (t := 1256) rfl (by decide +kernel) l_next
  | 58, _ => exact aw_tk (t := 1256) rfl (by decide +kernel) l_next
  | 59, _ => exact aw_tk (t := 1256) rfl (by decide +kernel) l_next
  | 60, _ => exact aw_tk (t := 1256) rfl (by decide +kernel) l_next
  | 61, _ => exact aw_tk (t := 1256) rfl (by decide +kernel) l_next
  | 62, _ => exact aw_tk (t := 1256) rfl (by decide +kernel) l_next
  | 63, _ => exact aw_tk (t := 1256) rfl (by decide +kernel) l_next
  | n + 64, hj => omega
set_option maxRecDepth 100000 in
theorem c_main {L : Nat} {xs : Nat → Int32} (hL : L ≤ 4) : c_law wA L xs := by
  have key : aw (wA, L, xs) 9 a_claw 18 [.ref a_scr, .ref 0, .ref a_mo, .int 0] [] a_M0 l_Q := by
    rcases (show L = 0 ∨ L = 1 ∨ L = 2 ∨ L = 3 ∨ L = 4 by omega) with rfl | rfl | rfl | rfl | rfl
    iterate 4
      · refine aw_e rfl rfl rfl ?_
        refine aw_e rfl rfl rfl ?_
        refine aw_e rfl rfl rfl ?_
        refine aw_e rfl rfl rfl ?_
        refine aw_e rfl rfl rfl ?_
        refine aw_i2t rfl (by dsimp only; decide +kernel) ?_
        exact l_end
    · refine aw_e rfl rfl rfl ?_
      refine aw_e rfl rfl rfl ?_
      refine aw_e rfl rfl rfl ?_
      refine aw_e rfl rfl rfl ?_
      refine aw_e rfl rfl rfl ?_
      refine aw_i2f rfl (by dsimp only; decide +kernel) ?_
      refine aw_e rfl rfl rfl ?_
      refine aw_e rfl rfl rfl ?_
      refine aw_e rfl rfl rfl ?_
      refine aw_e rfl rfl rfl ?_
      refine aw_e rfl rfl rfl ?_
      obtain ⟨j, hj, e⟩ := pk_andE (xs 0) (m := 63) 6 (by decide +kernel)
      have e2 := l_sw xs j hj
      rw [← e] at e2
      exact e2
  obtain ⟨n, v, M', h, hv⟩ := key
  exact ⟨n, M', by rw [h, hv]⟩
