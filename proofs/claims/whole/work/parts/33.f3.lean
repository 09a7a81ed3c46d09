-- M_element
def f_M_element (w : MW) (x1 : Int32) (x2 : Int32) : Option RT := if (v_M_within w x1 (0 : Int32) (7 : Int32)) = 0 then (some (some (.long (Int64.ofNat 0)), w)) else (grd (vpb x1 8 = true) (if (v_M_isRow w x1) = 0 then (some (some (.long (Int64.ofNat 0)), w)) else (grd (vpb x1 8 = true) (if (v_M_within w x2 (0 : Int32) ((w.1 64 x1.toNatClampNeg) - 1)) = 0 then (some (some (.long (Int64.ofNat 0)), w)) else (grd (vpb ((160 * x1) + x2) 1280 = true) (some (some (.long (w.2.1 65 ((160 * x1) + x2).toNatClampNeg)), w)))))))
set_option maxHeartbeats 4000000 in
theorem c_M_element {d : Nat} {r : Option Value} {w' : MW} (w : MW) (x1 : Int32) (x2 : Int32) (hf : f_M_element w x1 x2 = some (r, w')) : Ct (d + 1) mM_element [.ref 62, .int x1, .int x2] w r w' := by
  refine eM_element ?_
  unfold f_M_element at hf
  refine bM_element_0 (ct := c_M_within (d := d) w x1 (0 : Int32) (7 : Int32)) (k := ?_)
  refine bM_element_7 (kt := fun q2 => ?_) (kf := fun q2 => ?_)
  · replace hf := ite_t q2 hf
    refine bM_element_49 (k := ?_)
    obtain ⟨rfl, rfl⟩ := ret_e hf
    exact bM_element_50 
  · replace hf := ite_f q2 hf
    obtain ⟨g5_0, hf⟩ := grd_e hf
    refine bM_element_10 (ct := c_M_isRow (d := d) w x1 (vpb_ok g5_0)) (k := ?_)
    refine bM_element_15 (kt := fun q6 => ?_) (kf := fun q6 => ?_)
    · replace hf := ite_t q6 hf
      refine bM_element_49 (k := ?_)
      obtain ⟨rfl, rfl⟩ := ret_e hf
      exact bM_element_50 
    · replace hf := ite_f q6 hf
      obtain ⟨g9_0, hf⟩ := grd_e hf
      refine bM_element_18 (y1 := 64) (h3 := (vpb_ok g9_0)) (ct := c_M_within (d := d) w x2 (0 : Int32) ((w.1 64 x1.toNatClampNeg) - 1)) (k := ?_)
      refine bM_element_31 (kt := fun q10 => ?_) (kf := fun q10 => ?_)
      · replace hf := ite_t q10 hf
        refine bM_element_49 (k := ?_)
        obtain ⟨rfl, rfl⟩ := ret_e hf
        exact bM_element_50 
      · replace hf := ite_f q10 hf
        obtain ⟨g13_0, hf⟩ := grd_e hf
        refine bM_element_34 (y1 := 65) (h3 := (vpb_ok g13_0)) (k := ?_)
        obtain ⟨rfl, rfl⟩ := ret_e hf
        exact bM_element_50 
-- M_show
def f_M_show (w : MW) (x1 : Int32) (x2 : Int32) : Option RT := if (v_M_within w x1 (0 : Int32) (7 : Int32)) = 0 then (some (some (.int (v_M_no w (-1 : Int32))), u_M_no w (-1 : Int32))) else (if x2 = (-1) then (grd (vpb x1 8 = true) (if x2 = (-1) then (some (some (.int (0 : Int32)), setI w 63 x1.toNatClampNeg x2)) else (some (some (.int (1 : Int32)), setI w 63 x1.toNatClampNeg x2)))) else (if (v_M_isMan w x2) = 0 then (some (some (.int (v_M_no w (-1 : Int32))), u_M_no w (-1 : Int32))) else (grd (vpb x1 8 = true) (if x2 = (-1) then (some (some (.int (0 : Int32)), setI w 63 x1.toNatClampNeg x2)) else (some (some (.int (1 : Int32)), setI w 63 x1.toNatClampNeg x2))))))
set_option maxHeartbeats 4000000 in
theorem c_M_show {d : Nat} {r : Option Value} {w' : MW} (w : MW) (x1 : Int32) (x2 : Int32) (hf : f_M_show w x1 x2 = some (r, w')) : Ct (d + 2) mM_show [.ref 62, .int x1, .int x2] w r w' := by
  refine eM_show ?_
  unfold f_M_show at hf
  refine bM_show_0 (ct := c_M_within (d := d + 1) w x1 (0 : Int32) (7 : Int32)) (k := ?_)
  refine bM_show_7 (kt := fun q2 => ?_) (kf := fun q2 => ?_)
  · replace hf := ite_t q2 hf
    refine bM_show_23 (ct := c_M_no (d := d + 1) w (-1 : Int32) (vpd (i := (-(-1 : Int32))) (n := 8) (by decide))) (k := ?_)
    obtain ⟨rfl, rfl⟩ := ret_e hf
    exact bM_show_28 
  · replace hf := ite_f q2 hf
    refine bM_show_10 (kt := fun q5 => ?_) (kf := fun q5 => ?_)
    · replace hf := ite_t q5 hf
      obtain ⟨g6_0, hf⟩ := grd_e hf
      refine bM_show_29 (y1 := 63) (h3 := (vpb_ok g6_0)) (kt := fun q6 => ?_) (kf := fun q6 => ?_)
      · replace hf := ite_f q6 hf
        refine bM_show_45 (k := ?_)
        obtain ⟨rfl, rfl⟩ := ret_e hf
        exact bM_show_46 
      · replace hf := ite_t q6 hf
        refine bM_show_41 (k := ?_)
        obtain ⟨rfl, rfl⟩ := ret_e hf
        exact bM_show_46 
    · replace hf := ite_f q5 hf
      refine bM_show_15 (ct := c_M_isMan (d := d) w x2) (k := ?_)
      refine bM_show_20 (kt := fun q12 => ?_) (kf := fun q12 => ?_)
      · replace hf := ite_f q12 hf
        obtain ⟨g13_0, hf⟩ := grd_e hf
        refine bM_show_29 (y1 := 63) (h3 := (vpb_ok g13_0)) (kt := fun q13 => ?_) (kf := fun q13 => ?_)
        · replace hf := ite_f q13 hf
          refine bM_show_45 (k := ?_)
          obtain ⟨rfl, rfl⟩ := ret_e hf
          exact bM_show_46 
        · replace hf := ite_t q13 hf
          refine bM_show_41 (k := ?_)
          obtain ⟨rfl, rfl⟩ := ret_e hf
          exact bM_show_46 
      · replace hf := ite_t q12 hf
        refine bM_show_23 (ct := c_M_no (d := d + 1) w (-1 : Int32) (vpd (i := (-(-1 : Int32))) (n := 8) (by decide))) (k := ?_)
        obtain ⟨rfl, rfl⟩ := ret_e hf
        exact bM_show_28 
-- M_holds
def f_M_holds (w : MW) (x1 : Int32) : Option RT := if (v_M_within w x1 (0 : Int32) (7 : Int32)) = 0 then (some (some (.int (-1 : Int32)), w)) else (grd (vpb x1 8 = true) (some (some (.int (w.1 63 x1.toNatClampNeg)), w)))
set_option maxHeartbeats 4000000 in
theorem c_M_holds {d : Nat} {r : Option Value} {w' : MW} (w : MW) (x1 : Int32) (hf : f_M_holds w x1 = some (r, w')) : Ct (d + 1) mM_holds [.ref 62, .int x1] w r w' := by
  refine eM_holds ?_
  unfold f_M_holds at hf
  refine bM_holds_0 (ct := c_M_within (d := d) w x1 (0 : Int32) (7 : Int32)) (k := ?_)
  refine bM_holds_7 (kt := fun q2 => ?_) (kf := fun q2 => ?_)
  · replace hf := ite_t q2 hf
    refine bM_holds_19 (k := ?_)
    obtain ⟨rfl, rfl⟩ := ret_e hf
    exact bM_holds_20 
  · replace hf := ite_f q2 hf
    obtain ⟨g5_0, hf⟩ := grd_e hf
    refine bM_holds_10 (y1 := 63) (h3 := (vpb_ok g5_0)) (k := ?_)
    obtain ⟨rfl, rfl⟩ := ret_e hf
    exact bM_holds_20 
-- M_isUnder
def f_M_isUnder_2 : Nat → MW → Int32 → Int32 → Option RT
  | 0, _, _, _ => none
  | n + 1, w, x1, x2 => if x2 = x1 then (if x2 = x1 then (some (some (.int (1 : Int32)), w)) else (some (some (.int (0 : Int32)), w))) else (if x2 ≤ 0 then (if x2 = x1 then (some (some (.int (1 : Int32)), w)) else (some (some (.int (0 : Int32)), w))) else (f_M_isUnder_2 n w x1 (v_M_above w x2)))
set_option maxHeartbeats 4000000 in
theorem r_M_isUnder_2 {d : Nat} {r : Option Value} {w' : MW} : ∀ (n : Nat) (w : MW) (x1 : Int32) (x2 : Int32), f_M_isUnder_2 n w x1 x2 = some (r, w') → Rn (d + 1) mM_isUnder 2 [none, some (.int x1), some (.int x2)] [] w r w' := by
  intro n
  induction n with
  | zero =>
    intro w x1 x2 hf
    cases hf
  | succ n ih =>
    intro w x1 x2 hf
    rw [f_M_isUnder_2] at hf
    refine bM_isUnder_2 (kt := fun q1 => ?_) (kf := fun q1 => ?_)
    · replace hf := ite_t q1 hf
      refine bM_isUnder_19 (kt := fun q2 => ?_) (kf := fun q2 => ?_)
      · replace hf := ite_f q2 hf
        refine bM_isUnder_28 (k := ?_)
        obtain ⟨rfl, rfl⟩ := ret_e hf
        exact bM_isUnder_29 
      · replace hf := ite_t q2 hf
        refine bM_isUnder_24 (k := ?_)
        obtain ⟨rfl, rfl⟩ := ret_e hf
        exact bM_isUnder_29 
    · replace hf := ite_f q1 hf
      refine bM_isUnder_7 (kt := fun q7 => ?_) (kf := fun q7 => ?_)
      · replace hf := ite_t q7 hf
        refine bM_isUnder_19 (kt := fun q8 => ?_) (kf := fun q8 => ?_)
        · replace hf := ite_f q8 hf
          refine bM_isUnder_28 (k := ?_)
          obtain ⟨rfl, rfl⟩ := ret_e hf
          exact bM_isUnder_29 
        · replace hf := ite_t q8 hf
          refine bM_isUnder_24 (k := ?_)
          obtain ⟨rfl, rfl⟩ := ret_e hf
          exact bM_isUnder_29 
      · replace hf := ite_f q7 hf
        refine bM_isUnder_11 (ct := c_M_above (d := d) w x2) (k := ?_)
        refine bM_isUnder_15 (k := ?_)
        exact ih w x1 (v_M_above w x2) hf
def f_M_isUnder (w : MW) (x0 : Int32) (x1 : Int32) : Option RT := f_M_isUnder_2 FU w x1 x0
set_option maxHeartbeats 4000000 in
theorem c_M_isUnder {d : Nat} {r : Option Value} {w' : MW} (w : MW) (x0 : Int32) (x1 : Int32) (hf : f_M_isUnder w x0 x1 = some (r, w')) : Ct (d + 1) mM_isUnder [.int x0, .int x1] w r w' := by
  refine eM_isUnder ?_
  unfold f_M_isUnder at hf
  refine bM_isUnder_0 (k := ?_)
  exact r_M_isUnder_2 FU w x1 x0 hf
-- M_his
def f_M_his_12 : Nat → MW → Int32 → Int32 → Int32 → Int32 → Int32 → Int32 → Int32 → Option RT
  | 0, _, _, _, _, _, _, _, _ => none
  | n + 1, w, x1, x2, x3, x4, x5, x6, x7 => if (w.1 62 10) ≤ x7 then (some (some (.int x4), w)) else (if (x7 - x7 / 3 * 3) = x3 then (if x1 = 1 then (f_M_his_12 n w x1 x2 x3 (x4 ||| ((1 : Int32) <<< (x7 &&& 31))) x5 x6 (x7 + 1)) else if x1 = 2 then (if x5 < x2 then (if x1 = 5 then (if ((x6 + 1) - (x6 + 1) / 2 * 2) = 1 then (f_M_his_12 n w x1 x2 x3 (x4 ||| ((1 : Int32) <<< (x7 &&& 31))) (x5 + 1) (x6 + 1) (x7 + 1)) else (f_M_his_12 n w x1 x2 x3 x4 (x5 + 1) (x6 + 1) (x7 + 1))) else (f_M_his_12 n w x1 x2 x3 (x4 ||| ((1 : Int32) <<< (x7 &&& 31))) (x5 + 1) (x6 + 1) (x7 + 1))) else (grd (¬ x2 + 2 = 0) (if ((x5 - x2) - (x5 - x2) / (x2 + 2) * (x2 + 2)) = 0 then (if x1 = 5 then (f_M_his_12 n w x1 x2 x3 x4 (x5 + 1) x6 (x7 + 1)) else (f_M_his_12 n w x1 x2 x3 x4 (x5 + 1) x6 (x7 + 1))) else (if x1 = 5 then (if ((x6 + 1) - (x6 + 1) / 2 * 2) = 1 then (f_M_his_12 n w x1 x2 x3 (x4 ||| ((1 : Int32) <<< (x7 &&& 31))) (x5 + 1) (x6 + 1) (x7 + 1)) else (f_M_his_12 n w x1 x2 x3 x4 (x5 + 1) (x6 + 1) (x7 + 1))) else (f_M_his_12 n w x1 x2 x3 (x4 ||| ((1 : Int32) <<< (x7 &&& 31))) (x5 + 1) (x6 + 1) (x7 + 1)))))) else if x1 = 3 then (f_M_his_12 n w x1 x2 x3 (x4 ||| ((1 : Int32) <<< (x7 &&& 31))) x5 x6 (x7 + 1)) else if x1 = 4 then (if x2 ≤ x7 then (if (x7 - x7 / 3 * 3) = ((x3 + 1) - (x3 + 1) / 3 * 3) then (f_M_his_12 n w x1 x2 x3 (x4 ||| ((1 : Int32) <<< (x7 &&& 31))) x5 x6 (x7 + 1)) else (f_M_his_12 n w x1 x2 x3 x4 x5 x6 (x7 + 1))) else (if (x7 - x7 / 3 * 3) = x3 then (f_M_his_12 n w x1 x2 x3 (x4 ||| ((1 : Int32) <<< (x7 &&& 31))) x5 x6 (x7 + 1)) else (f_M_his_12 n w x1 x2 x3 x4 x5 x6 (x7 + 1)))) else if x1 = 5 then (if x5 < x2 then (if x1 = 5 then (if ((x6 + 1) - (x6 + 1) / 2 * 2) = 1 then (f_M_his_12 n w x1 x2 x3 (x4 ||| ((1 : Int32) <<< (x7 &&& 31))) (x5 + 1) (x6 + 1) (x7 + 1)) else (f_M_his_12 n w x1 x2 x3 x4 (x5 + 1) (x6 + 1) (x7 + 1))) else (f_M_his_12 n w x1 x2 x3 (x4 ||| ((1 : Int32) <<< (x7 &&& 31))) (x5 + 1) (x6 + 1) (x7 + 1))) else (grd (¬ x2 + 2 = 0) (if ((x5 - x2) - (x5 - x2) / (x2 + 2) * (x2 + 2)) = 0 then (if x1 = 5 then (f_M_his_12 n w x1 x2 x3 x4 (x5 + 1) x6 (x7 + 1)) else (f_M_his_12 n w x1 x2 x3 x4 (x5 + 1) x6 (x7 + 1))) else (if x1 = 5 then (if ((x6 + 1) - (x6 + 1) / 2 * 2) = 1 then (f_M_his_12 n w x1 x2 x3 (x4 ||| ((1 : Int32) <<< (x7 &&& 31))) (x5 + 1) (x6 + 1) (x7 + 1)) else (f_M_his_12 n w x1 x2 x3 x4 (x5 + 1) (x6 + 1) (x7 + 1))) else (f_M_his_12 n w x1 x2 x3 (x4 ||| ((1 : Int32) <<< (x7 &&& 31))) (x5 + 1) (x6 + 1) (x7 + 1)))))) else if x1 = 6 then (if x2 ≤ x7 then (if (2 * x2) ≤ x7 then (if (x7 - x7 / 3 * 3) = ((x3 + 2) - (x3 + 2) / 3 * 3) then (f_M_his_12 n w x1 x2 x3 (x4 ||| ((1 : Int32) <<< (x7 &&& 31))) x5 x6 (x7 + 1)) else (f_M_his_12 n w x1 x2 x3 x4 x5 x6 (x7 + 1))) else (if (x7 - x7 / 3 * 3) = ((x3 + 1) - (x3 + 1) / 3 * 3) then (f_M_his_12 n w x1 x2 x3 (x4 ||| ((1 : Int32) <<< (x7 &&& 31))) x5 x6 (x7 + 1)) else (f_M_his_12 n w x1 x2 x3 x4 x5 x6 (x7 + 1)))) else (if (x7 - x7 / 3 * 3) = x3 then (f_M_his_12 n w x1 x2 x3 (x4 ||| ((1 : Int32) <<< (x7 &&& 31))) x5 x6 (x7 + 1)) else (f_M_his_12 n w x1 x2 x3 x4 x5 x6 (x7 + 1)))) else (f_M_his_12 n w x1 x2 x3 (x4 ||| ((1 : Int32) <<< (x7 &&& 31))) x5 x6 (x7 + 1))) else (if x1 = 1 then (if x7 < x2 then (f_M_his_12 n w x1 x2 x3 x4 x5 x6 (x7 + 1)) else (if (x7 - x7 / 3 * 3) = ((x3 + 1) - (x3 + 1) / 3 * 3) then (f_M_his_12 n w x1 x2 x3 (x4 ||| ((1 : Int32) <<< (x7 &&& 31))) x5 x6 (x7 + 1)) else (f_M_his_12 n w x1 x2 x3 x4 x5 x6 (x7 + 1)))) else if x1 = 2 then (f_M_his_12 n w x1 x2 x3 x4 x5 x6 (x7 + 1)) else if x1 = 3 then (if x7 < x2 then (f_M_his_12 n w x1 x2 x3 x4 x5 x6 (x7 + 1)) else (f_M_his_12 n w x1 x2 x3 (x4 ||| ((1 : Int32) <<< (x7 &&& 31))) x5 x6 (x7 + 1))) else if x1 = 4 then (if x2 ≤ x7 then (if (x7 - x7 / 3 * 3) = ((x3 + 1) - (x3 + 1) / 3 * 3) then (f_M_his_12 n w x1 x2 x3 (x4 ||| ((1 : Int32) <<< (x7 &&& 31))) x5 x6 (x7 + 1)) else (f_M_his_12 n w x1 x2 x3 x4 x5 x6 (x7 + 1))) else (if (x7 - x7 / 3 * 3) = x3 then (f_M_his_12 n w x1 x2 x3 (x4 ||| ((1 : Int32) <<< (x7 &&& 31))) x5 x6 (x7 + 1)) else (f_M_his_12 n w x1 x2 x3 x4 x5 x6 (x7 + 1)))) else if x1 = 5 then (f_M_his_12 n w x1 x2 x3 x4 x5 x6 (x7 + 1)) else if x1 = 6 then (if x2 ≤ x7 then (if (2 * x2) ≤ x7 then (if (x7 - x7 / 3 * 3) = ((x3 + 2) - (x3 + 2) / 3 * 3) then (f_M_his_12 n w x1 x2 x3 (x4 ||| ((1 : Int32) <<< (x7 &&& 31))) x5 x6 (x7 + 1)) else (f_M_his_12 n w x1 x2 x3 x4 x5 x6 (x7 + 1))) else (if (x7 - x7 / 3 * 3) = ((x3 + 1) - (x3 + 1) / 3 * 3) then (f_M_his_12 n w x1 x2 x3 (x4 ||| ((1 : Int32) <<< (x7 &&& 31))) x5 x6 (x7 + 1)) else (f_M_his_12 n w x1 x2 x3 x4 x5 x6 (x7 + 1)))) else (if (x7 - x7 / 3 * 3) = x3 then (f_M_his_12 n w x1 x2 x3 (x4 ||| ((1 : Int32) <<< (x7 &&& 31))) x5 x6 (x7 + 1)) else (f_M_his_12 n w x1 x2 x3 x4 x5 x6 (x7 + 1)))) else (f_M_his_12 n w x1 x2 x3 x4 x5 x6 (x7 + 1))))
set_option maxHeartbeats 4000000 in
theorem r_M_his_12 {d : Nat} {r : Option Value} {w' : MW} : ∀ (n : Nat) (w : MW) (x1 : Int32) (x2 : Int32) (x3 : Int32) (x4 : Int32) (x5 : Int32) (x6 : Int32) (x7 : Int32), f_M_his_12 n w x1 x2 x3 x4 x5 x6 x7 = some (r, w') → Rn d mM_his 12 [some (.ref 62), some (.int x1), some (.int x2), some (.int x3), some (.int x4), some (.int x5), some (.int x6), some (.int x7), none, none] [] w r w' := by
  intro n
  induction n with
  | zero =>
    intro w x1 x2 x3 x4 x5 x6 x7 hf
    cases hf
  | succ n ih =>
    intro w x1 x2 x3 x4 x5 x6 x7 hf
    rw [f_M_his_12] at hf
    refine bM_his_12 (kt := fun q1 => ?_) (kf := fun q1 => ?_)
    · replace hf := ite_t q1 hf
      obtain ⟨rfl, rfl⟩ := ret_e hf
      exact bM_his_301 
    · replace hf := ite_f q1 hf
      refine bM_his_21 (kt := fun q3 => ?_) (kf := fun q3 => ?_)
      · replace hf := ite_f q3 hf
        refine bM_his_33 (k := ?_)
        refine bM_his_34 (k1 := fun q5_1 => ?_) (k2 := fun q5_2 => ?_) (k3 := fun q5_3 => ?_) (k4 := fun q5_4 => ?_) (k5 := fun q5_5 => ?_) (k6 := fun q5_6 => ?_) (kd := fun q5_1 q5_2 q5_3 q5_4 q5_5 q5_6 => ?_)
        · have hq := q5_1
          replace hf := ite_t hq hf
          refine bM_his_80 (kt := fun q => absurd q (by decide)) (kf := fun _ => ?_)
          refine bM_his_85 (kt := fun q7 => ?_) (kf := fun q7 => ?_)
          · replace hf := ite_t q7 hf
            refine bM_his_107 (k := ?_)
            refine bM_his_108 (k := ?_)
            refine bM_his_281 (kt := fun _ => ?_) (kf := fun q => absurd q (by decide))
            refine bM_his_295 (k := ?_)
            exact ih w x1 x2 x3 x4 x5 x6 (x7 + 1) hf
          · replace hf := ite_f q7 hf
            refine bM_his_91 (kt := fun q12 => ?_) (kf := fun q12 => ?_)
            · replace hf := ite_f q12 hf
              refine bM_his_107 (k := ?_)
              refine bM_his_108 (k := ?_)
              refine bM_his_281 (kt := fun _ => ?_) (kf := fun q => absurd q (by decide))
              refine bM_his_295 (k := ?_)
              exact ih w x1 x2 x3 x4 x5 x6 (x7 + 1) hf
            · replace hf := ite_t q12 hf
              refine bM_his_103 (k := ?_)
              refine bM_his_108 (k := ?_)
              refine bM_his_281 (kt := fun q => absurd q (by decide)) (kf := fun _ => ?_)
              refine bM_his_286 (k := ?_)
              refine bM_his_295 (k := ?_)
              exact ih w x1 x2 x3 (x4 ||| ((1 : Int32) <<< (x7 &&& 31))) x5 x6 (x7 + 1) hf
        · have hq := q5_2
          replace hf := ite_f (by rw [hq]; decide) hf
          replace hf := ite_t hq hf
          refine bM_his_134 (kt := fun q => absurd q (by decide)) (kf := fun _ => ?_)
          refine bM_his_139 (k := ?_)
          refine bM_his_281 (kt := fun _ => ?_) (kf := fun q => absurd q (by decide))
          refine bM_his_295 (k := ?_)
          exact ih w x1 x2 x3 x4 x5 x6 (x7 + 1) hf
        · have hq := q5_3
          replace hf := ite_f (by rw [hq]; decide) hf
          replace hf := ite_f (by rw [hq]; decide) hf
          replace hf := ite_t hq hf
          refine bM_his_113 (kt := fun q => absurd q (by decide)) (kf := fun _ => ?_)
          refine bM_his_118 (kt := fun q27 => ?_) (kf := fun q27 => ?_)
          · replace hf := ite_t q27 hf
            refine bM_his_128 (k := ?_)
            refine bM_his_129 (k := ?_)
            refine bM_his_281 (kt := fun _ => ?_) (kf := fun q => absurd q (by decide))
            refine bM_his_295 (k := ?_)
            exact ih w x1 x2 x3 x4 x5 x6 (x7 + 1) hf
          · replace hf := ite_f q27 hf
            refine bM_his_124 (k := ?_)
            refine bM_his_129 (k := ?_)
            refine bM_his_281 (kt := fun q => absurd q (by decide)) (kf := fun _ => ?_)
            refine bM_his_286 (k := ?_)
            refine bM_his_295 (k := ?_)
            exact ih w x1 x2 x3 (x4 ||| ((1 : Int32) <<< (x7 &&& 31))) x5 x6 (x7 + 1) hf
        · have hq := q5_4
          replace hf := ite_f (by rw [hq]; decide) hf
          replace hf := ite_f (by rw [hq]; decide) hf
          replace hf := ite_f (by rw [hq]; decide) hf
          replace hf := ite_t hq hf
          refine bM_his_205 (kt := fun q37 => ?_) (kf := fun q37 => ?_)
          · replace hf := ite_t q37 hf
            refine bM_his_219 (k := ?_)
            refine bM_his_224 (kt := fun q39 => ?_) (kf := fun q39 => ?_)
            · replace hf := ite_f q39 hf
              refine bM_his_231 (k := ?_)
              refine bM_his_232 (k := ?_)
              refine bM_his_281 (kt := fun _ => ?_) (kf := fun q => absurd q (by decide))
              refine bM_his_295 (k := ?_)
              exact ih w x1 x2 x3 x4 x5 x6 (x7 + 1) hf
            · replace hf := ite_t q39 hf
              refine bM_his_227 (k := ?_)
              refine bM_his_232 (k := ?_)
              refine bM_his_281 (kt := fun q => absurd q (by decide)) (kf := fun _ => ?_)
              refine bM_his_286 (k := ?_)
              refine bM_his_295 (k := ?_)
              exact ih w x1 x2 x3 (x4 ||| ((1 : Int32) <<< (x7 &&& 31))) x5 x6 (x7 + 1) hf
          · replace hf := ite_f q37 hf
            refine bM_his_215 (k := ?_)
            refine bM_his_224 (kt := fun q50 => ?_) (kf := fun q50 => ?_)
            · replace hf := ite_f q50 hf
              refine bM_his_231 (k := ?_)
              refine bM_his_232 (k := ?_)
              refine bM_his_281 (kt := fun _ => ?_) (kf := fun q => absurd q (by decide))
              refine bM_his_295 (k := ?_)
              exact ih w x1 x2 x3 x4 x5 x6 (x7 + 1) hf
            · replace hf := ite_t q50 hf
              refine bM_his_227 (k := ?_)
              refine bM_his_232 (k := ?_)
              refine bM_his_281 (kt := fun q => absurd q (by decide)) (kf := fun _ => ?_)
              refine bM_his_286 (k := ?_)
              refine bM_his_295 (k := ?_)
              exact ih w x1 x2 x3 (x4 ||| ((1 : Int32) <<< (x7 &&& 31))) x5 x6 (x7 + 1) hf
        · have hq := q5_5
          replace hf := ite_f (by rw [hq]; decide) hf
          replace hf := ite_f (by rw [hq]; decide) hf
          replace hf := ite_f (by rw [hq]; decide) hf
          replace hf := ite_f (by rw [hq]; decide) hf
          replace hf := ite_t hq hf
          refine bM_his_134 (kt := fun q => absurd q (by decide)) (kf := fun _ => ?_)
          refine bM_his_139 (k := ?_)
          refine bM_his_281 (kt := fun _ => ?_) (kf := fun q => absurd q (by decide))
          refine bM_his_295 (k := ?_)
          exact ih w x1 x2 x3 x4 x5 x6 (x7 + 1) hf
        · have hq := q5_6
          replace hf := ite_f (by rw [hq]; decide) hf
          replace hf := ite_f (by rw [hq]; decide) hf
          replace hf := ite_f (by rw [hq]; decide) hf
          replace hf := ite_f (by rw [hq]; decide) hf
          replace hf := ite_f (by rw [hq]; decide) hf
          replace hf := ite_t hq hf
          refine bM_his_237 (kt := fun q64 => ?_) (kf := fun q64 => ?_)
          · replace hf := ite_t q64 hf
            refine bM_his_251 (kt := fun q65 => ?_) (kf := fun q65 => ?_)
            · replace hf := ite_t q65 hf
              refine bM_his_264 (k := ?_)
              refine bM_his_265 (k := ?_)
              refine bM_his_268 (kt := fun q68 => ?_) (kf := fun q68 => ?_)
              · replace hf := ite_f q68 hf
                refine bM_his_275 (k := ?_)
                refine bM_his_276 (k := ?_)
                refine bM_his_281 (kt := fun _ => ?_) (kf := fun q => absurd q (by decide))
                refine bM_his_295 (k := ?_)
                exact ih w x1 x2 x3 x4 x5 x6 (x7 + 1) hf
              · replace hf := ite_t q68 hf
                refine bM_his_271 (k := ?_)
                refine bM_his_276 (k := ?_)
                refine bM_his_281 (kt := fun q => absurd q (by decide)) (kf := fun _ => ?_)
                refine bM_his_286 (k := ?_)
                refine bM_his_295 (k := ?_)
                exact ih w x1 x2 x3 (x4 ||| ((1 : Int32) <<< (x7 &&& 31))) x5 x6 (x7 + 1) hf
            · replace hf := ite_f q65 hf
              refine bM_his_260 (k := ?_)
              refine bM_his_265 (k := ?_)
              refine bM_his_268 (kt := fun q80 => ?_) (kf := fun q80 => ?_)
              · replace hf := ite_f q80 hf
                refine bM_his_275 (k := ?_)
                refine bM_his_276 (k := ?_)
                refine bM_his_281 (kt := fun _ => ?_) (kf := fun q => absurd q (by decide))
                refine bM_his_295 (k := ?_)
                exact ih w x1 x2 x3 x4 x5 x6 (x7 + 1) hf
              · replace hf := ite_t q80 hf
                refine bM_his_271 (k := ?_)
                refine bM_his_276 (k := ?_)
                refine bM_his_281 (kt := fun q => absurd q (by decide)) (kf := fun _ => ?_)
                refine bM_his_286 (k := ?_)
                refine bM_his_295 (k := ?_)
                exact ih w x1 x2 x3 (x4 ||| ((1 : Int32) <<< (x7 &&& 31))) x5 x6 (x7 + 1) hf
          · replace hf := ite_f q64 hf
            refine bM_his_247 (k := ?_)
            refine bM_his_268 (kt := fun q91 => ?_) (kf := fun q91 => ?_)
            · replace hf := ite_f q91 hf
              refine bM_his_275 (k := ?_)
              refine bM_his_276 (k := ?_)
              refine bM_his_281 (kt := fun _ => ?_) (kf := fun q => absurd q (by decide))
              refine bM_his_295 (k := ?_)
              exact ih w x1 x2 x3 x4 x5 x6 (x7 + 1) hf
            · replace hf := ite_t q91 hf
              refine bM_his_271 (k := ?_)
              refine bM_his_276 (k := ?_)
              refine bM_his_281 (kt := fun q => absurd q (by decide)) (kf := fun _ => ?_)
              refine bM_his_286 (k := ?_)
              refine bM_his_295 (k := ?_)
              exact ih w x1 x2 x3 (x4 ||| ((1 : Int32) <<< (x7 &&& 31))) x5 x6 (x7 + 1) hf
        · replace hf := ite_f q5_1 hf
          replace hf := ite_f q5_2 hf
          replace hf := ite_f q5_3 hf
          replace hf := ite_f q5_4 hf
          replace hf := ite_f q5_5 hf
          replace hf := ite_f q5_6 hf
          refine bM_his_281 (kt := fun _ => ?_) (kf := fun q => absurd q (by decide))
          refine bM_his_295 (k := ?_)
          exact ih w x1 x2 x3 x4 x5 x6 (x7 + 1) hf
      · replace hf := ite_t q3 hf
        refine bM_his_29 (k := ?_)
        refine bM_his_34 (k1 := fun q104_1 => ?_) (k2 := fun q104_2 => ?_) (k3 := fun q104_3 => ?_) (k4 := fun q104_4 => ?_) (k5 := fun q104_5 => ?_) (k6 := fun q104_6 => ?_) (kd := fun q104_1 q104_2 q104_3 q104_4 q104_5 q104_6 => ?_)
        · have hq := q104_1
          replace hf := ite_t hq hf
          refine bM_his_80 (kt := fun _ => ?_) (kf := fun q => absurd q (by decide))
          refine bM_his_103 (k := ?_)
          refine bM_his_108 (k := ?_)
          refine bM_his_281 (kt := fun q => absurd q (by decide)) (kf := fun _ => ?_)
          refine bM_his_286 (k := ?_)
          refine bM_his_295 (k := ?_)
          exact ih w x1 x2 x3 (x4 ||| ((1 : Int32) <<< (x7 &&& 31))) x5 x6 (x7 + 1) hf
        · have hq := q104_2
          replace hf := ite_f (by rw [hq]; decide) hf
          replace hf := ite_t hq hf
          refine bM_his_134 (kt := fun _ => ?_) (kf := fun q => absurd q (by decide))
          refine bM_his_142 (kt := fun q112 => ?_) (kf := fun q112 => ?_)
          · replace hf := ite_t q112 hf
            refine bM_his_159 (k := ?_)
            refine bM_his_164 (kt := fun q => absurd q (by decide)) (kf := fun _ => ?_)
            refine bM_his_174 (k := ?_)
            refine bM_his_177 (kt := fun q116 => ?_) (kf := fun q116 => ?_)
            · replace hf := ite_f q116 hf
              refine bM_his_281 (kt := fun q => absurd q (by decide)) (kf := fun _ => ?_)
              refine bM_his_286 (k := ?_)
              refine bM_his_295 (k := ?_)
              exact ih w x1 x2 x3 (x4 ||| ((1 : Int32) <<< (x7 &&& 31))) (x5 + 1) (x6 + 1) (x7 + 1) hf
            · replace hf := ite_t q116 hf
              refine bM_his_182 (kt := fun q => absurd q (by decide)) (kf := fun _ => ?_)
              refine bM_his_187 (kt := fun q121 => ?_) (kf := fun q121 => ?_)
              · replace hf := ite_f q121 hf
                refine bM_his_199 (k := ?_)
                refine bM_his_200 (k := ?_)
                refine bM_his_281 (kt := fun _ => ?_) (kf := fun q => absurd q (by decide))
                refine bM_his_295 (k := ?_)
                exact ih w x1 x2 x3 x4 (x5 + 1) (x6 + 1) (x7 + 1) hf
              · replace hf := ite_t q121 hf
                refine bM_his_195 (k := ?_)
                refine bM_his_200 (k := ?_)
                refine bM_his_281 (kt := fun q => absurd q (by decide)) (kf := fun _ => ?_)
                refine bM_his_286 (k := ?_)
                refine bM_his_295 (k := ?_)
                exact ih w x1 x2 x3 (x4 ||| ((1 : Int32) <<< (x7 &&& 31))) (x5 + 1) (x6 + 1) (x7 + 1) hf
          · replace hf := ite_f q112 hf
            obtain ⟨g131_0, hf⟩ := grd_e hf
            refine bM_his_148 (h1 := g131_0) (kt := fun q131 => ?_) (kf := fun q131 => ?_)
            · replace hf := ite_t q131 hf
              refine bM_his_163 (k := ?_)
              refine bM_his_164 (kt := fun _ => ?_) (kf := fun q => absurd q (by decide))
              refine bM_his_177 (kt := fun q134 => ?_) (kf := fun q134 => ?_)
              · replace hf := ite_f q134 hf
                refine bM_his_281 (kt := fun _ => ?_) (kf := fun q => absurd q (by decide))
                refine bM_his_295 (k := ?_)
                exact ih w x1 x2 x3 x4 (x5 + 1) x6 (x7 + 1) hf
              · replace hf := ite_t q134 hf
                refine bM_his_182 (kt := fun _ => ?_) (kf := fun q => absurd q (by decide))
                refine bM_his_199 (k := ?_)
                refine bM_his_200 (k := ?_)
                refine bM_his_281 (kt := fun _ => ?_) (kf := fun q => absurd q (by decide))
                refine bM_his_295 (k := ?_)
                exact ih w x1 x2 x3 x4 (x5 + 1) x6 (x7 + 1) hf
            · replace hf := ite_f q131 hf
              refine bM_his_159 (k := ?_)
              refine bM_his_164 (kt := fun q => absurd q (by decide)) (kf := fun _ => ?_)
              refine bM_his_174 (k := ?_)
              refine bM_his_177 (kt := fun q145 => ?_) (kf := fun q145 => ?_)
              · replace hf := ite_f q145 hf
                refine bM_his_281 (kt := fun q => absurd q (by decide)) (kf := fun _ => ?_)
                refine bM_his_286 (k := ?_)
                refine bM_his_295 (k := ?_)
                exact ih w x1 x2 x3 (x4 ||| ((1 : Int32) <<< (x7 &&& 31))) (x5 + 1) (x6 + 1) (x7 + 1) hf
              · replace hf := ite_t q145 hf
                refine bM_his_182 (kt := fun q => absurd q (by decide)) (kf := fun _ => ?_)
                refine bM_his_187 (kt := fun q150 => ?_) (kf := fun q150 => ?_)
                · replace hf := ite_f q150 hf
                  refine bM_his_199 (k := ?_)
                  refine bM_his_200 (k := ?_)
                  refine bM_his_281 (kt := fun _ => ?_) (kf := fun q => absurd q (by decide))
                  refine bM_his_295 (k := ?_)
                  exact ih w x1 x2 x3 x4 (x5 + 1) (x6 + 1) (x7 + 1) hf
                · replace hf := ite_t q150 hf
                  refine bM_his_195 (k := ?_)
                  refine bM_his_200 (k := ?_)
                  refine bM_his_281 (kt := fun q => absurd q (by decide)) (kf := fun _ => ?_)
                  refine bM_his_286 (k := ?_)
                  refine bM_his_295 (k := ?_)
                  exact ih w x1 x2 x3 (x4 ||| ((1 : Int32) <<< (x7 &&& 31))) (x5 + 1) (x6 + 1) (x7 + 1) hf
        · have hq := q104_3
          replace hf := ite_f (by rw [hq]; decide) hf
          replace hf := ite_f (by rw [hq]; decide) hf
          replace hf := ite_t hq hf
          refine bM_his_113 (kt := fun _ => ?_) (kf := fun q => absurd q (by decide))
          refine bM_his_124 (k := ?_)
          refine bM_his_129 (k := ?_)
          refine bM_his_281 (kt := fun q => absurd q (by decide)) (kf := fun _ => ?_)
          refine bM_his_286 (k := ?_)
          refine bM_his_295 (k := ?_)
          exact ih w x1 x2 x3 (x4 ||| ((1 : Int32) <<< (x7 &&& 31))) x5 x6 (x7 + 1) hf
        · have hq := q104_4
          replace hf := ite_f (by rw [hq]; decide) hf
          replace hf := ite_f (by rw [hq]; decide) hf
          replace hf := ite_f (by rw [hq]; decide) hf
          replace hf := ite_t hq hf
          refine bM_his_205 (kt := fun q166 => ?_) (kf := fun q166 => ?_)
          · replace hf := ite_t q166 hf
            refine bM_his_219 (k := ?_)
            refine bM_his_224 (kt := fun q168 => ?_) (kf := fun q168 => ?_)
            · replace hf := ite_f q168 hf
              refine bM_his_231 (k := ?_)
              refine bM_his_232 (k := ?_)
              refine bM_his_281 (kt := fun _ => ?_) (kf := fun q => absurd q (by decide))
              refine bM_his_295 (k := ?_)
              exact ih w x1 x2 x3 x4 x5 x6 (x7 + 1) hf
            · replace hf := ite_t q168 hf
              refine bM_his_227 (k := ?_)
              refine bM_his_232 (k := ?_)
              refine bM_his_281 (kt := fun q => absurd q (by decide)) (kf := fun _ => ?_)
              refine bM_his_286 (k := ?_)
              refine bM_his_295 (k := ?_)
              exact ih w x1 x2 x3 (x4 ||| ((1 : Int32) <<< (x7 &&& 31))) x5 x6 (x7 + 1) hf
          · replace hf := ite_f q166 hf
            refine bM_his_215 (k := ?_)
            refine bM_his_224 (kt := fun q179 => ?_) (kf := fun q179 => ?_)
            · replace hf := ite_f q179 hf
              refine bM_his_231 (k := ?_)
              refine bM_his_232 (k := ?_)
              refine bM_his_281 (kt := fun _ => ?_) (kf := fun q => absurd q (by decide))
              refine bM_his_295 (k := ?_)
              exact ih w x1 x2 x3 x4 x5 x6 (x7 + 1) hf
            · replace hf := ite_t q179 hf
              refine bM_his_227 (k := ?_)
              refine bM_his_232 (k := ?_)
              refine bM_his_281 (kt := fun q => absurd q (by decide)) (kf := fun _ => ?_)
              refine bM_his_286 (k := ?_)
              refine bM_his_295 (k := ?_)
              exact ih w x1 x2 x3 (x4 ||| ((1 : Int32) <<< (x7 &&& 31))) x5 x6 (x7 + 1) hf
        · have hq := q104_5
          replace hf := ite_f (by rw [hq]; decide) hf
          replace hf := ite_f (by rw [hq]; decide) hf
          replace hf := ite_f (by rw [hq]; decide) hf
          replace hf := ite_f (by rw [hq]; decide) hf
          replace hf := ite_t hq hf
          refine bM_his_134 (kt := fun _ => ?_) (kf := fun q => absurd q (by decide))
          refine bM_his_142 (kt := fun q190 => ?_) (kf := fun q190 => ?_)
          · replace hf := ite_t q190 hf
            refine bM_his_159 (k := ?_)
            refine bM_his_164 (kt := fun q => absurd q (by decide)) (kf := fun _ => ?_)
            refine bM_his_174 (k := ?_)
            refine bM_his_177 (kt := fun q194 => ?_) (kf := fun q194 => ?_)
            · replace hf := ite_f q194 hf
              refine bM_his_281 (kt := fun q => absurd q (by decide)) (kf := fun _ => ?_)
              refine bM_his_286 (k := ?_)
              refine bM_his_295 (k := ?_)
              exact ih w x1 x2 x3 (x4 ||| ((1 : Int32) <<< (x7 &&& 31))) (x5 + 1) (x6 + 1) (x7 + 1) hf
            · replace hf := ite_t q194 hf
              refine bM_his_182 (kt := fun q => absurd q (by decide)) (kf := fun _ => ?_)
              refine bM_his_187 (kt := fun q199 => ?_) (kf := fun q199 => ?_)
              · replace hf := ite_f q199 hf
                refine bM_his_199 (k := ?_)
                refine bM_his_200 (k := ?_)
                refine bM_his_281 (kt := fun _ => ?_) (kf := fun q => absurd q (by decide))
                refine bM_his_295 (k := ?_)
                exact ih w x1 x2 x3 x4 (x5 + 1) (x6 + 1) (x7 + 1) hf
              · replace hf := ite_t q199 hf
                refine bM_his_195 (k := ?_)
                refine bM_his_200 (k := ?_)
                refine bM_his_281 (kt := fun q => absurd q (by decide)) (kf := fun _ => ?_)
                refine bM_his_286 (k := ?_)
                refine bM_his_295 (k := ?_)
                exact ih w x1 x2 x3 (x4 ||| ((1 : Int32) <<< (x7 &&& 31))) (x5 + 1) (x6 + 1) (x7 + 1) hf
          · replace hf := ite_f q190 hf
            obtain ⟨g209_0, hf⟩ := grd_e hf
            refine bM_his_148 (h1 := g209_0) (kt := fun q209 => ?_) (kf := fun q209 => ?_)
            · replace hf := ite_t q209 hf
              refine bM_his_163 (k := ?_)
              refine bM_his_164 (kt := fun _ => ?_) (kf := fun q => absurd q (by decide))
              refine bM_his_177 (kt := fun q212 => ?_) (kf := fun q212 => ?_)
              · replace hf := ite_f q212 hf
                refine bM_his_281 (kt := fun _ => ?_) (kf := fun q => absurd q (by decide))
                refine bM_his_295 (k := ?_)
                exact ih w x1 x2 x3 x4 (x5 + 1) x6 (x7 + 1) hf
              · replace hf := ite_t q212 hf
                refine bM_his_182 (kt := fun _ => ?_) (kf := fun q => absurd q (by decide))
                refine bM_his_199 (k := ?_)
                refine bM_his_200 (k := ?_)
                refine bM_his_281 (kt := fun _ => ?_) (kf := fun q => absurd q (by decide))
                refine bM_his_295 (k := ?_)
                exact ih w x1 x2 x3 x4 (x5 + 1) x6 (x7 + 1) hf
            · replace hf := ite_f q209 hf
              refine bM_his_159 (k := ?_)
              refine bM_his_164 (kt := fun q => absurd q (by decide)) (kf := fun _ => ?_)
              refine bM_his_174 (k := ?_)
              refine bM_his_177 (kt := fun q223 => ?_) (kf := fun q223 => ?_)
              · replace hf := ite_f q223 hf
                refine bM_his_281 (kt := fun q => absurd q (by decide)) (kf := fun _ => ?_)
                refine bM_his_286 (k := ?_)
                refine bM_his_295 (k := ?_)
                exact ih w x1 x2 x3 (x4 ||| ((1 : Int32) <<< (x7 &&& 31))) (x5 + 1) (x6 + 1) (x7 + 1) hf
              · replace hf := ite_t q223 hf
                refine bM_his_182 (kt := fun q => absurd q (by decide)) (kf := fun _ => ?_)
                refine bM_his_187 (kt := fun q228 => ?_) (kf := fun q228 => ?_)
                · replace hf := ite_f q228 hf
                  refine bM_his_199 (k := ?_)
                  refine bM_his_200 (k := ?_)
                  refine bM_his_281 (kt := fun _ => ?_) (kf := fun q => absurd q (by decide))
                  refine bM_his_295 (k := ?_)
                  exact ih w x1 x2 x3 x4 (x5 + 1) (x6 + 1) (x7 + 1) hf
                · replace hf := ite_t q228 hf
                  refine bM_his_195 (k := ?_)
                  refine bM_his_200 (k := ?_)
                  refine bM_his_281 (kt := fun q => absurd q (by decide)) (kf := fun _ => ?_)
                  refine bM_his_286 (k := ?_)
                  refine bM_his_295 (k := ?_)
                  exact ih w x1 x2 x3 (x4 ||| ((1 : Int32) <<< (x7 &&& 31))) (x5 + 1) (x6 + 1) (x7 + 1) hf
        · have hq := q104_6
          replace hf := ite_f (by rw [hq]; decide) hf
          replace hf := ite_f (by rw [hq]; decide) hf
          replace hf := ite_f (by rw [hq]; decide) hf
          replace hf := ite_f (by rw [hq]; decide) hf
          replace hf := ite_f (by rw [hq]; decide) hf
          replace hf := ite_t hq hf
          refine bM_his_237 (kt := fun q238 => ?_) (kf := fun q238 => ?_)
          · replace hf := ite_t q238 hf
            refine bM_his_251 (kt := fun q239 => ?_) (kf := fun q239 => ?_)
            · replace hf := ite_t q239 hf
              refine bM_his_264 (k := ?_)
              refine bM_his_265 (k := ?_)
              refine bM_his_268 (kt := fun q242 => ?_) (kf := fun q242 => ?_)
              · replace hf := ite_f q242 hf
                refine bM_his_275 (k := ?_)
                refine bM_his_276 (k := ?_)
                refine bM_his_281 (kt := fun _ => ?_) (kf := fun q => absurd q (by decide))
                refine bM_his_295 (k := ?_)
                exact ih w x1 x2 x3 x4 x5 x6 (x7 + 1) hf
              · replace hf := ite_t q242 hf
                refine bM_his_271 (k := ?_)
                refine bM_his_276 (k := ?_)
                refine bM_his_281 (kt := fun q => absurd q (by decide)) (kf := fun _ => ?_)
                refine bM_his_286 (k := ?_)
                refine bM_his_295 (k := ?_)
                exact ih w x1 x2 x3 (x4 ||| ((1 : Int32) <<< (x7 &&& 31))) x5 x6 (x7 + 1) hf
            · replace hf := ite_f q239 hf
              refine bM_his_260 (k := ?_)
              refine bM_his_265 (k := ?_)
              refine bM_his_268 (kt := fun q254 => ?_) (kf := fun q254 => ?_)
              · replace hf := ite_f q254 hf
                refine bM_his_275 (k := ?_)
                refine bM_his_276 (k := ?_)
                refine bM_his_281 (kt := fun _ => ?_) (kf := fun q => absurd q (by decide))
                refine bM_his_295 (k := ?_)
                exact ih w x1 x2 x3 x4 x5 x6 (x7 + 1) hf
              · replace hf := ite_t q254 hf
                refine bM_his_271 (k := ?_)
                refine bM_his_276 (k := ?_)
                refine bM_his_281 (kt := fun q => absurd q (by decide)) (kf := fun _ => ?_)
                refine bM_his_286 (k := ?_)
                refine bM_his_295 (k := ?_)
                exact ih w x1 x2 x3 (x4 ||| ((1 : Int32) <<< (x7 &&& 31))) x5 x6 (x7 + 1) hf
          · replace hf := ite_f q238 hf
            refine bM_his_247 (k := ?_)
            refine bM_his_268 (kt := fun q265 => ?_) (kf := fun q265 => ?_)
            · replace hf := ite_f q265 hf
              refine bM_his_275 (k := ?_)
              refine bM_his_276 (k := ?_)
              refine bM_his_281 (kt := fun _ => ?_) (kf := fun q => absurd q (by decide))
              refine bM_his_295 (k := ?_)
              exact ih w x1 x2 x3 x4 x5 x6 (x7 + 1) hf
            · replace hf := ite_t q265 hf
              refine bM_his_271 (k := ?_)
              refine bM_his_276 (k := ?_)
              refine bM_his_281 (kt := fun q => absurd q (by decide)) (kf := fun _ => ?_)
              refine bM_his_286 (k := ?_)
              refine bM_his_295 (k := ?_)
              exact ih w x1 x2 x3 (x4 ||| ((1 : Int32) <<< (x7 &&& 31))) x5 x6 (x7 + 1) hf
        · replace hf := ite_f q104_1 hf
          replace hf := ite_f q104_2 hf
          replace hf := ite_f q104_3 hf
          replace hf := ite_f q104_4 hf
          replace hf := ite_f q104_5 hf
          replace hf := ite_f q104_6 hf
          refine bM_his_281 (kt := fun q => absurd q (by decide)) (kf := fun _ => ?_)
          refine bM_his_286 (k := ?_)
          refine bM_his_295 (k := ?_)
          exact ih w x1 x2 x3 (x4 ||| ((1 : Int32) <<< (x7 &&& 31))) x5 x6 (x7 + 1) hf
def f_M_his (w : MW) (x1 : Int32) (x2 : Int32) (x3 : Int32) : Option RT := f_M_his_12 FU w x1 x2 x3 (0 : Int32) (0 : Int32) (0 : Int32) (0 : Int32)
set_option maxHeartbeats 4000000 in
theorem c_M_his {d : Nat} {r : Option Value} {w' : MW} (w : MW) (x1 : Int32) (x2 : Int32) (x3 : Int32) (hf : f_M_his w x1 x2 x3 = some (r, w')) : Ct d mM_his [.ref 62, .int x1, .int x2, .int x3] w r w' := by
  refine eM_his ?_
  unfold f_M_his at hf
  refine bM_his_0 (k := ?_)
  exact r_M_his_12 FU w x1 x2 x3 (0 : Int32) (0 : Int32) (0 : Int32) (0 : Int32) hf
-- M_newMan
def f_M_newMan_63 : Nat → MW → Int32 → Option RT
  | 0, _, _ => none
  | n + 1, w, x4 => if (w.1 62 3) ≤ x4 then (some (some (.int (w.1 62 3)), setI w 62 3 ((w.1 62 3) + 1))) else (grd (vpb x4 8 = true) (f_M_newMan_63 n (setI w 71 x4.toNatClampNeg ((w.1 71 x4.toNatClampNeg) &&& (((1 : Int32) <<< ((w.1 62 3) &&& 31)) ^^^ (-1)))) (x4 + 1)))
set_option maxHeartbeats 4000000 in
theorem r_M_newMan_63 {d : Nat} {r : Option Value} {w' : MW} : ∀ (n : Nat) (w : MW) (x4 : Int32), f_M_newMan_63 n w x4 = some (r, w') → Rn d mM_newMan 63 [some (.ref 62), none, none, none, some (.int x4)] [] w r w' := by
  intro n
  induction n with
  | zero =>
    intro w x4 hf
    cases hf
  | succ n ih =>
    intro w x4 hf
    rw [f_M_newMan_63] at hf
    refine bM_newMan_63 (kt := fun q1 => ?_) (kf := fun q1 => ?_)
    · replace hf := ite_t q1 hf
      obtain ⟨rfl, rfl⟩ := ret_e hf
      exact bM_newMan_96 
    · replace hf := ite_f q1 hf
      obtain ⟨g3_0, hf⟩ := grd_e hf
      refine bM_newMan_72 (y1 := 71) (h3 := (vpb_ok g3_0)) (h6 := (vpb_ok g3_0)) (k := ?_)
      exact ih (setI w 71 x4.toNatClampNeg ((w.1 71 x4.toNatClampNeg) &&& (((1 : Int32) <<< ((w.1 62 3) &&& 31)) ^^^ (-1)))) (x4 + 1) hf
def f_M_newMan (w : MW) (x1 : Int32) (x2 : Int32) (x3 : Int32) : Option RT := grd (vpb (w.1 62 3) 8 = true) (grd (vpb ((setI w 66 (w.1 62 3).toNatClampNeg x1).1 62 3) 8 = true) (grd (vpb ((setI (setI w 66 (w.1 62 3).toNatClampNeg x1) 67 ((setI w 66 (w.1 62 3).toNatClampNeg x1).1 62 3).toNatClampNeg x2).1 62 3) 8 = true) (grd (vpb ((setI (setI (setI w 66 (w.1 62 3).toNatClampNeg x1) 67 ((setI w 66 (w.1 62 3).toNatClampNeg x1).1 62 3).toNatClampNeg x2) 68 ((setI (setI w 66 (w.1 62 3).toNatClampNeg x1) 67 ((setI w 66 (w.1 62 3).toNatClampNeg x1).1 62 3).toNatClampNeg x2).1 62 3).toNatClampNeg x3).1 62 3) 8 = true) (grd (vpb ((setI (setI (setI (setI w 66 (w.1 62 3).toNatClampNeg x1) 67 ((setI w 66 (w.1 62 3).toNatClampNeg x1).1 62 3).toNatClampNeg x2) 68 ((setI (setI w 66 (w.1 62 3).toNatClampNeg x1) 67 ((setI w 66 (w.1 62 3).toNatClampNeg x1).1 62 3).toNatClampNeg x2).1 62 3).toNatClampNeg x3) 69 ((setI (setI (setI w 66 (w.1 62 3).toNatClampNeg x1) 67 ((setI w 66 (w.1 62 3).toNatClampNeg x1).1 62 3).toNatClampNeg x2) 68 ((setI (setI w 66 (w.1 62 3).toNatClampNeg x1) 67 ((setI w 66 (w.1 62 3).toNatClampNeg x1).1 62 3).toNatClampNeg x2).1 62 3).toNatClampNeg x3).1 62 3).toNatClampNeg (-1)).1 62 3) 8 = true) (grd (vpb ((setI (setI (setI (setI (setI w 66 (w.1 62 3).toNatClampNeg x1) 67 ((setI w 66 (w.1 62 3).toNatClampNeg x1).1 62 3).toNatClampNeg x2) 68 ((setI (setI w 66 (w.1 62 3).toNatClampNeg x1) 67 ((setI w 66 (w.1 62 3).toNatClampNeg x1).1 62 3).toNatClampNeg x2).1 62 3).toNatClampNeg x3) 69 ((setI (setI (setI w 66 (w.1 62 3).toNatClampNeg x1) 67 ((setI w 66 (w.1 62 3).toNatClampNeg x1).1 62 3).toNatClampNeg x2) 68 ((setI (setI w 66 (w.1 62 3).toNatClampNeg x1) 67 ((setI w 66 (w.1 62 3).toNatClampNeg x1).1 62 3).toNatClampNeg x2).1 62 3).toNatClampNeg x3).1 62 3).toNatClampNeg (-1)) 70 ((setI (setI (setI (setI w 66 (w.1 62 3).toNatClampNeg x1) 67 ((setI w 66 (w.1 62 3).toNatClampNeg x1).1 62 3).toNatClampNeg x2) 68 ((setI (setI w 66 (w.1 62 3).toNatClampNeg x1) 67 ((setI w 66 (w.1 62 3).toNatClampNeg x1).1 62 3).toNatClampNeg x2).1 62 3).toNatClampNeg x3) 69 ((setI (setI (setI w 66 (w.1 62 3).toNatClampNeg x1) 67 ((setI w 66 (w.1 62 3).toNatClampNeg x1).1 62 3).toNatClampNeg x2) 68 ((setI (setI w 66 (w.1 62 3).toNatClampNeg x1) 67 ((setI w 66 (w.1 62 3).toNatClampNeg x1).1 62 3).toNatClampNeg x2).1 62 3).toNatClampNeg x3).1 62 3).toNatClampNeg (-1)).1 62 3).toNatClampNeg 0).1 62 3) 8 = true) (f_M_newMan_63 FU (setI (setI (setI (setI (setI (setI w 66 (w.1 62 3).toNatClampNeg x1) 67 ((setI w 66 (w.1 62 3).toNatClampNeg x1).1 62 3).toNatClampNeg x2) 68 ((setI (setI w 66 (w.1 62 3).toNatClampNeg x1) 67 ((setI w 66 (w.1 62 3).toNatClampNeg x1).1 62 3).toNatClampNeg x2).1 62 3).toNatClampNeg x3) 69 ((setI (setI (setI w 66 (w.1 62 3).toNatClampNeg x1) 67 ((setI w 66 (w.1 62 3).toNatClampNeg x1).1 62 3).toNatClampNeg x2) 68 ((setI (setI w 66 (w.1 62 3).toNatClampNeg x1) 67 ((setI w 66 (w.1 62 3).toNatClampNeg x1).1 62 3).toNatClampNeg x2).1 62 3).toNatClampNeg x3).1 62 3).toNatClampNeg (-1)) 70 ((setI (setI (setI (setI w 66 (w.1 62 3).toNatClampNeg x1) 67 ((setI w 66 (w.1 62 3).toNatClampNeg x1).1 62 3).toNatClampNeg x2) 68 ((setI (setI w 66 (w.1 62 3).toNatClampNeg x1) 67 ((setI w 66 (w.1 62 3).toNatClampNeg x1).1 62 3).toNatClampNeg x2).1 62 3).toNatClampNeg x3) 69 ((setI (setI (setI w 66 (w.1 62 3).toNatClampNeg x1) 67 ((setI w 66 (w.1 62 3).toNatClampNeg x1).1 62 3).toNatClampNeg x2) 68 ((setI (setI w 66 (w.1 62 3).toNatClampNeg x1) 67 ((setI w 66 (w.1 62 3).toNatClampNeg x1).1 62 3).toNatClampNeg x2).1 62 3).toNatClampNeg x3).1 62 3).toNatClampNeg (-1)).1 62 3).toNatClampNeg 0) 71 ((setI (setI (setI (setI (setI w 66 (w.1 62 3).toNatClampNeg x1) 67 ((setI w 66 (w.1 62 3).toNatClampNeg x1).1 62 3).toNatClampNeg x2) 68 ((setI (setI w 66 (w.1 62 3).toNatClampNeg x1) 67 ((setI w 66 (w.1 62 3).toNatClampNeg x1).1 62 3).toNatClampNeg x2).1 62 3).toNatClampNeg x3) 69 ((setI (setI (setI w 66 (w.1 62 3).toNatClampNeg x1) 67 ((setI w 66 (w.1 62 3).toNatClampNeg x1).1 62 3).toNatClampNeg x2) 68 ((setI (setI w 66 (w.1 62 3).toNatClampNeg x1) 67 ((setI w 66 (w.1 62 3).toNatClampNeg x1).1 62 3).toNatClampNeg x2).1 62 3).toNatClampNeg x3).1 62 3).toNatClampNeg (-1)) 70 ((setI (setI (setI (setI w 66 (w.1 62 3).toNatClampNeg x1) 67 ((setI w 66 (w.1 62 3).toNatClampNeg x1).1 62 3).toNatClampNeg x2) 68 ((setI (setI w 66 (w.1 62 3).toNatClampNeg x1) 67 ((setI w 66 (w.1 62 3).toNatClampNeg x1).1 62 3).toNatClampNeg x2).1 62 3).toNatClampNeg x3) 69 ((setI (setI (setI w 66 (w.1 62 3).toNatClampNeg x1) 67 ((setI w 66 (w.1 62 3).toNatClampNeg x1).1 62 3).toNatClampNeg x2) 68 ((setI (setI w 66 (w.1 62 3).toNatClampNeg x1) 67 ((setI w 66 (w.1 62 3).toNatClampNeg x1).1 62 3).toNatClampNeg x2).1 62 3).toNatClampNeg x3).1 62 3).toNatClampNeg (-1)).1 62 3).toNatClampNeg 0).1 62 3).toNatClampNeg 0) (0 : Int32)))))))
set_option maxHeartbeats 4000000 in
theorem c_M_newMan {d : Nat} {r : Option Value} {w' : MW} (w : MW) (x1 : Int32) (x2 : Int32) (x3 : Int32) (hf : f_M_newMan w x1 x2 x3 = some (r, w')) : Ct d mM_newMan [.ref 62, .int x1, .int x2, .int x3] w r w' := by
  refine eM_newMan ?_
  unfold f_M_newMan at hf
  obtain ⟨g1_0, hf⟩ := grd_e hf
  obtain ⟨g1_1, hf⟩ := grd_e hf
  obtain ⟨g1_2, hf⟩ := grd_e hf
  obtain ⟨g1_3, hf⟩ := grd_e hf
  obtain ⟨g1_4, hf⟩ := grd_e hf
  obtain ⟨g1_5, hf⟩ := grd_e hf
  refine bM_newMan_0 (y1 := 66) (h4 := (vpb_ok g1_0)) (y2 := 67) (h8 := (vpb_ok g1_1)) (y3 := 68) (h12 := (vpb_ok g1_2)) (y4 := 69) (h16 := (vpb_ok g1_3)) (y5 := 70) (h20 := (vpb_ok g1_4)) (y6 := 71) (h24 := (vpb_ok g1_5)) (k := ?_)
  exact r_M_newMan_63 FU (setI (setI (setI (setI (setI (setI w 66 (w.1 62 3).toNatClampNeg x1) 67 ((setI w 66 (w.1 62 3).toNatClampNeg x1).1 62 3).toNatClampNeg x2) 68 ((setI (setI w 66 (w.1 62 3).toNatClampNeg x1) 67 ((setI w 66 (w.1 62 3).toNatClampNeg x1).1 62 3).toNatClampNeg x2).1 62 3).toNatClampNeg x3) 69 ((setI (setI (setI w 66 (w.1 62 3).toNatClampNeg x1) 67 ((setI w 66 (w.1 62 3).toNatClampNeg x1).1 62 3).toNatClampNeg x2) 68 ((setI (setI w 66 (w.1 62 3).toNatClampNeg x1) 67 ((setI w 66 (w.1 62 3).toNatClampNeg x1).1 62 3).toNatClampNeg x2).1 62 3).toNatClampNeg x3).1 62 3).toNatClampNeg (-1)) 70 ((setI (setI (setI (setI w 66 (w.1 62 3).toNatClampNeg x1) 67 ((setI w 66 (w.1 62 3).toNatClampNeg x1).1 62 3).toNatClampNeg x2) 68 ((setI (setI w 66 (w.1 62 3).toNatClampNeg x1) 67 ((setI w 66 (w.1 62 3).toNatClampNeg x1).1 62 3).toNatClampNeg x2).1 62 3).toNatClampNeg x3) 69 ((setI (setI (setI w 66 (w.1 62 3).toNatClampNeg x1) 67 ((setI w 66 (w.1 62 3).toNatClampNeg x1).1 62 3).toNatClampNeg x2) 68 ((setI (setI w 66 (w.1 62 3).toNatClampNeg x1) 67 ((setI w 66 (w.1 62 3).toNatClampNeg x1).1 62 3).toNatClampNeg x2).1 62 3).toNatClampNeg x3).1 62 3).toNatClampNeg (-1)).1 62 3).toNatClampNeg 0) 71 ((setI (setI (setI (setI (setI w 66 (w.1 62 3).toNatClampNeg x1) 67 ((setI w 66 (w.1 62 3).toNatClampNeg x1).1 62 3).toNatClampNeg x2) 68 ((setI (setI w 66 (w.1 62 3).toNatClampNeg x1) 67 ((setI w 66 (w.1 62 3).toNatClampNeg x1).1 62 3).toNatClampNeg x2).1 62 3).toNatClampNeg x3) 69 ((setI (setI (setI w 66 (w.1 62 3).toNatClampNeg x1) 67 ((setI w 66 (w.1 62 3).toNatClampNeg x1).1 62 3).toNatClampNeg x2) 68 ((setI (setI w 66 (w.1 62 3).toNatClampNeg x1) 67 ((setI w 66 (w.1 62 3).toNatClampNeg x1).1 62 3).toNatClampNeg x2).1 62 3).toNatClampNeg x3).1 62 3).toNatClampNeg (-1)) 70 ((setI (setI (setI (setI w 66 (w.1 62 3).toNatClampNeg x1) 67 ((setI w 66 (w.1 62 3).toNatClampNeg x1).1 62 3).toNatClampNeg x2) 68 ((setI (setI w 66 (w.1 62 3).toNatClampNeg x1) 67 ((setI w 66 (w.1 62 3).toNatClampNeg x1).1 62 3).toNatClampNeg x2).1 62 3).toNatClampNeg x3) 69 ((setI (setI (setI w 66 (w.1 62 3).toNatClampNeg x1) 67 ((setI w 66 (w.1 62 3).toNatClampNeg x1).1 62 3).toNatClampNeg x2) 68 ((setI (setI w 66 (w.1 62 3).toNatClampNeg x1) 67 ((setI w 66 (w.1 62 3).toNatClampNeg x1).1 62 3).toNatClampNeg x2).1 62 3).toNatClampNeg x3).1 62 3).toNatClampNeg (-1)).1 62 3).toNatClampNeg 0).1 62 3).toNatClampNeg 0) (0 : Int32) hf
-- M_meet
def f_M_meet (w : MW) (x1 : Int32) (x2 : Int32) (x3 : Int32) : Option RT := if (v_M_isMan w x1) = 0 then (some (some (.int (v_M_no w (-1 : Int32))), u_M_no w (-1 : Int32))) else (if (v_M_isMan w x2) = 0 then (some (some (.int (v_M_no w (-1 : Int32))), u_M_no w (-1 : Int32))) else (if x1 = x2 then (some (some (.int (v_M_no w (-6 : Int32))), u_M_no w (-6 : Int32))) else (grd (vpb x1 8 = true) (if (v_M_has w (w.1 71 x1.toNatClampNeg) x2) = 0 then (grd (vpb x1 8 = true) (grd (x3 = 0 → vpb x2 8 = true) (grd (¬ x3 = 0 → vpb x2 8 = true) (some (some (.int (0 : Int32)), u_M_meeting w x1 x2 x3))))) else (grd (vpb x1 8 = true) (grd (x3 = 0 → vpb x2 8 = true) (grd (¬ x3 = 0 → vpb x2 8 = true) (some (some (.int (1 : Int32)), u_M_meeting w x1 x2 x3)))))))))
set_option maxHeartbeats 4000000 in
theorem c_M_meet {d : Nat} {r : Option Value} {w' : MW} (w : MW) (x1 : Int32) (x2 : Int32) (x3 : Int32) (hf : f_M_meet w x1 x2 x3 = some (r, w')) : Ct (d + 2) mM_meet [.ref 62, .int x1, .int x2, .int x3] w r w' := by
  refine eM_meet ?_
  unfold f_M_meet at hf
  refine bM_meet_0 (ct := c_M_isMan (d := d) w x1) (k := ?_)
  refine bM_meet_5 (kt := fun q2 => ?_) (kf := fun q2 => ?_)
  · replace hf := ite_t q2 hf
    refine bM_meet_16 (ct := c_M_no (d := d + 1) w (-1 : Int32) (vpd (i := (-(-1 : Int32))) (n := 8) (by decide))) (k := ?_)
    obtain ⟨rfl, rfl⟩ := ret_e hf
    exact bM_meet_21 
  · replace hf := ite_f q2 hf
    refine bM_meet_8 (ct := c_M_isMan (d := d) w x2) (k := ?_)
    refine bM_meet_13 (kt := fun q6 => ?_) (kf := fun q6 => ?_)
    · replace hf := ite_f q6 hf
      refine bM_meet_22 (kt := fun q7 => ?_) (kf := fun q7 => ?_)
      · replace hf := ite_f q7 hf
        obtain ⟨g8_0, hf⟩ := grd_e hf
        refine bM_meet_34 (y1 := 71) (h3 := (vpb_ok g8_0)) (ct := c_M_has (d := d + 1) w (w.1 71 x1.toNatClampNeg) x2) (k := ?_)
        refine bM_meet_44 (kt := fun q9 => ?_) (kf := fun q9 => ?_)
        · replace hf := ite_t q9 hf
          refine bM_meet_51 (k := ?_)
          obtain ⟨g11_0, hf⟩ := grd_e hf
          obtain ⟨g11_1, hf⟩ := grd_e hf
          obtain ⟨g11_2, hf⟩ := grd_e hf
          refine bM_meet_52 (ct := c_M_meeting (d := d + 1) w x1 x2 x3 (vpb_ok g11_0) (fun z0 => vpb_ok (g11_1 z0)) (fun z0 => vpb_ok (g11_2 z0))) (k := ?_)
          obtain ⟨rfl, rfl⟩ := ret_e hf
          exact bM_meet_61 
        · replace hf := ite_f q9 hf
          refine bM_meet_47 (k := ?_)
          obtain ⟨g14_0, hf⟩ := grd_e hf
          obtain ⟨g14_1, hf⟩ := grd_e hf
          obtain ⟨g14_2, hf⟩ := grd_e hf
          refine bM_meet_52 (ct := c_M_meeting (d := d + 1) w x1 x2 x3 (vpb_ok g14_0) (fun z0 => vpb_ok (g14_1 z0)) (fun z0 => vpb_ok (g14_2 z0))) (k := ?_)
          obtain ⟨rfl, rfl⟩ := ret_e hf
          exact bM_meet_61 
      · replace hf := ite_t q7 hf
        refine bM_meet_27 (ct := c_M_no (d := d + 1) w (-6 : Int32) (vpd (i := (-(-6 : Int32))) (n := 8) (by decide))) (k := ?_)
        obtain ⟨rfl, rfl⟩ := ret_e hf
        exact bM_meet_33 
    · replace hf := ite_t q6 hf
      refine bM_meet_16 (ct := c_M_no (d := d + 1) w (-1 : Int32) (vpd (i := (-(-1 : Int32))) (n := 8) (by decide))) (k := ?_)
      obtain ⟨rfl, rfl⟩ := ret_e hf
      exact bM_meet_21 
-- M_wrong
def f_M_wrong_2 : Nat → MW → Int32 → Int32 → Int32 → Option RT
  | 0, _, _, _, _ => none
  | n + 1, w, x1, x2, x3 => if x2 ≤ x3 then (some (some (.int (-1 : Int32)), w)) else (grd (vpb ((160 * x1) + x3) 1280 = true) (if (v_M_isWord w (v_M_told w x1 x3)) = 0 then (some (some (.int x3), w)) else (f_M_wrong_2 n w x1 x2 (x3 + 1))))
set_option maxHeartbeats 4000000 in
theorem r_M_wrong_2 {d : Nat} {r : Option Value} {w' : MW} : ∀ (n : Nat) (w : MW) (x1 : Int32) (x2 : Int32) (x3 : Int32), f_M_wrong_2 n w x1 x2 x3 = some (r, w') → Rn (d + 2) mM_wrong 2 [some (.ref 62), some (.int x1), some (.int x2), some (.int x3)] [] w r w' := by
  intro n
  induction n with
  | zero =>
    intro w x1 x2 x3 hf
    cases hf
  | succ n ih =>
    intro w x1 x2 x3 hf
    rw [f_M_wrong_2] at hf
    refine bM_wrong_2 (kt := fun q1 => ?_) (kf := fun q1 => ?_)
    · replace hf := ite_t q1 hf
      obtain ⟨rfl, rfl⟩ := ret_e hf
      exact bM_wrong_27 
    · replace hf := ite_f q1 hf
      obtain ⟨g3_0, hf⟩ := grd_e hf
      refine bM_wrong_7 (ct := c_M_told (d := d + 1) w x1 x3 (vpb_ok g3_0)) (k := ?_)
      refine bM_wrong_13 (ct := c_M_isWord (d := d) w (v_M_told w x1 x3)) (k := ?_)
      refine bM_wrong_16 (kt := fun q5 => ?_) (kf := fun q5 => ?_)
      · replace hf := ite_f q5 hf
        refine bM_wrong_21 (k := ?_)
        exact ih w x1 x2 (x3 + 1) hf
      · replace hf := ite_t q5 hf
        obtain ⟨rfl, rfl⟩ := ret_e hf
        exact bM_wrong_19 
def f_M_wrong (w : MW) (x1 : Int32) (x2 : Int32) : Option RT := f_M_wrong_2 FU w x1 x2 (0 : Int32)
set_option maxHeartbeats 4000000 in
theorem c_M_wrong {d : Nat} {r : Option Value} {w' : MW} (w : MW) (x1 : Int32) (x2 : Int32) (hf : f_M_wrong w x1 x2 = some (r, w')) : Ct (d + 2) mM_wrong [.ref 62, .int x1, .int x2] w r w' := by
  refine eM_wrong ?_
  unfold f_M_wrong at hf
  refine bM_wrong_0 (k := ?_)
  exact r_M_wrong_2 FU w x1 x2 (0 : Int32) hf
-- M_word
def f_M_word (w : MW) (x1 : Int32) : Option RT := if (v_M_within w x1 (0 : Int32) ((w.1 62 10) - 1)) = 0 then (some (some (.int (v_M_no w (-5 : Int32))), u_M_no w (-5 : Int32))) else (grd (vpb x1 30 = true) (some (some (.int (w.1 72 x1.toNatClampNeg)), w)))
set_option maxHeartbeats 4000000 in
theorem c_M_word {d : Nat} {r : Option Value} {w' : MW} (w : MW) (x1 : Int32) (hf : f_M_word w x1 = some (r, w')) : Ct (d + 1) mM_word [.ref 62, .int x1] w r w' := by
  refine eM_word ?_
  unfold f_M_word at hf
  refine bM_word_0 (ct := c_M_within (d := d) w x1 (0 : Int32) ((w.1 62 10) - 1)) (k := ?_)
  refine bM_word_11 (kt := fun q2 => ?_) (kf := fun q2 => ?_)
  · replace hf := ite_t q2 hf
    refine bM_word_23 (ct := c_M_no (d := d) w (-5 : Int32) (vpd (i := (-(-5 : Int32))) (n := 8) (by decide))) (k := ?_)
    obtain ⟨rfl, rfl⟩ := ret_e hf
    exact bM_word_29 
  · replace hf := ite_f q2 hf
    obtain ⟨g5_0, hf⟩ := grd_e hf
    refine bM_word_14 (y1 := 72) (h3 := (vpb_ok g5_0)) (k := ?_)
    obtain ⟨rfl, rfl⟩ := ret_e hf
    exact bM_word_29 
-- M_keep
def f_M_keep_85 (a1 : Nat) : Nat → MW → Int32 → Option RT
  | 0, _, _ => none
  | n + 1, w, x2 => if 30 ≤ x2 then (some (none, setI (setI (setI w a1 (78 : Int32).toNatClampNeg (w.1 62 3)) a1 (79 : Int32).toNatClampNeg ((setI w a1 (78 : Int32).toNatClampNeg (w.1 62 3)).1 62 10)) a1 (80 : Int32).toNatClampNeg ((setI (setI w a1 (78 : Int32).toNatClampNeg (w.1 62 3)) a1 (79 : Int32).toNatClampNeg ((setI w a1 (78 : Int32).toNatClampNeg (w.1 62 3)).1 62 10)).1 62 12))) else (grd (vpb x2 30 = true) (grd (vpb (48 + x2) 81 = true) (f_M_keep_85 a1 n (setI w a1 (48 + x2).toNatClampNeg (w.1 72 x2.toNatClampNeg)) (x2 + 1))))
set_option maxHeartbeats 4000000 in
theorem r_M_keep_85 {d : Nat} {r : Option Value} {w' : MW} (a1 : Nat) (c1 : isIRow81 a1) : ∀ (n : Nat) (w : MW) (x2 : Int32), f_M_keep_85 a1 n w x2 = some (r, w') → Rn d mM_keep 85 [some (.ref 62), some (.ref a1), some (.int x2)] [] w r w' := by
  intro n
  induction n with
  | zero =>
    intro w x2 hf
    cases hf
  | succ n ih =>
    intro w x2 hf
    rw [f_M_keep_85] at hf
    refine bM_keep_85 (kt := fun q1 => ?_) (kf := fun q1 => ?_)
    · replace hf := ite_t q1 hf
      obtain ⟨rfl, rfl⟩ := ret_e hf
      exact bM_keep_109 (h2 := (c1).1) (h3 := al_to (c1).2 (vpd (i := (78 : Int32)) (n := 81) (by decide))) (h5 := (c1).1) (h6 := al_to (c1).2 (vpd (i := (79 : Int32)) (n := 81) (by decide))) (h8 := (c1).1) (h9 := al_to (c1).2 (vpd (i := (80 : Int32)) (n := 81) (by decide)))
    · replace hf := ite_f q1 hf
      obtain ⟨g3_0, hf⟩ := grd_e hf
      obtain ⟨g3_1, hf⟩ := grd_e hf
      refine bM_keep_91 (y1 := 72) (h3 := (vpb_ok g3_0)) (h4 := (c1).1) (h5 := al_to (c1).2 (vpb_ok g3_1)) (k := ?_)
      exact ih (setI w a1 (48 + x2).toNatClampNeg (w.1 72 x2.toNatClampNeg)) (x2 + 1) hf
def f_M_keep_2 (a1 : Nat) : Nat → MW → Int32 → Option RT
  | 0, _, _ => none
  | n + 1, w, x2 => if 8 ≤ x2 then (f_M_keep_85 a1 FU w (0 : Int32)) else (grd (vpb x2 8 = true) (grd (vpb x2 81 = true) (grd (vpb (8 + x2) 81 = true) (grd (vpb (16 + x2) 81 = true) (grd (vpb (24 + x2) 81 = true) (grd (vpb (32 + x2) 81 = true) (grd (vpb (40 + x2) 81 = true) (f_M_keep_2 a1 n (setI (setI (setI (setI (setI (setI w a1 x2.toNatClampNeg (w.1 66 x2.toNatClampNeg)) a1 (8 + x2).toNatClampNeg ((setI w a1 x2.toNatClampNeg (w.1 66 x2.toNatClampNeg)).1 67 x2.toNatClampNeg)) a1 (16 + x2).toNatClampNeg ((setI (setI w a1 x2.toNatClampNeg (w.1 66 x2.toNatClampNeg)) a1 (8 + x2).toNatClampNeg ((setI w a1 x2.toNatClampNeg (w.1 66 x2.toNatClampNeg)).1 67 x2.toNatClampNeg)).1 68 x2.toNatClampNeg)) a1 (24 + x2).toNatClampNeg ((setI (setI (setI w a1 x2.toNatClampNeg (w.1 66 x2.toNatClampNeg)) a1 (8 + x2).toNatClampNeg ((setI w a1 x2.toNatClampNeg (w.1 66 x2.toNatClampNeg)).1 67 x2.toNatClampNeg)) a1 (16 + x2).toNatClampNeg ((setI (setI w a1 x2.toNatClampNeg (w.1 66 x2.toNatClampNeg)) a1 (8 + x2).toNatClampNeg ((setI w a1 x2.toNatClampNeg (w.1 66 x2.toNatClampNeg)).1 67 x2.toNatClampNeg)).1 68 x2.toNatClampNeg)).1 69 x2.toNatClampNeg)) a1 (32 + x2).toNatClampNeg ((setI (setI (setI (setI w a1 x2.toNatClampNeg (w.1 66 x2.toNatClampNeg)) a1 (8 + x2).toNatClampNeg ((setI w a1 x2.toNatClampNeg (w.1 66 x2.toNatClampNeg)).1 67 x2.toNatClampNeg)) a1 (16 + x2).toNatClampNeg ((setI (setI w a1 x2.toNatClampNeg (w.1 66 x2.toNatClampNeg)) a1 (8 + x2).toNatClampNeg ((setI w a1 x2.toNatClampNeg (w.1 66 x2.toNatClampNeg)).1 67 x2.toNatClampNeg)).1 68 x2.toNatClampNeg)) a1 (24 + x2).toNatClampNeg ((setI (setI (setI w a1 x2.toNatClampNeg (w.1 66 x2.toNatClampNeg)) a1 (8 + x2).toNatClampNeg ((setI w a1 x2.toNatClampNeg (w.1 66 x2.toNatClampNeg)).1 67 x2.toNatClampNeg)) a1 (16 + x2).toNatClampNeg ((setI (setI w a1 x2.toNatClampNeg (w.1 66 x2.toNatClampNeg)) a1 (8 + x2).toNatClampNeg ((setI w a1 x2.toNatClampNeg (w.1 66 x2.toNatClampNeg)).1 67 x2.toNatClampNeg)).1 68 x2.toNatClampNeg)).1 69 x2.toNatClampNeg)).1 70 x2.toNatClampNeg)) a1 (40 + x2).toNatClampNeg ((setI (setI (setI (setI (setI w a1 x2.toNatClampNeg (w.1 66 x2.toNatClampNeg)) a1 (8 + x2).toNatClampNeg ((setI w a1 x2.toNatClampNeg (w.1 66 x2.toNatClampNeg)).1 67 x2.toNatClampNeg)) a1 (16 + x2).toNatClampNeg ((setI (setI w a1 x2.toNatClampNeg (w.1 66 x2.toNatClampNeg)) a1 (8 + x2).toNatClampNeg ((setI w a1 x2.toNatClampNeg (w.1 66 x2.toNatClampNeg)).1 67 x2.toNatClampNeg)).1 68 x2.toNatClampNeg)) a1 (24 + x2).toNatClampNeg ((setI (setI (setI w a1 x2.toNatClampNeg (w.1 66 x2.toNatClampNeg)) a1 (8 + x2).toNatClampNeg ((setI w a1 x2.toNatClampNeg (w.1 66 x2.toNatClampNeg)).1 67 x2.toNatClampNeg)) a1 (16 + x2).toNatClampNeg ((setI (setI w a1 x2.toNatClampNeg (w.1 66 x2.toNatClampNeg)) a1 (8 + x2).toNatClampNeg ((setI w a1 x2.toNatClampNeg (w.1 66 x2.toNatClampNeg)).1 67 x2.toNatClampNeg)).1 68 x2.toNatClampNeg)).1 69 x2.toNatClampNeg)) a1 (32 + x2).toNatClampNeg ((setI (setI (setI (setI w a1 x2.toNatClampNeg (w.1 66 x2.toNatClampNeg)) a1 (8 + x2).toNatClampNeg ((setI w a1 x2.toNatClampNeg (w.1 66 x2.toNatClampNeg)).1 67 x2.toNatClampNeg)) a1 (16 + x2).toNatClampNeg ((setI (setI w a1 x2.toNatClampNeg (w.1 66 x2.toNatClampNeg)) a1 (8 + x2).toNatClampNeg ((setI w a1 x2.toNatClampNeg (w.1 66 x2.toNatClampNeg)).1 67 x2.toNatClampNeg)).1 68 x2.toNatClampNeg)) a1 (24 + x2).toNatClampNeg ((setI (setI (setI w a1 x2.toNatClampNeg (w.1 66 x2.toNatClampNeg)) a1 (8 + x2).toNatClampNeg ((setI w a1 x2.toNatClampNeg (w.1 66 x2.toNatClampNeg)).1 67 x2.toNatClampNeg)) a1 (16 + x2).toNatClampNeg ((setI (setI w a1 x2.toNatClampNeg (w.1 66 x2.toNatClampNeg)) a1 (8 + x2).toNatClampNeg ((setI w a1 x2.toNatClampNeg (w.1 66 x2.toNatClampNeg)).1 67 x2.toNatClampNeg)).1 68 x2.toNatClampNeg)).1 69 x2.toNatClampNeg)).1 70 x2.toNatClampNeg)).1 71 x2.toNatClampNeg)) (x2 + 1)))))))))
set_option maxHeartbeats 4000000 in
theorem r_M_keep_2 {d : Nat} {r : Option Value} {w' : MW} (a1 : Nat) (c1 : isIRow81 a1) : ∀ (n : Nat) (w : MW) (x2 : Int32), f_M_keep_2 a1 n w x2 = some (r, w') → Rn d mM_keep 2 [some (.ref 62), some (.ref a1), some (.int x2)] [] w r w' := by
  intro n
  induction n with
  | zero =>
    intro w x2 hf
    cases hf
  | succ n ih =>
    intro w x2 hf
    rw [f_M_keep_2] at hf
    refine bM_keep_2 (kt := fun q1 => ?_) (kf := fun q1 => ?_)
    · replace hf := ite_t q1 hf
      refine bM_keep_83 (k := ?_)
      exact r_M_keep_85 a1 c1 FU w (0 : Int32) hf
    · replace hf := ite_f q1 hf
      obtain ⟨g3_0, hf⟩ := grd_e hf
      obtain ⟨g3_1, hf⟩ := grd_e hf
      obtain ⟨g3_2, hf⟩ := grd_e hf
      obtain ⟨g3_3, hf⟩ := grd_e hf
      obtain ⟨g3_4, hf⟩ := grd_e hf
      obtain ⟨g3_5, hf⟩ := grd_e hf
      obtain ⟨g3_6, hf⟩ := grd_e hf
      refine bM_keep_8 (y1 := 66) (h3 := (vpb_ok g3_0)) (h4 := (c1).1) (h5 := al_to (c1).2 (vpb_ok g3_1)) (y2 := 67) (h8 := (vpb_ok g3_0)) (h9 := (c1).1) (h10 := al_to (c1).2 (vpb_ok g3_2)) (y3 := 68) (h13 := (vpb_ok g3_0)) (h14 := (c1).1) (h15 := al_to (c1).2 (vpb_ok g3_3)) (y4 := 69) (h18 := (vpb_ok g3_0)) (h19 := (c1).1) (h20 := al_to (c1).2 (vpb_ok g3_4)) (y5 := 70) (h23 := (vpb_ok g3_0)) (h24 := (c1).1) (h25 := al_to (c1).2 (vpb_ok g3_5)) (y6 := 71) (h28 := (vpb_ok g3_0)) (h29 := (c1).1) (h30 := al_to (c1).2 (vpb_ok g3_6)) (k := ?_)
      exact ih (setI (setI (setI (setI (setI (setI w a1 x2.toNatClampNeg (w.1 66 x2.toNatClampNeg)) a1 (8 + x2).toNatClampNeg ((setI w a1 x2.toNatClampNeg (w.1 66 x2.toNatClampNeg)).1 67 x2.toNatClampNeg)) a1 (16 + x2).toNatClampNeg ((setI (setI w a1 x2.toNatClampNeg (w.1 66 x2.toNatClampNeg)) a1 (8 + x2).toNatClampNeg ((setI w a1 x2.toNatClampNeg (w.1 66 x2.toNatClampNeg)).1 67 x2.toNatClampNeg)).1 68 x2.toNatClampNeg)) a1 (24 + x2).toNatClampNeg ((setI (setI (setI w a1 x2.toNatClampNeg (w.1 66 x2.toNatClampNeg)) a1 (8 + x2).toNatClampNeg ((setI w a1 x2.toNatClampNeg (w.1 66 x2.toNatClampNeg)).1 67 x2.toNatClampNeg)) a1 (16 + x2).toNatClampNeg ((setI (setI w a1 x2.toNatClampNeg (w.1 66 x2.toNatClampNeg)) a1 (8 + x2).toNatClampNeg ((setI w a1 x2.toNatClampNeg (w.1 66 x2.toNatClampNeg)).1 67 x2.toNatClampNeg)).1 68 x2.toNatClampNeg)).1 69 x2.toNatClampNeg)) a1 (32 + x2).toNatClampNeg ((setI (setI (setI (setI w a1 x2.toNatClampNeg (w.1 66 x2.toNatClampNeg)) a1 (8 + x2).toNatClampNeg ((setI w a1 x2.toNatClampNeg (w.1 66 x2.toNatClampNeg)).1 67 x2.toNatClampNeg)) a1 (16 + x2).toNatClampNeg ((setI (setI w a1 x2.toNatClampNeg (w.1 66 x2.toNatClampNeg)) a1 (8 + x2).toNatClampNeg ((setI w a1 x2.toNatClampNeg (w.1 66 x2.toNatClampNeg)).1 67 x2.toNatClampNeg)).1 68 x2.toNatClampNeg)) a1 (24 + x2).toNatClampNeg ((setI (setI (setI w a1 x2.toNatClampNeg (w.1 66 x2.toNatClampNeg)) a1 (8 + x2).toNatClampNeg ((setI w a1 x2.toNatClampNeg (w.1 66 x2.toNatClampNeg)).1 67 x2.toNatClampNeg)) a1 (16 + x2).toNatClampNeg ((setI (setI w a1 x2.toNatClampNeg (w.1 66 x2.toNatClampNeg)) a1 (8 + x2).toNatClampNeg ((setI w a1 x2.toNatClampNeg (w.1 66 x2.toNatClampNeg)).1 67 x2.toNatClampNeg)).1 68 x2.toNatClampNeg)).1 69 x2.toNatClampNeg)).1 70 x2.toNatClampNeg)) a1 (40 + x2).toNatClampNeg ((setI (setI (setI (setI (setI w a1 x2.toNatClampNeg (w.1 66 x2.toNatClampNeg)) a1 (8 + x2).toNatClampNeg ((setI w a1 x2.toNatClampNeg (w.1 66 x2.toNatClampNeg)).1 67 x2.toNatClampNeg)) a1 (16 + x2).toNatClampNeg ((setI (setI w a1 x2.toNatClampNeg (w.1 66 x2.toNatClampNeg)) a1 (8 + x2).toNatClampNeg ((setI w a1 x2.toNatClampNeg (w.1 66 x2.toNatClampNeg)).1 67 x2.toNatClampNeg)).1 68 x2.toNatClampNeg)) a1 (24 + x2).toNatClampNeg ((setI (setI (setI w a1 x2.toNatClampNeg (w.1 66 x2.toNatClampNeg)) a1 (8 + x2).toNatClampNeg ((setI w a1 x2.toNatClampNeg (w.1 66 x2.toNatClampNeg)).1 67 x2.toNatClampNeg)) a1 (16 + x2).toNatClampNeg ((setI (setI w a1 x2.toNatClampNeg (w.1 66 x2.toNatClampNeg)) a1 (8 + x2).toNatClampNeg ((setI w a1 x2.toNatClampNeg (w.1 66 x2.toNatClampNeg)).1 67 x2.toNatClampNeg)).1 68 x2.toNatClampNeg)).1 69 x2.toNatClampNeg)) a1 (32 + x2).toNatClampNeg ((setI (setI (setI (setI w a1 x2.toNatClampNeg (w.1 66 x2.toNatClampNeg)) a1 (8 + x2).toNatClampNeg ((setI w a1 x2.toNatClampNeg (w.1 66 x2.toNatClampNeg)).1 67 x2.toNatClampNeg)) a1 (16 + x2).toNatClampNeg ((setI (setI w a1 x2.toNatClampNeg (w.1 66 x2.toNatClampNeg)) a1 (8 + x2).toNatClampNeg ((setI w a1 x2.toNatClampNeg (w.1 66 x2.toNatClampNeg)).1 67 x2.toNatClampNeg)).1 68 x2.toNatClampNeg)) a1 (24 + x2).toNatClampNeg ((setI (setI (setI w a1 x2.toNatClampNeg (w.1 66 x2.toNatClampNeg)) a1 (8 + x2).toNatClampNeg ((setI w a1 x2.toNatClampNeg (w.1 66 x2.toNatClampNeg)).1 67 x2.toNatClampNeg)) a1 (16 + x2).toNatClampNeg ((setI (setI w a1 x2.toNatClampNeg (w.1 66 x2.toNatClampNeg)) a1 (8 + x2).toNatClampNeg ((setI w a1 x2.toNatClampNeg (w.1 66 x2.toNatClampNeg)).1 67 x2.toNatClampNeg)).1 68 x2.toNatClampNeg)).1 69 x2.toNatClampNeg)).1 70 x2.toNatClampNeg)).1 71 x2.toNatClampNeg)) (x2 + 1) hf
def f_M_keep (w : MW) (a1 : Nat) : Option RT := f_M_keep_2 a1 FU w (0 : Int32)
set_option maxHeartbeats 4000000 in
theorem c_M_keep {d : Nat} {r : Option Value} {w' : MW} (w : MW) (a1 : Nat) (c1 : isIRow81 a1) (hf : f_M_keep w a1 = some (r, w')) : Ct d mM_keep [.ref 62, .ref a1] w r w' := by
  refine eM_keep ?_
  unfold f_M_keep at hf
  refine bM_keep_0 (k := ?_)
  exact r_M_keep_2 a1 c1 FU w (0 : Int32) hf
-- M_word_2
def f_M_word_2_2 (a1 : Nat) : Nat → MW → Int32 → Option RT
  | 0, _, _ => none
  | n + 1, w, x2 => bI (f_JS_length w a1) (fun v1 w1 => if v1 ≤ x2 then (some (some (.int (1 : Int32)), w1)) else (bI (f_JS_charAt w1 a1 x2) (fun v4 w4 => grd (vpb (w4.1 62 23) 8 = true) (grd (¬ (w4.1 64 (w4.1 62 23).toNatClampNeg) ≤ (w4.1 62 24) → vpb ((160 * (w4.1 62 23)) + (w4.1 62 24)) 1280 = true) (if (v_M_is w4 v4) = 0 then (some (some (.int (0 : Int32)), u_M_is w4 v4)) else (f_M_word_2_2 a1 n (u_M_is w4 v4) (x2 + 1)))))))
set_option maxHeartbeats 4000000 in
theorem r_M_word_2_2 {d : Nat} {r : Option Value} {w' : MW} (a1 : Nat) (c1 : isT a1) : ∀ (n : Nat) (w : MW) (x2 : Int32), f_M_word_2_2 a1 n w x2 = some (r, w') → Rn (d + 4) mM_word_2 2 [some (.ref 62), some (.ref a1), some (.int x2)] [] w r w' := by
  intro n
  induction n with
  | zero =>
    intro w x2 hf
    cases hf
  | succ n ih =>
    intro w x2 hf
    rw [f_M_word_2_2] at hf
    obtain ⟨v1, w1, e1, hf⟩ := bI_e hf
    refine bM_word_2_2 (h1 := c1) (ct := c_JS_length (d := d + 2) w a1 c1 e1) (k := ?_)
    refine bM_word_2_7 (kt := fun q2 => ?_) (kf := fun q2 => ?_)
    · replace hf := ite_t q2 hf
      obtain ⟨rfl, rfl⟩ := ret_e hf
      exact bM_word_2_30 
    · replace hf := ite_f q2 hf
      obtain ⟨v4, w4, e4, hf⟩ := bI_e hf
      refine bM_word_2_10 (h1 := c1) (ct := c_JS_charAt (d := d) w1 a1 x2 c1 e4) (k := ?_)
      obtain ⟨g5_0, hf⟩ := grd_e hf
      obtain ⟨g5_1, hf⟩ := grd_e hf
      refine bM_word_2_16 (ct := c_M_is (d := d + 2) w4 v4 (vpb_ok g5_0) (fun z0 => vpb_ok (g5_1 z0))) (k := ?_)
      refine bM_word_2_19 (kt := fun q6 => ?_) (kf := fun q6 => ?_)
      · replace hf := ite_f q6 hf
        refine bM_word_2_24 (k := ?_)
        exact ih (u_M_is w4 v4) (x2 + 1) hf
      · replace hf := ite_t q6 hf
        obtain ⟨rfl, rfl⟩ := ret_e hf
        exact bM_word_2_22 
def f_M_word_2 (w : MW) (a1 : Nat) : Option RT := f_M_word_2_2 a1 FU w (0 : Int32)
set_option maxHeartbeats 4000000 in
theorem c_M_word_2 {d : Nat} {r : Option Value} {w' : MW} (w : MW) (a1 : Nat) (c1 : isT a1) (hf : f_M_word_2 w a1 = some (r, w')) : Ct (d + 4) mM_word_2 [.ref 62, .ref a1] w r w' := by
  refine eM_word_2 ?_
  unfold f_M_word_2 at hf
  refine bM_word_2_0 (k := ?_)
  exact r_M_word_2_2 a1 c1 FU w (0 : Int32) hf
-- M_number
def f_M_number_20 : Nat → MW → Int32 → Int32 → Int32 → Int32 → Int32 → Option RT
  | 0, _, _, _, _, _, _ => none
  | n + 1, w, x1, x2, x3, x4, x5 => if 2 ≤ ((w.1 62 24) - x4) then (if (w.1 62 24) = x4 then (some (some (.int (0 : Int32)), w)) else (grd (vpb x1 3 = true) (if (v_M_within (setI w 80 x1.toNatClampNeg x5) x5 x2 x3) = 0 then (some (some (.int (v_M_within (setI w 80 x1.toNatClampNeg x5) x5 x2 x3)), setI (setI w 80 x1.toNatClampNeg x5) 62 24 x4)) else (some (some (.int (v_M_within (setI w 80 x1.toNatClampNeg x5) x5 x2 x3)), setI w 80 x1.toNatClampNeg x5))))) else (grd (vpb (w.1 62 23) 8 = true) (grd (¬ (w.1 64 (w.1 62 23).toNatClampNeg) ≤ (w.1 62 24) → vpb ((160 * (w.1 62 23)) + (w.1 62 24)) 1280 = true) (if (v_M_sign w ) < 48 then (if (w.1 62 24) = x4 then (some (some (.int (0 : Int32)), w)) else (grd (vpb x1 3 = true) (if (v_M_within (setI w 80 x1.toNatClampNeg x5) x5 x2 x3) = 0 then (some (some (.int (v_M_within (setI w 80 x1.toNatClampNeg x5) x5 x2 x3)), setI (setI w 80 x1.toNatClampNeg x5) 62 24 x4)) else (some (some (.int (v_M_within (setI w 80 x1.toNatClampNeg x5) x5 x2 x3)), setI w 80 x1.toNatClampNeg x5))))) else (grd (vpb (w.1 62 23) 8 = true) (grd (¬ (w.1 64 (w.1 62 23).toNatClampNeg) ≤ (w.1 62 24) → vpb ((160 * (w.1 62 23)) + (w.1 62 24)) 1280 = true) (if 57 < (v_M_sign w ) then (if (w.1 62 24) = x4 then (some (some (.int (0 : Int32)), w)) else (grd (vpb x1 3 = true) (if (v_M_within (setI w 80 x1.toNatClampNeg x5) x5 x2 x3) = 0 then (some (some (.int (v_M_within (setI w 80 x1.toNatClampNeg x5) x5 x2 x3)), setI (setI w 80 x1.toNatClampNeg x5) 62 24 x4)) else (some (some (.int (v_M_within (setI w 80 x1.toNatClampNeg x5) x5 x2 x3)), setI w 80 x1.toNatClampNeg x5))))) else (grd (vpb (w.1 62 23) 8 = true) (grd (¬ (w.1 64 (w.1 62 23).toNatClampNeg) ≤ (w.1 62 24) → vpb ((160 * (w.1 62 23)) + (w.1 62 24)) 1280 = true) (f_M_number_20 n (setI w 62 24 ((w.1 62 24) + 1)) x1 x2 x3 x4 (((10 * x5) + (v_M_sign w )) - 48))))))))))
set_option maxHeartbeats 4000000 in
theorem r_M_number_20 {d : Nat} {r : Option Value} {w' : MW} : ∀ (n : Nat) (w : MW) (x1 : Int32) (x2 : Int32) (x3 : Int32) (x4 : Int32) (x5 : Int32), f_M_number_20 n w x1 x2 x3 x4 x5 = some (r, w') → Rn (d + 2) mM_number 20 [some (.ref 62), some (.int x1), some (.int x2), some (.int x3), some (.int x4), some (.int x5), none] [] w r w' := by
  intro n
  induction n with
  | zero =>
    intro w x1 x2 x3 x4 x5 hf
    cases hf
  | succ n ih =>
    intro w x1 x2 x3 x4 x5 hf
    rw [f_M_number_20] at hf
    refine bM_number_20 (kt := fun q1 => ?_) (kf := fun q1 => ?_)
    · replace hf := ite_t q1 hf
      refine bM_number_77 (kt := fun q2 => ?_) (kf := fun q2 => ?_)
      · replace hf := ite_f q2 hf
        obtain ⟨g3_0, hf⟩ := grd_e hf
        refine bM_number_88 (y1 := 80) (h3 := (vpb_ok g3_0)) (ct := c_M_within (d := d + 1) (setI w 80 x1.toNatClampNeg x5) x5 x2 x3) (k := ?_)
        refine bM_number_103 (kt := fun q4 => ?_) (kf := fun q4 => ?_)
        · replace hf := ite_f q4 hf
          obtain ⟨rfl, rfl⟩ := ret_e hf
          exact bM_number_116 (hn := nz (z_M_within (setI w 80 x1.toNatClampNeg x5) x5 x2 x3))
        · replace hf := ite_t q4 hf
          refine bM_number_110 (k := ?_)
          obtain ⟨rfl, rfl⟩ := ret_e hf
          exact bM_number_116 (hn := nz (z_M_within (setI w 80 x1.toNatClampNeg x5) x5 x2 x3))
      · replace hf := ite_t q2 hf
        obtain ⟨rfl, rfl⟩ := ret_e hf
        exact bM_number_86 
    · replace hf := ite_f q1 hf
      obtain ⟨g9_0, hf⟩ := grd_e hf
      obtain ⟨g9_1, hf⟩ := grd_e hf
      refine bM_number_31 (ct := c_M_sign (d := d + 1) w (vpb_ok g9_0) (fun z0 => vpb_ok (g9_1 z0))) (k := ?_)
      refine bM_number_35 (kt := fun q10 => ?_) (kf := fun q10 => ?_)
      · replace hf := ite_t q10 hf
        refine bM_number_77 (kt := fun q11 => ?_) (kf := fun q11 => ?_)
        · replace hf := ite_f q11 hf
          obtain ⟨g12_0, hf⟩ := grd_e hf
          refine bM_number_88 (y1 := 80) (h3 := (vpb_ok g12_0)) (ct := c_M_within (d := d + 1) (setI w 80 x1.toNatClampNeg x5) x5 x2 x3) (k := ?_)
          refine bM_number_103 (kt := fun q13 => ?_) (kf := fun q13 => ?_)
          · replace hf := ite_f q13 hf
            obtain ⟨rfl, rfl⟩ := ret_e hf
            exact bM_number_116 (hn := nz (z_M_within (setI w 80 x1.toNatClampNeg x5) x5 x2 x3))
          · replace hf := ite_t q13 hf
            refine bM_number_110 (k := ?_)
            obtain ⟨rfl, rfl⟩ := ret_e hf
            exact bM_number_116 (hn := nz (z_M_within (setI w 80 x1.toNatClampNeg x5) x5 x2 x3))
        · replace hf := ite_t q11 hf
          obtain ⟨rfl, rfl⟩ := ret_e hf
          exact bM_number_86 
      · replace hf := ite_f q10 hf
        obtain ⟨g18_0, hf⟩ := grd_e hf
        obtain ⟨g18_1, hf⟩ := grd_e hf
        refine bM_number_40 (ct := c_M_sign (d := d + 1) w (vpb_ok g18_0) (fun z0 => vpb_ok (g18_1 z0))) (k := ?_)
        refine bM_number_44 (kt := fun q19 => ?_) (kf := fun q19 => ?_)
        · replace hf := ite_t q19 hf
          refine bM_number_77 (kt := fun q20 => ?_) (kf := fun q20 => ?_)
          · replace hf := ite_f q20 hf
            obtain ⟨g21_0, hf⟩ := grd_e hf
            refine bM_number_88 (y1 := 80) (h3 := (vpb_ok g21_0)) (ct := c_M_within (d := d + 1) (setI w 80 x1.toNatClampNeg x5) x5 x2 x3) (k := ?_)
            refine bM_number_103 (kt := fun q22 => ?_) (kf := fun q22 => ?_)
            · replace hf := ite_f q22 hf
              obtain ⟨rfl, rfl⟩ := ret_e hf
              exact bM_number_116 (hn := nz (z_M_within (setI w 80 x1.toNatClampNeg x5) x5 x2 x3))
            · replace hf := ite_t q22 hf
              refine bM_number_110 (k := ?_)
              obtain ⟨rfl, rfl⟩ := ret_e hf
              exact bM_number_116 (hn := nz (z_M_within (setI w 80 x1.toNatClampNeg x5) x5 x2 x3))
          · replace hf := ite_t q20 hf
            obtain ⟨rfl, rfl⟩ := ret_e hf
            exact bM_number_86 
        · replace hf := ite_f q19 hf
          obtain ⟨g27_0, hf⟩ := grd_e hf
          obtain ⟨g27_1, hf⟩ := grd_e hf
          refine bM_number_49 (ct := c_M_sign (d := d + 1) w (vpb_ok g27_0) (fun z0 => vpb_ok (g27_1 z0))) (k := ?_)
          refine bM_number_58 (k := ?_)
          exact ih (setI w 62 24 ((w.1 62 24) + 1)) x1 x2 x3 x4 (((10 * x5) + (v_M_sign w )) - 48) hf
def f_M_number (w : MW) (x1 : Int32) (x2 : Int32) (x3 : Int32) : Option RT := grd (vpb (w.1 62 23) 8 = true) (grd (¬ (w.1 64 (w.1 62 23).toNatClampNeg) ≤ (w.1 62 24) → vpb ((160 * (w.1 62 23)) + (w.1 62 24)) 1280 = true) (if (v_M_is w (32 : Int32)) = 0 then (some (some (.int (0 : Int32)), u_M_is w (32 : Int32))) else (f_M_number_20 FU (u_M_is w (32 : Int32)) x1 x2 x3 ((u_M_is w (32 : Int32)).1 62 24) (0 : Int32))))
set_option maxHeartbeats 4000000 in
theorem c_M_number {d : Nat} {r : Option Value} {w' : MW} (w : MW) (x1 : Int32) (x2 : Int32) (x3 : Int32) (hf : f_M_number w x1 x2 x3 = some (r, w')) : Ct (d + 2) mM_number [.ref 62, .int x1, .int x2, .int x3] w r w' := by
  refine eM_number ?_
  unfold f_M_number at hf
  obtain ⟨g1_0, hf⟩ := grd_e hf
  obtain ⟨g1_1, hf⟩ := grd_e hf
  refine bM_number_0 (ct := c_M_is (d := d) w (32 : Int32) (vpb_ok g1_0) (fun z0 => vpb_ok (g1_1 z0))) (k := ?_)
  refine bM_number_6 (kt := fun q2 => ?_) (kf := fun q2 => ?_)
  · replace hf := ite_f q2 hf
    refine bM_number_11 (k := ?_)
    exact r_M_number_20 FU (u_M_is w (32 : Int32)) x1 x2 x3 ((u_M_is w (32 : Int32)).1 62 24) (0 : Int32) hf
  · replace hf := ite_t q2 hf
    obtain ⟨rfl, rfl⟩ := ret_e hf
    exact bM_number_9 
-- M_stands
def f_M_stands (w : MW) (x1 : Int32) (x2 : Int32) : Option RT := if x2 = 0 then (grd (x2 = 0 ∨ x2 = 1) (some (some (.int x2), setI w 62 24 x1))) else (grd (x2 = 0 ∨ x2 = 1) (some (some (.int x2), w)))
set_option maxHeartbeats 4000000 in
theorem c_M_stands {d : Nat} {r : Option Value} {w' : MW} (w : MW) (x1 : Int32) (x2 : Int32) (hf : f_M_stands w x1 x2 = some (r, w')) : Ct d mM_stands [.ref 62, .int x1, .int x2] w r w' := by
  refine eM_stands ?_
  unfold f_M_stands at hf
  refine bM_stands_0 (kt := fun q1 => ?_) (kf := fun q1 => ?_)
  · replace hf := ite_f q1 hf
    obtain ⟨g2_z, hf⟩ := grd_e hf
    obtain ⟨rfl, rfl⟩ := ret_e hf
    exact bM_stands_9 (hn := nz g2_z)
  · replace hf := ite_t q1 hf
    refine bM_stands_4 (k := ?_)
    obtain ⟨g4_z, hf⟩ := grd_e hf
    obtain ⟨rfl, rfl⟩ := ret_e hf
    exact bM_stands_9 (hn := nz g4_z)
-- M_word_3
def f_M_word_3 (w : MW) (a1 : Nat) (x2 : Int32) : Option RT := bI (f_M_word_2 w a1) (fun v1 w1 => if v1 = 0 then (if v1 = 0 then (some (some (.int (0 : Int32)), w1)) else (if x2 = 0 then (some (some (.int (0 : Int32)), w1)) else (some (some (.int (1 : Int32)), w1)))) else (if x2 = 0 then (if v1 = 0 then (some (some (.int (0 : Int32)), setI w1 62 24 (w.1 62 24))) else (if x2 = 0 then (some (some (.int (0 : Int32)), setI w1 62 24 (w.1 62 24))) else (some (some (.int (1 : Int32)), setI w1 62 24 (w.1 62 24))))) else (if v1 = 0 then (some (some (.int (0 : Int32)), w1)) else (if x2 = 0 then (some (some (.int (0 : Int32)), w1)) else (some (some (.int (1 : Int32)), w1))))))
set_option maxHeartbeats 4000000 in
theorem c_M_word_3 {d : Nat} {r : Option Value} {w' : MW} (w : MW) (a1 : Nat) (x2 : Int32) (c1 : isT a1) (hf : f_M_word_3 w a1 x2 = some (r, w')) : Ct (d + 5) mM_word_3 [.ref 62, .ref a1, .int x2] w r w' := by
  refine eM_word_3 ?_
  unfold f_M_word_3 at hf
  obtain ⟨v1, w1, e1, hf⟩ := bI_e hf
  refine bM_word_3_0 (ct := c_M_word_2 (d := d) w a1 c1 e1) (k := ?_)
  refine bM_word_3_10 (kt := fun q2 => ?_) (kf := fun q2 => ?_)
  · replace hf := ite_t q2 hf
    refine bM_word_3_26 (kt := fun q3 => ?_) (kf := fun q3 => ?_)
    · replace hf := ite_t q3 hf
      refine bM_word_3_39 (k := ?_)
      obtain ⟨rfl, rfl⟩ := ret_e hf
      exact bM_word_3_40 
    · replace hf := ite_f q3 hf
      refine bM_word_3_31 (kt := fun q6 => ?_) (kf := fun q6 => ?_)
      · replace hf := ite_t q6 hf
        refine bM_word_3_39 (k := ?_)
        obtain ⟨rfl, rfl⟩ := ret_e hf
        exact bM_word_3_40 
      · replace hf := ite_f q6 hf
        refine bM_word_3_35 (k := ?_)
        obtain ⟨rfl, rfl⟩ := ret_e hf
        exact bM_word_3_40 
  · replace hf := ite_f q2 hf
    refine bM_word_3_17 (kt := fun q11 => ?_) (kf := fun q11 => ?_)
    · replace hf := ite_f q11 hf
      refine bM_word_3_26 (kt := fun q12 => ?_) (kf := fun q12 => ?_)
      · replace hf := ite_t q12 hf
        refine bM_word_3_39 (k := ?_)
        obtain ⟨rfl, rfl⟩ := ret_e hf
        exact bM_word_3_40 
      · replace hf := ite_f q12 hf
        refine bM_word_3_31 (kt := fun q15 => ?_) (kf := fun q15 => ?_)
        · replace hf := ite_t q15 hf
          refine bM_word_3_39 (k := ?_)
          obtain ⟨rfl, rfl⟩ := ret_e hf
          exact bM_word_3_40 
        · replace hf := ite_f q15 hf
          refine bM_word_3_35 (k := ?_)
          obtain ⟨rfl, rfl⟩ := ret_e hf
          exact bM_word_3_40 
    · replace hf := ite_t q11 hf
      refine bM_word_3_21 (k := ?_)
      refine bM_word_3_26 (kt := fun q21 => ?_) (kf := fun q21 => ?_)
      · replace hf := ite_t q21 hf
        refine bM_word_3_39 (k := ?_)
        obtain ⟨rfl, rfl⟩ := ret_e hf
        exact bM_word_3_40 
      · replace hf := ite_f q21 hf
        refine bM_word_3_31 (kt := fun q24 => ?_) (kf := fun q24 => ?_)
        · replace hf := ite_t q24 hf
          refine bM_word_3_39 (k := ?_)
          obtain ⟨rfl, rfl⟩ := ret_e hf
          exact bM_word_3_40 
        · replace hf := ite_f q24 hf
          refine bM_word_3_35 (k := ?_)
          obtain ⟨rfl, rfl⟩ := ret_e hf
          exact bM_word_3_40 
-- M_again
def f_M_again_85 (a1 : Nat) : Nat → MW → Int32 → Option RT
  | 0, _, _ => none
  | n + 1, w, x2 => if 30 ≤ x2 then (some (none, setI (setI (setI w 62 3 (w.1 a1 (78 : Int32).toNatClampNeg)) 62 10 ((setI w 62 3 (w.1 a1 (78 : Int32).toNatClampNeg)).1 a1 (79 : Int32).toNatClampNeg)) 62 12 ((setI (setI w 62 3 (w.1 a1 (78 : Int32).toNatClampNeg)) 62 10 ((setI w 62 3 (w.1 a1 (78 : Int32).toNatClampNeg)).1 a1 (79 : Int32).toNatClampNeg)).1 a1 (80 : Int32).toNatClampNeg))) else (grd (vpb (48 + x2) 81 = true) (grd (vpb x2 30 = true) (f_M_again_85 a1 n (setI w 72 x2.toNatClampNeg (w.1 a1 (48 + x2).toNatClampNeg)) (x2 + 1))))
set_option maxHeartbeats 4000000 in
theorem r_M_again_85 {d : Nat} {r : Option Value} {w' : MW} (a1 : Nat) (c1 : isIRow81 a1) : ∀ (n : Nat) (w : MW) (x2 : Int32), f_M_again_85 a1 n w x2 = some (r, w') → Rn d mM_again 85 [some (.ref 62), some (.ref a1), some (.int x2)] [] w r w' := by
  intro n
  induction n with
  | zero =>
    intro w x2 hf
    cases hf
  | succ n ih =>
    intro w x2 hf
    rw [f_M_again_85] at hf
    refine bM_again_85 (kt := fun q1 => ?_) (kf := fun q1 => ?_)
    · replace hf := ite_t q1 hf
      obtain ⟨rfl, rfl⟩ := ret_e hf
      exact bM_again_109 (h1 := (Or.inl (c1).1)) (h2 := al_in (c1).1 (c1).2 (vpd (i := (78 : Int32)) (n := 81) (by decide))) (h4 := (Or.inl (c1).1)) (h5 := al_in (c1).1 (c1).2 (vpd (i := (79 : Int32)) (n := 81) (by decide))) (h7 := (Or.inl (c1).1)) (h8 := al_in (c1).1 (c1).2 (vpd (i := (80 : Int32)) (n := 81) (by decide)))
    · replace hf := ite_f q1 hf
      obtain ⟨g3_0, hf⟩ := grd_e hf
      obtain ⟨g3_1, hf⟩ := grd_e hf
      refine bM_again_91 (y1 := 72) (h2 := (Or.inl (c1).1)) (h3 := al_in (c1).1 (c1).2 (vpb_ok g3_0)) (h5 := (vpb_ok g3_1)) (k := ?_)
      exact ih (setI w 72 x2.toNatClampNeg (w.1 a1 (48 + x2).toNatClampNeg)) (x2 + 1) hf
def f_M_again_2 (a1 : Nat) : Nat → MW → Int32 → Option RT
  | 0, _, _ => none
  | n + 1, w, x2 => if 8 ≤ x2 then (f_M_again_85 a1 FU w (0 : Int32)) else (grd (vpb x2 81 = true) (grd (vpb x2 8 = true) (grd (vpb (8 + x2) 81 = true) (grd (vpb (16 + x2) 81 = true) (grd (vpb (24 + x2) 81 = true) (grd (vpb (32 + x2) 81 = true) (grd (vpb (40 + x2) 81 = true) (f_M_again_2 a1 n (setI (setI (setI (setI (setI (setI w 66 x2.toNatClampNeg (w.1 a1 x2.toNatClampNeg)) 67 x2.toNatClampNeg ((setI w 66 x2.toNatClampNeg (w.1 a1 x2.toNatClampNeg)).1 a1 (8 + x2).toNatClampNeg)) 68 x2.toNatClampNeg ((setI (setI w 66 x2.toNatClampNeg (w.1 a1 x2.toNatClampNeg)) 67 x2.toNatClampNeg ((setI w 66 x2.toNatClampNeg (w.1 a1 x2.toNatClampNeg)).1 a1 (8 + x2).toNatClampNeg)).1 a1 (16 + x2).toNatClampNeg)) 69 x2.toNatClampNeg ((setI (setI (setI w 66 x2.toNatClampNeg (w.1 a1 x2.toNatClampNeg)) 67 x2.toNatClampNeg ((setI w 66 x2.toNatClampNeg (w.1 a1 x2.toNatClampNeg)).1 a1 (8 + x2).toNatClampNeg)) 68 x2.toNatClampNeg ((setI (setI w 66 x2.toNatClampNeg (w.1 a1 x2.toNatClampNeg)) 67 x2.toNatClampNeg ((setI w 66 x2.toNatClampNeg (w.1 a1 x2.toNatClampNeg)).1 a1 (8 + x2).toNatClampNeg)).1 a1 (16 + x2).toNatClampNeg)).1 a1 (24 + x2).toNatClampNeg)) 70 x2.toNatClampNeg ((setI (setI (setI (setI w 66 x2.toNatClampNeg (w.1 a1 x2.toNatClampNeg)) 67 x2.toNatClampNeg ((setI w 66 x2.toNatClampNeg (w.1 a1 x2.toNatClampNeg)).1 a1 (8 + x2).toNatClampNeg)) 68 x2.toNatClampNeg ((setI (setI w 66 x2.toNatClampNeg (w.1 a1 x2.toNatClampNeg)) 67 x2.toNatClampNeg ((setI w 66 x2.toNatClampNeg (w.1 a1 x2.toNatClampNeg)).1 a1 (8 + x2).toNatClampNeg)).1 a1 (16 + x2).toNatClampNeg)) 69 x2.toNatClampNeg ((setI (setI (setI w 66 x2.toNatClampNeg (w.1 a1 x2.toNatClampNeg)) 67 x2.toNatClampNeg ((setI w 66 x2.toNatClampNeg (w.1 a1 x2.toNatClampNeg)).1 a1 (8 + x2).toNatClampNeg)) 68 x2.toNatClampNeg ((setI (setI w 66 x2.toNatClampNeg (w.1 a1 x2.toNatClampNeg)) 67 x2.toNatClampNeg ((setI w 66 x2.toNatClampNeg (w.1 a1 x2.toNatClampNeg)).1 a1 (8 + x2).toNatClampNeg)).1 a1 (16 + x2).toNatClampNeg)).1 a1 (24 + x2).toNatClampNeg)).1 a1 (32 + x2).toNatClampNeg)) 71 x2.toNatClampNeg ((setI (setI (setI (setI (setI w 66 x2.toNatClampNeg (w.1 a1 x2.toNatClampNeg)) 67 x2.toNatClampNeg ((setI w 66 x2.toNatClampNeg (w.1 a1 x2.toNatClampNeg)).1 a1 (8 + x2).toNatClampNeg)) 68 x2.toNatClampNeg ((setI (setI w 66 x2.toNatClampNeg (w.1 a1 x2.toNatClampNeg)) 67 x2.toNatClampNeg ((setI w 66 x2.toNatClampNeg (w.1 a1 x2.toNatClampNeg)).1 a1 (8 + x2).toNatClampNeg)).1 a1 (16 + x2).toNatClampNeg)) 69 x2.toNatClampNeg ((setI (setI (setI w 66 x2.toNatClampNeg (w.1 a1 x2.toNatClampNeg)) 67 x2.toNatClampNeg ((setI w 66 x2.toNatClampNeg (w.1 a1 x2.toNatClampNeg)).1 a1 (8 + x2).toNatClampNeg)) 68 x2.toNatClampNeg ((setI (setI w 66 x2.toNatClampNeg (w.1 a1 x2.toNatClampNeg)) 67 x2.toNatClampNeg ((setI w 66 x2.toNatClampNeg (w.1 a1 x2.toNatClampNeg)).1 a1 (8 + x2).toNatClampNeg)).1 a1 (16 + x2).toNatClampNeg)).1 a1 (24 + x2).toNatClampNeg)) 70 x2.toNatClampNeg ((setI (setI (setI (setI w 66 x2.toNatClampNeg (w.1 a1 x2.toNatClampNeg)) 67 x2.toNatClampNeg ((setI w 66 x2.toNatClampNeg (w.1 a1 x2.toNatClampNeg)).1 a1 (8 + x2).toNatClampNeg)) 68 x2.toNatClampNeg ((setI (setI w 66 x2.toNatClampNeg (w.1 a1 x2.toNatClampNeg)) 67 x2.toNatClampNeg ((setI w 66 x2.toNatClampNeg (w.1 a1 x2.toNatClampNeg)).1 a1 (8 + x2).toNatClampNeg)).1 a1 (16 + x2).toNatClampNeg)) 69 x2.toNatClampNeg ((setI (setI (setI w 66 x2.toNatClampNeg (w.1 a1 x2.toNatClampNeg)) 67 x2.toNatClampNeg ((setI w 66 x2.toNatClampNeg (w.1 a1 x2.toNatClampNeg)).1 a1 (8 + x2).toNatClampNeg)) 68 x2.toNatClampNeg ((setI (setI w 66 x2.toNatClampNeg (w.1 a1 x2.toNatClampNeg)) 67 x2.toNatClampNeg ((setI w 66 x2.toNatClampNeg (w.1 a1 x2.toNatClampNeg)).1 a1 (8 + x2).toNatClampNeg)).1 a1 (16 + x2).toNatClampNeg)).1 a1 (24 + x2).toNatClampNeg)).1 a1 (32 + x2).toNatClampNeg)).1 a1 (40 + x2).toNatClampNeg)) (x2 + 1)))))))))
set_option maxHeartbeats 4000000 in
theorem r_M_again_2 {d : Nat} {r : Option Value} {w' : MW} (a1 : Nat) (c1 : isIRow81 a1) : ∀ (n : Nat) (w : MW) (x2 : Int32), f_M_again_2 a1 n w x2 = some (r, w') → Rn d mM_again 2 [some (.ref 62), some (.ref a1), some (.int x2)] [] w r w' := by
  intro n
  induction n with
  | zero =>
    intro w x2 hf
    cases hf
  | succ n ih =>
    intro w x2 hf
    rw [f_M_again_2] at hf
    refine bM_again_2 (kt := fun q1 => ?_) (kf := fun q1 => ?_)
    · replace hf := ite_t q1 hf
      refine bM_again_83 (k := ?_)
      exact r_M_again_85 a1 c1 FU w (0 : Int32) hf
    · replace hf := ite_f q1 hf
      obtain ⟨g3_0, hf⟩ := grd_e hf
      obtain ⟨g3_1, hf⟩ := grd_e hf
      obtain ⟨g3_2, hf⟩ := grd_e hf
      obtain ⟨g3_3, hf⟩ := grd_e hf
      obtain ⟨g3_4, hf⟩ := grd_e hf
      obtain ⟨g3_5, hf⟩ := grd_e hf
      obtain ⟨g3_6, hf⟩ := grd_e hf
      refine bM_again_8 (y1 := 66) (h2 := (Or.inl (c1).1)) (h3 := al_in (c1).1 (c1).2 (vpb_ok g3_0)) (h5 := (vpb_ok g3_1)) (y2 := 67) (h7 := (Or.inl (c1).1)) (h8 := al_in (c1).1 (c1).2 (vpb_ok g3_2)) (h10 := (vpb_ok g3_1)) (y3 := 68) (h12 := (Or.inl (c1).1)) (h13 := al_in (c1).1 (c1).2 (vpb_ok g3_3)) (h15 := (vpb_ok g3_1)) (y4 := 69) (h17 := (Or.inl (c1).1)) (h18 := al_in (c1).1 (c1).2 (vpb_ok g3_4)) (h20 := (vpb_ok g3_1)) (y5 := 70) (h22 := (Or.inl (c1).1)) (h23 := al_in (c1).1 (c1).2 (vpb_ok g3_5)) (h25 := (vpb_ok g3_1)) (y6 := 71) (h27 := (Or.inl (c1).1)) (h28 := al_in (c1).1 (c1).2 (vpb_ok g3_6)) (h30 := (vpb_ok g3_1)) (k := ?_)
      exact ih (setI (setI (setI (setI (setI (setI w 66 x2.toNatClampNeg (w.1 a1 x2.toNatClampNeg)) 67 x2.toNatClampNeg ((setI w 66 x2.toNatClampNeg (w.1 a1 x2.toNatClampNeg)).1 a1 (8 + x2).toNatClampNeg)) 68 x2.toNatClampNeg ((setI (setI w 66 x2.toNatClampNeg (w.1 a1 x2.toNatClampNeg)) 67 x2.toNatClampNeg ((setI w 66 x2.toNatClampNeg (w.1 a1 x2.toNatClampNeg)).1 a1 (8 + x2).toNatClampNeg)).1 a1 (16 + x2).toNatClampNeg)) 69 x2.toNatClampNeg ((setI (setI (setI w 66 x2.toNatClampNeg (w.1 a1 x2.toNatClampNeg)) 67 x2.toNatClampNeg ((setI w 66 x2.toNatClampNeg (w.1 a1 x2.toNatClampNeg)).1 a1 (8 + x2).toNatClampNeg)) 68 x2.toNatClampNeg ((setI (setI w 66 x2.toNatClampNeg (w.1 a1 x2.toNatClampNeg)) 67 x2.toNatClampNeg ((setI w 66 x2.toNatClampNeg (w.1 a1 x2.toNatClampNeg)).1 a1 (8 + x2).toNatClampNeg)).1 a1 (16 + x2).toNatClampNeg)).1 a1 (24 + x2).toNatClampNeg)) 70 x2.toNatClampNeg ((setI (setI (setI (setI w 66 x2.toNatClampNeg (w.1 a1 x2.toNatClampNeg)) 67 x2.toNatClampNeg ((setI w 66 x2.toNatClampNeg (w.1 a1 x2.toNatClampNeg)).1 a1 (8 + x2).toNatClampNeg)) 68 x2.toNatClampNeg ((setI (setI w 66 x2.toNatClampNeg (w.1 a1 x2.toNatClampNeg)) 67 x2.toNatClampNeg ((setI w 66 x2.toNatClampNeg (w.1 a1 x2.toNatClampNeg)).1 a1 (8 + x2).toNatClampNeg)).1 a1 (16 + x2).toNatClampNeg)) 69 x2.toNatClampNeg ((setI (setI (setI w 66 x2.toNatClampNeg (w.1 a1 x2.toNatClampNeg)) 67 x2.toNatClampNeg ((setI w 66 x2.toNatClampNeg (w.1 a1 x2.toNatClampNeg)).1 a1 (8 + x2).toNatClampNeg)) 68 x2.toNatClampNeg ((setI (setI w 66 x2.toNatClampNeg (w.1 a1 x2.toNatClampNeg)) 67 x2.toNatClampNeg ((setI w 66 x2.toNatClampNeg (w.1 a1 x2.toNatClampNeg)).1 a1 (8 + x2).toNatClampNeg)).1 a1 (16 + x2).toNatClampNeg)).1 a1 (24 + x2).toNatClampNeg)).1 a1 (32 + x2).toNatClampNeg)) 71 x2.toNatClampNeg ((setI (setI (setI (setI (setI w 66 x2.toNatClampNeg (w.1 a1 x2.toNatClampNeg)) 67 x2.toNatClampNeg ((setI w 66 x2.toNatClampNeg (w.1 a1 x2.toNatClampNeg)).1 a1 (8 + x2).toNatClampNeg)) 68 x2.toNatClampNeg ((setI (setI w 66 x2.toNatClampNeg (w.1 a1 x2.toNatClampNeg)) 67 x2.toNatClampNeg ((setI w 66 x2.toNatClampNeg (w.1 a1 x2.toNatClampNeg)).1 a1 (8 + x2).toNatClampNeg)).1 a1 (16 + x2).toNatClampNeg)) 69 x2.toNatClampNeg ((setI (setI (setI w 66 x2.toNatClampNeg (w.1 a1 x2.toNatClampNeg)) 67 x2.toNatClampNeg ((setI w 66 x2.toNatClampNeg (w.1 a1 x2.toNatClampNeg)).1 a1 (8 + x2).toNatClampNeg)) 68 x2.toNatClampNeg ((setI (setI w 66 x2.toNatClampNeg (w.1 a1 x2.toNatClampNeg)) 67 x2.toNatClampNeg ((setI w 66 x2.toNatClampNeg (w.1 a1 x2.toNatClampNeg)).1 a1 (8 + x2).toNatClampNeg)).1 a1 (16 + x2).toNatClampNeg)).1 a1 (24 + x2).toNatClampNeg)) 70 x2.toNatClampNeg ((setI (setI (setI (setI w 66 x2.toNatClampNeg (w.1 a1 x2.toNatClampNeg)) 67 x2.toNatClampNeg ((setI w 66 x2.toNatClampNeg (w.1 a1 x2.toNatClampNeg)).1 a1 (8 + x2).toNatClampNeg)) 68 x2.toNatClampNeg ((setI (setI w 66 x2.toNatClampNeg (w.1 a1 x2.toNatClampNeg)) 67 x2.toNatClampNeg ((setI w 66 x2.toNatClampNeg (w.1 a1 x2.toNatClampNeg)).1 a1 (8 + x2).toNatClampNeg)).1 a1 (16 + x2).toNatClampNeg)) 69 x2.toNatClampNeg ((setI (setI (setI w 66 x2.toNatClampNeg (w.1 a1 x2.toNatClampNeg)) 67 x2.toNatClampNeg ((setI w 66 x2.toNatClampNeg (w.1 a1 x2.toNatClampNeg)).1 a1 (8 + x2).toNatClampNeg)) 68 x2.toNatClampNeg ((setI (setI w 66 x2.toNatClampNeg (w.1 a1 x2.toNatClampNeg)) 67 x2.toNatClampNeg ((setI w 66 x2.toNatClampNeg (w.1 a1 x2.toNatClampNeg)).1 a1 (8 + x2).toNatClampNeg)).1 a1 (16 + x2).toNatClampNeg)).1 a1 (24 + x2).toNatClampNeg)).1 a1 (32 + x2).toNatClampNeg)).1 a1 (40 + x2).toNatClampNeg)) (x2 + 1) hf
def f_M_again (w : MW) (a1 : Nat) : Option RT := f_M_again_2 a1 FU w (0 : Int32)
set_option maxHeartbeats 4000000 in
theorem c_M_again {d : Nat} {r : Option Value} {w' : MW} (w : MW) (a1 : Nat) (c1 : isIRow81 a1) (hf : f_M_again w a1 = some (r, w')) : Ct d mM_again [.ref 62, .ref a1] w r w' := by
  refine eM_again ?_
  unfold f_M_again at hf
  refine bM_again_0 (k := ?_)
  exact r_M_again_2 a1 c1 FU w (0 : Int32) hf
