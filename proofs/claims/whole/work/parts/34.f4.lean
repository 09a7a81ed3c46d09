-- M_fault
def f_M_fault (w : MW) : Option RT := some (some (.int (w.1 62 13)), w)
set_option maxHeartbeats 4000000 in
theorem c_M_fault {d : Nat} {r : Option Value} {w' : MW} (w : MW) (hf : f_M_fault w = some (r, w')) : Ct d mM_fault [.ref 62] w r w' := by
  refine eM_fault ?_
  unfold f_M_fault at hf
  obtain ⟨rfl, rfl⟩ := ret_e hf
  exact bM_fault_0 
-- M_round
def f_M_round_74 : Nat → MW → Int32 → Option RT
  | 0, _, _ => none
  | n + 1, w, x1 => if (w.1 62 3) ≤ x1 then (some (none, w)) else (grd (vpb x1 8 = true) (f_M_round_74 n (setI w 77 x1.toNatClampNeg (w.1 78 x1.toNatClampNeg)) (x1 + 1)))
set_option maxHeartbeats 4000000 in
theorem r_M_round_74 {d : Nat} {r : Option Value} {w' : MW} : ∀ (n : Nat) (w : MW) (x1 : Int32), f_M_round_74 n w x1 = some (r, w') → Rn (d + 1) mM_round 74 [some (.ref 62), some (.int x1), none] [] w r w' := by
  intro n
  induction n with
  | zero =>
    intro w x1 hf
    cases hf
  | succ n ih =>
    intro w x1 hf
    rw [f_M_round_74] at hf
    refine bM_round_74 (kt := fun q1 => ?_) (kf := fun q1 => ?_)
    · replace hf := ite_t q1 hf
      obtain ⟨rfl, rfl⟩ := ret_e hf
      exact bM_round_100 
    · replace hf := ite_f q1 hf
      obtain ⟨g3_0, hf⟩ := grd_e hf
      refine bM_round_82 (y1 := 77) (y2 := 78) (h4 := (vpb_ok g3_0)) (h6 := (vpb_ok g3_0)) (k := ?_)
      exact ih (setI w 77 x1.toNatClampNeg (w.1 78 x1.toNatClampNeg)) (x1 + 1) hf
def f_M_round_24 (k2 : MW → Int32 → Option RT) : Nat → MW → Int32 → Int32 → Option RT
  | 0, _, _, _ => none
  | n + 1, w, x1, x2 => if (w.1 62 3) ≤ x2 then (k2 w (x1 + 1)) else (grd (vpb x1 8 = true) (if (v_M_has w (w.1 71 x1.toNatClampNeg) x2) = 0 then (f_M_round_24 k2 n w x1 (x2 + 1)) else (grd (vpb x1 8 = true) (grd (vpb x2 8 = true) (f_M_round_24 k2 n (setI w 78 x1.toNatClampNeg ((w.1 78 x1.toNatClampNeg) ||| (w.1 77 x2.toNatClampNeg))) x1 (x2 + 1))))))
set_option maxHeartbeats 4000000 in
theorem r_M_round_24 {d : Nat} {r : Option Value} {w' : MW} (k2 : MW → Int32 → Option RT) (hk2 : ∀ w x1, k2 w x1 = some (r, w') → Rn (d + 1) mM_round 2 [some (.ref 62), some (.int x1), none] [] w r w') : ∀ (n : Nat) (w : MW) (x1 : Int32) (x2 : Int32), f_M_round_24 k2 n w x1 x2 = some (r, w') → Rn (d + 1) mM_round 24 [some (.ref 62), some (.int x1), some (.int x2)] [] w r w' := by
  intro n
  induction n with
  | zero =>
    intro w x1 x2 hf
    cases hf
  | succ n ih =>
    intro w x1 x2 hf
    rw [f_M_round_24] at hf
    refine bM_round_24 (kt := fun q1 => ?_) (kf := fun q1 => ?_)
    · replace hf := ite_t q1 hf
      refine bM_round_66 (k := ?_)
      exact hk2 w (x1 + 1) hf
    · replace hf := ite_f q1 hf
      obtain ⟨g3_0, hf⟩ := grd_e hf
      refine bM_round_32 (y1 := 71) (h3 := (vpb_ok g3_0)) (ct := c_M_has (d := d) w (w.1 71 x1.toNatClampNeg) x2) (k := ?_)
      refine bM_round_42 (kt := fun q4 => ?_) (kf := fun q4 => ?_)
      · replace hf := ite_t q4 hf
        refine bM_round_60 (k := ?_)
        exact ih w x1 (x2 + 1) hf
      · replace hf := ite_f q4 hf
        obtain ⟨g6_0, hf⟩ := grd_e hf
        obtain ⟨g6_1, hf⟩ := grd_e hf
        refine bM_round_45 (y1 := 78) (h3 := (vpb_ok g6_0)) (y2 := 77) (h6 := (vpb_ok g6_1)) (h8 := (vpb_ok g6_0)) (k := ?_)
        refine bM_round_60 (k := ?_)
        exact ih (setI w 78 x1.toNatClampNeg ((w.1 78 x1.toNatClampNeg) ||| (w.1 77 x2.toNatClampNeg))) x1 (x2 + 1) hf
def f_M_round_2 : Nat → MW → Int32 → Option RT
  | 0, _, _ => none
  | n + 1, w, x1 => if (w.1 62 3) ≤ x1 then (f_M_round_74 FU w (0 : Int32)) else (grd (vpb x1 8 = true) (f_M_round_24 (fun w x1 => f_M_round_2 n w x1) FU (setI w 78 x1.toNatClampNeg (w.1 77 x1.toNatClampNeg)) x1 (0 : Int32)))
set_option maxHeartbeats 4000000 in
theorem r_M_round_2 {d : Nat} {r : Option Value} {w' : MW} : ∀ (n : Nat) (w : MW) (x1 : Int32), f_M_round_2 n w x1 = some (r, w') → Rn (d + 1) mM_round 2 [some (.ref 62), some (.int x1), none] [] w r w' := by
  intro n
  induction n with
  | zero =>
    intro w x1 hf
    cases hf
  | succ n ih =>
    intro w x1 hf
    rw [f_M_round_2] at hf
    refine bM_round_2 (kt := fun q1 => ?_) (kf := fun q1 => ?_)
    · replace hf := ite_t q1 hf
      refine bM_round_72 (k := ?_)
      exact r_M_round_74 FU w (0 : Int32) hf
    · replace hf := ite_f q1 hf
      obtain ⟨g3_0, hf⟩ := grd_e hf
      refine bM_round_10 (y1 := 78) (y2 := 77) (h4 := (vpb_ok g3_0)) (h6 := (vpb_ok g3_0)) (k := ?_)
      exact r_M_round_24 (fun w x1 => f_M_round_2 n w x1) ih FU (setI w 78 x1.toNatClampNeg (w.1 77 x1.toNatClampNeg)) x1 (0 : Int32) hf
def f_M_round (w : MW) : Option RT := f_M_round_2 FU w (0 : Int32)
set_option maxHeartbeats 4000000 in
theorem c_M_round {d : Nat} {r : Option Value} {w' : MW} (w : MW) (hf : f_M_round w = some (r, w')) : Ct (d + 1) mM_round [.ref 62] w r w' := by
  refine eM_round ?_
  unfold f_M_round at hf
  refine bM_round_0 (k := ?_)
  exact r_M_round_2 FU w (0 : Int32) hf
-- M_senseOf
def f_M_senseOf_10 : Nat → MW → Int32 → Int32 → Int32 → Int32 → Int32 → Option RT
  | 0, _, _, _, _, _, _ => none
  | n + 1, w, x1, x2, x3, x4, x5 => if (w.1 62 10) ≤ x5 then (some (some (.int (-1 : Int32)), w)) else (if (v_M_has w x1 x5) = 0 then (f_M_senseOf_10 n w x1 x2 x3 x4 (x5 + 1)) else (grd (vpb x5 30 = true) (if x2 = (-1) then (if ((w.1 72 x5.toNatClampNeg) - (w.1 72 x5.toNatClampNeg) / 4 * 4) = 0 then (f_M_senseOf_10 n w x1 ((w.1 72 x5.toNatClampNeg) / 4) x3 x4 (x5 + 1)) else (f_M_senseOf_10 n w x1 x2 x3 x4 (x5 + 1))) else (if ((w.1 72 x5.toNatClampNeg) - (w.1 72 x5.toNatClampNeg) / 4 * 4) = 2 then (if x4 = 0 then (f_M_senseOf_10 n w x1 x2 x3 (1 : Int32) (x5 + 1)) else (f_M_senseOf_10 n w x1 x2 x3 (0 : Int32) (x5 + 1))) else (if ((w.1 72 x5.toNatClampNeg) - (w.1 72 x5.toNatClampNeg) / 4 * 4) = 1 then (if x3 = (-1) then (f_M_senseOf_10 n w x1 x2 ((w.1 72 x5.toNatClampNeg) / 4) x4 (x5 + 1)) else (if ((w.1 72 x5.toNatClampNeg) - (w.1 72 x5.toNatClampNeg) / 4 * 4) = 0 then (if x3 = (-1) then (f_M_senseOf_10 n w x1 x2 x3 x4 (x5 + 1)) else (if x4 = 0 then (some (some (.int (((0 + (100 * x2)) + (10 * x3)) + ((w.1 72 x5.toNatClampNeg) / 4))), w)) else (some (some (.int (((1000 + (100 * x2)) + (10 * x3)) + ((w.1 72 x5.toNatClampNeg) / 4))), w)))) else (f_M_senseOf_10 n w x1 x2 x3 x4 (x5 + 1)))) else (if ((w.1 72 x5.toNatClampNeg) - (w.1 72 x5.toNatClampNeg) / 4 * 4) = 0 then (if x3 = (-1) then (f_M_senseOf_10 n w x1 x2 x3 x4 (x5 + 1)) else (if x4 = 0 then (some (some (.int (((0 + (100 * x2)) + (10 * x3)) + ((w.1 72 x5.toNatClampNeg) / 4))), w)) else (some (some (.int (((1000 + (100 * x2)) + (10 * x3)) + ((w.1 72 x5.toNatClampNeg) / 4))), w)))) else (f_M_senseOf_10 n w x1 x2 x3 x4 (x5 + 1))))))))
set_option maxHeartbeats 4000000 in
theorem r_M_senseOf_10 {d : Nat} {r : Option Value} {w' : MW} : ∀ (n : Nat) (w : MW) (x1 : Int32) (x2 : Int32) (x3 : Int32) (x4 : Int32) (x5 : Int32), f_M_senseOf_10 n w x1 x2 x3 x4 x5 = some (r, w') → Rn (d + 1) mM_senseOf 10 [some (.ref 62), some (.int x1), some (.int x2), some (.int x3), some (.int x4), some (.int x5), none, none] [] w r w' := by
  intro n
  induction n with
  | zero =>
    intro w x1 x2 x3 x4 x5 hf
    cases hf
  | succ n ih =>
    intro w x1 x2 x3 x4 x5 hf
    rw [f_M_senseOf_10] at hf
    refine bM_senseOf_10 (kt := fun q1 => ?_) (kf := fun q1 => ?_)
    · replace hf := ite_t q1 hf
      obtain ⟨rfl, rfl⟩ := ret_e hf
      exact bM_senseOf_149 
    · replace hf := ite_f q1 hf
      refine bM_senseOf_19 (ct := c_M_has (d := d) w x1 x5) (k := ?_)
      refine bM_senseOf_25 (kt := fun q4 => ?_) (kf := fun q4 => ?_)
      · replace hf := ite_f q4 hf
        obtain ⟨g5_0, hf⟩ := grd_e hf
        refine bM_senseOf_31 (y1 := 72) (h3 := (vpb_ok g5_0)) (y2 := 72) (h6 := (vpb_ok g5_0)) (kt := fun q5 => ?_) (kf := fun q5 => ?_)
        · replace hf := ite_f q5 hf
          refine bM_senseOf_69 (kt := fun q6 => ?_) (kf := fun q6 => ?_)
          · replace hf := ite_f q6 hf
            refine bM_senseOf_90 (kt := fun q7 => ?_) (kf := fun q7 => ?_)
            · replace hf := ite_f q7 hf
              refine bM_senseOf_107 (kt := fun q8 => ?_) (kf := fun q8 => ?_)
              · replace hf := ite_f q8 hf
                refine bM_senseOf_143 (k := ?_)
                exact ih w x1 x2 x3 x4 (x5 + 1) hf
              · replace hf := ite_t q8 hf
                refine bM_senseOf_112 (kt := fun q10 => ?_) (kf := fun q10 => ?_)
                · replace hf := ite_t q10 hf
                  refine bM_senseOf_143 (k := ?_)
                  exact ih w x1 x2 x3 x4 (x5 + 1) hf
                · replace hf := ite_f q10 hf
                  refine bM_senseOf_117 (kt := fun q12 => ?_) (kf := fun q12 => ?_)
                  · replace hf := ite_t q12 hf
                    refine bM_senseOf_128 (k := ?_)
                    obtain ⟨rfl, rfl⟩ := ret_e hf
                    exact bM_senseOf_129 
                  · replace hf := ite_f q12 hf
                    refine bM_senseOf_122 (k := ?_)
                    obtain ⟨rfl, rfl⟩ := ret_e hf
                    exact bM_senseOf_129 
            · replace hf := ite_t q7 hf
              refine bM_senseOf_96 (kt := fun q17 => ?_) (kf := fun q17 => ?_)
              · replace hf := ite_f q17 hf
                refine bM_senseOf_107 (kt := fun q18 => ?_) (kf := fun q18 => ?_)
                · replace hf := ite_f q18 hf
                  refine bM_senseOf_143 (k := ?_)
                  exact ih w x1 x2 x3 x4 (x5 + 1) hf
                · replace hf := ite_t q18 hf
                  refine bM_senseOf_112 (kt := fun q20 => ?_) (kf := fun q20 => ?_)
                  · replace hf := ite_t q20 hf
                    refine bM_senseOf_143 (k := ?_)
                    exact ih w x1 x2 x3 x4 (x5 + 1) hf
                  · replace hf := ite_f q20 hf
                    refine bM_senseOf_117 (kt := fun q22 => ?_) (kf := fun q22 => ?_)
                    · replace hf := ite_t q22 hf
                      refine bM_senseOf_128 (k := ?_)
                      obtain ⟨rfl, rfl⟩ := ret_e hf
                      exact bM_senseOf_129 
                    · replace hf := ite_f q22 hf
                      refine bM_senseOf_122 (k := ?_)
                      obtain ⟨rfl, rfl⟩ := ret_e hf
                      exact bM_senseOf_129 
              · replace hf := ite_t q17 hf
                refine bM_senseOf_101 (k := ?_)
                refine bM_senseOf_143 (k := ?_)
                exact ih w x1 x2 ((w.1 72 x5.toNatClampNeg) / 4) x4 (x5 + 1) hf
          · replace hf := ite_t q6 hf
            refine bM_senseOf_75 (kt := fun q29 => ?_) (kf := fun q29 => ?_)
            · replace hf := ite_f q29 hf
              refine bM_senseOf_84 (k := ?_)
              refine bM_senseOf_85 (k := ?_)
              refine bM_senseOf_143 (k := ?_)
              exact ih w x1 x2 x3 (0 : Int32) (x5 + 1) hf
            · replace hf := ite_t q29 hf
              refine bM_senseOf_80 (k := ?_)
              refine bM_senseOf_85 (k := ?_)
              refine bM_senseOf_143 (k := ?_)
              exact ih w x1 x2 x3 (1 : Int32) (x5 + 1) hf
        · replace hf := ite_t q5 hf
          refine bM_senseOf_58 (kt := fun q36 => ?_) (kf := fun q36 => ?_)
          · replace hf := ite_f q36 hf
            refine bM_senseOf_143 (k := ?_)
            exact ih w x1 x2 x3 x4 (x5 + 1) hf
          · replace hf := ite_t q36 hf
            refine bM_senseOf_63 (k := ?_)
            refine bM_senseOf_143 (k := ?_)
            exact ih w x1 ((w.1 72 x5.toNatClampNeg) / 4) x3 x4 (x5 + 1) hf
      · replace hf := ite_t q4 hf
        refine bM_senseOf_28 (k := ?_)
        refine bM_senseOf_143 (k := ?_)
        exact ih w x1 x2 x3 x4 (x5 + 1) hf
def f_M_senseOf (w : MW) (x1 : Int32) : Option RT := f_M_senseOf_10 FU w x1 (-1 : Int32) (-1 : Int32) (0 : Int32) (0 : Int32)
set_option maxHeartbeats 4000000 in
theorem c_M_senseOf {d : Nat} {r : Option Value} {w' : MW} (w : MW) (x1 : Int32) (hf : f_M_senseOf w x1 = some (r, w')) : Ct (d + 1) mM_senseOf [.ref 62, .int x1] w r w' := by
  refine eM_senseOf ?_
  unfold f_M_senseOf at hf
  refine bM_senseOf_0 (k := ?_)
  exact r_M_senseOf_10 FU w x1 (-1 : Int32) (-1 : Int32) (0 : Int32) (0 : Int32) hf
-- M_wholeOf
def f_M_wholeOf (w : MW) : Option RT := bI (f_M_senseOf w (((1 : Int32) <<< ((w.1 62 10) &&& 31)) - 1)) (fun v1 w1 => some (some (.int v1), w1))
set_option maxHeartbeats 4000000 in
theorem c_M_wholeOf {d : Nat} {r : Option Value} {w' : MW} (w : MW) (hf : f_M_wholeOf w = some (r, w')) : Ct (d + 2) mM_wholeOf [.ref 62] w r w' := by
  refine eM_wholeOf ?_
  unfold f_M_wholeOf at hf
  obtain ⟨v1, w1, e1, hf⟩ := bI_e hf
  refine bM_wholeOf_0 (ct := c_M_senseOf (d := d) w (((1 : Int32) <<< ((w.1 62 10) &&& 31)) - 1) e1) (k := ?_)
  obtain ⟨rfl, rfl⟩ := ret_e hf
  exact bM_wholeOf_12 
-- M_belief
def f_M_belief (w : MW) (x1 : Int32) : Option RT := if (v_M_isMan w x1) = 0 then (some (some (.int (v_M_no10 w (-1 : Int32))), u_M_no10 w (-1 : Int32))) else (grd (vpb x1 8 = true) (some (some (.int (w.1 69 x1.toNatClampNeg)), w)))
set_option maxHeartbeats 4000000 in
theorem c_M_belief {d : Nat} {r : Option Value} {w' : MW} (w : MW) (x1 : Int32) (hf : f_M_belief w x1 = some (r, w')) : Ct (d + 2) mM_belief [.ref 62, .int x1] w r w' := by
  refine eM_belief ?_
  unfold f_M_belief at hf
  refine bM_belief_0 (ct := c_M_isMan (d := d) w x1) (k := ?_)
  refine bM_belief_5 (kt := fun q2 => ?_) (kf := fun q2 => ?_)
  · replace hf := ite_t q2 hf
    refine bM_belief_17 (ct := c_M_no10 (d := d) w (-1 : Int32) (vpd (i := (-(-1 : Int32))) (n := 8) (by decide))) (k := ?_)
    obtain ⟨rfl, rfl⟩ := ret_e hf
    exact bM_belief_22 
  · replace hf := ite_f q2 hf
    obtain ⟨g5_0, hf⟩ := grd_e hf
    refine bM_belief_8 (y1 := 69) (h3 := (vpb_ok g5_0)) (k := ?_)
    obtain ⟨rfl, rfl⟩ := ret_e hf
    exact bM_belief_22 
-- M_isSet
def f_M_isSet (w : MW) (x1 : Int32) : Option RT := if x1 < 0 then (some (some (.int (0 : Int32)), w)) else (if ((1 : Int32) <<< ((w.1 62 3) &&& 31)) ≤ x1 then (some (some (.int (0 : Int32)), w)) else (some (some (.int (1 : Int32)), w)))
set_option maxHeartbeats 4000000 in
theorem c_M_isSet {d : Nat} {r : Option Value} {w' : MW} (w : MW) (x1 : Int32) (hf : f_M_isSet w x1 = some (r, w')) : Ct d mM_isSet [.ref 62, .int x1] w r w' := by
  refine eM_isSet ?_
  unfold f_M_isSet at hf
  refine bM_isSet_0 (kt := fun q1 => ?_) (kf := fun q1 => ?_)
  · replace hf := ite_t q1 hf
    refine bM_isSet_18 (k := ?_)
    obtain ⟨rfl, rfl⟩ := ret_e hf
    exact bM_isSet_19 
  · replace hf := ite_f q1 hf
    refine bM_isSet_4 (kt := fun q4 => ?_) (kf := fun q4 => ?_)
    · replace hf := ite_t q4 hf
      refine bM_isSet_18 (k := ?_)
      obtain ⟨rfl, rfl⟩ := ret_e hf
      exact bM_isSet_19 
    · replace hf := ite_f q4 hf
      refine bM_isSet_14 (k := ?_)
      obtain ⟨rfl, rfl⟩ := ret_e hf
      exact bM_isSet_19 
-- M_isSure
def f_M_isSure_74 (k62 : MW → Int32 → Int32 → Int32 → Int32 → Option RT) : Nat → MW → Int32 → Int32 → Int32 → Int32 → Int32 → Option RT
  | 0, _, _, _, _, _, _ => none
  | n + 1, w, x1, x2, x3, x4, x5 => if 3 ≤ x5 then (k62 w x1 x2 x3 (x4 + 1)) else (if (v_M_has w x1 x4) = 0 then (grd (vpb x4 30 = true) (bI (f_M_wholeOf (setI w 72 x4.toNatClampNeg x5) ) (fun v6 w6 => if v6 = x2 then (grd (vpb x4 30 = true) (f_M_isSure_74 k62 n (setI w6 72 x4.toNatClampNeg 3) x1 x2 x3 x4 (x5 + 1))) else (grd (vpb x4 30 = true) (f_M_isSure_74 k62 n (setI w6 72 x4.toNatClampNeg 3) x1 x2 (0 : Int32) x4 (x5 + 1)))))) else (k62 w x1 x2 x3 (x4 + 1)))
set_option maxHeartbeats 4000000 in
theorem r_M_isSure_74 {d : Nat} {r : Option Value} {w' : MW} (k62 : MW → Int32 → Int32 → Int32 → Int32 → Option RT) (hk62 : ∀ w x1 x2 x3 x4, k62 w x1 x2 x3 x4 = some (r, w') → Rn (d + 3) mM_isSure 62 [some (.ref 62), some (.int x1), some (.int x2), some (.int x3), some (.int x4), none] [] w r w') : ∀ (n : Nat) (w : MW) (x1 : Int32) (x2 : Int32) (x3 : Int32) (x4 : Int32) (x5 : Int32), f_M_isSure_74 k62 n w x1 x2 x3 x4 x5 = some (r, w') → Rn (d + 3) mM_isSure 74 [some (.ref 62), some (.int x1), some (.int x2), some (.int x3), some (.int x4), some (.int x5)] [] w r w' := by
  intro n
  induction n with
  | zero =>
    intro w x1 x2 x3 x4 x5 hf
    cases hf
  | succ n ih =>
    intro w x1 x2 x3 x4 x5 hf
    rw [f_M_isSure_74] at hf
    refine bM_isSure_74 (kt := fun q1 => ?_) (kf := fun q1 => ?_)
    · replace hf := ite_t q1 hf
      refine bM_isSure_122 (k := ?_)
      exact hk62 w x1 x2 x3 (x4 + 1) hf
    · replace hf := ite_f q1 hf
      refine bM_isSure_80 (ct := c_M_has (d := d + 2) w x1 x4) (k := ?_)
      refine bM_isSure_86 (kt := fun q4 => ?_) (kf := fun q4 => ?_)
      · replace hf := ite_f q4 hf
        refine bM_isSure_122 (k := ?_)
        exact hk62 w x1 x2 x3 (x4 + 1) hf
      · replace hf := ite_t q4 hf
        obtain ⟨g6_0, hf⟩ := grd_e hf
        obtain ⟨v6, w6, e6, hf⟩ := bI_e hf
        refine bM_isSure_89 (y1 := 72) (h3 := (vpb_ok g6_0)) (ct := c_M_wholeOf (d := d) (setI w 72 x4.toNatClampNeg x5) e6) (k := ?_)
        refine bM_isSure_102 (kt := fun q7 => ?_) (kf := fun q7 => ?_)
        · replace hf := ite_t q7 hf
          obtain ⟨g8_0, hf⟩ := grd_e hf
          refine bM_isSure_108 (y1 := 72) (h3 := (vpb_ok g8_0)) (k := ?_)
          exact ih (setI w6 72 x4.toNatClampNeg 3) x1 x2 x3 x4 (x5 + 1) hf
        · replace hf := ite_f q7 hf
          refine bM_isSure_106 (k := ?_)
          obtain ⟨g10_0, hf⟩ := grd_e hf
          refine bM_isSure_108 (y1 := 72) (h3 := (vpb_ok g10_0)) (k := ?_)
          exact ih (setI w6 72 x4.toNatClampNeg 3) x1 x2 (0 : Int32) x4 (x5 + 1) hf
def f_M_isSure_62 : Nat → MW → Int32 → Int32 → Int32 → Int32 → Option RT
  | 0, _, _, _, _, _ => none
  | n + 1, w, x1, x2, x3, x4 => if (w.1 62 10) ≤ x4 then (bV (f_M_again w 76) (fun w2 => grd (x3 = 0 ∨ x3 = 1) (some (some (.int x3), w2)))) else (f_M_isSure_74 (fun w x1 x2 x3 x4 => f_M_isSure_62 n w x1 x2 x3 x4) FU w x1 x2 x3 x4 (0 : Int32))
set_option maxHeartbeats 4000000 in
theorem r_M_isSure_62 {d : Nat} {r : Option Value} {w' : MW} : ∀ (n : Nat) (w : MW) (x1 : Int32) (x2 : Int32) (x3 : Int32) (x4 : Int32), f_M_isSure_62 n w x1 x2 x3 x4 = some (r, w') → Rn (d + 3) mM_isSure 62 [some (.ref 62), some (.int x1), some (.int x2), some (.int x3), some (.int x4), none] [] w r w' := by
  intro n
  induction n with
  | zero =>
    intro w x1 x2 x3 x4 hf
    cases hf
  | succ n ih =>
    intro w x1 x2 x3 x4 hf
    rw [f_M_isSure_62] at hf
    refine bM_isSure_62 (kt := fun q1 => ?_) (kf := fun q1 => ?_)
    · replace hf := ite_t q1 hf
      obtain ⟨w2, e2, hf⟩ := bV_e hf
      refine bM_isSure_128 (y1 := 76) (ct := c_M_again (d := d + 2) w 76 ⟨rfl, rfl⟩ e2) (k := ?_)
      obtain ⟨g3_z, hf⟩ := grd_e hf
      obtain ⟨rfl, rfl⟩ := ret_e hf
      exact bM_isSure_136 (hn := nz g3_z)
    · replace hf := ite_f q1 hf
      refine bM_isSure_71 (k := ?_)
      exact r_M_isSure_74 (fun w x1 x2 x3 x4 => f_M_isSure_62 n w x1 x2 x3 x4) ih FU w x1 x2 x3 x4 (0 : Int32) hf
def f_M_isSure_16 : Nat → MW → Int32 → Int32 → Int32 → Option RT
  | 0, _, _, _, _ => none
  | n + 1, w, x1, x2, x3 => if (w.1 62 10) ≤ x3 then (bI (f_M_wholeOf w ) (fun v2 w2 => if v2 = x2 then (f_M_isSure_62 FU w2 x1 x2 (1 : Int32) (0 : Int32)) else (f_M_isSure_62 FU w2 x1 x2 (0 : Int32) (0 : Int32)))) else (if (v_M_has w x1 x3) = 0 then (grd (vpb x3 30 = true) (f_M_isSure_16 n (setI w 72 x3.toNatClampNeg 3) x1 x2 (x3 + 1))) else (f_M_isSure_16 n w x1 x2 (x3 + 1)))
set_option maxHeartbeats 4000000 in
theorem r_M_isSure_16 {d : Nat} {r : Option Value} {w' : MW} : ∀ (n : Nat) (w : MW) (x1 : Int32) (x2 : Int32) (x3 : Int32), f_M_isSure_16 n w x1 x2 x3 = some (r, w') → Rn (d + 3) mM_isSure 16 [some (.ref 62), some (.int x1), some (.int x2), some (.int x3), none, none] [] w r w' := by
  intro n
  induction n with
  | zero =>
    intro w x1 x2 x3 hf
    cases hf
  | succ n ih =>
    intro w x1 x2 x3 hf
    rw [f_M_isSure_16] at hf
    refine bM_isSure_16 (kt := fun q1 => ?_) (kf := fun q1 => ?_)
    · replace hf := ite_t q1 hf
      obtain ⟨v2, w2, e2, hf⟩ := bI_e hf
      refine bM_isSure_45 (ct := c_M_wholeOf (d := d) w e2) (k := ?_)
      refine bM_isSure_49 (kt := fun q3 => ?_) (kf := fun q3 => ?_)
      · replace hf := ite_f q3 hf
        refine bM_isSure_57 (k := ?_)
        refine bM_isSure_58 (k := ?_)
        exact r_M_isSure_62 FU w2 x1 x2 (0 : Int32) (0 : Int32) hf
      · replace hf := ite_t q3 hf
        refine bM_isSure_53 (k := ?_)
        refine bM_isSure_58 (k := ?_)
        exact r_M_isSure_62 FU w2 x1 x2 (1 : Int32) (0 : Int32) hf
    · replace hf := ite_f q1 hf
      refine bM_isSure_24 (ct := c_M_has (d := d + 2) w x1 x3) (k := ?_)
      refine bM_isSure_29 (kt := fun q9 => ?_) (kf := fun q9 => ?_)
      · replace hf := ite_f q9 hf
        refine bM_isSure_39 (k := ?_)
        exact ih w x1 x2 (x3 + 1) hf
      · replace hf := ite_t q9 hf
        obtain ⟨g11_0, hf⟩ := grd_e hf
        refine bM_isSure_32 (y1 := 72) (h3 := (vpb_ok g11_0)) (k := ?_)
        refine bM_isSure_39 (k := ?_)
        exact ih (setI w 72 x3.toNatClampNeg 3) x1 x2 (x3 + 1) hf
def f_M_isSure (w : MW) (x1 : Int32) : Option RT := bV (f_M_keep w 76) (fun w1 => bI (f_M_senseOf w1 x1) (fun v2 w2 => f_M_isSure_16 FU w2 x1 v2 (0 : Int32)))
set_option maxHeartbeats 4000000 in
theorem c_M_isSure {d : Nat} {r : Option Value} {w' : MW} (w : MW) (x1 : Int32) (hf : f_M_isSure w x1 = some (r, w')) : Ct (d + 3) mM_isSure [.ref 62, .int x1] w r w' := by
  refine eM_isSure ?_
  unfold f_M_isSure at hf
  obtain ⟨w1, e1, hf⟩ := bV_e hf
  refine bM_isSure_0 (y1 := 76) (ct := c_M_keep (d := d + 2) w 76 ⟨rfl, rfl⟩ e1) (k := ?_)
  obtain ⟨v2, w2, e2, hf⟩ := bI_e hf
  refine bM_isSure_8 (ct := c_M_senseOf (d := d + 1) w1 x1 e2) (k := ?_)
  refine bM_isSure_13 (k := ?_)
  exact r_M_isSure_16 FU w2 x1 v2 (0 : Int32) hf
-- M_isBetter
def f_M_isBetter (w : MW) (x0 : Int32) (x1 : Int32) : Option RT := if x1 = (-1) then (some (some (.int (1 : Int32)), w)) else (bI (f_JI_bitCount w x0) (fun v4 w4 => bI (f_JI_bitCount w4 x1) (fun v5 w5 => if v5 ≤ v4 then (some (some (.int (0 : Int32)), w5)) else (some (some (.int (1 : Int32)), w5)))))
set_option maxHeartbeats 4000000 in
theorem c_M_isBetter {d : Nat} {r : Option Value} {w' : MW} (w : MW) (x0 : Int32) (x1 : Int32) (hf : f_M_isBetter w x0 x1 = some (r, w')) : Ct (d + 1) mM_isBetter [.int x0, .int x1] w r w' := by
  refine eM_isBetter ?_
  unfold f_M_isBetter at hf
  refine bM_isBetter_0 (kt := fun q1 => ?_) (kf := fun q1 => ?_)
  · replace hf := ite_t q1 hf
    refine bM_isBetter_16 (k := ?_)
    obtain ⟨rfl, rfl⟩ := ret_e hf
    exact bM_isBetter_21 
  · replace hf := ite_f q1 hf
    obtain ⟨v4, w4, e4, hf⟩ := bI_e hf
    refine bM_isBetter_5 (ct := c_JI_bitCount (d := d) w x0 e4) (k := ?_)
    obtain ⟨v5, w5, e5, hf⟩ := bI_e hf
    refine bM_isBetter_9 (ct := c_JI_bitCount (d := d) w4 x1 e5) (k := ?_)
    refine bM_isBetter_13 (kt := fun q6 => ?_) (kf := fun q6 => ?_)
    · replace hf := ite_t q6 hf
      refine bM_isBetter_20 (k := ?_)
      obtain ⟨rfl, rfl⟩ := ret_e hf
      exact bM_isBetter_21 
    · replace hf := ite_f q6 hf
      refine bM_isBetter_16 (k := ?_)
      obtain ⟨rfl, rfl⟩ := ret_e hf
      exact bM_isBetter_21 
-- M_speak
def f_M_speak_31 : Nat → MW → Int32 → Int32 → Int32 → Int32 → Int32 → Option RT
  | 0, _, _, _, _, _, _ => none
  | n + 1, w, x1, x2, x3, x4, x5 => if 12 ≤ x5 then (grd (¬ x1 = (-1) → vpb ((3 * 0) + (0 : Int32)) 12 = true) (grd (¬ x1 = (-1) → vpb ((3 * (0 + 1)) + (0 : Int32)) 12 = true) (grd (¬ x1 = (-1) → x1 ≤ 999 → vpb ((3 * ((0 + 1) + 1)) + (0 : Int32)) 12 = true) (grd (¬ x1 = (-1) → ¬ x1 ≤ 999 → vpb ((3 * ((0 + 1) + 1)) + (0 : Int32)) 12 = true) (grd (¬ x1 = (-1) → ¬ x1 ≤ 999 → vpb ((3 * (((0 + 1) + 1) + 1)) + (0 : Int32)) 12 = true) (grd (¬ x2 = (-1) → vpb ((3 * 0) + (1 : Int32)) 12 = true) (grd (¬ x2 = (-1) → vpb ((3 * (0 + 1)) + (1 : Int32)) 12 = true) (grd (¬ x2 = (-1) → x2 ≤ 999 → vpb ((3 * ((0 + 1) + 1)) + (1 : Int32)) 12 = true) (grd (¬ x2 = (-1) → ¬ x2 ≤ 999 → vpb ((3 * ((0 + 1) + 1)) + (1 : Int32)) 12 = true) (grd (¬ x2 = (-1) → ¬ x2 ≤ 999 → vpb ((3 * (((0 + 1) + 1) + 1)) + (1 : Int32)) 12 = true) (grd (¬ x3 = (-1) → vpb ((3 * 0) + (2 : Int32)) 12 = true) (grd (¬ x3 = (-1) → vpb ((3 * (0 + 1)) + (2 : Int32)) 12 = true) (grd (¬ x3 = (-1) → x3 ≤ 999 → vpb ((3 * ((0 + 1) + 1)) + (2 : Int32)) 12 = true) (grd (¬ x3 = (-1) → ¬ x3 ≤ 999 → vpb ((3 * ((0 + 1) + 1)) + (2 : Int32)) 12 = true) (grd (¬ x3 = (-1) → ¬ x3 ≤ 999 → vpb ((3 * (((0 + 1) + 1) + 1)) + (2 : Int32)) 12 = true) (if (v_M_within (u_M_speaks (u_M_speaks (u_M_speaks w x1 (0 : Int32)) x2 (1 : Int32)) x3 (2 : Int32)) x4 (-1 : Int32) ((3 * (if v_M_speaks w x1 (0 : Int32) < if v_M_speaks (u_M_speaks w x1 (0 : Int32)) x2 (1 : Int32) < v_M_speaks (u_M_speaks (u_M_speaks w x1 (0 : Int32)) x2 (1 : Int32)) x3 (2 : Int32) then v_M_speaks (u_M_speaks (u_M_speaks w x1 (0 : Int32)) x2 (1 : Int32)) x3 (2 : Int32) else v_M_speaks (u_M_speaks w x1 (0 : Int32)) x2 (1 : Int32) then if v_M_speaks (u_M_speaks w x1 (0 : Int32)) x2 (1 : Int32) < v_M_speaks (u_M_speaks (u_M_speaks w x1 (0 : Int32)) x2 (1 : Int32)) x3 (2 : Int32) then v_M_speaks (u_M_speaks (u_M_speaks w x1 (0 : Int32)) x2 (1 : Int32)) x3 (2 : Int32) else v_M_speaks (u_M_speaks w x1 (0 : Int32)) x2 (1 : Int32) else v_M_speaks w x1 (0 : Int32))) - 1)) = 0 then (some (some (.int (v_M_no (u_M_speaks (u_M_speaks (u_M_speaks w x1 (0 : Int32)) x2 (1 : Int32)) x3 (2 : Int32)) (-5 : Int32))), u_M_no (u_M_speaks (u_M_speaks (u_M_speaks w x1 (0 : Int32)) x2 (1 : Int32)) x3 (2 : Int32)) (-5 : Int32))) else (if x4 = (-1) then (some (some (.int (3 * (if v_M_speaks w x1 (0 : Int32) < if v_M_speaks (u_M_speaks w x1 (0 : Int32)) x2 (1 : Int32) < v_M_speaks (u_M_speaks (u_M_speaks w x1 (0 : Int32)) x2 (1 : Int32)) x3 (2 : Int32) then v_M_speaks (u_M_speaks (u_M_speaks w x1 (0 : Int32)) x2 (1 : Int32)) x3 (2 : Int32) else v_M_speaks (u_M_speaks w x1 (0 : Int32)) x2 (1 : Int32) then if v_M_speaks (u_M_speaks w x1 (0 : Int32)) x2 (1 : Int32) < v_M_speaks (u_M_speaks (u_M_speaks w x1 (0 : Int32)) x2 (1 : Int32)) x3 (2 : Int32) then v_M_speaks (u_M_speaks (u_M_speaks w x1 (0 : Int32)) x2 (1 : Int32)) x3 (2 : Int32) else v_M_speaks (u_M_speaks w x1 (0 : Int32)) x2 (1 : Int32) else v_M_speaks w x1 (0 : Int32)))), u_M_speaks (u_M_speaks (u_M_speaks w x1 (0 : Int32)) x2 (1 : Int32)) x3 (2 : Int32))) else (grd (vpb x4 12 = true) (some (some (.int ((u_M_speaks (u_M_speaks (u_M_speaks w x1 (0 : Int32)) x2 (1 : Int32)) x3 (2 : Int32)).1 79 x4.toNatClampNeg)), u_M_speaks (u_M_speaks (u_M_speaks w x1 (0 : Int32)) x2 (1 : Int32)) x3 (2 : Int32))))))))))))))))))))) else (grd (vpb x5 12 = true) (f_M_speak_31 n (setI w 79 x5.toNatClampNeg 3) x1 x2 x3 x4 (x5 + 1)))
set_option maxHeartbeats 4000000 in
theorem r_M_speak_31 {d : Nat} {r : Option Value} {w' : MW} : ∀ (n : Nat) (w : MW) (x1 : Int32) (x2 : Int32) (x3 : Int32) (x4 : Int32) (x5 : Int32), f_M_speak_31 n w x1 x2 x3 x4 x5 = some (r, w') → Rn (d + 2) mM_speak 31 [some (.ref 62), some (.int x1), some (.int x2), some (.int x3), some (.int x4), some (.int x5)] [] w r w' := by
  intro n
  induction n with
  | zero =>
    intro w x1 x2 x3 x4 x5 hf
    cases hf
  | succ n ih =>
    intro w x1 x2 x3 x4 x5 hf
    rw [f_M_speak_31] at hf
    refine bM_speak_31 (kt := fun q1 => ?_) (kf := fun q1 => ?_)
    · replace hf := ite_t q1 hf
      obtain ⟨g2_0, hf⟩ := grd_e hf
      obtain ⟨g2_1, hf⟩ := grd_e hf
      obtain ⟨g2_2, hf⟩ := grd_e hf
      obtain ⟨g2_3, hf⟩ := grd_e hf
      obtain ⟨g2_4, hf⟩ := grd_e hf
      refine bM_speak_52 (ct := c_M_speaks (d := d + 1) w x1 (0 : Int32) (fun z0 => vpb_ok (g2_0 z0)) (fun z0 => vpb_ok (g2_1 z0)) (fun z0 z1 => vpb_ok (g2_2 z0 z1)) (fun z0 z1 => vpb_ok (g2_3 z0 z1)) (fun z0 z1 => vpb_ok (g2_4 z0 z1))) (k := ?_)
      obtain ⟨g3_0, hf⟩ := grd_e hf
      obtain ⟨g3_1, hf⟩ := grd_e hf
      obtain ⟨g3_2, hf⟩ := grd_e hf
      obtain ⟨g3_3, hf⟩ := grd_e hf
      obtain ⟨g3_4, hf⟩ := grd_e hf
      refine bM_speak_59 (ct := c_M_speaks (d := d + 1) (u_M_speaks w x1 (0 : Int32)) x2 (1 : Int32) (fun z0 => vpb_ok (g3_0 z0)) (fun z0 => vpb_ok (g3_1 z0)) (fun z0 z1 => vpb_ok (g3_2 z0 z1)) (fun z0 z1 => vpb_ok (g3_3 z0 z1)) (fun z0 z1 => vpb_ok (g3_4 z0 z1))) (k := ?_)
      obtain ⟨g4_0, hf⟩ := grd_e hf
      obtain ⟨g4_1, hf⟩ := grd_e hf
      obtain ⟨g4_2, hf⟩ := grd_e hf
      obtain ⟨g4_3, hf⟩ := grd_e hf
      obtain ⟨g4_4, hf⟩ := grd_e hf
      refine bM_speak_65 (ct := c_M_speaks (d := d + 1) (u_M_speaks (u_M_speaks w x1 (0 : Int32)) x2 (1 : Int32)) x3 (2 : Int32) (fun z0 => vpb_ok (g4_0 z0)) (fun z0 => vpb_ok (g4_1 z0)) (fun z0 z1 => vpb_ok (g4_2 z0 z1)) (fun z0 z1 => vpb_ok (g4_3 z0 z1)) (fun z0 z1 => vpb_ok (g4_4 z0 z1))) (k := ?_)
      refine bM_speak_71 (ct := c_M_within (d := d + 1) (u_M_speaks (u_M_speaks (u_M_speaks w x1 (0 : Int32)) x2 (1 : Int32)) x3 (2 : Int32)) x4 (-1 : Int32) ((3 * (if v_M_speaks w x1 (0 : Int32) < if v_M_speaks (u_M_speaks w x1 (0 : Int32)) x2 (1 : Int32) < v_M_speaks (u_M_speaks (u_M_speaks w x1 (0 : Int32)) x2 (1 : Int32)) x3 (2 : Int32) then v_M_speaks (u_M_speaks (u_M_speaks w x1 (0 : Int32)) x2 (1 : Int32)) x3 (2 : Int32) else v_M_speaks (u_M_speaks w x1 (0 : Int32)) x2 (1 : Int32) then if v_M_speaks (u_M_speaks w x1 (0 : Int32)) x2 (1 : Int32) < v_M_speaks (u_M_speaks (u_M_speaks w x1 (0 : Int32)) x2 (1 : Int32)) x3 (2 : Int32) then v_M_speaks (u_M_speaks (u_M_speaks w x1 (0 : Int32)) x2 (1 : Int32)) x3 (2 : Int32) else v_M_speaks (u_M_speaks w x1 (0 : Int32)) x2 (1 : Int32) else v_M_speaks w x1 (0 : Int32))) - 1)) (k := ?_)
      refine bM_speak_90 (kt := fun q6 => ?_) (kf := fun q6 => ?_)
      · replace hf := ite_f q6 hf
        refine bM_speak_100 (kt := fun q7 => ?_) (kf := fun q7 => ?_)
        · replace hf := ite_f q7 hf
          obtain ⟨g8_0, hf⟩ := grd_e hf
          refine bM_speak_111 (y1 := 79) (h3 := (vpb_ok g8_0)) (k := ?_)
          obtain ⟨rfl, rfl⟩ := ret_e hf
          exact bM_speak_118 
        · replace hf := ite_t q7 hf
          refine bM_speak_106 (k := ?_)
          obtain ⟨rfl, rfl⟩ := ret_e hf
          exact bM_speak_118 
      · replace hf := ite_t q6 hf
        refine bM_speak_93 (ct := c_M_no (d := d + 1) (u_M_speaks (u_M_speaks (u_M_speaks w x1 (0 : Int32)) x2 (1 : Int32)) x3 (2 : Int32)) (-5 : Int32) (vpd (i := (-(-5 : Int32))) (n := 8) (by decide))) (k := ?_)
        obtain ⟨rfl, rfl⟩ := ret_e hf
        exact bM_speak_99 
    · replace hf := ite_f q1 hf
      obtain ⟨g14_0, hf⟩ := grd_e hf
      refine bM_speak_38 (y1 := 79) (h3 := (vpb_ok g14_0)) (k := ?_)
      exact ih (setI w 79 x5.toNatClampNeg 3) x1 x2 x3 x4 (x5 + 1) hf
def f_M_speak (w : MW) (x1 : Int32) (x2 : Int32) (x3 : Int32) (x4 : Int32) : Option RT := if (v_M_isSense w x1) = 0 then (some (some (.int (v_M_no w (-6 : Int32))), u_M_no w (-6 : Int32))) else (if (v_M_isSense w x2) = 0 then (some (some (.int (v_M_no w (-6 : Int32))), u_M_no w (-6 : Int32))) else (if (v_M_isSense w x3) = 0 then (some (some (.int (v_M_no w (-6 : Int32))), u_M_no w (-6 : Int32))) else (f_M_speak_31 FU w x1 x2 x3 x4 (0 : Int32))))
set_option maxHeartbeats 4000000 in
theorem c_M_speak {d : Nat} {r : Option Value} {w' : MW} (w : MW) (x1 : Int32) (x2 : Int32) (x3 : Int32) (x4 : Int32) (hf : f_M_speak w x1 x2 x3 x4 = some (r, w')) : Ct (d + 2) mM_speak [.ref 62, .int x1, .int x2, .int x3, .int x4] w r w' := by
  refine eM_speak ?_
  unfold f_M_speak at hf
  refine bM_speak_0 (ct := c_M_isSense (d := d) w x1) (k := ?_)
  refine bM_speak_4 (kt := fun q2 => ?_) (kf := fun q2 => ?_)
  · replace hf := ite_t q2 hf
    refine bM_speak_21 (ct := c_M_no (d := d + 1) w (-6 : Int32) (vpd (i := (-(-6 : Int32))) (n := 8) (by decide))) (k := ?_)
    obtain ⟨rfl, rfl⟩ := ret_e hf
    exact bM_speak_27 
  · replace hf := ite_f q2 hf
    refine bM_speak_7 (ct := c_M_isSense (d := d) w x2) (k := ?_)
    refine bM_speak_11 (kt := fun q6 => ?_) (kf := fun q6 => ?_)
    · replace hf := ite_t q6 hf
      refine bM_speak_21 (ct := c_M_no (d := d + 1) w (-6 : Int32) (vpd (i := (-(-6 : Int32))) (n := 8) (by decide))) (k := ?_)
      obtain ⟨rfl, rfl⟩ := ret_e hf
      exact bM_speak_27 
    · replace hf := ite_f q6 hf
      refine bM_speak_14 (ct := c_M_isSense (d := d) w x3) (k := ?_)
      refine bM_speak_18 (kt := fun q10 => ?_) (kf := fun q10 => ?_)
      · replace hf := ite_f q10 hf
        refine bM_speak_28 (k := ?_)
        exact r_M_speak_31 FU w x1 x2 x3 x4 (0 : Int32) hf
      · replace hf := ite_t q10 hf
        refine bM_speak_21 (ct := c_M_no (d := d + 1) w (-6 : Int32) (vpd (i := (-(-6 : Int32))) (n := 8) (by decide))) (k := ?_)
        obtain ⟨rfl, rfl⟩ := ret_e hf
        exact bM_speak_27 
-- M_wanted
def f_M_wanted_35 (k5 : MW → Int32 → Int32 → Int32 → Int32 → Option RT) : Nat → MW → Int32 → Int32 → Int32 → Int32 → Int32 → Int32 → Option RT
  | 0, _, _, _, _, _, _, _ => none
  | n + 1, w, x1, x2, x3, x4, x5, x6 => if x4 ≤ x6 then (if x5 = 0 then (k5 w x1 x2 x3 (x4 + 1)) else (k5 w x1 x2 (x3 + 1) (x4 + 1))) else (grd (vpb x6 8 = true) (if (w.1 68 x6.toNatClampNeg) = x2 then (grd (vpb ((160 * x1) + x6) 1280 = true) (grd (vpb ((160 * x1) + x4) 1280 = true) (if (v_M_told w x1 x6) = (v_M_told w x1 x4) then (f_M_wanted_35 k5 n w x1 x2 x3 x4 (0 : Int32) (x6 + 1)) else (f_M_wanted_35 k5 n w x1 x2 x3 x4 x5 (x6 + 1))))) else (f_M_wanted_35 k5 n w x1 x2 x3 x4 x5 (x6 + 1))))
set_option maxHeartbeats 4000000 in
theorem r_M_wanted_35 {d : Nat} {r : Option Value} {w' : MW} (k5 : MW → Int32 → Int32 → Int32 → Int32 → Option RT) (hk5 : ∀ w x1 x2 x3 x4, k5 w x1 x2 x3 x4 = some (r, w') → Rn (d + 1) mM_wanted 5 [some (.ref 62), some (.int x1), some (.int x2), some (.int x3), some (.int x4), none, none] [] w r w') : ∀ (n : Nat) (w : MW) (x1 : Int32) (x2 : Int32) (x3 : Int32) (x4 : Int32) (x5 : Int32) (x6 : Int32), f_M_wanted_35 k5 n w x1 x2 x3 x4 x5 x6 = some (r, w') → Rn (d + 1) mM_wanted 35 [some (.ref 62), some (.int x1), some (.int x2), some (.int x3), some (.int x4), some (.int x5), some (.int x6)] [] w r w' := by
  intro n
  induction n with
  | zero =>
    intro w x1 x2 x3 x4 x5 x6 hf
    cases hf
  | succ n ih =>
    intro w x1 x2 x3 x4 x5 x6 hf
    rw [f_M_wanted_35] at hf
    refine bM_wanted_35 (kt := fun q1 => ?_) (kf := fun q1 => ?_)
    · replace hf := ite_t q1 hf
      refine bM_wanted_79 (kt := fun q2 => ?_) (kf := fun q2 => ?_)
      · replace hf := ite_t q2 hf
        refine bM_wanted_87 (k := ?_)
        exact hk5 w x1 x2 x3 (x4 + 1) hf
      · replace hf := ite_f q2 hf
        refine bM_wanted_84 (k := ?_)
        refine bM_wanted_87 (k := ?_)
        exact hk5 w x1 x2 (x3 + 1) (x4 + 1) hf
    · replace hf := ite_f q1 hf
      obtain ⟨g6_0, hf⟩ := grd_e hf
      refine bM_wanted_42 (y1 := 68) (h3 := (vpb_ok g6_0)) (kt := fun q6 => ?_) (kf := fun q6 => ?_)
      · replace hf := ite_f q6 hf
        refine bM_wanted_73 (k := ?_)
        exact ih w x1 x2 x3 x4 x5 (x6 + 1) hf
      · replace hf := ite_t q6 hf
        obtain ⟨g8_0, hf⟩ := grd_e hf
        refine bM_wanted_53 (ct := c_M_told (d := d) w x1 x6 (vpb_ok g8_0)) (k := ?_)
        obtain ⟨g9_0, hf⟩ := grd_e hf
        refine bM_wanted_60 (ct := c_M_told (d := d) w x1 x4 (vpb_ok g9_0)) (k := ?_)
        refine bM_wanted_67 (kt := fun q10 => ?_) (kf := fun q10 => ?_)
        · replace hf := ite_f q10 hf
          refine bM_wanted_73 (k := ?_)
          exact ih w x1 x2 x3 x4 x5 (x6 + 1) hf
        · replace hf := ite_t q10 hf
          refine bM_wanted_70 (k := ?_)
          refine bM_wanted_73 (k := ?_)
          exact ih w x1 x2 x3 x4 (0 : Int32) (x6 + 1) hf
def f_M_wanted_5 : Nat → MW → Int32 → Int32 → Int32 → Int32 → Option RT
  | 0, _, _, _, _, _ => none
  | n + 1, w, x1, x2, x3, x4 => if (w.1 62 3) ≤ x4 then (some (some (.int x3), w)) else (grd (vpb x4 8 = true) (if (w.1 68 x4.toNatClampNeg) = x2 then (f_M_wanted_35 (fun w x1 x2 x3 x4 => f_M_wanted_5 n w x1 x2 x3 x4) FU w x1 x2 x3 x4 (1 : Int32) (0 : Int32)) else (f_M_wanted_35 (fun w x1 x2 x3 x4 => f_M_wanted_5 n w x1 x2 x3 x4) FU w x1 x2 x3 x4 (0 : Int32) (0 : Int32))))
set_option maxHeartbeats 4000000 in
theorem r_M_wanted_5 {d : Nat} {r : Option Value} {w' : MW} : ∀ (n : Nat) (w : MW) (x1 : Int32) (x2 : Int32) (x3 : Int32) (x4 : Int32), f_M_wanted_5 n w x1 x2 x3 x4 = some (r, w') → Rn (d + 1) mM_wanted 5 [some (.ref 62), some (.int x1), some (.int x2), some (.int x3), some (.int x4), none, none] [] w r w' := by
  intro n
  induction n with
  | zero =>
    intro w x1 x2 x3 x4 hf
    cases hf
  | succ n ih =>
    intro w x1 x2 x3 x4 hf
    rw [f_M_wanted_5] at hf
    refine bM_wanted_5 (kt := fun q1 => ?_) (kf := fun q1 => ?_)
    · replace hf := ite_t q1 hf
      obtain ⟨rfl, rfl⟩ := ret_e hf
      exact bM_wanted_93 
    · replace hf := ite_f q1 hf
      obtain ⟨g3_0, hf⟩ := grd_e hf
      refine bM_wanted_14 (y1 := 68) (h3 := (vpb_ok g3_0)) (kt := fun q3 => ?_) (kf := fun q3 => ?_)
      · replace hf := ite_f q3 hf
        refine bM_wanted_29 (k := ?_)
        refine bM_wanted_30 (k := ?_)
        exact r_M_wanted_35 (fun w x1 x2 x3 x4 => f_M_wanted_5 n w x1 x2 x3 x4) ih FU w x1 x2 x3 x4 (0 : Int32) (0 : Int32) hf
      · replace hf := ite_t q3 hf
        refine bM_wanted_25 (k := ?_)
        refine bM_wanted_30 (k := ?_)
        exact r_M_wanted_35 (fun w x1 x2 x3 x4 => f_M_wanted_5 n w x1 x2 x3 x4) ih FU w x1 x2 x3 x4 (1 : Int32) (0 : Int32) hf
def f_M_wanted (w : MW) (x1 : Int32) (x2 : Int32) : Option RT := f_M_wanted_5 FU w x1 x2 (0 : Int32) (0 : Int32)
set_option maxHeartbeats 4000000 in
theorem c_M_wanted {d : Nat} {r : Option Value} {w' : MW} (w : MW) (x1 : Int32) (x2 : Int32) (hf : f_M_wanted w x1 x2 = some (r, w')) : Ct (d + 1) mM_wanted [.ref 62, .int x1, .int x2] w r w' := by
  refine eM_wanted ?_
  unfold f_M_wanted at hf
  refine bM_wanted_0 (k := ?_)
  exact r_M_wanted_5 FU w x1 x2 (0 : Int32) (0 : Int32) hf
-- M_isHeard
def f_M_isHeard_5 : Nat → MW → Int32 → Int32 → Int32 → Int32 → Option RT
  | 0, _, _, _, _, _ => none
  | n + 1, w, x1, x2, x3, x4 => if (w.1 62 10) ≤ x4 then (grd (vpb x1 8 = true) (if x3 = (w.1 64 x1.toNatClampNeg) then (some (some (.int (1 : Int32)), w)) else (some (some (.int (0 : Int32)), w)))) else (if (v_M_has w x2 x4) = 0 then (f_M_isHeard_5 n w x1 x2 x3 (x4 + 1)) else (grd (vpb x1 8 = true) (if x3 = (w.1 64 x1.toNatClampNeg) then (some (some (.int (0 : Int32)), w)) else (grd (vpb ((160 * x1) + x3) 1280 = true) (grd (vpb x4 30 = true) (if (v_M_told w x1 x3) = (w.1 72 x4.toNatClampNeg) then (f_M_isHeard_5 n w x1 x2 (x3 + 1) (x4 + 1)) else (some (some (.int (0 : Int32)), w))))))))
set_option maxHeartbeats 4000000 in
theorem r_M_isHeard_5 {d : Nat} {r : Option Value} {w' : MW} : ∀ (n : Nat) (w : MW) (x1 : Int32) (x2 : Int32) (x3 : Int32) (x4 : Int32), f_M_isHeard_5 n w x1 x2 x3 x4 = some (r, w') → Rn (d + 1) mM_isHeard 5 [some (.ref 62), some (.int x1), some (.int x2), some (.int x3), some (.int x4)] [] w r w' := by
  intro n
  induction n with
  | zero =>
    intro w x1 x2 x3 x4 hf
    cases hf
  | succ n ih =>
    intro w x1 x2 x3 x4 hf
    rw [f_M_isHeard_5] at hf
    refine bM_isHeard_5 (kt := fun q1 => ?_) (kf := fun q1 => ?_)
    · replace hf := ite_t q1 hf
      obtain ⟨g2_0, hf⟩ := grd_e hf
      refine bM_isHeard_63 (y1 := 64) (h3 := (vpb_ok g2_0)) (kt := fun q2 => ?_) (kf := fun q2 => ?_)
      · replace hf := ite_f q2 hf
        refine bM_isHeard_77 (k := ?_)
        obtain ⟨rfl, rfl⟩ := ret_e hf
        exact bM_isHeard_78 
      · replace hf := ite_t q2 hf
        refine bM_isHeard_73 (k := ?_)
        obtain ⟨rfl, rfl⟩ := ret_e hf
        exact bM_isHeard_78 
    · replace hf := ite_f q1 hf
      refine bM_isHeard_14 (ct := c_M_has (d := d) w x2 x4) (k := ?_)
      refine bM_isHeard_20 (kt := fun q8 => ?_) (kf := fun q8 => ?_)
      · replace hf := ite_f q8 hf
        obtain ⟨g9_0, hf⟩ := grd_e hf
        refine bM_isHeard_26 (y1 := 64) (h3 := (vpb_ok g9_0)) (kt := fun q9 => ?_) (kf := fun q9 => ?_)
        · replace hf := ite_t q9 hf
          obtain ⟨rfl, rfl⟩ := ret_e hf
          exact bM_isHeard_52 
        · replace hf := ite_f q9 hf
          obtain ⟨g11_0, hf⟩ := grd_e hf
          refine bM_isHeard_36 (ct := c_M_told (d := d) w x1 x3 (vpb_ok g11_0)) (k := ?_)
          obtain ⟨g12_0, hf⟩ := grd_e hf
          refine bM_isHeard_42 (y1 := 72) (h3 := (vpb_ok g12_0)) (kt := fun q12 => ?_) (kf := fun q12 => ?_)
          · replace hf := ite_t q12 hf
            refine bM_isHeard_54 (k := ?_)
            refine bM_isHeard_57 (k := ?_)
            exact ih w x1 x2 (x3 + 1) (x4 + 1) hf
          · replace hf := ite_f q12 hf
            obtain ⟨rfl, rfl⟩ := ret_e hf
            exact bM_isHeard_52 
      · replace hf := ite_t q8 hf
        refine bM_isHeard_23 (k := ?_)
        refine bM_isHeard_57 (k := ?_)
        exact ih w x1 x2 x3 (x4 + 1) hf
def f_M_isHeard (w : MW) (x1 : Int32) (x2 : Int32) : Option RT := f_M_isHeard_5 FU w x1 x2 (0 : Int32) (0 : Int32)
set_option maxHeartbeats 4000000 in
theorem c_M_isHeard {d : Nat} {r : Option Value} {w' : MW} (w : MW) (x1 : Int32) (x2 : Int32) (hf : f_M_isHeard w x1 x2 = some (r, w')) : Ct (d + 1) mM_isHeard [.ref 62, .int x1, .int x2] w r w' := by
  refine eM_isHeard ?_
  unfold f_M_isHeard at hf
  refine bM_isHeard_0 (k := ?_)
  exact r_M_isHeard_5 FU w x1 x2 (0 : Int32) (0 : Int32) hf
-- M_judge
def f_M_judge (w : MW) (x1 : Int32) (x2 : Int32) : Option RT := grd (0 ≤ (v_M_noRow w x1) → 0 ≤ x2 → vpb x1 8 = true) (if 0 ≤ (v_M_noSaying w x1 x2) then (bI (f_M_wrong w x1 x2) (fun v3 w3 => some (some (.int v3), w3))) else (some (some (.int (v_M_no10 w (v_M_noSaying w x1 x2))), u_M_no10 w (v_M_noSaying w x1 x2))))
set_option maxHeartbeats 4000000 in
theorem c_M_judge {d : Nat} {r : Option Value} {w' : MW} (w : MW) (x1 : Int32) (x2 : Int32) (hf : f_M_judge w x1 x2 = some (r, w')) : Ct (d + 3) mM_judge [.ref 62, .int x1, .int x2] w r w' := by
  refine eM_judge ?_
  unfold f_M_judge at hf
  obtain ⟨g1_0, hf⟩ := grd_e hf
  refine bM_judge_0 (ct := c_M_noSaying (d := d) w x1 x2 (fun z0 z1 => vpb_ok (g1_0 z0 z1))) (k := ?_)
  refine bM_judge_6 (kt := fun q2 => ?_) (kf := fun q2 => ?_)
  · replace hf := ite_t q2 hf
    obtain ⟨v3, w3, e3, hf⟩ := bI_e hf
    refine bM_judge_19 (ct := c_M_wrong (d := d) w x1 x2 e3) (k := ?_)
    obtain ⟨rfl, rfl⟩ := ret_e hf
    exact bM_judge_25 
  · replace hf := ite_f q2 hf
    refine bM_judge_11 (ct := c_M_no10 (d := d + 1) w (v_M_noSaying w x1 x2) (no8_M_noSaying _ _ _)) (k := ?_)
    refine bM_judge_16 (k := ?_)
    obtain ⟨rfl, rfl⟩ := ret_e hf
    exact bM_judge_25 
-- M_seed
def f_M_seed (w : MW) (x1 : Int32) : Option RT := some (some (.int (w.1 62 12)), setI w 62 12 x1)
set_option maxHeartbeats 4000000 in
theorem c_M_seed {d : Nat} {r : Option Value} {w' : MW} (w : MW) (x1 : Int32) (hf : f_M_seed w x1 = some (r, w')) : Ct d mM_seed [.ref 62, .int x1] w r w' := by
  refine eM_seed ?_
  unfold f_M_seed at hf
  obtain ⟨rfl, rfl⟩ := ret_e hf
  exact bM_seed_0 
-- M_hearsBy
def f_M_hearsBy (w : MW) (x1 : Int32) (x2 : Int32) : Option RT := grd (vpb x1 8 = true) (if (w.1 66 x1.toNatClampNeg) = 6 then (grd (¬ 20 ≤ (w.1 62 15) → vpb (w.1 62 15) 20 = true) (if (w.1 66 x1.toNatClampNeg) = 4 then (grd (¬ 20 ≤ ((u_M_ran w (70 : Int32)).1 62 15) → vpb ((u_M_ran w (70 : Int32)).1 62 15) 20 = true) (if (w.1 66 x1.toNatClampNeg) = 1 then (grd (¬ 20 ≤ ((u_M_ran (u_M_ran w (70 : Int32)) (51 : Int32)).1 62 15) → vpb ((u_M_ran (u_M_ran w (70 : Int32)) (51 : Int32)).1 62 15) 20 = true) (grd (¬ 20 ≤ ((u_M_ran (u_M_ran (u_M_ran w (70 : Int32)) (51 : Int32)) (20 : Int32)).1 62 15) → vpb ((u_M_ran (u_M_ran (u_M_ran w (70 : Int32)) (51 : Int32)) (20 : Int32)).1 62 15) 20 = true) (if (w.1 66 x1.toNatClampNeg) = 1 then (grd (vpb x1 8 = true) (some (some (.int ((x2 + x1) + ((u_M_ran (u_M_ran (u_M_ran (u_M_ran w (70 : Int32)) (51 : Int32)) (20 : Int32)) (10 : Int32)).1 67 x1.toNatClampNeg))), u_M_ran (u_M_ran (u_M_ran (u_M_ran w (70 : Int32)) (51 : Int32)) (20 : Int32)) (10 : Int32)))) else (if (w.1 66 x1.toNatClampNeg) = 3 then (grd (vpb x1 8 = true) (some (some (.int ((x2 + x1) + ((u_M_ran (u_M_ran (u_M_ran (u_M_ran w (70 : Int32)) (51 : Int32)) (20 : Int32)) (10 : Int32)).1 67 x1.toNatClampNeg))), u_M_ran (u_M_ran (u_M_ran (u_M_ran w (70 : Int32)) (51 : Int32)) (20 : Int32)) (10 : Int32)))) else (if (w.1 66 x1.toNatClampNeg) = 4 then (some (some (.int ((x2 + x1) - x1)), u_M_ran (u_M_ran (u_M_ran (u_M_ran w (70 : Int32)) (51 : Int32)) (20 : Int32)) (10 : Int32))) else (if (w.1 66 x1.toNatClampNeg) = 6 then (some (some (.int (((x2 + x1) - x1) * 2)), u_M_ran (u_M_ran (u_M_ran (u_M_ran w (70 : Int32)) (51 : Int32)) (20 : Int32)) (10 : Int32))) else (some (some (.int (x2 + x1)), u_M_ran (u_M_ran (u_M_ran (u_M_ran w (70 : Int32)) (51 : Int32)) (20 : Int32)) (10 : Int32))))))))) else (if (w.1 66 x1.toNatClampNeg) = 3 then (grd (¬ 20 ≤ ((u_M_ran (u_M_ran w (70 : Int32)) (51 : Int32)).1 62 15) → vpb ((u_M_ran (u_M_ran w (70 : Int32)) (51 : Int32)).1 62 15) 20 = true) (grd (¬ 20 ≤ ((u_M_ran (u_M_ran (u_M_ran w (70 : Int32)) (51 : Int32)) (20 : Int32)).1 62 15) → vpb ((u_M_ran (u_M_ran (u_M_ran w (70 : Int32)) (51 : Int32)) (20 : Int32)).1 62 15) 20 = true) (if (w.1 66 x1.toNatClampNeg) = 1 then (grd (vpb x1 8 = true) (some (some (.int ((x2 + x1) + ((u_M_ran (u_M_ran (u_M_ran (u_M_ran w (70 : Int32)) (51 : Int32)) (20 : Int32)) (10 : Int32)).1 67 x1.toNatClampNeg))), u_M_ran (u_M_ran (u_M_ran (u_M_ran w (70 : Int32)) (51 : Int32)) (20 : Int32)) (10 : Int32)))) else (if (w.1 66 x1.toNatClampNeg) = 3 then (grd (vpb x1 8 = true) (some (some (.int ((x2 + x1) + ((u_M_ran (u_M_ran (u_M_ran (u_M_ran w (70 : Int32)) (51 : Int32)) (20 : Int32)) (10 : Int32)).1 67 x1.toNatClampNeg))), u_M_ran (u_M_ran (u_M_ran (u_M_ran w (70 : Int32)) (51 : Int32)) (20 : Int32)) (10 : Int32)))) else (if (w.1 66 x1.toNatClampNeg) = 4 then (some (some (.int ((x2 + x1) - x1)), u_M_ran (u_M_ran (u_M_ran (u_M_ran w (70 : Int32)) (51 : Int32)) (20 : Int32)) (10 : Int32))) else (if (w.1 66 x1.toNatClampNeg) = 6 then (some (some (.int (((x2 + x1) - x1) * 2)), u_M_ran (u_M_ran (u_M_ran (u_M_ran w (70 : Int32)) (51 : Int32)) (20 : Int32)) (10 : Int32))) else (some (some (.int (x2 + x1)), u_M_ran (u_M_ran (u_M_ran (u_M_ran w (70 : Int32)) (51 : Int32)) (20 : Int32)) (10 : Int32))))))))) else (grd (¬ 20 ≤ ((u_M_ran (u_M_ran w (70 : Int32)) (51 : Int32)).1 62 15) → vpb ((u_M_ran (u_M_ran w (70 : Int32)) (51 : Int32)).1 62 15) 20 = true) (if (w.1 66 x1.toNatClampNeg) = 1 then (grd (vpb x1 8 = true) (some (some (.int ((x2 + x1) + ((u_M_ran (u_M_ran (u_M_ran w (70 : Int32)) (51 : Int32)) (10 : Int32)).1 67 x1.toNatClampNeg))), u_M_ran (u_M_ran (u_M_ran w (70 : Int32)) (51 : Int32)) (10 : Int32)))) else (if (w.1 66 x1.toNatClampNeg) = 3 then (grd (vpb x1 8 = true) (some (some (.int ((x2 + x1) + ((u_M_ran (u_M_ran (u_M_ran w (70 : Int32)) (51 : Int32)) (10 : Int32)).1 67 x1.toNatClampNeg))), u_M_ran (u_M_ran (u_M_ran w (70 : Int32)) (51 : Int32)) (10 : Int32)))) else (if (w.1 66 x1.toNatClampNeg) = 4 then (some (some (.int ((x2 + x1) - x1)), u_M_ran (u_M_ran (u_M_ran w (70 : Int32)) (51 : Int32)) (10 : Int32))) else (if (w.1 66 x1.toNatClampNeg) = 6 then (some (some (.int (((x2 + x1) - x1) * 2)), u_M_ran (u_M_ran (u_M_ran w (70 : Int32)) (51 : Int32)) (10 : Int32))) else (some (some (.int (x2 + x1)), u_M_ran (u_M_ran (u_M_ran w (70 : Int32)) (51 : Int32)) (10 : Int32))))))))))) else (if (w.1 66 x1.toNatClampNeg) = 6 then (grd (¬ 20 ≤ ((u_M_ran w (70 : Int32)).1 62 15) → vpb ((u_M_ran w (70 : Int32)).1 62 15) 20 = true) (if (w.1 66 x1.toNatClampNeg) = 1 then (grd (¬ 20 ≤ ((u_M_ran (u_M_ran w (70 : Int32)) (51 : Int32)).1 62 15) → vpb ((u_M_ran (u_M_ran w (70 : Int32)) (51 : Int32)).1 62 15) 20 = true) (grd (¬ 20 ≤ ((u_M_ran (u_M_ran (u_M_ran w (70 : Int32)) (51 : Int32)) (20 : Int32)).1 62 15) → vpb ((u_M_ran (u_M_ran (u_M_ran w (70 : Int32)) (51 : Int32)) (20 : Int32)).1 62 15) 20 = true) (if (w.1 66 x1.toNatClampNeg) = 1 then (grd (vpb x1 8 = true) (some (some (.int ((x2 + x1) + ((u_M_ran (u_M_ran (u_M_ran (u_M_ran w (70 : Int32)) (51 : Int32)) (20 : Int32)) (10 : Int32)).1 67 x1.toNatClampNeg))), u_M_ran (u_M_ran (u_M_ran (u_M_ran w (70 : Int32)) (51 : Int32)) (20 : Int32)) (10 : Int32)))) else (if (w.1 66 x1.toNatClampNeg) = 3 then (grd (vpb x1 8 = true) (some (some (.int ((x2 + x1) + ((u_M_ran (u_M_ran (u_M_ran (u_M_ran w (70 : Int32)) (51 : Int32)) (20 : Int32)) (10 : Int32)).1 67 x1.toNatClampNeg))), u_M_ran (u_M_ran (u_M_ran (u_M_ran w (70 : Int32)) (51 : Int32)) (20 : Int32)) (10 : Int32)))) else (if (w.1 66 x1.toNatClampNeg) = 4 then (some (some (.int ((x2 + x1) - x1)), u_M_ran (u_M_ran (u_M_ran (u_M_ran w (70 : Int32)) (51 : Int32)) (20 : Int32)) (10 : Int32))) else (if (w.1 66 x1.toNatClampNeg) = 6 then (some (some (.int (((x2 + x1) - x1) * 2)), u_M_ran (u_M_ran (u_M_ran (u_M_ran w (70 : Int32)) (51 : Int32)) (20 : Int32)) (10 : Int32))) else (some (some (.int (x2 + x1)), u_M_ran (u_M_ran (u_M_ran (u_M_ran w (70 : Int32)) (51 : Int32)) (20 : Int32)) (10 : Int32))))))))) else (if (w.1 66 x1.toNatClampNeg) = 3 then (grd (¬ 20 ≤ ((u_M_ran (u_M_ran w (70 : Int32)) (51 : Int32)).1 62 15) → vpb ((u_M_ran (u_M_ran w (70 : Int32)) (51 : Int32)).1 62 15) 20 = true) (grd (¬ 20 ≤ ((u_M_ran (u_M_ran (u_M_ran w (70 : Int32)) (51 : Int32)) (20 : Int32)).1 62 15) → vpb ((u_M_ran (u_M_ran (u_M_ran w (70 : Int32)) (51 : Int32)) (20 : Int32)).1 62 15) 20 = true) (if (w.1 66 x1.toNatClampNeg) = 1 then (grd (vpb x1 8 = true) (some (some (.int ((x2 + x1) + ((u_M_ran (u_M_ran (u_M_ran (u_M_ran w (70 : Int32)) (51 : Int32)) (20 : Int32)) (10 : Int32)).1 67 x1.toNatClampNeg))), u_M_ran (u_M_ran (u_M_ran (u_M_ran w (70 : Int32)) (51 : Int32)) (20 : Int32)) (10 : Int32)))) else (if (w.1 66 x1.toNatClampNeg) = 3 then (grd (vpb x1 8 = true) (some (some (.int ((x2 + x1) + ((u_M_ran (u_M_ran (u_M_ran (u_M_ran w (70 : Int32)) (51 : Int32)) (20 : Int32)) (10 : Int32)).1 67 x1.toNatClampNeg))), u_M_ran (u_M_ran (u_M_ran (u_M_ran w (70 : Int32)) (51 : Int32)) (20 : Int32)) (10 : Int32)))) else (if (w.1 66 x1.toNatClampNeg) = 4 then (some (some (.int ((x2 + x1) - x1)), u_M_ran (u_M_ran (u_M_ran (u_M_ran w (70 : Int32)) (51 : Int32)) (20 : Int32)) (10 : Int32))) else (if (w.1 66 x1.toNatClampNeg) = 6 then (some (some (.int (((x2 + x1) - x1) * 2)), u_M_ran (u_M_ran (u_M_ran (u_M_ran w (70 : Int32)) (51 : Int32)) (20 : Int32)) (10 : Int32))) else (some (some (.int (x2 + x1)), u_M_ran (u_M_ran (u_M_ran (u_M_ran w (70 : Int32)) (51 : Int32)) (20 : Int32)) (10 : Int32))))))))) else (grd (¬ 20 ≤ ((u_M_ran (u_M_ran w (70 : Int32)) (51 : Int32)).1 62 15) → vpb ((u_M_ran (u_M_ran w (70 : Int32)) (51 : Int32)).1 62 15) 20 = true) (if (w.1 66 x1.toNatClampNeg) = 1 then (grd (vpb x1 8 = true) (some (some (.int ((x2 + x1) + ((u_M_ran (u_M_ran (u_M_ran w (70 : Int32)) (51 : Int32)) (10 : Int32)).1 67 x1.toNatClampNeg))), u_M_ran (u_M_ran (u_M_ran w (70 : Int32)) (51 : Int32)) (10 : Int32)))) else (if (w.1 66 x1.toNatClampNeg) = 3 then (grd (vpb x1 8 = true) (some (some (.int ((x2 + x1) + ((u_M_ran (u_M_ran (u_M_ran w (70 : Int32)) (51 : Int32)) (10 : Int32)).1 67 x1.toNatClampNeg))), u_M_ran (u_M_ran (u_M_ran w (70 : Int32)) (51 : Int32)) (10 : Int32)))) else (if (w.1 66 x1.toNatClampNeg) = 4 then (some (some (.int ((x2 + x1) - x1)), u_M_ran (u_M_ran (u_M_ran w (70 : Int32)) (51 : Int32)) (10 : Int32))) else (if (w.1 66 x1.toNatClampNeg) = 6 then (some (some (.int (((x2 + x1) - x1) * 2)), u_M_ran (u_M_ran (u_M_ran w (70 : Int32)) (51 : Int32)) (10 : Int32))) else (some (some (.int (x2 + x1)), u_M_ran (u_M_ran (u_M_ran w (70 : Int32)) (51 : Int32)) (10 : Int32))))))))))) else (if (w.1 66 x1.toNatClampNeg) = 1 then (grd (¬ 20 ≤ ((u_M_ran w (70 : Int32)).1 62 15) → vpb ((u_M_ran w (70 : Int32)).1 62 15) 20 = true) (grd (¬ 20 ≤ ((u_M_ran (u_M_ran w (70 : Int32)) (20 : Int32)).1 62 15) → vpb ((u_M_ran (u_M_ran w (70 : Int32)) (20 : Int32)).1 62 15) 20 = true) (if (w.1 66 x1.toNatClampNeg) = 1 then (grd (vpb x1 8 = true) (some (some (.int ((x2 + x1) + ((u_M_ran (u_M_ran (u_M_ran w (70 : Int32)) (20 : Int32)) (10 : Int32)).1 67 x1.toNatClampNeg))), u_M_ran (u_M_ran (u_M_ran w (70 : Int32)) (20 : Int32)) (10 : Int32)))) else (if (w.1 66 x1.toNatClampNeg) = 3 then (grd (vpb x1 8 = true) (some (some (.int ((x2 + x1) + ((u_M_ran (u_M_ran (u_M_ran w (70 : Int32)) (20 : Int32)) (10 : Int32)).1 67 x1.toNatClampNeg))), u_M_ran (u_M_ran (u_M_ran w (70 : Int32)) (20 : Int32)) (10 : Int32)))) else (if (w.1 66 x1.toNatClampNeg) = 4 then (some (some (.int ((x2 + x1) - x1)), u_M_ran (u_M_ran (u_M_ran w (70 : Int32)) (20 : Int32)) (10 : Int32))) else (if (w.1 66 x1.toNatClampNeg) = 6 then (some (some (.int (((x2 + x1) - x1) * 2)), u_M_ran (u_M_ran (u_M_ran w (70 : Int32)) (20 : Int32)) (10 : Int32))) else (some (some (.int (x2 + x1)), u_M_ran (u_M_ran (u_M_ran w (70 : Int32)) (20 : Int32)) (10 : Int32))))))))) else (if (w.1 66 x1.toNatClampNeg) = 3 then (grd (¬ 20 ≤ ((u_M_ran w (70 : Int32)).1 62 15) → vpb ((u_M_ran w (70 : Int32)).1 62 15) 20 = true) (grd (¬ 20 ≤ ((u_M_ran (u_M_ran w (70 : Int32)) (20 : Int32)).1 62 15) → vpb ((u_M_ran (u_M_ran w (70 : Int32)) (20 : Int32)).1 62 15) 20 = true) (if (w.1 66 x1.toNatClampNeg) = 1 then (grd (vpb x1 8 = true) (some (some (.int ((x2 + x1) + ((u_M_ran (u_M_ran (u_M_ran w (70 : Int32)) (20 : Int32)) (10 : Int32)).1 67 x1.toNatClampNeg))), u_M_ran (u_M_ran (u_M_ran w (70 : Int32)) (20 : Int32)) (10 : Int32)))) else (if (w.1 66 x1.toNatClampNeg) = 3 then (grd (vpb x1 8 = true) (some (some (.int ((x2 + x1) + ((u_M_ran (u_M_ran (u_M_ran w (70 : Int32)) (20 : Int32)) (10 : Int32)).1 67 x1.toNatClampNeg))), u_M_ran (u_M_ran (u_M_ran w (70 : Int32)) (20 : Int32)) (10 : Int32)))) else (if (w.1 66 x1.toNatClampNeg) = 4 then (some (some (.int ((x2 + x1) - x1)), u_M_ran (u_M_ran (u_M_ran w (70 : Int32)) (20 : Int32)) (10 : Int32))) else (if (w.1 66 x1.toNatClampNeg) = 6 then (some (some (.int (((x2 + x1) - x1) * 2)), u_M_ran (u_M_ran (u_M_ran w (70 : Int32)) (20 : Int32)) (10 : Int32))) else (some (some (.int (x2 + x1)), u_M_ran (u_M_ran (u_M_ran w (70 : Int32)) (20 : Int32)) (10 : Int32))))))))) else (grd (¬ 20 ≤ ((u_M_ran w (70 : Int32)).1 62 15) → vpb ((u_M_ran w (70 : Int32)).1 62 15) 20 = true) (if (w.1 66 x1.toNatClampNeg) = 1 then (grd (vpb x1 8 = true) (some (some (.int ((x2 + x1) + ((u_M_ran (u_M_ran w (70 : Int32)) (10 : Int32)).1 67 x1.toNatClampNeg))), u_M_ran (u_M_ran w (70 : Int32)) (10 : Int32)))) else (if (w.1 66 x1.toNatClampNeg) = 3 then (grd (vpb x1 8 = true) (some (some (.int ((x2 + x1) + ((u_M_ran (u_M_ran w (70 : Int32)) (10 : Int32)).1 67 x1.toNatClampNeg))), u_M_ran (u_M_ran w (70 : Int32)) (10 : Int32)))) else (if (w.1 66 x1.toNatClampNeg) = 4 then (some (some (.int ((x2 + x1) - x1)), u_M_ran (u_M_ran w (70 : Int32)) (10 : Int32))) else (if (w.1 66 x1.toNatClampNeg) = 6 then (some (some (.int (((x2 + x1) - x1) * 2)), u_M_ran (u_M_ran w (70 : Int32)) (10 : Int32))) else (some (some (.int (x2 + x1)), u_M_ran (u_M_ran w (70 : Int32)) (10 : Int32))))))))))))) else (if (w.1 66 x1.toNatClampNeg) = 4 then (grd (¬ 20 ≤ (w.1 62 15) → vpb (w.1 62 15) 20 = true) (if (w.1 66 x1.toNatClampNeg) = 1 then (grd (¬ 20 ≤ ((u_M_ran w (51 : Int32)).1 62 15) → vpb ((u_M_ran w (51 : Int32)).1 62 15) 20 = true) (grd (¬ 20 ≤ ((u_M_ran (u_M_ran w (51 : Int32)) (20 : Int32)).1 62 15) → vpb ((u_M_ran (u_M_ran w (51 : Int32)) (20 : Int32)).1 62 15) 20 = true) (if (w.1 66 x1.toNatClampNeg) = 1 then (grd (vpb x1 8 = true) (some (some (.int ((x2 + x1) + ((u_M_ran (u_M_ran (u_M_ran w (51 : Int32)) (20 : Int32)) (10 : Int32)).1 67 x1.toNatClampNeg))), u_M_ran (u_M_ran (u_M_ran w (51 : Int32)) (20 : Int32)) (10 : Int32)))) else (if (w.1 66 x1.toNatClampNeg) = 3 then (grd (vpb x1 8 = true) (some (some (.int ((x2 + x1) + ((u_M_ran (u_M_ran (u_M_ran w (51 : Int32)) (20 : Int32)) (10 : Int32)).1 67 x1.toNatClampNeg))), u_M_ran (u_M_ran (u_M_ran w (51 : Int32)) (20 : Int32)) (10 : Int32)))) else (if (w.1 66 x1.toNatClampNeg) = 4 then (some (some (.int ((x2 + x1) - x1)), u_M_ran (u_M_ran (u_M_ran w (51 : Int32)) (20 : Int32)) (10 : Int32))) else (if (w.1 66 x1.toNatClampNeg) = 6 then (some (some (.int (((x2 + x1) - x1) * 2)), u_M_ran (u_M_ran (u_M_ran w (51 : Int32)) (20 : Int32)) (10 : Int32))) else (some (some (.int (x2 + x1)), u_M_ran (u_M_ran (u_M_ran w (51 : Int32)) (20 : Int32)) (10 : Int32))))))))) else (if (w.1 66 x1.toNatClampNeg) = 3 then (grd (¬ 20 ≤ ((u_M_ran w (51 : Int32)).1 62 15) → vpb ((u_M_ran w (51 : Int32)).1 62 15) 20 = true) (grd (¬ 20 ≤ ((u_M_ran (u_M_ran w (51 : Int32)) (20 : Int32)).1 62 15) → vpb ((u_M_ran (u_M_ran w (51 : Int32)) (20 : Int32)).1 62 15) 20 = true) (if (w.1 66 x1.toNatClampNeg) = 1 then (grd (vpb x1 8 = true) (some (some (.int ((x2 + x1) + ((u_M_ran (u_M_ran (u_M_ran w (51 : Int32)) (20 : Int32)) (10 : Int32)).1 67 x1.toNatClampNeg))), u_M_ran (u_M_ran (u_M_ran w (51 : Int32)) (20 : Int32)) (10 : Int32)))) else (if (w.1 66 x1.toNatClampNeg) = 3 then (grd (vpb x1 8 = true) (some (some (.int ((x2 + x1) + ((u_M_ran (u_M_ran (u_M_ran w (51 : Int32)) (20 : Int32)) (10 : Int32)).1 67 x1.toNatClampNeg))), u_M_ran (u_M_ran (u_M_ran w (51 : Int32)) (20 : Int32)) (10 : Int32)))) else (if (w.1 66 x1.toNatClampNeg) = 4 then (some (some (.int ((x2 + x1) - x1)), u_M_ran (u_M_ran (u_M_ran w (51 : Int32)) (20 : Int32)) (10 : Int32))) else (if (w.1 66 x1.toNatClampNeg) = 6 then (some (some (.int (((x2 + x1) - x1) * 2)), u_M_ran (u_M_ran (u_M_ran w (51 : Int32)) (20 : Int32)) (10 : Int32))) else (some (some (.int (x2 + x1)), u_M_ran (u_M_ran (u_M_ran w (51 : Int32)) (20 : Int32)) (10 : Int32))))))))) else (grd (¬ 20 ≤ ((u_M_ran w (51 : Int32)).1 62 15) → vpb ((u_M_ran w (51 : Int32)).1 62 15) 20 = true) (if (w.1 66 x1.toNatClampNeg) = 1 then (grd (vpb x1 8 = true) (some (some (.int ((x2 + x1) + ((u_M_ran (u_M_ran w (51 : Int32)) (10 : Int32)).1 67 x1.toNatClampNeg))), u_M_ran (u_M_ran w (51 : Int32)) (10 : Int32)))) else (if (w.1 66 x1.toNatClampNeg) = 3 then (grd (vpb x1 8 = true) (some (some (.int ((x2 + x1) + ((u_M_ran (u_M_ran w (51 : Int32)) (10 : Int32)).1 67 x1.toNatClampNeg))), u_M_ran (u_M_ran w (51 : Int32)) (10 : Int32)))) else (if (w.1 66 x1.toNatClampNeg) = 4 then (some (some (.int ((x2 + x1) - x1)), u_M_ran (u_M_ran w (51 : Int32)) (10 : Int32))) else (if (w.1 66 x1.toNatClampNeg) = 6 then (some (some (.int (((x2 + x1) - x1) * 2)), u_M_ran (u_M_ran w (51 : Int32)) (10 : Int32))) else (some (some (.int (x2 + x1)), u_M_ran (u_M_ran w (51 : Int32)) (10 : Int32))))))))))) else (if (w.1 66 x1.toNatClampNeg) = 6 then (grd (¬ 20 ≤ (w.1 62 15) → vpb (w.1 62 15) 20 = true) (if (w.1 66 x1.toNatClampNeg) = 1 then (grd (¬ 20 ≤ ((u_M_ran w (51 : Int32)).1 62 15) → vpb ((u_M_ran w (51 : Int32)).1 62 15) 20 = true) (grd (¬ 20 ≤ ((u_M_ran (u_M_ran w (51 : Int32)) (20 : Int32)).1 62 15) → vpb ((u_M_ran (u_M_ran w (51 : Int32)) (20 : Int32)).1 62 15) 20 = true) (if (w.1 66 x1.toNatClampNeg) = 1 then (grd (vpb x1 8 = true) (some (some (.int ((x2 + x1) + ((u_M_ran (u_M_ran (u_M_ran w (51 : Int32)) (20 : Int32)) (10 : Int32)).1 67 x1.toNatClampNeg))), u_M_ran (u_M_ran (u_M_ran w (51 : Int32)) (20 : Int32)) (10 : Int32)))) else (if (w.1 66 x1.toNatClampNeg) = 3 then (grd (vpb x1 8 = true) (some (some (.int ((x2 + x1) + ((u_M_ran (u_M_ran (u_M_ran w (51 : Int32)) (20 : Int32)) (10 : Int32)).1 67 x1.toNatClampNeg))), u_M_ran (u_M_ran (u_M_ran w (51 : Int32)) (20 : Int32)) (10 : Int32)))) else (if (w.1 66 x1.toNatClampNeg) = 4 then (some (some (.int ((x2 + x1) - x1)), u_M_ran (u_M_ran (u_M_ran w (51 : Int32)) (20 : Int32)) (10 : Int32))) else (if (w.1 66 x1.toNatClampNeg) = 6 then (some (some (.int (((x2 + x1) - x1) * 2)), u_M_ran (u_M_ran (u_M_ran w (51 : Int32)) (20 : Int32)) (10 : Int32))) else (some (some (.int (x2 + x1)), u_M_ran (u_M_ran (u_M_ran w (51 : Int32)) (20 : Int32)) (10 : Int32))))))))) else (if (w.1 66 x1.toNatClampNeg) = 3 then (grd (¬ 20 ≤ ((u_M_ran w (51 : Int32)).1 62 15) → vpb ((u_M_ran w (51 : Int32)).1 62 15) 20 = true) (grd (¬ 20 ≤ ((u_M_ran (u_M_ran w (51 : Int32)) (20 : Int32)).1 62 15) → vpb ((u_M_ran (u_M_ran w (51 : Int32)) (20 : Int32)).1 62 15) 20 = true) (if (w.1 66 x1.toNatClampNeg) = 1 then (grd (vpb x1 8 = true) (some (some (.int ((x2 + x1) + ((u_M_ran (u_M_ran (u_M_ran w (51 : Int32)) (20 : Int32)) (10 : Int32)).1 67 x1.toNatClampNeg))), u_M_ran (u_M_ran (u_M_ran w (51 : Int32)) (20 : Int32)) (10 : Int32)))) else (if (w.1 66 x1.toNatClampNeg) = 3 then (grd (vpb x1 8 = true) (some (some (.int ((x2 + x1) + ((u_M_ran (u_M_ran (u_M_ran w (51 : Int32)) (20 : Int32)) (10 : Int32)).1 67 x1.toNatClampNeg))), u_M_ran (u_M_ran (u_M_ran w (51 : Int32)) (20 : Int32)) (10 : Int32)))) else (if (w.1 66 x1.toNatClampNeg) = 4 then (some (some (.int ((x2 + x1) - x1)), u_M_ran (u_M_ran (u_M_ran w (51 : Int32)) (20 : Int32)) (10 : Int32))) else (if (w.1 66 x1.toNatClampNeg) = 6 then (some (some (.int (((x2 + x1) - x1) * 2)), u_M_ran (u_M_ran (u_M_ran w (51 : Int32)) (20 : Int32)) (10 : Int32))) else (some (some (.int (x2 + x1)), u_M_ran (u_M_ran (u_M_ran w (51 : Int32)) (20 : Int32)) (10 : Int32))))))))) else (grd (¬ 20 ≤ ((u_M_ran w (51 : Int32)).1 62 15) → vpb ((u_M_ran w (51 : Int32)).1 62 15) 20 = true) (if (w.1 66 x1.toNatClampNeg) = 1 then (grd (vpb x1 8 = true) (some (some (.int ((x2 + x1) + ((u_M_ran (u_M_ran w (51 : Int32)) (10 : Int32)).1 67 x1.toNatClampNeg))), u_M_ran (u_M_ran w (51 : Int32)) (10 : Int32)))) else (if (w.1 66 x1.toNatClampNeg) = 3 then (grd (vpb x1 8 = true) (some (some (.int ((x2 + x1) + ((u_M_ran (u_M_ran w (51 : Int32)) (10 : Int32)).1 67 x1.toNatClampNeg))), u_M_ran (u_M_ran w (51 : Int32)) (10 : Int32)))) else (if (w.1 66 x1.toNatClampNeg) = 4 then (some (some (.int ((x2 + x1) - x1)), u_M_ran (u_M_ran w (51 : Int32)) (10 : Int32))) else (if (w.1 66 x1.toNatClampNeg) = 6 then (some (some (.int (((x2 + x1) - x1) * 2)), u_M_ran (u_M_ran w (51 : Int32)) (10 : Int32))) else (some (some (.int (x2 + x1)), u_M_ran (u_M_ran w (51 : Int32)) (10 : Int32))))))))))) else (if (w.1 66 x1.toNatClampNeg) = 1 then (grd (¬ 20 ≤ (w.1 62 15) → vpb (w.1 62 15) 20 = true) (grd (¬ 20 ≤ ((u_M_ran w (20 : Int32)).1 62 15) → vpb ((u_M_ran w (20 : Int32)).1 62 15) 20 = true) (if (w.1 66 x1.toNatClampNeg) = 1 then (grd (vpb x1 8 = true) (some (some (.int ((x2 + x1) + ((u_M_ran (u_M_ran w (20 : Int32)) (10 : Int32)).1 67 x1.toNatClampNeg))), u_M_ran (u_M_ran w (20 : Int32)) (10 : Int32)))) else (if (w.1 66 x1.toNatClampNeg) = 3 then (grd (vpb x1 8 = true) (some (some (.int ((x2 + x1) + ((u_M_ran (u_M_ran w (20 : Int32)) (10 : Int32)).1 67 x1.toNatClampNeg))), u_M_ran (u_M_ran w (20 : Int32)) (10 : Int32)))) else (if (w.1 66 x1.toNatClampNeg) = 4 then (some (some (.int ((x2 + x1) - x1)), u_M_ran (u_M_ran w (20 : Int32)) (10 : Int32))) else (if (w.1 66 x1.toNatClampNeg) = 6 then (some (some (.int (((x2 + x1) - x1) * 2)), u_M_ran (u_M_ran w (20 : Int32)) (10 : Int32))) else (some (some (.int (x2 + x1)), u_M_ran (u_M_ran w (20 : Int32)) (10 : Int32))))))))) else (if (w.1 66 x1.toNatClampNeg) = 3 then (grd (¬ 20 ≤ (w.1 62 15) → vpb (w.1 62 15) 20 = true) (grd (¬ 20 ≤ ((u_M_ran w (20 : Int32)).1 62 15) → vpb ((u_M_ran w (20 : Int32)).1 62 15) 20 = true) (if (w.1 66 x1.toNatClampNeg) = 1 then (grd (vpb x1 8 = true) (some (some (.int ((x2 + x1) + ((u_M_ran (u_M_ran w (20 : Int32)) (10 : Int32)).1 67 x1.toNatClampNeg))), u_M_ran (u_M_ran w (20 : Int32)) (10 : Int32)))) else (if (w.1 66 x1.toNatClampNeg) = 3 then (grd (vpb x1 8 = true) (some (some (.int ((x2 + x1) + ((u_M_ran (u_M_ran w (20 : Int32)) (10 : Int32)).1 67 x1.toNatClampNeg))), u_M_ran (u_M_ran w (20 : Int32)) (10 : Int32)))) else (if (w.1 66 x1.toNatClampNeg) = 4 then (some (some (.int ((x2 + x1) - x1)), u_M_ran (u_M_ran w (20 : Int32)) (10 : Int32))) else (if (w.1 66 x1.toNatClampNeg) = 6 then (some (some (.int (((x2 + x1) - x1) * 2)), u_M_ran (u_M_ran w (20 : Int32)) (10 : Int32))) else (some (some (.int (x2 + x1)), u_M_ran (u_M_ran w (20 : Int32)) (10 : Int32))))))))) else (grd (¬ 20 ≤ (w.1 62 15) → vpb (w.1 62 15) 20 = true) (if (w.1 66 x1.toNatClampNeg) = 1 then (grd (vpb x1 8 = true) (some (some (.int ((x2 + x1) + ((u_M_ran w (10 : Int32)).1 67 x1.toNatClampNeg))), u_M_ran w (10 : Int32)))) else (if (w.1 66 x1.toNatClampNeg) = 3 then (grd (vpb x1 8 = true) (some (some (.int ((x2 + x1) + ((u_M_ran w (10 : Int32)).1 67 x1.toNatClampNeg))), u_M_ran w (10 : Int32)))) else (if (w.1 66 x1.toNatClampNeg) = 4 then (some (some (.int ((x2 + x1) - x1)), u_M_ran w (10 : Int32))) else (if (w.1 66 x1.toNatClampNeg) = 6 then (some (some (.int (((x2 + x1) - x1) * 2)), u_M_ran w (10 : Int32))) else (some (some (.int (x2 + x1)), u_M_ran w (10 : Int32)))))))))))))
set_option maxHeartbeats 4000000 in
theorem c_M_hearsBy {d : Nat} {r : Option Value} {w' : MW} (w : MW) (x1 : Int32) (x2 : Int32) (hf : f_M_hearsBy w x1 x2 = some (r, w')) : Ct (d + 1) mM_hearsBy [.ref 62, .int x1, .int x2] w r w' := by
  refine eM_hearsBy ?_
  unfold f_M_hearsBy at hf
  obtain ⟨g1_0, hf⟩ := grd_e hf
  refine bM_hearsBy_0 (y1 := 66) (h3 := (vpb_ok g1_0)) (kt := fun q1 => ?_) (kf := fun q1 => ?_)
  · replace hf := ite_f q1 hf
    refine bM_hearsBy_19 (kt := fun q2 => ?_) (kf := fun q2 => ?_)
    · replace hf := ite_t q2 hf
      obtain ⟨g3_0, hf⟩ := grd_e hf
      refine bM_hearsBy_30 (ct := c_M_ran (d := d) w (51 : Int32) (fun z0 => vpb_ok (g3_0 z0))) (k := ?_)
      refine bM_hearsBy_36 (kt := fun q4 => ?_) (kf := fun q4 => ?_)
      · replace hf := ite_t q4 hf
        obtain ⟨g5_0, hf⟩ := grd_e hf
        refine bM_hearsBy_46 (ct := c_M_ran (d := d) (u_M_ran w (51 : Int32)) (20 : Int32) (fun z0 => vpb_ok (g5_0 z0))) (k := ?_)
        obtain ⟨g6_0, hf⟩ := grd_e hf
        refine bM_hearsBy_52 (ct := c_M_ran (d := d) (u_M_ran (u_M_ran w (51 : Int32)) (20 : Int32)) (10 : Int32) (fun z0 => vpb_ok (g6_0 z0))) (k := ?_)
        refine bM_hearsBy_58 (kt := fun q7 => ?_) (kf := fun q7 => ?_)
        · replace hf := ite_t q7 hf
          obtain ⟨g8_0, hf⟩ := grd_e hf
          obtain ⟨rfl, rfl⟩ := ret_e hf
          exact bM_hearsBy_73 (y1 := 67) (h3 := (vpb_ok g8_0))
        · replace hf := ite_f q7 hf
          refine bM_hearsBy_68 (kt := fun q9 => ?_) (kf := fun q9 => ?_)
          · replace hf := ite_f q9 hf
            refine bM_hearsBy_83 (kt := fun q10 => ?_) (kf := fun q10 => ?_)
            · replace hf := ite_f q10 hf
              refine bM_hearsBy_95 (kt := fun q11 => ?_) (kf := fun q11 => ?_)
              · replace hf := ite_f q11 hf
                refine bM_hearsBy_110 (k := ?_)
                obtain ⟨rfl, rfl⟩ := ret_e hf
                exact bM_hearsBy_112 
              · replace hf := ite_t q11 hf
                refine bM_hearsBy_101 (k := ?_)
                obtain ⟨rfl, rfl⟩ := ret_e hf
                exact bM_hearsBy_112 
            · replace hf := ite_t q10 hf
              refine bM_hearsBy_88 (k := ?_)
              obtain ⟨rfl, rfl⟩ := ret_e hf
              exact bM_hearsBy_112 
          · replace hf := ite_t q9 hf
            obtain ⟨g18_0, hf⟩ := grd_e hf
            obtain ⟨rfl, rfl⟩ := ret_e hf
            exact bM_hearsBy_73 (y1 := 67) (h3 := (vpb_ok g18_0))
      · replace hf := ite_f q4 hf
        refine bM_hearsBy_41 (kt := fun q19 => ?_) (kf := fun q19 => ?_)
        · replace hf := ite_f q19 hf
          obtain ⟨g20_0, hf⟩ := grd_e hf
          refine bM_hearsBy_52 (ct := c_M_ran (d := d) (u_M_ran w (51 : Int32)) (10 : Int32) (fun z0 => vpb_ok (g20_0 z0))) (k := ?_)
          refine bM_hearsBy_58 (kt := fun q21 => ?_) (kf := fun q21 => ?_)
          · replace hf := ite_t q21 hf
            obtain ⟨g22_0, hf⟩ := grd_e hf
            obtain ⟨rfl, rfl⟩ := ret_e hf
            exact bM_hearsBy_73 (y1 := 67) (h3 := (vpb_ok g22_0))
          · replace hf := ite_f q21 hf
            refine bM_hearsBy_68 (kt := fun q23 => ?_) (kf := fun q23 => ?_)
            · replace hf := ite_f q23 hf
              refine bM_hearsBy_83 (kt := fun q24 => ?_) (kf := fun q24 => ?_)
              · replace hf := ite_f q24 hf
                refine bM_hearsBy_95 (kt := fun q25 => ?_) (kf := fun q25 => ?_)
                · replace hf := ite_f q25 hf
                  refine bM_hearsBy_110 (k := ?_)
                  obtain ⟨rfl, rfl⟩ := ret_e hf
                  exact bM_hearsBy_112 
                · replace hf := ite_t q25 hf
                  refine bM_hearsBy_101 (k := ?_)
                  obtain ⟨rfl, rfl⟩ := ret_e hf
                  exact bM_hearsBy_112 
              · replace hf := ite_t q24 hf
                refine bM_hearsBy_88 (k := ?_)
                obtain ⟨rfl, rfl⟩ := ret_e hf
                exact bM_hearsBy_112 
            · replace hf := ite_t q23 hf
              obtain ⟨g32_0, hf⟩ := grd_e hf
              obtain ⟨rfl, rfl⟩ := ret_e hf
              exact bM_hearsBy_73 (y1 := 67) (h3 := (vpb_ok g32_0))
        · replace hf := ite_t q19 hf
          obtain ⟨g33_0, hf⟩ := grd_e hf
          refine bM_hearsBy_46 (ct := c_M_ran (d := d) (u_M_ran w (51 : Int32)) (20 : Int32) (fun z0 => vpb_ok (g33_0 z0))) (k := ?_)
          obtain ⟨g34_0, hf⟩ := grd_e hf
          refine bM_hearsBy_52 (ct := c_M_ran (d := d) (u_M_ran (u_M_ran w (51 : Int32)) (20 : Int32)) (10 : Int32) (fun z0 => vpb_ok (g34_0 z0))) (k := ?_)
          refine bM_hearsBy_58 (kt := fun q35 => ?_) (kf := fun q35 => ?_)
          · replace hf := ite_t q35 hf
            obtain ⟨g36_0, hf⟩ := grd_e hf
            obtain ⟨rfl, rfl⟩ := ret_e hf
            exact bM_hearsBy_73 (y1 := 67) (h3 := (vpb_ok g36_0))
          · replace hf := ite_f q35 hf
            refine bM_hearsBy_68 (kt := fun q37 => ?_) (kf := fun q37 => ?_)
            · replace hf := ite_f q37 hf
              refine bM_hearsBy_83 (kt := fun q38 => ?_) (kf := fun q38 => ?_)
              · replace hf := ite_f q38 hf
                refine bM_hearsBy_95 (kt := fun q39 => ?_) (kf := fun q39 => ?_)
                · replace hf := ite_f q39 hf
                  refine bM_hearsBy_110 (k := ?_)
                  obtain ⟨rfl, rfl⟩ := ret_e hf
                  exact bM_hearsBy_112 
                · replace hf := ite_t q39 hf
                  refine bM_hearsBy_101 (k := ?_)
                  obtain ⟨rfl, rfl⟩ := ret_e hf
                  exact bM_hearsBy_112 
              · replace hf := ite_t q38 hf
                refine bM_hearsBy_88 (k := ?_)
                obtain ⟨rfl, rfl⟩ := ret_e hf
                exact bM_hearsBy_112 
            · replace hf := ite_t q37 hf
              obtain ⟨g46_0, hf⟩ := grd_e hf
              obtain ⟨rfl, rfl⟩ := ret_e hf
              exact bM_hearsBy_73 (y1 := 67) (h3 := (vpb_ok g46_0))
    · replace hf := ite_f q2 hf
      refine bM_hearsBy_24 (kt := fun q47 => ?_) (kf := fun q47 => ?_)
      · replace hf := ite_f q47 hf
        refine bM_hearsBy_36 (kt := fun q48 => ?_) (kf := fun q48 => ?_)
        · replace hf := ite_t q48 hf
          obtain ⟨g49_0, hf⟩ := grd_e hf
          refine bM_hearsBy_46 (ct := c_M_ran (d := d) w (20 : Int32) (fun z0 => vpb_ok (g49_0 z0))) (k := ?_)
          obtain ⟨g50_0, hf⟩ := grd_e hf
          refine bM_hearsBy_52 (ct := c_M_ran (d := d) (u_M_ran w (20 : Int32)) (10 : Int32) (fun z0 => vpb_ok (g50_0 z0))) (k := ?_)
          refine bM_hearsBy_58 (kt := fun q51 => ?_) (kf := fun q51 => ?_)
          · replace hf := ite_t q51 hf
            obtain ⟨g52_0, hf⟩ := grd_e hf
            obtain ⟨rfl, rfl⟩ := ret_e hf
            exact bM_hearsBy_73 (y1 := 67) (h3 := (vpb_ok g52_0))
          · replace hf := ite_f q51 hf
            refine bM_hearsBy_68 (kt := fun q53 => ?_) (kf := fun q53 => ?_)
            · replace hf := ite_f q53 hf
              refine bM_hearsBy_83 (kt := fun q54 => ?_) (kf := fun q54 => ?_)
              · replace hf := ite_f q54 hf
                refine bM_hearsBy_95 (kt := fun q55 => ?_) (kf := fun q55 => ?_)
                · replace hf := ite_f q55 hf
                  refine bM_hearsBy_110 (k := ?_)
                  obtain ⟨rfl, rfl⟩ := ret_e hf
                  exact bM_hearsBy_112 
                · replace hf := ite_t q55 hf
                  refine bM_hearsBy_101 (k := ?_)
                  obtain ⟨rfl, rfl⟩ := ret_e hf
                  exact bM_hearsBy_112 
              · replace hf := ite_t q54 hf
                refine bM_hearsBy_88 (k := ?_)
                obtain ⟨rfl, rfl⟩ := ret_e hf
                exact bM_hearsBy_112 
            · replace hf := ite_t q53 hf
              obtain ⟨g62_0, hf⟩ := grd_e hf
              obtain ⟨rfl, rfl⟩ := ret_e hf
              exact bM_hearsBy_73 (y1 := 67) (h3 := (vpb_ok g62_0))
        · replace hf := ite_f q48 hf
          refine bM_hearsBy_41 (kt := fun q63 => ?_) (kf := fun q63 => ?_)
          · replace hf := ite_f q63 hf
            obtain ⟨g64_0, hf⟩ := grd_e hf
            refine bM_hearsBy_52 (ct := c_M_ran (d := d) w (10 : Int32) (fun z0 => vpb_ok (g64_0 z0))) (k := ?_)
            refine bM_hearsBy_58 (kt := fun q65 => ?_) (kf := fun q65 => ?_)
            · replace hf := ite_t q65 hf
              obtain ⟨g66_0, hf⟩ := grd_e hf
              obtain ⟨rfl, rfl⟩ := ret_e hf
              exact bM_hearsBy_73 (y1 := 67) (h3 := (vpb_ok g66_0))
            · replace hf := ite_f q65 hf
              refine bM_hearsBy_68 (kt := fun q67 => ?_) (kf := fun q67 => ?_)
              · replace hf := ite_f q67 hf
                refine bM_hearsBy_83 (kt := fun q68 => ?_) (kf := fun q68 => ?_)
                · replace hf := ite_f q68 hf
                  refine bM_hearsBy_95 (kt := fun q69 => ?_) (kf := fun q69 => ?_)
                  · replace hf := ite_f q69 hf
                    refine bM_hearsBy_110 (k := ?_)
                    obtain ⟨rfl, rfl⟩ := ret_e hf
                    exact bM_hearsBy_112 
                  · replace hf := ite_t q69 hf
                    refine bM_hearsBy_101 (k := ?_)
                    obtain ⟨rfl, rfl⟩ := ret_e hf
                    exact bM_hearsBy_112 
                · replace hf := ite_t q68 hf
                  refine bM_hearsBy_88 (k := ?_)
                  obtain ⟨rfl, rfl⟩ := ret_e hf
                  exact bM_hearsBy_112 
              · replace hf := ite_t q67 hf
                obtain ⟨g76_0, hf⟩ := grd_e hf
                obtain ⟨rfl, rfl⟩ := ret_e hf
                exact bM_hearsBy_73 (y1 := 67) (h3 := (vpb_ok g76_0))
          · replace hf := ite_t q63 hf
            obtain ⟨g77_0, hf⟩ := grd_e hf
            refine bM_hearsBy_46 (ct := c_M_ran (d := d) w (20 : Int32) (fun z0 => vpb_ok (g77_0 z0))) (k := ?_)
            obtain ⟨g78_0, hf⟩ := grd_e hf
            refine bM_hearsBy_52 (ct := c_M_ran (d := d) (u_M_ran w (20 : Int32)) (10 : Int32) (fun z0 => vpb_ok (g78_0 z0))) (k := ?_)
            refine bM_hearsBy_58 (kt := fun q79 => ?_) (kf := fun q79 => ?_)
            · replace hf := ite_t q79 hf
              obtain ⟨g80_0, hf⟩ := grd_e hf
              obtain ⟨rfl, rfl⟩ := ret_e hf
              exact bM_hearsBy_73 (y1 := 67) (h3 := (vpb_ok g80_0))
            · replace hf := ite_f q79 hf
              refine bM_hearsBy_68 (kt := fun q81 => ?_) (kf := fun q81 => ?_)
              · replace hf := ite_f q81 hf
                refine bM_hearsBy_83 (kt := fun q82 => ?_) (kf := fun q82 => ?_)
                · replace hf := ite_f q82 hf
                  refine bM_hearsBy_95 (kt := fun q83 => ?_) (kf := fun q83 => ?_)
                  · replace hf := ite_f q83 hf
                    refine bM_hearsBy_110 (k := ?_)
                    obtain ⟨rfl, rfl⟩ := ret_e hf
                    exact bM_hearsBy_112 
                  · replace hf := ite_t q83 hf
                    refine bM_hearsBy_101 (k := ?_)
                    obtain ⟨rfl, rfl⟩ := ret_e hf
                    exact bM_hearsBy_112 
                · replace hf := ite_t q82 hf
                  refine bM_hearsBy_88 (k := ?_)
                  obtain ⟨rfl, rfl⟩ := ret_e hf
                  exact bM_hearsBy_112 
              · replace hf := ite_t q81 hf
                obtain ⟨g90_0, hf⟩ := grd_e hf
                obtain ⟨rfl, rfl⟩ := ret_e hf
                exact bM_hearsBy_73 (y1 := 67) (h3 := (vpb_ok g90_0))
      · replace hf := ite_t q47 hf
        obtain ⟨g91_0, hf⟩ := grd_e hf
        refine bM_hearsBy_30 (ct := c_M_ran (d := d) w (51 : Int32) (fun z0 => vpb_ok (g91_0 z0))) (k := ?_)
        refine bM_hearsBy_36 (kt := fun q92 => ?_) (kf := fun q92 => ?_)
        · replace hf := ite_t q92 hf
          obtain ⟨g93_0, hf⟩ := grd_e hf
          refine bM_hearsBy_46 (ct := c_M_ran (d := d) (u_M_ran w (51 : Int32)) (20 : Int32) (fun z0 => vpb_ok (g93_0 z0))) (k := ?_)
          obtain ⟨g94_0, hf⟩ := grd_e hf
          refine bM_hearsBy_52 (ct := c_M_ran (d := d) (u_M_ran (u_M_ran w (51 : Int32)) (20 : Int32)) (10 : Int32) (fun z0 => vpb_ok (g94_0 z0))) (k := ?_)
          refine bM_hearsBy_58 (kt := fun q95 => ?_) (kf := fun q95 => ?_)
          · replace hf := ite_t q95 hf
            obtain ⟨g96_0, hf⟩ := grd_e hf
            obtain ⟨rfl, rfl⟩ := ret_e hf
            exact bM_hearsBy_73 (y1 := 67) (h3 := (vpb_ok g96_0))
          · replace hf := ite_f q95 hf
            refine bM_hearsBy_68 (kt := fun q97 => ?_) (kf := fun q97 => ?_)
            · replace hf := ite_f q97 hf
              refine bM_hearsBy_83 (kt := fun q98 => ?_) (kf := fun q98 => ?_)
              · replace hf := ite_f q98 hf
                refine bM_hearsBy_95 (kt := fun q99 => ?_) (kf := fun q99 => ?_)
                · replace hf := ite_f q99 hf
                  refine bM_hearsBy_110 (k := ?_)
                  obtain ⟨rfl, rfl⟩ := ret_e hf
                  exact bM_hearsBy_112 
                · replace hf := ite_t q99 hf
                  refine bM_hearsBy_101 (k := ?_)
                  obtain ⟨rfl, rfl⟩ := ret_e hf
                  exact bM_hearsBy_112 
              · replace hf := ite_t q98 hf
                refine bM_hearsBy_88 (k := ?_)
                obtain ⟨rfl, rfl⟩ := ret_e hf
                exact bM_hearsBy_112 
            · replace hf := ite_t q97 hf
              obtain ⟨g106_0, hf⟩ := grd_e hf
              obtain ⟨rfl, rfl⟩ := ret_e hf
              exact bM_hearsBy_73 (y1 := 67) (h3 := (vpb_ok g106_0))
        · replace hf := ite_f q92 hf
          refine bM_hearsBy_41 (kt := fun q107 => ?_) (kf := fun q107 => ?_)
          · replace hf := ite_f q107 hf
            obtain ⟨g108_0, hf⟩ := grd_e hf
            refine bM_hearsBy_52 (ct := c_M_ran (d := d) (u_M_ran w (51 : Int32)) (10 : Int32) (fun z0 => vpb_ok (g108_0 z0))) (k := ?_)
            refine bM_hearsBy_58 (kt := fun q109 => ?_) (kf := fun q109 => ?_)
            · replace hf := ite_t q109 hf
              obtain ⟨g110_0, hf⟩ := grd_e hf
              obtain ⟨rfl, rfl⟩ := ret_e hf
              exact bM_hearsBy_73 (y1 := 67) (h3 := (vpb_ok g110_0))
            · replace hf := ite_f q109 hf
              refine bM_hearsBy_68 (kt := fun q111 => ?_) (kf := fun q111 => ?_)
              · replace hf := ite_f q111 hf
                refine bM_hearsBy_83 (kt := fun q112 => ?_) (kf := fun q112 => ?_)
                · replace hf := ite_f q112 hf
                  refine bM_hearsBy_95 (kt := fun q113 => ?_) (kf := fun q113 => ?_)
                  · replace hf := ite_f q113 hf
                    refine bM_hearsBy_110 (k := ?_)
                    obtain ⟨rfl, rfl⟩ := ret_e hf
                    exact bM_hearsBy_112 
                  · replace hf := ite_t q113 hf
                    refine bM_hearsBy_101 (k := ?_)
                    obtain ⟨rfl, rfl⟩ := ret_e hf
                    exact bM_hearsBy_112 
                · replace hf := ite_t q112 hf
                  refine bM_hearsBy_88 (k := ?_)
                  obtain ⟨rfl, rfl⟩ := ret_e hf
                  exact bM_hearsBy_112 
              · replace hf := ite_t q111 hf
                obtain ⟨g120_0, hf⟩ := grd_e hf
                obtain ⟨rfl, rfl⟩ := ret_e hf
                exact bM_hearsBy_73 (y1 := 67) (h3 := (vpb_ok g120_0))
          · replace hf := ite_t q107 hf
            obtain ⟨g121_0, hf⟩ := grd_e hf
            refine bM_hearsBy_46 (ct := c_M_ran (d := d) (u_M_ran w (51 : Int32)) (20 : Int32) (fun z0 => vpb_ok (g121_0 z0))) (k := ?_)
            obtain ⟨g122_0, hf⟩ := grd_e hf
            refine bM_hearsBy_52 (ct := c_M_ran (d := d) (u_M_ran (u_M_ran w (51 : Int32)) (20 : Int32)) (10 : Int32) (fun z0 => vpb_ok (g122_0 z0))) (k := ?_)
            refine bM_hearsBy_58 (kt := fun q123 => ?_) (kf := fun q123 => ?_)
            · replace hf := ite_t q123 hf
              obtain ⟨g124_0, hf⟩ := grd_e hf
              obtain ⟨rfl, rfl⟩ := ret_e hf
              exact bM_hearsBy_73 (y1 := 67) (h3 := (vpb_ok g124_0))
            · replace hf := ite_f q123 hf
              refine bM_hearsBy_68 (kt := fun q125 => ?_) (kf := fun q125 => ?_)
              · replace hf := ite_f q125 hf
                refine bM_hearsBy_83 (kt := fun q126 => ?_) (kf := fun q126 => ?_)
                · replace hf := ite_f q126 hf
                  refine bM_hearsBy_95 (kt := fun q127 => ?_) (kf := fun q127 => ?_)
                  · replace hf := ite_f q127 hf
                    refine bM_hearsBy_110 (k := ?_)
                    obtain ⟨rfl, rfl⟩ := ret_e hf
                    exact bM_hearsBy_112 
                  · replace hf := ite_t q127 hf
                    refine bM_hearsBy_101 (k := ?_)
                    obtain ⟨rfl, rfl⟩ := ret_e hf
                    exact bM_hearsBy_112 
                · replace hf := ite_t q126 hf
                  refine bM_hearsBy_88 (k := ?_)
                  obtain ⟨rfl, rfl⟩ := ret_e hf
                  exact bM_hearsBy_112 
              · replace hf := ite_t q125 hf
                obtain ⟨g134_0, hf⟩ := grd_e hf
                obtain ⟨rfl, rfl⟩ := ret_e hf
                exact bM_hearsBy_73 (y1 := 67) (h3 := (vpb_ok g134_0))
  · replace hf := ite_t q1 hf
    obtain ⟨g135_0, hf⟩ := grd_e hf
    refine bM_hearsBy_13 (ct := c_M_ran (d := d) w (70 : Int32) (fun z0 => vpb_ok (g135_0 z0))) (k := ?_)
    refine bM_hearsBy_19 (kt := fun q136 => ?_) (kf := fun q136 => ?_)
    · replace hf := ite_t q136 hf
      obtain ⟨g137_0, hf⟩ := grd_e hf
      refine bM_hearsBy_30 (ct := c_M_ran (d := d) (u_M_ran w (70 : Int32)) (51 : Int32) (fun z0 => vpb_ok (g137_0 z0))) (k := ?_)
      refine bM_hearsBy_36 (kt := fun q138 => ?_) (kf := fun q138 => ?_)
      · replace hf := ite_t q138 hf
        obtain ⟨g139_0, hf⟩ := grd_e hf
        refine bM_hearsBy_46 (ct := c_M_ran (d := d) (u_M_ran (u_M_ran w (70 : Int32)) (51 : Int32)) (20 : Int32) (fun z0 => vpb_ok (g139_0 z0))) (k := ?_)
        obtain ⟨g140_0, hf⟩ := grd_e hf
        refine bM_hearsBy_52 (ct := c_M_ran (d := d) (u_M_ran (u_M_ran (u_M_ran w (70 : Int32)) (51 : Int32)) (20 : Int32)) (10 : Int32) (fun z0 => vpb_ok (g140_0 z0))) (k := ?_)
        refine bM_hearsBy_58 (kt := fun q141 => ?_) (kf := fun q141 => ?_)
        · replace hf := ite_t q141 hf
          obtain ⟨g142_0, hf⟩ := grd_e hf
          obtain ⟨rfl, rfl⟩ := ret_e hf
          exact bM_hearsBy_73 (y1 := 67) (h3 := (vpb_ok g142_0))
        · replace hf := ite_f q141 hf
          refine bM_hearsBy_68 (kt := fun q143 => ?_) (kf := fun q143 => ?_)
          · replace hf := ite_f q143 hf
            refine bM_hearsBy_83 (kt := fun q144 => ?_) (kf := fun q144 => ?_)
            · replace hf := ite_f q144 hf
              refine bM_hearsBy_95 (kt := fun q145 => ?_) (kf := fun q145 => ?_)
              · replace hf := ite_f q145 hf
                refine bM_hearsBy_110 (k := ?_)
                obtain ⟨rfl, rfl⟩ := ret_e hf
                exact bM_hearsBy_112 
              · replace hf := ite_t q145 hf
                refine bM_hearsBy_101 (k := ?_)
                obtain ⟨rfl, rfl⟩ := ret_e hf
                exact bM_hearsBy_112 
            · replace hf := ite_t q144 hf
              refine bM_hearsBy_88 (k := ?_)
              obtain ⟨rfl, rfl⟩ := ret_e hf
              exact bM_hearsBy_112 
          · replace hf := ite_t q143 hf
            obtain ⟨g152_0, hf⟩ := grd_e hf
            obtain ⟨rfl, rfl⟩ := ret_e hf
            exact bM_hearsBy_73 (y1 := 67) (h3 := (vpb_ok g152_0))
      · replace hf := ite_f q138 hf
        refine bM_hearsBy_41 (kt := fun q153 => ?_) (kf := fun q153 => ?_)
        · replace hf := ite_f q153 hf
          obtain ⟨g154_0, hf⟩ := grd_e hf
          refine bM_hearsBy_52 (ct := c_M_ran (d := d) (u_M_ran (u_M_ran w (70 : Int32)) (51 : Int32)) (10 : Int32) (fun z0 => vpb_ok (g154_0 z0))) (k := ?_)
          refine bM_hearsBy_58 (kt := fun q155 => ?_) (kf := fun q155 => ?_)
          · replace hf := ite_t q155 hf
            obtain ⟨g156_0, hf⟩ := grd_e hf
            obtain ⟨rfl, rfl⟩ := ret_e hf
            exact bM_hearsBy_73 (y1 := 67) (h3 := (vpb_ok g156_0))
          · replace hf := ite_f q155 hf
            refine bM_hearsBy_68 (kt := fun q157 => ?_) (kf := fun q157 => ?_)
            · replace hf := ite_f q157 hf
              refine bM_hearsBy_83 (kt := fun q158 => ?_) (kf := fun q158 => ?_)
              · replace hf := ite_f q158 hf
                refine bM_hearsBy_95 (kt := fun q159 => ?_) (kf := fun q159 => ?_)
                · replace hf := ite_f q159 hf
                  refine bM_hearsBy_110 (k := ?_)
                  obtain ⟨rfl, rfl⟩ := ret_e hf
                  exact bM_hearsBy_112 
                · replace hf := ite_t q159 hf
                  refine bM_hearsBy_101 (k := ?_)
                  obtain ⟨rfl, rfl⟩ := ret_e hf
                  exact bM_hearsBy_112 
              · replace hf := ite_t q158 hf
                refine bM_hearsBy_88 (k := ?_)
                obtain ⟨rfl, rfl⟩ := ret_e hf
                exact bM_hearsBy_112 
            · replace hf := ite_t q157 hf
              obtain ⟨g166_0, hf⟩ := grd_e hf
              obtain ⟨rfl, rfl⟩ := ret_e hf
              exact bM_hearsBy_73 (y1 := 67) (h3 := (vpb_ok g166_0))
        · replace hf := ite_t q153 hf
          obtain ⟨g167_0, hf⟩ := grd_e hf
          refine bM_hearsBy_46 (ct := c_M_ran (d := d) (u_M_ran (u_M_ran w (70 : Int32)) (51 : Int32)) (20 : Int32) (fun z0 => vpb_ok (g167_0 z0))) (k := ?_)
          obtain ⟨g168_0, hf⟩ := grd_e hf
          refine bM_hearsBy_52 (ct := c_M_ran (d := d) (u_M_ran (u_M_ran (u_M_ran w (70 : Int32)) (51 : Int32)) (20 : Int32)) (10 : Int32) (fun z0 => vpb_ok (g168_0 z0))) (k := ?_)
          refine bM_hearsBy_58 (kt := fun q169 => ?_) (kf := fun q169 => ?_)
          · replace hf := ite_t q169 hf
            obtain ⟨g170_0, hf⟩ := grd_e hf
            obtain ⟨rfl, rfl⟩ := ret_e hf
            exact bM_hearsBy_73 (y1 := 67) (h3 := (vpb_ok g170_0))
          · replace hf := ite_f q169 hf
            refine bM_hearsBy_68 (kt := fun q171 => ?_) (kf := fun q171 => ?_)
            · replace hf := ite_f q171 hf
              refine bM_hearsBy_83 (kt := fun q172 => ?_) (kf := fun q172 => ?_)
              · replace hf := ite_f q172 hf
                refine bM_hearsBy_95 (kt := fun q173 => ?_) (kf := fun q173 => ?_)
                · replace hf := ite_f q173 hf
                  refine bM_hearsBy_110 (k := ?_)
                  obtain ⟨rfl, rfl⟩ := ret_e hf
                  exact bM_hearsBy_112 
                · replace hf := ite_t q173 hf
                  refine bM_hearsBy_101 (k := ?_)
                  obtain ⟨rfl, rfl⟩ := ret_e hf
                  exact bM_hearsBy_112 
              · replace hf := ite_t q172 hf
                refine bM_hearsBy_88 (k := ?_)
                obtain ⟨rfl, rfl⟩ := ret_e hf
                exact bM_hearsBy_112 
            · replace hf := ite_t q171 hf
              obtain ⟨g180_0, hf⟩ := grd_e hf
              obtain ⟨rfl, rfl⟩ := ret_e hf
              exact bM_hearsBy_73 (y1 := 67) (h3 := (vpb_ok g180_0))
    · replace hf := ite_f q136 hf
      refine bM_hearsBy_24 (kt := fun q181 => ?_) (kf := fun q181 => ?_)
      · replace hf := ite_f q181 hf
        refine bM_hearsBy_36 (kt := fun q182 => ?_) (kf := fun q182 => ?_)
        · replace hf := ite_t q182 hf
          obtain ⟨g183_0, hf⟩ := grd_e hf
          refine bM_hearsBy_46 (ct := c_M_ran (d := d) (u_M_ran w (70 : Int32)) (20 : Int32) (fun z0 => vpb_ok (g183_0 z0))) (k := ?_)
          obtain ⟨g184_0, hf⟩ := grd_e hf
          refine bM_hearsBy_52 (ct := c_M_ran (d := d) (u_M_ran (u_M_ran w (70 : Int32)) (20 : Int32)) (10 : Int32) (fun z0 => vpb_ok (g184_0 z0))) (k := ?_)
          refine bM_hearsBy_58 (kt := fun q185 => ?_) (kf := fun q185 => ?_)
          · replace hf := ite_t q185 hf
            obtain ⟨g186_0, hf⟩ := grd_e hf
            obtain ⟨rfl, rfl⟩ := ret_e hf
            exact bM_hearsBy_73 (y1 := 67) (h3 := (vpb_ok g186_0))
          · replace hf := ite_f q185 hf
            refine bM_hearsBy_68 (kt := fun q187 => ?_) (kf := fun q187 => ?_)
            · replace hf := ite_f q187 hf
              refine bM_hearsBy_83 (kt := fun q188 => ?_) (kf := fun q188 => ?_)
              · replace hf := ite_f q188 hf
                refine bM_hearsBy_95 (kt := fun q189 => ?_) (kf := fun q189 => ?_)
                · replace hf := ite_f q189 hf
                  refine bM_hearsBy_110 (k := ?_)
                  obtain ⟨rfl, rfl⟩ := ret_e hf
                  exact bM_hearsBy_112 
                · replace hf := ite_t q189 hf
                  refine bM_hearsBy_101 (k := ?_)
                  obtain ⟨rfl, rfl⟩ := ret_e hf
                  exact bM_hearsBy_112 
              · replace hf := ite_t q188 hf
                refine bM_hearsBy_88 (k := ?_)
                obtain ⟨rfl, rfl⟩ := ret_e hf
                exact bM_hearsBy_112 
            · replace hf := ite_t q187 hf
              obtain ⟨g196_0, hf⟩ := grd_e hf
              obtain ⟨rfl, rfl⟩ := ret_e hf
              exact bM_hearsBy_73 (y1 := 67) (h3 := (vpb_ok g196_0))
        · replace hf := ite_f q182 hf
          refine bM_hearsBy_41 (kt := fun q197 => ?_) (kf := fun q197 => ?_)
          · replace hf := ite_f q197 hf
            obtain ⟨g198_0, hf⟩ := grd_e hf
            refine bM_hearsBy_52 (ct := c_M_ran (d := d) (u_M_ran w (70 : Int32)) (10 : Int32) (fun z0 => vpb_ok (g198_0 z0))) (k := ?_)
            refine bM_hearsBy_58 (kt := fun q199 => ?_) (kf := fun q199 => ?_)
            · replace hf := ite_t q199 hf
              obtain ⟨g200_0, hf⟩ := grd_e hf
              obtain ⟨rfl, rfl⟩ := ret_e hf
              exact bM_hearsBy_73 (y1 := 67) (h3 := (vpb_ok g200_0))
            · replace hf := ite_f q199 hf
              refine bM_hearsBy_68 (kt := fun q201 => ?_) (kf := fun q201 => ?_)
              · replace hf := ite_f q201 hf
                refine bM_hearsBy_83 (kt := fun q202 => ?_) (kf := fun q202 => ?_)
                · replace hf := ite_f q202 hf
                  refine bM_hearsBy_95 (kt := fun q203 => ?_) (kf := fun q203 => ?_)
                  · replace hf := ite_f q203 hf
                    refine bM_hearsBy_110 (k := ?_)
                    obtain ⟨rfl, rfl⟩ := ret_e hf
                    exact bM_hearsBy_112 
                  · replace hf := ite_t q203 hf
                    refine bM_hearsBy_101 (k := ?_)
                    obtain ⟨rfl, rfl⟩ := ret_e hf
                    exact bM_hearsBy_112 
                · replace hf := ite_t q202 hf
                  refine bM_hearsBy_88 (k := ?_)
                  obtain ⟨rfl, rfl⟩ := ret_e hf
                  exact bM_hearsBy_112 
              · replace hf := ite_t q201 hf
                obtain ⟨g210_0, hf⟩ := grd_e hf
                obtain ⟨rfl, rfl⟩ := ret_e hf
                exact bM_hearsBy_73 (y1 := 67) (h3 := (vpb_ok g210_0))
          · replace hf := ite_t q197 hf
            obtain ⟨g211_0, hf⟩ := grd_e hf
            refine bM_hearsBy_46 (ct := c_M_ran (d := d) (u_M_ran w (70 : Int32)) (20 : Int32) (fun z0 => vpb_ok (g211_0 z0))) (k := ?_)
            obtain ⟨g212_0, hf⟩ := grd_e hf
            refine bM_hearsBy_52 (ct := c_M_ran (d := d) (u_M_ran (u_M_ran w (70 : Int32)) (20 : Int32)) (10 : Int32) (fun z0 => vpb_ok (g212_0 z0))) (k := ?_)
            refine bM_hearsBy_58 (kt := fun q213 => ?_) (kf := fun q213 => ?_)
            · replace hf := ite_t q213 hf
              obtain ⟨g214_0, hf⟩ := grd_e hf
              obtain ⟨rfl, rfl⟩ := ret_e hf
              exact bM_hearsBy_73 (y1 := 67) (h3 := (vpb_ok g214_0))
            · replace hf := ite_f q213 hf
              refine bM_hearsBy_68 (kt := fun q215 => ?_) (kf := fun q215 => ?_)
              · replace hf := ite_f q215 hf
                refine bM_hearsBy_83 (kt := fun q216 => ?_) (kf := fun q216 => ?_)
                · replace hf := ite_f q216 hf
                  refine bM_hearsBy_95 (kt := fun q217 => ?_) (kf := fun q217 => ?_)
                  · replace hf := ite_f q217 hf
                    refine bM_hearsBy_110 (k := ?_)
                    obtain ⟨rfl, rfl⟩ := ret_e hf
                    exact bM_hearsBy_112 
                  · replace hf := ite_t q217 hf
                    refine bM_hearsBy_101 (k := ?_)
                    obtain ⟨rfl, rfl⟩ := ret_e hf
                    exact bM_hearsBy_112 
                · replace hf := ite_t q216 hf
                  refine bM_hearsBy_88 (k := ?_)
                  obtain ⟨rfl, rfl⟩ := ret_e hf
                  exact bM_hearsBy_112 
              · replace hf := ite_t q215 hf
                obtain ⟨g224_0, hf⟩ := grd_e hf
                obtain ⟨rfl, rfl⟩ := ret_e hf
                exact bM_hearsBy_73 (y1 := 67) (h3 := (vpb_ok g224_0))
      · replace hf := ite_t q181 hf
        obtain ⟨g225_0, hf⟩ := grd_e hf
        refine bM_hearsBy_30 (ct := c_M_ran (d := d) (u_M_ran w (70 : Int32)) (51 : Int32) (fun z0 => vpb_ok (g225_0 z0))) (k := ?_)
        refine bM_hearsBy_36 (kt := fun q226 => ?_) (kf := fun q226 => ?_)
        · replace hf := ite_t q226 hf
          obtain ⟨g227_0, hf⟩ := grd_e hf
          refine bM_hearsBy_46 (ct := c_M_ran (d := d) (u_M_ran (u_M_ran w (70 : Int32)) (51 : Int32)) (20 : Int32) (fun z0 => vpb_ok (g227_0 z0))) (k := ?_)
          obtain ⟨g228_0, hf⟩ := grd_e hf
          refine bM_hearsBy_52 (ct := c_M_ran (d := d) (u_M_ran (u_M_ran (u_M_ran w (70 : Int32)) (51 : Int32)) (20 : Int32)) (10 : Int32) (fun z0 => vpb_ok (g228_0 z0))) (k := ?_)
          refine bM_hearsBy_58 (kt := fun q229 => ?_) (kf := fun q229 => ?_)
          · replace hf := ite_t q229 hf
            obtain ⟨g230_0, hf⟩ := grd_e hf
            obtain ⟨rfl, rfl⟩ := ret_e hf
            exact bM_hearsBy_73 (y1 := 67) (h3 := (vpb_ok g230_0))
          · replace hf := ite_f q229 hf
            refine bM_hearsBy_68 (kt := fun q231 => ?_) (kf := fun q231 => ?_)
            · replace hf := ite_f q231 hf
              refine bM_hearsBy_83 (kt := fun q232 => ?_) (kf := fun q232 => ?_)
              · replace hf := ite_f q232 hf
                refine bM_hearsBy_95 (kt := fun q233 => ?_) (kf := fun q233 => ?_)
                · replace hf := ite_f q233 hf
                  refine bM_hearsBy_110 (k := ?_)
                  obtain ⟨rfl, rfl⟩ := ret_e hf
                  exact bM_hearsBy_112 
                · replace hf := ite_t q233 hf
                  refine bM_hearsBy_101 (k := ?_)
                  obtain ⟨rfl, rfl⟩ := ret_e hf
                  exact bM_hearsBy_112 
              · replace hf := ite_t q232 hf
                refine bM_hearsBy_88 (k := ?_)
                obtain ⟨rfl, rfl⟩ := ret_e hf
                exact bM_hearsBy_112 
            · replace hf := ite_t q231 hf
              obtain ⟨g240_0, hf⟩ := grd_e hf
              obtain ⟨rfl, rfl⟩ := ret_e hf
              exact bM_hearsBy_73 (y1 := 67) (h3 := (vpb_ok g240_0))
        · replace hf := ite_f q226 hf
          refine bM_hearsBy_41 (kt := fun q241 => ?_) (kf := fun q241 => ?_)
          · replace hf := ite_f q241 hf
            obtain ⟨g242_0, hf⟩ := grd_e hf
            refine bM_hearsBy_52 (ct := c_M_ran (d := d) (u_M_ran (u_M_ran w (70 : Int32)) (51 : Int32)) (10 : Int32) (fun z0 => vpb_ok (g242_0 z0))) (k := ?_)
            refine bM_hearsBy_58 (kt := fun q243 => ?_) (kf := fun q243 => ?_)
            · replace hf := ite_t q243 hf
              obtain ⟨g244_0, hf⟩ := grd_e hf
              obtain ⟨rfl, rfl⟩ := ret_e hf
              exact bM_hearsBy_73 (y1 := 67) (h3 := (vpb_ok g244_0))
            · replace hf := ite_f q243 hf
              refine bM_hearsBy_68 (kt := fun q245 => ?_) (kf := fun q245 => ?_)
              · replace hf := ite_f q245 hf
                refine bM_hearsBy_83 (kt := fun q246 => ?_) (kf := fun q246 => ?_)
                · replace hf := ite_f q246 hf
                  refine bM_hearsBy_95 (kt := fun q247 => ?_) (kf := fun q247 => ?_)
                  · replace hf := ite_f q247 hf
                    refine bM_hearsBy_110 (k := ?_)
                    obtain ⟨rfl, rfl⟩ := ret_e hf
                    exact bM_hearsBy_112 
                  · replace hf := ite_t q247 hf
                    refine bM_hearsBy_101 (k := ?_)
                    obtain ⟨rfl, rfl⟩ := ret_e hf
                    exact bM_hearsBy_112 
                · replace hf := ite_t q246 hf
                  refine bM_hearsBy_88 (k := ?_)
                  obtain ⟨rfl, rfl⟩ := ret_e hf
                  exact bM_hearsBy_112 
              · replace hf := ite_t q245 hf
                obtain ⟨g254_0, hf⟩ := grd_e hf
                obtain ⟨rfl, rfl⟩ := ret_e hf
                exact bM_hearsBy_73 (y1 := 67) (h3 := (vpb_ok g254_0))
          · replace hf := ite_t q241 hf
            obtain ⟨g255_0, hf⟩ := grd_e hf
            refine bM_hearsBy_46 (ct := c_M_ran (d := d) (u_M_ran (u_M_ran w (70 : Int32)) (51 : Int32)) (20 : Int32) (fun z0 => vpb_ok (g255_0 z0))) (k := ?_)
            obtain ⟨g256_0, hf⟩ := grd_e hf
            refine bM_hearsBy_52 (ct := c_M_ran (d := d) (u_M_ran (u_M_ran (u_M_ran w (70 : Int32)) (51 : Int32)) (20 : Int32)) (10 : Int32) (fun z0 => vpb_ok (g256_0 z0))) (k := ?_)
            refine bM_hearsBy_58 (kt := fun q257 => ?_) (kf := fun q257 => ?_)
            · replace hf := ite_t q257 hf
              obtain ⟨g258_0, hf⟩ := grd_e hf
              obtain ⟨rfl, rfl⟩ := ret_e hf
              exact bM_hearsBy_73 (y1 := 67) (h3 := (vpb_ok g258_0))
            · replace hf := ite_f q257 hf
              refine bM_hearsBy_68 (kt := fun q259 => ?_) (kf := fun q259 => ?_)
              · replace hf := ite_f q259 hf
                refine bM_hearsBy_83 (kt := fun q260 => ?_) (kf := fun q260 => ?_)
                · replace hf := ite_f q260 hf
                  refine bM_hearsBy_95 (kt := fun q261 => ?_) (kf := fun q261 => ?_)
                  · replace hf := ite_f q261 hf
                    refine bM_hearsBy_110 (k := ?_)
                    obtain ⟨rfl, rfl⟩ := ret_e hf
                    exact bM_hearsBy_112 
                  · replace hf := ite_t q261 hf
                    refine bM_hearsBy_101 (k := ?_)
                    obtain ⟨rfl, rfl⟩ := ret_e hf
                    exact bM_hearsBy_112 
                · replace hf := ite_t q260 hf
                  refine bM_hearsBy_88 (k := ?_)
                  obtain ⟨rfl, rfl⟩ := ret_e hf
                  exact bM_hearsBy_112 
              · replace hf := ite_t q259 hf
                obtain ⟨g268_0, hf⟩ := grd_e hf
                obtain ⟨rfl, rfl⟩ := ret_e hf
                exact bM_hearsBy_73 (y1 := 67) (h3 := (vpb_ok g268_0))
