-- M_soon
def f_M_soon (w : MW) (x1 : Int32) : Option RT := if (v_M_isMan w x1) = 0 then (some (some (.int (v_M_no10 w (-1 : Int32))), u_M_no10 w (-1 : Int32))) else (bI (f_M_soonOf w x1) (fun v5 w5 => some (some (.int v5), w5)))
set_option maxHeartbeats 4000000 in
theorem c_M_soon {d : Nat} {r : Option Value} {w' : MW} (w : MW) (x1 : Int32) (hf : f_M_soon w x1 = some (r, w')) : Ct (d + 4) mM_soon [.ref 62, .int x1] w r w' := by
  refine eM_soon ?_
  unfold f_M_soon at hf
  refine bM_soon_0 (ct := c_M_isMan (d := d + 2) w x1) (k := ?_)
  refine bM_soon_5 (kt := fun q2 => ?_) (kf := fun q2 => ?_)
  · replace hf := ite_t q2 hf
    refine bM_soon_16 (ct := c_M_no10 (d := d + 2) w (-1 : Int32) (vpd (i := (-(-1 : Int32))) (n := 8) (by decide))) (k := ?_)
    obtain ⟨rfl, rfl⟩ := ret_e hf
    exact bM_soon_21 
  · replace hf := ite_f q2 hf
    obtain ⟨v5, w5, e5, hf⟩ := bI_e hf
    refine bM_soon_8 (ct := c_M_soonOf (d := d) w x1 e5) (k := ?_)
    refine bM_soon_13 (k := ?_)
    obtain ⟨rfl, rfl⟩ := ret_e hf
    exact bM_soon_21 
-- M_lose
def f_M_lose_20 (k7 : MW → Int32 → Int32 → Int32 → Option RT) : Nat → MW → Int32 → Int32 → Int32 → Int32 → Option RT
  | 0, _, _, _, _, _ => none
  | n + 1, w, x1, x2, x3, x4 => if (w.1 62 3) ≤ x4 then (k7 w x1 x2 (x3 + 1)) else (grd (vpb x3 8 = true) (if (v_M_has w (w.1 71 x3.toNatClampNeg) x4) = 0 then (f_M_lose_20 k7 n w x1 x2 x3 (x4 + 1)) else (grd (vpb x3 8 = true) (grd ((0 : Int32) = 0 → vpb x4 8 = true) (grd (¬ (0 : Int32) = 0 → vpb x4 8 = true) (bI (f_M_haveIt (u_M_meeting w x3 x4 (0 : Int32)) ) (fun v6 w6 => grd (vpb x3 8 = true) (grd ((1 : Int32) = 0 → vpb x4 8 = true) (grd (¬ (1 : Int32) = 0 → vpb x4 8 = true) (if v6 < x2 then (f_M_lose_20 k7 n (u_M_meeting w6 x3 x4 (1 : Int32)) ((100 * x3) + x4) v6 x3 (x4 + 1)) else (f_M_lose_20 k7 n (u_M_meeting w6 x3 x4 (1 : Int32)) x1 x2 x3 (x4 + 1))))))))))))
set_option maxHeartbeats 4000000 in
theorem r_M_lose_20 {d : Nat} {r : Option Value} {w' : MW} (k7 : MW → Int32 → Int32 → Int32 → Option RT) (hk7 : ∀ w x1 x2 x3, k7 w x1 x2 x3 = some (r, w') → Rn (d + 4) mM_lose 7 [some (.ref 62), some (.int x1), some (.int x2), some (.int x3), none, none] [] w r w') : ∀ (n : Nat) (w : MW) (x1 : Int32) (x2 : Int32) (x3 : Int32) (x4 : Int32), f_M_lose_20 k7 n w x1 x2 x3 x4 = some (r, w') → Rn (d + 4) mM_lose 20 [some (.ref 62), some (.int x1), some (.int x2), some (.int x3), some (.int x4), none] [] w r w' := by
  intro n
  induction n with
  | zero =>
    intro w x1 x2 x3 x4 hf
    cases hf
  | succ n ih =>
    intro w x1 x2 x3 x4 hf
    rw [f_M_lose_20] at hf
    refine bM_lose_20 (kt := fun q1 => ?_) (kf := fun q1 => ?_)
    · replace hf := ite_t q1 hf
      refine bM_lose_94 (k := ?_)
      exact hk7 w x1 x2 (x3 + 1) hf
    · replace hf := ite_f q1 hf
      obtain ⟨g3_0, hf⟩ := grd_e hf
      refine bM_lose_29 (y1 := 71) (h3 := (vpb_ok g3_0)) (ct := c_M_has (d := d + 3) w (w.1 71 x3.toNatClampNeg) x4) (k := ?_)
      refine bM_lose_40 (kt := fun q4 => ?_) (kf := fun q4 => ?_)
      · replace hf := ite_f q4 hf
        obtain ⟨g5_0, hf⟩ := grd_e hf
        obtain ⟨g5_1, hf⟩ := grd_e hf
        obtain ⟨g5_2, hf⟩ := grd_e hf
        refine bM_lose_46 (ct := c_M_meeting (d := d + 3) w x3 x4 (0 : Int32) (vpb_ok g5_0) (fun z0 => vpb_ok (g5_1 z0)) (fun z0 => vpb_ok (g5_2 z0))) (k := ?_)
        obtain ⟨v6, w6, e6, hf⟩ := bI_e hf
        refine bM_lose_54 (ct := c_M_haveIt (d := d) (u_M_meeting w x3 x4 (0 : Int32)) e6) (k := ?_)
        obtain ⟨g7_0, hf⟩ := grd_e hf
        obtain ⟨g7_1, hf⟩ := grd_e hf
        obtain ⟨g7_2, hf⟩ := grd_e hf
        refine bM_lose_58 (ct := c_M_meeting (d := d + 3) w6 x3 x4 (1 : Int32) (vpb_ok g7_0) (fun z0 => vpb_ok (g7_1 z0)) (fun z0 => vpb_ok (g7_2 z0))) (k := ?_)
        refine bM_lose_68 (kt := fun q8 => ?_) (kf := fun q8 => ?_)
        · replace hf := ite_t q8 hf
          refine bM_lose_77 (k := ?_)
          refine bM_lose_88 (k := ?_)
          exact ih (u_M_meeting w6 x3 x4 (1 : Int32)) ((100 * x3) + x4) v6 x3 (x4 + 1) hf
        · replace hf := ite_f q8 hf
          refine bM_lose_74 (k := ?_)
          refine bM_lose_88 (k := ?_)
          exact ih (u_M_meeting w6 x3 x4 (1 : Int32)) x1 x2 x3 (x4 + 1) hf
      · replace hf := ite_t q4 hf
        refine bM_lose_43 (k := ?_)
        refine bM_lose_88 (k := ?_)
        exact ih w x1 x2 x3 (x4 + 1) hf
def f_M_lose_7 : Nat → MW → Int32 → Int32 → Int32 → Option RT
  | 0, _, _, _, _ => none
  | n + 1, w, x1, x2, x3 => if (w.1 62 3) ≤ x3 then (some (some (.int x1), w)) else (f_M_lose_20 (fun w x1 x2 x3 => f_M_lose_7 n w x1 x2 x3) FU w x1 x2 x3 (x3 + 1))
set_option maxHeartbeats 4000000 in
theorem r_M_lose_7 {d : Nat} {r : Option Value} {w' : MW} : ∀ (n : Nat) (w : MW) (x1 : Int32) (x2 : Int32) (x3 : Int32), f_M_lose_7 n w x1 x2 x3 = some (r, w') → Rn (d + 4) mM_lose 7 [some (.ref 62), some (.int x1), some (.int x2), some (.int x3), none, none] [] w r w' := by
  intro n
  induction n with
  | zero =>
    intro w x1 x2 x3 hf
    cases hf
  | succ n ih =>
    intro w x1 x2 x3 hf
    rw [f_M_lose_7] at hf
    refine bM_lose_7 (kt := fun q1 => ?_) (kf := fun q1 => ?_)
    · replace hf := ite_t q1 hf
      obtain ⟨rfl, rfl⟩ := ret_e hf
      exact bM_lose_100 
    · replace hf := ite_f q1 hf
      refine bM_lose_15 (k := ?_)
      exact r_M_lose_20 (fun w x1 x2 x3 => f_M_lose_7 n w x1 x2 x3) ih FU w x1 x2 x3 (x3 + 1) hf
def f_M_lose (w : MW) : Option RT := f_M_lose_7 FU w (-1 : Int32) (99 : Int32) (0 : Int32)
set_option maxHeartbeats 4000000 in
theorem c_M_lose {d : Nat} {r : Option Value} {w' : MW} (w : MW) (hf : f_M_lose w = some (r, w')) : Ct (d + 4) mM_lose [.ref 62] w r w' := by
  refine eM_lose ?_
  unfold f_M_lose at hf
  refine bM_lose_0 (k := ?_)
  exact r_M_lose_7 FU w (-1 : Int32) (99 : Int32) (0 : Int32) hf
-- M_swap
def f_M_swap_22 (k9 : MW → Int32 → Int32 → Int32 → Option RT) : Nat → MW → Int32 → Int32 → Int32 → Int32 → Option RT
  | 0, _, _, _, _, _ => none
  | n + 1, w, x1, x2, x3, x4 => if (w.1 62 10) ≤ x4 then (k9 w x1 x2 (x3 + 1)) else (grd (vpb x3 30 = true) (grd (vpb x4 30 = true) (bI (f_M_senses (u_M_change w x3 x4) ) (fun v4 w4 => grd (vpb x3 30 = true) (grd (vpb x4 30 = true) (if x1 < v4 then (f_M_swap_22 k9 n (u_M_change w4 x3 x4) v4 ((100 * x3) + x4) x3 (x4 + 1)) else (f_M_swap_22 k9 n (u_M_change w4 x3 x4) x1 x2 x3 (x4 + 1))))))))
set_option maxHeartbeats 4000000 in
theorem r_M_swap_22 {d : Nat} {r : Option Value} {w' : MW} (k9 : MW → Int32 → Int32 → Int32 → Option RT) (hk9 : ∀ w x1 x2 x3, k9 w x1 x2 x3 = some (r, w') → Rn (d + 3) mM_swap 9 [some (.ref 62), some (.int x1), some (.int x2), some (.int x3), none, none] [] w r w') : ∀ (n : Nat) (w : MW) (x1 : Int32) (x2 : Int32) (x3 : Int32) (x4 : Int32), f_M_swap_22 k9 n w x1 x2 x3 x4 = some (r, w') → Rn (d + 3) mM_swap 22 [some (.ref 62), some (.int x1), some (.int x2), some (.int x3), some (.int x4), none] [] w r w' := by
  intro n
  induction n with
  | zero =>
    intro w x1 x2 x3 x4 hf
    cases hf
  | succ n ih =>
    intro w x1 x2 x3 x4 hf
    rw [f_M_swap_22] at hf
    refine bM_swap_22 (kt := fun q1 => ?_) (kf := fun q1 => ?_)
    · replace hf := ite_t q1 hf
      refine bM_swap_77 (k := ?_)
      exact hk9 w x1 x2 (x3 + 1) hf
    · replace hf := ite_f q1 hf
      obtain ⟨g3_0, hf⟩ := grd_e hf
      obtain ⟨g3_1, hf⟩ := grd_e hf
      refine bM_swap_31 (ct := c_M_change (d := d + 2) w x3 x4 (vpb_ok g3_0) (vpb_ok g3_1)) (k := ?_)
      obtain ⟨v4, w4, e4, hf⟩ := bI_e hf
      refine bM_swap_38 (ct := c_M_senses (d := d) (u_M_change w x3 x4) e4) (k := ?_)
      obtain ⟨g5_0, hf⟩ := grd_e hf
      obtain ⟨g5_1, hf⟩ := grd_e hf
      refine bM_swap_42 (ct := c_M_change (d := d + 2) w4 x3 x4 (vpb_ok g5_0) (vpb_ok g5_1)) (k := ?_)
      refine bM_swap_51 (kt := fun q6 => ?_) (kf := fun q6 => ?_)
      · replace hf := ite_t q6 hf
        refine bM_swap_60 (k := ?_)
        refine bM_swap_71 (k := ?_)
        exact ih (u_M_change w4 x3 x4) v4 ((100 * x3) + x4) x3 (x4 + 1) hf
      · replace hf := ite_f q6 hf
        refine bM_swap_57 (k := ?_)
        refine bM_swap_71 (k := ?_)
        exact ih (u_M_change w4 x3 x4) x1 x2 x3 (x4 + 1) hf
def f_M_swap_9 : Nat → MW → Int32 → Int32 → Int32 → Option RT
  | 0, _, _, _, _ => none
  | n + 1, w, x1, x2, x3 => if (w.1 62 10) ≤ x3 then (some (some (.int x2), w)) else (f_M_swap_22 (fun w x1 x2 x3 => f_M_swap_9 n w x1 x2 x3) FU w x1 x2 x3 (x3 + 1))
set_option maxHeartbeats 4000000 in
theorem r_M_swap_9 {d : Nat} {r : Option Value} {w' : MW} : ∀ (n : Nat) (w : MW) (x1 : Int32) (x2 : Int32) (x3 : Int32), f_M_swap_9 n w x1 x2 x3 = some (r, w') → Rn (d + 3) mM_swap 9 [some (.ref 62), some (.int x1), some (.int x2), some (.int x3), none, none] [] w r w' := by
  intro n
  induction n with
  | zero =>
    intro w x1 x2 x3 hf
    cases hf
  | succ n ih =>
    intro w x1 x2 x3 hf
    rw [f_M_swap_9] at hf
    refine bM_swap_9 (kt := fun q1 => ?_) (kf := fun q1 => ?_)
    · replace hf := ite_t q1 hf
      obtain ⟨rfl, rfl⟩ := ret_e hf
      exact bM_swap_83 
    · replace hf := ite_f q1 hf
      refine bM_swap_17 (k := ?_)
      exact r_M_swap_22 (fun w x1 x2 x3 => f_M_swap_9 n w x1 x2 x3) ih FU w x1 x2 x3 (x3 + 1) hf
def f_M_swap (w : MW) : Option RT := bI (f_M_senses w ) (fun v1 w1 => f_M_swap_9 FU w1 v1 (-1 : Int32) (0 : Int32))
set_option maxHeartbeats 4000000 in
theorem c_M_swap {d : Nat} {r : Option Value} {w' : MW} (w : MW) (hf : f_M_swap w = some (r, w')) : Ct (d + 3) mM_swap [.ref 62] w r w' := by
  refine eM_swap ?_
  unfold f_M_swap at hf
  obtain ⟨v1, w1, e1, hf⟩ := bI_e hf
  refine bM_swap_0 (ct := c_M_senses (d := d) w e1) (k := ?_)
  refine bM_swap_4 (k := ?_)
  exact r_M_swap_9 FU w1 v1 (-1 : Int32) (0 : Int32) hf
-- M_audience
def f_M_audience (w : MW) (x1 : Int32) : Option RT := if (v_M_isRounds w x1) = 0 then (some (some (.int (v_M_no w (-6 : Int32))), u_M_no w (-6 : Int32))) else (bI (f_M_heard w x1) (fun v5 w5 => some (some (.int v5), w5)))
set_option maxHeartbeats 4000000 in
theorem c_M_audience {d : Nat} {r : Option Value} {w' : MW} (w : MW) (x1 : Int32) (hf : f_M_audience w x1 = some (r, w')) : Ct (d + 4) mM_audience [.ref 62, .int x1] w r w' := by
  refine eM_audience ?_
  unfold f_M_audience at hf
  refine bM_audience_0 (ct := c_M_isRounds (d := d + 2) w x1) (k := ?_)
  refine bM_audience_4 (kt := fun q2 => ?_) (kf := fun q2 => ?_)
  · replace hf := ite_t q2 hf
    refine bM_audience_15 (ct := c_M_no (d := d + 3) w (-6 : Int32) (vpd (i := (-(-6 : Int32))) (n := 8) (by decide))) (k := ?_)
    obtain ⟨rfl, rfl⟩ := ret_e hf
    exact bM_audience_21 
  · replace hf := ite_f q2 hf
    obtain ⟨v5, w5, e5, hf⟩ := bI_e hf
    refine bM_audience_7 (ct := c_M_heard (d := d) w x1 e5) (k := ?_)
    refine bM_audience_12 (k := ?_)
    obtain ⟨rfl, rfl⟩ := ret_e hf
    exact bM_audience_21 
-- Mn_saysAs
def f_Mn_saysAs (w : MW) (a0 : Nat) (x1 : Int32) (x2 : Int32) : Option RT := bI (f_Mn_placesOf w a0 x2) (fun v1 w1 => bI (f_X_thirds w1 (w1.1 a0 2) (0 : Int32) x2) (fun v2 w2 => if x1 = 1 then (bI (f_JI_bitCount w2 v1) (fun v4 w4 => bI (f_JI_bitCount w4 v2) (fun v5 w5 => some (some (.int (v4 - v5)), w5)))) else if x1 = 2 then (bI (f_JI_bitCount w2 v2) (fun v7 w7 => bI (f_JI_bitCount w7 v1) (fun v8 w8 => some (some (.int (v7 - v8)), w8)))) else if x1 = 3 then (bI (f_JI_bitCount w2 v1) (fun v10 w10 => bI (f_JI_bitCount w10 v2) (fun v11 w11 => some (some (.int (v10 - v11)), w11)))) else if x1 = 4 then (bI (f_JI_bitCount w2 (v1 &&& (v2 ^^^ (-1)))) (fun v13 w13 => some (some (.int v13), w13))) else if x1 = 5 then (bI (f_JI_bitCount w2 v2) (fun v15 w15 => bI (f_JI_bitCount w15 v1) (fun v16 w16 => some (some (.int (v15 - v16)), w16)))) else if x1 = 6 then (bI (f_JI_bitCount w2 (v1 &&& (v2 ^^^ (-1)))) (fun v18 w18 => some (some (.int v18), w18))) else (some (some (.int (w2.1 a0 2)), w2))))
set_option maxHeartbeats 4000000 in
theorem c_Mn_saysAs {d : Nat} {r : Option Value} {w' : MW} (w : MW) (a0 : Nat) (x1 : Int32) (x2 : Int32) (c0 : isMn a0) (hf : f_Mn_saysAs w a0 x1 x2 = some (r, w')) : Ct (d + 3) mMn_saysAs [.ref a0, .int x1, .int x2] w r w' := by
  refine eMn_saysAs ?_
  unfold f_Mn_saysAs at hf
  obtain ⟨v1, w1, e1, hf⟩ := bI_e hf
  refine bMn_saysAs_0 (h1 := mn_k c0) (ct := c_Mn_placesOf (d := d) w a0 x2 c0 e1) (k := ?_)
  obtain ⟨v2, w2, e2, hf⟩ := bI_e hf
  refine bMn_saysAs_5 (h1 := mn_g c0 2 (by decide)) (ct := c_X_thirds (d := d + 2) w1 (w1.1 a0 2) (0 : Int32) x2 e2) (k := ?_)
  refine bMn_saysAs_15 (k1 := fun q3_1 => ?_) (k2 := fun q3_2 => ?_) (k3 := fun q3_3 => ?_) (k4 := fun q3_4 => ?_) (k5 := fun q3_5 => ?_) (k6 := fun q3_6 => ?_) (kd := fun q3_1 q3_2 q3_3 q3_4 q3_5 q3_6 => ?_)
  · have hq := q3_1
    replace hf := ite_t hq hf
    obtain ⟨v4, w4, e4, hf⟩ := bI_e hf
    refine bMn_saysAs_56 (ct := c_JI_bitCount (d := d + 2) w2 v1 e4) (k := ?_)
    obtain ⟨v5, w5, e5, hf⟩ := bI_e hf
    refine bMn_saysAs_60 (ct := c_JI_bitCount (d := d + 2) w4 v2 e5) (k := ?_)
    obtain ⟨rfl, rfl⟩ := ret_e hf
    exact bMn_saysAs_65 
  · have hq := q3_2
    replace hf := ite_f (by rw [hq]; decide) hf
    replace hf := ite_t hq hf
    obtain ⟨v7, w7, e7, hf⟩ := bI_e hf
    refine bMn_saysAs_67 (ct := c_JI_bitCount (d := d + 2) w2 v2 e7) (k := ?_)
    obtain ⟨v8, w8, e8, hf⟩ := bI_e hf
    refine bMn_saysAs_72 (ct := c_JI_bitCount (d := d + 2) w7 v1 e8) (k := ?_)
    obtain ⟨rfl, rfl⟩ := ret_e hf
    exact bMn_saysAs_76 
  · have hq := q3_3
    replace hf := ite_f (by rw [hq]; decide) hf
    replace hf := ite_f (by rw [hq]; decide) hf
    replace hf := ite_t hq hf
    obtain ⟨v10, w10, e10, hf⟩ := bI_e hf
    refine bMn_saysAs_56 (ct := c_JI_bitCount (d := d + 2) w2 v1 e10) (k := ?_)
    obtain ⟨v11, w11, e11, hf⟩ := bI_e hf
    refine bMn_saysAs_60 (ct := c_JI_bitCount (d := d + 2) w10 v2 e11) (k := ?_)
    obtain ⟨rfl, rfl⟩ := ret_e hf
    exact bMn_saysAs_65 
  · have hq := q3_4
    replace hf := ite_f (by rw [hq]; decide) hf
    replace hf := ite_f (by rw [hq]; decide) hf
    replace hf := ite_f (by rw [hq]; decide) hf
    replace hf := ite_t hq hf
    obtain ⟨v13, w13, e13, hf⟩ := bI_e hf
    refine bMn_saysAs_78 (ct := c_JI_bitCount (d := d + 2) w2 (v1 &&& (v2 ^^^ (-1))) e13) (k := ?_)
    obtain ⟨rfl, rfl⟩ := ret_e hf
    exact bMn_saysAs_87 
  · have hq := q3_5
    replace hf := ite_f (by rw [hq]; decide) hf
    replace hf := ite_f (by rw [hq]; decide) hf
    replace hf := ite_f (by rw [hq]; decide) hf
    replace hf := ite_f (by rw [hq]; decide) hf
    replace hf := ite_t hq hf
    obtain ⟨v15, w15, e15, hf⟩ := bI_e hf
    refine bMn_saysAs_67 (ct := c_JI_bitCount (d := d + 2) w2 v2 e15) (k := ?_)
    obtain ⟨v16, w16, e16, hf⟩ := bI_e hf
    refine bMn_saysAs_72 (ct := c_JI_bitCount (d := d + 2) w15 v1 e16) (k := ?_)
    obtain ⟨rfl, rfl⟩ := ret_e hf
    exact bMn_saysAs_76 
  · have hq := q3_6
    replace hf := ite_f (by rw [hq]; decide) hf
    replace hf := ite_f (by rw [hq]; decide) hf
    replace hf := ite_f (by rw [hq]; decide) hf
    replace hf := ite_f (by rw [hq]; decide) hf
    replace hf := ite_f (by rw [hq]; decide) hf
    replace hf := ite_t hq hf
    obtain ⟨v18, w18, e18, hf⟩ := bI_e hf
    refine bMn_saysAs_78 (ct := c_JI_bitCount (d := d + 2) w2 (v1 &&& (v2 ^^^ (-1))) e18) (k := ?_)
    obtain ⟨rfl, rfl⟩ := ret_e hf
    exact bMn_saysAs_87 
  · replace hf := ite_f q3_1 hf
    replace hf := ite_f q3_2 hf
    replace hf := ite_f q3_3 hf
    replace hf := ite_f q3_4 hf
    replace hf := ite_f q3_5 hf
    replace hf := ite_f q3_6 hf
    obtain ⟨rfl, rfl⟩ := ret_e hf
    exact bMn_saysAs_88 (h1 := mn_g c0 2 (by decide))
-- X_manOf
def f_X_manOf (w : MW) (x1 : Int32) (x2 : Int32) : Option RT := if (v_Ct_isMan w 1 x1) = 0 then (some (some (.int (v_X_refuse w (-5 : Int32))), u_X_refuse w (-5 : Int32))) else (grd (vpb x1 8 = true) (if x2 = 0 then (some (some (.int (w.1 (1 + 2 + x1.toNatClampNeg) 0)), w)) else if x2 = 1 then (some (some (.int (w.1 (1 + 2 + x1.toNatClampNeg) 1)), w)) else if x2 = 2 then (some (some (.int (w.1 (1 + 2 + x1.toNatClampNeg) 2)), w)) else if x2 = 3 then (bI (f_Ct_his w 1 x1) (fun v7 w7 => bI (f_JI_bitCount w7 v7) (fun v8 w8 => some (some (.int v8), w8)))) else if x2 = 4 then (some (some (.int (w.1 (1 + 2 + x1.toNatClampNeg) 5)), w)) else if x2 = 5 then (some (some (.int (w.1 (1 + 2 + x1.toNatClampNeg) 4)), w)) else (some (some (.int (v_X_refuse w (-5 : Int32))), u_X_refuse w (-5 : Int32)))))
set_option maxHeartbeats 4000000 in
theorem c_X_manOf {d : Nat} {r : Option Value} {w' : MW} (w : MW) (x1 : Int32) (x2 : Int32) (hf : f_X_manOf w x1 x2 = some (r, w')) : Ct (d + 4) mX_manOf [.ref 0, .int x1, .int x2] w r w' := by
  refine eX_manOf ?_
  unfold f_X_manOf at hf
  refine bX_manOf_0 (y1 := 1) (ct := c_Ct_isMan (d := d + 3) w 1 x1 ct1) (k := ?_)
  refine bX_manOf_8 (kt := fun q2 => ?_) (kf := fun q2 => ?_)
  · replace hf := ite_f q2 hf
    obtain ⟨g3_0, hf⟩ := grd_e hf
    refine bX_manOf_18 (y1 := 1) (y2 := 2) (y3 := 1 + 2 + x1.toNatClampNeg) (h3 := ct_k12 ct1) (h4 := ct_l8 ct1 (vpb_ok g3_0)) (h5 := ct_mn ct1 (vpb_ok g3_0)) (k0 := fun q3_0 => ?_) (k1 := fun q3_1 => ?_) (k2 := fun q3_2 => ?_) (k3 := fun q3_3 => ?_) (k4 := fun q3_4 => ?_) (k5 := fun q3_5 => ?_) (kd := fun q3_0 q3_1 q3_2 q3_3 q3_4 q3_5 => ?_)
    · have hq := q3_0
      replace hf := ite_t hq hf
      obtain ⟨rfl, rfl⟩ := ret_e hf
      exact bX_manOf_68 (h1 := mn_g (mn_of ct1 (vpb_ok g3_0)) 0 (by decide))
    · have hq := q3_1
      replace hf := ite_f (by rw [hq]; decide) hf
      replace hf := ite_t hq hf
      obtain ⟨rfl, rfl⟩ := ret_e hf
      exact bX_manOf_73 (h1 := mn_g (mn_of ct1 (vpb_ok g3_0)) 1 (by decide))
    · have hq := q3_2
      replace hf := ite_f (by rw [hq]; decide) hf
      replace hf := ite_f (by rw [hq]; decide) hf
      replace hf := ite_t hq hf
      obtain ⟨rfl, rfl⟩ := ret_e hf
      exact bX_manOf_78 (h1 := mn_g (mn_of ct1 (vpb_ok g3_0)) 2 (by decide))
    · have hq := q3_3
      replace hf := ite_f (by rw [hq]; decide) hf
      replace hf := ite_f (by rw [hq]; decide) hf
      replace hf := ite_f (by rw [hq]; decide) hf
      replace hf := ite_t hq hf
      obtain ⟨v7, w7, e7, hf⟩ := bI_e hf
      refine bX_manOf_83 (y1 := 1) (ct := c_Ct_his (d := d) w 1 x1 ct1 e7) (k := ?_)
      obtain ⟨v8, w8, e8, hf⟩ := bI_e hf
      refine bX_manOf_91 (ct := c_JI_bitCount (d := d + 3) w7 v7 e8) (k := ?_)
      obtain ⟨rfl, rfl⟩ := ret_e hf
      exact bX_manOf_94 
    · have hq := q3_4
      replace hf := ite_f (by rw [hq]; decide) hf
      replace hf := ite_f (by rw [hq]; decide) hf
      replace hf := ite_f (by rw [hq]; decide) hf
      replace hf := ite_f (by rw [hq]; decide) hf
      replace hf := ite_t hq hf
      obtain ⟨rfl, rfl⟩ := ret_e hf
      exact bX_manOf_95 (h1 := mn_g (mn_of ct1 (vpb_ok g3_0)) 5 (by decide))
    · have hq := q3_5
      replace hf := ite_f (by rw [hq]; decide) hf
      replace hf := ite_f (by rw [hq]; decide) hf
      replace hf := ite_f (by rw [hq]; decide) hf
      replace hf := ite_f (by rw [hq]; decide) hf
      replace hf := ite_f (by rw [hq]; decide) hf
      replace hf := ite_t hq hf
      obtain ⟨rfl, rfl⟩ := ret_e hf
      exact bX_manOf_100 (h1 := mn_g (mn_of ct1 (vpb_ok g3_0)) 4 (by decide))
    · replace hf := ite_f q3_0 hf
      replace hf := ite_f q3_1 hf
      replace hf := ite_f q3_2 hf
      replace hf := ite_f q3_3 hf
      replace hf := ite_f q3_4 hf
      replace hf := ite_f q3_5 hf
      refine bX_manOf_105 (ct := c_X_refuse (d := d + 3) w (-5 : Int32)) (k := ?_)
      obtain ⟨rfl, rfl⟩ := ret_e hf
      exact bX_manOf_111 
  · replace hf := ite_t q2 hf
    refine bX_manOf_11 (ct := c_X_refuse (d := d + 3) w (-5 : Int32)) (k := ?_)
    obtain ⟨rfl, rfl⟩ := ret_e hf
    exact bX_manOf_17 
-- Rd_readOver
def f_Rd_readOver_23 (a1 : Nat) (a2 : Nat) : Nat → MW → Int32 → Int32 → Option RT
  | 0, _, _, _ => none
  | n + 1, w, x3, x4 => if 160 < x4 then (bV (f_Ct_become w a1 23) (fun w2 => some (some (.int x3), w2))) else (bV (f_Rd_readItem w a2) (fun w4 => if (w4.1 52 3) = (-1) then (if (w4.1 52 1) = (w4.1 a2 1) then (bV (f_Ct_become w4 a1 23) (fun w12 => some (some (.int (x3 + 1)), w12))) else (grd (¬ (v_Sh_has w4 a2 (w4.1 52 1)) = 0 → ¬ (w4.1 52 1) < 0 → ¬ (w4.1 a2 1) ≤ (w4.1 52 1) → vpb (w4.1 52 1) 160 = true) (if ((u_Rd_take w4 a2 (59 : Int32)).1 52 3) = (-1) then (f_Rd_readOver_23 a1 a2 n (u_Rd_take w4 a2 (59 : Int32)) (x3 + 1) (x4 + 1)) else (some (some (.int (0 : Int32)), u_Rd_take w4 a2 (59 : Int32)))))) else (some (some (.int (0 : Int32)), w4))))
set_option maxHeartbeats 4000000 in
theorem r_Rd_readOver_23 {d : Nat} {r : Option Value} {w' : MW} (a1 : Nat) (a2 : Nat) (c1 : isCt a1) (c2 : isSh a2) : ∀ (n : Nat) (w : MW) (x3 : Int32) (x4 : Int32), f_Rd_readOver_23 a1 a2 n w x3 x4 = some (r, w') → Rn (d + 6) mRd_readOver 23 [some (.ref 52), some (.ref a1), some (.ref a2), some (.int x3), some (.int x4)] [] w r w' := by
  intro n
  induction n with
  | zero =>
    intro w x3 x4 hf
    cases hf
  | succ n ih =>
    intro w x3 x4 hf
    rw [f_Rd_readOver_23] at hf
    refine bRd_readOver_23 (kt := fun q1 => ?_) (kf := fun q1 => ?_)
    · replace hf := ite_t q1 hf
      obtain ⟨w2, e2, hf⟩ := bV_e hf
      refine bRd_readOver_86 (y1 := 23) (h2 := ct_k c1) (ct := c_Ct_become (d := d + 4) w a1 23 c1 ct23 e2) (k := ?_)
      obtain ⟨rfl, rfl⟩ := ret_e hf
      exact bRd_readOver_94 
    · replace hf := ite_f q1 hf
      obtain ⟨w4, e4, hf⟩ := bV_e hf
      refine bRd_readOver_31 (ct := c_Rd_readItem (d := d) w a2 c2 e4) (k := ?_)
      refine bRd_readOver_36 (kt := fun q5 => ?_) (kf := fun q5 => ?_)
      · replace hf := ite_t q5 hf
        refine bRd_readOver_46 (h2 := sh_g1 c2) (kt := fun q6 => ?_) (kf := fun q6 => ?_)
        · replace hf := ite_f q6 hf
          obtain ⟨g7_0, hf⟩ := grd_e hf
          refine bRd_readOver_63 (ct := c_Rd_take (d := d + 4) w4 a2 (59 : Int32) c2 (fun z0 z1 z2 => vpb_ok (g7_0 z0 z1 z2))) (k := ?_)
          refine bRd_readOver_70 (kt := fun q8 => ?_) (kf := fun q8 => ?_)
          · replace hf := ite_t q8 hf
            refine bRd_readOver_80 (k := ?_)
            exact ih (u_Rd_take w4 a2 (59 : Int32)) (x3 + 1) (x4 + 1) hf
          · replace hf := ite_f q8 hf
            obtain ⟨rfl, rfl⟩ := ret_e hf
            exact bRd_readOver_78 
        · replace hf := ite_t q6 hf
          refine bRd_readOver_60 (k := ?_)
          obtain ⟨w12, e12, hf⟩ := bV_e hf
          refine bRd_readOver_86 (y1 := 23) (h2 := ct_k c1) (ct := c_Ct_become (d := d + 4) w4 a1 23 c1 ct23 e12) (k := ?_)
          obtain ⟨rfl, rfl⟩ := ret_e hf
          exact bRd_readOver_94 
      · replace hf := ite_f q5 hf
        obtain ⟨rfl, rfl⟩ := ret_e hf
        exact bRd_readOver_44 
def f_Rd_readOver (w : MW) (a1 : Nat) (a2 : Nat) : Option RT := bV (f_Ct_become w 23 a1) (fun w1 => f_Rd_readOver_23 a1 a2 FU (setI (setI w1 52 1 0) 52 3 (-1)) (0 : Int32) (0 : Int32))
set_option maxHeartbeats 4000000 in
theorem c_Rd_readOver {d : Nat} {r : Option Value} {w' : MW} (w : MW) (a1 : Nat) (a2 : Nat) (c1 : isCt a1) (c2 : isSh a2) (hf : f_Rd_readOver w a1 a2 = some (r, w')) : Ct (d + 6) mRd_readOver [.ref 52, .ref a1, .ref a2] w r w' := by
  refine eRd_readOver ?_
  unfold f_Rd_readOver at hf
  obtain ⟨w1, e1, hf⟩ := bV_e hf
  refine bRd_readOver_0 (y1 := 23) (ct := c_Ct_become (d := d + 4) w 23 a1 ct23 c1 e1) (k := ?_)
  refine bRd_readOver_8 (k := ?_)
  exact r_Rd_readOver_23 a1 a2 c1 c2 FU (setI (setI w1 52 1 0) 52 3 (-1)) (0 : Int32) (0 : Int32) hf
-- X_knownBehind
def f_X_knownBehind (w : MW) (x1 : Int32) (x2 : Int32) : Option RT := bV (f_Co_begin w 1) (fun w1 => bV (f_Co_ride w1 x2) (fun w2 => grd (vpb x1 8 = true) (some (some (.int (w2.1 54 x1.toNatClampNeg)), w2))))
set_option maxHeartbeats 4000000 in
theorem c_X_knownBehind {d : Nat} {r : Option Value} {w' : MW} (w : MW) (x1 : Int32) (x2 : Int32) (hf : f_X_knownBehind w x1 x2 = some (r, w')) : Ct (d + 5) mX_knownBehind [.ref 0, .int x1, .int x2] w r w' := by
  refine eX_knownBehind ?_
  unfold f_X_knownBehind at hf
  obtain ⟨w1, e1, hf⟩ := bV_e hf
  refine bX_knownBehind_0 (y1 := 53) (y2 := 1) (ct := c_Co_begin (d := d) w 1 ct1 e1) (k := ?_)
  obtain ⟨w2, e2, hf⟩ := bV_e hf
  refine bX_knownBehind_11 (y1 := 53) (ct := c_Co_ride (d := d + 3) w1 x2 e2) (k := ?_)
  obtain ⟨g3_0, hf⟩ := grd_e hf
  obtain ⟨rfl, rfl⟩ := ret_e hf
  exact bX_knownBehind_19 (y1 := 53) (y2 := 54) (h4 := (vpb_ok g3_0))
-- X_known
def f_X_known (w : MW) (x1 : Int32) (x2 : Int32) : Option RT := if (v_Ct_isMan w 1 x1) = 0 then (some (some (.int (v_X_refuse w (-1 : Int32))), u_X_refuse w (-1 : Int32))) else (if (v_X_isRounds w x2) = 0 then (some (some (.int (v_X_refuse w (-6 : Int32))), u_X_refuse w (-6 : Int32))) else (bI (f_X_knownBehind w x1 x2) (fun v5 w5 => bI (f_JI_bitCount w5 v5) (fun v6 w6 => some (some (.int v6), w6)))))
set_option maxHeartbeats 4000000 in
theorem c_X_known {d : Nat} {r : Option Value} {w' : MW} (w : MW) (x1 : Int32) (x2 : Int32) (hf : f_X_known w x1 x2 = some (r, w')) : Ct (d + 6) mX_known [.ref 0, .int x1, .int x2] w r w' := by
  refine eX_known ?_
  unfold f_X_known at hf
  refine bX_known_0 (y1 := 1) (ct := c_Ct_isMan (d := d + 5) w 1 x1 ct1) (k := ?_)
  refine bX_known_8 (kt := fun q2 => ?_) (kf := fun q2 => ?_)
  · replace hf := ite_f q2 hf
    refine bX_known_17 (ct := c_X_isRounds (d := d + 5) w x2) (k := ?_)
    refine bX_known_21 (kt := fun q4 => ?_) (kf := fun q4 => ?_)
    · replace hf := ite_f q4 hf
      obtain ⟨v5, w5, e5, hf⟩ := bI_e hf
      refine bX_known_31 (ct := c_X_knownBehind (d := d) w x1 x2 e5) (k := ?_)
      obtain ⟨v6, w6, e6, hf⟩ := bI_e hf
      refine bX_known_37 (ct := c_JI_bitCount (d := d + 5) w5 v5 e6) (k := ?_)
      obtain ⟨rfl, rfl⟩ := ret_e hf
      exact bX_known_40 
    · replace hf := ite_t q4 hf
      refine bX_known_24 (ct := c_X_refuse (d := d + 5) w (-6 : Int32)) (k := ?_)
      obtain ⟨rfl, rfl⟩ := ret_e hf
      exact bX_known_30 
  · replace hf := ite_t q2 hf
    refine bX_known_11 (ct := c_X_refuse (d := d + 5) w (-1 : Int32)) (k := ?_)
    obtain ⟨rfl, rfl⟩ := ret_e hf
    exact bX_known_16 
-- Cl_placesHeardBy
def f_Cl_placesHeardBy (w : MW) (a1 : Nat) (x2 : Int32) : Option RT := bV (f_Cl_listen w a1) (fun w1 => bI (f_Cl_heardByAny w1 x2) (fun v2 w2 => some (some (.int v2), w2)))
set_option maxHeartbeats 4000000 in
theorem c_Cl_placesHeardBy {d : Nat} {r : Option Value} {w' : MW} (w : MW) (a1 : Nat) (x2 : Int32) (c1 : isCt a1) (hf : f_Cl_placesHeardBy w a1 x2 = some (r, w')) : Ct (d + 5) mCl_placesHeardBy [.ref 57, .ref a1, .int x2] w r w' := by
  refine eCl_placesHeardBy ?_
  unfold f_Cl_placesHeardBy at hf
  obtain ⟨w1, e1, hf⟩ := bV_e hf
  refine bCl_placesHeardBy_0 (ct := c_Cl_listen (d := d) w a1 c1 e1) (k := ?_)
  obtain ⟨v2, w2, e2, hf⟩ := bI_e hf
  refine bCl_placesHeardBy_5 (ct := c_Cl_heardByAny (d := d + 4) w1 x2 e2) (k := ?_)
  obtain ⟨rfl, rfl⟩ := ret_e hf
  exact bCl_placesHeardBy_10 
-- X_cover
def f_X_cover (w : MW) : Option RT := bI (f_Cl_fewestWhoCover w 1) (fun v1 w1 => some (some (.int v1), w1))
set_option maxHeartbeats 4000000 in
theorem c_X_cover {d : Nat} {r : Option Value} {w' : MW} (w : MW) (hf : f_X_cover w = some (r, w')) : Ct (d + 6) mX_cover [.ref 0] w r w' := by
  refine eX_cover ?_
  unfold f_X_cover at hf
  obtain ⟨v1, w1, e1, hf⟩ := bI_e hf
  refine bX_cover_0 (y1 := 57) (y2 := 1) (ct := c_Cl_fewestWhoCover (d := d) w 1 ct1 e1) (k := ?_)
  obtain ⟨rfl, rfl⟩ := ret_e hf
  exact bX_cover_11 
-- Cl_nextToAsk
def f_Cl_nextToAsk_16 (a1 : Nat) : Nat → MW → Int32 → Int32 → Int32 → Int32 → Int32 → Option RT
  | 0, _, _, _, _, _, _ => none
  | n + 1, w, x2, x3, x4, x5, x6 => if (w.1 a1 1) ≤ x6 then (some (some (.int x4), w)) else (if ((ush x2 x6) &&& 1) = 1 then (f_Cl_nextToAsk_16 a1 n w x2 x3 x4 x5 (x6 + 1)) else (grd (vpb x6 8 = true) (bI (f_JI_bitCount w ((w.1 59 x6.toNatClampNeg) &&& (x3 ^^^ (-1)))) (fun v4 w4 => if v4 ≤ x5 then (f_Cl_nextToAsk_16 a1 n w4 x2 x3 x4 x5 (x6 + 1)) else (f_Cl_nextToAsk_16 a1 n w4 x2 x3 x6 v4 (x6 + 1))))))
set_option maxHeartbeats 4000000 in
theorem r_Cl_nextToAsk_16 {d : Nat} {r : Option Value} {w' : MW} (a1 : Nat) (c1 : isCt a1) : ∀ (n : Nat) (w : MW) (x2 : Int32) (x3 : Int32) (x4 : Int32) (x5 : Int32) (x6 : Int32), f_Cl_nextToAsk_16 a1 n w x2 x3 x4 x5 x6 = some (r, w') → Rn (d + 6) mCl_nextToAsk 16 [some (.ref 57), some (.ref a1), some (.int x2), some (.int x3), some (.int x4), some (.int x5), some (.int x6), none] [] w r w' := by
  intro n
  induction n with
  | zero =>
    intro w x2 x3 x4 x5 x6 hf
    cases hf
  | succ n ih =>
    intro w x2 x3 x4 x5 x6 hf
    rw [f_Cl_nextToAsk_16] at hf
    refine bCl_nextToAsk_16 (h1 := ct_g1 c1) (kt := fun q1 => ?_) (kf := fun q1 => ?_)
    · replace hf := ite_t q1 hf
      obtain ⟨rfl, rfl⟩ := ret_e hf
      exact bCl_nextToAsk_75 
    · replace hf := ite_f q1 hf
      refine bCl_nextToAsk_25 (kt := fun q3 => ?_) (kf := fun q3 => ?_)
      · replace hf := ite_f q3 hf
        obtain ⟨g4_0, hf⟩ := grd_e hf
        obtain ⟨v4, w4, e4, hf⟩ := bI_e hf
        refine bCl_nextToAsk_38 (y1 := 59) (h3 := (vpb_ok g4_0)) (ct := c_JI_bitCount (d := d + 5) w ((w.1 59 x6.toNatClampNeg) &&& (x3 ^^^ (-1))) e4) (k := ?_)
        refine bCl_nextToAsk_52 (kt := fun q5 => ?_) (kf := fun q5 => ?_)
        · replace hf := ite_t q5 hf
          refine bCl_nextToAsk_69 (k := ?_)
          exact ih w4 x2 x3 x4 x5 (x6 + 1) hf
        · replace hf := ite_f q5 hf
          refine bCl_nextToAsk_61 (k := ?_)
          refine bCl_nextToAsk_69 (k := ?_)
          exact ih w4 x2 x3 x6 v4 (x6 + 1) hf
      · replace hf := ite_t q3 hf
        refine bCl_nextToAsk_35 (k := ?_)
        refine bCl_nextToAsk_69 (k := ?_)
        exact ih w x2 x3 x4 x5 (x6 + 1) hf
def f_Cl_nextToAsk (w : MW) (a1 : Nat) (x2 : Int32) : Option RT := bI (f_Cl_placesHeardBy w a1 x2) (fun v1 w1 => f_Cl_nextToAsk_16 a1 FU w1 x2 v1 (-1 : Int32) (0 : Int32) (0 : Int32))
set_option maxHeartbeats 4000000 in
theorem c_Cl_nextToAsk {d : Nat} {r : Option Value} {w' : MW} (w : MW) (a1 : Nat) (x2 : Int32) (c1 : isCt a1) (hf : f_Cl_nextToAsk w a1 x2 = some (r, w')) : Ct (d + 6) mCl_nextToAsk [.ref 57, .ref a1, .int x2] w r w' := by
  refine eCl_nextToAsk ?_
  unfold f_Cl_nextToAsk at hf
  obtain ⟨v1, w1, e1, hf⟩ := bI_e hf
  refine bCl_nextToAsk_0 (ct := c_Cl_placesHeardBy (d := d) w a1 x2 c1 e1) (k := ?_)
  refine bCl_nextToAsk_6 (k := ?_)
  exact r_Cl_nextToAsk_16 a1 c1 FU w1 x2 v1 (-1 : Int32) (0 : Int32) (0 : Int32) hf
-- X_apart
def f_X_apart (w : MW) (x1 : Int32) : Option RT := if (v_Ct_isMan w 1 x1) = 0 then (some (some (.int (v_X_refuseFar w (-1 : Int32))), u_X_refuseFar w (-1 : Int32))) else (bI (f_Co_fewestApart w 1 x1) (fun v3 w3 => some (some (.int v3), w3)))
set_option maxHeartbeats 4000000 in
theorem c_X_apart {d : Nat} {r : Option Value} {w' : MW} (w : MW) (x1 : Int32) (hf : f_X_apart w x1 = some (r, w')) : Ct (d + 6) mX_apart [.ref 0, .int x1] w r w' := by
  refine eX_apart ?_
  unfold f_X_apart at hf
  refine bX_apart_0 (y1 := 1) (ct := c_Ct_isMan (d := d + 5) w 1 x1 ct1) (k := ?_)
  refine bX_apart_8 (kt := fun q2 => ?_) (kf := fun q2 => ?_)
  · replace hf := ite_f q2 hf
    obtain ⟨v3, w3, e3, hf⟩ := bI_e hf
    refine bX_apart_17 (y1 := 53) (y2 := 1) (ct := c_Co_fewestApart (d := d) w 1 x1 ct1 e3) (k := ?_)
    obtain ⟨rfl, rfl⟩ := ret_e hf
    exact bX_apart_29 
  · replace hf := ite_t q2 hf
    refine bX_apart_11 (ct := c_X_refuseFar (d := d + 4) w (-1 : Int32)) (k := ?_)
    obtain ⟨rfl, rfl⟩ := ret_e hf
    exact bX_apart_16 
-- X_lose
def f_X_lose (w : MW) : Option RT := bI (f_Co_worstLoss w 1) (fun v1 w1 => some (some (.int v1), w1))
set_option maxHeartbeats 4000000 in
theorem c_X_lose {d : Nat} {r : Option Value} {w' : MW} (w : MW) (hf : f_X_lose w = some (r, w')) : Ct (d + 6) mX_lose [.ref 0] w r w' := by
  refine eX_lose ?_
  unfold f_X_lose at hf
  obtain ⟨v1, w1, e1, hf⟩ := bI_e hf
  refine bX_lose_0 (y1 := 53) (y2 := 1) (ct := c_Co_worstLoss (d := d) w 1 ct1 e1) (k := ?_)
  obtain ⟨rfl, rfl⟩ := ret_e hf
  exact bX_lose_11 
-- X_count
def f_X_count (w : MW) (x1 : Int32) (x2 : Int32) : Option RT := if (v_X_rowRefusal w x1) = 0 then (if x2 = 0 then (grd (vpb x1 8 = true) (bI (f_Cl_slips w 1 (35 + 2 * x1.toNatClampNeg)) (fun v9 w9 => some (some (.int v9), w9)))) else (if x2 = 1 then (grd (vpb x1 8 = true) (bI (f_Cl_firstSlip w 1 (35 + 2 * x1.toNatClampNeg)) (fun v7 w7 => some (some (.int v7), w7)))) else (some (some (.int (v_X_refuseFar w (-5 : Int32))), u_X_refuseFar w (-5 : Int32))))) else (some (some (.int (v_X_refuseFar w (v_X_rowRefusal w x1))), u_X_refuseFar w (v_X_rowRefusal w x1)))
set_option maxHeartbeats 4000000 in
theorem c_X_count {d : Nat} {r : Option Value} {w' : MW} (w : MW) (x1 : Int32) (x2 : Int32) (hf : f_X_count w x1 x2 = some (r, w')) : Ct (d + 4) mX_count [.ref 0, .int x1, .int x2] w r w' := by
  refine eX_count ?_
  unfold f_X_count at hf
  refine bX_count_0 (ct := c_X_rowRefusal (d := d + 2) w x1) (k := ?_)
  refine bX_count_5 (kt := fun q2 => ?_) (kf := fun q2 => ?_)
  · replace hf := ite_t q2 hf
    refine bX_count_16 (kt := fun q3 => ?_) (kf := fun q3 => ?_)
    · replace hf := ite_f q3 hf
      refine bX_count_38 (kt := fun q4 => ?_) (kf := fun q4 => ?_)
      · replace hf := ite_f q4 hf
        refine bX_count_61 (ct := c_X_refuseFar (d := d + 2) w (-5 : Int32)) (k := ?_)
        obtain ⟨rfl, rfl⟩ := ret_e hf
        exact bX_count_67 
      · replace hf := ite_t q4 hf
        obtain ⟨g7_0, hf⟩ := grd_e hf
        obtain ⟨v7, w7, e7, hf⟩ := bI_e hf
        refine bX_count_43 (y1 := 57) (y2 := 1) (y3 := 34) (y4 := 35 + 2 * x1.toNatClampNeg) (h5 := (vpb_ok g7_0)) (h6 := shr_sh (vpb_ok g7_0)) (ct := c_Cl_firstSlip (d := d) w 1 (35 + 2 * x1.toNatClampNeg) ct1 (sh_of (vpb_ok g7_0)) e7) (k := ?_)
        obtain ⟨rfl, rfl⟩ := ret_e hf
        exact bX_count_60 
    · replace hf := ite_t q3 hf
      obtain ⟨g9_0, hf⟩ := grd_e hf
      obtain ⟨v9, w9, e9, hf⟩ := bI_e hf
      refine bX_count_20 (y1 := 57) (y2 := 1) (y3 := 34) (y4 := 35 + 2 * x1.toNatClampNeg) (h5 := (vpb_ok g9_0)) (h6 := shr_sh (vpb_ok g9_0)) (ct := c_Cl_slips (d := d) w 1 (35 + 2 * x1.toNatClampNeg) ct1 (sh_of (vpb_ok g9_0)) e9) (k := ?_)
      obtain ⟨rfl, rfl⟩ := ret_e hf
      exact bX_count_37 
  · replace hf := ite_f q2 hf
    refine bX_count_10 (ct := c_X_refuseFar (d := d + 2) w (v_X_rowRefusal w x1)) (k := ?_)
    obtain ⟨rfl, rfl⟩ := ret_e hf
    exact bX_count_15 
-- X_could
def f_X_could (w : MW) (x1 : Int32) : Option RT := if (v_X_rowRefusal w x1) = 0 then (grd (vpb x1 8 = true) (bI (f_Cl_whoHearJust w 1 (35 + 2 * x1.toNatClampNeg)) (fun v3 w3 => some (some (.int v3), w3)))) else (some (some (.int (v_X_refuse w (v_X_rowRefusal w x1))), u_X_refuse w (v_X_rowRefusal w x1)))
set_option maxHeartbeats 4000000 in
theorem c_X_could {d : Nat} {r : Option Value} {w' : MW} (w : MW) (x1 : Int32) (hf : f_X_could w x1 = some (r, w')) : Ct (d + 5) mX_could [.ref 0, .int x1] w r w' := by
  refine eX_could ?_
  unfold f_X_could at hf
  refine bX_could_0 (ct := c_X_rowRefusal (d := d + 3) w x1) (k := ?_)
  refine bX_could_5 (kt := fun q2 => ?_) (kf := fun q2 => ?_)
  · replace hf := ite_t q2 hf
    obtain ⟨g3_0, hf⟩ := grd_e hf
    obtain ⟨v3, w3, e3, hf⟩ := bI_e hf
    refine bX_could_16 (y1 := 57) (y2 := 1) (y3 := 34) (y4 := 35 + 2 * x1.toNatClampNeg) (h5 := (vpb_ok g3_0)) (h6 := shr_sh (vpb_ok g3_0)) (ct := c_Cl_whoHearJust (d := d) w 1 (35 + 2 * x1.toNatClampNeg) ct1 (sh_of (vpb_ok g3_0)) e3) (k := ?_)
    obtain ⟨rfl, rfl⟩ := ret_e hf
    exact bX_could_33 
  · replace hf := ite_f q2 hf
    refine bX_could_10 (ct := c_X_refuse (d := d + 4) w (v_X_rowRefusal w x1)) (k := ?_)
    obtain ⟨rfl, rfl⟩ := ret_e hf
    exact bX_could_15 
-- X_swap
def f_X_swap (w : MW) : Option RT := bI (f_Cl_bestSwap w 1) (fun v1 w1 => some (some (.int v1), w1))
set_option maxHeartbeats 4000000 in
theorem c_X_swap {d : Nat} {r : Option Value} {w' : MW} (w : MW) (hf : f_X_swap w = some (r, w')) : Ct (d + 6) mX_swap [.ref 0] w r w' := by
  refine eX_swap ?_
  unfold f_X_swap at hf
  obtain ⟨v1, w1, e1, hf⟩ := bI_e hf
  refine bX_swap_0 (y1 := 57) (y2 := 1) (ct := c_Cl_bestSwap (d := d) w 1 ct1 e1) (k := ?_)
  obtain ⟨rfl, rfl⟩ := ret_e hf
  exact bX_swap_11 
-- X_audience
def f_X_audience (w : MW) (x1 : Int32) : Option RT := if (v_X_isRounds w x1) = 0 then (some (some (.int (v_X_refuse w (-6 : Int32))), u_X_refuse w (-6 : Int32))) else (bI (f_X_hold w x1) (fun v3 w3 => some (some (.int v3), w3)))
set_option maxHeartbeats 4000000 in
theorem c_X_audience {d : Nat} {r : Option Value} {w' : MW} (w : MW) (x1 : Int32) (hf : f_X_audience w x1 = some (r, w')) : Ct (d + 6) mX_audience [.ref 0, .int x1] w r w' := by
  refine eX_audience ?_
  unfold f_X_audience at hf
  refine bX_audience_0 (ct := c_X_isRounds (d := d + 5) w x1) (k := ?_)
  refine bX_audience_4 (kt := fun q2 => ?_) (kf := fun q2 => ?_)
  · replace hf := ite_f q2 hf
    obtain ⟨v3, w3, e3, hf⟩ := bI_e hf
    refine bX_audience_14 (ct := c_X_hold (d := d) w x1 e3) (k := ?_)
    obtain ⟨rfl, rfl⟩ := ret_e hf
    exact bX_audience_19 
  · replace hf := ite_t q2 hf
    refine bX_audience_7 (ct := c_X_refuse (d := d + 5) w (-6 : Int32)) (k := ?_)
    obtain ⟨rfl, rfl⟩ := ret_e hf
    exact bX_audience_13 
-- X_act
def f_X_act (w : MW) (x1 : Int32) (x2 : Int32) (x3 : Int32) : Option RT := if (v_Ct_isMan (u_Mv_forget w ) 1 x1) = 0 then (some (some (.int (0 : Int32)), u_Mv_forget w )) else (if x2 < 0 then (some (some (.int (0 : Int32)), u_Mv_forget w )) else (if x2 < 3 then (grd (vpb x1 8 = true) (bI (f_Mv_play (u_Mv_forget w ) (1 + 2 + x1.toNatClampNeg) x1 x2 x3) (fun v8 w8 => some (some (.int v8), w8)))) else (some (some (.int (0 : Int32)), u_Mv_forget w ))))
set_option maxHeartbeats 4000000 in
theorem c_X_act {d : Nat} {r : Option Value} {w' : MW} (w : MW) (x1 : Int32) (x2 : Int32) (x3 : Int32) (hf : f_X_act w x1 x2 x3 = some (r, w')) : Ct (d + 64) mX_act [.ref 0, .int x1, .int x2, .int x3] w r w' := by
  refine eX_act ?_
  unfold f_X_act at hf
  refine bX_act_0 (y1 := 60) (ct := c_Mv_forget (d := d + 63) w ) (k := ?_)
  refine bX_act_7 (y1 := 1) (ct := c_Ct_isMan (d := d + 63) (u_Mv_forget w ) 1 x1 ct1) (k := ?_)
  refine bX_act_15 (kt := fun q3 => ?_) (kf := fun q3 => ?_)
  · replace hf := ite_t q3 hf
    obtain ⟨rfl, rfl⟩ := ret_e hf
    exact bX_act_27 
  · replace hf := ite_f q3 hf
    refine bX_act_18 (kt := fun q5 => ?_) (kf := fun q5 => ?_)
    · replace hf := ite_t q5 hf
      obtain ⟨rfl, rfl⟩ := ret_e hf
      exact bX_act_27 
    · replace hf := ite_f q5 hf
      refine bX_act_22 (kt := fun q7 => ?_) (kf := fun q7 => ?_)
      · replace hf := ite_t q7 hf
        obtain ⟨g8_0, hf⟩ := grd_e hf
        obtain ⟨v8, w8, e8, hf⟩ := bI_e hf
        refine bX_act_29 (y1 := 60) (y2 := 1) (y3 := 2) (y4 := 1 + 2 + x1.toNatClampNeg) (h4 := ct_k12 ct1) (h5 := ct_l8 ct1 (vpb_ok g8_0)) (h6 := ct_mn ct1 (vpb_ok g8_0)) (ct := c_Mv_play (d := d) (u_Mv_forget w ) (1 + 2 + x1.toNatClampNeg) x1 x2 x3 (mn_of ct1 (vpb_ok g8_0)) e8) (k := ?_)
        obtain ⟨rfl, rfl⟩ := ret_e hf
        exact bX_act_48 
      · replace hf := ite_f q7 hf
        obtain ⟨rfl, rfl⟩ := ret_e hf
        exact bX_act_27 
-- M_court
def f_M_court_39 : Nat → MW → Int32 → Int32 → Int32 → Option RT
  | 0, _, _, _, _ => none
  | n + 1, w, x1, x3, x4 => if x4 = 0 then (bV (f_M_again (setI w 62 13 (w.1 62 24)) 76) (fun w2 => some (some (.int (v_M_no w2 (-6 : Int32))), u_M_no w2 (-6 : Int32)))) else (bI (f_M_item w ) (fun v5 w5 => if v5 = 0 then (if v5 = 0 then (if v5 = 0 then (f_M_court_39 n w5 x1 x3 v5) else (grd (vpb (w5.1 62 23) 8 = true) (grd (¬ (w5.1 64 (w5.1 62 23).toNatClampNeg) ≤ (w5.1 62 24) → vpb ((160 * (w5.1 62 23)) + (w5.1 62 24)) 1280 = true) (f_M_court_39 n (u_M_is w5 (59 : Int32)) x1 x3 (v_M_is w5 (59 : Int32)))))) else (grd (vpb x1 8 = true) (if (w5.1 62 24) = (w5.1 64 x1.toNatClampNeg) then (some (some (.int x3), setI w5 62 13 (-1))) else (if v5 = 0 then (f_M_court_39 n w5 x1 x3 v5) else (grd (vpb (w5.1 62 23) 8 = true) (grd (¬ (w5.1 64 (w5.1 62 23).toNatClampNeg) ≤ (w5.1 62 24) → vpb ((160 * (w5.1 62 23)) + (w5.1 62 24)) 1280 = true) (f_M_court_39 n (u_M_is w5 (59 : Int32)) x1 x3 (v_M_is w5 (59 : Int32))))))))) else (if v5 = 0 then (if v5 = 0 then (f_M_court_39 n w5 x1 (x3 + 1) v5) else (grd (vpb (w5.1 62 23) 8 = true) (grd (¬ (w5.1 64 (w5.1 62 23).toNatClampNeg) ≤ (w5.1 62 24) → vpb ((160 * (w5.1 62 23)) + (w5.1 62 24)) 1280 = true) (f_M_court_39 n (u_M_is w5 (59 : Int32)) x1 (x3 + 1) (v_M_is w5 (59 : Int32)))))) else (grd (vpb x1 8 = true) (if (w5.1 62 24) = (w5.1 64 x1.toNatClampNeg) then (some (some (.int (x3 + 1)), setI w5 62 13 (-1))) else (if v5 = 0 then (f_M_court_39 n w5 x1 (x3 + 1) v5) else (grd (vpb (w5.1 62 23) 8 = true) (grd (¬ (w5.1 64 (w5.1 62 23).toNatClampNeg) ≤ (w5.1 62 24) → vpb ((160 * (w5.1 62 23)) + (w5.1 62 24)) 1280 = true) (f_M_court_39 n (u_M_is w5 (59 : Int32)) x1 (x3 + 1) (v_M_is w5 (59 : Int32)))))))))))
set_option maxHeartbeats 4000000 in
theorem r_M_court_39 {d : Nat} {r : Option Value} {w' : MW} : ∀ (n : Nat) (w : MW) (x1 : Int32) (x3 : Int32) (x4 : Int32), f_M_court_39 n w x1 x3 x4 = some (r, w') → Rn (d + 7) mM_court 39 [some (.ref 62), some (.int x1), none, some (.int x3), some (.int x4)] [] w r w' := by
  intro n
  induction n with
  | zero =>
    intro w x1 x3 x4 hf
    cases hf
  | succ n ih =>
    intro w x1 x3 x4 hf
    rw [f_M_court_39] at hf
    refine bM_court_39 (kt := fun q1 => ?_) (kf := fun q1 => ?_)
    · replace hf := ite_t q1 hf
      obtain ⟨w2, e2, hf⟩ := bV_e hf
      refine bM_court_99 (y1 := 76) (ct := c_M_again (d := d + 6) (setI w 62 13 (w.1 62 24)) 76 ⟨rfl, rfl⟩ e2) (k := ?_)
      refine bM_court_115 (ct := c_M_no (d := d + 6) w2 (-6 : Int32) (vpd (i := (-(-6 : Int32))) (n := 8) (by decide))) (k := ?_)
      obtain ⟨rfl, rfl⟩ := ret_e hf
      exact bM_court_121 
    · replace hf := ite_f q1 hf
      obtain ⟨v5, w5, e5, hf⟩ := bI_e hf
      refine bM_court_44 (ct := c_M_item (d := d) w e5) (k := ?_)
      refine bM_court_48 (kt := fun q6 => ?_) (kf := fun q6 => ?_)
      · replace hf := ite_t q6 hf
        refine bM_court_58 (kt := fun q7 => ?_) (kf := fun q7 => ?_)
        · replace hf := ite_t q7 hf
          refine bM_court_83 (kt := fun q8 => ?_) (kf := fun q8 => ?_)
          · replace hf := ite_t q8 hf
            exact ih w5 x1 x3 v5 hf
          · replace hf := ite_f q8 hf
            obtain ⟨g9_0, hf⟩ := grd_e hf
            obtain ⟨g9_1, hf⟩ := grd_e hf
            refine bM_court_88 (ct := c_M_is (d := d + 5) w5 (59 : Int32) (vpb_ok g9_0) (fun z0 => vpb_ok (g9_1 z0))) (k := ?_)
            refine bM_court_94 (k := ?_)
            exact ih (u_M_is w5 (59 : Int32)) x1 x3 (v_M_is w5 (59 : Int32)) hf
        · replace hf := ite_f q7 hf
          obtain ⟨g11_0, hf⟩ := grd_e hf
          refine bM_court_63 (y1 := 64) (h4 := (vpb_ok g11_0)) (kt := fun q11 => ?_) (kf := fun q11 => ?_)
          · replace hf := ite_f q11 hf
            refine bM_court_83 (kt := fun q12 => ?_) (kf := fun q12 => ?_)
            · replace hf := ite_t q12 hf
              exact ih w5 x1 x3 v5 hf
            · replace hf := ite_f q12 hf
              obtain ⟨g13_0, hf⟩ := grd_e hf
              obtain ⟨g13_1, hf⟩ := grd_e hf
              refine bM_court_88 (ct := c_M_is (d := d + 5) w5 (59 : Int32) (vpb_ok g13_0) (fun z0 => vpb_ok (g13_1 z0))) (k := ?_)
              refine bM_court_94 (k := ?_)
              exact ih (u_M_is w5 (59 : Int32)) x1 x3 (v_M_is w5 (59 : Int32)) hf
          · replace hf := ite_t q11 hf
            obtain ⟨rfl, rfl⟩ := ret_e hf
            exact bM_court_76 
      · replace hf := ite_f q6 hf
        refine bM_court_55 (k := ?_)
        refine bM_court_58 (kt := fun q17 => ?_) (kf := fun q17 => ?_)
        · replace hf := ite_t q17 hf
          refine bM_court_83 (kt := fun q18 => ?_) (kf := fun q18 => ?_)
          · replace hf := ite_t q18 hf
            exact ih w5 x1 (x3 + 1) v5 hf
          · replace hf := ite_f q18 hf
            obtain ⟨g19_0, hf⟩ := grd_e hf
            obtain ⟨g19_1, hf⟩ := grd_e hf
            refine bM_court_88 (ct := c_M_is (d := d + 5) w5 (59 : Int32) (vpb_ok g19_0) (fun z0 => vpb_ok (g19_1 z0))) (k := ?_)
            refine bM_court_94 (k := ?_)
            exact ih (u_M_is w5 (59 : Int32)) x1 (x3 + 1) (v_M_is w5 (59 : Int32)) hf
        · replace hf := ite_f q17 hf
          obtain ⟨g21_0, hf⟩ := grd_e hf
          refine bM_court_63 (y1 := 64) (h4 := (vpb_ok g21_0)) (kt := fun q21 => ?_) (kf := fun q21 => ?_)
          · replace hf := ite_f q21 hf
            refine bM_court_83 (kt := fun q22 => ?_) (kf := fun q22 => ?_)
            · replace hf := ite_t q22 hf
              exact ih w5 x1 (x3 + 1) v5 hf
            · replace hf := ite_f q22 hf
              obtain ⟨g23_0, hf⟩ := grd_e hf
              obtain ⟨g23_1, hf⟩ := grd_e hf
              refine bM_court_88 (ct := c_M_is (d := d + 5) w5 (59 : Int32) (vpb_ok g23_0) (fun z0 => vpb_ok (g23_1 z0))) (k := ?_)
              refine bM_court_94 (k := ?_)
              exact ih (u_M_is w5 (59 : Int32)) x1 (x3 + 1) (v_M_is w5 (59 : Int32)) hf
          · replace hf := ite_t q21 hf
            obtain ⟨rfl, rfl⟩ := ret_e hf
            exact bM_court_76 
def f_M_court (w : MW) (x1 : Int32) : Option RT := if 0 ≤ (v_M_noRow w x1) then (bV (f_M_keep w 76) (fun w3 => f_M_court_39 FU (setI (setI w3 62 23 x1) 62 24 0) x1 (0 : Int32) (1 : Int32))) else (some (some (.int (v_M_no w (v_M_noRow w x1))), u_M_no w (v_M_noRow w x1)))
set_option maxHeartbeats 4000000 in
theorem c_M_court {d : Nat} {r : Option Value} {w' : MW} (w : MW) (x1 : Int32) (hf : f_M_court w x1 = some (r, w')) : Ct (d + 7) mM_court [.ref 62, .int x1] w r w' := by
  refine eM_court ?_
  unfold f_M_court at hf
  refine bM_court_0 (ct := c_M_noRow (d := d + 5) w x1) (k := ?_)
  refine bM_court_5 (kt := fun q2 => ?_) (kf := fun q2 => ?_)
  · replace hf := ite_t q2 hf
    obtain ⟨w3, e3, hf⟩ := bV_e hf
    refine bM_court_16 (y1 := 76) (ct := c_M_keep (d := d + 6) w 76 ⟨rfl, rfl⟩ e3) (k := ?_)
    refine bM_court_24 (k := ?_)
    exact r_M_court_39 FU (setI (setI w3 62 23 x1) 62 24 0) x1 (0 : Int32) (1 : Int32) hf
  · replace hf := ite_f q2 hf
    refine bM_court_10 (ct := c_M_no (d := d + 6) w (v_M_noRow w x1) (no8_M_noRow _ _)) (k := ?_)
    obtain ⟨rfl, rfl⟩ := ret_e hf
    exact bM_court_15 
-- X_says
def f_X_says (w : MW) (x1 : Int32) (x2 : Int32) : Option RT := if (v_X_isShelf w x1) = 0 then (some (some (.int (v_X_refuse w (-1 : Int32))), u_X_refuse w (-1 : Int32))) else (if (v_X_isKind w x2) = 0 then (some (some (.int (v_X_refuse w (-1 : Int32))), u_X_refuse w (-1 : Int32))) else (grd (vpb x1 8 = true) (if (v_Sh_isRow w (35 + 2 * x1.toNatClampNeg)) = 0 then (if (v_Sh_isMan w (35 + 2 * x1.toNatClampNeg)) = 0 then (some (some (.int (v_X_refuse w (-3 : Int32))), u_X_refuse w (-3 : Int32))) else (if (v_Ct_isMan w 1 (w.1 (35 + 2 * x1.toNatClampNeg) 0)) = 0 then (some (some (.int (v_X_refuse w (-3 : Int32))), u_X_refuse w (-3 : Int32))) else (grd (vpb (w.1 (35 + 2 * x1.toNatClampNeg) 0) 8 = true) (bI (f_X_isUnder w (w.1 (1 + 2 + (w.1 (35 + 2 * x1.toNatClampNeg) 0).toNatClampNeg) 0) x2) (fun v15 w15 => if v15 = 0 then (some (some (.int (v_X_refuse w15 (-2 : Int32))), u_X_refuse w15 (-2 : Int32))) else (bI (f_Mn_saysAs w15 (1 + 2 + (w.1 (35 + 2 * x1.toNatClampNeg) 0).toNatClampNeg) x2 (w15.1 1 3)) (fun v17 w17 => some (some (.int v17), w17)))))))) else (some (some (.int (v_X_refuse w (-2 : Int32))), u_X_refuse w (-2 : Int32))))))
set_option maxHeartbeats 4000000 in
theorem c_X_says {d : Nat} {r : Option Value} {w' : MW} (w : MW) (x1 : Int32) (x2 : Int32) (hf : f_X_says w x1 x2 = some (r, w')) : Ct (d + 4) mX_says [.ref 0, .int x1, .int x2] w r w' := by
  refine eX_says ?_
  unfold f_X_says at hf
  refine bX_says_0 (ct := c_X_isShelf (d := d + 3) w x1) (k := ?_)
  refine bX_says_4 (kt := fun q2 => ?_) (kf := fun q2 => ?_)
  · replace hf := ite_t q2 hf
    refine bX_says_14 (ct := c_X_refuse (d := d + 3) w (-1 : Int32)) (k := ?_)
    obtain ⟨rfl, rfl⟩ := ret_e hf
    exact bX_says_19 
  · replace hf := ite_f q2 hf
    refine bX_says_7 (ct := c_X_isKind (d := d + 3) w x2) (k := ?_)
    refine bX_says_11 (kt := fun q6 => ?_) (kf := fun q6 => ?_)
    · replace hf := ite_f q6 hf
      obtain ⟨g7_0, hf⟩ := grd_e hf
      refine bX_says_20 (y1 := 34) (y2 := 35 + 2 * x1.toNatClampNeg) (h3 := (vpb_ok g7_0)) (h4 := shr_sh (vpb_ok g7_0)) (h5 := sh_k (sh_of (vpb_ok g7_0))) (ct := c_Sh_isRow (d := d + 3) w (35 + 2 * x1.toNatClampNeg) (sh_of (vpb_ok g7_0))) (k := ?_)
      refine bX_says_31 (kt := fun q8 => ?_) (kf := fun q8 => ?_)
      · replace hf := ite_t q8 hf
        refine bX_says_41 (h1 := sh_k (sh_of (vpb_ok g7_0))) (ct := c_Sh_isMan (d := d + 3) w (35 + 2 * x1.toNatClampNeg) (sh_of (vpb_ok g7_0))) (k := ?_)
        refine bX_says_45 (kt := fun q10 => ?_) (kf := fun q10 => ?_)
        · replace hf := ite_t q10 hf
          refine bX_says_62 (ct := c_X_refuse (d := d + 3) w (-3 : Int32)) (k := ?_)
          obtain ⟨rfl, rfl⟩ := ret_e hf
          exact bX_says_68 
        · replace hf := ite_f q10 hf
          refine bX_says_48 (y1 := 1) (h2 := sh_g0 (sh_of (vpb_ok g7_0))) (ct := c_Ct_isMan (d := d + 3) w 1 (w.1 (35 + 2 * x1.toNatClampNeg) 0) ct1) (k := ?_)
          refine bX_says_59 (kt := fun q14 => ?_) (kf := fun q14 => ?_)
          · replace hf := ite_f q14 hf
            obtain ⟨g15_0, hf⟩ := grd_e hf
            obtain ⟨v15, w15, e15, hf⟩ := bI_e hf
            refine bX_says_69 (y1 := 1) (y2 := 2) (h3 := sh_g0 (sh_of (vpb_ok g7_0))) (y3 := 1 + 2 + (w.1 (35 + 2 * x1.toNatClampNeg) 0).toNatClampNeg) (h4 := ct_k12 ct1) (h5 := ct_l8 ct1 (vpb_ok g15_0)) (h6 := ct_mn ct1 (vpb_ok g15_0)) (h7 := mn_g (mn_of ct1 (vpb_ok g15_0)) 0 (by decide)) (ct := c_X_isUnder (d := d + 2) w (w.1 (1 + 2 + (w.1 (35 + 2 * x1.toNatClampNeg) 0).toNatClampNeg) 0) x2 e15) (k := ?_)
            refine bX_says_92 (kt := fun q16 => ?_) (kf := fun q16 => ?_)
            · replace hf := ite_f q16 hf
              obtain ⟨v17, w17, e17, hf⟩ := bI_e hf
              refine bX_says_102 (y1 := 1) (h3 := mn_k (mn_of ct1 (vpb_ok g15_0))) (ct := c_Mn_saysAs (d := d) w15 (1 + 2 + (w.1 (35 + 2 * x1.toNatClampNeg) 0).toNatClampNeg) x2 (w15.1 1 3) (mn_of ct1 (vpb_ok g15_0)) e17) (k := ?_)
              obtain ⟨rfl, rfl⟩ := ret_e hf
              exact bX_says_115 
            · replace hf := ite_t q16 hf
              refine bX_says_95 (ct := c_X_refuse (d := d + 3) w15 (-2 : Int32)) (k := ?_)
              obtain ⟨rfl, rfl⟩ := ret_e hf
              exact bX_says_101 
          · replace hf := ite_t q14 hf
            refine bX_says_62 (ct := c_X_refuse (d := d + 3) w (-3 : Int32)) (k := ?_)
            obtain ⟨rfl, rfl⟩ := ret_e hf
            exact bX_says_68 
      · replace hf := ite_f q8 hf
        refine bX_says_34 (ct := c_X_refuse (d := d + 3) w (-2 : Int32)) (k := ?_)
        obtain ⟨rfl, rfl⟩ := ret_e hf
        exact bX_says_40 
    · replace hf := ite_t q6 hf
      refine bX_says_14 (ct := c_X_refuse (d := d + 3) w (-1 : Int32)) (k := ?_)
      obtain ⟨rfl, rfl⟩ := ret_e hf
      exact bX_says_19 
-- X_court
def f_X_court (w : MW) (x1 : Int32) : Option RT := if (v_X_rowRefusal w x1) = 0 then (grd (vpb x1 8 = true) (bI (f_Rd_readOver w 1 (35 + 2 * x1.toNatClampNeg)) (fun v3 w3 => if ((setI w3 0 9 (w3.1 52 3)).1 0 9) = (-1) then (some (some (.int v3), setI w3 0 9 (w3.1 52 3))) else (some (some (.int (v_X_refuse (setI w3 0 9 (w3.1 52 3)) (-6 : Int32))), u_X_refuse (setI w3 0 9 (w3.1 52 3)) (-6 : Int32)))))) else (some (some (.int (v_X_refuse w (v_X_rowRefusal w x1))), u_X_refuse w (v_X_rowRefusal w x1)))
set_option maxHeartbeats 4000000 in
theorem c_X_court {d : Nat} {r : Option Value} {w' : MW} (w : MW) (x1 : Int32) (hf : f_X_court w x1 = some (r, w')) : Ct (d + 7) mX_court [.ref 0, .int x1] w r w' := by
  refine eX_court ?_
  unfold f_X_court at hf
  refine bX_court_0 (ct := c_X_rowRefusal (d := d + 5) w x1) (k := ?_)
  refine bX_court_5 (kt := fun q2 => ?_) (kf := fun q2 => ?_)
  · replace hf := ite_t q2 hf
    obtain ⟨g3_0, hf⟩ := grd_e hf
    obtain ⟨v3, w3, e3, hf⟩ := bI_e hf
    refine bX_court_16 (y1 := 52) (y2 := 1) (y3 := 34) (y4 := 35 + 2 * x1.toNatClampNeg) (h5 := (vpb_ok g3_0)) (h6 := shr_sh (vpb_ok g3_0)) (ct := c_Rd_readOver (d := d) w 1 (35 + 2 * x1.toNatClampNeg) ct1 (sh_of (vpb_ok g3_0)) e3) (k := ?_)
    refine bX_court_33 (y1 := 52) (kt := fun q4 => ?_) (kf := fun q4 => ?_)
    · replace hf := ite_f q4 hf
      refine bX_court_57 (ct := c_X_refuse (d := d + 6) (setI w3 0 9 (w3.1 52 3)) (-6 : Int32)) (k := ?_)
      obtain ⟨rfl, rfl⟩ := ret_e hf
      exact bX_court_63 
    · replace hf := ite_t q4 hf
      refine bX_court_53 (k := ?_)
      obtain ⟨rfl, rfl⟩ := ret_e hf
      exact bX_court_63 
  · replace hf := ite_f q2 hf
    refine bX_court_10 (ct := c_X_refuse (d := d + 6) w (v_X_rowRefusal w x1)) (k := ?_)
    obtain ⟨rfl, rfl⟩ := ret_e hf
    exact bX_court_15 
-- X_sense
def f_X_sense (w : MW) (x1 : Int32) (x2 : Int32) : Option RT := if (v_Ct_isMan w 1 x1) = 0 then (some (some (.int (v_X_refuseFar w (-1 : Int32))), u_X_refuseFar w (-1 : Int32))) else (if (v_X_isRounds w x2) = 0 then (some (some (.int (v_X_refuseFar w (-6 : Int32))), u_X_refuseFar w (-6 : Int32))) else (bI (f_X_knownBehind w x1 x2) (fun v5 w5 => bI (f_Ct_senseOf w5 1 v5) (fun v6 w6 => some (some (.int v6), w6)))))
set_option maxHeartbeats 4000000 in
theorem c_X_sense {d : Nat} {r : Option Value} {w' : MW} (w : MW) (x1 : Int32) (x2 : Int32) (hf : f_X_sense w x1 x2 = some (r, w')) : Ct (d + 6) mX_sense [.ref 0, .int x1, .int x2] w r w' := by
  refine eX_sense ?_
  unfold f_X_sense at hf
  refine bX_sense_0 (y1 := 1) (ct := c_Ct_isMan (d := d + 5) w 1 x1 ct1) (k := ?_)
  refine bX_sense_8 (kt := fun q2 => ?_) (kf := fun q2 => ?_)
  · replace hf := ite_f q2 hf
    refine bX_sense_17 (ct := c_X_isRounds (d := d + 5) w x2) (k := ?_)
    refine bX_sense_21 (kt := fun q4 => ?_) (kf := fun q4 => ?_)
    · replace hf := ite_f q4 hf
      obtain ⟨v5, w5, e5, hf⟩ := bI_e hf
      refine bX_sense_31 (y1 := 1) (ct := c_X_knownBehind (d := d) w x1 x2 e5) (k := ?_)
      obtain ⟨v6, w6, e6, hf⟩ := bI_e hf
      refine bX_sense_41 (ct := c_Ct_senseOf (d := d + 4) w5 1 v5 ct1 e6) (k := ?_)
      obtain ⟨rfl, rfl⟩ := ret_e hf
      exact bX_sense_44 
    · replace hf := ite_t q4 hf
      refine bX_sense_24 (ct := c_X_refuseFar (d := d + 4) w (-6 : Int32)) (k := ?_)
      obtain ⟨rfl, rfl⟩ := ret_e hf
      exact bX_sense_30 
  · replace hf := ite_t q2 hf
    refine bX_sense_11 (ct := c_X_refuseFar (d := d + 4) w (-1 : Int32)) (k := ?_)
    obtain ⟨rfl, rfl⟩ := ret_e hf
    exact bX_sense_16 
-- X_together
def f_X_together (w : MW) (x1 : Int32) (x2 : Int32) : Option RT := if x2 < 0 then (some (some (.int (v_X_refuseFar w (-5 : Int32))), u_X_refuseFar w (-5 : Int32))) else (if x2 ≤ 2 then (if (v_Ct_isSet w 1 x1) = 0 then (some (some (.int (v_X_refuseFar w (-6 : Int32))), u_X_refuseFar w (-6 : Int32))) else (bI (f_Cl_placesHeardBy w 1 x1) (fun v7 w7 => if x2 = 0 then (bI (f_Ct_senseOf w7 1 v7) (fun v18 w18 => some (some (.int v18), w18))) else (if x2 = 1 then (bI (f_JI_bitCount w7 v7) (fun v16 w16 => some (some (.int ((w7.1 1 3) - v16)), w16))) else (bI (f_Cl_isSure w7 1 v7) (fun v10 w10 => if v10 = 0 then (some (some (.int (0 : Int32)), w10)) else (some (some (.int (1 : Int32)), w10)))))))) else (some (some (.int (v_X_refuseFar w (-5 : Int32))), u_X_refuseFar w (-5 : Int32))))
set_option maxHeartbeats 4000000 in
theorem c_X_together {d : Nat} {r : Option Value} {w' : MW} (w : MW) (x1 : Int32) (x2 : Int32) (hf : f_X_together w x1 x2 = some (r, w')) : Ct (d + 6) mX_together [.ref 0, .int x1, .int x2] w r w' := by
  refine eX_together ?_
  unfold f_X_together at hf
  refine bX_together_0 (kt := fun q1 => ?_) (kf := fun q1 => ?_)
  · replace hf := ite_t q1 hf
    refine bX_together_9 (ct := c_X_refuseFar (d := d + 4) w (-5 : Int32)) (k := ?_)
    obtain ⟨rfl, rfl⟩ := ret_e hf
    exact bX_together_15 
  · replace hf := ite_f q1 hf
    refine bX_together_4 (kt := fun q4 => ?_) (kf := fun q4 => ?_)
    · replace hf := ite_t q4 hf
      refine bX_together_16 (y1 := 1) (ct := c_Ct_isSet (d := d + 5) w 1 x1 ct1) (k := ?_)
      refine bX_together_24 (kt := fun q6 => ?_) (kf := fun q6 => ?_)
      · replace hf := ite_f q6 hf
        obtain ⟨v7, w7, e7, hf⟩ := bI_e hf
        refine bX_together_34 (y1 := 57) (y2 := 1) (ct := c_Cl_placesHeardBy (d := d) w 1 x1 ct1 e7) (k := ?_)
        refine bX_together_46 (kt := fun q8 => ?_) (kf := fun q8 => ?_)
        · replace hf := ite_f q8 hf
          refine bX_together_60 (kt := fun q9 => ?_) (kf := fun q9 => ?_)
          · replace hf := ite_f q9 hf
            obtain ⟨v10, w10, e10, hf⟩ := bI_e hf
            refine bX_together_78 (y1 := 57) (y2 := 1) (ct := c_Cl_isSure (d := d + 3) w7 1 v7 ct1 e10) (k := ?_)
            refine bX_together_90 (kt := fun q11 => ?_) (kf := fun q11 => ?_)
            · replace hf := ite_t q11 hf
              refine bX_together_97 (k := ?_)
              obtain ⟨rfl, rfl⟩ := ret_e hf
              exact bX_together_98 
            · replace hf := ite_f q11 hf
              refine bX_together_93 (k := ?_)
              obtain ⟨rfl, rfl⟩ := ret_e hf
              exact bX_together_98 
          · replace hf := ite_t q9 hf
            obtain ⟨v16, w16, e16, hf⟩ := bI_e hf
            refine bX_together_65 (y1 := 1) (ct := c_JI_bitCount (d := d + 5) w7 v7 e16) (k := ?_)
            obtain ⟨rfl, rfl⟩ := ret_e hf
            exact bX_together_76 
        · replace hf := ite_t q8 hf
          obtain ⟨v18, w18, e18, hf⟩ := bI_e hf
          refine bX_together_51 (y1 := 1) (ct := c_Ct_senseOf (d := d + 4) w7 1 v7 ct1 e18) (k := ?_)
          obtain ⟨rfl, rfl⟩ := ret_e hf
          exact bX_together_59 
      · replace hf := ite_t q6 hf
        refine bX_together_27 (ct := c_X_refuseFar (d := d + 4) w (-6 : Int32)) (k := ?_)
        obtain ⟨rfl, rfl⟩ := ret_e hf
        exact bX_together_33 
    · replace hf := ite_f q4 hf
      refine bX_together_9 (ct := c_X_refuseFar (d := d + 4) w (-5 : Int32)) (k := ?_)
      obtain ⟨rfl, rfl⟩ := ret_e hf
      exact bX_together_15 
-- X_ask
def f_X_ask (w : MW) (x1 : Int32) : Option RT := if (v_Ct_isSet w 1 x1) = 0 then (some (some (.int (v_X_refuseFar w (-6 : Int32))), u_X_refuseFar w (-6 : Int32))) else (bI (f_Cl_nextToAsk w 1 x1) (fun v3 w3 => some (some (.int v3), w3)))
set_option maxHeartbeats 4000000 in
theorem c_X_ask {d : Nat} {r : Option Value} {w' : MW} (w : MW) (x1 : Int32) (hf : f_X_ask w x1 = some (r, w')) : Ct (d + 7) mX_ask [.ref 0, .int x1] w r w' := by
  refine eX_ask ?_
  unfold f_X_ask at hf
  refine bX_ask_0 (y1 := 1) (ct := c_Ct_isSet (d := d + 6) w 1 x1 ct1) (k := ?_)
  refine bX_ask_8 (kt := fun q2 => ?_) (kf := fun q2 => ?_)
  · replace hf := ite_f q2 hf
    obtain ⟨v3, w3, e3, hf⟩ := bI_e hf
    refine bX_ask_18 (y1 := 57) (y2 := 1) (ct := c_Cl_nextToAsk (d := d) w 1 x1 ct1 e3) (k := ?_)
    obtain ⟨rfl, rfl⟩ := ret_e hf
    exact bX_ask_30 
  · replace hf := ite_t q2 hf
    refine bX_ask_11 (ct := c_X_refuseFar (d := d + 5) w (-6 : Int32)) (k := ?_)
    obtain ⟨rfl, rfl⟩ := ret_e hf
    exact bX_ask_17 
-- L_law
def f_L_law_18 : Nat → MW → Int32 → Option RT
  | 0, _, _ => none
  | n + 1, w, x3 => if ((Int32.ofNat (aln w 83)) - 6) < x3 then (some (some (.int (1 : Int32)), w)) else (grd (vpb x3 (aln w 83) = true) (if ((w.1 83 x3.toNatClampNeg) &&& 63) = 0 then (grd (vpb (x3 + 1) (aln w 83) = true) (grd (vpb (x3 + 2) (aln w 83) = true) (grd (vpb (x3 + 3) (aln w 83) = true) (bI (f_X_row w (w.1 83 (x3 + 1).toNatClampNeg) (w.1 83 (x3 + 2).toNatClampNeg) (w.1 83 (x3 + 3).toNatClampNeg)) (fun v4 w4 => grd (vpb (x3 + 1) (aln w4 83) = true) (grd (vpb (x3 + 2) (aln w4 83) = true) (grd (vpb (x3 + 3) (aln w4 83) = true) (bI (f_M_row w4 (w4.1 83 (x3 + 1).toNatClampNeg) (w4.1 83 (x3 + 2).toNatClampNeg) (w4.1 83 (x3 + 3).toNatClampNeg)) (fun v5 w5 => if v4 = v5 then (f_L_law_18 n w5 (x3 + 6)) else (some (some (.int (0 : Int32)), w5))))))))))) else if ((w.1 83 x3.toNatClampNeg) &&& 63) = 1 then (grd (vpb (x3 + 1) (aln w 83) = true) (grd (vpb (x3 + 2) (aln w 83) = true) (grd (vpb (x3 + 3) (aln w 83) = true) (grd (vpb (x3 + 4) (aln w 83) = true) (grd ((v_X_rowRefusal w (w.1 83 (x3 + 1).toNatClampNeg)) = 0 → vpb (w.1 83 (x3 + 1).toNatClampNeg) 8 = true) (grd ((v_X_rowRefusal w (w.1 83 (x3 + 1).toNatClampNeg)) = 0 → ¬ (v_Sh_has w (35 + 2 * (w.1 83 (x3 + 1).toNatClampNeg).toNatClampNeg) (w.1 83 (x3 + 2).toNatClampNeg)) = 0 → ¬ (v_Sh_has w (35 + 2 * (w.1 83 (x3 + 1).toNatClampNeg).toNatClampNeg) (w.1 83 (x3 + 2).toNatClampNeg)) = 0 → ((w.1 (35 + 2 * (w.1 83 (x3 + 1).toNatClampNeg).toNatClampNeg) 0) - 100) = 0 → vpb (w.1 83 (x3 + 2).toNatClampNeg) 160 = true) (grd ((v_X_rowRefusal w (w.1 83 (x3 + 1).toNatClampNeg)) = 0 → ¬ (v_Sh_has w (35 + 2 * (w.1 83 (x3 + 1).toNatClampNeg).toNatClampNeg) (w.1 83 (x3 + 2).toNatClampNeg)) = 0 → ¬ (v_Sh_has w (35 + 2 * (w.1 83 (x3 + 1).toNatClampNeg).toNatClampNeg) (w.1 83 (x3 + 2).toNatClampNeg)) = 0 → ((w.1 (35 + 2 * (w.1 83 (x3 + 1).toNatClampNeg).toNatClampNeg) 0) - 100) = 1 → vpb (w.1 83 (x3 + 2).toNatClampNeg) 160 = true) (grd ((v_X_rowRefusal w (w.1 83 (x3 + 1).toNatClampNeg)) = 0 → ¬ (v_Sh_has w (35 + 2 * (w.1 83 (x3 + 1).toNatClampNeg).toNatClampNeg) (w.1 83 (x3 + 2).toNatClampNeg)) = 0 → ¬ (v_Sh_has w (35 + 2 * (w.1 83 (x3 + 1).toNatClampNeg).toNatClampNeg) (w.1 83 (x3 + 2).toNatClampNeg)) = 0 → ((w.1 (35 + 2 * (w.1 83 (x3 + 1).toNatClampNeg).toNatClampNeg) 0) - 100) = 2 → vpb (w.1 83 (x3 + 2).toNatClampNeg) 160 = true) (grd ((v_X_rowRefusal w (w.1 83 (x3 + 1).toNatClampNeg)) = 0 → ¬ (v_Sh_has w (35 + 2 * (w.1 83 (x3 + 1).toNatClampNeg).toNatClampNeg) (w.1 83 (x3 + 2).toNatClampNeg)) = 0 → ¬ (v_Sh_has w (35 + 2 * (w.1 83 (x3 + 1).toNatClampNeg).toNatClampNeg) (w.1 83 (x3 + 2).toNatClampNeg)) = 0 → ¬ ((w.1 (35 + 2 * (w.1 83 (x3 + 1).toNatClampNeg).toNatClampNeg) 0) - 100) = 0 → ¬ ((w.1 (35 + 2 * (w.1 83 (x3 + 1).toNatClampNeg).toNatClampNeg) 0) - 100) = 1 → ¬ ((w.1 (35 + 2 * (w.1 83 (x3 + 1).toNatClampNeg).toNatClampNeg) 0) - 100) = 2 → vpb (w.1 83 (x3 + 2).toNatClampNeg) 160 = true) (grd (vpb (x3 + 1) (aln (u_X_set w (w.1 83 (x3 + 1).toNatClampNeg) (w.1 83 (x3 + 2).toNatClampNeg) ((((w.1 83 (x3 + 3).toNatClampNeg).toInt64) <<< ((32 : Int32).toInt64 &&& 63)) ||| (((w.1 83 (x3 + 4).toNatClampNeg).toInt64) &&& 4294967295))) 83) = true) (grd (vpb (x3 + 2) (aln (u_X_set w (w.1 83 (x3 + 1).toNatClampNeg) (w.1 83 (x3 + 2).toNatClampNeg) ((((w.1 83 (x3 + 3).toNatClampNeg).toInt64) <<< ((32 : Int32).toInt64 &&& 63)) ||| (((w.1 83 (x3 + 4).toNatClampNeg).toInt64) &&& 4294967295))) 83) = true) (grd (vpb (x3 + 3) (aln (u_X_set w (w.1 83 (x3 + 1).toNatClampNeg) (w.1 83 (x3 + 2).toNatClampNeg) ((((w.1 83 (x3 + 3).toNatClampNeg).toInt64) <<< ((32 : Int32).toInt64 &&& 63)) ||| (((w.1 83 (x3 + 4).toNatClampNeg).toInt64) &&& 4294967295))) 83) = true) (grd (vpb (x3 + 4) (aln (u_X_set w (w.1 83 (x3 + 1).toNatClampNeg) (w.1 83 (x3 + 2).toNatClampNeg) ((((w.1 83 (x3 + 3).toNatClampNeg).toInt64) <<< ((32 : Int32).toInt64 &&& 63)) ||| (((w.1 83 (x3 + 4).toNatClampNeg).toInt64) &&& 4294967295))) 83) = true) (grd (0 ≤ (v_M_noRow (u_X_set w (w.1 83 (x3 + 1).toNatClampNeg) (w.1 83 (x3 + 2).toNatClampNeg) ((((w.1 83 (x3 + 3).toNatClampNeg).toInt64) <<< ((32 : Int32).toInt64 &&& 63)) ||| (((w.1 83 (x3 + 4).toNatClampNeg).toInt64) &&& 4294967295))) ((u_X_set w (w.1 83 (x3 + 1).toNatClampNeg) (w.1 83 (x3 + 2).toNatClampNeg) ((((w.1 83 (x3 + 3).toNatClampNeg).toInt64) <<< ((32 : Int32).toInt64 &&& 63)) ||| (((w.1 83 (x3 + 4).toNatClampNeg).toInt64) &&& 4294967295))).1 83 (x3 + 1).toNatClampNeg)) → vpb ((u_X_set w (w.1 83 (x3 + 1).toNatClampNeg) (w.1 83 (x3 + 2).toNatClampNeg) ((((w.1 83 (x3 + 3).toNatClampNeg).toInt64) <<< ((32 : Int32).toInt64 &&& 63)) ||| (((w.1 83 (x3 + 4).toNatClampNeg).toInt64) &&& 4294967295))).1 83 (x3 + 1).toNatClampNeg) 8 = true) (grd (0 ≤ (v_M_noRow (u_X_set w (w.1 83 (x3 + 1).toNatClampNeg) (w.1 83 (x3 + 2).toNatClampNeg) ((((w.1 83 (x3 + 3).toNatClampNeg).toInt64) <<< ((32 : Int32).toInt64 &&& 63)) ||| (((w.1 83 (x3 + 4).toNatClampNeg).toInt64) &&& 4294967295))) ((u_X_set w (w.1 83 (x3 + 1).toNatClampNeg) (w.1 83 (x3 + 2).toNatClampNeg) ((((w.1 83 (x3 + 3).toNatClampNeg).toInt64) <<< ((32 : Int32).toInt64 &&& 63)) ||| (((w.1 83 (x3 + 4).toNatClampNeg).toInt64) &&& 4294967295))).1 83 (x3 + 1).toNatClampNeg)) → ¬ (v_M_within (u_X_set w (w.1 83 (x3 + 1).toNatClampNeg) (w.1 83 (x3 + 2).toNatClampNeg) ((((w.1 83 (x3 + 3).toNatClampNeg).toInt64) <<< ((32 : Int32).toInt64 &&& 63)) ||| (((w.1 83 (x3 + 4).toNatClampNeg).toInt64) &&& 4294967295))) ((u_X_set w (w.1 83 (x3 + 1).toNatClampNeg) (w.1 83 (x3 + 2).toNatClampNeg) ((((w.1 83 (x3 + 3).toNatClampNeg).toInt64) <<< ((32 : Int32).toInt64 &&& 63)) ||| (((w.1 83 (x3 + 4).toNatClampNeg).toInt64) &&& 4294967295))).1 83 (x3 + 2).toNatClampNeg) 0 (((u_X_set w (w.1 83 (x3 + 1).toNatClampNeg) (w.1 83 (x3 + 2).toNatClampNeg) ((((w.1 83 (x3 + 3).toNatClampNeg).toInt64) <<< ((32 : Int32).toInt64 &&& 63)) ||| (((w.1 83 (x3 + 4).toNatClampNeg).toInt64) &&& 4294967295))).1 64 ((u_X_set w (w.1 83 (x3 + 1).toNatClampNeg) (w.1 83 (x3 + 2).toNatClampNeg) ((((w.1 83 (x3 + 3).toNatClampNeg).toInt64) <<< ((32 : Int32).toInt64 &&& 63)) ||| (((w.1 83 (x3 + 4).toNatClampNeg).toInt64) &&& 4294967295))).1 83 (x3 + 1).toNatClampNeg).toNatClampNeg) - 1)) = 0 → ¬ (((u_X_set w (w.1 83 (x3 + 1).toNatClampNeg) (w.1 83 (x3 + 2).toNatClampNeg) ((((w.1 83 (x3 + 3).toNatClampNeg).toInt64) <<< ((32 : Int32).toInt64 &&& 63)) ||| (((w.1 83 (x3 + 4).toNatClampNeg).toInt64) &&& 4294967295))).1 63 ((u_X_set w (w.1 83 (x3 + 1).toNatClampNeg) (w.1 83 (x3 + 2).toNatClampNeg) ((((w.1 83 (x3 + 3).toNatClampNeg).toInt64) <<< ((32 : Int32).toInt64 &&& 63)) ||| (((w.1 83 (x3 + 4).toNatClampNeg).toInt64) &&& 4294967295))).1 83 (x3 + 1).toNatClampNeg).toNatClampNeg) - 100) = 0 → ¬ (((u_X_set w (w.1 83 (x3 + 1).toNatClampNeg) (w.1 83 (x3 + 2).toNatClampNeg) ((((w.1 83 (x3 + 3).toNatClampNeg).toInt64) <<< ((32 : Int32).toInt64 &&& 63)) ||| (((w.1 83 (x3 + 4).toNatClampNeg).toInt64) &&& 4294967295))).1 63 ((u_X_set w (w.1 83 (x3 + 1).toNatClampNeg) (w.1 83 (x3 + 2).toNatClampNeg) ((((w.1 83 (x3 + 3).toNatClampNeg).toInt64) <<< ((32 : Int32).toInt64 &&& 63)) ||| (((w.1 83 (x3 + 4).toNatClampNeg).toInt64) &&& 4294967295))).1 83 (x3 + 1).toNatClampNeg).toNatClampNeg) - 100) = 1 → ¬ (((u_X_set w (w.1 83 (x3 + 1).toNatClampNeg) (w.1 83 (x3 + 2).toNatClampNeg) ((((w.1 83 (x3 + 3).toNatClampNeg).toInt64) <<< ((32 : Int32).toInt64 &&& 63)) ||| (((w.1 83 (x3 + 4).toNatClampNeg).toInt64) &&& 4294967295))).1 63 ((u_X_set w (w.1 83 (x3 + 1).toNatClampNeg) (w.1 83 (x3 + 2).toNatClampNeg) ((((w.1 83 (x3 + 3).toNatClampNeg).toInt64) <<< ((32 : Int32).toInt64 &&& 63)) ||| (((w.1 83 (x3 + 4).toNatClampNeg).toInt64) &&& 4294967295))).1 83 (x3 + 1).toNatClampNeg).toNatClampNeg) - 100) = 2 → vpb ((160 * ((u_X_set w (w.1 83 (x3 + 1).toNatClampNeg) (w.1 83 (x3 + 2).toNatClampNeg) ((((w.1 83 (x3 + 3).toNatClampNeg).toInt64) <<< ((32 : Int32).toInt64 &&& 63)) ||| (((w.1 83 (x3 + 4).toNatClampNeg).toInt64) &&& 4294967295))).1 83 (x3 + 1).toNatClampNeg)) + ((u_X_set w (w.1 83 (x3 + 1).toNatClampNeg) (w.1 83 (x3 + 2).toNatClampNeg) ((((w.1 83 (x3 + 3).toNatClampNeg).toInt64) <<< ((32 : Int32).toInt64 &&& 63)) ||| (((w.1 83 (x3 + 4).toNatClampNeg).toInt64) &&& 4294967295))).1 83 (x3 + 2).toNatClampNeg)) 1280 = true) (grd (0 ≤ (v_M_noRow (u_X_set w (w.1 83 (x3 + 1).toNatClampNeg) (w.1 83 (x3 + 2).toNatClampNeg) ((((w.1 83 (x3 + 3).toNatClampNeg).toInt64) <<< ((32 : Int32).toInt64 &&& 63)) ||| (((w.1 83 (x3 + 4).toNatClampNeg).toInt64) &&& 4294967295))) ((u_X_set w (w.1 83 (x3 + 1).toNatClampNeg) (w.1 83 (x3 + 2).toNatClampNeg) ((((w.1 83 (x3 + 3).toNatClampNeg).toInt64) <<< ((32 : Int32).toInt64 &&& 63)) ||| (((w.1 83 (x3 + 4).toNatClampNeg).toInt64) &&& 4294967295))).1 83 (x3 + 1).toNatClampNeg)) → ¬ (v_M_within (u_X_set w (w.1 83 (x3 + 1).toNatClampNeg) (w.1 83 (x3 + 2).toNatClampNeg) ((((w.1 83 (x3 + 3).toNatClampNeg).toInt64) <<< ((32 : Int32).toInt64 &&& 63)) ||| (((w.1 83 (x3 + 4).toNatClampNeg).toInt64) &&& 4294967295))) ((u_X_set w (w.1 83 (x3 + 1).toNatClampNeg) (w.1 83 (x3 + 2).toNatClampNeg) ((((w.1 83 (x3 + 3).toNatClampNeg).toInt64) <<< ((32 : Int32).toInt64 &&& 63)) ||| (((w.1 83 (x3 + 4).toNatClampNeg).toInt64) &&& 4294967295))).1 83 (x3 + 2).toNatClampNeg) 0 (((u_X_set w (w.1 83 (x3 + 1).toNatClampNeg) (w.1 83 (x3 + 2).toNatClampNeg) ((((w.1 83 (x3 + 3).toNatClampNeg).toInt64) <<< ((32 : Int32).toInt64 &&& 63)) ||| (((w.1 83 (x3 + 4).toNatClampNeg).toInt64) &&& 4294967295))).1 64 ((u_X_set w (w.1 83 (x3 + 1).toNatClampNeg) (w.1 83 (x3 + 2).toNatClampNeg) ((((w.1 83 (x3 + 3).toNatClampNeg).toInt64) <<< ((32 : Int32).toInt64 &&& 63)) ||| (((w.1 83 (x3 + 4).toNatClampNeg).toInt64) &&& 4294967295))).1 83 (x3 + 1).toNatClampNeg).toNatClampNeg) - 1)) = 0 → ¬ (((u_X_set w (w.1 83 (x3 + 1).toNatClampNeg) (w.1 83 (x3 + 2).toNatClampNeg) ((((w.1 83 (x3 + 3).toNatClampNeg).toInt64) <<< ((32 : Int32).toInt64 &&& 63)) ||| (((w.1 83 (x3 + 4).toNatClampNeg).toInt64) &&& 4294967295))).1 63 ((u_X_set w (w.1 83 (x3 + 1).toNatClampNeg) (w.1 83 (x3 + 2).toNatClampNeg) ((((w.1 83 (x3 + 3).toNatClampNeg).toInt64) <<< ((32 : Int32).toInt64 &&& 63)) ||| (((w.1 83 (x3 + 4).toNatClampNeg).toInt64) &&& 4294967295))).1 83 (x3 + 1).toNatClampNeg).toNatClampNeg) - 100) = 0 → ¬ (((u_X_set w (w.1 83 (x3 + 1).toNatClampNeg) (w.1 83 (x3 + 2).toNatClampNeg) ((((w.1 83 (x3 + 3).toNatClampNeg).toInt64) <<< ((32 : Int32).toInt64 &&& 63)) ||| (((w.1 83 (x3 + 4).toNatClampNeg).toInt64) &&& 4294967295))).1 63 ((u_X_set w (w.1 83 (x3 + 1).toNatClampNeg) (w.1 83 (x3 + 2).toNatClampNeg) ((((w.1 83 (x3 + 3).toNatClampNeg).toInt64) <<< ((32 : Int32).toInt64 &&& 63)) ||| (((w.1 83 (x3 + 4).toNatClampNeg).toInt64) &&& 4294967295))).1 83 (x3 + 1).toNatClampNeg).toNatClampNeg) - 100) = 1 → (((u_X_set w (w.1 83 (x3 + 1).toNatClampNeg) (w.1 83 (x3 + 2).toNatClampNeg) ((((w.1 83 (x3 + 3).toNatClampNeg).toInt64) <<< ((32 : Int32).toInt64 &&& 63)) ||| (((w.1 83 (x3 + 4).toNatClampNeg).toInt64) &&& 4294967295))).1 63 ((u_X_set w (w.1 83 (x3 + 1).toNatClampNeg) (w.1 83 (x3 + 2).toNatClampNeg) ((((w.1 83 (x3 + 3).toNatClampNeg).toInt64) <<< ((32 : Int32).toInt64 &&& 63)) ||| (((w.1 83 (x3 + 4).toNatClampNeg).toInt64) &&& 4294967295))).1 83 (x3 + 1).toNatClampNeg).toNatClampNeg) - 100) = 2 → vpb ((160 * ((u_X_set w (w.1 83 (x3 + 1).toNatClampNeg) (w.1 83 (x3 + 2).toNatClampNeg) ((((w.1 83 (x3 + 3).toNatClampNeg).toInt64) <<< ((32 : Int32).toInt64 &&& 63)) ||| (((w.1 83 (x3 + 4).toNatClampNeg).toInt64) &&& 4294967295))).1 83 (x3 + 1).toNatClampNeg)) + ((u_X_set w (w.1 83 (x3 + 1).toNatClampNeg) (w.1 83 (x3 + 2).toNatClampNeg) ((((w.1 83 (x3 + 3).toNatClampNeg).toInt64) <<< ((32 : Int32).toInt64 &&& 63)) ||| (((w.1 83 (x3 + 4).toNatClampNeg).toInt64) &&& 4294967295))).1 83 (x3 + 2).toNatClampNeg)) 1280 = true) (grd (0 ≤ (v_M_noRow (u_X_set w (w.1 83 (x3 + 1).toNatClampNeg) (w.1 83 (x3 + 2).toNatClampNeg) ((((w.1 83 (x3 + 3).toNatClampNeg).toInt64) <<< ((32 : Int32).toInt64 &&& 63)) ||| (((w.1 83 (x3 + 4).toNatClampNeg).toInt64) &&& 4294967295))) ((u_X_set w (w.1 83 (x3 + 1).toNatClampNeg) (w.1 83 (x3 + 2).toNatClampNeg) ((((w.1 83 (x3 + 3).toNatClampNeg).toInt64) <<< ((32 : Int32).toInt64 &&& 63)) ||| (((w.1 83 (x3 + 4).toNatClampNeg).toInt64) &&& 4294967295))).1 83 (x3 + 1).toNatClampNeg)) → ¬ (v_M_within (u_X_set w (w.1 83 (x3 + 1).toNatClampNeg) (w.1 83 (x3 + 2).toNatClampNeg) ((((w.1 83 (x3 + 3).toNatClampNeg).toInt64) <<< ((32 : Int32).toInt64 &&& 63)) ||| (((w.1 83 (x3 + 4).toNatClampNeg).toInt64) &&& 4294967295))) ((u_X_set w (w.1 83 (x3 + 1).toNatClampNeg) (w.1 83 (x3 + 2).toNatClampNeg) ((((w.1 83 (x3 + 3).toNatClampNeg).toInt64) <<< ((32 : Int32).toInt64 &&& 63)) ||| (((w.1 83 (x3 + 4).toNatClampNeg).toInt64) &&& 4294967295))).1 83 (x3 + 2).toNatClampNeg) 0 (((u_X_set w (w.1 83 (x3 + 1).toNatClampNeg) (w.1 83 (x3 + 2).toNatClampNeg) ((((w.1 83 (x3 + 3).toNatClampNeg).toInt64) <<< ((32 : Int32).toInt64 &&& 63)) ||| (((w.1 83 (x3 + 4).toNatClampNeg).toInt64) &&& 4294967295))).1 64 ((u_X_set w (w.1 83 (x3 + 1).toNatClampNeg) (w.1 83 (x3 + 2).toNatClampNeg) ((((w.1 83 (x3 + 3).toNatClampNeg).toInt64) <<< ((32 : Int32).toInt64 &&& 63)) ||| (((w.1 83 (x3 + 4).toNatClampNeg).toInt64) &&& 4294967295))).1 83 (x3 + 1).toNatClampNeg).toNatClampNeg) - 1)) = 0 → ¬ (((u_X_set w (w.1 83 (x3 + 1).toNatClampNeg) (w.1 83 (x3 + 2).toNatClampNeg) ((((w.1 83 (x3 + 3).toNatClampNeg).toInt64) <<< ((32 : Int32).toInt64 &&& 63)) ||| (((w.1 83 (x3 + 4).toNatClampNeg).toInt64) &&& 4294967295))).1 63 ((u_X_set w (w.1 83 (x3 + 1).toNatClampNeg) (w.1 83 (x3 + 2).toNatClampNeg) ((((w.1 83 (x3 + 3).toNatClampNeg).toInt64) <<< ((32 : Int32).toInt64 &&& 63)) ||| (((w.1 83 (x3 + 4).toNatClampNeg).toInt64) &&& 4294967295))).1 83 (x3 + 1).toNatClampNeg).toNatClampNeg) - 100) = 0 → (((u_X_set w (w.1 83 (x3 + 1).toNatClampNeg) (w.1 83 (x3 + 2).toNatClampNeg) ((((w.1 83 (x3 + 3).toNatClampNeg).toInt64) <<< ((32 : Int32).toInt64 &&& 63)) ||| (((w.1 83 (x3 + 4).toNatClampNeg).toInt64) &&& 4294967295))).1 63 ((u_X_set w (w.1 83 (x3 + 1).toNatClampNeg) (w.1 83 (x3 + 2).toNatClampNeg) ((((w.1 83 (x3 + 3).toNatClampNeg).toInt64) <<< ((32 : Int32).toInt64 &&& 63)) ||| (((w.1 83 (x3 + 4).toNatClampNeg).toInt64) &&& 4294967295))).1 83 (x3 + 1).toNatClampNeg).toNatClampNeg) - 100) = 1 → vpb ((160 * ((u_X_set w (w.1 83 (x3 + 1).toNatClampNeg) (w.1 83 (x3 + 2).toNatClampNeg) ((((w.1 83 (x3 + 3).toNatClampNeg).toInt64) <<< ((32 : Int32).toInt64 &&& 63)) ||| (((w.1 83 (x3 + 4).toNatClampNeg).toInt64) &&& 4294967295))).1 83 (x3 + 1).toNatClampNeg)) + ((u_X_set w (w.1 83 (x3 + 1).toNatClampNeg) (w.1 83 (x3 + 2).toNatClampNeg) ((((w.1 83 (x3 + 3).toNatClampNeg).toInt64) <<< ((32 : Int32).toInt64 &&& 63)) ||| (((w.1 83 (x3 + 4).toNatClampNeg).toInt64) &&& 4294967295))).1 83 (x3 + 2).toNatClampNeg)) 1280 = true) (grd (0 ≤ (v_M_noRow (u_X_set w (w.1 83 (x3 + 1).toNatClampNeg) (w.1 83 (x3 + 2).toNatClampNeg) ((((w.1 83 (x3 + 3).toNatClampNeg).toInt64) <<< ((32 : Int32).toInt64 &&& 63)) ||| (((w.1 83 (x3 + 4).toNatClampNeg).toInt64) &&& 4294967295))) ((u_X_set w (w.1 83 (x3 + 1).toNatClampNeg) (w.1 83 (x3 + 2).toNatClampNeg) ((((w.1 83 (x3 + 3).toNatClampNeg).toInt64) <<< ((32 : Int32).toInt64 &&& 63)) ||| (((w.1 83 (x3 + 4).toNatClampNeg).toInt64) &&& 4294967295))).1 83 (x3 + 1).toNatClampNeg)) → ¬ (v_M_within (u_X_set w (w.1 83 (x3 + 1).toNatClampNeg) (w.1 83 (x3 + 2).toNatClampNeg) ((((w.1 83 (x3 + 3).toNatClampNeg).toInt64) <<< ((32 : Int32).toInt64 &&& 63)) ||| (((w.1 83 (x3 + 4).toNatClampNeg).toInt64) &&& 4294967295))) ((u_X_set w (w.1 83 (x3 + 1).toNatClampNeg) (w.1 83 (x3 + 2).toNatClampNeg) ((((w.1 83 (x3 + 3).toNatClampNeg).toInt64) <<< ((32 : Int32).toInt64 &&& 63)) ||| (((w.1 83 (x3 + 4).toNatClampNeg).toInt64) &&& 4294967295))).1 83 (x3 + 2).toNatClampNeg) 0 (((u_X_set w (w.1 83 (x3 + 1).toNatClampNeg) (w.1 83 (x3 + 2).toNatClampNeg) ((((w.1 83 (x3 + 3).toNatClampNeg).toInt64) <<< ((32 : Int32).toInt64 &&& 63)) ||| (((w.1 83 (x3 + 4).toNatClampNeg).toInt64) &&& 4294967295))).1 64 ((u_X_set w (w.1 83 (x3 + 1).toNatClampNeg) (w.1 83 (x3 + 2).toNatClampNeg) ((((w.1 83 (x3 + 3).toNatClampNeg).toInt64) <<< ((32 : Int32).toInt64 &&& 63)) ||| (((w.1 83 (x3 + 4).toNatClampNeg).toInt64) &&& 4294967295))).1 83 (x3 + 1).toNatClampNeg).toNatClampNeg) - 1)) = 0 → (((u_X_set w (w.1 83 (x3 + 1).toNatClampNeg) (w.1 83 (x3 + 2).toNatClampNeg) ((((w.1 83 (x3 + 3).toNatClampNeg).toInt64) <<< ((32 : Int32).toInt64 &&& 63)) ||| (((w.1 83 (x3 + 4).toNatClampNeg).toInt64) &&& 4294967295))).1 63 ((u_X_set w (w.1 83 (x3 + 1).toNatClampNeg) (w.1 83 (x3 + 2).toNatClampNeg) ((((w.1 83 (x3 + 3).toNatClampNeg).toInt64) <<< ((32 : Int32).toInt64 &&& 63)) ||| (((w.1 83 (x3 + 4).toNatClampNeg).toInt64) &&& 4294967295))).1 83 (x3 + 1).toNatClampNeg).toNatClampNeg) - 100) = 0 → vpb ((160 * ((u_X_set w (w.1 83 (x3 + 1).toNatClampNeg) (w.1 83 (x3 + 2).toNatClampNeg) ((((w.1 83 (x3 + 3).toNatClampNeg).toInt64) <<< ((32 : Int32).toInt64 &&& 63)) ||| (((w.1 83 (x3 + 4).toNatClampNeg).toInt64) &&& 4294967295))).1 83 (x3 + 1).toNatClampNeg)) + ((u_X_set w (w.1 83 (x3 + 1).toNatClampNeg) (w.1 83 (x3 + 2).toNatClampNeg) ((((w.1 83 (x3 + 3).toNatClampNeg).toInt64) <<< ((32 : Int32).toInt64 &&& 63)) ||| (((w.1 83 (x3 + 4).toNatClampNeg).toInt64) &&& 4294967295))).1 83 (x3 + 2).toNatClampNeg)) 1280 = true) (if (v_X_set w (w.1 83 (x3 + 1).toNatClampNeg) (w.1 83 (x3 + 2).toNatClampNeg) ((((w.1 83 (x3 + 3).toNatClampNeg).toInt64) <<< ((32 : Int32).toInt64 &&& 63)) ||| (((w.1 83 (x3 + 4).toNatClampNeg).toInt64) &&& 4294967295))) = (v_M_set (u_X_set w (w.1 83 (x3 + 1).toNatClampNeg) (w.1 83 (x3 + 2).toNatClampNeg) ((((w.1 83 (x3 + 3).toNatClampNeg).toInt64) <<< ((32 : Int32).toInt64 &&& 63)) ||| (((w.1 83 (x3 + 4).toNatClampNeg).toInt64) &&& 4294967295))) ((u_X_set w (w.1 83 (x3 + 1).toNatClampNeg) (w.1 83 (x3 + 2).toNatClampNeg) ((((w.1 83 (x3 + 3).toNatClampNeg).toInt64) <<< ((32 : Int32).toInt64 &&& 63)) ||| (((w.1 83 (x3 + 4).toNatClampNeg).toInt64) &&& 4294967295))).1 83 (x3 + 1).toNatClampNeg) ((u_X_set w (w.1 83 (x3 + 1).toNatClampNeg) (w.1 83 (x3 + 2).toNatClampNeg) ((((w.1 83 (x3 + 3).toNatClampNeg).toInt64) <<< ((32 : Int32).toInt64 &&& 63)) ||| (((w.1 83 (x3 + 4).toNatClampNeg).toInt64) &&& 4294967295))).1 83 (x3 + 2).toNatClampNeg) (((((u_X_set w (w.1 83 (x3 + 1).toNatClampNeg) (w.1 83 (x3 + 2).toNatClampNeg) ((((w.1 83 (x3 + 3).toNatClampNeg).toInt64) <<< ((32 : Int32).toInt64 &&& 63)) ||| (((w.1 83 (x3 + 4).toNatClampNeg).toInt64) &&& 4294967295))).1 83 (x3 + 3).toNatClampNeg).toInt64) <<< ((32 : Int32).toInt64 &&& 63)) ||| ((((u_X_set w (w.1 83 (x3 + 1).toNatClampNeg) (w.1 83 (x3 + 2).toNatClampNeg) ((((w.1 83 (x3 + 3).toNatClampNeg).toInt64) <<< ((32 : Int32).toInt64 &&& 63)) ||| (((w.1 83 (x3 + 4).toNatClampNeg).toInt64) &&& 4294967295))).1 83 (x3 + 4).toNatClampNeg).toInt64) &&& 4294967295))) then (f_L_law_18 n (u_M_set (u_X_set w (w.1 83 (x3 + 1).toNatClampNeg) (w.1 83 (x3 + 2).toNatClampNeg) ((((w.1 83 (x3 + 3).toNatClampNeg).toInt64) <<< ((32 : Int32).toInt64 &&& 63)) ||| (((w.1 83 (x3 + 4).toNatClampNeg).toInt64) &&& 4294967295))) ((u_X_set w (w.1 83 (x3 + 1).toNatClampNeg) (w.1 83 (x3 + 2).toNatClampNeg) ((((w.1 83 (x3 + 3).toNatClampNeg).toInt64) <<< ((32 : Int32).toInt64 &&& 63)) ||| (((w.1 83 (x3 + 4).toNatClampNeg).toInt64) &&& 4294967295))).1 83 (x3 + 1).toNatClampNeg) ((u_X_set w (w.1 83 (x3 + 1).toNatClampNeg) (w.1 83 (x3 + 2).toNatClampNeg) ((((w.1 83 (x3 + 3).toNatClampNeg).toInt64) <<< ((32 : Int32).toInt64 &&& 63)) ||| (((w.1 83 (x3 + 4).toNatClampNeg).toInt64) &&& 4294967295))).1 83 (x3 + 2).toNatClampNeg) (((((u_X_set w (w.1 83 (x3 + 1).toNatClampNeg) (w.1 83 (x3 + 2).toNatClampNeg) ((((w.1 83 (x3 + 3).toNatClampNeg).toInt64) <<< ((32 : Int32).toInt64 &&& 63)) ||| (((w.1 83 (x3 + 4).toNatClampNeg).toInt64) &&& 4294967295))).1 83 (x3 + 3).toNatClampNeg).toInt64) <<< ((32 : Int32).toInt64 &&& 63)) ||| ((((u_X_set w (w.1 83 (x3 + 1).toNatClampNeg) (w.1 83 (x3 + 2).toNatClampNeg) ((((w.1 83 (x3 + 3).toNatClampNeg).toInt64) <<< ((32 : Int32).toInt64 &&& 63)) ||| (((w.1 83 (x3 + 4).toNatClampNeg).toInt64) &&& 4294967295))).1 83 (x3 + 4).toNatClampNeg).toInt64) &&& 4294967295))) (x3 + 6)) else (some (some (.int (0 : Int32)), u_M_set (u_X_set w (w.1 83 (x3 + 1).toNatClampNeg) (w.1 83 (x3 + 2).toNatClampNeg) ((((w.1 83 (x3 + 3).toNatClampNeg).toInt64) <<< ((32 : Int32).toInt64 &&& 63)) ||| (((w.1 83 (x3 + 4).toNatClampNeg).toInt64) &&& 4294967295))) ((u_X_set w (w.1 83 (x3 + 1).toNatClampNeg) (w.1 83 (x3 + 2).toNatClampNeg) ((((w.1 83 (x3 + 3).toNatClampNeg).toInt64) <<< ((32 : Int32).toInt64 &&& 63)) ||| (((w.1 83 (x3 + 4).toNatClampNeg).toInt64) &&& 4294967295))).1 83 (x3 + 1).toNatClampNeg) ((u_X_set w (w.1 83 (x3 + 1).toNatClampNeg) (w.1 83 (x3 + 2).toNatClampNeg) ((((w.1 83 (x3 + 3).toNatClampNeg).toInt64) <<< ((32 : Int32).toInt64 &&& 63)) ||| (((w.1 83 (x3 + 4).toNatClampNeg).toInt64) &&& 4294967295))).1 83 (x3 + 2).toNatClampNeg) (((((u_X_set w (w.1 83 (x3 + 1).toNatClampNeg) (w.1 83 (x3 + 2).toNatClampNeg) ((((w.1 83 (x3 + 3).toNatClampNeg).toInt64) <<< ((32 : Int32).toInt64 &&& 63)) ||| (((w.1 83 (x3 + 4).toNatClampNeg).toInt64) &&& 4294967295))).1 83 (x3 + 3).toNatClampNeg).toInt64) <<< ((32 : Int32).toInt64 &&& 63)) ||| ((((u_X_set w (w.1 83 (x3 + 1).toNatClampNeg) (w.1 83 (x3 + 2).toNatClampNeg) ((((w.1 83 (x3 + 3).toNatClampNeg).toInt64) <<< ((32 : Int32).toInt64 &&& 63)) ||| (((w.1 83 (x3 + 4).toNatClampNeg).toInt64) &&& 4294967295))).1 83 (x3 + 4).toNatClampNeg).toInt64) &&& 4294967295))))))))))))))))))))))) else if ((w.1 83 x3.toNatClampNeg) &&& 63) = 2 then (grd (vpb (x3 + 1) (aln w 83) = true) (grd (vpb (x3 + 2) (aln w 83) = true) (grd (vpb (x3 + 3) (aln w 83) = true) (grd (vpb (x3 + 4) (aln w 83) = true) (grd (vpb (x3 + 5) (aln w 83) = true) (bI (f_X_copy w (w.1 83 (x3 + 1).toNatClampNeg) (w.1 83 (x3 + 2).toNatClampNeg) (w.1 83 (x3 + 3).toNatClampNeg) (w.1 83 (x3 + 4).toNatClampNeg) (w.1 83 (x3 + 5).toNatClampNeg)) (fun v14 w14 => grd (vpb (x3 + 1) (aln w14 83) = true) (grd (vpb (x3 + 2) (aln w14 83) = true) (grd (vpb (x3 + 3) (aln w14 83) = true) (grd (vpb (x3 + 4) (aln w14 83) = true) (grd (vpb (x3 + 5) (aln w14 83) = true) (bI (f_M_copy w14 (w14.1 83 (x3 + 1).toNatClampNeg) (w14.1 83 (x3 + 2).toNatClampNeg) (w14.1 83 (x3 + 3).toNatClampNeg) (w14.1 83 (x3 + 4).toNatClampNeg) (w14.1 83 (x3 + 5).toNatClampNeg)) (fun v15 w15 => if v14 = v15 then (f_L_law_18 n w15 (x3 + 6)) else (some (some (.int (0 : Int32)), w15))))))))))))))) else if ((w.1 83 x3.toNatClampNeg) &&& 63) = 3 then (grd (vpb (x3 + 1) (aln w 83) = true) (grd (vpb (x3 + 2) (aln w 83) = true) (grd (¬ (v_X_isShelf w (w.1 83 (x3 + 1).toNatClampNeg)) = 0 → ¬ (v_Sh_isRow w (35 + 2 * (w.1 83 (x3 + 1).toNatClampNeg).toNatClampNeg)) = 0 → ¬ (v_Sh_has w (35 + 2 * (w.1 83 (x3 + 1).toNatClampNeg).toNatClampNeg) (w.1 83 (x3 + 2).toNatClampNeg)) = 0 → vpb (w.1 83 (x3 + 2).toNatClampNeg) 160 = true) (grd (vpb (x3 + 1) (aln w 83) = true) (grd (vpb (x3 + 2) (aln w 83) = true) (grd (¬ (v_M_within w (w.1 83 (x3 + 1).toNatClampNeg) 0 7) = 0 → ¬ (v_M_isRow w (w.1 83 (x3 + 1).toNatClampNeg)) = 0 → ¬ (v_M_within w (w.1 83 (x3 + 2).toNatClampNeg) 0 ((w.1 64 (w.1 83 (x3 + 1).toNatClampNeg).toNatClampNeg) - 1)) = 0 → vpb ((160 * (w.1 83 (x3 + 1).toNatClampNeg)) + (w.1 83 (x3 + 2).toNatClampNeg)) 1280 = true) (if (lg_cmp (v_X_element w (w.1 83 (x3 + 1).toNatClampNeg) (w.1 83 (x3 + 2).toNatClampNeg)) (v_M_element w (w.1 83 (x3 + 1).toNatClampNeg) (w.1 83 (x3 + 2).toNatClampNeg))) = 0 then (f_L_law_18 n w (x3 + 6)) else (some (some (.int (0 : Int32)), w))))))))) else if ((w.1 83 x3.toNatClampNeg) &&& 63) = 4 then (grd (vpb (x3 + 1) (aln w 83) = true) (grd (vpb (x3 + 2) (aln w 83) = true) (grd (vpb (x3 + 1) (aln (u_X_show w (w.1 83 (x3 + 1).toNatClampNeg) (w.1 83 (x3 + 2).toNatClampNeg)) 83) = true) (grd (vpb (x3 + 2) (aln (u_X_show w (w.1 83 (x3 + 1).toNatClampNeg) (w.1 83 (x3 + 2).toNatClampNeg)) 83) = true) (if (v_X_show w (w.1 83 (x3 + 1).toNatClampNeg) (w.1 83 (x3 + 2).toNatClampNeg)) = (v_M_show (u_X_show w (w.1 83 (x3 + 1).toNatClampNeg) (w.1 83 (x3 + 2).toNatClampNeg)) ((u_X_show w (w.1 83 (x3 + 1).toNatClampNeg) (w.1 83 (x3 + 2).toNatClampNeg)).1 83 (x3 + 1).toNatClampNeg) ((u_X_show w (w.1 83 (x3 + 1).toNatClampNeg) (w.1 83 (x3 + 2).toNatClampNeg)).1 83 (x3 + 2).toNatClampNeg)) then (f_L_law_18 n (u_M_show (u_X_show w (w.1 83 (x3 + 1).toNatClampNeg) (w.1 83 (x3 + 2).toNatClampNeg)) ((u_X_show w (w.1 83 (x3 + 1).toNatClampNeg) (w.1 83 (x3 + 2).toNatClampNeg)).1 83 (x3 + 1).toNatClampNeg) ((u_X_show w (w.1 83 (x3 + 1).toNatClampNeg) (w.1 83 (x3 + 2).toNatClampNeg)).1 83 (x3 + 2).toNatClampNeg)) (x3 + 6)) else (some (some (.int (0 : Int32)), u_M_show (u_X_show w (w.1 83 (x3 + 1).toNatClampNeg) (w.1 83 (x3 + 2).toNatClampNeg)) ((u_X_show w (w.1 83 (x3 + 1).toNatClampNeg) (w.1 83 (x3 + 2).toNatClampNeg)).1 83 (x3 + 1).toNatClampNeg) ((u_X_show w (w.1 83 (x3 + 1).toNatClampNeg) (w.1 83 (x3 + 2).toNatClampNeg)).1 83 (x3 + 2).toNatClampNeg)))))))) else if ((w.1 83 x3.toNatClampNeg) &&& 63) = 5 then (grd (vpb (x3 + 1) (aln w 83) = true) (grd (vpb (x3 + 1) (aln w 83) = true) (if (v_X_holds w (w.1 83 (x3 + 1).toNatClampNeg)) = (v_M_holds w (w.1 83 (x3 + 1).toNatClampNeg)) then (f_L_law_18 n w (x3 + 6)) else (some (some (.int (0 : Int32)), w))))) else if ((w.1 83 x3.toNatClampNeg) &&& 63) = 6 then (grd (vpb (x3 + 1) (aln w 83) = true) (grd (vpb (x3 + 2) (aln w 83) = true) (bI (f_X_says w (w.1 83 (x3 + 1).toNatClampNeg) (w.1 83 (x3 + 2).toNatClampNeg)) (fun v34 w34 => grd (vpb (x3 + 1) (aln w34 83) = true) (grd (vpb (x3 + 2) (aln w34 83) = true) (bI (f_M_says w34 (w34.1 83 (x3 + 1).toNatClampNeg) (w34.1 83 (x3 + 2).toNatClampNeg)) (fun v35 w35 => if v34 = v35 then (f_L_law_18 n w35 (x3 + 6)) else (some (some (.int (0 : Int32)), w35))))))))) else if ((w.1 83 x3.toNatClampNeg) &&& 63) = 7 then (grd (vpb (x3 + 1) (aln w 83) = true) (grd (vpb (x3 + 2) (aln w 83) = true) (grd (vpb (x3 + 3) (aln w 83) = true) (grd (¬ (v_X_isKind w (w.1 83 (x3 + 1).toNatClampNeg)) = 0 → ¬ (w.1 83 (x3 + 2).toNatClampNeg) < 0 → ¬ 10 ≤ (w.1 83 (x3 + 2).toNatClampNeg) → ¬ (w.1 83 (x3 + 3).toNatClampNeg) < 0 → (w.1 83 (x3 + 3).toNatClampNeg) < 3 → (w.1 1 1) < 8 → (w.1 1 1) < 8 → vpb (w.1 1 1) 8 = true) (grd (vpb (x3 + 1) (aln (u_X_man w (w.1 83 (x3 + 1).toNatClampNeg) (w.1 83 (x3 + 2).toNatClampNeg) (w.1 83 (x3 + 3).toNatClampNeg)) 83) = true) (grd (vpb (x3 + 2) (aln (u_X_man w (w.1 83 (x3 + 1).toNatClampNeg) (w.1 83 (x3 + 2).toNatClampNeg) (w.1 83 (x3 + 3).toNatClampNeg)) 83) = true) (grd (vpb (x3 + 3) (aln (u_X_man w (w.1 83 (x3 + 1).toNatClampNeg) (w.1 83 (x3 + 2).toNatClampNeg) (w.1 83 (x3 + 3).toNatClampNeg)) 83) = true) (bI (f_M_man (u_X_man w (w.1 83 (x3 + 1).toNatClampNeg) (w.1 83 (x3 + 2).toNatClampNeg) (w.1 83 (x3 + 3).toNatClampNeg)) ((u_X_man w (w.1 83 (x3 + 1).toNatClampNeg) (w.1 83 (x3 + 2).toNatClampNeg) (w.1 83 (x3 + 3).toNatClampNeg)).1 83 (x3 + 1).toNatClampNeg) ((u_X_man w (w.1 83 (x3 + 1).toNatClampNeg) (w.1 83 (x3 + 2).toNatClampNeg) (w.1 83 (x3 + 3).toNatClampNeg)).1 83 (x3 + 2).toNatClampNeg) ((u_X_man w (w.1 83 (x3 + 1).toNatClampNeg) (w.1 83 (x3 + 2).toNatClampNeg) (w.1 83 (x3 + 3).toNatClampNeg)).1 83 (x3 + 3).toNatClampNeg)) (fun v40 w40 => if (v_X_man w (w.1 83 (x3 + 1).toNatClampNeg) (w.1 83 (x3 + 2).toNatClampNeg) (w.1 83 (x3 + 3).toNatClampNeg)) = v40 then (f_L_law_18 n w40 (x3 + 6)) else (some (some (.int (0 : Int32)), w40))))))))))) else if ((w.1 83 x3.toNatClampNeg) &&& 63) = 8 then (grd (vpb (x3 + 1) (aln w 83) = true) (grd (vpb (x3 + 2) (aln w 83) = true) (bI (f_X_manOf w (w.1 83 (x3 + 1).toNatClampNeg) (w.1 83 (x3 + 2).toNatClampNeg)) (fun v44 w44 => grd (vpb (x3 + 1) (aln w44 83) = true) (grd (vpb (x3 + 2) (aln w44 83) = true) (bI (f_M_manOf w44 (w44.1 83 (x3 + 1).toNatClampNeg) (w44.1 83 (x3 + 2).toNatClampNeg)) (fun v45 w45 => if v44 = v45 then (f_L_law_18 n w45 (x3 + 6)) else (some (some (.int (0 : Int32)), w45))))))))) else if ((w.1 83 x3.toNatClampNeg) &&& 63) = 9 then (grd (vpb (x3 + 1) (aln w 83) = true) (grd (vpb (x3 + 2) (aln w 83) = true) (grd (vpb (x3 + 3) (aln w 83) = true) (if (w.1 83 (x3 + 3).toNatClampNeg) = 0 then (grd (¬ (v_Ct_isMan w 1 (w.1 83 (x3 + 1).toNatClampNeg)) = 0 → ¬ (v_Ct_isMan w 1 (w.1 83 (x3 + 2).toNatClampNeg)) = 0 → ¬ (w.1 83 (x3 + 1).toNatClampNeg) = (w.1 83 (x3 + 2).toNatClampNeg) → ¬ (v_Ct_isMan w 1 (w.1 83 (x3 + 1).toNatClampNeg)) = 0 → vpb (w.1 83 (x3 + 1).toNatClampNeg) 8 = true) (grd (¬ (v_Ct_isMan w 1 (w.1 83 (x3 + 1).toNatClampNeg)) = 0 → ¬ (v_Ct_isMan w 1 (w.1 83 (x3 + 2).toNatClampNeg)) = 0 → ¬ (w.1 83 (x3 + 1).toNatClampNeg) = (w.1 83 (x3 + 2).toNatClampNeg) → (v_Ct_doMeet w 1 (w.1 83 (x3 + 1).toNatClampNeg) (w.1 83 (x3 + 2).toNatClampNeg)) = 0 → ¬ (v_Ct_isMan w 1 (w.1 83 (x3 + 1).toNatClampNeg)) = 0 → ¬ (v_Ct_isMan w 1 (w.1 83 (x3 + 2).toNatClampNeg)) = 0 → (0 : Int32) = 0 → vpb (w.1 83 (x3 + 1).toNatClampNeg) 8 = true) (grd (¬ (v_Ct_isMan w 1 (w.1 83 (x3 + 1).toNatClampNeg)) = 0 → ¬ (v_Ct_isMan w 1 (w.1 83 (x3 + 2).toNatClampNeg)) = 0 → ¬ (w.1 83 (x3 + 1).toNatClampNeg) = (w.1 83 (x3 + 2).toNatClampNeg) → (v_Ct_doMeet w 1 (w.1 83 (x3 + 1).toNatClampNeg) (w.1 83 (x3 + 2).toNatClampNeg)) = 0 → ¬ (v_Ct_isMan w 1 (w.1 83 (x3 + 1).toNatClampNeg)) = 0 → ¬ (v_Ct_isMan w 1 (w.1 83 (x3 + 2).toNatClampNeg)) = 0 → (0 : Int32) = 0 → vpb (w.1 83 (x3 + 2).toNatClampNeg) 8 = true) (grd (¬ (v_Ct_isMan w 1 (w.1 83 (x3 + 1).toNatClampNeg)) = 0 → ¬ (v_Ct_isMan w 1 (w.1 83 (x3 + 2).toNatClampNeg)) = 0 → ¬ (w.1 83 (x3 + 1).toNatClampNeg) = (w.1 83 (x3 + 2).toNatClampNeg) → (v_Ct_doMeet w 1 (w.1 83 (x3 + 1).toNatClampNeg) (w.1 83 (x3 + 2).toNatClampNeg)) = 0 → ¬ (v_Ct_isMan w 1 (w.1 83 (x3 + 1).toNatClampNeg)) = 0 → ¬ (v_Ct_isMan w 1 (w.1 83 (x3 + 2).toNatClampNeg)) = 0 → ¬ (0 : Int32) = 0 → vpb (w.1 83 (x3 + 1).toNatClampNeg) 8 = true) (grd (¬ (v_Ct_isMan w 1 (w.1 83 (x3 + 1).toNatClampNeg)) = 0 → ¬ (v_Ct_isMan w 1 (w.1 83 (x3 + 2).toNatClampNeg)) = 0 → ¬ (w.1 83 (x3 + 1).toNatClampNeg) = (w.1 83 (x3 + 2).toNatClampNeg) → (v_Ct_doMeet w 1 (w.1 83 (x3 + 1).toNatClampNeg) (w.1 83 (x3 + 2).toNatClampNeg)) = 0 → ¬ (v_Ct_isMan w 1 (w.1 83 (x3 + 1).toNatClampNeg)) = 0 → ¬ (v_Ct_isMan w 1 (w.1 83 (x3 + 2).toNatClampNeg)) = 0 → ¬ (0 : Int32) = 0 → vpb (w.1 83 (x3 + 2).toNatClampNeg) 8 = true) (grd (¬ (v_Ct_isMan w 1 (w.1 83 (x3 + 1).toNatClampNeg)) = 0 → ¬ (v_Ct_isMan w 1 (w.1 83 (x3 + 2).toNatClampNeg)) = 0 → ¬ (w.1 83 (x3 + 1).toNatClampNeg) = (w.1 83 (x3 + 2).toNatClampNeg) → ¬ (v_Ct_doMeet w 1 (w.1 83 (x3 + 1).toNatClampNeg) (w.1 83 (x3 + 2).toNatClampNeg)) = 0 → ¬ (v_Ct_isMan w 1 (w.1 83 (x3 + 1).toNatClampNeg)) = 0 → ¬ (v_Ct_isMan w 1 (w.1 83 (x3 + 2).toNatClampNeg)) = 0 → (0 : Int32) = 0 → vpb (w.1 83 (x3 + 1).toNatClampNeg) 8 = true) (grd (¬ (v_Ct_isMan w 1 (w.1 83 (x3 + 1).toNatClampNeg)) = 0 → ¬ (v_Ct_isMan w 1 (w.1 83 (x3 + 2).toNatClampNeg)) = 0 → ¬ (w.1 83 (x3 + 1).toNatClampNeg) = (w.1 83 (x3 + 2).toNatClampNeg) → ¬ (v_Ct_doMeet w 1 (w.1 83 (x3 + 1).toNatClampNeg) (w.1 83 (x3 + 2).toNatClampNeg)) = 0 → ¬ (v_Ct_isMan w 1 (w.1 83 (x3 + 1).toNatClampNeg)) = 0 → ¬ (v_Ct_isMan w 1 (w.1 83 (x3 + 2).toNatClampNeg)) = 0 → (0 : Int32) = 0 → vpb (w.1 83 (x3 + 2).toNatClampNeg) 8 = true) (grd (¬ (v_Ct_isMan w 1 (w.1 83 (x3 + 1).toNatClampNeg)) = 0 → ¬ (v_Ct_isMan w 1 (w.1 83 (x3 + 2).toNatClampNeg)) = 0 → ¬ (w.1 83 (x3 + 1).toNatClampNeg) = (w.1 83 (x3 + 2).toNatClampNeg) → ¬ (v_Ct_doMeet w 1 (w.1 83 (x3 + 1).toNatClampNeg) (w.1 83 (x3 + 2).toNatClampNeg)) = 0 → ¬ (v_Ct_isMan w 1 (w.1 83 (x3 + 1).toNatClampNeg)) = 0 → ¬ (v_Ct_isMan w 1 (w.1 83 (x3 + 2).toNatClampNeg)) = 0 → ¬ (0 : Int32) = 0 → vpb (w.1 83 (x3 + 1).toNatClampNeg) 8 = true) (grd (¬ (v_Ct_isMan w 1 (w.1 83 (x3 + 1).toNatClampNeg)) = 0 → ¬ (v_Ct_isMan w 1 (w.1 83 (x3 + 2).toNatClampNeg)) = 0 → ¬ (w.1 83 (x3 + 1).toNatClampNeg) = (w.1 83 (x3 + 2).toNatClampNeg) → ¬ (v_Ct_doMeet w 1 (w.1 83 (x3 + 1).toNatClampNeg) (w.1 83 (x3 + 2).toNatClampNeg)) = 0 → ¬ (v_Ct_isMan w 1 (w.1 83 (x3 + 1).toNatClampNeg)) = 0 → ¬ (v_Ct_isMan w 1 (w.1 83 (x3 + 2).toNatClampNeg)) = 0 → ¬ (0 : Int32) = 0 → vpb (w.1 83 (x3 + 2).toNatClampNeg) 8 = true) (grd (vpb (x3 + 1) (aln (u_X_meet w (w.1 83 (x3 + 1).toNatClampNeg) (w.1 83 (x3 + 2).toNatClampNeg) (0 : Int32)) 83) = true) (grd (vpb (x3 + 2) (aln (u_X_meet w (w.1 83 (x3 + 1).toNatClampNeg) (w.1 83 (x3 + 2).toNatClampNeg) (0 : Int32)) 83) = true) (grd (vpb (x3 + 3) (aln (u_X_meet w (w.1 83 (x3 + 1).toNatClampNeg) (w.1 83 (x3 + 2).toNatClampNeg) (0 : Int32)) 83) = true) (if ((u_X_meet w (w.1 83 (x3 + 1).toNatClampNeg) (w.1 83 (x3 + 2).toNatClampNeg) (0 : Int32)).1 83 (x3 + 3).toNatClampNeg) = 0 then (grd (¬ (v_M_isMan (u_X_meet w (w.1 83 (x3 + 1).toNatClampNeg) (w.1 83 (x3 + 2).toNatClampNeg) (0 : Int32)) ((u_X_meet w (w.1 83 (x3 + 1).toNatClampNeg) (w.1 83 (x3 + 2).toNatClampNeg) (0 : Int32)).1 83 (x3 + 1).toNatClampNeg)) = 0 → ¬ (v_M_isMan (u_X_meet w (w.1 83 (x3 + 1).toNatClampNeg) (w.1 83 (x3 + 2).toNatClampNeg) (0 : Int32)) ((u_X_meet w (w.1 83 (x3 + 1).toNatClampNeg) (w.1 83 (x3 + 2).toNatClampNeg) (0 : Int32)).1 83 (x3 + 2).toNatClampNeg)) = 0 → ¬ ((u_X_meet w (w.1 83 (x3 + 1).toNatClampNeg) (w.1 83 (x3 + 2).toNatClampNeg) (0 : Int32)).1 83 (x3 + 1).toNatClampNeg) = ((u_X_meet w (w.1 83 (x3 + 1).toNatClampNeg) (w.1 83 (x3 + 2).toNatClampNeg) (0 : Int32)).1 83 (x3 + 2).toNatClampNeg) → vpb ((u_X_meet w (w.1 83 (x3 + 1).toNatClampNeg) (w.1 83 (x3 + 2).toNatClampNeg) (0 : Int32)).1 83 (x3 + 1).toNatClampNeg) 8 = true) (grd (¬ (v_M_isMan (u_X_meet w (w.1 83 (x3 + 1).toNatClampNeg) (w.1 83 (x3 + 2).toNatClampNeg) (0 : Int32)) ((u_X_meet w (w.1 83 (x3 + 1).toNatClampNeg) (w.1 83 (x3 + 2).toNatClampNeg) (0 : Int32)).1 83 (x3 + 1).toNatClampNeg)) = 0 → ¬ (v_M_isMan (u_X_meet w (w.1 83 (x3 + 1).toNatClampNeg) (w.1 83 (x3 + 2).toNatClampNeg) (0 : Int32)) ((u_X_meet w (w.1 83 (x3 + 1).toNatClampNeg) (w.1 83 (x3 + 2).toNatClampNeg) (0 : Int32)).1 83 (x3 + 2).toNatClampNeg)) = 0 → ¬ ((u_X_meet w (w.1 83 (x3 + 1).toNatClampNeg) (w.1 83 (x3 + 2).toNatClampNeg) (0 : Int32)).1 83 (x3 + 1).toNatClampNeg) = ((u_X_meet w (w.1 83 (x3 + 1).toNatClampNeg) (w.1 83 (x3 + 2).toNatClampNeg) (0 : Int32)).1 83 (x3 + 2).toNatClampNeg) → (v_M_has (u_X_meet w (w.1 83 (x3 + 1).toNatClampNeg) (w.1 83 (x3 + 2).toNatClampNeg) (0 : Int32)) ((u_X_meet w (w.1 83 (x3 + 1).toNatClampNeg) (w.1 83 (x3 + 2).toNatClampNeg) (0 : Int32)).1 71 ((u_X_meet w (w.1 83 (x3 + 1).toNatClampNeg) (w.1 83 (x3 + 2).toNatClampNeg) (0 : Int32)).1 83 (x3 + 1).toNatClampNeg).toNatClampNeg) ((u_X_meet w (w.1 83 (x3 + 1).toNatClampNeg) (w.1 83 (x3 + 2).toNatClampNeg) (0 : Int32)).1 83 (x3 + 2).toNatClampNeg)) = 0 → (0 : Int32) = 0 → vpb ((u_X_meet w (w.1 83 (x3 + 1).toNatClampNeg) (w.1 83 (x3 + 2).toNatClampNeg) (0 : Int32)).1 83 (x3 + 2).toNatClampNeg) 8 = true) (grd (¬ (v_M_isMan (u_X_meet w (w.1 83 (x3 + 1).toNatClampNeg) (w.1 83 (x3 + 2).toNatClampNeg) (0 : Int32)) ((u_X_meet w (w.1 83 (x3 + 1).toNatClampNeg) (w.1 83 (x3 + 2).toNatClampNeg) (0 : Int32)).1 83 (x3 + 1).toNatClampNeg)) = 0 → ¬ (v_M_isMan (u_X_meet w (w.1 83 (x3 + 1).toNatClampNeg) (w.1 83 (x3 + 2).toNatClampNeg) (0 : Int32)) ((u_X_meet w (w.1 83 (x3 + 1).toNatClampNeg) (w.1 83 (x3 + 2).toNatClampNeg) (0 : Int32)).1 83 (x3 + 2).toNatClampNeg)) = 0 → ¬ ((u_X_meet w (w.1 83 (x3 + 1).toNatClampNeg) (w.1 83 (x3 + 2).toNatClampNeg) (0 : Int32)).1 83 (x3 + 1).toNatClampNeg) = ((u_X_meet w (w.1 83 (x3 + 1).toNatClampNeg) (w.1 83 (x3 + 2).toNatClampNeg) (0 : Int32)).1 83 (x3 + 2).toNatClampNeg) → (v_M_has (u_X_meet w (w.1 83 (x3 + 1).toNatClampNeg) (w.1 83 (x3 + 2).toNatClampNeg) (0 : Int32)) ((u_X_meet w (w.1 83 (x3 + 1).toNatClampNeg) (w.1 83 (x3 + 2).toNatClampNeg) (0 : Int32)).1 71 ((u_X_meet w (w.1 83 (x3 + 1).toNatClampNeg) (w.1 83 (x3 + 2).toNatClampNeg) (0 : Int32)).1 83 (x3 + 1).toNatClampNeg).toNatClampNeg) ((u_X_meet w (w.1 83 (x3 + 1).toNatClampNeg) (w.1 83 (x3 + 2).toNatClampNeg) (0 : Int32)).1 83 (x3 + 2).toNatClampNeg)) = 0 → ¬ (0 : Int32) = 0 → vpb ((u_X_meet w (w.1 83 (x3 + 1).toNatClampNeg) (w.1 83 (x3 + 2).toNatClampNeg) (0 : Int32)).1 83 (x3 + 2).toNatClampNeg) 8 = true) (grd (¬ (v_M_isMan (u_X_meet w (w.1 83 (x3 + 1).toNatClampNeg) (w.1 83 (x3 + 2).toNatClampNeg) (0 : Int32)) ((u_X_meet w (w.1 83 (x3 + 1).toNatClampNeg) (w.1 83 (x3 + 2).toNatClampNeg) (0 : Int32)).1 83 (x3 + 1).toNatClampNeg)) = 0 → ¬ (v_M_isMan (u_X_meet w (w.1 83 (x3 + 1).toNatClampNeg) (w.1 83 (x3 + 2).toNatClampNeg) (0 : Int32)) ((u_X_meet w (w.1 83 (x3 + 1).toNatClampNeg) (w.1 83 (x3 + 2).toNatClampNeg) (0 : Int32)).1 83 (x3 + 2).toNatClampNeg)) = 0 → ¬ ((u_X_meet w (w.1 83 (x3 + 1).toNatClampNeg) (w.1 83 (x3 + 2).toNatClampNeg) (0 : Int32)).1 83 (x3 + 1).toNatClampNeg) = ((u_X_meet w (w.1 83 (x3 + 1).toNatClampNeg) (w.1 83 (x3 + 2).toNatClampNeg) (0 : Int32)).1 83 (x3 + 2).toNatClampNeg) → ¬ (v_M_has (u_X_meet w (w.1 83 (x3 + 1).toNatClampNeg) (w.1 83 (x3 + 2).toNatClampNeg) (0 : Int32)) ((u_X_meet w (w.1 83 (x3 + 1).toNatClampNeg) (w.1 83 (x3 + 2).toNatClampNeg) (0 : Int32)).1 71 ((u_X_meet w (w.1 83 (x3 + 1).toNatClampNeg) (w.1 83 (x3 + 2).toNatClampNeg) (0 : Int32)).1 83 (x3 + 1).toNatClampNeg).toNatClampNeg) ((u_X_meet w (w.1 83 (x3 + 1).toNatClampNeg) (w.1 83 (x3 + 2).toNatClampNeg) (0 : Int32)).1 83 (x3 + 2).toNatClampNeg)) = 0 → (0 : Int32) = 0 → vpb ((u_X_meet w (w.1 83 (x3 + 1).toNatClampNeg) (w.1 83 (x3 + 2).toNatClampNeg) (0 : Int32)).1 83 (x3 + 2).toNatClampNeg) 8 = true) (grd (¬ (v_M_isMan (u_X_meet w (w.1 83 (x3 + 1).toNatClampNeg) (w.1 83 (x3 + 2).toNatClampNeg) (0 : Int32)) ((u_X_meet w (w.1 83 (x3 + 1).toNatClampNeg) (w.1 83 (x3 + 2).toNatClampNeg) (0 : Int32)).1 83 (x3 + 1).toNatClampNeg)) = 0 → ¬ (v_M_isMan (u_X_meet w (w.1 83 (x3 + 1).toNatClampNeg) (w.1 83 (x3 + 2).toNatClampNeg) (0 : Int32)) ((u_X_meet w (w.1 83 (x3 + 1).toNatClampNeg) (w.1 83 (x3 + 2).toNatClampNeg) (0 : Int32)).1 83 (x3 + 2).toNatClampNeg)) = 0 → ¬ ((u_X_meet w (w.1 83 (x3 + 1).toNatClampNeg) (w.1 83 (x3 + 2).toNatClampNeg) (0 : Int32)).1 83 (x3 + 1).toNatClampNeg) = ((u_X_meet w (w.1 83 (x3 + 1).toNatClampNeg) (w.1 83 (x3 + 2).toNatClampNeg) (0 : Int32)).1 83 (x3 + 2).toNatClampNeg) → ¬ (v_M_has (u_X_meet w (w.1 83 (x3 + 1).toNatClampNeg) (w.1 83 (x3 + 2).toNatClampNeg) (0 : Int32)) ((u_X_meet w (w.1 83 (x3 + 1).toNatClampNeg) (w.1 83 (x3 + 2).toNatClampNeg) (0 : Int32)).1 71 ((u_X_meet w (w.1 83 (x3 + 1).toNatClampNeg) (w.1 83 (x3 + 2).toNatClampNeg) (0 : Int32)).1 83 (x3 + 1).toNatClampNeg).toNatClampNeg) ((u_X_meet w (w.1 83 (x3 + 1).toNatClampNeg) (w.1 83 (x3 + 2).toNatClampNeg) (0 : Int32)).1 83 (x3 + 2).toNatClampNeg)) = 0 → ¬ (0 : Int32) = 0 → vpb ((u_X_meet w (w.1 83 (x3 + 1).toNatClampNeg) (w.1 83 (x3 + 2).toNatClampNeg) (0 : Int32)).1 83 (x3 + 2).toNatClampNeg) 8 = true) (if (v_X_meet w (w.1 83 (x3 + 1).toNatClampNeg) (w.1 83 (x3 + 2).toNatClampNeg) (0 : Int32)) = (v_M_meet (u_X_meet w (w.1 83 (x3 + 1).toNatClampNeg) (w.1 83 (x3 + 2).toNatClampNeg) (0 : Int32)) ((u_X_meet w (w.1 83 (x3 + 1).toNatClampNeg) (w.1 83 (x3 + 2).toNatClampNeg) (0 : Int32)).1 83 (x3 + 1).toNatClampNeg) ((u_X_meet w (w.1 83 (x3 + 1).toNatClampNeg) (w.1 83 (x3 + 2).toNatClampNeg) (0 : Int32)).1 83 (x3 + 2).toNatClampNeg) (0 : Int32)) then (f_L_law_18 n (u_M_meet (u_X_meet w (w.1 83 (x3 + 1).toNatClampNeg) (w.1 83 (x3 + 2).toNatClampNeg) (0 : Int32)) ((u_X_meet w (w.1 83 (x3 + 1).toNatClampNeg) (w.1 83 (x3 + 2).toNatClampNeg) (0 : Int32)).1 83 (x3 + 1).toNatClampNeg) ((u_X_meet w (w.1 83 (x3 + 1).toNatClampNeg) (w.1 83 (x3 + 2).toNatClampNeg) (0 : Int32)).1 83 (x3 + 2).toNatClampNeg) (0 : Int32)) (x3 + 6)) else (some (some (.int (0 : Int32)), u_M_meet (u_X_meet w (w.1 83 (x3 + 1).toNatClampNeg) (w.1 83 (x3 + 2).toNatClampNeg) (0 : Int32)) ((u_X_meet w (w.1 83 (x3 + 1).toNatClampNeg) (w.1 83 (x3 + 2).toNatClampNeg) (0 : Int32)).1 83 (x3 + 1).toNatClampNeg) ((u_X_meet w (w.1 83 (x3 + 1).toNatClampNeg) (w.1 83 (x3 + 2).toNatClampNeg) (0 : Int32)).1 83 (x3 + 2).toNatClampNeg) (0 : Int32))))))))) else (grd (¬ (v_M_isMan (u_X_meet w (w.1 83 (x3 + 1).toNatClampNeg) (w.1 83 (x3 + 2).toNatClampNeg) (0 : Int32)) ((u_X_meet w (w.1 83 (x3 + 1).toNatClampNeg) (w.1 83 (x3 + 2).toNatClampNeg) (0 : Int32)).1 83 (x3 + 1).toNatClampNeg)) = 0 → ¬ (v_M_isMan (u_X_meet w (w.1 83 (x3 + 1).toNatClampNeg) (w.1 83 (x3 + 2).toNatClampNeg) (0 : Int32)) ((u_X_meet w (w.1 83 (x3 + 1).toNatClampNeg) (w.1 83 (x3 + 2).toNatClampNeg) (0 : Int32)).1 83 (x3 + 2).toNatClampNeg)) = 0 → ¬ ((u_X_meet w (w.1 83 (x3 + 1).toNatClampNeg) (w.1 83 (x3 + 2).toNatClampNeg) (0 : Int32)).1 83 (x3 + 1).toNatClampNeg) = ((u_X_meet w (w.1 83 (x3 + 1).toNatClampNeg) (w.1 83 (x3 + 2).toNatClampNeg) (0 : Int32)).1 83 (x3 + 2).toNatClampNeg) → vpb ((u_X_meet w (w.1 83 (x3 + 1).toNatClampNeg) (w.1 83 (x3 + 2).toNatClampNeg) (0 : Int32)).1 83 (x3 + 1).toNatClampNeg) 8 = true) (grd (¬ (v_M_isMan (u_X_meet w (w.1 83 (x3 + 1).toNatClampNeg) (w.1 83 (x3 + 2).toNatClampNeg) (0 : Int32)) ((u_X_meet w (w.1 83 (x3 + 1).toNatClampNeg) (w.1 83 (x3 + 2).toNatClampNeg) (0 : Int32)).1 83 (x3 + 1).toNatClampNeg)) = 0 → ¬ (v_M_isMan (u_X_meet w (w.1 83 (x3 + 1).toNatClampNeg) (w.1 83 (x3 + 2).toNatClampNeg) (0 : Int32)) ((u_X_meet w (w.1 83 (x3 + 1).toNatClampNeg) (w.1 83 (x3 + 2).toNatClampNeg) (0 : Int32)).1 83 (x3 + 2).toNatClampNeg)) = 0 → ¬ ((u_X_meet w (w.1 83 (x3 + 1).toNatClampNeg) (w.1 83 (x3 + 2).toNatClampNeg) (0 : Int32)).1 83 (x3 + 1).toNatClampNeg) = ((u_X_meet w (w.1 83 (x3 + 1).toNatClampNeg) (w.1 83 (x3 + 2).toNatClampNeg) (0 : Int32)).1 83 (x3 + 2).toNatClampNeg) → (v_M_has (u_X_meet w (w.1 83 (x3 + 1).toNatClampNeg) (w.1 83 (x3 + 2).toNatClampNeg) (0 : Int32)) ((u_X_meet w (w.1 83 (x3 + 1).toNatClampNeg) (w.1 83 (x3 + 2).toNatClampNeg) (0 : Int32)).1 71 ((u_X_meet w (w.1 83 (x3 + 1).toNatClampNeg) (w.1 83 (x3 + 2).toNatClampNeg) (0 : Int32)).1 83 (x3 + 1).toNatClampNeg).toNatClampNeg) ((u_X_meet w (w.1 83 (x3 + 1).toNatClampNeg) (w.1 83 (x3 + 2).toNatClampNeg) (0 : Int32)).1 83 (x3 + 2).toNatClampNeg)) = 0 → (1 : Int32) = 0 → vpb ((u_X_meet w (w.1 83 (x3 + 1).toNatClampNeg) (w.1 83 (x3 + 2).toNatClampNeg) (0 : Int32)).1 83 (x3 + 2).toNatClampNeg) 8 = true) (grd (¬ (v_M_isMan (u_X_meet w (w.1 83 (x3 + 1).toNatClampNeg) (w.1 83 (x3 + 2).toNatClampNeg) (0 : Int32)) ((u_X_meet w (w.1 83 (x3 + 1).toNatClampNeg) (w.1 83 (x3 + 2).toNatClampNeg) (0 : Int32)).1 83 (x3 + 1).toNatClampNeg)) = 0 → ¬ (v_M_isMan (u_X_meet w (w.1 83 (x3 + 1).toNatClampNeg) (w.1 83 (x3 + 2).toNatClampNeg) (0 : Int32)) ((u_X_meet w (w.1 83 (x3 + 1).toNatClampNeg) (w.1 83 (x3 + 2).toNatClampNeg) (0 : Int32)).1 83 (x3 + 2).toNatClampNeg)) = 0 → ¬ ((u_X_meet w (w.1 83 (x3 + 1).toNatClampNeg) (w.1 83 (x3 + 2).toNatClampNeg) (0 : Int32)).1 83 (x3 + 1).toNatClampNeg) = ((u_X_meet w (w.1 83 (x3 + 1).toNatClampNeg) (w.1 83 (x3 + 2).toNatClampNeg) (0 : Int32)).1 83 (x3 + 2).toNatClampNeg) → (v_M_has (u_X_meet w (w.1 83 (x3 + 1).toNatClampNeg) (w.1 83 (x3 + 2).toNatClampNeg) (0 : Int32)) ((u_X_meet w (w.1 83 (x3 + 1).toNatClampNeg) (w.1 83 (x3 + 2).toNatClampNeg) (0 : Int32)).1 71 ((u_X_meet w (w.1 83 (x3 + 1).toNatClampNeg) (w.1 83 (x3 + 2).toNatClampNeg) (0 : Int32)).1 83 (x3 + 1).toNatClampNeg).toNatClampNeg) ((u_X_meet w (w.1 83 (x3 + 1).toNatClampNeg) (w.1 83 (x3 + 2).toNatClampNeg) (0 : Int32)).1 83 (x3 + 2).toNatClampNeg)) = 0 → ¬ (1 : Int32) = 0 → vpb ((u_X_meet w (w.1 83 (x3 + 1).toNatClampNeg) (w.1 83 (x3 + 2).toNatClampNeg) (0 : Int32)).1 83 (x3 + 2).toNatClampNeg) 8 = true) (grd (¬ (v_M_isMan (u_X_meet w (w.1 83 (x3 + 1).toNatClampNeg) (w.1 83 (x3 + 2).toNatClampNeg) (0 : Int32)) ((u_X_meet w (w.1 83 (x3 + 1).toNatClampNeg) (w.1 83 (x3 + 2).toNatClampNeg) (0 : Int32)).1 83 (x3 + 1).toNatClampNeg)) = 0 → ¬ (v_M_isMan (u_X_meet w (w.1 83 (x3 + 1).toNatClampNeg) (w.1 83 (x3 + 2).toNatClampNeg) (0 : Int32)) ((u_X_meet w (w.1 83 (x3 + 1).toNatClampNeg) (w.1 83 (x3 + 2).toNatClampNeg) (0 : Int32)).1 83 (x3 + 2).toNatClampNeg)) = 0 → ¬ ((u_X_meet w (w.1 83 (x3 + 1).toNatClampNeg) (w.1 83 (x3 + 2).toNatClampNeg) (0 : Int32)).1 83 (x3 + 1).toNatClampNeg) = ((u_X_meet w (w.1 83 (x3 + 1).toNatClampNeg) (w.1 83 (x3 + 2).toNatClampNeg) (0 : Int32)).1 83 (x3 + 2).toNatClampNeg) → ¬ (v_M_has (u_X_meet w (w.1 83 (x3 + 1).toNatClampNeg) (w.1 83 (x3 + 2).toNatClampNeg) (0 : Int32)) ((u_X_meet w (w.1 83 (x3 + 1).toNatClampNeg) (w.1 83 (x3 + 2).toNatClampNeg) (0 : Int32)).1 71 ((u_X_meet w (w.1 83 (x3 + 1).toNatClampNeg) (w.1 83 (x3 + 2).toNatClampNeg) (0 : Int32)).1 83 (x3 + 1).toNatClampNeg).toNatClampNeg) ((u_X_meet w (w.1 83 (x3 + 1).toNatClampNeg) (w.1 83 (x3 + 2).toNatClampNeg) (0 : Int32)).1 83 (x3 + 2).toNatClampNeg)) = 0 → (1 : Int32) = 0 → vpb ((u_X_meet w (w.1 83 (x3 + 1).toNatClampNeg) (w.1 83 (x3 + 2).toNatClampNeg) (0 : Int32)).1 83 (x3 + 2).toNatClampNeg) 8 = true) (grd (¬ (v_M_isMan (u_X_meet w (w.1 83 (x3 + 1).toNatClampNeg) (w.1 83 (x3 + 2).toNatClampNeg) (0 : Int32)) ((u_X_meet w (w.1 83 (x3 + 1).toNatClampNeg) (w.1 83 (x3 + 2).toNatClampNeg) (0 : Int32)).1 83 (x3 + 1).toNatClampNeg)) = 0 → ¬ (v_M_isMan (u_X_meet w (w.1 83 (x3 + 1).toNatClampNeg) (w.1 83 (x3 + 2).toNatClampNeg) (0 : Int32)) ((u_X_meet w (w.1 83 (x3 + 1).toNatClampNeg) (w.1 83 (x3 + 2).toNatClampNeg) (0 : Int32)).1 83 (x3 + 2).toNatClampNeg)) = 0 → ¬ ((u_X_meet w (w.1 83 (x3 + 1).toNatClampNeg) (w.1 83 (x3 + 2).toNatClampNeg) (0 : Int32)).1 83 (x3 + 1).toNatClampNeg) = ((u_X_meet w (w.1 83 (x3 + 1).toNatClampNeg) (w.1 83 (x3 + 2).toNatClampNeg) (0 : Int32)).1 83 (x3 + 2).toNatClampNeg) → ¬ (v_M_has (u_X_meet w (w.1 83 (x3 + 1).toNatClampNeg) (w.1 83 (x3 + 2).toNatClampNeg) (0 : Int32)) ((u_X_meet w (w.1 83 (x3 + 1).toNatClampNeg) (w.1 83 (x3 + 2).toNatClampNeg) (0 : Int32)).1 71 ((u_X_meet w (w.1 83 (x3 + 1).toNatClampNeg) (w.1 83 (x3 + 2).toNatClampNeg) (0 : Int32)).1 83 (x3 + 1).toNatClampNeg).toNatClampNeg) ((u_X_meet w (w.1 83 (x3 + 1).toNatClampNeg) (w.1 83 (x3 + 2).toNatClampNeg) (0 : Int32)).1 83 (x3 + 2).toNatClampNeg)) = 0 → ¬ (1 : Int32) = 0 → vpb ((u_X_meet w (w.1 83 (x3 + 1).toNatClampNeg) (w.1 83 (x3 + 2).toNatClampNeg) (0 : Int32)).1 83 (x3 + 2).toNatClampNeg) 8 = true) (if (v_X_meet w (w.1 83 (x3 + 1).toNatClampNeg) (w.1 83 (x3 + 2).toNatClampNeg) (0 : Int32)) = (v_M_meet (u_X_meet w (w.1 83 (x3 + 1).toNatClampNeg) (w.1 83 (x3 + 2).toNatClampNeg) (0 : Int32)) ((u_X_meet w (w.1 83 (x3 + 1).toNatClampNeg) (w.1 83 (x3 + 2).toNatClampNeg) (0 : Int32)).1 83 (x3 + 1).toNatClampNeg) ((u_X_meet w (w.1 83 (x3 + 1).toNatClampNeg) (w.1 83 (x3 + 2).toNatClampNeg) (0 : Int32)).1 83 (x3 + 2).toNatClampNeg) (1 : Int32)) then (f_L_law_18 n (u_M_meet (u_X_meet w (w.1 83 (x3 + 1).toNatClampNeg) (w.1 83 (x3 + 2).toNatClampNeg) (0 : Int32)) ((u_X_meet w (w.1 83 (x3 + 1).toNatClampNeg) (w.1 83 (x3 + 2).toNatClampNeg) (0 : Int32)).1 83 (x3 + 1).toNatClampNeg) ((u_X_meet w (w.1 83 (x3 + 1).toNatClampNeg) (w.1 83 (x3 + 2).toNatClampNeg) (0 : Int32)).1 83 (x3 + 2).toNatClampNeg) (1 : Int32)) (x3 + 6)) else (some (some (.int (0 : Int32)), u_M_meet (u_X_meet w (w.1 83 (x3 + 1).toNatClampNeg) (w.1 83 (x3 + 2).toNatClampNeg) (0 : Int32)) ((u_X_meet w (w.1 83 (x3 + 1).toNatClampNeg) (w.1 83 (x3 + 2).toNatClampNeg) (0 : Int32)).1 83 (x3 + 1).toNatClampNeg) ((u_X_meet w (w.1 83 (x3 + 1).toNatClampNeg) (w.1 83 (x3 + 2).toNatClampNeg) (0 : Int32)).1 83 (x3 + 2).toNatClampNeg) (1 : Int32)))))))))))))))))))))) else (grd (¬ (v_Ct_isMan w 1 (w.1 83 (x3 + 1).toNatClampNeg)) = 0 → ¬ (v_Ct_isMan w 1 (w.1 83 (x3 + 2).toNatClampNeg)) = 0 → ¬ (w.1 83 (x3 + 1).toNatClampNeg) = (w.1 83 (x3 + 2).toNatClampNeg) → ¬ (v_Ct_isMan w 1 (w.1 83 (x3 + 1).toNatClampNeg)) = 0 → vpb (w.1 83 (x3 + 1).toNatClampNeg) 8 = true) (grd (¬ (v_Ct_isMan w 1 (w.1 83 (x3 + 1).toNatClampNeg)) = 0 → ¬ (v_Ct_isMan w 1 (w.1 83 (x3 + 2).toNatClampNeg)) = 0 → ¬ (w.1 83 (x3 + 1).toNatClampNeg) = (w.1 83 (x3 + 2).toNatClampNeg) → (v_Ct_doMeet w 1 (w.1 83 (x3 + 1).toNatClampNeg) (w.1 83 (x3 + 2).toNatClampNeg)) = 0 → ¬ (v_Ct_isMan w 1 (w.1 83 (x3 + 1).toNatClampNeg)) = 0 → ¬ (v_Ct_isMan w 1 (w.1 83 (x3 + 2).toNatClampNeg)) = 0 → (1 : Int32) = 0 → vpb (w.1 83 (x3 + 1).toNatClampNeg) 8 = true) (grd (¬ (v_Ct_isMan w 1 (w.1 83 (x3 + 1).toNatClampNeg)) = 0 → ¬ (v_Ct_isMan w 1 (w.1 83 (x3 + 2).toNatClampNeg)) = 0 → ¬ (w.1 83 (x3 + 1).toNatClampNeg) = (w.1 83 (x3 + 2).toNatClampNeg) → (v_Ct_doMeet w 1 (w.1 83 (x3 + 1).toNatClampNeg) (w.1 83 (x3 + 2).toNatClampNeg)) = 0 → ¬ (v_Ct_isMan w 1 (w.1 83 (x3 + 1).toNatClampNeg)) = 0 → ¬ (v_Ct_isMan w 1 (w.1 83 (x3 + 2).toNatClampNeg)) = 0 → (1 : Int32) = 0 → vpb (w.1 83 (x3 + 2).toNatClampNeg) 8 = true) (grd (¬ (v_Ct_isMan w 1 (w.1 83 (x3 + 1).toNatClampNeg)) = 0 → ¬ (v_Ct_isMan w 1 (w.1 83 (x3 + 2).toNatClampNeg)) = 0 → ¬ (w.1 83 (x3 + 1).toNatClampNeg) = (w.1 83 (x3 + 2).toNatClampNeg) → (v_Ct_doMeet w 1 (w.1 83 (x3 + 1).toNatClampNeg) (w.1 83 (x3 + 2).toNatClampNeg)) = 0 → ¬ (v_Ct_isMan w 1 (w.1 83 (x3 + 1).toNatClampNeg)) = 0 → ¬ (v_Ct_isMan w 1 (w.1 83 (x3 + 2).toNatClampNeg)) = 0 → ¬ (1 : Int32) = 0 → vpb (w.1 83 (x3 + 1).toNatClampNeg) 8 = true) (grd (¬ (v_Ct_isMan w 1 (w.1 83 (x3 + 1).toNatClampNeg)) = 0 → ¬ (v_Ct_isMan w 1 (w.1 83 (x3 + 2).toNatClampNeg)) = 0 → ¬ (w.1 83 (x3 + 1).toNatClampNeg) = (w.1 83 (x3 + 2).toNatClampNeg) → (v_Ct_doMeet w 1 (w.1 83 (x3 + 1).toNatClampNeg) (w.1 83 (x3 + 2).toNatClampNeg)) = 0 → ¬ (v_Ct_isMan w 1 (w.1 83 (x3 + 1).toNatClampNeg)) = 0 → ¬ (v_Ct_isMan w 1 (w.1 83 (x3 + 2).toNatClampNeg)) = 0 → ¬ (1 : Int32) = 0 → vpb (w.1 83 (x3 + 2).toNatClampNeg) 8 = true) (grd (¬ (v_Ct_isMan w 1 (w.1 83 (x3 + 1).toNatClampNeg)) = 0 → ¬ (v_Ct_isMan w 1 (w.1 83 (x3 + 2).toNatClampNeg)) = 0 → ¬ (w.1 83 (x3 + 1).toNatClampNeg) = (w.1 83 (x3 + 2).toNatClampNeg) → ¬ (v_Ct_doMeet w 1 (w.1 83 (x3 + 1).toNatClampNeg) (w.1 83 (x3 + 2).toNatClampNeg)) = 0 → ¬ (v_Ct_isMan w 1 (w.1 83 (x3 + 1).toNatClampNeg)) = 0 → ¬ (v_Ct_isMan w 1 (w.1 83 (x3 + 2).toNatClampNeg)) = 0 → (1 : Int32) = 0 → vpb (w.1 83 (x3 + 1).toNatClampNeg) 8 = true) (grd (¬ (v_Ct_isMan w 1 (w.1 83 (x3 + 1).toNatClampNeg)) = 0 → ¬ (v_Ct_isMan w 1 (w.1 83 (x3 + 2).toNatClampNeg)) = 0 → ¬ (w.1 83 (x3 + 1).toNatClampNeg) = (w.1 83 (x3 + 2).toNatClampNeg) → ¬ (v_Ct_doMeet w 1 (w.1 83 (x3 + 1).toNatClampNeg) (w.1 83 (x3 + 2).toNatClampNeg)) = 0 → ¬ (v_Ct_isMan w 1 (w.1 83 (x3 + 1).toNatClampNeg)) = 0 → ¬ (v_Ct_isMan w 1 (w.1 83 (x3 + 2).toNatClampNeg)) = 0 → (1 : Int32) = 0 → vpb (w.1 83 (x3 + 2).toNatClampNeg) 8 = true) (grd (¬ (v_Ct_isMan w 1 (w.1 83 (x3 + 1).toNatClampNeg)) = 0 → ¬ (v_Ct_isMan w 1 (w.1 83 (x3 + 2).toNatClampNeg)) = 0 → ¬ (w.1 83 (x3 + 1).toNatClampNeg) = (w.1 83 (x3 + 2).toNatClampNeg) → ¬ (v_Ct_doMeet w 1 (w.1 83 (x3 + 1).toNatClampNeg) (w.1 83 (x3 + 2).toNatClampNeg)) = 0 → ¬ (v_Ct_isMan w 1 (w.1 83 (x3 + 1).toNatClampNeg)) = 0 → ¬ (v_Ct_isMan w 1 (w.1 83 (x3 + 2).toNatClampNeg)) = 0 → ¬ (1 : Int32) = 0 → vpb (w.1 83 (x3 + 1).toNatClampNeg) 8 = true) (grd (¬ (v_Ct_isMan w 1 (w.1 83 (x3 + 1).toNatClampNeg)) = 0 → ¬ (v_Ct_isMan w 1 (w.1 83 (x3 + 2).toNatClampNeg)) = 0 → ¬ (w.1 83 (x3 + 1).toNatClampNeg) = (w.1 83 (x3 + 2).toNatClampNeg) → ¬ (v_Ct_doMeet w 1 (w.1 83 (x3 + 1).toNatClampNeg) (w.1 83 (x3 + 2).toNatClampNeg)) = 0 → ¬ (v_Ct_isMan w 1 (w.1 83 (x3 + 1).toNatClampNeg)) = 0 → ¬ (v_Ct_isMan w 1 (w.1 83 (x3 + 2).toNatClampNeg)) = 0 → ¬ (1 : Int32) = 0 → vpb (w.1 83 (x3 + 2).toNatClampNeg) 8 = true) (grd (vpb (x3 + 1) (aln (u_X_meet w (w.1 83 (x3 + 1).toNatClampNeg) (w.1 83 (x3 + 2).toNatClampNeg) (1 : Int32)) 83) = true) (grd (vpb (x3 + 2) (aln (u_X_meet w (w.1 83 (x3 + 1).toNatClampNeg) (w.1 83 (x3 + 2).toNatClampNeg) (1 : Int32)) 83) = true) (grd (vpb (x3 + 3) (aln (u_X_meet w (w.1 83 (x3 + 1).toNatClampNeg) (w.1 83 (x3 + 2).toNatClampNeg) (1 : Int32)) 83) = true) (if ((u_X_meet w (w.1 83 (x3 + 1).toNatClampNeg) (w.1 83 (x3 + 2).toNatClampNeg) (1 : Int32)).1 83 (x3 + 3).toNatClampNeg) = 0 then (grd (¬ (v_M_isMan (u_X_meet w (w.1 83 (x3 + 1).toNatClampNeg) (w.1 83 (x3 + 2).toNatClampNeg) (1 : Int32)) ((u_X_meet w (w.1 83 (x3 + 1).toNatClampNeg) (w.1 83 (x3 + 2).toNatClampNeg) (1 : Int32)).1 83 (x3 + 1).toNatClampNeg)) = 0 → ¬ (v_M_isMan (u_X_meet w (w.1 83 (x3 + 1).toNatClampNeg) (w.1 83 (x3 + 2).toNatClampNeg) (1 : Int32)) ((u_X_meet w (w.1 83 (x3 + 1).toNatClampNeg) (w.1 83 (x3 + 2).toNatClampNeg) (1 : Int32)).1 83 (x3 + 2).toNatClampNeg)) = 0 → ¬ ((u_X_meet w (w.1 83 (x3 + 1).toNatClampNeg) (w.1 83 (x3 + 2).toNatClampNeg) (1 : Int32)).1 83 (x3 + 1).toNatClampNeg) = ((u_X_meet w (w.1 83 (x3 + 1).toNatClampNeg) (w.1 83 (x3 + 2).toNatClampNeg) (1 : Int32)).1 83 (x3 + 2).toNatClampNeg) → vpb ((u_X_meet w (w.1 83 (x3 + 1).toNatClampNeg) (w.1 83 (x3 + 2).toNatClampNeg) (1 : Int32)).1 83 (x3 + 1).toNatClampNeg) 8 = true) (grd (¬ (v_M_isMan (u_X_meet w (w.1 83 (x3 + 1).toNatClampNeg) (w.1 83 (x3 + 2).toNatClampNeg) (1 : Int32)) ((u_X_meet w (w.1 83 (x3 + 1).toNatClampNeg) (w.1 83 (x3 + 2).toNatClampNeg) (1 : Int32)).1 83 (x3 + 1).toNatClampNeg)) = 0 → ¬ (v_M_isMan (u_X_meet w (w.1 83 (x3 + 1).toNatClampNeg) (w.1 83 (x3 + 2).toNatClampNeg) (1 : Int32)) ((u_X_meet w (w.1 83 (x3 + 1).toNatClampNeg) (w.1 83 (x3 + 2).toNatClampNeg) (1 : Int32)).1 83 (x3 + 2).toNatClampNeg)) = 0 → ¬ ((u_X_meet w (w.1 83 (x3 + 1).toNatClampNeg) (w.1 83 (x3 + 2).toNatClampNeg) (1 : Int32)).1 83 (x3 + 1).toNatClampNeg) = ((u_X_meet w (w.1 83 (x3 + 1).toNatClampNeg) (w.1 83 (x3 + 2).toNatClampNeg) (1 : Int32)).1 83 (x3 + 2).toNatClampNeg) → (v_M_has (u_X_meet w (w.1 83 (x3 + 1).toNatClampNeg) (w.1 83 (x3 + 2).toNatClampNeg) (1 : Int32)) ((u_X_meet w (w.1 83 (x3 + 1).toNatClampNeg) (w.1 83 (x3 + 2).toNatClampNeg) (1 : Int32)).1 71 ((u_X_meet w (w.1 83 (x3 + 1).toNatClampNeg) (w.1 83 (x3 + 2).toNatClampNeg) (1 : Int32)).1 83 (x3 + 1).toNatClampNeg).toNatClampNeg) ((u_X_meet w (w.1 83 (x3 + 1).toNatClampNeg) (w.1 83 (x3 + 2).toNatClampNeg) (1 : Int32)).1 83 (x3 + 2).toNatClampNeg)) = 0 → (0 : Int32) = 0 → vpb ((u_X_meet w (w.1 83 (x3 + 1).toNatClampNeg) (w.1 83 (x3 + 2).toNatClampNeg) (1 : Int32)).1 83 (x3 + 2).toNatClampNeg) 8 = true) (grd (¬ (v_M_isMan (u_X_meet w (w.1 83 (x3 + 1).toNatClampNeg) (w.1 83 (x3 + 2).toNatClampNeg) (1 : Int32)) ((u_X_meet w (w.1 83 (x3 + 1).toNatClampNeg) (w.1 83 (x3 + 2).toNatClampNeg) (1 : Int32)).1 83 (x3 + 1).toNatClampNeg)) = 0 → ¬ (v_M_isMan (u_X_meet w (w.1 83 (x3 + 1).toNatClampNeg) (w.1 83 (x3 + 2).toNatClampNeg) (1 : Int32)) ((u_X_meet w (w.1 83 (x3 + 1).toNatClampNeg) (w.1 83 (x3 + 2).toNatClampNeg) (1 : Int32)).1 83 (x3 + 2).toNatClampNeg)) = 0 → ¬ ((u_X_meet w (w.1 83 (x3 + 1).toNatClampNeg) (w.1 83 (x3 + 2).toNatClampNeg) (1 : Int32)).1 83 (x3 + 1).toNatClampNeg) = ((u_X_meet w (w.1 83 (x3 + 1).toNatClampNeg) (w.1 83 (x3 + 2).toNatClampNeg) (1 : Int32)).1 83 (x3 + 2).toNatClampNeg) → (v_M_has (u_X_meet w (w.1 83 (x3 + 1).toNatClampNeg) (w.1 83 (x3 + 2).toNatClampNeg) (1 : Int32)) ((u_X_meet w (w.1 83 (x3 + 1).toNatClampNeg) (w.1 83 (x3 + 2).toNatClampNeg) (1 : Int32)).1 71 ((u_X_meet w (w.1 83 (x3 + 1).toNatClampNeg) (w.1 83 (x3 + 2).toNatClampNeg) (1 : Int32)).1 83 (x3 + 1).toNatClampNeg).toNatClampNeg) ((u_X_meet w (w.1 83 (x3 + 1).toNatClampNeg) (w.1 83 (x3 + 2).toNatClampNeg) (1 : Int32)).1 83 (x3 + 2).toNatClampNeg)) = 0 → ¬ (0 : Int32) = 0 → vpb ((u_X_meet w (w.1 83 (x3 + 1).toNatClampNeg) (w.1 83 (x3 + 2).toNatClampNeg) (1 : Int32)).1 83 (x3 + 2).toNatClampNeg) 8 = true) (grd (¬ (v_M_isMan (u_X_meet w (w.1 83 (x3 + 1).toNatClampNeg) (w.1 83 (x3 + 2).toNatClampNeg) (1 : Int32)) ((u_X_meet w (w.1 83 (x3 + 1).toNatClampNeg) (w.1 83 (x3 + 2).toNatClampNeg) (1 : Int32)).1 83 (x3 + 1).toNatClampNeg)) = 0 → ¬ (v_M_isMan (u_X_meet w (w.1 83 (x3 + 1).toNatClampNeg) (w.1 83 (x3 + 2).toNatClampNeg) (1 : Int32)) ((u_X_meet w (w.1 83 (x3 + 1).toNatClampNeg) (w.1 83 (x3 + 2).toNatClampNeg) (1 : Int32)).1 83 (x3 + 2).toNatClampNeg)) = 0 → ¬ ((u_X_meet w (w.1 83 (x3 + 1).toNatClampNeg) (w.1 83 (x3 + 2).toNatClampNeg) (1 : Int32)).1 83 (x3 + 1).toNatClampNeg) = ((u_X_meet w (w.1 83 (x3 + 1).toNatClampNeg) (w.1 83 (x3 + 2).toNatClampNeg) (1 : Int32)).1 83 (x3 + 2).toNatClampNeg) → ¬ (v_M_has (u_X_meet w (w.1 83 (x3 + 1).toNatClampNeg) (w.1 83 (x3 + 2).toNatClampNeg) (1 : Int32)) ((u_X_meet w (w.1 83 (x3 + 1).toNatClampNeg) (w.1 83 (x3 + 2).toNatClampNeg) (1 : Int32)).1 71 ((u_X_meet w (w.1 83 (x3 + 1).toNatClampNeg) (w.1 83 (x3 + 2).toNatClampNeg) (1 : Int32)).1 83 (x3 + 1).toNatClampNeg).toNatClampNeg) ((u_X_meet w (w.1 83 (x3 + 1).toNatClampNeg) (w.1 83 (x3 + 2).toNatClampNeg) (1 : Int32)).1 83 (x3 + 2).toNatClampNeg)) = 0 → (0 : Int32) = 0 → vpb ((u_X_meet w (w.1 83 (x3 + 1).toNatClampNeg) (w.1 83 (x3 + 2).toNatClampNeg) (1 : Int32)).1 83 (x3 + 2).toNatClampNeg) 8 = true) (grd (¬ (v_M_isMan (u_X_meet w (w.1 83 (x3 + 1).toNatClampNeg) (w.1 83 (x3 + 2).toNatClampNeg) (1 : Int32)) ((u_X_meet w (w.1 83 (x3 + 1).toNatClampNeg) (w.1 83 (x3 + 2).toNatClampNeg) (1 : Int32)).1 83 (x3 + 1).toNatClampNeg)) = 0 → ¬ (v_M_isMan (u_X_meet w (w.1 83 (x3 + 1).toNatClampNeg) (w.1 83 (x3 + 2).toNatClampNeg) (1 : Int32)) ((u_X_meet w (w.1 83 (x3 + 1).toNatClampNeg) (w.1 83 (x3 + 2).toNatClampNeg) (1 : Int32)).1 83 (x3 + 2).toNatClampNeg)) = 0 → ¬ ((u_X_meet w (w.1 83 (x3 + 1).toNatClampNeg) (w.1 83 (x3 + 2).toNatClampNeg) (1 : Int32)).1 83 (x3 + 1).toNatClampNeg) = ((u_X_meet w (w.1 83 (x3 + 1).toNatClampNeg) (w.1 83 (x3 + 2).toNatClampNeg) (1 : Int32)).1 83 (x3 + 2).toNatClampNeg) → ¬ (v_M_has (u_X_meet w (w.1 83 (x3 + 1).toNatClampNeg) (w.1 83 (x3 + 2).toNatClampNeg) (1 : Int32)) ((u_X_meet w (w.1 83 (x3 + 1).toNatClampNeg) (w.1 83 (x3 + 2).toNatClampNeg) (1 : Int32)).1 71 ((u_X_meet w (w.1 83 (x3 + 1).toNatClampNeg) (w.1 83 (x3 + 2).toNatClampNeg) (1 : Int32)).1 83 (x3 + 1).toNatClampNeg).toNatClampNeg) ((u_X_meet w (w.1 83 (x3 + 1).toNatClampNeg) (w.1 83 (x3 + 2).toNatClampNeg) (1 : Int32)).1 83 (x3 + 2).toNatClampNeg)) = 0 → ¬ (0 : Int32) = 0 → vpb ((u_X_meet w (w.1 83 (x3 + 1).toNatClampNeg) (w.1 83 (x3 + 2).toNatClampNeg) (1 : Int32)).1 83 (x3 + 2).toNatClampNeg) 8 = true) (if (v_X_meet w (w.1 83 (x3 + 1).toNatClampNeg) (w.1 83 (x3 + 2).toNatClampNeg) (1 : Int32)) = (v_M_meet (u_X_meet w (w.1 83 (x3 + 1).toNatClampNeg) (w.1 83 (x3 + 2).toNatClampNeg) (1 : Int32)) ((u_X_meet w (w.1 83 (x3 + 1).toNatClampNeg) (w.1 83 (x3 + 2).toNatClampNeg) (1 : Int32)).1 83 (x3 + 1).toNatClampNeg) ((u_X_meet w (w.1 83 (x3 + 1).toNatClampNeg) (w.1 83 (x3 + 2).toNatClampNeg) (1 : Int32)).1 83 (x3 + 2).toNatClampNeg) (0 : Int32)) then (f_L_law_18 n (u_M_meet (u_X_meet w (w.1 83 (x3 + 1).toNatClampNeg) (w.1 83 (x3 + 2).toNatClampNeg) (1 : Int32)) ((u_X_meet w (w.1 83 (x3 + 1).toNatClampNeg) (w.1 83 (x3 + 2).toNatClampNeg) (1 : Int32)).1 83 (x3 + 1).toNatClampNeg) ((u_X_meet w (w.1 83 (x3 + 1).toNatClampNeg) (w.1 83 (x3 + 2).toNatClampNeg) (1 : Int32)).1 83 (x3 + 2).toNatClampNeg) (0 : Int32)) (x3 + 6)) else (some (some (.int (0 : Int32)), u_M_meet (u_X_meet w (w.1 83 (x3 + 1).toNatClampNeg) (w.1 83 (x3 + 2).toNatClampNeg) (1 : Int32)) ((u_X_meet w (w.1 83 (x3 + 1).toNatClampNeg) (w.1 83 (x3 + 2).toNatClampNeg) (1 : Int32)).1 83 (x3 + 1).toNatClampNeg) ((u_X_meet w (w.1 83 (x3 + 1).toNatClampNeg) (w.1 83 (x3 + 2).toNatClampNeg) (1 : Int32)).1 83 (x3 + 2).toNatClampNeg) (0 : Int32))))))))) else (grd (¬ (v_M_isMan (u_X_meet w (w.1 83 (x3 + 1).toNatClampNeg) (w.1 83 (x3 + 2).toNatClampNeg) (1 : Int32)) ((u_X_meet w (w.1 83 (x3 + 1).toNatClampNeg) (w.1 83 (x3 + 2).toNatClampNeg) (1 : Int32)).1 83 (x3 + 1).toNatClampNeg)) = 0 → ¬ (v_M_isMan (u_X_meet w (w.1 83 (x3 + 1).toNatClampNeg) (w.1 83 (x3 + 2).toNatClampNeg) (1 : Int32)) ((u_X_meet w (w.1 83 (x3 + 1).toNatClampNeg) (w.1 83 (x3 + 2).toNatClampNeg) (1 : Int32)).1 83 (x3 + 2).toNatClampNeg)) = 0 → ¬ ((u_X_meet w (w.1 83 (x3 + 1).toNatClampNeg) (w.1 83 (x3 + 2).toNatClampNeg) (1 : Int32)).1 83 (x3 + 1).toNatClampNeg) = ((u_X_meet w (w.1 83 (x3 + 1).toNatClampNeg) (w.1 83 (x3 + 2).toNatClampNeg) (1 : Int32)).1 83 (x3 + 2).toNatClampNeg) → vpb ((u_X_meet w (w.1 83 (x3 + 1).toNatClampNeg) (w.1 83 (x3 + 2).toNatClampNeg) (1 : Int32)).1 83 (x3 + 1).toNatClampNeg) 8 = true) (grd (¬ (v_M_isMan (u_X_meet w (w.1 83 (x3 + 1).toNatClampNeg) (w.1 83 (x3 + 2).toNatClampNeg) (1 : Int32)) ((u_X_meet w (w.1 83 (x3 + 1).toNatClampNeg) (w.1 83 (x3 + 2).toNatClampNeg) (1 : Int32)).1 83 (x3 + 1).toNatClampNeg)) = 0 → ¬ (v_M_isMan (u_X_meet w (w.1 83 (x3 + 1).toNatClampNeg) (w.1 83 (x3 + 2).toNatClampNeg) (1 : Int32)) ((u_X_meet w (w.1 83 (x3 + 1).toNatClampNeg) (w.1 83 (x3 + 2).toNatClampNeg) (1 : Int32)).1 83 (x3 + 2).toNatClampNeg)) = 0 → ¬ ((u_X_meet w (w.1 83 (x3 + 1).toNatClampNeg) (w.1 83 (x3 + 2).toNatClampNeg) (1 : Int32)).1 83 (x3 + 1).toNatClampNeg) = ((u_X_meet w (w.1 83 (x3 + 1).toNatClampNeg) (w.1 83 (x3 + 2).toNatClampNeg) (1 : Int32)).1 83 (x3 + 2).toNatClampNeg) → (v_M_has (u_X_meet w (w.1 83 (x3 + 1).toNatClampNeg) (w.1 83 (x3 + 2).toNatClampNeg) (1 : Int32)) ((u_X_meet w (w.1 83 (x3 + 1).toNatClampNeg) (w.1 83 (x3 + 2).toNatClampNeg) (1 : Int32)).1 71 ((u_X_meet w (w.1 83 (x3 + 1).toNatClampNeg) (w.1 83 (x3 + 2).toNatClampNeg) (1 : Int32)).1 83 (x3 + 1).toNatClampNeg).toNatClampNeg) ((u_X_meet w (w.1 83 (x3 + 1).toNatClampNeg) (w.1 83 (x3 + 2).toNatClampNeg) (1 : Int32)).1 83 (x3 + 2).toNatClampNeg)) = 0 → (1 : Int32) = 0 → vpb ((u_X_meet w (w.1 83 (x3 + 1).toNatClampNeg) (w.1 83 (x3 + 2).toNatClampNeg) (1 : Int32)).1 83 (x3 + 2).toNatClampNeg) 8 = true) (grd (¬ (v_M_isMan (u_X_meet w (w.1 83 (x3 + 1).toNatClampNeg) (w.1 83 (x3 + 2).toNatClampNeg) (1 : Int32)) ((u_X_meet w (w.1 83 (x3 + 1).toNatClampNeg) (w.1 83 (x3 + 2).toNatClampNeg) (1 : Int32)).1 83 (x3 + 1).toNatClampNeg)) = 0 → ¬ (v_M_isMan (u_X_meet w (w.1 83 (x3 + 1).toNatClampNeg) (w.1 83 (x3 + 2).toNatClampNeg) (1 : Int32)) ((u_X_meet w (w.1 83 (x3 + 1).toNatClampNeg) (w.1 83 (x3 + 2).toNatClampNeg) (1 : Int32)).1 83 (x3 + 2).toNatClampNeg)) = 0 → ¬ ((u_X_meet w (w.1 83 (x3 + 1).toNatClampNeg) (w.1 83 (x3 + 2).toNatClampNeg) (1 : Int32)).1 83 (x3 + 1).toNatClampNeg) = ((u_X_meet w (w.1 83 (x3 + 1).toNatClampNeg) (w.1 83 (x3 + 2).toNatClampNeg) (1 : Int32)).1 83 (x3 + 2).toNatClampNeg) → (v_M_has (u_X_meet w (w.1 83 (x3 + 1).toNatClampNeg) (w.1 83 (x3 + 2).toNatClampNeg) (1 : Int32)) ((u_X_meet w (w.1 83 (x3 + 1).toNatClampNeg) (w.1 83 (x3 + 2).toNatClampNeg) (1 : Int32)).1 71 ((u_X_meet w (w.1 83 (x3 + 1).toNatClampNeg) (w.1 83 (x3 + 2).toNatClampNeg) (1 : Int32)).1 83 (x3 + 1).toNatClampNeg).toNatClampNeg) ((u_X_meet w (w.1 83 (x3 + 1).toNatClampNeg) (w.1 83 (x3 + 2).toNatClampNeg) (1 : Int32)).1 83 (x3 + 2).toNatClampNeg)) = 0 → ¬ (1 : Int32) = 0 → vpb ((u_X_meet w (w.1 83 (x3 + 1).toNatClampNeg) (w.1 83 (x3 + 2).toNatClampNeg) (1 : Int32)).1 83 (x3 + 2).toNatClampNeg) 8 = true) (grd (¬ (v_M_isMan (u_X_meet w (w.1 83 (x3 + 1).toNatClampNeg) (w.1 83 (x3 + 2).toNatClampNeg) (1 : Int32)) ((u_X_meet w (w.1 83 (x3 + 1).toNatClampNeg) (w.1 83 (x3 + 2).toNatClampNeg) (1 : Int32)).1 83 (x3 + 1).toNatClampNeg)) = 0 → ¬ (v_M_isMan (u_X_meet w (w.1 83 (x3 + 1).toNatClampNeg) (w.1 83 (x3 + 2).toNatClampNeg) (1 : Int32)) ((u_X_meet w (w.1 83 (x3 + 1).toNatClampNeg) (w.1 83 (x3 + 2).toNatClampNeg) (1 : Int32)).1 83 (x3 + 2).toNatClampNeg)) = 0 → ¬ ((u_X_meet w (w.1 83 (x3 + 1).toNatClampNeg) (w.1 83 (x3 + 2).toNatClampNeg) (1 : Int32)).1 83 (x3 + 1).toNatClampNeg) = ((u_X_meet w (w.1 83 (x3 + 1).toNatClampNeg) (w.1 83 (x3 + 2).toNatClampNeg) (1 : Int32)).1 83 (x3 + 2).toNatClampNeg) → ¬ (v_M_has (u_X_meet w (w.1 83 (x3 + 1).toNatClampNeg) (w.1 83 (x3 + 2).toNatClampNeg) (1 : Int32)) ((u_X_meet w (w.1 83 (x3 + 1).toNatClampNeg) (w.1 83 (x3 + 2).toNatClampNeg) (1 : Int32)).1 71 ((u_X_meet w (w.1 83 (x3 + 1).toNatClampNeg) (w.1 83 (x3 + 2).toNatClampNeg) (1 : Int32)).1 83 (x3 + 1).toNatClampNeg).toNatClampNeg) ((u_X_meet w (w.1 83 (x3 + 1).toNatClampNeg) (w.1 83 (x3 + 2).toNatClampNeg) (1 : Int32)).1 83 (x3 + 2).toNatClampNeg)) = 0 → (1 : Int32) = 0 → vpb ((u_X_meet w (w.1 83 (x3 + 1).toNatClampNeg) (w.1 83 (x3 + 2).toNatClampNeg) (1 : Int32)).1 83 (x3 + 2).toNatClampNeg) 8 = true) (grd (¬ (v_M_isMan (u_X_meet w (w.1 83 (x3 + 1).toNatClampNeg) (w.1 83 (x3 + 2).toNatClampNeg) (1 : Int32)) ((u_X_meet w (w.1 83 (x3 + 1).toNatClampNeg) (w.1 83 (x3 + 2).toNatClampNeg) (1 : Int32)).1 83 (x3 + 1).toNatClampNeg)) = 0 → ¬ (v_M_isMan (u_X_meet w (w.1 83 (x3 + 1).toNatClampNeg) (w.1 83 (x3 + 2).toNatClampNeg) (1 : Int32)) ((u_X_meet w (w.1 83 (x3 + 1).toNatClampNeg) (w.1 83 (x3 + 2).toNatClampNeg) (1 : Int32)).1 83 (x3 + 2).toNatClampNeg)) = 0 → ¬ ((u_X_meet w (w.1 83 (x3 + 1).toNatClampNeg) (w.1 83 (x3 + 2).toNatClampNeg) (1 : Int32)).1 83 (x3 + 1).toNatClampNeg) = ((u_X_meet w (w.1 83 (x3 + 1).toNatClampNeg) (w.1 83 (x3 + 2).toNatClampNeg) (1 : Int32)).1 83 (x3 + 2).toNatClampNeg) → ¬ (v_M_has (u_X_meet w (w.1 83 (x3 + 1).toNatClampNeg) (w.1 83 (x3 + 2).toNatClampNeg) (1 : Int32)) ((u_X_meet w (w.1 83 (x3 + 1).toNatClampNeg) (w.1 83 (x3 + 2).toNatClampNeg) (1 : Int32)).1 71 ((u_X_meet w (w.1 83 (x3 + 1).toNatClampNeg) (w.1 83 (x3 + 2).toNatClampNeg) (1 : Int32)).1 83 (x3 + 1).toNatClampNeg).toNatClampNeg) ((u_X_meet w (w.1 83 (x3 + 1).toNatClampNeg) (w.1 83 (x3 + 2).toNatClampNeg) (1 : Int32)).1 83 (x3 + 2).toNatClampNeg)) = 0 → ¬ (1 : Int32) = 0 → vpb ((u_X_meet w (w.1 83 (x3 + 1).toNatClampNeg) (w.1 83 (x3 + 2).toNatClampNeg) (1 : Int32)).1 83 (x3 + 2).toNatClampNeg) 8 = true) (if (v_X_meet w (w.1 83 (x3 + 1).toNatClampNeg) (w.1 83 (x3 + 2).toNatClampNeg) (1 : Int32)) = (v_M_meet (u_X_meet w (w.1 83 (x3 + 1).toNatClampNeg) (w.1 83 (x3 + 2).toNatClampNeg) (1 : Int32)) ((u_X_meet w (w.1 83 (x3 + 1).toNatClampNeg) (w.1 83 (x3 + 2).toNatClampNeg) (1 : Int32)).1 83 (x3 + 1).toNatClampNeg) ((u_X_meet w (w.1 83 (x3 + 1).toNatClampNeg) (w.1 83 (x3 + 2).toNatClampNeg) (1 : Int32)).1 83 (x3 + 2).toNatClampNeg) (1 : Int32)) then (f_L_law_18 n (u_M_meet (u_X_meet w (w.1 83 (x3 + 1).toNatClampNeg) (w.1 83 (x3 + 2).toNatClampNeg) (1 : Int32)) ((u_X_meet w (w.1 83 (x3 + 1).toNatClampNeg) (w.1 83 (x3 + 2).toNatClampNeg) (1 : Int32)).1 83 (x3 + 1).toNatClampNeg) ((u_X_meet w (w.1 83 (x3 + 1).toNatClampNeg) (w.1 83 (x3 + 2).toNatClampNeg) (1 : Int32)).1 83 (x3 + 2).toNatClampNeg) (1 : Int32)) (x3 + 6)) else (some (some (.int (0 : Int32)), u_M_meet (u_X_meet w (w.1 83 (x3 + 1).toNatClampNeg) (w.1 83 (x3 + 2).toNatClampNeg) (1 : Int32)) ((u_X_meet w (w.1 83 (x3 + 1).toNatClampNeg) (w.1 83 (x3 + 2).toNatClampNeg) (1 : Int32)).1 83 (x3 + 1).toNatClampNeg) ((u_X_meet w (w.1 83 (x3 + 1).toNatClampNeg) (w.1 83 (x3 + 2).toNatClampNeg) (1 : Int32)).1 83 (x3 + 2).toNatClampNeg) (1 : Int32)))))))))))))))))))))))))) else if ((w.1 83 x3.toNatClampNeg) &&& 63) = 10 then (grd (vpb (x3 + 1) (aln w 83) = true) (grd (vpb (x3 + 2) (aln w 83) = true) (bI (f_X_say w (w.1 83 (x3 + 1).toNatClampNeg) (w.1 83 (x3 + 2).toNatClampNeg)) (fun v76 w76 => grd (vpb (x3 + 1) (aln w76 83) = true) (grd (vpb (x3 + 2) (aln w76 83) = true) (bI (f_M_say w76 (w76.1 83 (x3 + 1).toNatClampNeg) (w76.1 83 (x3 + 2).toNatClampNeg)) (fun v77 w77 => if v76 = v77 then (f_L_law_18 n w77 (x3 + 6)) else (some (some (.int (0 : Int32)), w77))))))))) else if ((w.1 83 x3.toNatClampNeg) &&& 63) = 11 then (grd (vpb (x3 + 1) (aln w 83) = true) (grd (¬ (v_Ct_isPlace w 1 (w.1 83 (x3 + 1).toNatClampNeg)) = 0 → vpb (w.1 83 (x3 + 1).toNatClampNeg) 30 = true) (grd (vpb (x3 + 1) (aln (u_X_word w (w.1 83 (x3 + 1).toNatClampNeg)) 83) = true) (grd (¬ (v_M_within (u_X_word w (w.1 83 (x3 + 1).toNatClampNeg)) ((u_X_word w (w.1 83 (x3 + 1).toNatClampNeg)).1 83 (x3 + 1).toNatClampNeg) 0 (((u_X_word w (w.1 83 (x3 + 1).toNatClampNeg)).1 62 10) - 1)) = 0 → vpb ((u_X_word w (w.1 83 (x3 + 1).toNatClampNeg)).1 83 (x3 + 1).toNatClampNeg) 30 = true) (if (v_X_word w (w.1 83 (x3 + 1).toNatClampNeg)) = (v_M_word (u_X_word w (w.1 83 (x3 + 1).toNatClampNeg)) ((u_X_word w (w.1 83 (x3 + 1).toNatClampNeg)).1 83 (x3 + 1).toNatClampNeg)) then (f_L_law_18 n (u_M_word (u_X_word w (w.1 83 (x3 + 1).toNatClampNeg)) ((u_X_word w (w.1 83 (x3 + 1).toNatClampNeg)).1 83 (x3 + 1).toNatClampNeg)) (x3 + 6)) else (some (some (.int (0 : Int32)), u_M_word (u_X_word w (w.1 83 (x3 + 1).toNatClampNeg)) ((u_X_word w (w.1 83 (x3 + 1).toNatClampNeg)).1 83 (x3 + 1).toNatClampNeg)))))))) else if ((w.1 83 x3.toNatClampNeg) &&& 63) = 12 then (grd (vpb (x3 + 1) (aln w 83) = true) (bI (f_X_court w (w.1 83 (x3 + 1).toNatClampNeg)) (fun v86 w86 => grd (vpb (x3 + 1) (aln w86 83) = true) (bI (f_M_court w86 (w86.1 83 (x3 + 1).toNatClampNeg)) (fun v87 w87 => if v86 = v87 then (f_L_law_18 n w87 (x3 + 6)) else (some (some (.int (0 : Int32)), w87))))))) else if ((w.1 83 x3.toNatClampNeg) &&& 63) = 13 then (if (v_X_fault w ) = (v_M_fault w ) then (f_L_law_18 n w (x3 + 6)) else (some (some (.int (0 : Int32)), w))) else if ((w.1 83 x3.toNatClampNeg) &&& 63) = 14 then (grd (vpb (x3 + 1) (aln w 83) = true) (grd (vpb (x3 + 2) (aln w 83) = true) (bI (f_X_hears w (w.1 83 (x3 + 1).toNatClampNeg) (w.1 83 (x3 + 2).toNatClampNeg)) (fun v96 w96 => grd (vpb (x3 + 1) (aln w96 83) = true) (grd (vpb (x3 + 2) (aln w96 83) = true) (bI (f_M_hears w96 (w96.1 83 (x3 + 1).toNatClampNeg) (w96.1 83 (x3 + 2).toNatClampNeg)) (fun v97 w97 => if v96 = v97 then (f_L_law_18 n w97 (x3 + 6)) else (some (some (.int (0 : Int32)), w97))))))))) else if ((w.1 83 x3.toNatClampNeg) &&& 63) = 15 then (grd (vpb (x3 + 1) (aln w 83) = true) (grd (vpb (x3 + 2) (aln w 83) = true) (bI (f_X_sense w (w.1 83 (x3 + 1).toNatClampNeg) (w.1 83 (x3 + 2).toNatClampNeg)) (fun v101 w101 => grd (vpb (x3 + 1) (aln w101 83) = true) (grd (vpb (x3 + 2) (aln w101 83) = true) (bI (f_M_sense w101 (w101.1 83 (x3 + 1).toNatClampNeg) (w101.1 83 (x3 + 2).toNatClampNeg)) (fun v102 w102 => if v101 = v102 then (f_L_law_18 n w102 (x3 + 6)) else (some (some (.int (0 : Int32)), w102))))))))) else if ((w.1 83 x3.toNatClampNeg) &&& 63) = 16 then (bI (f_X_whole w ) (fun v106 w106 => bI (f_M_whole w106 ) (fun v107 w107 => if v106 = v107 then (f_L_law_18 n w107 (x3 + 6)) else (some (some (.int (0 : Int32)), w107))))) else if ((w.1 83 x3.toNatClampNeg) &&& 63) = 17 then (grd (vpb (x3 + 1) (aln w 83) = true) (grd (vpb (x3 + 2) (aln w 83) = true) (bI (f_X_known w (w.1 83 (x3 + 1).toNatClampNeg) (w.1 83 (x3 + 2).toNatClampNeg)) (fun v111 w111 => grd (vpb (x3 + 1) (aln w111 83) = true) (grd (vpb (x3 + 2) (aln w111 83) = true) (bI (f_M_known w111 (w111.1 83 (x3 + 1).toNatClampNeg) (w111.1 83 (x3 + 2).toNatClampNeg)) (fun v112 w112 => if v111 = v112 then (f_L_law_18 n w112 (x3 + 6)) else (some (some (.int (0 : Int32)), w112))))))))) else if ((w.1 83 x3.toNatClampNeg) &&& 63) = 18 then (grd (vpb (x3 + 1) (aln w 83) = true) (grd (¬ (v_Ct_isMan w 1 (w.1 83 (x3 + 1).toNatClampNeg)) = 0 → vpb (w.1 83 (x3 + 1).toNatClampNeg) 8 = true) (grd (vpb (x3 + 1) (aln (u_X_belief w (w.1 83 (x3 + 1).toNatClampNeg)) 83) = true) (grd (¬ (v_M_isMan (u_X_belief w (w.1 83 (x3 + 1).toNatClampNeg)) ((u_X_belief w (w.1 83 (x3 + 1).toNatClampNeg)).1 83 (x3 + 1).toNatClampNeg)) = 0 → vpb ((u_X_belief w (w.1 83 (x3 + 1).toNatClampNeg)).1 83 (x3 + 1).toNatClampNeg) 8 = true) (if (v_X_belief w (w.1 83 (x3 + 1).toNatClampNeg)) = (v_M_belief (u_X_belief w (w.1 83 (x3 + 1).toNatClampNeg)) ((u_X_belief w (w.1 83 (x3 + 1).toNatClampNeg)).1 83 (x3 + 1).toNatClampNeg)) then (f_L_law_18 n (u_M_belief (u_X_belief w (w.1 83 (x3 + 1).toNatClampNeg)) ((u_X_belief w (w.1 83 (x3 + 1).toNatClampNeg)).1 83 (x3 + 1).toNatClampNeg)) (x3 + 6)) else (some (some (.int (0 : Int32)), u_M_belief (u_X_belief w (w.1 83 (x3 + 1).toNatClampNeg)) ((u_X_belief w (w.1 83 (x3 + 1).toNatClampNeg)).1 83 (x3 + 1).toNatClampNeg)))))))) else if ((w.1 83 x3.toNatClampNeg) &&& 63) = 19 then (grd (vpb (x3 + 1) (aln w 83) = true) (grd (vpb (x3 + 2) (aln w 83) = true) (bI (f_X_together w (w.1 83 (x3 + 1).toNatClampNeg) (w.1 83 (x3 + 2).toNatClampNeg)) (fun v121 w121 => grd (vpb (x3 + 1) (aln w121 83) = true) (grd (vpb (x3 + 2) (aln w121 83) = true) (bI (f_M_together w121 (w121.1 83 (x3 + 1).toNatClampNeg) (w121.1 83 (x3 + 2).toNatClampNeg)) (fun v122 w122 => if v121 = v122 then (f_L_law_18 n w122 (x3 + 6)) else (some (some (.int (0 : Int32)), w122))))))))) else if ((w.1 83 x3.toNatClampNeg) &&& 63) = 20 then (bI (f_X_cover w ) (fun v126 w126 => bI (f_M_cover w126 ) (fun v127 w127 => if v126 = v127 then (f_L_law_18 n w127 (x3 + 6)) else (some (some (.int (0 : Int32)), w127))))) else if ((w.1 83 x3.toNatClampNeg) &&& 63) = 21 then (grd (vpb (x3 + 1) (aln w 83) = true) (bI (f_X_ask w (w.1 83 (x3 + 1).toNatClampNeg)) (fun v131 w131 => grd (vpb (x3 + 1) (aln w131 83) = true) (bI (f_M_ask w131 (w131.1 83 (x3 + 1).toNatClampNeg)) (fun v132 w132 => if v131 = v132 then (f_L_law_18 n w132 (x3 + 6)) else (some (some (.int (0 : Int32)), w132))))))) else if ((w.1 83 x3.toNatClampNeg) &&& 63) = 22 then (grd (vpb (x3 + 1) (aln w 83) = true) (bI (f_X_soon w (w.1 83 (x3 + 1).toNatClampNeg)) (fun v136 w136 => grd (vpb (x3 + 1) (aln w136 83) = true) (bI (f_M_soon w136 (w136.1 83 (x3 + 1).toNatClampNeg)) (fun v137 w137 => if v136 = v137 then (f_L_law_18 n w137 (x3 + 6)) else (some (some (.int (0 : Int32)), w137))))))) else if ((w.1 83 x3.toNatClampNeg) &&& 63) = 23 then (grd (vpb (x3 + 1) (aln w 83) = true) (bI (f_X_wrongOnes w (w.1 83 (x3 + 1).toNatClampNeg)) (fun v141 w141 => grd (vpb (x3 + 1) (aln w141 83) = true) (bI (f_M_wrongOnes w141 (w141.1 83 (x3 + 1).toNatClampNeg)) (fun v142 w142 => if v141 = v142 then (f_L_law_18 n w142 (x3 + 6)) else (some (some (.int (0 : Int32)), w142))))))) else if ((w.1 83 x3.toNatClampNeg) &&& 63) = 24 then (grd (vpb (x3 + 1) (aln w 83) = true) (bI (f_X_apart w (w.1 83 (x3 + 1).toNatClampNeg)) (fun v146 w146 => grd (vpb (x3 + 1) (aln w146 83) = true) (bI (f_M_apart w146 (w146.1 83 (x3 + 1).toNatClampNeg)) (fun v147 w147 => if v146 = v147 then (f_L_law_18 n w147 (x3 + 6)) else (some (some (.int (0 : Int32)), w147))))))) else if ((w.1 83 x3.toNatClampNeg) &&& 63) = 25 then (bI (f_X_lose w ) (fun v151 w151 => bI (f_M_lose w151 ) (fun v152 w152 => if v151 = v152 then (f_L_law_18 n w152 (x3 + 6)) else (some (some (.int (0 : Int32)), w152))))) else if ((w.1 83 x3.toNatClampNeg) &&& 63) = 26 then (grd (vpb (x3 + 1) (aln w 83) = true) (grd (vpb (x3 + 2) (aln w 83) = true) (grd (vpb (x3 + 3) (aln w 83) = true) (grd (vpb (x3 + 4) (aln w 83) = true) (grd (vpb (x3 + 1) (aln (u_X_speak w (w.1 83 (x3 + 1).toNatClampNeg) (w.1 83 (x3 + 2).toNatClampNeg) (w.1 83 (x3 + 3).toNatClampNeg) (w.1 83 (x3 + 4).toNatClampNeg)) 83) = true) (grd (vpb (x3 + 2) (aln (u_X_speak w (w.1 83 (x3 + 1).toNatClampNeg) (w.1 83 (x3 + 2).toNatClampNeg) (w.1 83 (x3 + 3).toNatClampNeg) (w.1 83 (x3 + 4).toNatClampNeg)) 83) = true) (grd (vpb (x3 + 3) (aln (u_X_speak w (w.1 83 (x3 + 1).toNatClampNeg) (w.1 83 (x3 + 2).toNatClampNeg) (w.1 83 (x3 + 3).toNatClampNeg) (w.1 83 (x3 + 4).toNatClampNeg)) 83) = true) (grd (vpb (x3 + 4) (aln (u_X_speak w (w.1 83 (x3 + 1).toNatClampNeg) (w.1 83 (x3 + 2).toNatClampNeg) (w.1 83 (x3 + 3).toNatClampNeg) (w.1 83 (x3 + 4).toNatClampNeg)) 83) = true) (bI (f_M_speak (u_X_speak w (w.1 83 (x3 + 1).toNatClampNeg) (w.1 83 (x3 + 2).toNatClampNeg) (w.1 83 (x3 + 3).toNatClampNeg) (w.1 83 (x3 + 4).toNatClampNeg)) ((u_X_speak w (w.1 83 (x3 + 1).toNatClampNeg) (w.1 83 (x3 + 2).toNatClampNeg) (w.1 83 (x3 + 3).toNatClampNeg) (w.1 83 (x3 + 4).toNatClampNeg)).1 83 (x3 + 1).toNatClampNeg) ((u_X_speak w (w.1 83 (x3 + 1).toNatClampNeg) (w.1 83 (x3 + 2).toNatClampNeg) (w.1 83 (x3 + 3).toNatClampNeg) (w.1 83 (x3 + 4).toNatClampNeg)).1 83 (x3 + 2).toNatClampNeg) ((u_X_speak w (w.1 83 (x3 + 1).toNatClampNeg) (w.1 83 (x3 + 2).toNatClampNeg) (w.1 83 (x3 + 3).toNatClampNeg) (w.1 83 (x3 + 4).toNatClampNeg)).1 83 (x3 + 3).toNatClampNeg) ((u_X_speak w (w.1 83 (x3 + 1).toNatClampNeg) (w.1 83 (x3 + 2).toNatClampNeg) (w.1 83 (x3 + 3).toNatClampNeg) (w.1 83 (x3 + 4).toNatClampNeg)).1 83 (x3 + 4).toNatClampNeg)) (fun v157 w157 => if (v_X_speak w (w.1 83 (x3 + 1).toNatClampNeg) (w.1 83 (x3 + 2).toNatClampNeg) (w.1 83 (x3 + 3).toNatClampNeg) (w.1 83 (x3 + 4).toNatClampNeg)) = v157 then (f_L_law_18 n w157 (x3 + 6)) else (some (some (.int (0 : Int32)), w157)))))))))))) else if ((w.1 83 x3.toNatClampNeg) &&& 63) = 27 then (grd (vpb (x3 + 1) (aln w 83) = true) (bI (f_X_needs w (w.1 83 (x3 + 1).toNatClampNeg)) (fun v161 w161 => grd (vpb (x3 + 1) (aln w161 83) = true) (bI (f_M_needs w161 (w161.1 83 (x3 + 1).toNatClampNeg)) (fun v162 w162 => if v161 = v162 then (f_L_law_18 n w162 (x3 + 6)) else (some (some (.int (0 : Int32)), w162))))))) else if ((w.1 83 x3.toNatClampNeg) &&& 63) = 28 then (grd (vpb (x3 + 1) (aln w 83) = true) (grd (vpb (x3 + 2) (aln w 83) = true) (bI (f_X_count w (w.1 83 (x3 + 1).toNatClampNeg) (w.1 83 (x3 + 2).toNatClampNeg)) (fun v166 w166 => grd (vpb (x3 + 1) (aln w166 83) = true) (grd (vpb (x3 + 2) (aln w166 83) = true) (bI (f_M_count w166 (w166.1 83 (x3 + 1).toNatClampNeg) (w166.1 83 (x3 + 2).toNatClampNeg)) (fun v167 w167 => if v166 = v167 then (f_L_law_18 n w167 (x3 + 6)) else (some (some (.int (0 : Int32)), w167))))))))) else if ((w.1 83 x3.toNatClampNeg) &&& 63) = 29 then (grd (vpb (x3 + 1) (aln w 83) = true) (bI (f_X_could w (w.1 83 (x3 + 1).toNatClampNeg)) (fun v171 w171 => grd (vpb (x3 + 1) (aln w171 83) = true) (bI (f_M_could w171 (w171.1 83 (x3 + 1).toNatClampNeg)) (fun v172 w172 => if v171 = v172 then (f_L_law_18 n w172 (x3 + 6)) else (some (some (.int (0 : Int32)), w172))))))) else if ((w.1 83 x3.toNatClampNeg) &&& 63) = 30 then (bI (f_X_swap w ) (fun v176 w176 => bI (f_M_swap w176 ) (fun v177 w177 => if v176 = v177 then (f_L_law_18 n w177 (x3 + 6)) else (some (some (.int (0 : Int32)), w177))))) else if ((w.1 83 x3.toNatClampNeg) &&& 63) = 31 then (grd (vpb (x3 + 1) (aln w 83) = true) (grd (vpb (x3 + 2) (aln w 83) = true) (bI (f_X_judge w (w.1 83 (x3 + 1).toNatClampNeg) (w.1 83 (x3 + 2).toNatClampNeg)) (fun v181 w181 => grd (vpb (x3 + 1) (aln w181 83) = true) (grd (vpb (x3 + 2) (aln w181 83) = true) (bI (f_M_judge w181 (w181.1 83 (x3 + 1).toNatClampNeg) (w181.1 83 (x3 + 2).toNatClampNeg)) (fun v182 w182 => if v181 = v182 then (f_L_law_18 n w182 (x3 + 6)) else (some (some (.int (0 : Int32)), w182))))))))) else if ((w.1 83 x3.toNatClampNeg) &&& 63) = 32 then (grd (vpb (x3 + 1) (aln w 83) = true) (grd (vpb (x3 + 2) (aln w 83) = true) (grd (vpb (x3 + 3) (aln w 83) = true) (bI (f_X_would w (w.1 83 (x3 + 1).toNatClampNeg) (w.1 83 (x3 + 2).toNatClampNeg) (w.1 83 (x3 + 3).toNatClampNeg)) (fun v186 w186 => grd (vpb (x3 + 1) (aln w186 83) = true) (grd (vpb (x3 + 2) (aln w186 83) = true) (grd (vpb (x3 + 3) (aln w186 83) = true) (bI (f_M_would w186 (w186.1 83 (x3 + 1).toNatClampNeg) (w186.1 83 (x3 + 2).toNatClampNeg) (w186.1 83 (x3 + 3).toNatClampNeg)) (fun v187 w187 => if v186 = v187 then (f_L_law_18 n w187 (x3 + 6)) else (some (some (.int (0 : Int32)), w187))))))))))) else if ((w.1 83 x3.toNatClampNeg) &&& 63) = 33 then (grd (vpb (x3 + 1) (aln w 83) = true) (bI (f_X_audience w (w.1 83 (x3 + 1).toNatClampNeg)) (fun v191 w191 => grd (vpb (x3 + 1) (aln w191 83) = true) (bI (f_M_audience w191 (w191.1 83 (x3 + 1).toNatClampNeg)) (fun v192 w192 => if v191 = v192 then (f_L_law_18 n w192 (x3 + 6)) else (some (some (.int (0 : Int32)), w192))))))) else if ((w.1 83 x3.toNatClampNeg) &&& 63) = 34 then (grd (vpb (x3 + 1) (aln w 83) = true) (bI (f_X_reign w (w.1 83 (x3 + 1).toNatClampNeg)) (fun v196 w196 => grd (vpb (x3 + 1) (aln w196 83) = true) (bI (f_M_reign w196 (w196.1 83 (x3 + 1).toNatClampNeg)) (fun v197 w197 => if v196 = v197 then (f_L_law_18 n w197 (x3 + 6)) else (some (some (.int (0 : Int32)), w197))))))) else if ((w.1 83 x3.toNatClampNeg) &&& 63) = 35 then (grd (vpb (x3 + 1) (aln w 83) = true) (grd (vpb (x3 + 1) (aln (u_X_seed w (w.1 83 (x3 + 1).toNatClampNeg)) 83) = true) (if (v_X_seed w (w.1 83 (x3 + 1).toNatClampNeg)) = (v_M_seed (u_X_seed w (w.1 83 (x3 + 1).toNatClampNeg)) ((u_X_seed w (w.1 83 (x3 + 1).toNatClampNeg)).1 83 (x3 + 1).toNatClampNeg)) then (f_L_law_18 n (u_M_seed (u_X_seed w (w.1 83 (x3 + 1).toNatClampNeg)) ((u_X_seed w (w.1 83 (x3 + 1).toNatClampNeg)).1 83 (x3 + 1).toNatClampNeg)) (x3 + 6)) else (some (some (.int (0 : Int32)), u_M_seed (u_X_seed w (w.1 83 (x3 + 1).toNatClampNeg)) ((u_X_seed w (w.1 83 (x3 + 1).toNatClampNeg)).1 83 (x3 + 1).toNatClampNeg)))))) else if ((w.1 83 x3.toNatClampNeg) &&& 63) = 36 then (grd (vpb (x3 + 1) (aln w 83) = true) (grd (vpb (x3 + 2) (aln w 83) = true) (grd (vpb (x3 + 3) (aln w 83) = true) (bI (f_X_act w (w.1 83 (x3 + 1).toNatClampNeg) (w.1 83 (x3 + 2).toNatClampNeg) (w.1 83 (x3 + 3).toNatClampNeg)) (fun v206 w206 => grd (vpb (x3 + 1) (aln w206 83) = true) (grd (vpb (x3 + 2) (aln w206 83) = true) (grd (vpb (x3 + 3) (aln w206 83) = true) (bI (f_M_act w206 (w206.1 83 (x3 + 1).toNatClampNeg) (w206.1 83 (x3 + 2).toNatClampNeg) (w206.1 83 (x3 + 3).toNatClampNeg)) (fun v207 w207 => if v206 = v207 then (f_L_law_18 n w207 (x3 + 6)) else (some (some (.int (0 : Int32)), w207))))))))))) else if ((w.1 83 x3.toNatClampNeg) &&& 63) = 37 then (grd (vpb (x3 + 1) (aln w 83) = true) (grd (¬ (w.1 83 (x3 + 1).toNatClampNeg) < 0 → ¬ (w.1 60 1) ≤ (w.1 83 (x3 + 1).toNatClampNeg) → ¬ 20 ≤ (w.1 83 (x3 + 1).toNatClampNeg) → vpb (w.1 83 (x3 + 1).toNatClampNeg) 20 = true) (grd (vpb (x3 + 1) (aln w 83) = true) (grd (¬ (w.1 83 (x3 + 1).toNatClampNeg) < 0 → ¬ (w.1 62 15) ≤ (w.1 83 (x3 + 1).toNatClampNeg) → ¬ 20 ≤ (w.1 83 (x3 + 1).toNatClampNeg) → vpb (w.1 83 (x3 + 1).toNatClampNeg) 20 = true) (if (v_X_trace w (w.1 83 (x3 + 1).toNatClampNeg)) = (v_M_trace w (w.1 83 (x3 + 1).toNatClampNeg)) then (f_L_law_18 n w (x3 + 6)) else (some (some (.int (0 : Int32)), w))))))) else if ((w.1 83 x3.toNatClampNeg) &&& 63) = 38 then (bI (f_X_image w ) (fun v216 w216 => bI (f_M_image w216 ) (fun v217 w217 => if v216 = v217 then (f_L_law_18 n w217 (x3 + 6)) else (some (some (.int (0 : Int32)), w217))))) else if ((w.1 83 x3.toNatClampNeg) &&& 63) = 39 then (bI (f_X_restore w ) (fun v221 w221 => bI (f_M_restore w221 ) (fun v222 w222 => if v221 = v222 then (f_L_law_18 n w222 (x3 + 6)) else (some (some (.int (0 : Int32)), w222))))) else if ((w.1 83 x3.toNatClampNeg) &&& 63) = 40 then (grd (vpb (x3 + 1) (aln w 83) = true) (bI (f_X_status w (w.1 83 (x3 + 1).toNatClampNeg)) (fun v226 w226 => grd (vpb (x3 + 1) (aln w226 83) = true) (bI (f_M_status w226 (w226.1 83 (x3 + 1).toNatClampNeg)) (fun v227 w227 => if v226 = v227 then (f_L_law_18 n w227 (x3 + 6)) else (some (some (.int (0 : Int32)), w227))))))) else (f_L_law_18 n w (x3 + 6))))
set_option maxHeartbeats 4000000 in
theorem r_L_law_18 {d : Nat} {r : Option Value} {w' : MW} : ∀ (n : Nat) (w : MW) (x3 : Int32), f_L_law_18 n w x3 = some (r, w') → Rn (d + 65) mL_law 18 [some (.ref 83), some (.ref 0), some (.ref 62), some (.int x3)] [] w r w' := by
  intro n
  induction n with
  | zero =>
    intro w x3 hf
    cases hf
  | succ n ih =>
    intro w x3 hf
    rw [f_L_law_18] at hf
    refine bL_law_18 (h1 := (Or.inr (by decide))) (kt := fun q1 => ?_) (kf := fun q1 => ?_)
    · replace hf := ite_t q1 hf
      obtain ⟨rfl, rfl⟩ := ret_e hf
      exact bL_law_1438 
    · replace hf := ite_f q1 hf
      obtain ⟨g3_0, hf⟩ := grd_e hf
      refine bL_law_27 (h1 := (Or.inr (by decide))) (h2 := (vpb_ok g3_0)) (k0 := fun q3_0 => ?_) (k1 := fun q3_1 => ?_) (k2 := fun q3_2 => ?_) (k3 := fun q3_3 => ?_) (k4 := fun q3_4 => ?_) (k5 := fun q3_5 => ?_) (k6 := fun q3_6 => ?_) (k7 := fun q3_7 => ?_) (k8 := fun q3_8 => ?_) (k9 := fun q3_9 => ?_) (k10 := fun q3_10 => ?_) (k11 := fun q3_11 => ?_) (k12 := fun q3_12 => ?_) (k13 := fun q3_13 => ?_) (k14 := fun q3_14 => ?_) (k15 := fun q3_15 => ?_) (k16 := fun q3_16 => ?_) (k17 := fun q3_17 => ?_) (k18 := fun q3_18 => ?_) (k19 := fun q3_19 => ?_) (k20 := fun q3_20 => ?_) (k21 := fun q3_21 => ?_) (k22 := fun q3_22 => ?_) (k23 := fun q3_23 => ?_) (k24 := fun q3_24 => ?_) (k25 := fun q3_25 => ?_) (k26 := fun q3_26 => ?_) (k27 := fun q3_27 => ?_) (k28 := fun q3_28 => ?_) (k29 := fun q3_29 => ?_) (k30 := fun q3_30 => ?_) (k31 := fun q3_31 => ?_) (k32 := fun q3_32 => ?_) (k33 := fun q3_33 => ?_) (k34 := fun q3_34 => ?_) (k35 := fun q3_35 => ?_) (k36 := fun q3_36 => ?_) (k37 := fun q3_37 => ?_) (k38 := fun q3_38 => ?_) (k39 := fun q3_39 => ?_) (k40 := fun q3_40 => ?_) (kd := fun q3_0 q3_1 q3_2 q3_3 q3_4 q3_5 q3_6 q3_7 q3_8 q3_9 q3_10 q3_11 q3_12 q3_13 q3_14 q3_15 q3_16 q3_17 q3_18 q3_19 q3_20 q3_21 q3_22 q3_23 q3_24 q3_25 q3_26 q3_27 q3_28 q3_29 q3_30 q3_31 q3_32 q3_33 q3_34 q3_35 q3_36 q3_37 q3_38 q3_39 q3_40 => ?_)
      · have hq := q3_0
        replace hf := ite_t hq hf
        obtain ⟨g4_0, hf⟩ := grd_e hf
        obtain ⟨g4_1, hf⟩ := grd_e hf
        obtain ⟨g4_2, hf⟩ := grd_e hf
        obtain ⟨v4, w4, e4, hf⟩ := bI_e hf
        refine bL_law_212 (h1 := (Or.inr (by decide))) (h2 := (vpb_ok g4_0)) (h3 := (Or.inr (by decide))) (h4 := (vpb_ok g4_1)) (h5 := (Or.inr (by decide))) (h6 := (vpb_ok g4_2)) (ct := c_X_row (d := d + 63) w (w.1 83 (x3 + 1).toNatClampNeg) (w.1 83 (x3 + 2).toNatClampNeg) (w.1 83 (x3 + 3).toNatClampNeg) e4) (k := ?_)
        obtain ⟨g5_0, hf⟩ := grd_e hf
        obtain ⟨g5_1, hf⟩ := grd_e hf
        obtain ⟨g5_2, hf⟩ := grd_e hf
        obtain ⟨v5, w5, e5, hf⟩ := bI_e hf
        refine bL_law_231 (h1 := (Or.inr (by decide))) (h2 := (vpb_ok g5_0)) (h3 := (Or.inr (by decide))) (h4 := (vpb_ok g5_1)) (h5 := (Or.inr (by decide))) (h6 := (vpb_ok g5_2)) (ct := c_M_row (d := d + 63) w4 (w4.1 83 (x3 + 1).toNatClampNeg) (w4.1 83 (x3 + 2).toNatClampNeg) (w4.1 83 (x3 + 3).toNatClampNeg) e5) (k := ?_)
        refine bL_law_250 (kt := fun q6 => ?_) (kf := fun q6 => ?_)
        · replace hf := ite_t q6 hf
          refine bL_law_1432 (k := ?_)
          exact ih w5 (x3 + 6) hf
        · replace hf := ite_f q6 hf
          obtain ⟨rfl, rfl⟩ := ret_e hf
          exact bL_law_253 
      · have hq := q3_1
        replace hf := ite_f (by rw [hq]; decide) hf
        replace hf := ite_t hq hf
        obtain ⟨g9_0, hf⟩ := grd_e hf
        obtain ⟨g9_1, hf⟩ := grd_e hf
        obtain ⟨g9_2, hf⟩ := grd_e hf
        obtain ⟨g9_3, hf⟩ := grd_e hf
        obtain ⟨g9_4, hf⟩ := grd_e hf
        obtain ⟨g9_5, hf⟩ := grd_e hf
        obtain ⟨g9_6, hf⟩ := grd_e hf
        obtain ⟨g9_7, hf⟩ := grd_e hf
        obtain ⟨g9_8, hf⟩ := grd_e hf
        refine bL_law_255 (h1 := (Or.inr (by decide))) (h2 := (vpb_ok g9_0)) (h3 := (Or.inr (by decide))) (h4 := (vpb_ok g9_1)) (h5 := (Or.inr (by decide))) (h6 := (vpb_ok g9_2)) (h7 := (Or.inr (by decide))) (h8 := (vpb_ok g9_3)) (ct := c_X_set (d := d + 62) w (w.1 83 (x3 + 1).toNatClampNeg) (w.1 83 (x3 + 2).toNatClampNeg) ((((w.1 83 (x3 + 3).toNatClampNeg).toInt64) <<< ((32 : Int32).toInt64 &&& 63)) ||| (((w.1 83 (x3 + 4).toNatClampNeg).toInt64) &&& 4294967295)) (fun z0 => vpb_ok (g9_4 z0)) (fun z0 z1 z2 z3 => vpb_ok (g9_5 z0 z1 z2 z3)) (fun z0 z1 z2 z3 => vpb_ok (g9_6 z0 z1 z2 z3)) (fun z0 z1 z2 z3 => vpb_ok (g9_7 z0 z1 z2 z3)) (fun z0 z1 z2 z3 z4 z5 => vpb_ok (g9_8 z0 z1 z2 z3 z4 z5))) (k := ?_)
        obtain ⟨g10_0, hf⟩ := grd_e hf
        obtain ⟨g10_1, hf⟩ := grd_e hf
        obtain ⟨g10_2, hf⟩ := grd_e hf
        obtain ⟨g10_3, hf⟩ := grd_e hf
        obtain ⟨g10_4, hf⟩ := grd_e hf
        obtain ⟨g10_5, hf⟩ := grd_e hf
        obtain ⟨g10_6, hf⟩ := grd_e hf
        obtain ⟨g10_7, hf⟩ := grd_e hf
        obtain ⟨g10_8, hf⟩ := grd_e hf
        refine bL_law_289 (h1 := (Or.inr (by decide))) (h2 := (vpb_ok g10_0)) (h3 := (Or.inr (by decide))) (h4 := (vpb_ok g10_1)) (h5 := (Or.inr (by decide))) (h6 := (vpb_ok g10_2)) (h7 := (Or.inr (by decide))) (h8 := (vpb_ok g10_3)) (ct := c_M_set (d := d + 62) (u_X_set w (w.1 83 (x3 + 1).toNatClampNeg) (w.1 83 (x3 + 2).toNatClampNeg) ((((w.1 83 (x3 + 3).toNatClampNeg).toInt64) <<< ((32 : Int32).toInt64 &&& 63)) ||| (((w.1 83 (x3 + 4).toNatClampNeg).toInt64) &&& 4294967295))) ((u_X_set w (w.1 83 (x3 + 1).toNatClampNeg) (w.1 83 (x3 + 2).toNatClampNeg) ((((w.1 83 (x3 + 3).toNatClampNeg).toInt64) <<< ((32 : Int32).toInt64 &&& 63)) ||| (((w.1 83 (x3 + 4).toNatClampNeg).toInt64) &&& 4294967295))).1 83 (x3 + 1).toNatClampNeg) ((u_X_set w (w.1 83 (x3 + 1).toNatClampNeg) (w.1 83 (x3 + 2).toNatClampNeg) ((((w.1 83 (x3 + 3).toNatClampNeg).toInt64) <<< ((32 : Int32).toInt64 &&& 63)) ||| (((w.1 83 (x3 + 4).toNatClampNeg).toInt64) &&& 4294967295))).1 83 (x3 + 2).toNatClampNeg) (((((u_X_set w (w.1 83 (x3 + 1).toNatClampNeg) (w.1 83 (x3 + 2).toNatClampNeg) ((((w.1 83 (x3 + 3).toNatClampNeg).toInt64) <<< ((32 : Int32).toInt64 &&& 63)) ||| (((w.1 83 (x3 + 4).toNatClampNeg).toInt64) &&& 4294967295))).1 83 (x3 + 3).toNatClampNeg).toInt64) <<< ((32 : Int32).toInt64 &&& 63)) ||| ((((u_X_set w (w.1 83 (x3 + 1).toNatClampNeg) (w.1 83 (x3 + 2).toNatClampNeg) ((((w.1 83 (x3 + 3).toNatClampNeg).toInt64) <<< ((32 : Int32).toInt64 &&& 63)) ||| (((w.1 83 (x3 + 4).toNatClampNeg).toInt64) &&& 4294967295))).1 83 (x3 + 4).toNatClampNeg).toInt64) &&& 4294967295)) (fun z0 => vpb_ok (g10_4 z0)) (fun z0 z1 z2 z3 z4 => vpb_ok (g10_5 z0 z1 z2 z3 z4)) (fun z0 z1 z2 z3 z4 => vpb_ok (g10_6 z0 z1 z2 z3 z4)) (fun z0 z1 z2 z3 => vpb_ok (g10_7 z0 z1 z2 z3)) (fun z0 z1 z2 => vpb_ok (g10_8 z0 z1 z2))) (k := ?_)
        refine bL_law_323 (kt := fun q11 => ?_) (kf := fun q11 => ?_)
        · replace hf := ite_t q11 hf
          refine bL_law_1432 (k := ?_)
          exact ih (u_M_set (u_X_set w (w.1 83 (x3 + 1).toNatClampNeg) (w.1 83 (x3 + 2).toNatClampNeg) ((((w.1 83 (x3 + 3).toNatClampNeg).toInt64) <<< ((32 : Int32).toInt64 &&& 63)) ||| (((w.1 83 (x3 + 4).toNatClampNeg).toInt64) &&& 4294967295))) ((u_X_set w (w.1 83 (x3 + 1).toNatClampNeg) (w.1 83 (x3 + 2).toNatClampNeg) ((((w.1 83 (x3 + 3).toNatClampNeg).toInt64) <<< ((32 : Int32).toInt64 &&& 63)) ||| (((w.1 83 (x3 + 4).toNatClampNeg).toInt64) &&& 4294967295))).1 83 (x3 + 1).toNatClampNeg) ((u_X_set w (w.1 83 (x3 + 1).toNatClampNeg) (w.1 83 (x3 + 2).toNatClampNeg) ((((w.1 83 (x3 + 3).toNatClampNeg).toInt64) <<< ((32 : Int32).toInt64 &&& 63)) ||| (((w.1 83 (x3 + 4).toNatClampNeg).toInt64) &&& 4294967295))).1 83 (x3 + 2).toNatClampNeg) (((((u_X_set w (w.1 83 (x3 + 1).toNatClampNeg) (w.1 83 (x3 + 2).toNatClampNeg) ((((w.1 83 (x3 + 3).toNatClampNeg).toInt64) <<< ((32 : Int32).toInt64 &&& 63)) ||| (((w.1 83 (x3 + 4).toNatClampNeg).toInt64) &&& 4294967295))).1 83 (x3 + 3).toNatClampNeg).toInt64) <<< ((32 : Int32).toInt64 &&& 63)) ||| ((((u_X_set w (w.1 83 (x3 + 1).toNatClampNeg) (w.1 83 (x3 + 2).toNatClampNeg) ((((w.1 83 (x3 + 3).toNatClampNeg).toInt64) <<< ((32 : Int32).toInt64 &&& 63)) ||| (((w.1 83 (x3 + 4).toNatClampNeg).toInt64) &&& 4294967295))).1 83 (x3 + 4).toNatClampNeg).toInt64) &&& 4294967295))) (x3 + 6) hf
        · replace hf := ite_f q11 hf
          obtain ⟨rfl, rfl⟩ := ret_e hf
          exact bL_law_326 
      · have hq := q3_2
        replace hf := ite_f (by rw [hq]; decide) hf
        replace hf := ite_f (by rw [hq]; decide) hf
        replace hf := ite_t hq hf
        obtain ⟨g14_0, hf⟩ := grd_e hf
        obtain ⟨g14_1, hf⟩ := grd_e hf
        obtain ⟨g14_2, hf⟩ := grd_e hf
        obtain ⟨g14_3, hf⟩ := grd_e hf
        obtain ⟨g14_4, hf⟩ := grd_e hf
        obtain ⟨v14, w14, e14, hf⟩ := bI_e hf
        refine bL_law_328 (h1 := (Or.inr (by decide))) (h2 := (vpb_ok g14_0)) (h3 := (Or.inr (by decide))) (h4 := (vpb_ok g14_1)) (h5 := (Or.inr (by decide))) (h6 := (vpb_ok g14_2)) (h7 := (Or.inr (by decide))) (h8 := (vpb_ok g14_3)) (h9 := (Or.inr (by decide))) (h10 := (vpb_ok g14_4)) (ct := c_X_copy (d := d + 63) w (w.1 83 (x3 + 1).toNatClampNeg) (w.1 83 (x3 + 2).toNatClampNeg) (w.1 83 (x3 + 3).toNatClampNeg) (w.1 83 (x3 + 4).toNatClampNeg) (w.1 83 (x3 + 5).toNatClampNeg) e14) (k := ?_)
        obtain ⟨g15_0, hf⟩ := grd_e hf
        obtain ⟨g15_1, hf⟩ := grd_e hf
        obtain ⟨g15_2, hf⟩ := grd_e hf
        obtain ⟨g15_3, hf⟩ := grd_e hf
        obtain ⟨g15_4, hf⟩ := grd_e hf
        obtain ⟨v15, w15, e15, hf⟩ := bI_e hf
        refine bL_law_357 (h1 := (Or.inr (by decide))) (h2 := (vpb_ok g15_0)) (h3 := (Or.inr (by decide))) (h4 := (vpb_ok g15_1)) (h5 := (Or.inr (by decide))) (h6 := (vpb_ok g15_2)) (h7 := (Or.inr (by decide))) (h8 := (vpb_ok g15_3)) (h9 := (Or.inr (by decide))) (h10 := (vpb_ok g15_4)) (ct := c_M_copy (d := d + 63) w14 (w14.1 83 (x3 + 1).toNatClampNeg) (w14.1 83 (x3 + 2).toNatClampNeg) (w14.1 83 (x3 + 3).toNatClampNeg) (w14.1 83 (x3 + 4).toNatClampNeg) (w14.1 83 (x3 + 5).toNatClampNeg) e15) (k := ?_)
        refine bL_law_386 (kt := fun q16 => ?_) (kf := fun q16 => ?_)
        · replace hf := ite_t q16 hf
          refine bL_law_1432 (k := ?_)
          exact ih w15 (x3 + 6) hf
        · replace hf := ite_f q16 hf
          obtain ⟨rfl, rfl⟩ := ret_e hf
          exact bL_law_389 
      · have hq := q3_3
        replace hf := ite_f (by rw [hq]; decide) hf
        replace hf := ite_f (by rw [hq]; decide) hf
        replace hf := ite_f (by rw [hq]; decide) hf
        replace hf := ite_t hq hf
        obtain ⟨g19_0, hf⟩ := grd_e hf
        obtain ⟨g19_1, hf⟩ := grd_e hf
        obtain ⟨g19_2, hf⟩ := grd_e hf
        refine bL_law_391 (h1 := (Or.inr (by decide))) (h2 := (vpb_ok g19_0)) (h3 := (Or.inr (by decide))) (h4 := (vpb_ok g19_1)) (ct := c_X_element (d := d + 63) w (w.1 83 (x3 + 1).toNatClampNeg) (w.1 83 (x3 + 2).toNatClampNeg) (fun z0 z1 z2 => vpb_ok (g19_2 z0 z1 z2))) (k := ?_)
        obtain ⟨g20_0, hf⟩ := grd_e hf
        obtain ⟨g20_1, hf⟩ := grd_e hf
        obtain ⟨g20_2, hf⟩ := grd_e hf
        refine bL_law_405 (h1 := (Or.inr (by decide))) (h2 := (vpb_ok g20_0)) (h3 := (Or.inr (by decide))) (h4 := (vpb_ok g20_1)) (ct := c_M_element (d := d + 63) w (w.1 83 (x3 + 1).toNatClampNeg) (w.1 83 (x3 + 2).toNatClampNeg) (fun z0 z1 z2 => vpb_ok (g20_2 z0 z1 z2))) (k := ?_)
        refine bL_law_419 (kt := fun q21 => ?_) (kf := fun q21 => ?_)
        · replace hf := ite_t q21 hf
          refine bL_law_1432 (k := ?_)
          exact ih w (x3 + 6) hf
        · replace hf := ite_f q21 hf
          obtain ⟨rfl, rfl⟩ := ret_e hf
          exact bL_law_423 
      · have hq := q3_4
        replace hf := ite_f (by rw [hq]; decide) hf
        replace hf := ite_f (by rw [hq]; decide) hf
        replace hf := ite_f (by rw [hq]; decide) hf
        replace hf := ite_f (by rw [hq]; decide) hf
        replace hf := ite_t hq hf
        obtain ⟨g24_0, hf⟩ := grd_e hf
        obtain ⟨g24_1, hf⟩ := grd_e hf
        refine bL_law_425 (h1 := (Or.inr (by decide))) (h2 := (vpb_ok g24_0)) (h3 := (Or.inr (by decide))) (h4 := (vpb_ok g24_1)) (ct := c_X_show (d := d + 63) w (w.1 83 (x3 + 1).toNatClampNeg) (w.1 83 (x3 + 2).toNatClampNeg)) (k := ?_)
        obtain ⟨g25_0, hf⟩ := grd_e hf
        obtain ⟨g25_1, hf⟩ := grd_e hf
        refine bL_law_439 (h1 := (Or.inr (by decide))) (h2 := (vpb_ok g25_0)) (h3 := (Or.inr (by decide))) (h4 := (vpb_ok g25_1)) (ct := c_M_show (d := d + 62) (u_X_show w (w.1 83 (x3 + 1).toNatClampNeg) (w.1 83 (x3 + 2).toNatClampNeg)) ((u_X_show w (w.1 83 (x3 + 1).toNatClampNeg) (w.1 83 (x3 + 2).toNatClampNeg)).1 83 (x3 + 1).toNatClampNeg) ((u_X_show w (w.1 83 (x3 + 1).toNatClampNeg) (w.1 83 (x3 + 2).toNatClampNeg)).1 83 (x3 + 2).toNatClampNeg)) (k := ?_)
        refine bL_law_453 (kt := fun q26 => ?_) (kf := fun q26 => ?_)
        · replace hf := ite_t q26 hf
          refine bL_law_1432 (k := ?_)
          exact ih (u_M_show (u_X_show w (w.1 83 (x3 + 1).toNatClampNeg) (w.1 83 (x3 + 2).toNatClampNeg)) ((u_X_show w (w.1 83 (x3 + 1).toNatClampNeg) (w.1 83 (x3 + 2).toNatClampNeg)).1 83 (x3 + 1).toNatClampNeg) ((u_X_show w (w.1 83 (x3 + 1).toNatClampNeg) (w.1 83 (x3 + 2).toNatClampNeg)).1 83 (x3 + 2).toNatClampNeg)) (x3 + 6) hf
        · replace hf := ite_f q26 hf
          obtain ⟨rfl, rfl⟩ := ret_e hf
          exact bL_law_456 
      · have hq := q3_5
        replace hf := ite_f (by rw [hq]; decide) hf
        replace hf := ite_f (by rw [hq]; decide) hf
        replace hf := ite_f (by rw [hq]; decide) hf
        replace hf := ite_f (by rw [hq]; decide) hf
        replace hf := ite_f (by rw [hq]; decide) hf
        replace hf := ite_t hq hf
        obtain ⟨g29_0, hf⟩ := grd_e hf
        refine bL_law_458 (h1 := (Or.inr (by decide))) (h2 := (vpb_ok g29_0)) (ct := c_X_holds (d := d + 63) w (w.1 83 (x3 + 1).toNatClampNeg)) (k := ?_)
        obtain ⟨g30_0, hf⟩ := grd_e hf
        refine bL_law_467 (h1 := (Or.inr (by decide))) (h2 := (vpb_ok g30_0)) (ct := c_M_holds (d := d + 63) w (w.1 83 (x3 + 1).toNatClampNeg)) (k := ?_)
        refine bL_law_476 (kt := fun q31 => ?_) (kf := fun q31 => ?_)
        · replace hf := ite_t q31 hf
          refine bL_law_1432 (k := ?_)
          exact ih w (x3 + 6) hf
        · replace hf := ite_f q31 hf
          obtain ⟨rfl, rfl⟩ := ret_e hf
          exact bL_law_479 
      · have hq := q3_6
        replace hf := ite_f (by rw [hq]; decide) hf
        replace hf := ite_f (by rw [hq]; decide) hf
        replace hf := ite_f (by rw [hq]; decide) hf
        replace hf := ite_f (by rw [hq]; decide) hf
        replace hf := ite_f (by rw [hq]; decide) hf
        replace hf := ite_f (by rw [hq]; decide) hf
        replace hf := ite_t hq hf
        obtain ⟨g34_0, hf⟩ := grd_e hf
        obtain ⟨g34_1, hf⟩ := grd_e hf
        obtain ⟨v34, w34, e34, hf⟩ := bI_e hf
        refine bL_law_481 (h1 := (Or.inr (by decide))) (h2 := (vpb_ok g34_0)) (h3 := (Or.inr (by decide))) (h4 := (vpb_ok g34_1)) (ct := c_X_says (d := d + 60) w (w.1 83 (x3 + 1).toNatClampNeg) (w.1 83 (x3 + 2).toNatClampNeg) e34) (k := ?_)
        obtain ⟨g35_0, hf⟩ := grd_e hf
        obtain ⟨g35_1, hf⟩ := grd_e hf
        obtain ⟨v35, w35, e35, hf⟩ := bI_e hf
        refine bL_law_495 (h1 := (Or.inr (by decide))) (h2 := (vpb_ok g35_0)) (h3 := (Or.inr (by decide))) (h4 := (vpb_ok g35_1)) (ct := c_M_says (d := d + 62) w34 (w34.1 83 (x3 + 1).toNatClampNeg) (w34.1 83 (x3 + 2).toNatClampNeg) e35) (k := ?_)
        refine bL_law_509 (kt := fun q36 => ?_) (kf := fun q36 => ?_)
        · replace hf := ite_t q36 hf
          refine bL_law_1432 (k := ?_)
          exact ih w35 (x3 + 6) hf
        · replace hf := ite_f q36 hf
          obtain ⟨rfl, rfl⟩ := ret_e hf
          exact bL_law_512 
      · have hq := q3_7
        replace hf := ite_f (by rw [hq]; decide) hf
        replace hf := ite_f (by rw [hq]; decide) hf
        replace hf := ite_f (by rw [hq]; decide) hf
        replace hf := ite_f (by rw [hq]; decide) hf
        replace hf := ite_f (by rw [hq]; decide) hf
        replace hf := ite_f (by rw [hq]; decide) hf
        replace hf := ite_f (by rw [hq]; decide) hf
        replace hf := ite_t hq hf
        obtain ⟨g39_0, hf⟩ := grd_e hf
        obtain ⟨g39_1, hf⟩ := grd_e hf
        obtain ⟨g39_2, hf⟩ := grd_e hf
        obtain ⟨g39_3, hf⟩ := grd_e hf
        refine bL_law_514 (h1 := (Or.inr (by decide))) (h2 := (vpb_ok g39_0)) (h3 := (Or.inr (by decide))) (h4 := (vpb_ok g39_1)) (h5 := (Or.inr (by decide))) (h6 := (vpb_ok g39_2)) (ct := c_X_man (d := d + 62) w (w.1 83 (x3 + 1).toNatClampNeg) (w.1 83 (x3 + 2).toNatClampNeg) (w.1 83 (x3 + 3).toNatClampNeg) (fun z0 z1 z2 z3 z4 z5 z6 => vpb_ok (g39_3 z0 z1 z2 z3 z4 z5 z6))) (k := ?_)
        obtain ⟨g40_0, hf⟩ := grd_e hf
        obtain ⟨g40_1, hf⟩ := grd_e hf
        obtain ⟨g40_2, hf⟩ := grd_e hf
        obtain ⟨v40, w40, e40, hf⟩ := bI_e hf
        refine bL_law_533 (h1 := (Or.inr (by decide))) (h2 := (vpb_ok g40_0)) (h3 := (Or.inr (by decide))) (h4 := (vpb_ok g40_1)) (h5 := (Or.inr (by decide))) (h6 := (vpb_ok g40_2)) (ct := c_M_man (d := d + 63) (u_X_man w (w.1 83 (x3 + 1).toNatClampNeg) (w.1 83 (x3 + 2).toNatClampNeg) (w.1 83 (x3 + 3).toNatClampNeg)) ((u_X_man w (w.1 83 (x3 + 1).toNatClampNeg) (w.1 83 (x3 + 2).toNatClampNeg) (w.1 83 (x3 + 3).toNatClampNeg)).1 83 (x3 + 1).toNatClampNeg) ((u_X_man w (w.1 83 (x3 + 1).toNatClampNeg) (w.1 83 (x3 + 2).toNatClampNeg) (w.1 83 (x3 + 3).toNatClampNeg)).1 83 (x3 + 2).toNatClampNeg) ((u_X_man w (w.1 83 (x3 + 1).toNatClampNeg) (w.1 83 (x3 + 2).toNatClampNeg) (w.1 83 (x3 + 3).toNatClampNeg)).1 83 (x3 + 3).toNatClampNeg) e40) (k := ?_)
        refine bL_law_552 (kt := fun q41 => ?_) (kf := fun q41 => ?_)
        · replace hf := ite_t q41 hf
          refine bL_law_1432 (k := ?_)
          exact ih w40 (x3 + 6) hf
        · replace hf := ite_f q41 hf
          obtain ⟨rfl, rfl⟩ := ret_e hf
          exact bL_law_555 
      · have hq := q3_8
        replace hf := ite_f (by rw [hq]; decide) hf
        replace hf := ite_f (by rw [hq]; decide) hf
        replace hf := ite_f (by rw [hq]; decide) hf
        replace hf := ite_f (by rw [hq]; decide) hf
        replace hf := ite_f (by rw [hq]; decide) hf
        replace hf := ite_f (by rw [hq]; decide) hf
        replace hf := ite_f (by rw [hq]; decide) hf
        replace hf := ite_f (by rw [hq]; decide) hf
        replace hf := ite_t hq hf
        obtain ⟨g44_0, hf⟩ := grd_e hf
        obtain ⟨g44_1, hf⟩ := grd_e hf
        obtain ⟨v44, w44, e44, hf⟩ := bI_e hf
        refine bL_law_557 (h1 := (Or.inr (by decide))) (h2 := (vpb_ok g44_0)) (h3 := (Or.inr (by decide))) (h4 := (vpb_ok g44_1)) (ct := c_X_manOf (d := d + 60) w (w.1 83 (x3 + 1).toNatClampNeg) (w.1 83 (x3 + 2).toNatClampNeg) e44) (k := ?_)
        obtain ⟨g45_0, hf⟩ := grd_e hf
        obtain ⟨g45_1, hf⟩ := grd_e hf
        obtain ⟨v45, w45, e45, hf⟩ := bI_e hf
        refine bL_law_571 (h1 := (Or.inr (by decide))) (h2 := (vpb_ok g45_0)) (h3 := (Or.inr (by decide))) (h4 := (vpb_ok g45_1)) (ct := c_M_manOf (d := d + 62) w44 (w44.1 83 (x3 + 1).toNatClampNeg) (w44.1 83 (x3 + 2).toNatClampNeg) e45) (k := ?_)
        refine bL_law_585 (kt := fun q46 => ?_) (kf := fun q46 => ?_)
        · replace hf := ite_t q46 hf
          refine bL_law_1432 (k := ?_)
          exact ih w45 (x3 + 6) hf
        · replace hf := ite_f q46 hf
          obtain ⟨rfl, rfl⟩ := ret_e hf
          exact bL_law_588 
      · have hq := q3_9
        replace hf := ite_f (by rw [hq]; decide) hf
        replace hf := ite_f (by rw [hq]; decide) hf
        replace hf := ite_f (by rw [hq]; decide) hf
        replace hf := ite_f (by rw [hq]; decide) hf
        replace hf := ite_f (by rw [hq]; decide) hf
        replace hf := ite_f (by rw [hq]; decide) hf
        replace hf := ite_f (by rw [hq]; decide) hf
        replace hf := ite_f (by rw [hq]; decide) hf
        replace hf := ite_f (by rw [hq]; decide) hf
        replace hf := ite_t hq hf
        obtain ⟨g49_0, hf⟩ := grd_e hf
        obtain ⟨g49_1, hf⟩ := grd_e hf
        obtain ⟨g49_2, hf⟩ := grd_e hf
        refine bL_law_590 (h1 := (Or.inr (by decide))) (h2 := (vpb_ok g49_0)) (h3 := (Or.inr (by decide))) (h4 := (vpb_ok g49_1)) (h5 := (Or.inr (by decide))) (h6 := (vpb_ok g49_2)) (kt := fun q49 => ?_) (kf := fun q49 => ?_)
        · replace hf := ite_t q49 hf
          refine bL_law_613 (k := ?_)
          obtain ⟨g51_0, hf⟩ := grd_e hf
          obtain ⟨g51_1, hf⟩ := grd_e hf
          obtain ⟨g51_2, hf⟩ := grd_e hf
          obtain ⟨g51_3, hf⟩ := grd_e hf
          obtain ⟨g51_4, hf⟩ := grd_e hf
          obtain ⟨g51_5, hf⟩ := grd_e hf
          obtain ⟨g51_6, hf⟩ := grd_e hf
          obtain ⟨g51_7, hf⟩ := grd_e hf
          obtain ⟨g51_8, hf⟩ := grd_e hf
          refine bL_law_614 (ct := c_X_meet (d := d + 62) w (w.1 83 (x3 + 1).toNatClampNeg) (w.1 83 (x3 + 2).toNatClampNeg) (0 : Int32) (fun z0 z1 z2 z3 => vpb_ok (g51_0 z0 z1 z2 z3)) (fun z0 z1 z2 z3 z4 z5 z6 => vpb_ok (g51_1 z0 z1 z2 z3 z4 z5 z6)) (fun z0 z1 z2 z3 z4 z5 z6 => vpb_ok (g51_2 z0 z1 z2 z3 z4 z5 z6)) (fun z0 z1 z2 z3 z4 z5 z6 => vpb_ok (g51_3 z0 z1 z2 z3 z4 z5 z6)) (fun z0 z1 z2 z3 z4 z5 z6 => vpb_ok (g51_4 z0 z1 z2 z3 z4 z5 z6)) (fun z0 z1 z2 z3 z4 z5 z6 => vpb_ok (g51_5 z0 z1 z2 z3 z4 z5 z6)) (fun z0 z1 z2 z3 z4 z5 z6 => vpb_ok (g51_6 z0 z1 z2 z3 z4 z5 z6)) (fun z0 z1 z2 z3 z4 z5 z6 => vpb_ok (g51_7 z0 z1 z2 z3 z4 z5 z6)) (fun z0 z1 z2 z3 z4 z5 z6 => vpb_ok (g51_8 z0 z1 z2 z3 z4 z5 z6))) (k := ?_)
          obtain ⟨g52_0, hf⟩ := grd_e hf
          obtain ⟨g52_1, hf⟩ := grd_e hf
          obtain ⟨g52_2, hf⟩ := grd_e hf
          refine bL_law_617 (h1 := (Or.inr (by decide))) (h2 := (vpb_ok g52_0)) (h3 := (Or.inr (by decide))) (h4 := (vpb_ok g52_1)) (h5 := (Or.inr (by decide))) (h6 := (vpb_ok g52_2)) (kt := fun q52 => ?_) (kf := fun q52 => ?_)
          · replace hf := ite_t q52 hf
            refine bL_law_640 (k := ?_)
            obtain ⟨g54_0, hf⟩ := grd_e hf
            obtain ⟨g54_1, hf⟩ := grd_e hf
            obtain ⟨g54_2, hf⟩ := grd_e hf
            obtain ⟨g54_3, hf⟩ := grd_e hf
            obtain ⟨g54_4, hf⟩ := grd_e hf
            refine bL_law_641 (ct := c_M_meet (d := d + 62) (u_X_meet w (w.1 83 (x3 + 1).toNatClampNeg) (w.1 83 (x3 + 2).toNatClampNeg) (0 : Int32)) ((u_X_meet w (w.1 83 (x3 + 1).toNatClampNeg) (w.1 83 (x3 + 2).toNatClampNeg) (0 : Int32)).1 83 (x3 + 1).toNatClampNeg) ((u_X_meet w (w.1 83 (x3 + 1).toNatClampNeg) (w.1 83 (x3 + 2).toNatClampNeg) (0 : Int32)).1 83 (x3 + 2).toNatClampNeg) (0 : Int32) (fun z0 z1 z2 => vpb_ok (g54_0 z0 z1 z2)) (fun z0 z1 z2 z3 z4 => vpb_ok (g54_1 z0 z1 z2 z3 z4)) (fun z0 z1 z2 z3 z4 => vpb_ok (g54_2 z0 z1 z2 z3 z4)) (fun z0 z1 z2 z3 z4 => vpb_ok (g54_3 z0 z1 z2 z3 z4)) (fun z0 z1 z2 z3 z4 => vpb_ok (g54_4 z0 z1 z2 z3 z4))) (k := ?_)
            refine bL_law_644 (kt := fun q55 => ?_) (kf := fun q55 => ?_)
            · replace hf := ite_t q55 hf
              refine bL_law_1432 (k := ?_)
              exact ih (u_M_meet (u_X_meet w (w.1 83 (x3 + 1).toNatClampNeg) (w.1 83 (x3 + 2).toNatClampNeg) (0 : Int32)) ((u_X_meet w (w.1 83 (x3 + 1).toNatClampNeg) (w.1 83 (x3 + 2).toNatClampNeg) (0 : Int32)).1 83 (x3 + 1).toNatClampNeg) ((u_X_meet w (w.1 83 (x3 + 1).toNatClampNeg) (w.1 83 (x3 + 2).toNatClampNeg) (0 : Int32)).1 83 (x3 + 2).toNatClampNeg) (0 : Int32)) (x3 + 6) hf
            · replace hf := ite_f q55 hf
              obtain ⟨rfl, rfl⟩ := ret_e hf
              exact bL_law_647 
          · replace hf := ite_f q52 hf
            refine bL_law_636 (k := ?_)
            obtain ⟨g59_0, hf⟩ := grd_e hf
            obtain ⟨g59_1, hf⟩ := grd_e hf
            obtain ⟨g59_2, hf⟩ := grd_e hf
            obtain ⟨g59_3, hf⟩ := grd_e hf
            obtain ⟨g59_4, hf⟩ := grd_e hf
            refine bL_law_641 (ct := c_M_meet (d := d + 62) (u_X_meet w (w.1 83 (x3 + 1).toNatClampNeg) (w.1 83 (x3 + 2).toNatClampNeg) (0 : Int32)) ((u_X_meet w (w.1 83 (x3 + 1).toNatClampNeg) (w.1 83 (x3 + 2).toNatClampNeg) (0 : Int32)).1 83 (x3 + 1).toNatClampNeg) ((u_X_meet w (w.1 83 (x3 + 1).toNatClampNeg) (w.1 83 (x3 + 2).toNatClampNeg) (0 : Int32)).1 83 (x3 + 2).toNatClampNeg) (1 : Int32) (fun z0 z1 z2 => vpb_ok (g59_0 z0 z1 z2)) (fun z0 z1 z2 z3 z4 => vpb_ok (g59_1 z0 z1 z2 z3 z4)) (fun z0 z1 z2 z3 z4 => vpb_ok (g59_2 z0 z1 z2 z3 z4)) (fun z0 z1 z2 z3 z4 => vpb_ok (g59_3 z0 z1 z2 z3 z4)) (fun z0 z1 z2 z3 z4 => vpb_ok (g59_4 z0 z1 z2 z3 z4))) (k := ?_)
            refine bL_law_644 (kt := fun q60 => ?_) (kf := fun q60 => ?_)
            · replace hf := ite_t q60 hf
              refine bL_law_1432 (k := ?_)
              exact ih (u_M_meet (u_X_meet w (w.1 83 (x3 + 1).toNatClampNeg) (w.1 83 (x3 + 2).toNatClampNeg) (0 : Int32)) ((u_X_meet w (w.1 83 (x3 + 1).toNatClampNeg) (w.1 83 (x3 + 2).toNatClampNeg) (0 : Int32)).1 83 (x3 + 1).toNatClampNeg) ((u_X_meet w (w.1 83 (x3 + 1).toNatClampNeg) (w.1 83 (x3 + 2).toNatClampNeg) (0 : Int32)).1 83 (x3 + 2).toNatClampNeg) (1 : Int32)) (x3 + 6) hf
            · replace hf := ite_f q60 hf
              obtain ⟨rfl, rfl⟩ := ret_e hf
              exact bL_law_647 
        · replace hf := ite_f q49 hf
          refine bL_law_609 (k := ?_)
          obtain ⟨g64_0, hf⟩ := grd_e hf
          obtain ⟨g64_1, hf⟩ := grd_e hf
          obtain ⟨g64_2, hf⟩ := grd_e hf
          obtain ⟨g64_3, hf⟩ := grd_e hf
          obtain ⟨g64_4, hf⟩ := grd_e hf
          obtain ⟨g64_5, hf⟩ := grd_e hf
          obtain ⟨g64_6, hf⟩ := grd_e hf
          obtain ⟨g64_7, hf⟩ := grd_e hf
          obtain ⟨g64_8, hf⟩ := grd_e hf
          refine bL_law_614 (ct := c_X_meet (d := d + 62) w (w.1 83 (x3 + 1).toNatClampNeg) (w.1 83 (x3 + 2).toNatClampNeg) (1 : Int32) (fun z0 z1 z2 z3 => vpb_ok (g64_0 z0 z1 z2 z3)) (fun z0 z1 z2 z3 z4 z5 z6 => vpb_ok (g64_1 z0 z1 z2 z3 z4 z5 z6)) (fun z0 z1 z2 z3 z4 z5 z6 => vpb_ok (g64_2 z0 z1 z2 z3 z4 z5 z6)) (fun z0 z1 z2 z3 z4 z5 z6 => vpb_ok (g64_3 z0 z1 z2 z3 z4 z5 z6)) (fun z0 z1 z2 z3 z4 z5 z6 => vpb_ok (g64_4 z0 z1 z2 z3 z4 z5 z6)) (fun z0 z1 z2 z3 z4 z5 z6 => vpb_ok (g64_5 z0 z1 z2 z3 z4 z5 z6)) (fun z0 z1 z2 z3 z4 z5 z6 => vpb_ok (g64_6 z0 z1 z2 z3 z4 z5 z6)) (fun z0 z1 z2 z3 z4 z5 z6 => vpb_ok (g64_7 z0 z1 z2 z3 z4 z5 z6)) (fun z0 z1 z2 z3 z4 z5 z6 => vpb_ok (g64_8 z0 z1 z2 z3 z4 z5 z6))) (k := ?_)
          obtain ⟨g65_0, hf⟩ := grd_e hf
          obtain ⟨g65_1, hf⟩ := grd_e hf
          obtain ⟨g65_2, hf⟩ := grd_e hf
          refine bL_law_617 (h1 := (Or.inr (by decide))) (h2 := (vpb_ok g65_0)) (h3 := (Or.inr (by decide))) (h4 := (vpb_ok g65_1)) (h5 := (Or.inr (by decide))) (h6 := (vpb_ok g65_2)) (kt := fun q65 => ?_) (kf := fun q65 => ?_)
          · replace hf := ite_t q65 hf
            refine bL_law_640 (k := ?_)
            obtain ⟨g67_0, hf⟩ := grd_e hf
            obtain ⟨g67_1, hf⟩ := grd_e hf
            obtain ⟨g67_2, hf⟩ := grd_e hf
            obtain ⟨g67_3, hf⟩ := grd_e hf
            obtain ⟨g67_4, hf⟩ := grd_e hf
            refine bL_law_641 (ct := c_M_meet (d := d + 62) (u_X_meet w (w.1 83 (x3 + 1).toNatClampNeg) (w.1 83 (x3 + 2).toNatClampNeg) (1 : Int32)) ((u_X_meet w (w.1 83 (x3 + 1).toNatClampNeg) (w.1 83 (x3 + 2).toNatClampNeg) (1 : Int32)).1 83 (x3 + 1).toNatClampNeg) ((u_X_meet w (w.1 83 (x3 + 1).toNatClampNeg) (w.1 83 (x3 + 2).toNatClampNeg) (1 : Int32)).1 83 (x3 + 2).toNatClampNeg) (0 : Int32) (fun z0 z1 z2 => vpb_ok (g67_0 z0 z1 z2)) (fun z0 z1 z2 z3 z4 => vpb_ok (g67_1 z0 z1 z2 z3 z4)) (fun z0 z1 z2 z3 z4 => vpb_ok (g67_2 z0 z1 z2 z3 z4)) (fun z0 z1 z2 z3 z4 => vpb_ok (g67_3 z0 z1 z2 z3 z4)) (fun z0 z1 z2 z3 z4 => vpb_ok (g67_4 z0 z1 z2 z3 z4))) (k := ?_)
            refine bL_law_644 (kt := fun q68 => ?_) (kf := fun q68 => ?_)
            · replace hf := ite_t q68 hf
              refine bL_law_1432 (k := ?_)
              exact ih (u_M_meet (u_X_meet w (w.1 83 (x3 + 1).toNatClampNeg) (w.1 83 (x3 + 2).toNatClampNeg) (1 : Int32)) ((u_X_meet w (w.1 83 (x3 + 1).toNatClampNeg) (w.1 83 (x3 + 2).toNatClampNeg) (1 : Int32)).1 83 (x3 + 1).toNatClampNeg) ((u_X_meet w (w.1 83 (x3 + 1).toNatClampNeg) (w.1 83 (x3 + 2).toNatClampNeg) (1 : Int32)).1 83 (x3 + 2).toNatClampNeg) (0 : Int32)) (x3 + 6) hf
            · replace hf := ite_f q68 hf
              obtain ⟨rfl, rfl⟩ := ret_e hf
              exact bL_law_647 
          · replace hf := ite_f q65 hf
            refine bL_law_636 (k := ?_)
            obtain ⟨g72_0, hf⟩ := grd_e hf
            obtain ⟨g72_1, hf⟩ := grd_e hf
            obtain ⟨g72_2, hf⟩ := grd_e hf
            obtain ⟨g72_3, hf⟩ := grd_e hf
            obtain ⟨g72_4, hf⟩ := grd_e hf
            refine bL_law_641 (ct := c_M_meet (d := d + 62) (u_X_meet w (w.1 83 (x3 + 1).toNatClampNeg) (w.1 83 (x3 + 2).toNatClampNeg) (1 : Int32)) ((u_X_meet w (w.1 83 (x3 + 1).toNatClampNeg) (w.1 83 (x3 + 2).toNatClampNeg) (1 : Int32)).1 83 (x3 + 1).toNatClampNeg) ((u_X_meet w (w.1 83 (x3 + 1).toNatClampNeg) (w.1 83 (x3 + 2).toNatClampNeg) (1 : Int32)).1 83 (x3 + 2).toNatClampNeg) (1 : Int32) (fun z0 z1 z2 => vpb_ok (g72_0 z0 z1 z2)) (fun z0 z1 z2 z3 z4 => vpb_ok (g72_1 z0 z1 z2 z3 z4)) (fun z0 z1 z2 z3 z4 => vpb_ok (g72_2 z0 z1 z2 z3 z4)) (fun z0 z1 z2 z3 z4 => vpb_ok (g72_3 z0 z1 z2 z3 z4)) (fun z0 z1 z2 z3 z4 => vpb_ok (g72_4 z0 z1 z2 z3 z4))) (k := ?_)
            refine bL_law_644 (kt := fun q73 => ?_) (kf := fun q73 => ?_)
            · replace hf := ite_t q73 hf
              refine bL_law_1432 (k := ?_)
              exact ih (u_M_meet (u_X_meet w (w.1 83 (x3 + 1).toNatClampNeg) (w.1 83 (x3 + 2).toNatClampNeg) (1 : Int32)) ((u_X_meet w (w.1 83 (x3 + 1).toNatClampNeg) (w.1 83 (x3 + 2).toNatClampNeg) (1 : Int32)).1 83 (x3 + 1).toNatClampNeg) ((u_X_meet w (w.1 83 (x3 + 1).toNatClampNeg) (w.1 83 (x3 + 2).toNatClampNeg) (1 : Int32)).1 83 (x3 + 2).toNatClampNeg) (1 : Int32)) (x3 + 6) hf
            · replace hf := ite_f q73 hf
              obtain ⟨rfl, rfl⟩ := ret_e hf
              exact bL_law_647 
      · have hq := q3_10
        replace hf := ite_f (by rw [hq]; decide) hf
        replace hf := ite_f (by rw [hq]; decide) hf
        replace hf := ite_f (by rw [hq]; decide) hf
        replace hf := ite_f (by rw [hq]; decide) hf
        replace hf := ite_f (by rw [hq]; decide) hf
        replace hf := ite_f (by rw [hq]; decide) hf
        replace hf := ite_f (by rw [hq]; decide) hf
        replace hf := ite_f (by rw [hq]; decide) hf
        replace hf := ite_f (by rw [hq]; decide) hf
        replace hf := ite_f (by rw [hq]; decide) hf
        replace hf := ite_t hq hf
        obtain ⟨g76_0, hf⟩ := grd_e hf
        obtain ⟨g76_1, hf⟩ := grd_e hf
        obtain ⟨v76, w76, e76, hf⟩ := bI_e hf
        refine bL_law_649 (h1 := (Or.inr (by decide))) (h2 := (vpb_ok g76_0)) (h3 := (Or.inr (by decide))) (h4 := (vpb_ok g76_1)) (ct := c_X_say (d := d + 61) w (w.1 83 (x3 + 1).toNatClampNeg) (w.1 83 (x3 + 2).toNatClampNeg) e76) (k := ?_)
        obtain ⟨g77_0, hf⟩ := grd_e hf
        obtain ⟨g77_1, hf⟩ := grd_e hf
        obtain ⟨v77, w77, e77, hf⟩ := bI_e hf
        refine bL_law_663 (h1 := (Or.inr (by decide))) (h2 := (vpb_ok g77_0)) (h3 := (Or.inr (by decide))) (h4 := (vpb_ok g77_1)) (ct := c_M_say (d := d + 61) w76 (w76.1 83 (x3 + 1).toNatClampNeg) (w76.1 83 (x3 + 2).toNatClampNeg) e77) (k := ?_)
        refine bL_law_677 (kt := fun q78 => ?_) (kf := fun q78 => ?_)
        · replace hf := ite_t q78 hf
          refine bL_law_1432 (k := ?_)
          exact ih w77 (x3 + 6) hf
        · replace hf := ite_f q78 hf
          obtain ⟨rfl, rfl⟩ := ret_e hf
          exact bL_law_680 
      · have hq := q3_11
        replace hf := ite_f (by rw [hq]; decide) hf
        replace hf := ite_f (by rw [hq]; decide) hf
        replace hf := ite_f (by rw [hq]; decide) hf
        replace hf := ite_f (by rw [hq]; decide) hf
        replace hf := ite_f (by rw [hq]; decide) hf
        replace hf := ite_f (by rw [hq]; decide) hf
        replace hf := ite_f (by rw [hq]; decide) hf
        replace hf := ite_f (by rw [hq]; decide) hf
        replace hf := ite_f (by rw [hq]; decide) hf
        replace hf := ite_f (by rw [hq]; decide) hf
        replace hf := ite_f (by rw [hq]; decide) hf
        replace hf := ite_t hq hf
        obtain ⟨g81_0, hf⟩ := grd_e hf
        obtain ⟨g81_1, hf⟩ := grd_e hf
        refine bL_law_682 (h1 := (Or.inr (by decide))) (h2 := (vpb_ok g81_0)) (ct := c_X_word (d := d + 63) w (w.1 83 (x3 + 1).toNatClampNeg) (fun z0 => vpb_ok (g81_1 z0))) (k := ?_)
        obtain ⟨g82_0, hf⟩ := grd_e hf
        obtain ⟨g82_1, hf⟩ := grd_e hf
        refine bL_law_691 (h1 := (Or.inr (by decide))) (h2 := (vpb_ok g82_0)) (ct := c_M_word (d := d + 63) (u_X_word w (w.1 83 (x3 + 1).toNatClampNeg)) ((u_X_word w (w.1 83 (x3 + 1).toNatClampNeg)).1 83 (x3 + 1).toNatClampNeg) (fun z0 => vpb_ok (g82_1 z0))) (k := ?_)
        refine bL_law_700 (kt := fun q83 => ?_) (kf := fun q83 => ?_)
        · replace hf := ite_t q83 hf
          refine bL_law_1432 (k := ?_)
          exact ih (u_M_word (u_X_word w (w.1 83 (x3 + 1).toNatClampNeg)) ((u_X_word w (w.1 83 (x3 + 1).toNatClampNeg)).1 83 (x3 + 1).toNatClampNeg)) (x3 + 6) hf
        · replace hf := ite_f q83 hf
          obtain ⟨rfl, rfl⟩ := ret_e hf
          exact bL_law_703 
      · have hq := q3_12
        replace hf := ite_f (by rw [hq]; decide) hf
        replace hf := ite_f (by rw [hq]; decide) hf
        replace hf := ite_f (by rw [hq]; decide) hf
        replace hf := ite_f (by rw [hq]; decide) hf
        replace hf := ite_f (by rw [hq]; decide) hf
        replace hf := ite_f (by rw [hq]; decide) hf
        replace hf := ite_f (by rw [hq]; decide) hf
        replace hf := ite_f (by rw [hq]; decide) hf
        replace hf := ite_f (by rw [hq]; decide) hf
        replace hf := ite_f (by rw [hq]; decide) hf
        replace hf := ite_f (by rw [hq]; decide) hf
        replace hf := ite_f (by rw [hq]; decide) hf
        replace hf := ite_t hq hf
        obtain ⟨g86_0, hf⟩ := grd_e hf
        obtain ⟨v86, w86, e86, hf⟩ := bI_e hf
        refine bL_law_705 (h1 := (Or.inr (by decide))) (h2 := (vpb_ok g86_0)) (ct := c_X_court (d := d + 57) w (w.1 83 (x3 + 1).toNatClampNeg) e86) (k := ?_)
        obtain ⟨g87_0, hf⟩ := grd_e hf
        obtain ⟨v87, w87, e87, hf⟩ := bI_e hf
        refine bL_law_714 (h1 := (Or.inr (by decide))) (h2 := (vpb_ok g87_0)) (ct := c_M_court (d := d + 57) w86 (w86.1 83 (x3 + 1).toNatClampNeg) e87) (k := ?_)
        refine bL_law_723 (kt := fun q88 => ?_) (kf := fun q88 => ?_)
        · replace hf := ite_t q88 hf
          refine bL_law_1432 (k := ?_)
          exact ih w87 (x3 + 6) hf
        · replace hf := ite_f q88 hf
          obtain ⟨rfl, rfl⟩ := ret_e hf
          exact bL_law_726 
      · have hq := q3_13
        replace hf := ite_f (by rw [hq]; decide) hf
        replace hf := ite_f (by rw [hq]; decide) hf
        replace hf := ite_f (by rw [hq]; decide) hf
        replace hf := ite_f (by rw [hq]; decide) hf
        replace hf := ite_f (by rw [hq]; decide) hf
        replace hf := ite_f (by rw [hq]; decide) hf
        replace hf := ite_f (by rw [hq]; decide) hf
        replace hf := ite_f (by rw [hq]; decide) hf
        replace hf := ite_f (by rw [hq]; decide) hf
        replace hf := ite_f (by rw [hq]; decide) hf
        replace hf := ite_f (by rw [hq]; decide) hf
        replace hf := ite_f (by rw [hq]; decide) hf
        replace hf := ite_f (by rw [hq]; decide) hf
        replace hf := ite_t hq hf
        refine bL_law_728 (ct := c_X_fault (d := d + 64) w ) (k := ?_)
        refine bL_law_732 (ct := c_M_fault (d := d + 64) w ) (k := ?_)
        refine bL_law_736 (kt := fun q93 => ?_) (kf := fun q93 => ?_)
        · replace hf := ite_t q93 hf
          refine bL_law_1432 (k := ?_)
          exact ih w (x3 + 6) hf
        · replace hf := ite_f q93 hf
          obtain ⟨rfl, rfl⟩ := ret_e hf
          exact bL_law_739 
      · have hq := q3_14
        replace hf := ite_f (by rw [hq]; decide) hf
        replace hf := ite_f (by rw [hq]; decide) hf
        replace hf := ite_f (by rw [hq]; decide) hf
        replace hf := ite_f (by rw [hq]; decide) hf
        replace hf := ite_f (by rw [hq]; decide) hf
        replace hf := ite_f (by rw [hq]; decide) hf
        replace hf := ite_f (by rw [hq]; decide) hf
        replace hf := ite_f (by rw [hq]; decide) hf
        replace hf := ite_f (by rw [hq]; decide) hf
        replace hf := ite_f (by rw [hq]; decide) hf
        replace hf := ite_f (by rw [hq]; decide) hf
        replace hf := ite_f (by rw [hq]; decide) hf
        replace hf := ite_f (by rw [hq]; decide) hf
        replace hf := ite_f (by rw [hq]; decide) hf
        replace hf := ite_t hq hf
        obtain ⟨g96_0, hf⟩ := grd_e hf
        obtain ⟨g96_1, hf⟩ := grd_e hf
        obtain ⟨v96, w96, e96, hf⟩ := bI_e hf
        refine bL_law_741 (h1 := (Or.inr (by decide))) (h2 := (vpb_ok g96_0)) (h3 := (Or.inr (by decide))) (h4 := (vpb_ok g96_1)) (ct := c_X_hears (d := d + 60) w (w.1 83 (x3 + 1).toNatClampNeg) (w.1 83 (x3 + 2).toNatClampNeg) e96) (k := ?_)
        obtain ⟨g97_0, hf⟩ := grd_e hf
        obtain ⟨g97_1, hf⟩ := grd_e hf
        obtain ⟨v97, w97, e97, hf⟩ := bI_e hf
        refine bL_law_755 (h1 := (Or.inr (by decide))) (h2 := (vpb_ok g97_0)) (h3 := (Or.inr (by decide))) (h4 := (vpb_ok g97_1)) (ct := c_M_hears (d := d + 62) w96 (w96.1 83 (x3 + 1).toNatClampNeg) (w96.1 83 (x3 + 2).toNatClampNeg) e97) (k := ?_)
        refine bL_law_769 (kt := fun q98 => ?_) (kf := fun q98 => ?_)
        · replace hf := ite_t q98 hf
          refine bL_law_1432 (k := ?_)
          exact ih w97 (x3 + 6) hf
        · replace hf := ite_f q98 hf
          obtain ⟨rfl, rfl⟩ := ret_e hf
          exact bL_law_772 
      · have hq := q3_15
        replace hf := ite_f (by rw [hq]; decide) hf
        replace hf := ite_f (by rw [hq]; decide) hf
        replace hf := ite_f (by rw [hq]; decide) hf
        replace hf := ite_f (by rw [hq]; decide) hf
        replace hf := ite_f (by rw [hq]; decide) hf
        replace hf := ite_f (by rw [hq]; decide) hf
        replace hf := ite_f (by rw [hq]; decide) hf
        replace hf := ite_f (by rw [hq]; decide) hf
        replace hf := ite_f (by rw [hq]; decide) hf
        replace hf := ite_f (by rw [hq]; decide) hf
        replace hf := ite_f (by rw [hq]; decide) hf
        replace hf := ite_f (by rw [hq]; decide) hf
        replace hf := ite_f (by rw [hq]; decide) hf
        replace hf := ite_f (by rw [hq]; decide) hf
        replace hf := ite_f (by rw [hq]; decide) hf
        replace hf := ite_t hq hf
        obtain ⟨g101_0, hf⟩ := grd_e hf
        obtain ⟨g101_1, hf⟩ := grd_e hf
        obtain ⟨v101, w101, e101, hf⟩ := bI_e hf
        refine bL_law_774 (h1 := (Or.inr (by decide))) (h2 := (vpb_ok g101_0)) (h3 := (Or.inr (by decide))) (h4 := (vpb_ok g101_1)) (ct := c_X_sense (d := d + 58) w (w.1 83 (x3 + 1).toNatClampNeg) (w.1 83 (x3 + 2).toNatClampNeg) e101) (k := ?_)
        obtain ⟨g102_0, hf⟩ := grd_e hf
        obtain ⟨g102_1, hf⟩ := grd_e hf
        obtain ⟨v102, w102, e102, hf⟩ := bI_e hf
        refine bL_law_788 (h1 := (Or.inr (by decide))) (h2 := (vpb_ok g102_0)) (h3 := (Or.inr (by decide))) (h4 := (vpb_ok g102_1)) (ct := c_M_sense (d := d + 61) w101 (w101.1 83 (x3 + 1).toNatClampNeg) (w101.1 83 (x3 + 2).toNatClampNeg) e102) (k := ?_)
        refine bL_law_802 (kt := fun q103 => ?_) (kf := fun q103 => ?_)
        · replace hf := ite_t q103 hf
          refine bL_law_1432 (k := ?_)
          exact ih w102 (x3 + 6) hf
        · replace hf := ite_f q103 hf
          obtain ⟨rfl, rfl⟩ := ret_e hf
          exact bL_law_805 
      · have hq := q3_16
        replace hf := ite_f (by rw [hq]; decide) hf
        replace hf := ite_f (by rw [hq]; decide) hf
        replace hf := ite_f (by rw [hq]; decide) hf
        replace hf := ite_f (by rw [hq]; decide) hf
        replace hf := ite_f (by rw [hq]; decide) hf
        replace hf := ite_f (by rw [hq]; decide) hf
        replace hf := ite_f (by rw [hq]; decide) hf
        replace hf := ite_f (by rw [hq]; decide) hf
        replace hf := ite_f (by rw [hq]; decide) hf
        replace hf := ite_f (by rw [hq]; decide) hf
        replace hf := ite_f (by rw [hq]; decide) hf
        replace hf := ite_f (by rw [hq]; decide) hf
        replace hf := ite_f (by rw [hq]; decide) hf
        replace hf := ite_f (by rw [hq]; decide) hf
        replace hf := ite_f (by rw [hq]; decide) hf
        replace hf := ite_f (by rw [hq]; decide) hf
        replace hf := ite_t hq hf
        obtain ⟨v106, w106, e106, hf⟩ := bI_e hf
        refine bL_law_807 (ct := c_X_whole (d := d + 61) w e106) (k := ?_)
        obtain ⟨v107, w107, e107, hf⟩ := bI_e hf
        refine bL_law_811 (ct := c_M_whole (d := d + 61) w106 e107) (k := ?_)
        refine bL_law_815 (kt := fun q108 => ?_) (kf := fun q108 => ?_)
        · replace hf := ite_t q108 hf
          refine bL_law_1432 (k := ?_)
          exact ih w107 (x3 + 6) hf
        · replace hf := ite_f q108 hf
          obtain ⟨rfl, rfl⟩ := ret_e hf
          exact bL_law_818 
      · have hq := q3_17
        replace hf := ite_f (by rw [hq]; decide) hf
        replace hf := ite_f (by rw [hq]; decide) hf
        replace hf := ite_f (by rw [hq]; decide) hf
        replace hf := ite_f (by rw [hq]; decide) hf
        replace hf := ite_f (by rw [hq]; decide) hf
        replace hf := ite_f (by rw [hq]; decide) hf
        replace hf := ite_f (by rw [hq]; decide) hf
        replace hf := ite_f (by rw [hq]; decide) hf
        replace hf := ite_f (by rw [hq]; decide) hf
        replace hf := ite_f (by rw [hq]; decide) hf
        replace hf := ite_f (by rw [hq]; decide) hf
        replace hf := ite_f (by rw [hq]; decide) hf
        replace hf := ite_f (by rw [hq]; decide) hf
        replace hf := ite_f (by rw [hq]; decide) hf
        replace hf := ite_f (by rw [hq]; decide) hf
        replace hf := ite_f (by rw [hq]; decide) hf
        replace hf := ite_f (by rw [hq]; decide) hf
        replace hf := ite_t hq hf
        obtain ⟨g111_0, hf⟩ := grd_e hf
        obtain ⟨g111_1, hf⟩ := grd_e hf
        obtain ⟨v111, w111, e111, hf⟩ := bI_e hf
        refine bL_law_820 (h1 := (Or.inr (by decide))) (h2 := (vpb_ok g111_0)) (h3 := (Or.inr (by decide))) (h4 := (vpb_ok g111_1)) (ct := c_X_known (d := d + 58) w (w.1 83 (x3 + 1).toNatClampNeg) (w.1 83 (x3 + 2).toNatClampNeg) e111) (k := ?_)
        obtain ⟨g112_0, hf⟩ := grd_e hf
        obtain ⟨g112_1, hf⟩ := grd_e hf
        obtain ⟨v112, w112, e112, hf⟩ := bI_e hf
        refine bL_law_834 (h1 := (Or.inr (by decide))) (h2 := (vpb_ok g112_0)) (h3 := (Or.inr (by decide))) (h4 := (vpb_ok g112_1)) (ct := c_M_known (d := d + 61) w111 (w111.1 83 (x3 + 1).toNatClampNeg) (w111.1 83 (x3 + 2).toNatClampNeg) e112) (k := ?_)
        refine bL_law_848 (kt := fun q113 => ?_) (kf := fun q113 => ?_)
        · replace hf := ite_t q113 hf
          refine bL_law_1432 (k := ?_)
          exact ih w112 (x3 + 6) hf
        · replace hf := ite_f q113 hf
          obtain ⟨rfl, rfl⟩ := ret_e hf
          exact bL_law_851 
      · have hq := q3_18
        replace hf := ite_f (by rw [hq]; decide) hf
        replace hf := ite_f (by rw [hq]; decide) hf
        replace hf := ite_f (by rw [hq]; decide) hf
        replace hf := ite_f (by rw [hq]; decide) hf
        replace hf := ite_f (by rw [hq]; decide) hf
        replace hf := ite_f (by rw [hq]; decide) hf
        replace hf := ite_f (by rw [hq]; decide) hf
        replace hf := ite_f (by rw [hq]; decide) hf
        replace hf := ite_f (by rw [hq]; decide) hf
        replace hf := ite_f (by rw [hq]; decide) hf
        replace hf := ite_f (by rw [hq]; decide) hf
        replace hf := ite_f (by rw [hq]; decide) hf
        replace hf := ite_f (by rw [hq]; decide) hf
        replace hf := ite_f (by rw [hq]; decide) hf
        replace hf := ite_f (by rw [hq]; decide) hf
        replace hf := ite_f (by rw [hq]; decide) hf
        replace hf := ite_f (by rw [hq]; decide) hf
        replace hf := ite_f (by rw [hq]; decide) hf
        replace hf := ite_t hq hf
        obtain ⟨g116_0, hf⟩ := grd_e hf
        obtain ⟨g116_1, hf⟩ := grd_e hf
        refine bL_law_853 (h1 := (Or.inr (by decide))) (h2 := (vpb_ok g116_0)) (ct := c_X_belief (d := d + 62) w (w.1 83 (x3 + 1).toNatClampNeg) (fun z0 => vpb_ok (g116_1 z0))) (k := ?_)
        obtain ⟨g117_0, hf⟩ := grd_e hf
        obtain ⟨g117_1, hf⟩ := grd_e hf
        refine bL_law_862 (h1 := (Or.inr (by decide))) (h2 := (vpb_ok g117_0)) (ct := c_M_belief (d := d + 62) (u_X_belief w (w.1 83 (x3 + 1).toNatClampNeg)) ((u_X_belief w (w.1 83 (x3 + 1).toNatClampNeg)).1 83 (x3 + 1).toNatClampNeg) (fun z0 => vpb_ok (g117_1 z0))) (k := ?_)
        refine bL_law_871 (kt := fun q118 => ?_) (kf := fun q118 => ?_)
        · replace hf := ite_t q118 hf
          refine bL_law_1432 (k := ?_)
          exact ih (u_M_belief (u_X_belief w (w.1 83 (x3 + 1).toNatClampNeg)) ((u_X_belief w (w.1 83 (x3 + 1).toNatClampNeg)).1 83 (x3 + 1).toNatClampNeg)) (x3 + 6) hf
        · replace hf := ite_f q118 hf
          obtain ⟨rfl, rfl⟩ := ret_e hf
          exact bL_law_874 
      · have hq := q3_19
        replace hf := ite_f (by rw [hq]; decide) hf
        replace hf := ite_f (by rw [hq]; decide) hf
        replace hf := ite_f (by rw [hq]; decide) hf
        replace hf := ite_f (by rw [hq]; decide) hf
        replace hf := ite_f (by rw [hq]; decide) hf
        replace hf := ite_f (by rw [hq]; decide) hf
        replace hf := ite_f (by rw [hq]; decide) hf
        replace hf := ite_f (by rw [hq]; decide) hf
        replace hf := ite_f (by rw [hq]; decide) hf
        replace hf := ite_f (by rw [hq]; decide) hf
        replace hf := ite_f (by rw [hq]; decide) hf
        replace hf := ite_f (by rw [hq]; decide) hf
        replace hf := ite_f (by rw [hq]; decide) hf
        replace hf := ite_f (by rw [hq]; decide) hf
        replace hf := ite_f (by rw [hq]; decide) hf
        replace hf := ite_f (by rw [hq]; decide) hf
        replace hf := ite_f (by rw [hq]; decide) hf
        replace hf := ite_f (by rw [hq]; decide) hf
        replace hf := ite_f (by rw [hq]; decide) hf
        replace hf := ite_t hq hf
        obtain ⟨g121_0, hf⟩ := grd_e hf
        obtain ⟨g121_1, hf⟩ := grd_e hf
        obtain ⟨v121, w121, e121, hf⟩ := bI_e hf
        refine bL_law_876 (h1 := (Or.inr (by decide))) (h2 := (vpb_ok g121_0)) (h3 := (Or.inr (by decide))) (h4 := (vpb_ok g121_1)) (ct := c_X_together (d := d + 58) w (w.1 83 (x3 + 1).toNatClampNeg) (w.1 83 (x3 + 2).toNatClampNeg) e121) (k := ?_)
        obtain ⟨g122_0, hf⟩ := grd_e hf
        obtain ⟨g122_1, hf⟩ := grd_e hf
        obtain ⟨v122, w122, e122, hf⟩ := bI_e hf
        refine bL_law_890 (h1 := (Or.inr (by decide))) (h2 := (vpb_ok g122_0)) (h3 := (Or.inr (by decide))) (h4 := (vpb_ok g122_1)) (ct := c_M_together (d := d + 60) w121 (w121.1 83 (x3 + 1).toNatClampNeg) (w121.1 83 (x3 + 2).toNatClampNeg) e122) (k := ?_)
        refine bL_law_904 (kt := fun q123 => ?_) (kf := fun q123 => ?_)
        · replace hf := ite_t q123 hf
          refine bL_law_1432 (k := ?_)
          exact ih w122 (x3 + 6) hf
        · replace hf := ite_f q123 hf
          obtain ⟨rfl, rfl⟩ := ret_e hf
          exact bL_law_907 
      · have hq := q3_20
        replace hf := ite_f (by rw [hq]; decide) hf
        replace hf := ite_f (by rw [hq]; decide) hf
        replace hf := ite_f (by rw [hq]; decide) hf
        replace hf := ite_f (by rw [hq]; decide) hf
        replace hf := ite_f (by rw [hq]; decide) hf
        replace hf := ite_f (by rw [hq]; decide) hf
        replace hf := ite_f (by rw [hq]; decide) hf
        replace hf := ite_f (by rw [hq]; decide) hf
        replace hf := ite_f (by rw [hq]; decide) hf
        replace hf := ite_f (by rw [hq]; decide) hf
        replace hf := ite_f (by rw [hq]; decide) hf
        replace hf := ite_f (by rw [hq]; decide) hf
        replace hf := ite_f (by rw [hq]; decide) hf
        replace hf := ite_f (by rw [hq]; decide) hf
        replace hf := ite_f (by rw [hq]; decide) hf
        replace hf := ite_f (by rw [hq]; decide) hf
        replace hf := ite_f (by rw [hq]; decide) hf
        replace hf := ite_f (by rw [hq]; decide) hf
        replace hf := ite_f (by rw [hq]; decide) hf
        replace hf := ite_f (by rw [hq]; decide) hf
        replace hf := ite_t hq hf
        obtain ⟨v126, w126, e126, hf⟩ := bI_e hf
        refine bL_law_909 (ct := c_X_cover (d := d + 58) w e126) (k := ?_)
        obtain ⟨v127, w127, e127, hf⟩ := bI_e hf
        refine bL_law_913 (ct := c_M_cover (d := d + 61) w126 e127) (k := ?_)
        refine bL_law_917 (kt := fun q128 => ?_) (kf := fun q128 => ?_)
        · replace hf := ite_t q128 hf
          refine bL_law_1432 (k := ?_)
          exact ih w127 (x3 + 6) hf
        · replace hf := ite_f q128 hf
          obtain ⟨rfl, rfl⟩ := ret_e hf
          exact bL_law_920 
      · have hq := q3_21
        replace hf := ite_f (by rw [hq]; decide) hf
        replace hf := ite_f (by rw [hq]; decide) hf
        replace hf := ite_f (by rw [hq]; decide) hf
        replace hf := ite_f (by rw [hq]; decide) hf
        replace hf := ite_f (by rw [hq]; decide) hf
        replace hf := ite_f (by rw [hq]; decide) hf
        replace hf := ite_f (by rw [hq]; decide) hf
        replace hf := ite_f (by rw [hq]; decide) hf
        replace hf := ite_f (by rw [hq]; decide) hf
        replace hf := ite_f (by rw [hq]; decide) hf
        replace hf := ite_f (by rw [hq]; decide) hf
        replace hf := ite_f (by rw [hq]; decide) hf
        replace hf := ite_f (by rw [hq]; decide) hf
        replace hf := ite_f (by rw [hq]; decide) hf
        replace hf := ite_f (by rw [hq]; decide) hf
        replace hf := ite_f (by rw [hq]; decide) hf
        replace hf := ite_f (by rw [hq]; decide) hf
        replace hf := ite_f (by rw [hq]; decide) hf
        replace hf := ite_f (by rw [hq]; decide) hf
        replace hf := ite_f (by rw [hq]; decide) hf
        replace hf := ite_f (by rw [hq]; decide) hf
        replace hf := ite_t hq hf
        obtain ⟨g131_0, hf⟩ := grd_e hf
        obtain ⟨v131, w131, e131, hf⟩ := bI_e hf
        refine bL_law_922 (h1 := (Or.inr (by decide))) (h2 := (vpb_ok g131_0)) (ct := c_X_ask (d := d + 57) w (w.1 83 (x3 + 1).toNatClampNeg) e131) (k := ?_)
        obtain ⟨g132_0, hf⟩ := grd_e hf
        obtain ⟨v132, w132, e132, hf⟩ := bI_e hf
        refine bL_law_931 (h1 := (Or.inr (by decide))) (h2 := (vpb_ok g132_0)) (ct := c_M_ask (d := d + 61) w131 (w131.1 83 (x3 + 1).toNatClampNeg) e132) (k := ?_)
        refine bL_law_940 (kt := fun q133 => ?_) (kf := fun q133 => ?_)
        · replace hf := ite_t q133 hf
          refine bL_law_1432 (k := ?_)
          exact ih w132 (x3 + 6) hf
        · replace hf := ite_f q133 hf
          obtain ⟨rfl, rfl⟩ := ret_e hf
          exact bL_law_943 
      · have hq := q3_22
        replace hf := ite_f (by rw [hq]; decide) hf
        replace hf := ite_f (by rw [hq]; decide) hf
        replace hf := ite_f (by rw [hq]; decide) hf
        replace hf := ite_f (by rw [hq]; decide) hf
        replace hf := ite_f (by rw [hq]; decide) hf
        replace hf := ite_f (by rw [hq]; decide) hf
        replace hf := ite_f (by rw [hq]; decide) hf
        replace hf := ite_f (by rw [hq]; decide) hf
        replace hf := ite_f (by rw [hq]; decide) hf
        replace hf := ite_f (by rw [hq]; decide) hf
        replace hf := ite_f (by rw [hq]; decide) hf
        replace hf := ite_f (by rw [hq]; decide) hf
        replace hf := ite_f (by rw [hq]; decide) hf
        replace hf := ite_f (by rw [hq]; decide) hf
        replace hf := ite_f (by rw [hq]; decide) hf
        replace hf := ite_f (by rw [hq]; decide) hf
        replace hf := ite_f (by rw [hq]; decide) hf
        replace hf := ite_f (by rw [hq]; decide) hf
        replace hf := ite_f (by rw [hq]; decide) hf
        replace hf := ite_f (by rw [hq]; decide) hf
        replace hf := ite_f (by rw [hq]; decide) hf
        replace hf := ite_f (by rw [hq]; decide) hf
        replace hf := ite_t hq hf
        obtain ⟨g136_0, hf⟩ := grd_e hf
        obtain ⟨v136, w136, e136, hf⟩ := bI_e hf
        refine bL_law_945 (h1 := (Or.inr (by decide))) (h2 := (vpb_ok g136_0)) (ct := c_X_soon (d := d + 59) w (w.1 83 (x3 + 1).toNatClampNeg) e136) (k := ?_)
        obtain ⟨g137_0, hf⟩ := grd_e hf
        obtain ⟨v137, w137, e137, hf⟩ := bI_e hf
        refine bL_law_954 (h1 := (Or.inr (by decide))) (h2 := (vpb_ok g137_0)) (ct := c_M_soon (d := d + 60) w136 (w136.1 83 (x3 + 1).toNatClampNeg) e137) (k := ?_)
        refine bL_law_963 (kt := fun q138 => ?_) (kf := fun q138 => ?_)
        · replace hf := ite_t q138 hf
          refine bL_law_1432 (k := ?_)
          exact ih w137 (x3 + 6) hf
        · replace hf := ite_f q138 hf
          obtain ⟨rfl, rfl⟩ := ret_e hf
          exact bL_law_966 
      · have hq := q3_23
        replace hf := ite_f (by rw [hq]; decide) hf
        replace hf := ite_f (by rw [hq]; decide) hf
        replace hf := ite_f (by rw [hq]; decide) hf
        replace hf := ite_f (by rw [hq]; decide) hf
        replace hf := ite_f (by rw [hq]; decide) hf
        replace hf := ite_f (by rw [hq]; decide) hf
        replace hf := ite_f (by rw [hq]; decide) hf
        replace hf := ite_f (by rw [hq]; decide) hf
        replace hf := ite_f (by rw [hq]; decide) hf
        replace hf := ite_f (by rw [hq]; decide) hf
        replace hf := ite_f (by rw [hq]; decide) hf
        replace hf := ite_f (by rw [hq]; decide) hf
        replace hf := ite_f (by rw [hq]; decide) hf
        replace hf := ite_f (by rw [hq]; decide) hf
        replace hf := ite_f (by rw [hq]; decide) hf
        replace hf := ite_f (by rw [hq]; decide) hf
        replace hf := ite_f (by rw [hq]; decide) hf
        replace hf := ite_f (by rw [hq]; decide) hf
        replace hf := ite_f (by rw [hq]; decide) hf
        replace hf := ite_f (by rw [hq]; decide) hf
        replace hf := ite_f (by rw [hq]; decide) hf
        replace hf := ite_f (by rw [hq]; decide) hf
        replace hf := ite_f (by rw [hq]; decide) hf
        replace hf := ite_t hq hf
        obtain ⟨g141_0, hf⟩ := grd_e hf
        obtain ⟨v141, w141, e141, hf⟩ := bI_e hf
        refine bL_law_968 (h1 := (Or.inr (by decide))) (h2 := (vpb_ok g141_0)) (ct := c_X_wrongOnes (d := d + 59) w (w.1 83 (x3 + 1).toNatClampNeg) e141) (k := ?_)
        obtain ⟨g142_0, hf⟩ := grd_e hf
        obtain ⟨v142, w142, e142, hf⟩ := bI_e hf
        refine bL_law_977 (h1 := (Or.inr (by decide))) (h2 := (vpb_ok g142_0)) (ct := c_M_wrongOnes (d := d + 61) w141 (w141.1 83 (x3 + 1).toNatClampNeg) e142) (k := ?_)
        refine bL_law_986 (kt := fun q143 => ?_) (kf := fun q143 => ?_)
        · replace hf := ite_t q143 hf
          refine bL_law_1432 (k := ?_)
          exact ih w142 (x3 + 6) hf
        · replace hf := ite_f q143 hf
          obtain ⟨rfl, rfl⟩ := ret_e hf
          exact bL_law_989 
      · have hq := q3_24
        replace hf := ite_f (by rw [hq]; decide) hf
        replace hf := ite_f (by rw [hq]; decide) hf
        replace hf := ite_f (by rw [hq]; decide) hf
        replace hf := ite_f (by rw [hq]; decide) hf
        replace hf := ite_f (by rw [hq]; decide) hf
        replace hf := ite_f (by rw [hq]; decide) hf
        replace hf := ite_f (by rw [hq]; decide) hf
        replace hf := ite_f (by rw [hq]; decide) hf
        replace hf := ite_f (by rw [hq]; decide) hf
        replace hf := ite_f (by rw [hq]; decide) hf
        replace hf := ite_f (by rw [hq]; decide) hf
        replace hf := ite_f (by rw [hq]; decide) hf
        replace hf := ite_f (by rw [hq]; decide) hf
        replace hf := ite_f (by rw [hq]; decide) hf
        replace hf := ite_f (by rw [hq]; decide) hf
        replace hf := ite_f (by rw [hq]; decide) hf
        replace hf := ite_f (by rw [hq]; decide) hf
        replace hf := ite_f (by rw [hq]; decide) hf
        replace hf := ite_f (by rw [hq]; decide) hf
        replace hf := ite_f (by rw [hq]; decide) hf
        replace hf := ite_f (by rw [hq]; decide) hf
        replace hf := ite_f (by rw [hq]; decide) hf
        replace hf := ite_f (by rw [hq]; decide) hf
        replace hf := ite_f (by rw [hq]; decide) hf
        replace hf := ite_t hq hf
        obtain ⟨g146_0, hf⟩ := grd_e hf
        obtain ⟨v146, w146, e146, hf⟩ := bI_e hf
        refine bL_law_991 (h1 := (Or.inr (by decide))) (h2 := (vpb_ok g146_0)) (ct := c_X_apart (d := d + 58) w (w.1 83 (x3 + 1).toNatClampNeg) e146) (k := ?_)
        obtain ⟨g147_0, hf⟩ := grd_e hf
        obtain ⟨v147, w147, e147, hf⟩ := bI_e hf
        refine bL_law_1000 (h1 := (Or.inr (by decide))) (h2 := (vpb_ok g147_0)) (ct := c_M_apart (d := d + 60) w146 (w146.1 83 (x3 + 1).toNatClampNeg) e147) (k := ?_)
        refine bL_law_1009 (kt := fun q148 => ?_) (kf := fun q148 => ?_)
        · replace hf := ite_t q148 hf
          refine bL_law_1432 (k := ?_)
          exact ih w147 (x3 + 6) hf
        · replace hf := ite_f q148 hf
          obtain ⟨rfl, rfl⟩ := ret_e hf
          exact bL_law_1012 
      · have hq := q3_25
        replace hf := ite_f (by rw [hq]; decide) hf
        replace hf := ite_f (by rw [hq]; decide) hf
        replace hf := ite_f (by rw [hq]; decide) hf
        replace hf := ite_f (by rw [hq]; decide) hf
        replace hf := ite_f (by rw [hq]; decide) hf
        replace hf := ite_f (by rw [hq]; decide) hf
        replace hf := ite_f (by rw [hq]; decide) hf
        replace hf := ite_f (by rw [hq]; decide) hf
        replace hf := ite_f (by rw [hq]; decide) hf
        replace hf := ite_f (by rw [hq]; decide) hf
        replace hf := ite_f (by rw [hq]; decide) hf
        replace hf := ite_f (by rw [hq]; decide) hf
        replace hf := ite_f (by rw [hq]; decide) hf
        replace hf := ite_f (by rw [hq]; decide) hf
        replace hf := ite_f (by rw [hq]; decide) hf
        replace hf := ite_f (by rw [hq]; decide) hf
        replace hf := ite_f (by rw [hq]; decide) hf
        replace hf := ite_f (by rw [hq]; decide) hf
        replace hf := ite_f (by rw [hq]; decide) hf
        replace hf := ite_f (by rw [hq]; decide) hf
        replace hf := ite_f (by rw [hq]; decide) hf
        replace hf := ite_f (by rw [hq]; decide) hf
        replace hf := ite_f (by rw [hq]; decide) hf
        replace hf := ite_f (by rw [hq]; decide) hf
        replace hf := ite_f (by rw [hq]; decide) hf
        replace hf := ite_t hq hf
        obtain ⟨v151, w151, e151, hf⟩ := bI_e hf
        refine bL_law_1014 (ct := c_X_lose (d := d + 58) w e151) (k := ?_)
        obtain ⟨v152, w152, e152, hf⟩ := bI_e hf
        refine bL_law_1018 (ct := c_M_lose (d := d + 60) w151 e152) (k := ?_)
        refine bL_law_1022 (kt := fun q153 => ?_) (kf := fun q153 => ?_)
        · replace hf := ite_t q153 hf
          refine bL_law_1432 (k := ?_)
          exact ih w152 (x3 + 6) hf
        · replace hf := ite_f q153 hf
          obtain ⟨rfl, rfl⟩ := ret_e hf
          exact bL_law_1025 
      · have hq := q3_26
        replace hf := ite_f (by rw [hq]; decide) hf
        replace hf := ite_f (by rw [hq]; decide) hf
        replace hf := ite_f (by rw [hq]; decide) hf
        replace hf := ite_f (by rw [hq]; decide) hf
        replace hf := ite_f (by rw [hq]; decide) hf
        replace hf := ite_f (by rw [hq]; decide) hf
        replace hf := ite_f (by rw [hq]; decide) hf
        replace hf := ite_f (by rw [hq]; decide) hf
        replace hf := ite_f (by rw [hq]; decide) hf
        replace hf := ite_f (by rw [hq]; decide) hf
        replace hf := ite_f (by rw [hq]; decide) hf
        replace hf := ite_f (by rw [hq]; decide) hf
        replace hf := ite_f (by rw [hq]; decide) hf
        replace hf := ite_f (by rw [hq]; decide) hf
        replace hf := ite_f (by rw [hq]; decide) hf
        replace hf := ite_f (by rw [hq]; decide) hf
        replace hf := ite_f (by rw [hq]; decide) hf
        replace hf := ite_f (by rw [hq]; decide) hf
        replace hf := ite_f (by rw [hq]; decide) hf
        replace hf := ite_f (by rw [hq]; decide) hf
        replace hf := ite_f (by rw [hq]; decide) hf
        replace hf := ite_f (by rw [hq]; decide) hf
        replace hf := ite_f (by rw [hq]; decide) hf
        replace hf := ite_f (by rw [hq]; decide) hf
        replace hf := ite_f (by rw [hq]; decide) hf
        replace hf := ite_f (by rw [hq]; decide) hf
        replace hf := ite_t hq hf
        obtain ⟨g156_0, hf⟩ := grd_e hf
        obtain ⟨g156_1, hf⟩ := grd_e hf
        obtain ⟨g156_2, hf⟩ := grd_e hf
        obtain ⟨g156_3, hf⟩ := grd_e hf
        refine bL_law_1027 (h1 := (Or.inr (by decide))) (h2 := (vpb_ok g156_0)) (h3 := (Or.inr (by decide))) (h4 := (vpb_ok g156_1)) (h5 := (Or.inr (by decide))) (h6 := (vpb_ok g156_2)) (h7 := (Or.inr (by decide))) (h8 := (vpb_ok g156_3)) (ct := c_X_speak (d := d + 62) w (w.1 83 (x3 + 1).toNatClampNeg) (w.1 83 (x3 + 2).toNatClampNeg) (w.1 83 (x3 + 3).toNatClampNeg) (w.1 83 (x3 + 4).toNatClampNeg)) (k := ?_)
        obtain ⟨g157_0, hf⟩ := grd_e hf
        obtain ⟨g157_1, hf⟩ := grd_e hf
        obtain ⟨g157_2, hf⟩ := grd_e hf
        obtain ⟨g157_3, hf⟩ := grd_e hf
        obtain ⟨v157, w157, e157, hf⟩ := bI_e hf
        refine bL_law_1051 (h1 := (Or.inr (by decide))) (h2 := (vpb_ok g157_0)) (h3 := (Or.inr (by decide))) (h4 := (vpb_ok g157_1)) (h5 := (Or.inr (by decide))) (h6 := (vpb_ok g157_2)) (h7 := (Or.inr (by decide))) (h8 := (vpb_ok g157_3)) (ct := c_M_speak (d := d + 62) (u_X_speak w (w.1 83 (x3 + 1).toNatClampNeg) (w.1 83 (x3 + 2).toNatClampNeg) (w.1 83 (x3 + 3).toNatClampNeg) (w.1 83 (x3 + 4).toNatClampNeg)) ((u_X_speak w (w.1 83 (x3 + 1).toNatClampNeg) (w.1 83 (x3 + 2).toNatClampNeg) (w.1 83 (x3 + 3).toNatClampNeg) (w.1 83 (x3 + 4).toNatClampNeg)).1 83 (x3 + 1).toNatClampNeg) ((u_X_speak w (w.1 83 (x3 + 1).toNatClampNeg) (w.1 83 (x3 + 2).toNatClampNeg) (w.1 83 (x3 + 3).toNatClampNeg) (w.1 83 (x3 + 4).toNatClampNeg)).1 83 (x3 + 2).toNatClampNeg) ((u_X_speak w (w.1 83 (x3 + 1).toNatClampNeg) (w.1 83 (x3 + 2).toNatClampNeg) (w.1 83 (x3 + 3).toNatClampNeg) (w.1 83 (x3 + 4).toNatClampNeg)).1 83 (x3 + 3).toNatClampNeg) ((u_X_speak w (w.1 83 (x3 + 1).toNatClampNeg) (w.1 83 (x3 + 2).toNatClampNeg) (w.1 83 (x3 + 3).toNatClampNeg) (w.1 83 (x3 + 4).toNatClampNeg)).1 83 (x3 + 4).toNatClampNeg) e157) (k := ?_)
        refine bL_law_1075 (kt := fun q158 => ?_) (kf := fun q158 => ?_)
        · replace hf := ite_t q158 hf
          refine bL_law_1432 (k := ?_)
          exact ih w157 (x3 + 6) hf
        · replace hf := ite_f q158 hf
          obtain ⟨rfl, rfl⟩ := ret_e hf
          exact bL_law_1078 
      · have hq := q3_27
        replace hf := ite_f (by rw [hq]; decide) hf
        replace hf := ite_f (by rw [hq]; decide) hf
        replace hf := ite_f (by rw [hq]; decide) hf
        replace hf := ite_f (by rw [hq]; decide) hf
        replace hf := ite_f (by rw [hq]; decide) hf
        replace hf := ite_f (by rw [hq]; decide) hf
        replace hf := ite_f (by rw [hq]; decide) hf
        replace hf := ite_f (by rw [hq]; decide) hf
        replace hf := ite_f (by rw [hq]; decide) hf
        replace hf := ite_f (by rw [hq]; decide) hf
        replace hf := ite_f (by rw [hq]; decide) hf
        replace hf := ite_f (by rw [hq]; decide) hf
        replace hf := ite_f (by rw [hq]; decide) hf
        replace hf := ite_f (by rw [hq]; decide) hf
        replace hf := ite_f (by rw [hq]; decide) hf
        replace hf := ite_f (by rw [hq]; decide) hf
        replace hf := ite_f (by rw [hq]; decide) hf
        replace hf := ite_f (by rw [hq]; decide) hf
        replace hf := ite_f (by rw [hq]; decide) hf
        replace hf := ite_f (by rw [hq]; decide) hf
        replace hf := ite_f (by rw [hq]; decide) hf
        replace hf := ite_f (by rw [hq]; decide) hf
        replace hf := ite_f (by rw [hq]; decide) hf
        replace hf := ite_f (by rw [hq]; decide) hf
        replace hf := ite_f (by rw [hq]; decide) hf
        replace hf := ite_f (by rw [hq]; decide) hf
        replace hf := ite_f (by rw [hq]; decide) hf
        replace hf := ite_t hq hf
        obtain ⟨g161_0, hf⟩ := grd_e hf
        obtain ⟨v161, w161, e161, hf⟩ := bI_e hf
        refine bL_law_1080 (h1 := (Or.inr (by decide))) (h2 := (vpb_ok g161_0)) (ct := c_X_needs (d := d + 62) w (w.1 83 (x3 + 1).toNatClampNeg) e161) (k := ?_)
        obtain ⟨g162_0, hf⟩ := grd_e hf
        obtain ⟨v162, w162, e162, hf⟩ := bI_e hf
        refine bL_law_1089 (h1 := (Or.inr (by decide))) (h2 := (vpb_ok g162_0)) (ct := c_M_needs (d := d + 61) w161 (w161.1 83 (x3 + 1).toNatClampNeg) e162) (k := ?_)
        refine bL_law_1098 (kt := fun q163 => ?_) (kf := fun q163 => ?_)
        · replace hf := ite_t q163 hf
          refine bL_law_1432 (k := ?_)
          exact ih w162 (x3 + 6) hf
        · replace hf := ite_f q163 hf
          obtain ⟨rfl, rfl⟩ := ret_e hf
          exact bL_law_1101 
      · have hq := q3_28
        replace hf := ite_f (by rw [hq]; decide) hf
        replace hf := ite_f (by rw [hq]; decide) hf
        replace hf := ite_f (by rw [hq]; decide) hf
        replace hf := ite_f (by rw [hq]; decide) hf
        replace hf := ite_f (by rw [hq]; decide) hf
        replace hf := ite_f (by rw [hq]; decide) hf
        replace hf := ite_f (by rw [hq]; decide) hf
        replace hf := ite_f (by rw [hq]; decide) hf
        replace hf := ite_f (by rw [hq]; decide) hf
        replace hf := ite_f (by rw [hq]; decide) hf
        replace hf := ite_f (by rw [hq]; decide) hf
        replace hf := ite_f (by rw [hq]; decide) hf
        replace hf := ite_f (by rw [hq]; decide) hf
        replace hf := ite_f (by rw [hq]; decide) hf
        replace hf := ite_f (by rw [hq]; decide) hf
        replace hf := ite_f (by rw [hq]; decide) hf
        replace hf := ite_f (by rw [hq]; decide) hf
        replace hf := ite_f (by rw [hq]; decide) hf
        replace hf := ite_f (by rw [hq]; decide) hf
        replace hf := ite_f (by rw [hq]; decide) hf
        replace hf := ite_f (by rw [hq]; decide) hf
        replace hf := ite_f (by rw [hq]; decide) hf
        replace hf := ite_f (by rw [hq]; decide) hf
        replace hf := ite_f (by rw [hq]; decide) hf
        replace hf := ite_f (by rw [hq]; decide) hf
        replace hf := ite_f (by rw [hq]; decide) hf
        replace hf := ite_f (by rw [hq]; decide) hf
        replace hf := ite_f (by rw [hq]; decide) hf
        replace hf := ite_t hq hf
        obtain ⟨g166_0, hf⟩ := grd_e hf
        obtain ⟨g166_1, hf⟩ := grd_e hf
        obtain ⟨v166, w166, e166, hf⟩ := bI_e hf
        refine bL_law_1103 (h1 := (Or.inr (by decide))) (h2 := (vpb_ok g166_0)) (h3 := (Or.inr (by decide))) (h4 := (vpb_ok g166_1)) (ct := c_X_count (d := d + 60) w (w.1 83 (x3 + 1).toNatClampNeg) (w.1 83 (x3 + 2).toNatClampNeg) e166) (k := ?_)
        obtain ⟨g167_0, hf⟩ := grd_e hf
        obtain ⟨g167_1, hf⟩ := grd_e hf
        obtain ⟨v167, w167, e167, hf⟩ := bI_e hf
        refine bL_law_1117 (h1 := (Or.inr (by decide))) (h2 := (vpb_ok g167_0)) (h3 := (Or.inr (by decide))) (h4 := (vpb_ok g167_1)) (ct := c_M_count (d := d + 62) w166 (w166.1 83 (x3 + 1).toNatClampNeg) (w166.1 83 (x3 + 2).toNatClampNeg) e167) (k := ?_)
        refine bL_law_1131 (kt := fun q168 => ?_) (kf := fun q168 => ?_)
        · replace hf := ite_t q168 hf
          refine bL_law_1432 (k := ?_)
          exact ih w167 (x3 + 6) hf
        · replace hf := ite_f q168 hf
          obtain ⟨rfl, rfl⟩ := ret_e hf
          exact bL_law_1134 
      · have hq := q3_29
        replace hf := ite_f (by rw [hq]; decide) hf
        replace hf := ite_f (by rw [hq]; decide) hf
        replace hf := ite_f (by rw [hq]; decide) hf
        replace hf := ite_f (by rw [hq]; decide) hf
        replace hf := ite_f (by rw [hq]; decide) hf
        replace hf := ite_f (by rw [hq]; decide) hf
        replace hf := ite_f (by rw [hq]; decide) hf
        replace hf := ite_f (by rw [hq]; decide) hf
        replace hf := ite_f (by rw [hq]; decide) hf
        replace hf := ite_f (by rw [hq]; decide) hf
        replace hf := ite_f (by rw [hq]; decide) hf
        replace hf := ite_f (by rw [hq]; decide) hf
        replace hf := ite_f (by rw [hq]; decide) hf
        replace hf := ite_f (by rw [hq]; decide) hf
        replace hf := ite_f (by rw [hq]; decide) hf
        replace hf := ite_f (by rw [hq]; decide) hf
        replace hf := ite_f (by rw [hq]; decide) hf
        replace hf := ite_f (by rw [hq]; decide) hf
        replace hf := ite_f (by rw [hq]; decide) hf
        replace hf := ite_f (by rw [hq]; decide) hf
        replace hf := ite_f (by rw [hq]; decide) hf
        replace hf := ite_f (by rw [hq]; decide) hf
        replace hf := ite_f (by rw [hq]; decide) hf
        replace hf := ite_f (by rw [hq]; decide) hf
        replace hf := ite_f (by rw [hq]; decide) hf
        replace hf := ite_f (by rw [hq]; decide) hf
        replace hf := ite_f (by rw [hq]; decide) hf
        replace hf := ite_f (by rw [hq]; decide) hf
        replace hf := ite_f (by rw [hq]; decide) hf
        replace hf := ite_t hq hf
        obtain ⟨g171_0, hf⟩ := grd_e hf
        obtain ⟨v171, w171, e171, hf⟩ := bI_e hf
        refine bL_law_1136 (h1 := (Or.inr (by decide))) (h2 := (vpb_ok g171_0)) (ct := c_X_could (d := d + 59) w (w.1 83 (x3 + 1).toNatClampNeg) e171) (k := ?_)
        obtain ⟨g172_0, hf⟩ := grd_e hf
        obtain ⟨v172, w172, e172, hf⟩ := bI_e hf
        refine bL_law_1145 (h1 := (Or.inr (by decide))) (h2 := (vpb_ok g172_0)) (ct := c_M_could (d := d + 62) w171 (w171.1 83 (x3 + 1).toNatClampNeg) e172) (k := ?_)
        refine bL_law_1154 (kt := fun q173 => ?_) (kf := fun q173 => ?_)
        · replace hf := ite_t q173 hf
          refine bL_law_1432 (k := ?_)
          exact ih w172 (x3 + 6) hf
        · replace hf := ite_f q173 hf
          obtain ⟨rfl, rfl⟩ := ret_e hf
          exact bL_law_1157 
      · have hq := q3_30
        replace hf := ite_f (by rw [hq]; decide) hf
        replace hf := ite_f (by rw [hq]; decide) hf
        replace hf := ite_f (by rw [hq]; decide) hf
        replace hf := ite_f (by rw [hq]; decide) hf
        replace hf := ite_f (by rw [hq]; decide) hf
        replace hf := ite_f (by rw [hq]; decide) hf
        replace hf := ite_f (by rw [hq]; decide) hf
        replace hf := ite_f (by rw [hq]; decide) hf
        replace hf := ite_f (by rw [hq]; decide) hf
        replace hf := ite_f (by rw [hq]; decide) hf
        replace hf := ite_f (by rw [hq]; decide) hf
        replace hf := ite_f (by rw [hq]; decide) hf
        replace hf := ite_f (by rw [hq]; decide) hf
        replace hf := ite_f (by rw [hq]; decide) hf
        replace hf := ite_f (by rw [hq]; decide) hf
        replace hf := ite_f (by rw [hq]; decide) hf
        replace hf := ite_f (by rw [hq]; decide) hf
        replace hf := ite_f (by rw [hq]; decide) hf
        replace hf := ite_f (by rw [hq]; decide) hf
        replace hf := ite_f (by rw [hq]; decide) hf
        replace hf := ite_f (by rw [hq]; decide) hf
        replace hf := ite_f (by rw [hq]; decide) hf
        replace hf := ite_f (by rw [hq]; decide) hf
        replace hf := ite_f (by rw [hq]; decide) hf
        replace hf := ite_f (by rw [hq]; decide) hf
        replace hf := ite_f (by rw [hq]; decide) hf
        replace hf := ite_f (by rw [hq]; decide) hf
        replace hf := ite_f (by rw [hq]; decide) hf
        replace hf := ite_f (by rw [hq]; decide) hf
        replace hf := ite_f (by rw [hq]; decide) hf
        replace hf := ite_t hq hf
        obtain ⟨v176, w176, e176, hf⟩ := bI_e hf
        refine bL_law_1159 (ct := c_X_swap (d := d + 58) w e176) (k := ?_)
        obtain ⟨v177, w177, e177, hf⟩ := bI_e hf
        refine bL_law_1163 (ct := c_M_swap (d := d + 61) w176 e177) (k := ?_)
        refine bL_law_1167 (kt := fun q178 => ?_) (kf := fun q178 => ?_)
        · replace hf := ite_t q178 hf
          refine bL_law_1432 (k := ?_)
          exact ih w177 (x3 + 6) hf
        · replace hf := ite_f q178 hf
          obtain ⟨rfl, rfl⟩ := ret_e hf
          exact bL_law_1170 
      · have hq := q3_31
        replace hf := ite_f (by rw [hq]; decide) hf
        replace hf := ite_f (by rw [hq]; decide) hf
        replace hf := ite_f (by rw [hq]; decide) hf
        replace hf := ite_f (by rw [hq]; decide) hf
        replace hf := ite_f (by rw [hq]; decide) hf
        replace hf := ite_f (by rw [hq]; decide) hf
        replace hf := ite_f (by rw [hq]; decide) hf
        replace hf := ite_f (by rw [hq]; decide) hf
        replace hf := ite_f (by rw [hq]; decide) hf
        replace hf := ite_f (by rw [hq]; decide) hf
        replace hf := ite_f (by rw [hq]; decide) hf
        replace hf := ite_f (by rw [hq]; decide) hf
        replace hf := ite_f (by rw [hq]; decide) hf
        replace hf := ite_f (by rw [hq]; decide) hf
        replace hf := ite_f (by rw [hq]; decide) hf
        replace hf := ite_f (by rw [hq]; decide) hf
        replace hf := ite_f (by rw [hq]; decide) hf
        replace hf := ite_f (by rw [hq]; decide) hf
        replace hf := ite_f (by rw [hq]; decide) hf
        replace hf := ite_f (by rw [hq]; decide) hf
        replace hf := ite_f (by rw [hq]; decide) hf
        replace hf := ite_f (by rw [hq]; decide) hf
        replace hf := ite_f (by rw [hq]; decide) hf
        replace hf := ite_f (by rw [hq]; decide) hf
        replace hf := ite_f (by rw [hq]; decide) hf
        replace hf := ite_f (by rw [hq]; decide) hf
        replace hf := ite_f (by rw [hq]; decide) hf
        replace hf := ite_f (by rw [hq]; decide) hf
        replace hf := ite_f (by rw [hq]; decide) hf
        replace hf := ite_f (by rw [hq]; decide) hf
        replace hf := ite_f (by rw [hq]; decide) hf
        replace hf := ite_t hq hf
        obtain ⟨g181_0, hf⟩ := grd_e hf
        obtain ⟨g181_1, hf⟩ := grd_e hf
        obtain ⟨v181, w181, e181, hf⟩ := bI_e hf
        refine bL_law_1172 (h1 := (Or.inr (by decide))) (h2 := (vpb_ok g181_0)) (h3 := (Or.inr (by decide))) (h4 := (vpb_ok g181_1)) (ct := c_X_judge (d := d + 61) w (w.1 83 (x3 + 1).toNatClampNeg) (w.1 83 (x3 + 2).toNatClampNeg) e181) (k := ?_)
        obtain ⟨g182_0, hf⟩ := grd_e hf
        obtain ⟨g182_1, hf⟩ := grd_e hf
        obtain ⟨v182, w182, e182, hf⟩ := bI_e hf
        refine bL_law_1186 (h1 := (Or.inr (by decide))) (h2 := (vpb_ok g182_0)) (h3 := (Or.inr (by decide))) (h4 := (vpb_ok g182_1)) (ct := c_M_judge (d := d + 61) w181 (w181.1 83 (x3 + 1).toNatClampNeg) (w181.1 83 (x3 + 2).toNatClampNeg) e182) (k := ?_)
        refine bL_law_1200 (kt := fun q183 => ?_) (kf := fun q183 => ?_)
        · replace hf := ite_t q183 hf
          refine bL_law_1432 (k := ?_)
          exact ih w182 (x3 + 6) hf
        · replace hf := ite_f q183 hf
          obtain ⟨rfl, rfl⟩ := ret_e hf
          exact bL_law_1203 
      · have hq := q3_32
        replace hf := ite_f (by rw [hq]; decide) hf
        replace hf := ite_f (by rw [hq]; decide) hf
        replace hf := ite_f (by rw [hq]; decide) hf
        replace hf := ite_f (by rw [hq]; decide) hf
        replace hf := ite_f (by rw [hq]; decide) hf
        replace hf := ite_f (by rw [hq]; decide) hf
        replace hf := ite_f (by rw [hq]; decide) hf
        replace hf := ite_f (by rw [hq]; decide) hf
        replace hf := ite_f (by rw [hq]; decide) hf
        replace hf := ite_f (by rw [hq]; decide) hf
        replace hf := ite_f (by rw [hq]; decide) hf
        replace hf := ite_f (by rw [hq]; decide) hf
        replace hf := ite_f (by rw [hq]; decide) hf
        replace hf := ite_f (by rw [hq]; decide) hf
        replace hf := ite_f (by rw [hq]; decide) hf
        replace hf := ite_f (by rw [hq]; decide) hf
        replace hf := ite_f (by rw [hq]; decide) hf
        replace hf := ite_f (by rw [hq]; decide) hf
        replace hf := ite_f (by rw [hq]; decide) hf
        replace hf := ite_f (by rw [hq]; decide) hf
        replace hf := ite_f (by rw [hq]; decide) hf
        replace hf := ite_f (by rw [hq]; decide) hf
        replace hf := ite_f (by rw [hq]; decide) hf
        replace hf := ite_f (by rw [hq]; decide) hf
        replace hf := ite_f (by rw [hq]; decide) hf
        replace hf := ite_f (by rw [hq]; decide) hf
        replace hf := ite_f (by rw [hq]; decide) hf
        replace hf := ite_f (by rw [hq]; decide) hf
        replace hf := ite_f (by rw [hq]; decide) hf
        replace hf := ite_f (by rw [hq]; decide) hf
        replace hf := ite_f (by rw [hq]; decide) hf
        replace hf := ite_f (by rw [hq]; decide) hf
        replace hf := ite_t hq hf
        obtain ⟨g186_0, hf⟩ := grd_e hf
        obtain ⟨g186_1, hf⟩ := grd_e hf
        obtain ⟨g186_2, hf⟩ := grd_e hf
        obtain ⟨v186, w186, e186, hf⟩ := bI_e hf
        refine bL_law_1205 (h1 := (Or.inr (by decide))) (h2 := (vpb_ok g186_0)) (h3 := (Or.inr (by decide))) (h4 := (vpb_ok g186_1)) (h5 := (Or.inr (by decide))) (h6 := (vpb_ok g186_2)) (ct := c_X_would (d := d + 61) w (w.1 83 (x3 + 1).toNatClampNeg) (w.1 83 (x3 + 2).toNatClampNeg) (w.1 83 (x3 + 3).toNatClampNeg) e186) (k := ?_)
        obtain ⟨g187_0, hf⟩ := grd_e hf
        obtain ⟨g187_1, hf⟩ := grd_e hf
        obtain ⟨g187_2, hf⟩ := grd_e hf
        obtain ⟨v187, w187, e187, hf⟩ := bI_e hf
        refine bL_law_1224 (h1 := (Or.inr (by decide))) (h2 := (vpb_ok g187_0)) (h3 := (Or.inr (by decide))) (h4 := (vpb_ok g187_1)) (h5 := (Or.inr (by decide))) (h6 := (vpb_ok g187_2)) (ct := c_M_would (d := d + 61) w186 (w186.1 83 (x3 + 1).toNatClampNeg) (w186.1 83 (x3 + 2).toNatClampNeg) (w186.1 83 (x3 + 3).toNatClampNeg) e187) (k := ?_)
        refine bL_law_1243 (kt := fun q188 => ?_) (kf := fun q188 => ?_)
        · replace hf := ite_t q188 hf
          refine bL_law_1432 (k := ?_)
          exact ih w187 (x3 + 6) hf
        · replace hf := ite_f q188 hf
          obtain ⟨rfl, rfl⟩ := ret_e hf
          exact bL_law_1246 
      · have hq := q3_33
        replace hf := ite_f (by rw [hq]; decide) hf
        replace hf := ite_f (by rw [hq]; decide) hf
        replace hf := ite_f (by rw [hq]; decide) hf
        replace hf := ite_f (by rw [hq]; decide) hf
        replace hf := ite_f (by rw [hq]; decide) hf
        replace hf := ite_f (by rw [hq]; decide) hf
        replace hf := ite_f (by rw [hq]; decide) hf
        replace hf := ite_f (by rw [hq]; decide) hf
        replace hf := ite_f (by rw [hq]; decide) hf
        replace hf := ite_f (by rw [hq]; decide) hf
        replace hf := ite_f (by rw [hq]; decide) hf
        replace hf := ite_f (by rw [hq]; decide) hf
        replace hf := ite_f (by rw [hq]; decide) hf
        replace hf := ite_f (by rw [hq]; decide) hf
        replace hf := ite_f (by rw [hq]; decide) hf
        replace hf := ite_f (by rw [hq]; decide) hf
        replace hf := ite_f (by rw [hq]; decide) hf
        replace hf := ite_f (by rw [hq]; decide) hf
        replace hf := ite_f (by rw [hq]; decide) hf
        replace hf := ite_f (by rw [hq]; decide) hf
        replace hf := ite_f (by rw [hq]; decide) hf
        replace hf := ite_f (by rw [hq]; decide) hf
        replace hf := ite_f (by rw [hq]; decide) hf
        replace hf := ite_f (by rw [hq]; decide) hf
        replace hf := ite_f (by rw [hq]; decide) hf
        replace hf := ite_f (by rw [hq]; decide) hf
        replace hf := ite_f (by rw [hq]; decide) hf
        replace hf := ite_f (by rw [hq]; decide) hf
        replace hf := ite_f (by rw [hq]; decide) hf
        replace hf := ite_f (by rw [hq]; decide) hf
        replace hf := ite_f (by rw [hq]; decide) hf
        replace hf := ite_f (by rw [hq]; decide) hf
        replace hf := ite_f (by rw [hq]; decide) hf
        replace hf := ite_t hq hf
        obtain ⟨g191_0, hf⟩ := grd_e hf
        obtain ⟨v191, w191, e191, hf⟩ := bI_e hf
        refine bL_law_1248 (h1 := (Or.inr (by decide))) (h2 := (vpb_ok g191_0)) (ct := c_X_audience (d := d + 58) w (w.1 83 (x3 + 1).toNatClampNeg) e191) (k := ?_)
        obtain ⟨g192_0, hf⟩ := grd_e hf
        obtain ⟨v192, w192, e192, hf⟩ := bI_e hf
        refine bL_law_1257 (h1 := (Or.inr (by decide))) (h2 := (vpb_ok g192_0)) (ct := c_M_audience (d := d + 60) w191 (w191.1 83 (x3 + 1).toNatClampNeg) e192) (k := ?_)
        refine bL_law_1266 (kt := fun q193 => ?_) (kf := fun q193 => ?_)
        · replace hf := ite_t q193 hf
          refine bL_law_1432 (k := ?_)
          exact ih w192 (x3 + 6) hf
        · replace hf := ite_f q193 hf
          obtain ⟨rfl, rfl⟩ := ret_e hf
          exact bL_law_1269 
      · have hq := q3_34
        replace hf := ite_f (by rw [hq]; decide) hf
        replace hf := ite_f (by rw [hq]; decide) hf
        replace hf := ite_f (by rw [hq]; decide) hf
        replace hf := ite_f (by rw [hq]; decide) hf
        replace hf := ite_f (by rw [hq]; decide) hf
        replace hf := ite_f (by rw [hq]; decide) hf
        replace hf := ite_f (by rw [hq]; decide) hf
        replace hf := ite_f (by rw [hq]; decide) hf
        replace hf := ite_f (by rw [hq]; decide) hf
        replace hf := ite_f (by rw [hq]; decide) hf
        replace hf := ite_f (by rw [hq]; decide) hf
        replace hf := ite_f (by rw [hq]; decide) hf
        replace hf := ite_f (by rw [hq]; decide) hf
        replace hf := ite_f (by rw [hq]; decide) hf
        replace hf := ite_f (by rw [hq]; decide) hf
        replace hf := ite_f (by rw [hq]; decide) hf
        replace hf := ite_f (by rw [hq]; decide) hf
        replace hf := ite_f (by rw [hq]; decide) hf
        replace hf := ite_f (by rw [hq]; decide) hf
        replace hf := ite_f (by rw [hq]; decide) hf
        replace hf := ite_f (by rw [hq]; decide) hf
        replace hf := ite_f (by rw [hq]; decide) hf
        replace hf := ite_f (by rw [hq]; decide) hf
        replace hf := ite_f (by rw [hq]; decide) hf
        replace hf := ite_f (by rw [hq]; decide) hf
        replace hf := ite_f (by rw [hq]; decide) hf
        replace hf := ite_f (by rw [hq]; decide) hf
        replace hf := ite_f (by rw [hq]; decide) hf
        replace hf := ite_f (by rw [hq]; decide) hf
        replace hf := ite_f (by rw [hq]; decide) hf
        replace hf := ite_f (by rw [hq]; decide) hf
        replace hf := ite_f (by rw [hq]; decide) hf
        replace hf := ite_f (by rw [hq]; decide) hf
        replace hf := ite_f (by rw [hq]; decide) hf
        replace hf := ite_t hq hf
        obtain ⟨g196_0, hf⟩ := grd_e hf
        obtain ⟨v196, w196, e196, hf⟩ := bI_e hf
        refine bL_law_1271 (h1 := (Or.inr (by decide))) (h2 := (vpb_ok g196_0)) (ct := c_X_reign (d := d + 58) w (w.1 83 (x3 + 1).toNatClampNeg) e196) (k := ?_)
        obtain ⟨g197_0, hf⟩ := grd_e hf
        obtain ⟨v197, w197, e197, hf⟩ := bI_e hf
        refine bL_law_1280 (h1 := (Or.inr (by decide))) (h2 := (vpb_ok g197_0)) (ct := c_M_reign (d := d + 60) w196 (w196.1 83 (x3 + 1).toNatClampNeg) e197) (k := ?_)
        refine bL_law_1289 (kt := fun q198 => ?_) (kf := fun q198 => ?_)
        · replace hf := ite_t q198 hf
          refine bL_law_1432 (k := ?_)
          exact ih w197 (x3 + 6) hf
        · replace hf := ite_f q198 hf
          obtain ⟨rfl, rfl⟩ := ret_e hf
          exact bL_law_1292 
      · have hq := q3_35
        replace hf := ite_f (by rw [hq]; decide) hf
        replace hf := ite_f (by rw [hq]; decide) hf
        replace hf := ite_f (by rw [hq]; decide) hf
        replace hf := ite_f (by rw [hq]; decide) hf
        replace hf := ite_f (by rw [hq]; decide) hf
        replace hf := ite_f (by rw [hq]; decide) hf
        replace hf := ite_f (by rw [hq]; decide) hf
        replace hf := ite_f (by rw [hq]; decide) hf
        replace hf := ite_f (by rw [hq]; decide) hf
        replace hf := ite_f (by rw [hq]; decide) hf
        replace hf := ite_f (by rw [hq]; decide) hf
        replace hf := ite_f (by rw [hq]; decide) hf
        replace hf := ite_f (by rw [hq]; decide) hf
        replace hf := ite_f (by rw [hq]; decide) hf
        replace hf := ite_f (by rw [hq]; decide) hf
        replace hf := ite_f (by rw [hq]; decide) hf
        replace hf := ite_f (by rw [hq]; decide) hf
        replace hf := ite_f (by rw [hq]; decide) hf
        replace hf := ite_f (by rw [hq]; decide) hf
        replace hf := ite_f (by rw [hq]; decide) hf
        replace hf := ite_f (by rw [hq]; decide) hf
        replace hf := ite_f (by rw [hq]; decide) hf
        replace hf := ite_f (by rw [hq]; decide) hf
        replace hf := ite_f (by rw [hq]; decide) hf
        replace hf := ite_f (by rw [hq]; decide) hf
        replace hf := ite_f (by rw [hq]; decide) hf
        replace hf := ite_f (by rw [hq]; decide) hf
        replace hf := ite_f (by rw [hq]; decide) hf
        replace hf := ite_f (by rw [hq]; decide) hf
        replace hf := ite_f (by rw [hq]; decide) hf
        replace hf := ite_f (by rw [hq]; decide) hf
        replace hf := ite_f (by rw [hq]; decide) hf
        replace hf := ite_f (by rw [hq]; decide) hf
        replace hf := ite_f (by rw [hq]; decide) hf
        replace hf := ite_f (by rw [hq]; decide) hf
        replace hf := ite_t hq hf
        obtain ⟨g201_0, hf⟩ := grd_e hf
        refine bL_law_1294 (h1 := (Or.inr (by decide))) (h2 := (vpb_ok g201_0)) (ct := c_X_seed (d := d + 64) w (w.1 83 (x3 + 1).toNatClampNeg)) (k := ?_)
        obtain ⟨g202_0, hf⟩ := grd_e hf
        refine bL_law_1303 (h1 := (Or.inr (by decide))) (h2 := (vpb_ok g202_0)) (ct := c_M_seed (d := d + 64) (u_X_seed w (w.1 83 (x3 + 1).toNatClampNeg)) ((u_X_seed w (w.1 83 (x3 + 1).toNatClampNeg)).1 83 (x3 + 1).toNatClampNeg)) (k := ?_)
        refine bL_law_1312 (kt := fun q203 => ?_) (kf := fun q203 => ?_)
        · replace hf := ite_t q203 hf
          refine bL_law_1432 (k := ?_)
          exact ih (u_M_seed (u_X_seed w (w.1 83 (x3 + 1).toNatClampNeg)) ((u_X_seed w (w.1 83 (x3 + 1).toNatClampNeg)).1 83 (x3 + 1).toNatClampNeg)) (x3 + 6) hf
        · replace hf := ite_f q203 hf
          obtain ⟨rfl, rfl⟩ := ret_e hf
          exact bL_law_1315 
      · have hq := q3_36
        replace hf := ite_f (by rw [hq]; decide) hf
        replace hf := ite_f (by rw [hq]; decide) hf
        replace hf := ite_f (by rw [hq]; decide) hf
        replace hf := ite_f (by rw [hq]; decide) hf
        replace hf := ite_f (by rw [hq]; decide) hf
        replace hf := ite_f (by rw [hq]; decide) hf
        replace hf := ite_f (by rw [hq]; decide) hf
        replace hf := ite_f (by rw [hq]; decide) hf
        replace hf := ite_f (by rw [hq]; decide) hf
        replace hf := ite_f (by rw [hq]; decide) hf
        replace hf := ite_f (by rw [hq]; decide) hf
        replace hf := ite_f (by rw [hq]; decide) hf
        replace hf := ite_f (by rw [hq]; decide) hf
        replace hf := ite_f (by rw [hq]; decide) hf
        replace hf := ite_f (by rw [hq]; decide) hf
        replace hf := ite_f (by rw [hq]; decide) hf
        replace hf := ite_f (by rw [hq]; decide) hf
        replace hf := ite_f (by rw [hq]; decide) hf
        replace hf := ite_f (by rw [hq]; decide) hf
        replace hf := ite_f (by rw [hq]; decide) hf
        replace hf := ite_f (by rw [hq]; decide) hf
        replace hf := ite_f (by rw [hq]; decide) hf
        replace hf := ite_f (by rw [hq]; decide) hf
        replace hf := ite_f (by rw [hq]; decide) hf
        replace hf := ite_f (by rw [hq]; decide) hf
        replace hf := ite_f (by rw [hq]; decide) hf
        replace hf := ite_f (by rw [hq]; decide) hf
        replace hf := ite_f (by rw [hq]; decide) hf
        replace hf := ite_f (by rw [hq]; decide) hf
        replace hf := ite_f (by rw [hq]; decide) hf
        replace hf := ite_f (by rw [hq]; decide) hf
        replace hf := ite_f (by rw [hq]; decide) hf
        replace hf := ite_f (by rw [hq]; decide) hf
        replace hf := ite_f (by rw [hq]; decide) hf
        replace hf := ite_f (by rw [hq]; decide) hf
        replace hf := ite_f (by rw [hq]; decide) hf
        replace hf := ite_t hq hf
        obtain ⟨g206_0, hf⟩ := grd_e hf
        obtain ⟨g206_1, hf⟩ := grd_e hf
        obtain ⟨g206_2, hf⟩ := grd_e hf
        obtain ⟨v206, w206, e206, hf⟩ := bI_e hf
        refine bL_law_1317 (h1 := (Or.inr (by decide))) (h2 := (vpb_ok g206_0)) (h3 := (Or.inr (by decide))) (h4 := (vpb_ok g206_1)) (h5 := (Or.inr (by decide))) (h6 := (vpb_ok g206_2)) (ct := c_X_act (d := d) w (w.1 83 (x3 + 1).toNatClampNeg) (w.1 83 (x3 + 2).toNatClampNeg) (w.1 83 (x3 + 3).toNatClampNeg) e206) (k := ?_)
        obtain ⟨g207_0, hf⟩ := grd_e hf
        obtain ⟨g207_1, hf⟩ := grd_e hf
        obtain ⟨g207_2, hf⟩ := grd_e hf
        obtain ⟨v207, w207, e207, hf⟩ := bI_e hf
        refine bL_law_1336 (h1 := (Or.inr (by decide))) (h2 := (vpb_ok g207_0)) (h3 := (Or.inr (by decide))) (h4 := (vpb_ok g207_1)) (h5 := (Or.inr (by decide))) (h6 := (vpb_ok g207_2)) (ct := c_M_act (d := d + 60) w206 (w206.1 83 (x3 + 1).toNatClampNeg) (w206.1 83 (x3 + 2).toNatClampNeg) (w206.1 83 (x3 + 3).toNatClampNeg) e207) (k := ?_)
        refine bL_law_1355 (kt := fun q208 => ?_) (kf := fun q208 => ?_)
        · replace hf := ite_t q208 hf
          refine bL_law_1432 (k := ?_)
          exact ih w207 (x3 + 6) hf
        · replace hf := ite_f q208 hf
          obtain ⟨rfl, rfl⟩ := ret_e hf
          exact bL_law_1358 
      · have hq := q3_37
        replace hf := ite_f (by rw [hq]; decide) hf
        replace hf := ite_f (by rw [hq]; decide) hf
        replace hf := ite_f (by rw [hq]; decide) hf
        replace hf := ite_f (by rw [hq]; decide) hf
        replace hf := ite_f (by rw [hq]; decide) hf
        replace hf := ite_f (by rw [hq]; decide) hf
        replace hf := ite_f (by rw [hq]; decide) hf
        replace hf := ite_f (by rw [hq]; decide) hf
        replace hf := ite_f (by rw [hq]; decide) hf
        replace hf := ite_f (by rw [hq]; decide) hf
        replace hf := ite_f (by rw [hq]; decide) hf
        replace hf := ite_f (by rw [hq]; decide) hf
        replace hf := ite_f (by rw [hq]; decide) hf
        replace hf := ite_f (by rw [hq]; decide) hf
        replace hf := ite_f (by rw [hq]; decide) hf
        replace hf := ite_f (by rw [hq]; decide) hf
        replace hf := ite_f (by rw [hq]; decide) hf
        replace hf := ite_f (by rw [hq]; decide) hf
        replace hf := ite_f (by rw [hq]; decide) hf
        replace hf := ite_f (by rw [hq]; decide) hf
        replace hf := ite_f (by rw [hq]; decide) hf
        replace hf := ite_f (by rw [hq]; decide) hf
        replace hf := ite_f (by rw [hq]; decide) hf
        replace hf := ite_f (by rw [hq]; decide) hf
        replace hf := ite_f (by rw [hq]; decide) hf
        replace hf := ite_f (by rw [hq]; decide) hf
        replace hf := ite_f (by rw [hq]; decide) hf
        replace hf := ite_f (by rw [hq]; decide) hf
        replace hf := ite_f (by rw [hq]; decide) hf
        replace hf := ite_f (by rw [hq]; decide) hf
        replace hf := ite_f (by rw [hq]; decide) hf
        replace hf := ite_f (by rw [hq]; decide) hf
        replace hf := ite_f (by rw [hq]; decide) hf
        replace hf := ite_f (by rw [hq]; decide) hf
        replace hf := ite_f (by rw [hq]; decide) hf
        replace hf := ite_f (by rw [hq]; decide) hf
        replace hf := ite_f (by rw [hq]; decide) hf
        replace hf := ite_t hq hf
        obtain ⟨g211_0, hf⟩ := grd_e hf
        obtain ⟨g211_1, hf⟩ := grd_e hf
        refine bL_law_1360 (h1 := (Or.inr (by decide))) (h2 := (vpb_ok g211_0)) (ct := c_X_trace (d := d + 63) w (w.1 83 (x3 + 1).toNatClampNeg) (fun z0 z1 z2 => vpb_ok (g211_1 z0 z1 z2))) (k := ?_)
        obtain ⟨g212_0, hf⟩ := grd_e hf
        obtain ⟨g212_1, hf⟩ := grd_e hf
        refine bL_law_1369 (h1 := (Or.inr (by decide))) (h2 := (vpb_ok g212_0)) (ct := c_M_trace (d := d + 64) w (w.1 83 (x3 + 1).toNatClampNeg) (fun z0 z1 z2 => vpb_ok (g212_1 z0 z1 z2))) (k := ?_)
        refine bL_law_1378 (kt := fun q213 => ?_) (kf := fun q213 => ?_)
        · replace hf := ite_t q213 hf
          refine bL_law_1432 (k := ?_)
          exact ih w (x3 + 6) hf
        · replace hf := ite_f q213 hf
          obtain ⟨rfl, rfl⟩ := ret_e hf
          exact bL_law_1381 
      · have hq := q3_38
        replace hf := ite_f (by rw [hq]; decide) hf
        replace hf := ite_f (by rw [hq]; decide) hf
        replace hf := ite_f (by rw [hq]; decide) hf
        replace hf := ite_f (by rw [hq]; decide) hf
        replace hf := ite_f (by rw [hq]; decide) hf
        replace hf := ite_f (by rw [hq]; decide) hf
        replace hf := ite_f (by rw [hq]; decide) hf
        replace hf := ite_f (by rw [hq]; decide) hf
        replace hf := ite_f (by rw [hq]; decide) hf
        replace hf := ite_f (by rw [hq]; decide) hf
        replace hf := ite_f (by rw [hq]; decide) hf
        replace hf := ite_f (by rw [hq]; decide) hf
        replace hf := ite_f (by rw [hq]; decide) hf
        replace hf := ite_f (by rw [hq]; decide) hf
        replace hf := ite_f (by rw [hq]; decide) hf
        replace hf := ite_f (by rw [hq]; decide) hf
        replace hf := ite_f (by rw [hq]; decide) hf
        replace hf := ite_f (by rw [hq]; decide) hf
        replace hf := ite_f (by rw [hq]; decide) hf
        replace hf := ite_f (by rw [hq]; decide) hf
        replace hf := ite_f (by rw [hq]; decide) hf
        replace hf := ite_f (by rw [hq]; decide) hf
        replace hf := ite_f (by rw [hq]; decide) hf
        replace hf := ite_f (by rw [hq]; decide) hf
        replace hf := ite_f (by rw [hq]; decide) hf
        replace hf := ite_f (by rw [hq]; decide) hf
        replace hf := ite_f (by rw [hq]; decide) hf
        replace hf := ite_f (by rw [hq]; decide) hf
        replace hf := ite_f (by rw [hq]; decide) hf
        replace hf := ite_f (by rw [hq]; decide) hf
        replace hf := ite_f (by rw [hq]; decide) hf
        replace hf := ite_f (by rw [hq]; decide) hf
        replace hf := ite_f (by rw [hq]; decide) hf
        replace hf := ite_f (by rw [hq]; decide) hf
        replace hf := ite_f (by rw [hq]; decide) hf
        replace hf := ite_f (by rw [hq]; decide) hf
        replace hf := ite_f (by rw [hq]; decide) hf
        replace hf := ite_f (by rw [hq]; decide) hf
        replace hf := ite_t hq hf
        obtain ⟨v216, w216, e216, hf⟩ := bI_e hf
        refine bL_law_1383 (ct := c_X_image (d := d + 62) w e216) (k := ?_)
        obtain ⟨v217, w217, e217, hf⟩ := bI_e hf
        refine bL_law_1387 (ct := c_M_image (d := d + 63) w216 e217) (k := ?_)
        refine bL_law_1391 (kt := fun q218 => ?_) (kf := fun q218 => ?_)
        · replace hf := ite_t q218 hf
          refine bL_law_1432 (k := ?_)
          exact ih w217 (x3 + 6) hf
        · replace hf := ite_f q218 hf
          obtain ⟨rfl, rfl⟩ := ret_e hf
          exact bL_law_1394 
      · have hq := q3_39
        replace hf := ite_f (by rw [hq]; decide) hf
        replace hf := ite_f (by rw [hq]; decide) hf
        replace hf := ite_f (by rw [hq]; decide) hf
        replace hf := ite_f (by rw [hq]; decide) hf
        replace hf := ite_f (by rw [hq]; decide) hf
        replace hf := ite_f (by rw [hq]; decide) hf
        replace hf := ite_f (by rw [hq]; decide) hf
        replace hf := ite_f (by rw [hq]; decide) hf
        replace hf := ite_f (by rw [hq]; decide) hf
        replace hf := ite_f (by rw [hq]; decide) hf
        replace hf := ite_f (by rw [hq]; decide) hf
        replace hf := ite_f (by rw [hq]; decide) hf
        replace hf := ite_f (by rw [hq]; decide) hf
        replace hf := ite_f (by rw [hq]; decide) hf
        replace hf := ite_f (by rw [hq]; decide) hf
        replace hf := ite_f (by rw [hq]; decide) hf
        replace hf := ite_f (by rw [hq]; decide) hf
        replace hf := ite_f (by rw [hq]; decide) hf
        replace hf := ite_f (by rw [hq]; decide) hf
        replace hf := ite_f (by rw [hq]; decide) hf
        replace hf := ite_f (by rw [hq]; decide) hf
        replace hf := ite_f (by rw [hq]; decide) hf
        replace hf := ite_f (by rw [hq]; decide) hf
        replace hf := ite_f (by rw [hq]; decide) hf
        replace hf := ite_f (by rw [hq]; decide) hf
        replace hf := ite_f (by rw [hq]; decide) hf
        replace hf := ite_f (by rw [hq]; decide) hf
        replace hf := ite_f (by rw [hq]; decide) hf
        replace hf := ite_f (by rw [hq]; decide) hf
        replace hf := ite_f (by rw [hq]; decide) hf
        replace hf := ite_f (by rw [hq]; decide) hf
        replace hf := ite_f (by rw [hq]; decide) hf
        replace hf := ite_f (by rw [hq]; decide) hf
        replace hf := ite_f (by rw [hq]; decide) hf
        replace hf := ite_f (by rw [hq]; decide) hf
        replace hf := ite_f (by rw [hq]; decide) hf
        replace hf := ite_f (by rw [hq]; decide) hf
        replace hf := ite_f (by rw [hq]; decide) hf
        replace hf := ite_f (by rw [hq]; decide) hf
        replace hf := ite_t hq hf
        obtain ⟨v221, w221, e221, hf⟩ := bI_e hf
        refine bL_law_1396 (ct := c_X_restore (d := d + 62) w e221) (k := ?_)
        obtain ⟨v222, w222, e222, hf⟩ := bI_e hf
        refine bL_law_1400 (ct := c_M_restore (d := d + 63) w221 e222) (k := ?_)
        refine bL_law_1404 (kt := fun q223 => ?_) (kf := fun q223 => ?_)
        · replace hf := ite_t q223 hf
          refine bL_law_1432 (k := ?_)
          exact ih w222 (x3 + 6) hf
        · replace hf := ite_f q223 hf
          obtain ⟨rfl, rfl⟩ := ret_e hf
          exact bL_law_1407 
      · have hq := q3_40
        replace hf := ite_f (by rw [hq]; decide) hf
        replace hf := ite_f (by rw [hq]; decide) hf
        replace hf := ite_f (by rw [hq]; decide) hf
        replace hf := ite_f (by rw [hq]; decide) hf
        replace hf := ite_f (by rw [hq]; decide) hf
        replace hf := ite_f (by rw [hq]; decide) hf
        replace hf := ite_f (by rw [hq]; decide) hf
        replace hf := ite_f (by rw [hq]; decide) hf
        replace hf := ite_f (by rw [hq]; decide) hf
        replace hf := ite_f (by rw [hq]; decide) hf
        replace hf := ite_f (by rw [hq]; decide) hf
        replace hf := ite_f (by rw [hq]; decide) hf
        replace hf := ite_f (by rw [hq]; decide) hf
        replace hf := ite_f (by rw [hq]; decide) hf
        replace hf := ite_f (by rw [hq]; decide) hf
        replace hf := ite_f (by rw [hq]; decide) hf
        replace hf := ite_f (by rw [hq]; decide) hf
        replace hf := ite_f (by rw [hq]; decide) hf
        replace hf := ite_f (by rw [hq]; decide) hf
        replace hf := ite_f (by rw [hq]; decide) hf
        replace hf := ite_f (by rw [hq]; decide) hf
        replace hf := ite_f (by rw [hq]; decide) hf
        replace hf := ite_f (by rw [hq]; decide) hf
        replace hf := ite_f (by rw [hq]; decide) hf
        replace hf := ite_f (by rw [hq]; decide) hf
        replace hf := ite_f (by rw [hq]; decide) hf
        replace hf := ite_f (by rw [hq]; decide) hf
        replace hf := ite_f (by rw [hq]; decide) hf
        replace hf := ite_f (by rw [hq]; decide) hf
        replace hf := ite_f (by rw [hq]; decide) hf
        replace hf := ite_f (by rw [hq]; decide) hf
        replace hf := ite_f (by rw [hq]; decide) hf
        replace hf := ite_f (by rw [hq]; decide) hf
        replace hf := ite_f (by rw [hq]; decide) hf
        replace hf := ite_f (by rw [hq]; decide) hf
        replace hf := ite_f (by rw [hq]; decide) hf
        replace hf := ite_f (by rw [hq]; decide) hf
        replace hf := ite_f (by rw [hq]; decide) hf
        replace hf := ite_f (by rw [hq]; decide) hf
        replace hf := ite_f (by rw [hq]; decide) hf
        replace hf := ite_t hq hf
        obtain ⟨g226_0, hf⟩ := grd_e hf
        obtain ⟨v226, w226, e226, hf⟩ := bI_e hf
        refine bL_law_1409 (h1 := (Or.inr (by decide))) (h2 := (vpb_ok g226_0)) (ct := c_X_status (d := d + 62) w (w.1 83 (x3 + 1).toNatClampNeg) e226) (k := ?_)
        obtain ⟨g227_0, hf⟩ := grd_e hf
        obtain ⟨v227, w227, e227, hf⟩ := bI_e hf
        refine bL_law_1418 (h1 := (Or.inr (by decide))) (h2 := (vpb_ok g227_0)) (ct := c_M_status (d := d + 63) w226 (w226.1 83 (x3 + 1).toNatClampNeg) e227) (k := ?_)
        refine bL_law_1427 (kt := fun q228 => ?_) (kf := fun q228 => ?_)
        · replace hf := ite_t q228 hf
          refine bL_law_1432 (k := ?_)
          exact ih w227 (x3 + 6) hf
        · replace hf := ite_f q228 hf
          obtain ⟨rfl, rfl⟩ := ret_e hf
          exact bL_law_1430 
      · replace hf := ite_f q3_0 hf
        replace hf := ite_f q3_1 hf
        replace hf := ite_f q3_2 hf
        replace hf := ite_f q3_3 hf
        replace hf := ite_f q3_4 hf
        replace hf := ite_f q3_5 hf
        replace hf := ite_f q3_6 hf
        replace hf := ite_f q3_7 hf
        replace hf := ite_f q3_8 hf
        replace hf := ite_f q3_9 hf
        replace hf := ite_f q3_10 hf
        replace hf := ite_f q3_11 hf
        replace hf := ite_f q3_12 hf
        replace hf := ite_f q3_13 hf
        replace hf := ite_f q3_14 hf
        replace hf := ite_f q3_15 hf
        replace hf := ite_f q3_16 hf
        replace hf := ite_f q3_17 hf
        replace hf := ite_f q3_18 hf
        replace hf := ite_f q3_19 hf
        replace hf := ite_f q3_20 hf
        replace hf := ite_f q3_21 hf
        replace hf := ite_f q3_22 hf
        replace hf := ite_f q3_23 hf
        replace hf := ite_f q3_24 hf
        replace hf := ite_f q3_25 hf
        replace hf := ite_f q3_26 hf
        replace hf := ite_f q3_27 hf
        replace hf := ite_f q3_28 hf
        replace hf := ite_f q3_29 hf
        replace hf := ite_f q3_30 hf
        replace hf := ite_f q3_31 hf
        replace hf := ite_f q3_32 hf
        replace hf := ite_f q3_33 hf
        replace hf := ite_f q3_34 hf
        replace hf := ite_f q3_35 hf
        replace hf := ite_f q3_36 hf
        replace hf := ite_f q3_37 hf
        replace hf := ite_f q3_38 hf
        replace hf := ite_f q3_39 hf
        replace hf := ite_f q3_40 hf
        refine bL_law_1432 (k := ?_)
        exact ih w (x3 + 6) hf
def f_L_law (w : MW) : Option RT := f_L_law_18 FU w (0 : Int32)
set_option maxHeartbeats 4000000 in
theorem rn_L_law {d : Nat} {r : Option Value} {w' : MW} (w : MW) (hf : f_L_law w = some (r, w')) : Rn (d + 65) mL_law 16 [some (.ref 83), some (.ref 0), some (.ref 62), none] [] w r w' := by
  unfold f_L_law at hf
  refine bL_law_16 (k := ?_)
  exact r_L_law_18 FU w (0 : Int32) hf
