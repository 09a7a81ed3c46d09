-- M_soon
def f_M_soon (w : MW) (x1 : Int32) : Option RT := if (v_M_isMan w x1) = 0 then (some (some (.int (v_M_no10 w (-1 : Int32))), u_M_no10 w (-1 : Int32))) else (bI (f_M_soonOf w x1) (fun v5 w5 => some (some (.int v5), w5)))
set_option maxHeartbeats 4000000 in
theorem c_M_soon {d : Nat} {r : Option Value} {w' : MW} (w : MW) (x1 : Int32) (hf : f_M_soon w x1 = some (r, w')) : Ct (d + 4) mM_soon [.ref 62, .int x1] w r w' := by
  refine eM_soon ?_
  unfold f_M_soon at hf
  refine bM_soon_0 (ct := c_M_isMan (d := d + 2) w x1) (k := ?_)
  refine bM_soon_5 (kt := fun q2 => ?_) (kf := fun q2 => ?_)
  · replace hf := ite_t q2 hf
    refine bM_soon_16 (ct := c_M_no10 (d := d + 2) w (-1 : Int32) (vpd (i := (-(-1 : Int32))) (n := 8) (by decide))) (k := ?_)
    obtain ⟨rfl, rfl⟩ := ret_e hf
    exact bM_soon_21 
  · replace hf := ite_f q2 hf
    obtain ⟨v5, w5, e5, hf⟩ := bI_e hf
    refine bM_soon_8 (ct := c_M_soonOf (d := d) w x1 e5) (k := ?_)
    refine bM_soon_13 (k := ?_)
    obtain ⟨rfl, rfl⟩ := ret_e hf
    exact bM_soon_21 
-- M_lose
def f_M_lose_20 (k7 : MW → Int32 → Int32 → Int32 → Option RT) : Nat → MW → Int32 → Int32 → Int32 → Int32 → Option RT
  | 0, _, _, _, _, _ => none
  | n + 1, w, x1, x2, x3, x4 => if (w.1 62 3) ≤ x4 then (k7 w x1 x2 (x3 + 1)) else (grd (vpb x3 8 = true) (if (v_M_has w (w.1 71 x3.toNatClampNeg) x4) = 0 then (f_M_lose_20 k7 n w x1 x2 x3 (x4 + 1)) else (grd (vpb x3 8 = true) (grd ((0 : Int32) = 0 → vpb x4 8 = true) (grd (¬ (0 : Int32) = 0 → vpb x4 8 = true) (bI (f_M_haveIt (u_M_meeting w x3 x4 (0 : Int32)) ) (fun v6 w6 => grd (vpb x3 8 = true) (grd ((1 : Int32) = 0 → vpb x4 8 = true) (grd (¬ (1 : Int32) = 0 → vpb x4 8 = true) (if v6 < x2 then (f_M_lose_20 k7 n (u_M_meeting w6 x3 x4 (1 : Int32)) ((100 * x3) + x4) v6 x3 (x4 + 1)) else (f_M_lose_20 k7 n (u_M_meeting w6 x3 x4 (1 : Int32)) x1 x2 x3 (x4 + 1))))))))))))
set_option maxHeartbeats 4000000 in
theorem r_M_lose_20 {d : Nat} {r : Option Value} {w' : MW} (k7 : MW → Int32 → Int32 → Int32 → Option RT) (hk7 : ∀ w x1 x2 x3, k7 w x1 x2 x3 = some (r, w') → Rn (d + 4) mM_lose 7 [some (.ref 62), some (.int x1), some (.int x2), some (.int x3), none, none] [] w r w') : ∀ (n : Nat) (w : MW) (x1 : Int32) (x2 : Int32) (x3 : Int32) (x4 : Int32), f_M_lose_20 k7 n w x1 x2 x3 x4 = some (r, w') → Rn (d + 4) mM_lose 20 [some (.ref 62), some (.int x1), some (.int x2), some (.int x3), some (.int x4), none] [] w r w' := by
  intro n
  induction n with
  | zero =>
    intro w x1 x2 x3 x4 hf
    cases hf
  | succ n ih =>
    intro w x1 x2 x3 x4 hf
    rw [f_M_lose_20] at hf
    refine bM_lose_20 (kt := fun q1 => ?_) (kf := fun q1 => ?_)
    · replace hf := ite_t q1 hf
      refine bM_lose_94 (k := ?_)
      exact hk7 w x1 x2 (x3 + 1) hf
    · replace hf := ite_f q1 hf
      obtain ⟨g3_0, hf⟩ := grd_e hf
      refine bM_lose_29 (y1 := 71) (h3 := (vpb_ok g3_0)) (ct := c_M_has (d := d + 3) w (w.1 71 x3.toNatClampNeg) x4) (k := ?_)
      refine bM_lose_40 (kt := fun q4 => ?_) (kf := fun q4 => ?_)
      · replace hf := ite_f q4 hf
        obtain ⟨g5_0, hf⟩ := grd_e hf
        obtain ⟨g5_1, hf⟩ := grd_e hf
        obtain ⟨g5_2, hf⟩ := grd_e hf
        refine bM_lose_46 (ct := c_M_meeting (d := d + 3) w x3 x4 (0 : Int32) (vpb_ok g5_0) (fun z0 => vpb_ok (g5_1 z0)) (fun z0 => vpb_ok (g5_2 z0))) (k := ?_)
        obtain ⟨v6, w6, e6, hf⟩ := bI_e hf
        refine bM_lose_54 (ct := c_M_haveIt (d := d) (u_M_meeting w x3 x4 (0 : Int32)) e6) (k := ?_)
        obtain ⟨g7_0, hf⟩ := grd_e hf
        obtain ⟨g7_1, hf⟩ := grd_e hf
        obtain ⟨g7_2, hf⟩ := grd_e hf
        refine bM_lose_58 (ct := c_M_meeting (d := d + 3) w6 x3 x4 (1 : Int32) (vpb_ok g7_0) (fun z0 => vpb_ok (g7_1 z0)) (fun z0 => vpb_ok (g7_2 z0))) (k := ?_)
        refine bM_lose_68 (kt := fun q8 => ?_) (kf := fun q8 => ?_)
        · replace hf := ite_t q8 hf
          refine bM_lose_77 (k := ?_)
          refine bM_lose_88 (k := ?_)
          exact ih (u_M_meeting w6 x3 x4 (1 : Int32)) ((100 * x3) + x4) v6 x3 (x4 + 1) hf
        · replace hf := ite_f q8 hf
          refine bM_lose_74 (k := ?_)
          refine bM_lose_88 (k := ?_)
          exact ih (u_M_meeting w6 x3 x4 (1 : Int32)) x1 x2 x3 (x4 + 1) hf
      · replace hf := ite_t q4 hf
        refine bM_lose_43 (k := ?_)
        refine bM_lose_88 (k := ?_)
        exact ih w x1 x2 x3 (x4 + 1) hf
def f_M_lose_7 : Nat → MW → Int32 → Int32 → Int32 → Option RT
  | 0, _, _, _, _ => none
  | n + 1, w, x1, x2, x3 => if (w.1 62 3) ≤ x3 then (some (some (.int x1), w)) else (f_M_lose_20 (fun w x1 x2 x3 => f_M_lose_7 n w x1 x2 x3) FU w x1 x2 x3 (x3 + 1))
set_option maxHeartbeats 4000000 in
theorem r_M_lose_7 {d : Nat} {r : Option Value} {w' : MW} : ∀ (n : Nat) (w : MW) (x1 : Int32) (x2 : Int32) (x3 : Int32), f_M_lose_7 n w x1 x2 x3 = some (r, w') → Rn (d + 4) mM_lose 7 [some (.ref 62), some (.int x1), some (.int x2), some (.int x3), none, none] [] w r w' := by
  intro n
  induction n with
  | zero =>
    intro w x1 x2 x3 hf
    cases hf
  | succ n ih =>
    intro w x1 x2 x3 hf
    rw [f_M_lose_7] at hf
    refine bM_lose_7 (kt := fun q1 => ?_) (kf := fun q1 => ?_)
    · replace hf := ite_t q1 hf
      obtain ⟨rfl, rfl⟩ := ret_e hf
      exact bM_lose_100 
    · replace hf := ite_f q1 hf
      refine bM_lose_15 (k := ?_)
      exact r_M_lose_20 (fun w x1 x2 x3 => f_M_lose_7 n w x1 x2 x3) ih FU w x1 x2 x3 (x3 + 1) hf
def f_M_lose (w : MW) : Option RT := f_M_lose_7 FU w (-1 : Int32) (99 : Int32) (0 : Int32)
set_option maxHeartbeats 4000000 in
theorem c_M_lose {d : Nat} {r : Option Value} {w' : MW} (w : MW) (hf : f_M_lose w = some (r, w')) : Ct (d + 4) mM_lose [.ref 62] w r w' := by
  refine eM_lose ?_
  unfold f_M_lose at hf
  refine bM_lose_0 (k := ?_)
  exact r_M_lose_7 FU w (-1 : Int32) (99 : Int32) (0 : Int32) hf
-- M_swap
def f_M_swap_22 (k9 : MW → Int32 → Int32 → Int32 → Option RT) : Nat → MW → Int32 → Int32 → Int32 → Int32 → Option RT
  | 0, _, _, _, _, _ => none
  | n + 1, w, x1, x2, x3, x4 => if (w.1 62 10) ≤ x4 then (k9 w x1 x2 (x3 + 1)) else (grd (vpb x3 30 = true) (grd (vpb x4 30 = true) (bI (f_M_senses (u_M_change w x3 x4) ) (fun v4 w4 => grd (vpb x3 30 = true) (grd (vpb x4 30 = true) (if x1 < v4 then (f_M_swap_22 k9 n (u_M_change w4 x3 x4) v4 ((100 * x3) + x4) x3 (x4 + 1)) else (f_M_swap_22 k9 n (u_M_change w4 x3 x4) x1 x2 x3 (x4 + 1))))))))
set_option maxHeartbeats 4000000 in
theorem r_M_swap_22 {d : Nat} {r : Option Value} {w' : MW} (k9 : MW → Int32 → Int32 → Int32 → Option RT) (hk9 : ∀ w x1 x2 x3, k9 w x1 x2 x3 = some (r, w') → Rn (d + 3) mM_swap 9 [some (.ref 62), some (.int x1), some (.int x2), some (.int x3), none, none] [] w r w') : ∀ (n : Nat) (w : MW) (x1 : Int32) (x2 : Int32) (x3 : Int32) (x4 : Int32), f_M_swap_22 k9 n w x1 x2 x3 x4 = some (r, w') → Rn (d + 3) mM_swap 22 [some (.ref 62), some (.int x1), some (.int x2), some (.int x3), some (.int x4), none] [] w r w' := by
  intro n
  induction n with
  | zero =>
    intro w x1 x2 x3 x4 hf
    cases hf
  | succ n ih =>
    intro w x1 x2 x3 x4 hf
    rw [f_M_swap_22] at hf
    refine bM_swap_22 (kt := fun q1 => ?_) (kf := fun q1 => ?_)
    · replace hf := ite_t q1 hf
      refine bM_swap_77 (k := ?_)
      exact hk9 w x1 x2 (x3 + 1) hf
    · replace hf := ite_f q1 hf
      obtain ⟨g3_0, hf⟩ := grd_e hf
      obtain ⟨g3_1, hf⟩ := grd_e hf
      refine bM_swap_31 (ct := c_M_change (d := d + 2) w x3 x4 (vpb_ok g3_0) (vpb_ok g3_1)) (k := ?_)
      obtain ⟨v4, w4, e4, hf⟩ := bI_e hf
      refine bM_swap_38 (ct := c_M_senses (d := d) (u_M_change w x3 x4) e4) (k := ?_)
      obtain ⟨g5_0, hf⟩ := grd_e hf
      obtain ⟨g5_1, hf⟩ := grd_e hf
      refine bM_swap_42 (ct := c_M_change (d := d + 2) w4 x3 x4 (vpb_ok g5_0) (vpb_ok g5_1)) (k := ?_)
      refine bM_swap_51 (kt := fun q6 => ?_) (kf := fun q6 => ?_)
      · replace hf := ite_t q6 hf
        refine bM_swap_60 (k := ?_)
        refine bM_swap_71 (k := ?_)
        exact ih (u_M_change w4 x3 x4) v4 ((100 * x3) + x4) x3 (x4 + 1) hf
      · replace hf := ite_f q6 hf
        refine bM_swap_57 (k := ?_)
        refine bM_swap_71 (k := ?_)
        exact ih (u_M_change w4 x3 x4) x1 x2 x3 (x4 + 1) hf
def f_M_swap_9 : Nat → MW → Int32 → Int32 → Int32 → Option RT
  | 0, _, _, _, _ => none
  | n + 1, w, x1, x2, x3 => if (w.1 62 10) ≤ x3 then (some (some (.int x2), w)) else (f_M_swap_22 (fun w x1 x2 x3 => f_M_swap_9 n w x1 x2 x3) FU w x1 x2 x3 (x3 + 1))
set_option maxHeartbeats 4000000 in
theorem r_M_swap_9 {d : Nat} {r : Option Value} {w' : MW} : ∀ (n : Nat) (w : MW) (x1 : Int32) (x2 : Int32) (x3 : Int32), f_M_swap_9 n w x1 x2 x3 = some (r, w') → Rn (d + 3) mM_swap 9 [some (.ref 62), some (.int x1), some (.int x2), some (.int x3), none, none] [] w r w' := by
  intro n
  induction n with
  | zero =>
    intro w x1 x2 x3 hf
    cases hf
  | succ n ih =>
    intro w x1 x2 x3 hf
    rw [f_M_swap_9] at hf
    refine bM_swap_9 (kt := fun q1 => ?_) (kf := fun q1 => ?_)
    · replace hf := ite_t q1 hf
      obtain ⟨rfl, rfl⟩ := ret_e hf
      exact bM_swap_83 
    · replace hf := ite_f q1 hf
      refine bM_swap_17 (k := ?_)
      exact r_M_swap_22 (fun w x1 x2 x3 => f_M_swap_9 n w x1 x2 x3) ih FU w x1 x2 x3 (x3 + 1) hf
def f_M_swap (w : MW) : Option RT := bI (f_M_senses w ) (fun v1 w1 => f_M_swap_9 FU w1 v1 (-1 : Int32) (0 : Int32))
set_option maxHeartbeats 4000000 in
theorem c_M_swap {d : Nat} {r : Option Value} {w' : MW} (w : MW) (hf : f_M_swap w = some (r, w')) : Ct (d + 3) mM_swap [.ref 62] w r w' := by
  refine eM_swap ?_
  unfold f_M_swap at hf
  obtain ⟨v1, w1, e1, hf⟩ := bI_e hf
  refine bM_swap_0 (ct := c_M_senses (d := d) w e1) (k := ?_)
  refine bM_swap_4 (k := ?_)
  exact r_M_swap_9 FU w1 v1 (-1 : Int32) (0 : Int32) hf
-- M_audience
def f_M_audience (w : MW) (x1 : Int32) : Option RT := if (v_M_isRounds w x1) = 0 then (some (some (.int (v_M_no w (-6 : Int32))), u_M_no w (-6 : Int32))) else (bI (f_M_heard w x1) (fun v5 w5 => some (some (.int v5), w5)))
set_option maxHeartbeats 4000000 in
theorem c_M_audience {d : Nat} {r : Option Value} {w' : MW} (w : MW) (x1 : Int32) (hf : f_M_audience w x1 = some (r, w')) : Ct (d + 4) mM_audience [.ref 62, .int x1] w r w' := by
  refine eM_audience ?_
  unfold f_M_audience at hf
  refine bM_audience_0 (ct := c_M_isRounds (d := d + 2) w x1) (k := ?_)
  refine bM_audience_4 (kt := fun q2 => ?_) (kf := fun q2 => ?_)
  · replace hf := ite_t q2 hf
    refine bM_audience_15 (ct := c_M_no (d := d + 3) w (-6 : Int32) (vpd (i := (-(-6 : Int32))) (n := 8) (by decide))) (k := ?_)
    obtain ⟨rfl, rfl⟩ := ret_e hf
    exact bM_audience_21 
  · replace hf := ite_f q2 hf
    obtain ⟨v5, w5, e5, hf⟩ := bI_e hf
    refine bM_audience_7 (ct := c_M_heard (d := d) w x1 e5) (k := ?_)
    refine bM_audience_12 (k := ?_)
    obtain ⟨rfl, rfl⟩ := ret_e hf
    exact bM_audience_21 
-- Mn_saysAs
def f_Mn_saysAs (w : MW) (a0 : Nat) (x1 : Int32) (x2 : Int32) : Option RT := bI (f_Mn_placesOf w a0 x2) (fun v1 w1 => bI (f_X_thirds w1 (w1.1 a0 2) (0 : Int32) x2) (fun v2 w2 => if x1 = 1 then (bI (f_JI_bitCount w2 v1) (fun v4 w4 => bI (f_JI_bitCount w4 v2) (fun v5 w5 => some (some (.int (v4 - v5)), w5)))) else if x1 = 2 then (bI (f_JI_bitCount w2 v2) (fun v7 w7 => bI (f_JI_bitCount w7 v1) (fun v8 w8 => some (some (.int (v7 - v8)), w8)))) else if x1 = 3 then (bI (f_JI_bitCount w2 v1) (fun v10 w10 => bI (f_JI_bitCount w10 v2) (fun v11 w11 => some (some (.int (v10 - v11)), w11)))) else if x1 = 4 then (bI (f_JI_bitCount w2 (v1 &&& (v2 ^^^ (-1)))) (fun v13 w13 => some (some (.int v13), w13))) else if x1 = 5 then (bI (f_JI_bitCount w2 v2) (fun v15 w15 => bI (f_JI_bitCount w15 v1) (fun v16 w16 => some (some (.int (v15 - v16)), w16)))) else if x1 = 6 then (bI (f_JI_bitCount w2 (v1 &&& (v2 ^^^ (-1)))) (fun v18 w18 => some (some (.int v18), w18))) else (some (some (.int (w2.1 a0 2)), w2))))
set_option maxHeartbeats 4000000 in
theorem c_Mn_saysAs {d : Nat} {r : Option Value} {w' : MW} (w : MW) (a0 : Nat) (x1 : Int32) (x2 : Int32) (c0 : isMn a0) (hf : f_Mn_saysAs w a0 x1 x2 = some (r, w')) : Ct (d + 3) mMn_saysAs [.ref a0, .int x1, .int x2] w r w' := by
  refine eMn_saysAs ?_
  unfold f_Mn_saysAs at hf
  obtain ⟨v1, w1, e1, hf⟩ := bI_e hf
  refine bMn_saysAs_0 (h1 := mn_k c0) (ct := c_Mn_placesOf (d := d) w a0 x2 c0 e1) (k := ?_)
  obtain ⟨v2, w2, e2, hf⟩ := bI_e hf
  refine bMn_saysAs_5 (h1 := mn_g c0 2 (by decide)) (ct := c_X_thirds (d := d + 2) w1 (w1.1 a0 2) (0 : Int32) x2 e2) (k := ?_)
  refine bMn_saysAs_15 (k1 := fun q3_1 => ?_) (k2 := fun q3_2 => ?_) (k3 := fun q3_3 => ?_) (k4 := fun q3_4 => ?_) (k5 := fun q3_5 => ?_) (k6 := fun q3_6 => ?_) (kd := fun q3_1 q3_2 q3_3 q3_4 q3_5 q3_6 => ?_)
  · have hq := q3_1
    replace hf := ite_t hq hf
    obtain ⟨v4, w4, e4, hf⟩ := bI_e hf
    refine bMn_saysAs_56 (ct := c_JI_bitCount (d := d + 2) w2 v1 e4) (k := ?_)
    obtain ⟨v5, w5, e5, hf⟩ := bI_e hf
    refine bMn_saysAs_60 (ct := c_JI_bitCount (d := d + 2) w4 v2 e5) (k := ?_)
    obtain ⟨rfl, rfl⟩ := ret_e hf
    exact bMn_saysAs_65 
  · have hq := q3_2
    replace hf := ite_f (by rw [hq]; decide) hf
    replace hf := ite_t hq hf
    obtain ⟨v7, w7, e7, hf⟩ := bI_e hf
    refine bMn_saysAs_67 (ct := c_JI_bitCount (d := d + 2) w2 v2 e7) (k := ?_)
    obtain ⟨v8, w8, e8, hf⟩ := bI_e hf
    refine bMn_saysAs_72 (ct := c_JI_bitCount (d := d + 2) w7 v1 e8) (k := ?_)
    obtain ⟨rfl, rfl⟩ := ret_e hf
    exact bMn_saysAs_76 
  · have hq := q3_3
    replace hf := ite_f (by rw [hq]; decide) hf
    replace hf := ite_f (by rw [hq]; decide) hf
    replace hf := ite_t hq hf
    obtain ⟨v10, w10, e10, hf⟩ := bI_e hf
    refine bMn_saysAs_56 (ct := c_JI_bitCount (d := d + 2) w2 v1 e10) (k := ?_)
    obtain ⟨v11, w11, e11, hf⟩ := bI_e hf
    refine bMn_saysAs_60 (ct := c_JI_bitCount (d := d + 2) w10 v2 e11) (k := ?_)
    obtain ⟨rfl, rfl⟩ := ret_e hf
    exact bMn_saysAs_65 
  · have hq := q3_4
    replace hf := ite_f (by rw [hq]; decide) hf
    replace hf := ite_f (by rw [hq]; decide) hf
    replace hf := ite_f (by rw [hq]; decide) hf
    replace hf := ite_t hq hf
    obtain ⟨v13, w13, e13, hf⟩ := bI_e hf
    refine bMn_saysAs_78 (ct := c_JI_bitCount (d := d + 2) w2 (v1 &&& (v2 ^^^ (-1))) e13) (k := ?_)
    obtain ⟨rfl, rfl⟩ := ret_e hf
    exact bMn_saysAs_87 
  · have hq := q3_5
    replace hf := ite_f (by rw [hq]; decide) hf
    replace hf := ite_f (by rw [hq]; decide) hf
    replace hf := ite_f (by rw [hq]; decide) hf
    replace hf := ite_f (by rw [hq]; decide) hf
    replace hf := ite_t hq hf
    obtain ⟨v15, w15, e15, hf⟩ := bI_e hf
    refine bMn_saysAs_67 (ct := c_JI_bitCount (d := d + 2) w2 v2 e15) (k := ?_)
    obtain ⟨v16, w16, e16, hf⟩ := bI_e hf
    refine bMn_saysAs_72 (ct := c_JI_bitCount (d := d + 2) w15 v1 e16) (k := ?_)
    obtain ⟨rfl, rfl⟩ := ret_e hf
    exact bMn_saysAs_76 
  · have hq := q3_6
    replace hf := ite_f (by rw [hq]; decide) hf
    replace hf := ite_f (by rw [hq]; decide) hf
    replace hf := ite_f (by rw [hq]; decide) hf
    replace hf := ite_f (by rw [hq]; decide) hf
    replace hf := ite_f (by rw [hq]; decide) hf
    replace hf := ite_t hq hf
    obtain ⟨v18, w18, e18, hf⟩ := bI_e hf
    refine bMn_saysAs_78 (ct := c_JI_bitCount (d := d + 2) w2 (v1 &&& (v2 ^^^ (-1))) e18) (k := ?_)
    obtain ⟨rfl, rfl⟩ := ret_e hf
    exact bMn_saysAs_87 
  · replace hf := ite_f q3_1 hf
    replace hf := ite_f q3_2 hf
    replace hf := ite_f q3_3 hf
    replace hf := ite_f q3_4 hf
    replace hf := ite_f q3_5 hf
    replace hf := ite_f q3_6 hf
    obtain ⟨rfl, rfl⟩ := ret_e hf
    exact bMn_saysAs_88 (h1 := mn_g c0 2 (by decide))
-- X_manOf
def f_X_manOf (w : MW) (x1 : Int32) (x2 : Int32) : Option RT := if (v_Ct_isMan w 1 x1) = 0 then (some (some (.int (v_X_refuse w (-5 : Int32))), u_X_refuse w (-5 : Int32))) else (grd (vpb x1 8 = true) (if x2 = 0 then (some (some (.int (w.1 (1 + 2 + x1.toNatClampNeg) 0)), w)) else if x2 = 1 then (some (some (.int (w.1 (1 + 2 + x1.toNatClampNeg) 1)), w)) else if x2 = 2 then (some (some (.int (w.1 (1 + 2 + x1.toNatClampNeg) 2)), w)) else if x2 = 3 then (bI (f_Ct_his w 1 x1) (fun v7 w7 => bI (f_JI_bitCount w7 v7) (fun v8 w8 => some (some (.int v8), w8)))) else if x2 = 4 then (some (some (.int (w.1 (1 + 2 + x1.toNatClampNeg) 5)), w)) else if x2 = 5 then (some (some (.int (w.1 (1 + 2 + x1.toNatClampNeg) 4)), w)) else (some (some (.int (v_X_refuse w (-5 : Int32))), u_X_refuse w (-5 : Int32)))))
set_option maxHeartbeats 4000000 in
theorem c_X_manOf {d : Nat} {r : Option Value} {w' : MW} (w : MW) (x1 : Int32) (x2 : Int32) (hf : f_X_manOf w x1 x2 = some (r, w')) : Ct (d + 4) mX_manOf [.ref 0, .int x1, .int x2] w r w' := by
  refine eX_manOf ?_
  unfold f_X_manOf at hf
  refine bX_manOf_0 (y1 := 1) (ct := c_Ct_isMan (d := d + 3) w 1 x1 ct1) (k := ?_)
  refine bX_manOf_8 (kt := fun q2 => ?_) (kf := fun q2 => ?_)
  · replace hf := ite_f q2 hf
    obtain ⟨g3_0, hf⟩ := grd_e hf
    refine bX_manOf_18 (y1 := 1) (y2 := 2) (y3 := 1 + 2 + x1.toNatClampNeg) (h3 := ct_k12 ct1) (h4 := ct_l8 ct1 (vpb_ok g3_0)) (h5 := ct_mn ct1 (vpb_ok g3_0)) (k0 := fun q3_0 => ?_) (k1 := fun q3_1 => ?_) (k2 := fun q3_2 => ?_) (k3 := fun q3_3 => ?_) (k4 := fun q3_4 => ?_) (k5 := fun q3_5 => ?_) (kd := fun q3_0 q3_1 q3_2 q3_3 q3_4 q3_5 => ?_)
    · have hq := q3_0
      replace hf := ite_t hq hf
      obtain ⟨rfl, rfl⟩ := ret_e hf
      exact bX_manOf_68 (h1 := mn_g (mn_of ct1 (vpb_ok g3_0)) 0 (by decide))
    · have hq := q3_1
      replace hf := ite_f (by rw [hq]; decide) hf
      replace hf := ite_t hq hf
      obtain ⟨rfl, rfl⟩ := ret_e hf
      exact bX_manOf_73 (h1 := mn_g (mn_of ct1 (vpb_ok g3_0)) 1 (by decide))
    · have hq := q3_2
      replace hf := ite_f (by rw [hq]; decide) hf
      replace hf := ite_f (by rw [hq]; decide) hf
      replace hf := ite_t hq hf
      obtain ⟨rfl, rfl⟩ := ret_e hf
      exact bX_manOf_78 (h1 := mn_g (mn_of ct1 (vpb_ok g3_0)) 2 (by decide))
    · have hq := q3_3
      replace hf := ite_f (by rw [hq]; decide) hf
      replace hf := ite_f (by rw [hq]; decide) hf
      replace hf := ite_f (by rw [hq]; decide) hf
      replace hf := ite_t hq hf
      obtain ⟨v7, w7, e7, hf⟩ := bI_e hf
      refine bX_manOf_83 (y1 := 1) (ct := c_Ct_his (d := d) w 1 x1 ct1 e7) (k := ?_)
      obtain ⟨v8, w8, e8, hf⟩ := bI_e hf
      refine bX_manOf_91 (ct := c_JI_bitCount (d := d + 3) w7 v7 e8) (k := ?_)
      obtain ⟨rfl, rfl⟩ := ret_e hf
      exact bX_manOf_94 
    · have hq := q3_4
      replace hf := ite_f (by rw [hq]; decide) hf
      replace hf := ite_f (by rw [hq]; decide) hf
      replace hf := ite_f (by rw [hq]; decide) hf
      replace hf := ite_f (by rw [hq]; decide) hf
      replace hf := ite_t hq hf
      obtain ⟨rfl, rfl⟩ := ret_e hf
      exact bX_manOf_95 (h1 := mn_g (mn_of ct1 (vpb_ok g3_0)) 5 (by decide))
    · have hq := q3_5
      replace hf := ite_f (by rw [hq]; decide) hf
      replace hf := ite_f (by rw [hq]; decide) hf
      replace hf := ite_f (by rw [hq]; decide) hf
      replace hf := ite_f (by rw [hq]; decide) hf
      replace hf := ite_f (by rw [hq]; decide) hf
      replace hf := ite_t hq hf
      obtain ⟨rfl, rfl⟩ := ret_e hf
      exact bX_manOf_100 (h1 := mn_g (mn_of ct1 (vpb_ok g3_0)) 4 (by decide))
    · replace hf := ite_f q3_0 hf
      replace hf := ite_f q3_1 hf
      replace hf := ite_f q3_2 hf
      replace hf := ite_f q3_3 hf
      replace hf := ite_f q3_4 hf
      replace hf := ite_f q3_5 hf
      refine bX_manOf_105 (ct := c_X_refuse (d := d + 3) w (-5 : Int32)) (k := ?_)
      obtain ⟨rfl, rfl⟩ := ret_e hf
      exact bX_manOf_111 
  · replace hf := ite_t q2 hf
    refine bX_manOf_11 (ct := c_X_refuse (d := d + 3) w (-5 : Int32)) (k := ?_)
    obtain ⟨rfl, rfl⟩ := ret_e hf
    exact bX_manOf_17 
-- Rd_readOver
def f_Rd_readOver_23 (a1 : Nat) (a2 : Nat) : Nat → MW → Int32 → Int32 → Option RT
  | 0, _, _, _ => none
  | n + 1, w, x3, x4 => if 160 < x4 then (bV (f_Ct_become w a1 23) (fun w2 => some (some (.int x3), w2))) else (bV (f_Rd_readItem w a2) (fun w4 => if (w4.1 52 3) = (-1) then (if (w4.1 52 1) = (w4.1 a2 1) then (bV (f_Ct_become w4 a1 23) (fun w12 => some (some (.int (x3 + 1)), w12))) else (grd (¬ (v_Sh_has w4 a2 (w4.1 52 1)) = 0 → ¬ (w4.1 52 1) < 0 → ¬ (w4.1 a2 1) ≤ (w4.1 52 1) → vpb (w4.1 52 1) 160 = true) (if ((u_Rd_take w4 a2 (59 : Int32)).1 52 3) = (-1) then (f_Rd_readOver_23 a1 a2 n (u_Rd_take w4 a2 (59 : Int32)) (x3 + 1) (x4 + 1)) else (some (some (.int (0 : Int32)), u_Rd_take w4 a2 (59 : Int32)))))) else (some (some (.int (0 : Int32)), w4))))
set_option maxHeartbeats 4000000 in
theorem r_Rd_readOver_23 {d : Nat} {r : Option Value} {w' : MW} (a1 : Nat) (a2 : Nat) (c1 : isCt a1) (c2 : isSh a2) : ∀ (n : Nat) (w : MW) (x3 : Int32) (x4 : Int32), f_Rd_readOver_23 a1 a2 n w x3 x4 = some (r, w') → Rn (d + 6) mRd_readOver 23 [some (.ref 52), some (.ref a1), some (.ref a2), some (.int x3), some (.int x4)] [] w r w' := by
  intro n
  induction n with
  | zero =>
    intro w x3 x4 hf
    cases hf
  | succ n ih =>
    intro w x3 x4 hf
    rw [f_Rd_readOver_23] at hf
    refine bRd_readOver_23 (kt := fun q1 => ?_) (kf := fun q1 => ?_)
    · replace hf := ite_t q1 hf
      obtain ⟨w2, e2, hf⟩ := bV_e hf
      refine bRd_readOver_86 (y1 := 23) (h2 := ct_k c1) (ct := c_Ct_become (d := d + 4) w a1 23 c1 ct23 e2) (k := ?_)
      obtain ⟨rfl, rfl⟩ := ret_e hf
      exact bRd_readOver_94 
    · replace hf := ite_f q1 hf
      obtain ⟨w4, e4, hf⟩ := bV_e hf
      refine bRd_readOver_31 (ct := c_Rd_readItem (d := d) w a2 c2 e4) (k := ?_)
      refine bRd_readOver_36 (kt := fun q5 => ?_) (kf := fun q5 => ?_)
      · replace hf := ite_t q5 hf
        refine bRd_readOver_46 (h2 := sh_g1 c2) (kt := fun q6 => ?_) (kf := fun q6 => ?_)
        · replace hf := ite_f q6 hf
          obtain ⟨g7_0, hf⟩ := grd_e hf
          refine bRd_readOver_63 (ct := c_Rd_take (d := d + 4) w4 a2 (59 : Int32) c2 (fun z0 z1 z2 => vpb_ok (g7_0 z0 z1 z2))) (k := ?_)
          refine bRd_readOver_70 (kt := fun q8 => ?_) (kf := fun q8 => ?_)
          · replace hf := ite_t q8 hf
            refine bRd_readOver_80 (k := ?_)
            exact ih (u_Rd_take w4 a2 (59 : Int32)) (x3 + 1) (x4 + 1) hf
          · replace hf := ite_f q8 hf
            obtain ⟨rfl, rfl⟩ := ret_e hf
            exact bRd_readOver_78 
        · replace hf := ite_t q6 hf
          refine bRd_readOver_60 (k := ?_)
          obtain ⟨w12, e12, hf⟩ := bV_e hf
          refine bRd_readOver_86 (y1 := 23) (h2 := ct_k c1) (ct := c_Ct_become (d := d + 4) w4 a1 23 c1 ct23 e12) (k := ?_)
          obtain ⟨rfl, rfl⟩ := ret_e hf
          exact bRd_readOver_94 
      · replace hf := ite_f q5 hf
        obtain ⟨rfl, rfl⟩ := ret_e hf
        exact bRd_readOver_44 
def f_Rd_readOver (w : MW) (a1 : Nat) (a2 : Nat) : Option RT := bV (f_Ct_become w 23 a1) (fun w1 => f_Rd_readOver_23 a1 a2 FU (setI (setI w1 52 1 0) 52 3 (-1)) (0 : Int32) (0 : Int32))
set_option maxHeartbeats 4000000 in
theorem c_Rd_readOver {d : Nat} {r : Option Value} {w' : MW} (w : MW) (a1 : Nat) (a2 : Nat) (c1 : isCt a1) (c2 : isSh a2) (hf : f_Rd_readOver w a1 a2 = some (r, w')) : Ct (d + 6) mRd_readOver [.ref 52, .ref a1, .ref a2] w r w' := by
  refine eRd_readOver ?_
  unfold f_Rd_readOver at hf
  obtain ⟨w1, e1, hf⟩ := bV_e hf
  refine bRd_readOver_0 (y1 := 23) (ct := c_Ct_become (d := d + 4) w 23 a1 ct23 c1 e1) (k := ?_)
  refine bRd_readOver_8 (k := ?_)
  exact r_Rd_readOver_23 a1 a2 c1 c2 FU (setI (setI w1 52 1 0) 52 3 (-1)) (0 : Int32) (0 : Int32) hf
-- X_knownBehind
def f_X_knownBehind (w : MW) (x1 : Int32) (x2 : Int32) : Option RT := bV (f_Co_begin w 1) (fun w1 => bV (f_Co_ride w1 x2) (fun w2 => grd (vpb x1 8 = true) (some (some (.int (w2.1 54 x1.toNatClampNeg)), w2))))
set_option maxHeartbeats 4000000 in
theorem c_X_knownBehind {d : Nat} {r : Option Value} {w' : MW} (w : MW) (x1 : Int32) (x2 : Int32) (hf : f_X_knownBehind w x1 x2 = some (r, w')) : Ct (d + 5) mX_knownBehind [.ref 0, .int x1, .int x2] w r w' := by
  refine eX_knownBehind ?_
  unfold f_X_knownBehind at hf
  obtain ⟨w1, e1, hf⟩ := bV_e hf
  refine bX_knownBehind_0 (y1 := 53) (y2 := 1) (ct := c_Co_begin (d := d) w 1 ct1 e1) (k := ?_)
  obtain ⟨w2, e2, hf⟩ := bV_e hf
  refine bX_knownBehind_11 (y1 := 53) (ct := c_Co_ride (d := d + 3) w1 x2 e2) (k := ?_)
  obtain ⟨g3_0, hf⟩ := grd_e hf
  obtain ⟨rfl, rfl⟩ := ret_e hf
  exact bX_knownBehind_19 (y1 := 53) (y2 := 54) (h4 := (vpb_ok g3_0))
-- X_known
def f_X_known (w : MW) (x1 : Int32) (x2 : Int32) : Option RT := if (v_Ct_isMan w 1 x1) = 0 then (some (some (.int (v_X_refuse w (-1 : Int32))), u_X_refuse w (-1 : Int32))) else (if (v_X_isRounds w x2) = 0 then (some (some (.int (v_X_refuse w (-6 : Int32))), u_X_refuse w (-6 : Int32))) else (bI (f_X_knownBehind w x1 x2) (fun v5 w5 => bI (f_JI_bitCount w5 v5) (fun v6 w6 => some (some (.int v6), w6)))))
set_option maxHeartbeats 4000000 in
theorem c_X_known {d : Nat} {r : Option Value} {w' : MW} (w : MW) (x1 : Int32) (x2 : Int32) (hf : f_X_known w x1 x2 = some (r, w')) : Ct (d + 6) mX_known [.ref 0, .int x1, .int x2] w r w' := by
  refine eX_known ?_
  unfold f_X_known at hf
  refine bX_known_0 (y1 := 1) (ct := c_Ct_isMan (d := d + 5) w 1 x1 ct1) (k := ?_)
  refine bX_known_8 (kt := fun q2 => ?_) (kf := fun q2 => ?_)
  · replace hf := ite_f q2 hf
    refine bX_known_17 (ct := c_X_isRounds (d := d + 5) w x2) (k := ?_)
    refine bX_known_21 (kt := fun q4 => ?_) (kf := fun q4 => ?_)
    · replace hf := ite_f q4 hf
      obtain ⟨v5, w5, e5, hf⟩ := bI_e hf
      refine bX_known_31 (ct := c_X_knownBehind (d := d) w x1 x2 e5) (k := ?_)
      obtain ⟨v6, w6, e6, hf⟩ := bI_e hf
      refine bX_known_37 (ct := c_JI_bitCount (d := d + 5) w5 v5 e6) (k := ?_)
      obtain ⟨rfl, rfl⟩ := ret_e hf
      exact bX_known_40 
    · replace hf := ite_t q4 hf
      refine bX_known_24 (ct := c_X_refuse (d := d + 5) w (-6 : Int32)) (k := ?_)
      obtain ⟨rfl, rfl⟩ := ret_e hf
      exact bX_known_30 
  · replace hf := ite_t q2 hf
    refine bX_known_11 (ct := c_X_refuse (d := d + 5) w (-1 : Int32)) (k := ?_)
    obtain ⟨rfl, rfl⟩ := ret_e hf
    exact bX_known_16 
-- Cl_placesHeardBy
def f_Cl_placesHeardBy (w : MW) (a1 : Nat) (x2 : Int32) : Option RT := bV (f_Cl_listen w a1) (fun w1 => bI (f_Cl_heardByAny w1 x2) (fun v2 w2 => some (some (.int v2), w2)))
set_option maxHeartbeats 4000000 in
theorem c_Cl_placesHeardBy {d : Nat} {r : Option Value} {w' : MW} (w : MW) (a1 : Nat) (x2 : Int32) (c1 : isCt a1) (hf : f_Cl_placesHeardBy w a1 x2 = some (r, w')) : Ct (d + 5) mCl_placesHeardBy [.ref 57, .ref a1, .int x2] w r w' := by
  refine eCl_placesHeardBy ?_
  unfold f_Cl_placesHeardBy at hf
  obtain ⟨w1, e1, hf⟩ := bV_e hf
  refine bCl_placesHeardBy_0 (ct := c_Cl_listen (d := d) w a1 c1 e1) (k := ?_)
  obtain ⟨v2, w2, e2, hf⟩ := bI_e hf
  refine bCl_placesHeardBy_5 (ct := c_Cl_heardByAny (d := d + 4) w1 x2 e2) (k := ?_)
  obtain ⟨rfl, rfl⟩ := ret_e hf
  exact bCl_placesHeardBy_10 
-- X_cover
def f_X_cover (w : MW) : Option RT := bI (f_Cl_fewestWhoCover w 1) (fun v1 w1 => some (some (.int v1), w1))
set_option maxHeartbeats 4000000 in
theorem c_X_cover {d : Nat} {r : Option Value} {w' : MW} (w : MW) (hf : f_X_cover w = some (r, w')) : Ct (d + 6) mX_cover [.ref 0] w r w' := by
  refine eX_cover ?_
  unfold f_X_cover at hf
  obtain ⟨v1, w1, e1, hf⟩ := bI_e hf
  refine bX_cover_0 (y1 := 57) (y2 := 1) (ct := c_Cl_fewestWhoCover (d := d) w 1 ct1 e1) (k := ?_)
  obtain ⟨rfl, rfl⟩ := ret_e hf
  exact bX_cover_11 
-- Cl_nextToAsk
def f_Cl_nextToAsk_16 (a1 : Nat) : Nat → MW → Int32 → Int32 → Int32 → Int32 → Int32 → Option RT
  | 0, _, _, _, _, _, _ => none
  | n + 1, w, x2, x3, x4, x5, x6 => if (w.1 a1 1) ≤ x6 then (some (some (.int x4), w)) else (if ((ush x2 x6) &&& 1) = 1 then (f_Cl_nextToAsk_16 a1 n w x2 x3 x4 x5 (x6 + 1)) else (grd (vpb x6 8 = true) (bI (f_JI_bitCount w ((w.1 59 x6.toNatClampNeg) &&& (x3 ^^^ (-1)))) (fun v4 w4 => if v4 ≤ x5 then (f_Cl_nextToAsk_16 a1 n w4 x2 x3 x4 x5 (x6 + 1)) else (f_Cl_nextToAsk_16 a1 n w4 x2 x3 x6 v4 (x6 + 1))))))
set_option maxHeartbeats 4000000 in
theorem r_Cl_nextToAsk_16 {d : Nat} {r : Option Value} {w' : MW} (a1 : Nat) (c1 : isCt a1) : ∀ (n : Nat) (w : MW) (x2 : Int32) (x3 : Int32) (x4 : Int32) (x5 : Int32) (x6 : Int32), f_Cl_nextToAsk_16 a1 n w x2 x3 x4 x5 x6 = some (r, w') → Rn (d + 6) mCl_nextToAsk 16 [some (.ref 57), some (.ref a1), some (.int x2), some (.int x3), some (.int x4), some (.int x5), some (.int x6), none] [] w r w' := by
  intro n
  induction n with
  | zero =>
    intro w x2 x3 x4 x5 x6 hf
    cases hf
  | succ n ih =>
    intro w x2 x3 x4 x5 x6 hf
    rw [f_Cl_nextToAsk_16] at hf
    refine bCl_nextToAsk_16 (h1 := ct_g1 c1) (kt := fun q1 => ?_) (kf := fun q1 => ?_)
    · replace hf := ite_t q1 hf
      obtain ⟨rfl, rfl⟩ := ret_e hf
      exact bCl_nextToAsk_75 
    · replace hf := ite_f q1 hf
      refine bCl_nextToAsk_25 (kt := fun q3 => ?_) (kf := fun q3 => ?_)
      · replace hf := ite_f q3 hf
        obtain ⟨g4_0, hf⟩ := grd_e hf
        obtain ⟨v4, w4, e4, hf⟩ := bI_e hf
        refine bCl_nextToAsk_38 (y1 := 59) (h3 := (vpb_ok g4_0)) (ct := c_JI_bitCount (d := d + 5) w ((w.1 59 x6.toNatClampNeg) &&& (x3 ^^^ (-1))) e4) (k := ?_)
        refine bCl_nextToAsk_52 (kt := fun q5 => ?_) (kf := fun q5 => ?_)
        · replace hf := ite_t q5 hf
          refine bCl_nextToAsk_69 (k := ?_)
          exact ih w4 x2 x3 x4 x5 (x6 + 1) hf
        · replace hf := ite_f q5 hf
          refine bCl_nextToAsk_61 (k := ?_)
          refine bCl_nextToAsk_69 (k := ?_)
          exact ih w4 x2 x3 x6 v4 (x6 + 1) hf
      · replace hf := ite_t q3 hf
        refine bCl_nextToAsk_35 (k := ?_)
        refine bCl_nextToAsk_69 (k := ?_)
        exact ih w x2 x3 x4 x5 (x6 + 1) hf
def f_Cl_nextToAsk (w : MW) (a1 : Nat) (x2 : Int32) : Option RT := bI (f_Cl_placesHeardBy w a1 x2) (fun v1 w1 => f_Cl_nextToAsk_16 a1 FU w1 x2 v1 (-1 : Int32) (0 : Int32) (0 : Int32))
set_option maxHeartbeats 4000000 in
theorem c_Cl_nextToAsk {d : Nat} {r : Option Value} {w' : MW} (w : MW) (a1 : Nat) (x2 : Int32) (c1 : isCt a1) (hf : f_Cl_nextToAsk w a1 x2 = some (r, w')) : Ct (d + 6) mCl_nextToAsk [.ref 57, .ref a1, .int x2] w r w' := by
  refine eCl_nextToAsk ?_
  unfold f_Cl_nextToAsk at hf
  obtain ⟨v1, w1, e1, hf⟩ := bI_e hf
  refine bCl_nextToAsk_0 (ct := c_Cl_placesHeardBy (d := d) w a1 x2 c1 e1) (k := ?_)
  refine bCl_nextToAsk_6 (k := ?_)
  exact r_Cl_nextToAsk_16 a1 c1 FU w1 x2 v1 (-1 : Int32) (0 : Int32) (0 : Int32) hf
-- X_apart
def f_X_apart (w : MW) (x1 : Int32) : Option RT := if (v_Ct_isMan w 1 x1) = 0 then (some (some (.int (v_X_refuseFar w (-1 : Int32))), u_X_refuseFar w (-1 : Int32))) else (bI (f_Co_fewestApart w 1 x1) (fun v3 w3 => some (some (.int v3), w3)))
set_option maxHeartbeats 4000000 in
theorem c_X_apart {d : Nat} {r : Option Value} {w' : MW} (w : MW) (x1 : Int32) (hf : f_X_apart w x1 = some (r, w')) : Ct (d + 6) mX_apart [.ref 0, .int x1] w r w' := by
  refine eX_apart ?_
  unfold f_X_apart at hf
  refine bX_apart_0 (y1 := 1) (ct := c_Ct_isMan (d := d + 5) w 1 x1 ct1) (k := ?_)
  refine bX_apart_8 (kt := fun q2 => ?_) (kf := fun q2 => ?_)
  · replace hf := ite_f q2 hf
    obtain ⟨v3, w3, e3, hf⟩ := bI_e hf
    refine bX_apart_17 (y1 := 53) (y2 := 1) (ct := c_Co_fewestApart (d := d) w 1 x1 ct1 e3) (k := ?_)
    obtain ⟨rfl, rfl⟩ := ret_e hf
    exact bX_apart_29 
  · replace hf := ite_t q2 hf
    refine bX_apart_11 (ct := c_X_refuseFar (d := d + 4) w (-1 : Int32)) (k := ?_)
    obtain ⟨rfl, rfl⟩ := ret_e hf
    exact bX_apart_16 
-- X_lose
def f_X_lose (w : MW) : Option RT := bI (f_Co_worstLoss w 1) (fun v1 w1 => some (some (.int v1), w1))
set_option maxHeartbeats 4000000 in
theorem c_X_lose {d : Nat} {r : Option Value} {w' : MW} (w : MW) (hf : f_X_lose w = some (r, w')) : Ct (d + 6) mX_lose [.ref 0] w r w' := by
  refine eX_lose ?_
  unfold f_X_lose at hf
  obtain ⟨v1, w1, e1, hf⟩ := bI_e hf
  refine bX_lose_0 (y1 := 53) (y2 := 1) (ct := c_Co_worstLoss (d := d) w 1 ct1 e1) (k := ?_)
  obtain ⟨rfl, rfl⟩ := ret_e hf
  exact bX_lose_11 
-- X_count
def f_X_count (w : MW) (x1 : Int32) (x2 : Int32) : Option RT := if (v_X_rowRefusal w x1) = 0 then (if x2 = 0 then (grd (vpb x1 8 = true) (bI (f_Cl_slips w 1 (35 + 2 * x1.toNatClampNeg)) (fun v9 w9 => some (some (.int v9), w9)))) else (if x2 = 1 then (grd (vpb x1 8 = true) (bI (f_Cl_firstSlip w 1 (35 + 2 * x1.toNatClampNeg)) (fun v7 w7 => some (some (.int v7), w7)))) else (some (some (.int (v_X_refuseFar w (-5 : Int32))), u_X_refuseFar w (-5 : Int32))))) else (some (some (.int (v_X_refuseFar w (v_X_rowRefusal w x1))), u_X_refuseFar w (v_X_rowRefusal w x1)))
set_option maxHeartbeats 4000000 in
theorem c_X_count {d : Nat} {r : Option Value} {w' : MW} (w : MW) (x1 : Int32) (x2 : Int32) (hf : f_X_count w x1 x2 = some (r, w')) : Ct (d + 4) mX_count [.ref 0, .int x1, .int x2] w r w' := by
  refine eX_count ?_
  unfold f_X_count at hf
  refine bX_count_0 (ct := c_X_rowRefusal (d := d + 2) w x1) (k := ?_)
  refine bX_count_5 (kt := fun q2 => ?_) (kf := fun q2 => ?_)
  · replace hf := ite_t q2 hf
    refine bX_count_16 (kt := fun q3 => ?_) (kf := fun q3 => ?_)
    · replace hf := ite_f q3 hf
      refine bX_count_38 (kt := fun q4 => ?_) (kf := fun q4 => ?_)
      · replace hf := ite_f q4 hf
        refine bX_count_61 (ct := c_X_refuseFar (d := d + 2) w (-5 : Int32)) (k := ?_)
        obtain ⟨rfl, rfl⟩ := ret_e hf
        exact bX_count_67 
      · replace hf := ite_t q4 hf
        obtain ⟨g7_0, hf⟩ := grd_e hf
        obtain ⟨v7, w7, e7, hf⟩ := bI_e hf
        refine bX_count_43 (y1 := 57) (y2 := 1) (y3 := 34) (y4 := 35 + 2 * x1.toNatClampNeg) (h5 := (vpb_ok g7_0)) (h6 := shr_sh (vpb_ok g7_0)) (ct := c_Cl_firstSlip (d := d) w 1 (35 + 2 * x1.toNatClampNeg) ct1 (sh_of (vpb_ok g7_0)) e7) (k := ?_)
        obtain ⟨rfl, rfl⟩ := ret_e hf
        exact bX_count_60 
    · replace hf := ite_t q3 hf
      obtain ⟨g9_0, hf⟩ := grd_e hf
      obtain ⟨v9, w9, e9, hf⟩ := bI_e hf
      refine bX_count_20 (y1 := 57) (y2 := 1) (y3 := 34) (y4 := 35 + 2 * x1.toNatClampNeg) (h5 := (vpb_ok g9_0)) (h6 := shr_sh (vpb_ok g9_0)) (ct := c_Cl_slips (d := d) w 1 (35 + 2 * x1.toNatClampNeg) ct1 (sh_of (vpb_ok g9_0)) e9) (k := ?_)
      obtain ⟨rfl, rfl⟩ := ret_e hf
      exact bX_count_37 
  · replace hf := ite_f q2 hf
    refine bX_count_10 (ct := c_X_refuseFar (d := d + 2) w (v_X_rowRefusal w x1)) (k := ?_)
    obtain ⟨rfl, rfl⟩ := ret_e hf
    exact bX_count_15 
-- X_could
def f_X_could (w : MW) (x1 : Int32) : Option RT := if (v_X_rowRefusal w x1) = 0 then (grd (vpb x1 8 = true) (bI (f_Cl_whoHearJust w 1 (35 + 2 * x1.toNatClampNeg)) (fun v3 w3 => some (some (.int v3), w3)))) else (some (some (.int (v_X_refuse w (v_X_rowRefusal w x1))), u_X_refuse w (v_X_rowRefusal w x1)))
set_option maxHeartbeats 4000000 in
theorem c_X_could {d : Nat} {r : Option Value} {w' : MW} (w : MW) (x1 : Int32) (hf : f_X_could w x1 = some (r, w')) : Ct (d + 5) mX_could [.ref 0, .int x1] w r w' := by
  refine eX_could ?_
  unfold f_X_could at hf
  refine bX_could_0 (ct := c_X_rowRefusal (d := d + 3) w x1) (k := ?_)
  refine bX_could_5 (kt := fun q2 => ?_) (kf := fun q2 => ?_)
  · replace hf := ite_t q2 hf
    obtain ⟨g3_0, hf⟩ := grd_e hf
    obtain ⟨v3, w3, e3, hf⟩ := bI_e hf
    refine bX_could_16 (y1 := 57) (y2 := 1) (y3 := 34) (y4 := 35 + 2 * x1.toNatClampNeg) (h5 := (vpb_ok g3_0)) (h6 := shr_sh (vpb_ok g3_0)) (ct := c_Cl_whoHearJust (d := d) w 1 (35 + 2 * x1.toNatClampNeg) ct1 (sh_of (vpb_ok g3_0)) e3) (k := ?_)
    obtain ⟨rfl, rfl⟩ := ret_e hf
    exact bX_could_33 
  · replace hf := ite_f q2 hf
    refine bX_could_10 (ct := c_X_refuse (d := d + 4) w (v_X_rowRefusal w x1)) (k := ?_)
    obtain ⟨rfl, rfl⟩ := ret_e hf
    exact bX_could_15 
-- X_swap
def f_X_swap (w : MW) : Option RT := bI (f_Cl_bestSwap w 1) (fun v1 w1 => some (some (.int v1), w1))
set_option maxHeartbeats 4000000 in
theorem c_X_swap {d : Nat} {r : Option Value} {w' : MW} (w : MW) (hf : f_X_swap w = some (r, w')) : Ct (d + 6) mX_swap [.ref 0] w r w' := by
  refine eX_swap ?_
  unfold f_X_swap at hf
  obtain ⟨v1, w1, e1, hf⟩ := bI_e hf
  refine bX_swap_0 (y1 := 57) (y2 := 1) (ct := c_Cl_bestSwap (d := d) w 1 ct1 e1) (k := ?_)
  obtain ⟨rfl, rfl⟩ := ret_e hf
  exact bX_swap_11 
-- X_audience
def f_X_audience (w : MW) (x1 : Int32) : Option RT := if (v_X_isRounds w x1) = 0 then (some (some (.int (v_X_refuse w (-6 : Int32))), u_X_refuse w (-6 : Int32))) else (bI (f_X_hold w x1) (fun v3 w3 => some (some (.int v3), w3)))
set_option maxHeartbeats 4000000 in
theorem c_X_audience {d : Nat} {r : Option Value} {w' : MW} (w : MW) (x1 : Int32) (hf : f_X_audience w x1 = some (r, w')) : Ct (d + 6) mX_audience [.ref 0, .int x1] w r w' := by
  refine eX_audience ?_
  unfold f_X_audience at hf
  refine bX_audience_0 (ct := c_X_isRounds (d := d + 5) w x1) (k := ?_)
  refine bX_audience_4 (kt := fun q2 => ?_) (kf := fun q2 => ?_)
  · replace hf := ite_f q2 hf
    obtain ⟨v3, w3, e3, hf⟩ := bI_e hf
    refine bX_audience_14 (ct := c_X_hold (d := d) w x1 e3) (k := ?_)
    obtain ⟨rfl, rfl⟩ := ret_e hf
    exact bX_audience_19 
  · replace hf := ite_t q2 hf
    refine bX_audience_7 (ct := c_X_refuse (d := d + 5) w (-6 : Int32)) (k := ?_)
    obtain ⟨rfl, rfl⟩ := ret_e hf
    exact bX_audience_13 
-- X_act
def f_X_act (w : MW) (x1 : Int32) (x2 : Int32) (x3 : Int32) : Option RT := if (v_Ct_isMan (u_Mv_forget w ) 1 x1) = 0 then (some (some (.int (0 : Int32)), u_Mv_forget w )) else (if x2 < 0 then (some (some (.int (0 : Int32)), u_Mv_forget w )) else (if x2 < 3 then (grd (vpb x1 8 = true) (bI (f_Mv_play (u_Mv_forget w ) (1 + 2 + x1.toNatClampNeg) x1 x2 x3) (fun v8 w8 => some (some (.int v8), w8)))) else (some (some (.int (0 : Int32)), u_Mv_forget w ))))
set_option maxHeartbeats 4000000 in
theorem c_X_act {d : Nat} {r : Option Value} {w' : MW} (w : MW) (x1 : Int32) (x2 : Int32) (x3 : Int32) (hf : f_X_act w x1 x2 x3 = some (r, w')) : Ct (d + 64) mX_act [.ref 0, .int x1, .int x2, .int x3] w r w' := by
  refine eX_act ?_
  unfold f_X_act at hf
  refine bX_act_0 (y1 := 60) (ct := c_Mv_forget (d := d + 63) w ) (k := ?_)
  refine bX_act_7 (y1 := 1) (ct := c_Ct_isMan (d := d + 63) (u_Mv_forget w ) 1 x1 ct1) (k := ?_)
  refine bX_act_15 (kt := fun q3 => ?_) (kf := fun q3 => ?_)
  · replace hf := ite_t q3 hf
    obtain ⟨rfl, rfl⟩ := ret_e hf
    exact bX_act_27 
  · replace hf := ite_f q3 hf
    refine bX_act_18 (kt := fun q5 => ?_) (kf := fun q5 => ?_)
    · replace hf := ite_t q5 hf
      obtain ⟨rfl, rfl⟩ := ret_e hf
      exact bX_act_27 
    · replace hf := ite_f q5 hf
      refine bX_act_22 (kt := fun q7 => ?_) (kf := fun q7 => ?_)
      · replace hf := ite_t q7 hf
        obtain ⟨g8_0, hf⟩ := grd_e hf
        obtain ⟨v8, w8, e8, hf⟩ := bI_e hf
        refine bX_act_29 (y1 := 60) (y2 := 1) (y3 := 2) (y4 := 1 + 2 + x1.toNatClampNeg) (h4 := ct_k12 ct1) (h5 := ct_l8 ct1 (vpb_ok g8_0)) (h6 := ct_mn ct1 (vpb_ok g8_0)) (ct := c_Mv_play (d := d) (u_Mv_forget w ) (1 + 2 + x1.toNatClampNeg) x1 x2 x3 (mn_of ct1 (vpb_ok g8_0)) e8) (k := ?_)
        obtain ⟨rfl, rfl⟩ := ret_e hf
        exact bX_act_48 
      · replace hf := ite_f q7 hf
        obtain ⟨rfl, rfl⟩ := ret_e hf
        exact bX_act_27 
-- M_court
def f_M_court_39 : Nat → MW → Int32 → Int32 → Int32 → Option RT
  | 0, _, _, _, _ => none
  | n + 1, w, x1, x3, x4 => if x4 = 0 then (bV (f_M_again (setI w 62 13 (w.1 62 24)) 76) (fun w2 => some (some (.int (v_M_no w2 (-6 : Int32))), u_M_no w2 (-6 : Int32)))) else (bI (f_M_item w ) (fun v5 w5 => if v5 = 0 then (if v5 = 0 then (if v5 = 0 then (f_M_court_39 n w5 x1 x3 v5) else (grd (vpb (w5.1 62 23) 8 = true) (grd (¬ (w5.1 64 (w5.1 62 23).toNatClampNeg) ≤ (w5.1 62 24) → vpb ((160 * (w5.1 62 23)) + (w5.1 62 24)) 1280 = true) (f_M_court_39 n (u_M_is w5 (59 : Int32)) x1 x3 (v_M_is w5 (59 : Int32)))))) else (grd (vpb x1 8 = true) (if (w5.1 62 24) = (w5.1 64 x1.toNatClampNeg) then (some (some (.int x3), setI w5 62 13 (-1))) else (if v5 = 0 then (f_M_court_39 n w5 x1 x3 v5) else (grd (vpb (w5.1 62 23) 8 = true) (grd (¬ (w5.1 64 (w5.1 62 23).toNatClampNeg) ≤ (w5.1 62 24) → vpb ((160 * (w5.1 62 23)) + (w5.1 62 24)) 1280 = true) (f_M_court_39 n (u_M_is w5 (59 : Int32)) x1 x3 (v_M_is w5 (59 : Int32))))))))) else (if v5 = 0 then (if v5 = 0 then (f_M_court_39 n w5 x1 (x3 + 1) v5) else (grd (vpb (w5.1 62 23) 8 = true) (grd (¬ (w5.1 64 (w5.1 62 23).toNatClampNeg) ≤ (w5.1 62 24) → vpb ((160 * (w5.1 62 23)) + (w5.1 62 24)) 1280 = true) (f_M_court_39 n (u_M_is w5 (59 : Int32)) x1 (x3 + 1) (v_M_is w5 (59 : Int32)))))) else (grd (vpb x1 8 = true) (if (w5.1 62 24) = (w5.1 64 x1.toNatClampNeg) then (some (some (.int (x3 + 1)), setI w5 62 13 (-1))) else (if v5 = 0 then (f_M_court_39 n w5 x1 (x3 + 1) v5) else (grd (vpb (w5.1 62 23) 8 = true) (grd (¬ (w5.1 64 (w5.1 62 23).toNatClampNeg) ≤ (w5.1 62 24) → vpb ((160 * (w5.1 62 23)) + (w5.1 62 24)) 1280 = true) (f_M_court_39 n (u_M_is w5 (59 : Int32)) x1 (x3 + 1) (v_M_is w5 (59 : Int32)))))))))))
set_option maxHeartbeats 4000000 in
theorem r_M_court_39 {d : Nat} {r : Option Value} {w' : MW} : ∀ (n : Nat) (w : MW) (x1 : Int32) (x3 : Int32) (x4 : Int32), f_M_court_39 n w x1 x3 x4 = some (r, w') → Rn (d + 7) mM_court 39 [some (.ref 62), some (.int x1), none, some (.int x3), some (.int x4)] [] w r w' := by
  intro n
  induction n with
  | zero =>
    intro w x1 x3 x4 hf
    cases hf
  | succ n ih =>
    intro w x1 x3 x4 hf
    rw [f_M_court_39] at hf
    refine bM_court_39 (kt := fun q1 => ?_) (kf := fun q1 => ?_)
    · replace hf := ite_t q1 hf
      obtain ⟨w2, e2, hf⟩ := bV_e hf
      refine bM_court_99 (y1 := 76) (ct := c_M_again (d := d + 6) (setI w 62 13 (w.1 62 24)) 76 ⟨rfl, rfl⟩ e2) (k := ?_)
      refine bM_court_115 (ct := c_M_no (d := d + 6) w2 (-6 : Int32) (vpd (i := (-(-6 : Int32))) (n := 8) (by decide))) (k := ?_)
      obtain ⟨rfl, rfl⟩ := ret_e hf
      exact bM_court_121 
    · replace hf := ite_f q1 hf
      obtain ⟨v5, w5, e5, hf⟩ := bI_e hf
      refine bM_court_44 (ct := c_M_item (d := d) w e5) (k := ?_)
      refine bM_court_48 (kt := fun q6 => ?_) (kf := fun q6 => ?_)
      · replace hf := ite_t q6 hf
        refine bM_court_58 (kt := fun q7 => ?_) (kf := fun q7 => ?_)
        · replace hf := ite_t q7 hf
          refine bM_court_83 (kt := fun q8 => ?_) (kf := fun q8 => ?_)
          · replace hf := ite_t q8 hf
            exact ih w5 x1 x3 v5 hf
          · replace hf := ite_f q8 hf
            obtain ⟨g9_0, hf⟩ := grd_e hf
            obtain ⟨g9_1, hf⟩ := grd_e hf
            refine bM_court_88 (ct := c_M_is (d := d + 5) w5 (59 : Int32) (vpb_ok g9_0) (fun z0 => vpb_ok (g9_1 z0))) (k := ?_)
            refine bM_court_94 (k := ?_)
            exact ih (u_M_is w5 (59 : Int32)) x1 x3 (v_M_is w5 (59 : Int32)) hf
        · replace hf := ite_f q7 hf
          obtain ⟨g11_0, hf⟩ := grd_e hf
          refine bM_court_63 (y1 := 64) (h4 := (vpb_ok g11_0)) (kt := fun q11 => ?_) (kf := fun q11 => ?_)
          · replace hf := ite_f q11 hf
            refine bM_court_83 (kt := fun q12 => ?_) (kf := fun q12 => ?_)
            · replace hf := ite_t q12 hf
              exact ih w5 x1 x3 v5 hf
            · replace hf := ite_f q12 hf
              obtain ⟨g13_0, hf⟩ := grd_e hf
              obtain ⟨g13_1, hf⟩ := grd_e hf
              refine bM_court_88 (ct := c_M_is (d := d + 5) w5 (59 : Int32) (vpb_ok g13_0) (fun z0 => vpb_ok (g13_1 z0))) (k := ?_)
              refine bM_court_94 (k := ?_)
              exact ih (u_M_is w5 (59 : Int32)) x1 x3 (v_M_is w5 (59 : Int32)) hf
          · replace hf := ite_t q11 hf
            obtain ⟨rfl, rfl⟩ := ret_e hf
            exact bM_court_76 
      · replace hf := ite_f q6 hf
        refine bM_court_55 (k := ?_)
        refine bM_court_58 (kt := fun q17 => ?_) (kf := fun q17 => ?_)
        · replace hf := ite_t q17 hf
          refine bM_court_83 (kt := fun q18 => ?_) (kf := fun q18 => ?_)
          · replace hf := ite_t q18 hf
            exact ih w5 x1 (x3 + 1) v5 hf
          · replace hf := ite_f q18 hf
            obtain ⟨g19_0, hf⟩ := grd_e hf
            obtain ⟨g19_1, hf⟩ := grd_e hf
            refine bM_court_88 (ct := c_M_is (d := d + 5) w5 (59 : Int32) (vpb_ok g19_0) (fun z0 => vpb_ok (g19_1 z0))) (k := ?_)
            refine bM_court_94 (k := ?_)
            exact ih (u_M_is w5 (59 : Int32)) x1 (x3 + 1) (v_M_is w5 (59 : Int32)) hf
        · replace hf := ite_f q17 hf
          obtain ⟨g21_0, hf⟩ := grd_e hf
          refine bM_court_63 (y1 := 64) (h4 := (vpb_ok g21_0)) (kt := fun q21 => ?_) (kf := fun q21 => ?_)
          · replace hf := ite_f q21 hf
            refine bM_court_83 (kt := fun q22 => ?_) (kf := fun q22 => ?_)
            · replace hf := ite_t q22 hf
              exact ih w5 x1 (x3 + 1) v5 hf
            · replace hf := ite_f q22 hf
              obtain ⟨g23_0, hf⟩ := grd_e hf
              obtain ⟨g23_1, hf⟩ := grd_e hf
              refine bM_court_88 (ct := c_M_is (d := d + 5) w5 (59 : Int32) (vpb_ok g23_0) (fun z0 => vpb_ok (g23_1 z0))) (k := ?_)
              refine bM_court_94 (k := ?_)
              exact ih (u_M_is w5 (59 : Int32)) x1 (x3 + 1) (v_M_is w5 (59 : Int32)) hf
          · replace hf := ite_t q21 hf
            obtain ⟨rfl, rfl⟩ := ret_e hf
            exact bM_court_76 
def f_M_court (w : MW) (x1 : Int32) : Option RT := if 0 ≤ (v_M_noRow w x1) then (bV (f_M_keep w 76) (fun w3 => f_M_court_39 FU (setI (setI w3 62 23 x1) 62 24 0) x1 (0 : Int32) (1 : Int32))) else (some (some (.int (v_M_no w (v_M_noRow w x1))), u_M_no w (v_M_noRow w x1)))
set_option maxHeartbeats 4000000 in
theorem c_M_court {d : Nat} {r : Option Value} {w' : MW} (w : MW) (x1 : Int32) (hf : f_M_court w x1 = some (r, w')) : Ct (d + 7) mM_court [.ref 62, .int x1] w r w' := by
  refine eM_court ?_
  unfold f_M_court at hf
  refine bM_court_0 (ct := c_M_noRow (d := d + 5) w x1) (k := ?_)
  refine bM_court_5 (kt := fun q2 => ?_) (kf := fun q2 => ?_)
  · replace hf := ite_t q2 hf
    obtain ⟨w3, e3, hf⟩ := bV_e hf
    refine bM_court_16 (y1 := 76) (ct := c_M_keep (d := d + 6) w 76 ⟨rfl, rfl⟩ e3) (k := ?_)
    refine bM_court_24 (k := ?_)
    exact r_M_court_39 FU (setI (setI w3 62 23 x1) 62 24 0) x1 (0 : Int32) (1 : Int32) hf
  · replace hf := ite_f q2 hf
    refine bM_court_10 (ct := c_M_no (d := d + 6) w (v_M_noRow w x1) (no8_M_noRow _ _)) (k := ?_)
    obtain ⟨rfl, rfl⟩ := ret_e hf
    exact bM_court_15 
-- X_says
def f_X_says (w : MW) (x1 : Int32) (x2 : Int32) : Option RT := if (v_X_isShelf w x1) = 0 then (some (some (.int (v_X_refuse w (-1 : Int32))), u_X_refuse w (-1 : Int32))) else (if (v_X_isKind w x2) = 0 then (some (some (.int (v_X_refuse w (-1 : Int32))), u_X_refuse w (-1 : Int32))) else (grd (vpb x1 8 = true) (if (v_Sh_isRow w (35 + 2 * x1.toNatClampNeg)) = 0 then (if (v_Sh_isMan w (35 + 2 * x1.toNatClampNeg)) = 0 then (some (some (.int (v_X_refuse w (-3 : Int32))), u_X_refuse w (-3 : Int32))) else (if (v_Ct_isMan w 1 (w.1 (35 + 2 * x1.toNatClampNeg) 0)) = 0 then (some (some (.int (v_X_refuse w (-3 : Int32))), u_X_refuse w (-3 : Int32))) else (grd (vpb (w.1 (35 + 2 * x1.toNatClampNeg) 0) 8 = true) (bI (f_X_isUnder w (w.1 (1 + 2 + (w.1 (35 + 2 * x1.toNatClampNeg) 0).toNatClampNeg) 0) x2) (fun v15 w15 => if v15 = 0 then (some (some (.int (v_X_refuse w15 (-2 : Int32))), u_X_refuse w15 (-2 : Int32))) else (bI (f_Mn_saysAs w15 (1 + 2 + (w.1 (35 + 2 * x1.toNatClampNeg) 0).toNatClampNeg) x2 (w15.1 1 3)) (fun v17 w17 => some (some (.int v17), w17)))))))) else (some (some (.int (v_X_refuse w (-2 : Int32))), u_X_refuse w (-2 : Int32))))))
set_option maxHeartbeats 4000000 in
theorem c_X_says {d : Nat} {r : Option Value} {w' : MW} (w : MW) (x1 : Int32) (x2 : Int32) (hf : f_X_says w x1 x2 = some (r, w')) : Ct (d + 4) mX_says [.ref 0, .int x1, .int x2] w r w' := by
  refine eX_says ?_
  unfold f_X_says at hf
  refine bX_says_0 (ct := c_X_isShelf (d := d + 3) w x1) (k := ?_)
  refine bX_says_4 (kt := fun q2 => ?_) (kf := fun q2 => ?_)
  · replace hf := ite_t q2 hf
    refine bX_says_14 (ct := c_X_refuse (d := d + 3) w (-1 : Int32)) (k := ?_)
    obtain ⟨rfl, rfl⟩ := ret_e hf
    exact bX_says_19 
  · replace hf := ite_f q2 hf
    refine bX_says_7 (ct := c_X_isKind (d := d + 3) w x2) (k := ?_)
    refine bX_says_11 (kt := fun q6 => ?_) (kf := fun q6 => ?_)
    · replace hf := ite_f q6 hf
      obtain ⟨g7_0, hf⟩ := grd_e hf
      refine bX_says_20 (y1 := 34) (y2 := 35 + 2 * x1.toNatClampNeg) (h3 := (vpb_ok g7_0)) (h4 := shr_sh (vpb_ok g7_0)) (h5 := sh_k (sh_of (vpb_ok g7_0))) (ct := c_Sh_isRow (d := d + 3) w (35 + 2 * x1.toNatClampNeg) (sh_of (vpb_ok g7_0))) (k := ?_)
      refine bX_says_31 (kt := fun q8 => ?_) (kf := fun q8 => ?_)
      · replace hf := ite_t q8 hf
        refine bX_says_41 (h1 := sh_k (sh_of (vpb_ok g7_0))) (ct := c_Sh_isMan (d := d + 3) w (35 + 2 * x1.toNatClampNeg) (sh_of (vpb_ok g7_0))) (k := ?_)
        refine bX_says_45 (kt := fun q10 => ?_) (kf := fun q10 => ?_)
        · replace hf := ite_t q10 hf
          refine bX_says_62 (ct := c_X_refuse (d := d + 3) w (-3 : Int32)) (k := ?_)
          obtain ⟨rfl, rfl⟩ := ret_e hf
          exact bX_says_68 
        · replace hf := ite_f q10 hf
          refine bX_says_48 (y1 := 1) (h2 := sh_g0 (sh_of (vpb_ok g7_0))) (ct := c_Ct_isMan (d := d + 3) w 1 (w.1 (35 + 2 * x1.toNatClampNeg) 0) ct1) (k := ?_)
          refine bX_says_59 (kt := fun q14 => ?_) (kf := fun q14 => ?_)
          · replace hf := ite_f q14 hf
            obtain ⟨g15_0, hf⟩ := grd_e hf
            obtain ⟨v15, w15, e15, hf⟩ := bI_e hf
            refine bX_says_69 (y1 := 1) (y2 := 2) (h3 := sh_g0 (sh_of (vpb_ok g7_0))) (y3 := 1 + 2 + (w.1 (35 + 2 * x1.toNatClampNeg) 0).toNatClampNeg) (h4 := ct_k12 ct1) (h5 := ct_l8 ct1 (vpb_ok g15_0)) (h6 := ct_mn ct1 (vpb_ok g15_0)) (h7 := mn_g (mn_of ct1 (vpb_ok g15_0)) 0 (by decide)) (ct := c_X_isUnder (d := d + 2) w (w.1 (1 + 2 + (w.1 (35 + 2 * x1.toNatClampNeg) 0).toNatClampNeg) 0) x2 e15) (k := ?_)
            refine bX_says_92 (kt := fun q16 => ?_) (kf := fun q16 => ?_)
            · replace hf := ite_f q16 hf
              obtain ⟨v17, w17, e17, hf⟩ := bI_e hf
              refine bX_says_102 (y1 := 1) (h3 := mn_k (mn_of ct1 (vpb_ok g15_0))) (ct := c_Mn_saysAs (d := d) w15 (1 + 2 + (w.1 (35 + 2 * x1.toNatClampNeg) 0).toNatClampNeg) x2 (w15.1 1 3) (mn_of ct1 (vpb_ok g15_0)) e17) (k := ?_)
              obtain ⟨rfl, rfl⟩ := ret_e hf
              exact bX_says_115 
            · replace hf := ite_t q16 hf
              refine bX_says_95 (ct := c_X_refuse (d := d + 3) w15 (-2 : Int32)) (k := ?_)
              obtain ⟨rfl, rfl⟩ := ret_e hf
              exact bX_says_101 
          · replace hf := ite_t q14 hf
            refine bX_says_62 (ct := c_X_refuse (d := d + 3) w (-3 : Int32)) (k := ?_)
            obtain ⟨rfl, rfl⟩ := ret_e hf
            exact bX_says_68 
      · replace hf := ite_f q8 hf
        refine bX_says_34 (ct := c_X_refuse (d := d + 3) w (-2 : Int32)) (k := ?_)
        obtain ⟨rfl, rfl⟩ := ret_e hf
        exact bX_says_40 
    · replace hf := ite_t q6 hf
      refine bX_says_14 (ct := c_X_refuse (d := d + 3) w (-1 : Int32)) (k := ?_)
      obtain ⟨rfl, rfl⟩ := ret_e hf
      exact bX_says_19 
-- X_court
def f_X_court (w : MW) (x1 : Int32) : Option RT := if (v_X_rowRefusal w x1) = 0 then (grd (vpb x1 8 = true) (bI (f_Rd_readOver w 1 (35 + 2 * x1.toNatClampNeg)) (fun v3 w3 => if ((setI w3 0 9 (w3.1 52 3)).1 0 9) = (-1) then (some (some (.int v3), setI w3 0 9 (w3.1 52 3))) else (some (some (.int (v_X_refuse (setI w3 0 9 (w3.1 52 3)) (-6 : Int32))), u_X_refuse (setI w3 0 9 (w3.1 52 3)) (-6 : Int32)))))) else (some (some (.int (v_X_refuse w (v_X_rowRefusal w x1))), u_X_refuse w (v_X_rowRefusal w x1)))
set_option maxHeartbeats 4000000 in
theorem c_X_court {d : Nat} {r : Option Value} {w' : MW} (w : MW) (x1 : Int32) (hf : f_X_court w x1 = some (r, w')) : Ct (d + 7) mX_court [.ref 0, .int x1] w r w' := by
  refine eX_court ?_
  unfold f_X_court at hf
  refine bX_court_0 (ct := c_X_rowRefusal (d := d + 5) w x1) (k := ?_)
  refine bX_court_5 (kt := fun q2 => ?_) (kf := fun q2 => ?_)
  · replace hf := ite_t q2 hf
    obtain ⟨g3_0, hf⟩ := grd_e hf
    obtain ⟨v3, w3, e3, hf⟩ := bI_e hf
    refine bX_court_16 (y1 := 52) (y2 := 1) (y3 := 34) (y4 := 35 + 2 * x1.toNatClampNeg) (h5 := (vpb_ok g3_0)) (h6 := shr_sh (vpb_ok g3_0)) (ct := c_Rd_readOver (d := d) w 1 (35 + 2 * x1.toNatClampNeg) ct1 (sh_of (vpb_ok g3_0)) e3) (k := ?_)
    refine bX_court_33 (y1 := 52) (kt := fun q4 => ?_) (kf := fun q4 => ?_)
    · replace hf := ite_f q4 hf
      refine bX_court_57 (ct := c_X_refuse (d := d + 6) (setI w3 0 9 (w3.1 52 3)) (-6 : Int32)) (k := ?_)
      obtain ⟨rfl, rfl⟩ := ret_e hf
      exact bX_court_63 
    · replace hf := ite_t q4 hf
      refine bX_court_53 (k := ?_)
      obtain ⟨rfl, rfl⟩ := ret_e hf
      exact bX_court_63 
  · replace hf := ite_f q2 hf
    refine bX_court_10 (ct := c_X_refuse (d := d + 6) w (v_X_rowRefusal w x1)) (k := ?_)
    obtain ⟨rfl, rfl⟩ := ret_e hf
    exact bX_court_15 
-- X_sense
def f_X_sense (w : MW) (x1 : Int32) (x2 : Int32) : Option RT := if (v_Ct_isMan w 1 x1) = 0 then (some (some (.int (v_X_refuseFar w (-1 : Int32))), u_X_refuseFar w (-1 : Int32))) else (if (v_X_isRounds w x2) = 0 then (some (some (.int (v_X_refuseFar w (-6 : Int32))), u_X_refuseFar w (-6 : Int32))) else (bI (f_X_knownBehind w x1 x2) (fun v5 w5 => bI (f_Ct_senseOf w5 1 v5) (fun v6 w6 => some (some (.int v6), w6)))))
set_option maxHeartbeats 4000000 in
theorem c_X_sense {d : Nat} {r : Option Value} {w' : MW} (w : MW) (x1 : Int32) (x2 : Int32) (hf : f_X_sense w x1 x2 = some (r, w')) : Ct (d + 6) mX_sense [.ref 0, .int x1, .int x2] w r w' := by
  refine eX_sense ?_
  unfold f_X_sense at hf
  refine bX_sense_0 (y1 := 1) (ct := c_Ct_isMan (d := d + 5) w 1 x1 ct1) (k := ?_)
  refine bX_sense_8 (kt := fun q2 => ?_) (kf := fun q2 => ?_)
  · replace hf := ite_f q2 hf
    refine bX_sense_17 (ct := c_X_isRounds (d := d + 5) w x2) (k := ?_)
    refine bX_sense_21 (kt := fun q4 => ?_) (kf := fun q4 => ?_)
    · replace hf := ite_f q4 hf
      obtain ⟨v5, w5, e5, hf⟩ := bI_e hf
      refine bX_sense_31 (y1 := 1) (ct := c_X_knownBehind (d := d) w x1 x2 e5) (k := ?_)
      obtain ⟨v6, w6, e6, hf⟩ := bI_e hf
      refine bX_sense_41 (ct := c_Ct_senseOf (d := d + 4) w5 1 v5 ct1 e6) (k := ?_)
      obtain ⟨rfl, rfl⟩ := ret_e hf
      exact bX_sense_44 
    · replace hf := ite_t q4 hf
      refine bX_sense_24 (ct := c_X_refuseFar (d := d + 4) w (-6 : Int32)) (k := ?_)
      obtain ⟨rfl, rfl⟩ := ret_e hf
      exact bX_sense_30 
  · replace hf := ite_t q2 hf
    refine bX_sense_11 (ct := c_X_refuseFar (d := d + 4) w (-1 : Int32)) (k := ?_)
    obtain ⟨rfl, rfl⟩ := ret_e hf
    exact bX_sense_16 
-- X_together
def f_X_together (w : MW) (x1 : Int32) (x2 : Int32) : Option RT := if x2 < 0 then (some (some (.int (v_X_refuseFar w (-5 : Int32))), u_X_refuseFar w (-5 : Int32))) else (if x2 ≤ 2 then (if (v_Ct_isSet w 1 x1) = 0 then (some (some (.int (v_X_refuseFar w (-6 : Int32))), u_X_refuseFar w (-6 : Int32))) else (bI (f_Cl_placesHeardBy w 1 x1) (fun v7 w7 => if x2 = 0 then (bI (f_Ct_senseOf w7 1 v7) (fun v18 w18 => some (some (.int v18), w18))) else (if x2 = 1 then (bI (f_JI_bitCount w7 v7) (fun v16 w16 => some (some (.int ((w7.1 1 3) - v16)), w16))) else (bI (f_Cl_isSure w7 1 v7) (fun v10 w10 => if v10 = 0 then (some (some (.int (0 : Int32)), w10)) else (some (some (.int (1 : Int32)), w10)))))))) else (some (some (.int (v_X_refuseFar w (-5 : Int32))), u_X_refuseFar w (-5 : Int32))))
set_option maxHeartbeats 4000000 in
theorem c_X_together {d : Nat} {r : Option Value} {w' : MW} (w : MW) (x1 : Int32) (x2 : Int32) (hf : f_X_together w x1 x2 = some (r, w')) : Ct (d + 6) mX_together [.ref 0, .int x1, .int x2] w r w' := by
  refine eX_together ?_
  unfold f_X_together at hf
  refine bX_together_0 (kt := fun q1 => ?_) (kf := fun q1 => ?_)
  · replace hf := ite_t q1 hf
    refine bX_together_9 (ct := c_X_refuseFar (d := d + 4) w (-5 : Int32)) (k := ?_)
    obtain ⟨rfl, rfl⟩ := ret_e hf
    exact bX_together_15 
  · replace hf := ite_f q1 hf
    refine bX_together_4 (kt := fun q4 => ?_) (kf := fun q4 => ?_)
    · replace hf := ite_t q4 hf
      refine bX_together_16 (y1 := 1) (ct := c_Ct_isSet (d := d + 5) w 1 x1 ct1) (k := ?_)
      refine bX_together_24 (kt := fun q6 => ?_) (kf := fun q6 => ?_)
      · replace hf := ite_f q6 hf
        obtain ⟨v7, w7, e7, hf⟩ := bI_e hf
        refine bX_together_34 (y1 := 57) (y2 := 1) (ct := c_Cl_placesHeardBy (d := d) w 1 x1 ct1 e7) (k := ?_)
        refine bX_together_46 (kt := fun q8 => ?_) (kf := fun q8 => ?_)
        · replace hf := ite_f q8 hf
          refine bX_together_60 (kt := fun q9 => ?_) (kf := fun q9 => ?_)
          · replace hf := ite_f q9 hf
            obtain ⟨v10, w10, e10, hf⟩ := bI_e hf
            refine bX_together_78 (y1 := 57) (y2 := 1) (ct := c_Cl_isSure (d := d + 3) w7 1 v7 ct1 e10) (k := ?_)
            refine bX_together_90 (kt := fun q11 => ?_) (kf := fun q11 => ?_)
            · replace hf := ite_t q11 hf
              refine bX_together_97 (k := ?_)
              obtain ⟨rfl, rfl⟩ := ret_e hf
              exact bX_together_98 
            · replace hf := ite_f q11 hf
              refine bX_together_93 (k := ?_)
              obtain ⟨rfl, rfl⟩ := ret_e hf
              exact bX_together_98 
          · replace hf := ite_t q9 hf
            obtain ⟨v16, w16, e16, hf⟩ := bI_e hf
            refine bX_together_65 (y1 := 1) (ct := c_JI_bitCount (d := d + 5) w7 v7 e16) (k := ?_)
            obtain ⟨rfl, rfl⟩ := ret_e hf
            exact bX_together_76 
        · replace hf := ite_t q8 hf
          obtain ⟨v18, w18, e18, hf⟩ := bI_e hf
          refine bX_together_51 (y1 := 1) (ct := c_Ct_senseOf (d := d + 4) w7 1 v7 ct1 e18) (k := ?_)
          obtain ⟨rfl, rfl⟩ := ret_e hf
          exact bX_together_59 
      · replace hf := ite_t q6 hf
        refine bX_together_27 (ct := c_X_refuseFar (d := d + 4) w (-6 : Int32)) (k := ?_)
        obtain ⟨rfl, rfl⟩ := ret_e hf
        exact bX_together_33 
    · replace hf := ite_f q4 hf
      refine bX_together_9 (ct := c_X_refuseFar (d := d + 4) w (-5 : Int32)) (k := ?_)
      obtain ⟨rfl, rfl⟩ := ret_e hf
      exact bX_together_15 
-- X_ask
def f_X_ask (w : MW) (x1 : Int32) : Option RT := if (v_Ct_isSet w 1 x1) = 0 then (some (some (.int (v_X_refuseFar w (-6 : Int32))), u_X_refuseFar w (-6 : Int32))) else (bI (f_Cl_nextToAsk w 1 x1) (fun v3 w3 => some (some (.int v3), w3)))
set_option maxHeartbeats 4000000 in
theorem c_X_ask {d : Nat} {r : Option Value} {w' : MW} (w : MW) (x1 : Int32) (hf : f_X_ask w x1 = some (r, w')) : Ct (d + 7) mX_ask [.ref 0, .int x1] w r w' := by
  refine eX_ask ?_
  unfold f_X_ask at hf
  refine bX_ask_0 (y1 := 1) (ct := c_Ct_isSet (d := d + 6) w 1 x1 ct1) (k := ?_)
  refine bX_ask_8 (kt := fun q2 => ?_) (kf := fun q2 => ?_)
  · replace hf := ite_f q2 hf
    obtain ⟨v3, w3, e3, hf⟩ := bI_e hf
    refine bX_ask_18 (y1 := 57) (y2 := 1) (ct := c_Cl_nextToAsk (d := d) w 1 x1 ct1 e3) (k := ?_)
    obtain ⟨rfl, rfl⟩ := ret_e hf
    exact bX_ask_30 
  · replace hf := ite_t q2 hf
    refine bX_ask_11 (ct := c_X_refuseFar (d := d + 5) w (-6 : Int32)) (k := ?_)
    obtain ⟨rfl, rfl⟩ := ret_e hf
    exact bX_ask_17 
