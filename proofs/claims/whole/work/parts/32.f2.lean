-- Ct_meetings
def f_Ct_meetings_4 (a0 : Nat) : Nat → MW → Int32 → Int32 → Option RT
  | 0, _, _, _ => none
  | n + 1, w, x1, x2 => if (w.1 a0 1) ≤ x2 then (some (some (.int (x1 / 2)), w)) else (grd (vpb x2 8 = true) (bI (f_JI_bitCount w (w.1 (a0 + 2 + x2.toNatClampNeg) 5)) (fun v3 w3 => f_Ct_meetings_4 a0 n w3 (x1 + v3) (x2 + 1))))
set_option maxHeartbeats 4000000 in
theorem r_Ct_meetings_4 {d : Nat} {r : Option Value} {w' : MW} (a0 : Nat) (c0 : isCt a0) : ∀ (n : Nat) (w : MW) (x1 : Int32) (x2 : Int32), f_Ct_meetings_4 a0 n w x1 x2 = some (r, w') → Rn (d + 1) mCt_meetings 4 [some (.ref a0), some (.int x1), some (.int x2)] [] w r w' := by
  intro n
  induction n with
  | zero =>
    intro w x1 x2 hf
    cases hf
  | succ n ih =>
    intro w x1 x2 hf
    rw [f_Ct_meetings_4] at hf
    refine bCt_meetings_4 (h1 := ct_g1 c0) (kt := fun q1 => ?_) (kf := fun q1 => ?_)
    · replace hf := ite_t q1 hf
      obtain ⟨rfl, rfl⟩ := ret_e hf
      exact bCt_meetings_33 
    · replace hf := ite_f q1 hf
      obtain ⟨g3_0, hf⟩ := grd_e hf
      obtain ⟨v3, w3, e3, hf⟩ := bI_e hf
      refine bCt_meetings_12 (y1 := a0 + 1) (h1 := ct_r0 c0) (y2 := a0 + 2 + x2.toNatClampNeg) (h2 := ct_k12 c0) (h3 := ct_l8 c0 (vpb_ok g3_0)) (h4 := ct_mn c0 (vpb_ok g3_0)) (h5 := mn_g (mn_of c0 (vpb_ok g3_0)) 5 (by decide)) (ct := c_JI_bitCount (d := d) w (w.1 (a0 + 2 + x2.toNatClampNeg) 5) e3) (k := ?_)
      refine bCt_meetings_25 (k := ?_)
      exact ih w3 (x1 + v3) (x2 + 1) hf
def f_Ct_meetings (w : MW) (a0 : Nat) : Option RT := f_Ct_meetings_4 a0 FU w (0 : Int32) (0 : Int32)
set_option maxHeartbeats 4000000 in
theorem c_Ct_meetings {d : Nat} {r : Option Value} {w' : MW} (w : MW) (a0 : Nat) (c0 : isCt a0) (hf : f_Ct_meetings w a0 = some (r, w')) : Ct (d + 1) mCt_meetings [.ref a0] w r w' := by
  refine eCt_meetings ?_
  unfold f_Ct_meetings at hf
  refine bCt_meetings_0 (k := ?_)
  exact r_Ct_meetings_4 a0 c0 FU w (0 : Int32) (0 : Int32) hf
-- Ct_allHits
def f_Ct_allHits_4 (a0 : Nat) : Nat → MW → Int32 → Int32 → Option RT
  | 0, _, _, _ => none
  | n + 1, w, x1, x2 => if (w.1 a0 1) ≤ x2 then (some (some (.int x1), w)) else (grd (vpb x2 8 = true) (f_Ct_allHits_4 a0 n w (x1 + (w.1 (a0 + 2 + x2.toNatClampNeg) 4)) (x2 + 1)))
set_option maxHeartbeats 4000000 in
theorem r_Ct_allHits_4 {d : Nat} {r : Option Value} {w' : MW} (a0 : Nat) (c0 : isCt a0) : ∀ (n : Nat) (w : MW) (x1 : Int32) (x2 : Int32), f_Ct_allHits_4 a0 n w x1 x2 = some (r, w') → Rn d mCt_allHits 4 [some (.ref a0), some (.int x1), some (.int x2)] [] w r w' := by
  intro n
  induction n with
  | zero =>
    intro w x1 x2 hf
    cases hf
  | succ n ih =>
    intro w x1 x2 hf
    rw [f_Ct_allHits_4] at hf
    refine bCt_allHits_4 (h1 := ct_g1 c0) (kt := fun q1 => ?_) (kf := fun q1 => ?_)
    · replace hf := ite_t q1 hf
      obtain ⟨rfl, rfl⟩ := ret_e hf
      exact bCt_allHits_30 
    · replace hf := ite_f q1 hf
      obtain ⟨g3_0, hf⟩ := grd_e hf
      refine bCt_allHits_12 (y1 := a0 + 1) (h1 := ct_r0 c0) (y2 := a0 + 2 + x2.toNatClampNeg) (h2 := ct_k12 c0) (h3 := ct_l8 c0 (vpb_ok g3_0)) (h4 := ct_mn c0 (vpb_ok g3_0)) (h5 := mn_g (mn_of c0 (vpb_ok g3_0)) 4 (by decide)) (k := ?_)
      exact ih w (x1 + (w.1 (a0 + 2 + x2.toNatClampNeg) 4)) (x2 + 1) hf
def f_Ct_allHits (w : MW) (a0 : Nat) : Option RT := f_Ct_allHits_4 a0 FU w (0 : Int32) (0 : Int32)
set_option maxHeartbeats 4000000 in
theorem c_Ct_allHits {d : Nat} {r : Option Value} {w' : MW} (w : MW) (a0 : Nat) (c0 : isCt a0) (hf : f_Ct_allHits w a0 = some (r, w')) : Ct d mCt_allHits [.ref a0] w r w' := by
  refine eCt_allHits ?_
  unfold f_Ct_allHits at hf
  refine bCt_allHits_0 (k := ?_)
  exact r_Ct_allHits_4 a0 c0 FU w (0 : Int32) (0 : Int32) hf
-- Ct_believers
def f_Ct_believers_4 (a0 : Nat) : Nat → MW → Int32 → Int32 → Option RT
  | 0, _, _, _ => none
  | n + 1, w, x1, x2 => if (w.1 a0 1) ≤ x2 then (some (some (.int x1), w)) else (grd (vpb x2 8 = true) (if (w.1 (a0 + 2 + x2.toNatClampNeg) 3) = (-1) then (f_Ct_believers_4 a0 n w x1 (x2 + 1)) else (f_Ct_believers_4 a0 n w (x1 + 1) (x2 + 1))))
set_option maxHeartbeats 4000000 in
theorem r_Ct_believers_4 {d : Nat} {r : Option Value} {w' : MW} (a0 : Nat) (c0 : isCt a0) : ∀ (n : Nat) (w : MW) (x1 : Int32) (x2 : Int32), f_Ct_believers_4 a0 n w x1 x2 = some (r, w') → Rn d mCt_believers 4 [some (.ref a0), some (.int x1), some (.int x2)] [] w r w' := by
  intro n
  induction n with
  | zero =>
    intro w x1 x2 hf
    cases hf
  | succ n ih =>
    intro w x1 x2 hf
    rw [f_Ct_believers_4] at hf
    refine bCt_believers_4 (h1 := ct_g1 c0) (kt := fun q1 => ?_) (kf := fun q1 => ?_)
    · replace hf := ite_t q1 hf
      obtain ⟨rfl, rfl⟩ := ret_e hf
      exact bCt_believers_34 
    · replace hf := ite_f q1 hf
      obtain ⟨g3_0, hf⟩ := grd_e hf
      refine bCt_believers_12 (y1 := a0 + 1) (h1 := ct_r0 c0) (y2 := a0 + 2 + x2.toNatClampNeg) (h2 := ct_k12 c0) (h3 := ct_l8 c0 (vpb_ok g3_0)) (h4 := ct_mn c0 (vpb_ok g3_0)) (h5 := mn_g (mn_of c0 (vpb_ok g3_0)) 3 (by decide)) (kt := fun q3 => ?_) (kf := fun q3 => ?_)
      · replace hf := ite_t q3 hf
        refine bCt_believers_28 (k := ?_)
        exact ih w x1 (x2 + 1) hf
      · replace hf := ite_f q3 hf
        refine bCt_believers_25 (k := ?_)
        refine bCt_believers_28 (k := ?_)
        exact ih w (x1 + 1) (x2 + 1) hf
def f_Ct_believers (w : MW) (a0 : Nat) : Option RT := f_Ct_believers_4 a0 FU w (0 : Int32) (0 : Int32)
set_option maxHeartbeats 4000000 in
theorem c_Ct_believers {d : Nat} {r : Option Value} {w' : MW} (w : MW) (a0 : Nat) (c0 : isCt a0) (hf : f_Ct_believers w a0 = some (r, w')) : Ct d mCt_believers [.ref a0] w r w' := by
  refine eCt_believers ?_
  unfold f_Ct_believers at hf
  refine bCt_believers_0 (k := ?_)
  exact r_Ct_believers_4 a0 c0 FU w (0 : Int32) (0 : Int32) hf
-- M_row
def f_M_row_77 : Nat → MW → Int32 → Int32 → Option RT
  | 0, _, _, _ => none
  | n + 1, w, x1, x4 => if 160 ≤ x4 then (some (some (.int (1 : Int32)), w)) else (grd (vpb ((160 * x1) + x4) 1280 = true) (f_M_row_77 n (setL w 65 ((160 * x1) + x4).toNatClampNeg (Int64.ofNat 0)) x1 (x4 + 1)))
set_option maxHeartbeats 4000000 in
theorem r_M_row_77 {d : Nat} {r : Option Value} {w' : MW} : ∀ (n : Nat) (w : MW) (x1 : Int32) (x4 : Int32), f_M_row_77 n w x1 x4 = some (r, w') → Rn (d + 1) mM_row 77 [some (.ref 62), some (.int x1), none, none, some (.int x4)] [] w r w' := by
  intro n
  induction n with
  | zero =>
    intro w x1 x4 hf
    cases hf
  | succ n ih =>
    intro w x1 x4 hf
    rw [f_M_row_77] at hf
    refine bM_row_77 (kt := fun q1 => ?_) (kf := fun q1 => ?_)
    · replace hf := ite_t q1 hf
      obtain ⟨rfl, rfl⟩ := ret_e hf
      exact bM_row_105 
    · replace hf := ite_f q1 hf
      obtain ⟨g3_0, hf⟩ := grd_e hf
      refine bM_row_85 (y1 := 65) (h3 := (vpb_ok g3_0)) (k := ?_)
      exact ih (setL w 65 ((160 * x1) + x4).toNatClampNeg (Int64.ofNat 0)) x1 (x4 + 1) hf
def f_M_row (w : MW) (x1 : Int32) (x2 : Int32) (x3 : Int32) : Option RT := if (v_M_within w x1 (0 : Int32) (7 : Int32)) = 0 then (some (some (.int (v_M_no w (-1 : Int32))), u_M_no w (-1 : Int32))) else (if 0 ≤ x3 then (if (v_M_within w x2 (0 : Int32) (3 : Int32)) = 0 then (some (some (.int (v_M_no w (-6 : Int32))), u_M_no w (-6 : Int32))) else (if x3 ≤ 160 then (grd (vpb x1 8 = true) (f_M_row_77 FU (setI (setI w 63 x1.toNatClampNeg (100 + x2)) 64 x1.toNatClampNeg x3) x1 (0 : Int32))) else (some (some (.int (v_M_no w (-7 : Int32))), u_M_no w (-7 : Int32))))) else (some (some (.int (v_M_no w (-4 : Int32))), u_M_no w (-4 : Int32))))
set_option maxHeartbeats 4000000 in
theorem c_M_row {d : Nat} {r : Option Value} {w' : MW} (w : MW) (x1 : Int32) (x2 : Int32) (x3 : Int32) (hf : f_M_row w x1 x2 x3 = some (r, w')) : Ct (d + 1) mM_row [.ref 62, .int x1, .int x2, .int x3] w r w' := by
  refine eM_row ?_
  unfold f_M_row at hf
  refine bM_row_0 (ct := c_M_within (d := d) w x1 (0 : Int32) (7 : Int32)) (k := ?_)
  refine bM_row_7 (kt := fun q2 => ?_) (kf := fun q2 => ?_)
  · replace hf := ite_f q2 hf
    refine bM_row_16 (kt := fun q3 => ?_) (kf := fun q3 => ?_)
    · replace hf := ite_t q3 hf
      refine bM_row_27 (ct := c_M_within (d := d) w x2 (0 : Int32) (3 : Int32)) (k := ?_)
      refine bM_row_33 (kt := fun q5 => ?_) (kf := fun q5 => ?_)
      · replace hf := ite_f q5 hf
        refine bM_row_43 (kt := fun q6 => ?_) (kf := fun q6 => ?_)
        · replace hf := ite_t q6 hf
          obtain ⟨g7_0, hf⟩ := grd_e hf
          refine bM_row_57 (y1 := 63) (h3 := (vpb_ok g7_0)) (y2 := 64) (h6 := (vpb_ok g7_0)) (k := ?_)
          exact r_M_row_77 FU (setI (setI w 63 x1.toNatClampNeg (100 + x2)) 64 x1.toNatClampNeg x3) x1 (0 : Int32) hf
        · replace hf := ite_f q6 hf
          refine bM_row_50 (ct := c_M_no (d := d) w (-7 : Int32) (vpd (i := (-(-7 : Int32))) (n := 8) (by decide))) (k := ?_)
          obtain ⟨rfl, rfl⟩ := ret_e hf
          exact bM_row_56 
      · replace hf := ite_t q5 hf
        refine bM_row_36 (ct := c_M_no (d := d) w (-6 : Int32) (vpd (i := (-(-6 : Int32))) (n := 8) (by decide))) (k := ?_)
        obtain ⟨rfl, rfl⟩ := ret_e hf
        exact bM_row_42 
    · replace hf := ite_f q3 hf
      refine bM_row_20 (ct := c_M_no (d := d) w (-4 : Int32) (vpd (i := (-(-4 : Int32))) (n := 8) (by decide))) (k := ?_)
      obtain ⟨rfl, rfl⟩ := ret_e hf
      exact bM_row_26 
  · replace hf := ite_t q2 hf
    refine bM_row_10 (ct := c_M_no (d := d) w (-1 : Int32) (vpd (i := (-(-1 : Int32))) (n := 8) (by decide))) (k := ?_)
    obtain ⟨rfl, rfl⟩ := ret_e hf
    exact bM_row_15 
-- M_copy
def f_M_copy_251 : Nat → MW → Int32 → Int32 → Int32 → Int32 → Int32 → Int32 → Option RT
  | 0, _, _, _, _, _, _, _ => none
  | n + 1, w, x1, x2, x3, x4, x5, x6 => if x5 ≤ x6 then (some (some (.int (1 : Int32)), w)) else (grd (vpb (((160 * x1) + x3) + x6) 1280 = true) (grd (vpb (((160 * x2) + x4) + x6) 1280 = true) (f_M_copy_251 n (setL w 65 (((160 * x2) + x4) + x6).toNatClampNeg (w.2.1 65 (((160 * x1) + x3) + x6).toNatClampNeg)) x1 x2 x3 x4 x5 (x6 + 1))))
set_option maxHeartbeats 4000000 in
theorem r_M_copy_251 {d : Nat} {r : Option Value} {w' : MW} : ∀ (n : Nat) (w : MW) (x1 : Int32) (x2 : Int32) (x3 : Int32) (x4 : Int32) (x5 : Int32) (x6 : Int32), f_M_copy_251 n w x1 x2 x3 x4 x5 x6 = some (r, w') → Rn (d + 1) mM_copy 251 [some (.ref 62), some (.int x1), some (.int x2), some (.int x3), some (.int x4), some (.int x5), some (.int x6)] [] w r w' := by
  intro n
  induction n with
  | zero =>
    intro w x1 x2 x3 x4 x5 x6 hf
    cases hf
  | succ n ih =>
    intro w x1 x2 x3 x4 x5 x6 hf
    rw [f_M_copy_251] at hf
    refine bM_copy_251 (kt := fun q1 => ?_) (kf := fun q1 => ?_)
    · replace hf := ite_t q1 hf
      obtain ⟨rfl, rfl⟩ := ret_e hf
      exact bM_copy_295 
    · replace hf := ite_f q1 hf
      obtain ⟨g3_0, hf⟩ := grd_e hf
      obtain ⟨g3_1, hf⟩ := grd_e hf
      refine bM_copy_258 (y1 := 65) (y2 := 65) (h4 := (vpb_ok g3_0)) (h6 := (vpb_ok g3_1)) (k := ?_)
      exact ih (setL w 65 (((160 * x2) + x4) + x6).toNatClampNeg (w.2.1 65 (((160 * x1) + x3) + x6).toNatClampNeg)) x1 x2 x3 x4 x5 (x6 + 1) hf
def f_M_copy_203 : Nat → MW → Int32 → Int32 → Int32 → Int32 → Int32 → Option RT
  | 0, _, _, _, _, _, _ => none
  | n + 1, w, x1, x2, x3, x4, x6 => if x6 < 0 then (some (some (.int (1 : Int32)), w)) else (grd (vpb (((160 * x1) + x3) + x6) 1280 = true) (grd (vpb (((160 * x2) + x4) + x6) 1280 = true) (f_M_copy_203 n (setL w 65 (((160 * x2) + x4) + x6).toNatClampNeg (w.2.1 65 (((160 * x1) + x3) + x6).toNatClampNeg)) x1 x2 x3 x4 (x6 + (-1)))))
set_option maxHeartbeats 4000000 in
theorem r_M_copy_203 {d : Nat} {r : Option Value} {w' : MW} : ∀ (n : Nat) (w : MW) (x1 : Int32) (x2 : Int32) (x3 : Int32) (x4 : Int32) (x6 : Int32), f_M_copy_203 n w x1 x2 x3 x4 x6 = some (r, w') → Rn (d + 1) mM_copy 203 [some (.ref 62), some (.int x1), some (.int x2), some (.int x3), some (.int x4), none, some (.int x6)] [] w r w' := by
  intro n
  induction n with
  | zero =>
    intro w x1 x2 x3 x4 x6 hf
    cases hf
  | succ n ih =>
    intro w x1 x2 x3 x4 x6 hf
    rw [f_M_copy_203] at hf
    refine bM_copy_203 (kt := fun q1 => ?_) (kf := fun q1 => ?_)
    · replace hf := ite_t q1 hf
      refine bM_copy_245 (k := ?_)
      obtain ⟨rfl, rfl⟩ := ret_e hf
      exact bM_copy_295 
    · replace hf := ite_f q1 hf
      obtain ⟨g4_0, hf⟩ := grd_e hf
      obtain ⟨g4_1, hf⟩ := grd_e hf
      refine bM_copy_208 (y1 := 65) (y2 := 65) (h4 := (vpb_ok g4_0)) (h6 := (vpb_ok g4_1)) (k := ?_)
      exact ih (setL w 65 (((160 * x2) + x4) + x6).toNatClampNeg (w.2.1 65 (((160 * x1) + x3) + x6).toNatClampNeg)) x1 x2 x3 x4 (x6 + (-1)) hf
def f_M_copy (w : MW) (x1 : Int32) (x2 : Int32) (x3 : Int32) (x4 : Int32) (x5 : Int32) : Option RT := if (v_M_within w x1 (0 : Int32) (7 : Int32)) = 0 then (some (some (.int (v_M_no w (-1 : Int32))), u_M_no w (-1 : Int32))) else (if (v_M_within w x2 (0 : Int32) (7 : Int32)) = 0 then (some (some (.int (v_M_no w (-1 : Int32))), u_M_no w (-1 : Int32))) else (grd (vpb x1 8 = true) (if (w.1 63 x1.toNatClampNeg) < 0 then (grd (vpb x2 8 = true) (if (w.1 63 x2.toNatClampNeg) < 0 then (grd (vpb x1 8 = true) (if (v_M_isRow w x1) = 0 then (grd (vpb x1 8 = true) (if (w.1 63 x1.toNatClampNeg) < 0 then (some (some (.int (v_M_no w (-3 : Int32))), u_M_no w (-3 : Int32))) else (grd (vpb x2 8 = true) (if 0 ≤ (w.1 63 x2.toNatClampNeg) then (if 0 ≤ x5 then (if x3 < 0 then (some (some (.int (v_M_no w (-5 : Int32))), u_M_no w (-5 : Int32))) else (if x4 < 0 then (some (some (.int (v_M_no w (-5 : Int32))), u_M_no w (-5 : Int32))) else (grd (vpb x1 8 = true) (if 0 < (lg_cmp (x3.toInt64 + x5.toInt64) ((w.1 64 x1.toNatClampNeg).toInt64)) then (some (some (.int (v_M_no w (-5 : Int32))), u_M_no w (-5 : Int32))) else (grd (vpb x2 8 = true) (if (lg_cmp (x4.toInt64 + x5.toInt64) ((w.1 64 x2.toNatClampNeg).toInt64)) ≤ 0 then (if x1 = x2 then (if x4 ≤ x3 then (f_M_copy_251 FU w x1 x2 x3 x4 x5 (0 : Int32)) else (f_M_copy_203 FU w x1 x2 x3 x4 (x5 - 1))) else (f_M_copy_251 FU w x1 x2 x3 x4 x5 (0 : Int32))) else (some (some (.int (v_M_no w (-5 : Int32))), u_M_no w (-5 : Int32))))))))) else (some (some (.int (v_M_no w (-4 : Int32))), u_M_no w (-4 : Int32)))) else (some (some (.int (v_M_no w (-3 : Int32))), u_M_no w (-3 : Int32))))))) else (grd (vpb x2 8 = true) (if (v_M_isRow w x2) = 0 then (grd (vpb x1 8 = true) (if (w.1 63 x1.toNatClampNeg) < 0 then (some (some (.int (v_M_no w (-3 : Int32))), u_M_no w (-3 : Int32))) else (grd (vpb x2 8 = true) (if 0 ≤ (w.1 63 x2.toNatClampNeg) then (if 0 ≤ x5 then (if x3 < 0 then (some (some (.int (v_M_no w (-5 : Int32))), u_M_no w (-5 : Int32))) else (if x4 < 0 then (some (some (.int (v_M_no w (-5 : Int32))), u_M_no w (-5 : Int32))) else (grd (vpb x1 8 = true) (if 0 < (lg_cmp (x3.toInt64 + x5.toInt64) ((w.1 64 x1.toNatClampNeg).toInt64)) then (some (some (.int (v_M_no w (-5 : Int32))), u_M_no w (-5 : Int32))) else (grd (vpb x2 8 = true) (if (lg_cmp (x4.toInt64 + x5.toInt64) ((w.1 64 x2.toNatClampNeg).toInt64)) ≤ 0 then (if x1 = x2 then (if x4 ≤ x3 then (f_M_copy_251 FU w x1 x2 x3 x4 x5 (0 : Int32)) else (f_M_copy_203 FU w x1 x2 x3 x4 (x5 - 1))) else (f_M_copy_251 FU w x1 x2 x3 x4 x5 (0 : Int32))) else (some (some (.int (v_M_no w (-5 : Int32))), u_M_no w (-5 : Int32))))))))) else (some (some (.int (v_M_no w (-4 : Int32))), u_M_no w (-4 : Int32)))) else (some (some (.int (v_M_no w (-3 : Int32))), u_M_no w (-3 : Int32))))))) else (grd (vpb x1 8 = true) (grd (vpb x2 8 = true) (if (w.1 63 x1.toNatClampNeg) = (w.1 63 x2.toNatClampNeg) then (grd (vpb x1 8 = true) (if (w.1 63 x1.toNatClampNeg) < 0 then (some (some (.int (v_M_no w (-3 : Int32))), u_M_no w (-3 : Int32))) else (grd (vpb x2 8 = true) (if 0 ≤ (w.1 63 x2.toNatClampNeg) then (if 0 ≤ x5 then (if x3 < 0 then (some (some (.int (v_M_no w (-5 : Int32))), u_M_no w (-5 : Int32))) else (if x4 < 0 then (some (some (.int (v_M_no w (-5 : Int32))), u_M_no w (-5 : Int32))) else (grd (vpb x1 8 = true) (if 0 < (lg_cmp (x3.toInt64 + x5.toInt64) ((w.1 64 x1.toNatClampNeg).toInt64)) then (some (some (.int (v_M_no w (-5 : Int32))), u_M_no w (-5 : Int32))) else (grd (vpb x2 8 = true) (if (lg_cmp (x4.toInt64 + x5.toInt64) ((w.1 64 x2.toNatClampNeg).toInt64)) ≤ 0 then (if x1 = x2 then (if x4 ≤ x3 then (f_M_copy_251 FU w x1 x2 x3 x4 x5 (0 : Int32)) else (f_M_copy_203 FU w x1 x2 x3 x4 (x5 - 1))) else (f_M_copy_251 FU w x1 x2 x3 x4 x5 (0 : Int32))) else (some (some (.int (v_M_no w (-5 : Int32))), u_M_no w (-5 : Int32))))))))) else (some (some (.int (v_M_no w (-4 : Int32))), u_M_no w (-4 : Int32)))) else (some (some (.int (v_M_no w (-3 : Int32))), u_M_no w (-3 : Int32))))))) else (some (some (.int (v_M_no w (-2 : Int32))), u_M_no w (-2 : Int32)))))))))) else (grd (vpb x2 8 = true) (if (v_M_isRow w x2) = 0 then (some (some (.int (v_M_no w (-2 : Int32))), u_M_no w (-2 : Int32))) else (grd (vpb x1 8 = true) (if (v_M_isRow w x1) = 0 then (grd (vpb x1 8 = true) (if (w.1 63 x1.toNatClampNeg) < 0 then (some (some (.int (v_M_no w (-3 : Int32))), u_M_no w (-3 : Int32))) else (grd (vpb x2 8 = true) (if 0 ≤ (w.1 63 x2.toNatClampNeg) then (if 0 ≤ x5 then (if x3 < 0 then (some (some (.int (v_M_no w (-5 : Int32))), u_M_no w (-5 : Int32))) else (if x4 < 0 then (some (some (.int (v_M_no w (-5 : Int32))), u_M_no w (-5 : Int32))) else (grd (vpb x1 8 = true) (if 0 < (lg_cmp (x3.toInt64 + x5.toInt64) ((w.1 64 x1.toNatClampNeg).toInt64)) then (some (some (.int (v_M_no w (-5 : Int32))), u_M_no w (-5 : Int32))) else (grd (vpb x2 8 = true) (if (lg_cmp (x4.toInt64 + x5.toInt64) ((w.1 64 x2.toNatClampNeg).toInt64)) ≤ 0 then (if x1 = x2 then (if x4 ≤ x3 then (f_M_copy_251 FU w x1 x2 x3 x4 x5 (0 : Int32)) else (f_M_copy_203 FU w x1 x2 x3 x4 (x5 - 1))) else (f_M_copy_251 FU w x1 x2 x3 x4 x5 (0 : Int32))) else (some (some (.int (v_M_no w (-5 : Int32))), u_M_no w (-5 : Int32))))))))) else (some (some (.int (v_M_no w (-4 : Int32))), u_M_no w (-4 : Int32)))) else (some (some (.int (v_M_no w (-3 : Int32))), u_M_no w (-3 : Int32))))))) else (grd (vpb x2 8 = true) (if (v_M_isRow w x2) = 0 then (grd (vpb x1 8 = true) (if (w.1 63 x1.toNatClampNeg) < 0 then (some (some (.int (v_M_no w (-3 : Int32))), u_M_no w (-3 : Int32))) else (grd (vpb x2 8 = true) (if 0 ≤ (w.1 63 x2.toNatClampNeg) then (if 0 ≤ x5 then (if x3 < 0 then (some (some (.int (v_M_no w (-5 : Int32))), u_M_no w (-5 : Int32))) else (if x4 < 0 then (some (some (.int (v_M_no w (-5 : Int32))), u_M_no w (-5 : Int32))) else (grd (vpb x1 8 = true) (if 0 < (lg_cmp (x3.toInt64 + x5.toInt64) ((w.1 64 x1.toNatClampNeg).toInt64)) then (some (some (.int (v_M_no w (-5 : Int32))), u_M_no w (-5 : Int32))) else (grd (vpb x2 8 = true) (if (lg_cmp (x4.toInt64 + x5.toInt64) ((w.1 64 x2.toNatClampNeg).toInt64)) ≤ 0 then (if x1 = x2 then (if x4 ≤ x3 then (f_M_copy_251 FU w x1 x2 x3 x4 x5 (0 : Int32)) else (f_M_copy_203 FU w x1 x2 x3 x4 (x5 - 1))) else (f_M_copy_251 FU w x1 x2 x3 x4 x5 (0 : Int32))) else (some (some (.int (v_M_no w (-5 : Int32))), u_M_no w (-5 : Int32))))))))) else (some (some (.int (v_M_no w (-4 : Int32))), u_M_no w (-4 : Int32)))) else (some (some (.int (v_M_no w (-3 : Int32))), u_M_no w (-3 : Int32))))))) else (grd (vpb x1 8 = true) (grd (vpb x2 8 = true) (if (w.1 63 x1.toNatClampNeg) = (w.1 63 x2.toNatClampNeg) then (grd (vpb x1 8 = true) (if (w.1 63 x1.toNatClampNeg) < 0 then (some (some (.int (v_M_no w (-3 : Int32))), u_M_no w (-3 : Int32))) else (grd (vpb x2 8 = true) (if 0 ≤ (w.1 63 x2.toNatClampNeg) then (if 0 ≤ x5 then (if x3 < 0 then (some (some (.int (v_M_no w (-5 : Int32))), u_M_no w (-5 : Int32))) else (if x4 < 0 then (some (some (.int (v_M_no w (-5 : Int32))), u_M_no w (-5 : Int32))) else (grd (vpb x1 8 = true) (if 0 < (lg_cmp (x3.toInt64 + x5.toInt64) ((w.1 64 x1.toNatClampNeg).toInt64)) then (some (some (.int (v_M_no w (-5 : Int32))), u_M_no w (-5 : Int32))) else (grd (vpb x2 8 = true) (if (lg_cmp (x4.toInt64 + x5.toInt64) ((w.1 64 x2.toNatClampNeg).toInt64)) ≤ 0 then (if x1 = x2 then (if x4 ≤ x3 then (f_M_copy_251 FU w x1 x2 x3 x4 x5 (0 : Int32)) else (f_M_copy_203 FU w x1 x2 x3 x4 (x5 - 1))) else (f_M_copy_251 FU w x1 x2 x3 x4 x5 (0 : Int32))) else (some (some (.int (v_M_no w (-5 : Int32))), u_M_no w (-5 : Int32))))))))) else (some (some (.int (v_M_no w (-4 : Int32))), u_M_no w (-4 : Int32)))) else (some (some (.int (v_M_no w (-3 : Int32))), u_M_no w (-3 : Int32))))))) else (some (some (.int (v_M_no w (-2 : Int32))), u_M_no w (-2 : Int32)))))))))))))) else (grd (vpb x1 8 = true) (if (v_M_isRow w x1) = 0 then (some (some (.int (v_M_no w (-2 : Int32))), u_M_no w (-2 : Int32))) else (grd (vpb x2 8 = true) (if (w.1 63 x2.toNatClampNeg) < 0 then (grd (vpb x1 8 = true) (if (v_M_isRow w x1) = 0 then (grd (vpb x1 8 = true) (if (w.1 63 x1.toNatClampNeg) < 0 then (some (some (.int (v_M_no w (-3 : Int32))), u_M_no w (-3 : Int32))) else (grd (vpb x2 8 = true) (if 0 ≤ (w.1 63 x2.toNatClampNeg) then (if 0 ≤ x5 then (if x3 < 0 then (some (some (.int (v_M_no w (-5 : Int32))), u_M_no w (-5 : Int32))) else (if x4 < 0 then (some (some (.int (v_M_no w (-5 : Int32))), u_M_no w (-5 : Int32))) else (grd (vpb x1 8 = true) (if 0 < (lg_cmp (x3.toInt64 + x5.toInt64) ((w.1 64 x1.toNatClampNeg).toInt64)) then (some (some (.int (v_M_no w (-5 : Int32))), u_M_no w (-5 : Int32))) else (grd (vpb x2 8 = true) (if (lg_cmp (x4.toInt64 + x5.toInt64) ((w.1 64 x2.toNatClampNeg).toInt64)) ≤ 0 then (if x1 = x2 then (if x4 ≤ x3 then (f_M_copy_251 FU w x1 x2 x3 x4 x5 (0 : Int32)) else (f_M_copy_203 FU w x1 x2 x3 x4 (x5 - 1))) else (f_M_copy_251 FU w x1 x2 x3 x4 x5 (0 : Int32))) else (some (some (.int (v_M_no w (-5 : Int32))), u_M_no w (-5 : Int32))))))))) else (some (some (.int (v_M_no w (-4 : Int32))), u_M_no w (-4 : Int32)))) else (some (some (.int (v_M_no w (-3 : Int32))), u_M_no w (-3 : Int32))))))) else (grd (vpb x2 8 = true) (if (v_M_isRow w x2) = 0 then (grd (vpb x1 8 = true) (if (w.1 63 x1.toNatClampNeg) < 0 then (some (some (.int (v_M_no w (-3 : Int32))), u_M_no w (-3 : Int32))) else (grd (vpb x2 8 = true) (if 0 ≤ (w.1 63 x2.toNatClampNeg) then (if 0 ≤ x5 then (if x3 < 0 then (some (some (.int (v_M_no w (-5 : Int32))), u_M_no w (-5 : Int32))) else (if x4 < 0 then (some (some (.int (v_M_no w (-5 : Int32))), u_M_no w (-5 : Int32))) else (grd (vpb x1 8 = true) (if 0 < (lg_cmp (x3.toInt64 + x5.toInt64) ((w.1 64 x1.toNatClampNeg).toInt64)) then (some (some (.int (v_M_no w (-5 : Int32))), u_M_no w (-5 : Int32))) else (grd (vpb x2 8 = true) (if (lg_cmp (x4.toInt64 + x5.toInt64) ((w.1 64 x2.toNatClampNeg).toInt64)) ≤ 0 then (if x1 = x2 then (if x4 ≤ x3 then (f_M_copy_251 FU w x1 x2 x3 x4 x5 (0 : Int32)) else (f_M_copy_203 FU w x1 x2 x3 x4 (x5 - 1))) else (f_M_copy_251 FU w x1 x2 x3 x4 x5 (0 : Int32))) else (some (some (.int (v_M_no w (-5 : Int32))), u_M_no w (-5 : Int32))))))))) else (some (some (.int (v_M_no w (-4 : Int32))), u_M_no w (-4 : Int32)))) else (some (some (.int (v_M_no w (-3 : Int32))), u_M_no w (-3 : Int32))))))) else (grd (vpb x1 8 = true) (grd (vpb x2 8 = true) (if (w.1 63 x1.toNatClampNeg) = (w.1 63 x2.toNatClampNeg) then (grd (vpb x1 8 = true) (if (w.1 63 x1.toNatClampNeg) < 0 then (some (some (.int (v_M_no w (-3 : Int32))), u_M_no w (-3 : Int32))) else (grd (vpb x2 8 = true) (if 0 ≤ (w.1 63 x2.toNatClampNeg) then (if 0 ≤ x5 then (if x3 < 0 then (some (some (.int (v_M_no w (-5 : Int32))), u_M_no w (-5 : Int32))) else (if x4 < 0 then (some (some (.int (v_M_no w (-5 : Int32))), u_M_no w (-5 : Int32))) else (grd (vpb x1 8 = true) (if 0 < (lg_cmp (x3.toInt64 + x5.toInt64) ((w.1 64 x1.toNatClampNeg).toInt64)) then (some (some (.int (v_M_no w (-5 : Int32))), u_M_no w (-5 : Int32))) else (grd (vpb x2 8 = true) (if (lg_cmp (x4.toInt64 + x5.toInt64) ((w.1 64 x2.toNatClampNeg).toInt64)) ≤ 0 then (if x1 = x2 then (if x4 ≤ x3 then (f_M_copy_251 FU w x1 x2 x3 x4 x5 (0 : Int32)) else (f_M_copy_203 FU w x1 x2 x3 x4 (x5 - 1))) else (f_M_copy_251 FU w x1 x2 x3 x4 x5 (0 : Int32))) else (some (some (.int (v_M_no w (-5 : Int32))), u_M_no w (-5 : Int32))))))))) else (some (some (.int (v_M_no w (-4 : Int32))), u_M_no w (-4 : Int32)))) else (some (some (.int (v_M_no w (-3 : Int32))), u_M_no w (-3 : Int32))))))) else (some (some (.int (v_M_no w (-2 : Int32))), u_M_no w (-2 : Int32)))))))))) else (grd (vpb x2 8 = true) (if (v_M_isRow w x2) = 0 then (some (some (.int (v_M_no w (-2 : Int32))), u_M_no w (-2 : Int32))) else (grd (vpb x1 8 = true) (if (v_M_isRow w x1) = 0 then (grd (vpb x1 8 = true) (if (w.1 63 x1.toNatClampNeg) < 0 then (some (some (.int (v_M_no w (-3 : Int32))), u_M_no w (-3 : Int32))) else (grd (vpb x2 8 = true) (if 0 ≤ (w.1 63 x2.toNatClampNeg) then (if 0 ≤ x5 then (if x3 < 0 then (some (some (.int (v_M_no w (-5 : Int32))), u_M_no w (-5 : Int32))) else (if x4 < 0 then (some (some (.int (v_M_no w (-5 : Int32))), u_M_no w (-5 : Int32))) else (grd (vpb x1 8 = true) (if 0 < (lg_cmp (x3.toInt64 + x5.toInt64) ((w.1 64 x1.toNatClampNeg).toInt64)) then (some (some (.int (v_M_no w (-5 : Int32))), u_M_no w (-5 : Int32))) else (grd (vpb x2 8 = true) (if (lg_cmp (x4.toInt64 + x5.toInt64) ((w.1 64 x2.toNatClampNeg).toInt64)) ≤ 0 then (if x1 = x2 then (if x4 ≤ x3 then (f_M_copy_251 FU w x1 x2 x3 x4 x5 (0 : Int32)) else (f_M_copy_203 FU w x1 x2 x3 x4 (x5 - 1))) else (f_M_copy_251 FU w x1 x2 x3 x4 x5 (0 : Int32))) else (some (some (.int (v_M_no w (-5 : Int32))), u_M_no w (-5 : Int32))))))))) else (some (some (.int (v_M_no w (-4 : Int32))), u_M_no w (-4 : Int32)))) else (some (some (.int (v_M_no w (-3 : Int32))), u_M_no w (-3 : Int32))))))) else (grd (vpb x2 8 = true) (if (v_M_isRow w x2) = 0 then (grd (vpb x1 8 = true) (if (w.1 63 x1.toNatClampNeg) < 0 then (some (some (.int (v_M_no w (-3 : Int32))), u_M_no w (-3 : Int32))) else (grd (vpb x2 8 = true) (if 0 ≤ (w.1 63 x2.toNatClampNeg) then (if 0 ≤ x5 then (if x3 < 0 then (some (some (.int (v_M_no w (-5 : Int32))), u_M_no w (-5 : Int32))) else (if x4 < 0 then (some (some (.int (v_M_no w (-5 : Int32))), u_M_no w (-5 : Int32))) else (grd (vpb x1 8 = true) (if 0 < (lg_cmp (x3.toInt64 + x5.toInt64) ((w.1 64 x1.toNatClampNeg).toInt64)) then (some (some (.int (v_M_no w (-5 : Int32))), u_M_no w (-5 : Int32))) else (grd (vpb x2 8 = true) (if (lg_cmp (x4.toInt64 + x5.toInt64) ((w.1 64 x2.toNatClampNeg).toInt64)) ≤ 0 then (if x1 = x2 then (if x4 ≤ x3 then (f_M_copy_251 FU w x1 x2 x3 x4 x5 (0 : Int32)) else (f_M_copy_203 FU w x1 x2 x3 x4 (x5 - 1))) else (f_M_copy_251 FU w x1 x2 x3 x4 x5 (0 : Int32))) else (some (some (.int (v_M_no w (-5 : Int32))), u_M_no w (-5 : Int32))))))))) else (some (some (.int (v_M_no w (-4 : Int32))), u_M_no w (-4 : Int32)))) else (some (some (.int (v_M_no w (-3 : Int32))), u_M_no w (-3 : Int32))))))) else (grd (vpb x1 8 = true) (grd (vpb x2 8 = true) (if (w.1 63 x1.toNatClampNeg) = (w.1 63 x2.toNatClampNeg) then (grd (vpb x1 8 = true) (if (w.1 63 x1.toNatClampNeg) < 0 then (some (some (.int (v_M_no w (-3 : Int32))), u_M_no w (-3 : Int32))) else (grd (vpb x2 8 = true) (if 0 ≤ (w.1 63 x2.toNatClampNeg) then (if 0 ≤ x5 then (if x3 < 0 then (some (some (.int (v_M_no w (-5 : Int32))), u_M_no w (-5 : Int32))) else (if x4 < 0 then (some (some (.int (v_M_no w (-5 : Int32))), u_M_no w (-5 : Int32))) else (grd (vpb x1 8 = true) (if 0 < (lg_cmp (x3.toInt64 + x5.toInt64) ((w.1 64 x1.toNatClampNeg).toInt64)) then (some (some (.int (v_M_no w (-5 : Int32))), u_M_no w (-5 : Int32))) else (grd (vpb x2 8 = true) (if (lg_cmp (x4.toInt64 + x5.toInt64) ((w.1 64 x2.toNatClampNeg).toInt64)) ≤ 0 then (if x1 = x2 then (if x4 ≤ x3 then (f_M_copy_251 FU w x1 x2 x3 x4 x5 (0 : Int32)) else (f_M_copy_203 FU w x1 x2 x3 x4 (x5 - 1))) else (f_M_copy_251 FU w x1 x2 x3 x4 x5 (0 : Int32))) else (some (some (.int (v_M_no w (-5 : Int32))), u_M_no w (-5 : Int32))))))))) else (some (some (.int (v_M_no w (-4 : Int32))), u_M_no w (-4 : Int32)))) else (some (some (.int (v_M_no w (-3 : Int32))), u_M_no w (-3 : Int32))))))) else (some (some (.int (v_M_no w (-2 : Int32))), u_M_no w (-2 : Int32)))))))))))))))))))
set_option maxHeartbeats 4000000 in
theorem c_M_copy {d : Nat} {r : Option Value} {w' : MW} (w : MW) (x1 : Int32) (x2 : Int32) (x3 : Int32) (x4 : Int32) (x5 : Int32) (hf : f_M_copy w x1 x2 x3 x4 x5 = some (r, w')) : Ct (d + 1) mM_copy [.ref 62, .int x1, .int x2, .int x3, .int x4, .int x5] w r w' := by
  refine eM_copy ?_
  unfold f_M_copy at hf
  refine bM_copy_0 (ct := c_M_within (d := d) w x1 (0 : Int32) (7 : Int32)) (k := ?_)
  refine bM_copy_7 (kt := fun q2 => ?_) (kf := fun q2 => ?_)
  · replace hf := ite_t q2 hf
    refine bM_copy_20 (ct := c_M_no (d := d) w (-1 : Int32) (vpd (i := (-(-1 : Int32))) (n := 8) (by decide))) (k := ?_)
    obtain ⟨rfl, rfl⟩ := ret_e hf
    exact bM_copy_25 
  · replace hf := ite_f q2 hf
    refine bM_copy_10 (ct := c_M_within (d := d) w x2 (0 : Int32) (7 : Int32)) (k := ?_)
    refine bM_copy_17 (kt := fun q6 => ?_) (kf := fun q6 => ?_)
    · replace hf := ite_f q6 hf
      obtain ⟨g7_0, hf⟩ := grd_e hf
      refine bM_copy_26 (y1 := 63) (h3 := (vpb_ok g7_0)) (kt := fun q7 => ?_) (kf := fun q7 => ?_)
      · replace hf := ite_t q7 hf
        obtain ⟨g8_0, hf⟩ := grd_e hf
        refine bM_copy_43 (y1 := 63) (h3 := (vpb_ok g8_0)) (kt := fun q8 => ?_) (kf := fun q8 => ?_)
        · replace hf := ite_t q8 hf
          obtain ⟨g9_0, hf⟩ := grd_e hf
          refine bM_copy_60 (ct := c_M_isRow (d := d) w x1 (vpb_ok g9_0)) (k := ?_)
          refine bM_copy_65 (kt := fun q10 => ?_) (kf := fun q10 => ?_)
          · replace hf := ite_t q10 hf
            obtain ⟨g11_0, hf⟩ := grd_e hf
            refine bM_copy_98 (y1 := 63) (h3 := (vpb_ok g11_0)) (kt := fun q11 => ?_) (kf := fun q11 => ?_)
            · replace hf := ite_t q11 hf
              refine bM_copy_116 (ct := c_M_no (d := d) w (-3 : Int32) (vpd (i := (-(-3 : Int32))) (n := 8) (by decide))) (k := ?_)
              obtain ⟨rfl, rfl⟩ := ret_e hf
              exact bM_copy_122 
            · replace hf := ite_f q11 hf
              obtain ⟨g14_0, hf⟩ := grd_e hf
              refine bM_copy_107 (y1 := 63) (h3 := (vpb_ok g14_0)) (kt := fun q14 => ?_) (kf := fun q14 => ?_)
              · replace hf := ite_t q14 hf
                refine bM_copy_123 (kt := fun q15 => ?_) (kf := fun q15 => ?_)
                · replace hf := ite_t q15 hf
                  refine bM_copy_135 (kt := fun q16 => ?_) (kf := fun q16 => ?_)
                  · replace hf := ite_t q16 hf
                    refine bM_copy_179 (ct := c_M_no (d := d) w (-5 : Int32) (vpd (i := (-(-5 : Int32))) (n := 8) (by decide))) (k := ?_)
                    obtain ⟨rfl, rfl⟩ := ret_e hf
                    exact bM_copy_185 
                  · replace hf := ite_f q16 hf
                    refine bM_copy_139 (kt := fun q19 => ?_) (kf := fun q19 => ?_)
                    · replace hf := ite_t q19 hf
                      refine bM_copy_179 (ct := c_M_no (d := d) w (-5 : Int32) (vpd (i := (-(-5 : Int32))) (n := 8) (by decide))) (k := ?_)
                      obtain ⟨rfl, rfl⟩ := ret_e hf
                      exact bM_copy_185 
                    · replace hf := ite_f q19 hf
                      obtain ⟨g22_0, hf⟩ := grd_e hf
                      refine bM_copy_144 (y1 := 64) (h3 := (vpb_ok g22_0)) (kt := fun q22 => ?_) (kf := fun q22 => ?_)
                      · replace hf := ite_t q22 hf
                        refine bM_copy_179 (ct := c_M_no (d := d) w (-5 : Int32) (vpd (i := (-(-5 : Int32))) (n := 8) (by decide))) (k := ?_)
                        obtain ⟨rfl, rfl⟩ := ret_e hf
                        exact bM_copy_185 
                      · replace hf := ite_f q22 hf
                        obtain ⟨g25_0, hf⟩ := grd_e hf
                        refine bM_copy_161 (y1 := 64) (h3 := (vpb_ok g25_0)) (kt := fun q25 => ?_) (kf := fun q25 => ?_)
                        · replace hf := ite_t q25 hf
                          refine bM_copy_186 (kt := fun q26 => ?_) (kf := fun q26 => ?_)
                          · replace hf := ite_f q26 hf
                            refine bM_copy_248 (k := ?_)
                            exact r_M_copy_251 FU w x1 x2 x3 x4 x5 (0 : Int32) hf
                          · replace hf := ite_t q26 hf
                            refine bM_copy_191 (kt := fun q28 => ?_) (kf := fun q28 => ?_)
                            · replace hf := ite_t q28 hf
                              refine bM_copy_248 (k := ?_)
                              exact r_M_copy_251 FU w x1 x2 x3 x4 x5 (0 : Int32) hf
                            · replace hf := ite_f q28 hf
                              refine bM_copy_197 (k := ?_)
                              exact r_M_copy_203 FU w x1 x2 x3 x4 (x5 - 1) hf
                        · replace hf := ite_f q25 hf
                          refine bM_copy_179 (ct := c_M_no (d := d) w (-5 : Int32) (vpd (i := (-(-5 : Int32))) (n := 8) (by decide))) (k := ?_)
                          obtain ⟨rfl, rfl⟩ := ret_e hf
                          exact bM_copy_185 
                · replace hf := ite_f q15 hf
                  refine bM_copy_128 (ct := c_M_no (d := d) w (-4 : Int32) (vpd (i := (-(-4 : Int32))) (n := 8) (by decide))) (k := ?_)
                  obtain ⟨rfl, rfl⟩ := ret_e hf
                  exact bM_copy_134 
              · replace hf := ite_f q14 hf
                refine bM_copy_116 (ct := c_M_no (d := d) w (-3 : Int32) (vpd (i := (-(-3 : Int32))) (n := 8) (by decide))) (k := ?_)
                obtain ⟨rfl, rfl⟩ := ret_e hf
                exact bM_copy_122 
          · replace hf := ite_f q10 hf
            obtain ⟨g37_0, hf⟩ := grd_e hf
            refine bM_copy_68 (ct := c_M_isRow (d := d) w x2 (vpb_ok g37_0)) (k := ?_)
            refine bM_copy_73 (kt := fun q38 => ?_) (kf := fun q38 => ?_)
            · replace hf := ite_t q38 hf
              obtain ⟨g39_0, hf⟩ := grd_e hf
              refine bM_copy_98 (y1 := 63) (h3 := (vpb_ok g39_0)) (kt := fun q39 => ?_) (kf := fun q39 => ?_)
              · replace hf := ite_t q39 hf
                refine bM_copy_116 (ct := c_M_no (d := d) w (-3 : Int32) (vpd (i := (-(-3 : Int32))) (n := 8) (by decide))) (k := ?_)
                obtain ⟨rfl, rfl⟩ := ret_e hf
                exact bM_copy_122 
              · replace hf := ite_f q39 hf
                obtain ⟨g42_0, hf⟩ := grd_e hf
                refine bM_copy_107 (y1 := 63) (h3 := (vpb_ok g42_0)) (kt := fun q42 => ?_) (kf := fun q42 => ?_)
                · replace hf := ite_t q42 hf
                  refine bM_copy_123 (kt := fun q43 => ?_) (kf := fun q43 => ?_)
                  · replace hf := ite_t q43 hf
                    refine bM_copy_135 (kt := fun q44 => ?_) (kf := fun q44 => ?_)
                    · replace hf := ite_t q44 hf
                      refine bM_copy_179 (ct := c_M_no (d := d) w (-5 : Int32) (vpd (i := (-(-5 : Int32))) (n := 8) (by decide))) (k := ?_)
                      obtain ⟨rfl, rfl⟩ := ret_e hf
                      exact bM_copy_185 
                    · replace hf := ite_f q44 hf
                      refine bM_copy_139 (kt := fun q47 => ?_) (kf := fun q47 => ?_)
                      · replace hf := ite_t q47 hf
                        refine bM_copy_179 (ct := c_M_no (d := d) w (-5 : Int32) (vpd (i := (-(-5 : Int32))) (n := 8) (by decide))) (k := ?_)
                        obtain ⟨rfl, rfl⟩ := ret_e hf
                        exact bM_copy_185 
                      · replace hf := ite_f q47 hf
                        obtain ⟨g50_0, hf⟩ := grd_e hf
                        refine bM_copy_144 (y1 := 64) (h3 := (vpb_ok g50_0)) (kt := fun q50 => ?_) (kf := fun q50 => ?_)
                        · replace hf := ite_t q50 hf
                          refine bM_copy_179 (ct := c_M_no (d := d) w (-5 : Int32) (vpd (i := (-(-5 : Int32))) (n := 8) (by decide))) (k := ?_)
                          obtain ⟨rfl, rfl⟩ := ret_e hf
                          exact bM_copy_185 
                        · replace hf := ite_f q50 hf
                          obtain ⟨g53_0, hf⟩ := grd_e hf
                          refine bM_copy_161 (y1 := 64) (h3 := (vpb_ok g53_0)) (kt := fun q53 => ?_) (kf := fun q53 => ?_)
                          · replace hf := ite_t q53 hf
                            refine bM_copy_186 (kt := fun q54 => ?_) (kf := fun q54 => ?_)
                            · replace hf := ite_f q54 hf
                              refine bM_copy_248 (k := ?_)
                              exact r_M_copy_251 FU w x1 x2 x3 x4 x5 (0 : Int32) hf
                            · replace hf := ite_t q54 hf
                              refine bM_copy_191 (kt := fun q56 => ?_) (kf := fun q56 => ?_)
                              · replace hf := ite_t q56 hf
                                refine bM_copy_248 (k := ?_)
                                exact r_M_copy_251 FU w x1 x2 x3 x4 x5 (0 : Int32) hf
                              · replace hf := ite_f q56 hf
                                refine bM_copy_197 (k := ?_)
                                exact r_M_copy_203 FU w x1 x2 x3 x4 (x5 - 1) hf
                          · replace hf := ite_f q53 hf
                            refine bM_copy_179 (ct := c_M_no (d := d) w (-5 : Int32) (vpd (i := (-(-5 : Int32))) (n := 8) (by decide))) (k := ?_)
                            obtain ⟨rfl, rfl⟩ := ret_e hf
                            exact bM_copy_185 
                  · replace hf := ite_f q43 hf
                    refine bM_copy_128 (ct := c_M_no (d := d) w (-4 : Int32) (vpd (i := (-(-4 : Int32))) (n := 8) (by decide))) (k := ?_)
                    obtain ⟨rfl, rfl⟩ := ret_e hf
                    exact bM_copy_134 
                · replace hf := ite_f q42 hf
                  refine bM_copy_116 (ct := c_M_no (d := d) w (-3 : Int32) (vpd (i := (-(-3 : Int32))) (n := 8) (by decide))) (k := ?_)
                  obtain ⟨rfl, rfl⟩ := ret_e hf
                  exact bM_copy_122 
            · replace hf := ite_f q38 hf
              obtain ⟨g65_0, hf⟩ := grd_e hf
              obtain ⟨g65_1, hf⟩ := grd_e hf
              refine bM_copy_76 (y1 := 63) (h3 := (vpb_ok g65_0)) (y2 := 63) (h6 := (vpb_ok g65_1)) (kt := fun q65 => ?_) (kf := fun q65 => ?_)
              · replace hf := ite_t q65 hf
                obtain ⟨g66_0, hf⟩ := grd_e hf
                refine bM_copy_98 (y1 := 63) (h3 := (vpb_ok g66_0)) (kt := fun q66 => ?_) (kf := fun q66 => ?_)
                · replace hf := ite_t q66 hf
                  refine bM_copy_116 (ct := c_M_no (d := d) w (-3 : Int32) (vpd (i := (-(-3 : Int32))) (n := 8) (by decide))) (k := ?_)
                  obtain ⟨rfl, rfl⟩ := ret_e hf
                  exact bM_copy_122 
                · replace hf := ite_f q66 hf
                  obtain ⟨g69_0, hf⟩ := grd_e hf
                  refine bM_copy_107 (y1 := 63) (h3 := (vpb_ok g69_0)) (kt := fun q69 => ?_) (kf := fun q69 => ?_)
                  · replace hf := ite_t q69 hf
                    refine bM_copy_123 (kt := fun q70 => ?_) (kf := fun q70 => ?_)
                    · replace hf := ite_t q70 hf
                      refine bM_copy_135 (kt := fun q71 => ?_) (kf := fun q71 => ?_)
                      · replace hf := ite_t q71 hf
                        refine bM_copy_179 (ct := c_M_no (d := d) w (-5 : Int32) (vpd (i := (-(-5 : Int32))) (n := 8) (by decide))) (k := ?_)
                        obtain ⟨rfl, rfl⟩ := ret_e hf
                        exact bM_copy_185 
                      · replace hf := ite_f q71 hf
                        refine bM_copy_139 (kt := fun q74 => ?_) (kf := fun q74 => ?_)
                        · replace hf := ite_t q74 hf
                          refine bM_copy_179 (ct := c_M_no (d := d) w (-5 : Int32) (vpd (i := (-(-5 : Int32))) (n := 8) (by decide))) (k := ?_)
                          obtain ⟨rfl, rfl⟩ := ret_e hf
                          exact bM_copy_185 
                        · replace hf := ite_f q74 hf
                          obtain ⟨g77_0, hf⟩ := grd_e hf
                          refine bM_copy_144 (y1 := 64) (h3 := (vpb_ok g77_0)) (kt := fun q77 => ?_) (kf := fun q77 => ?_)
                          · replace hf := ite_t q77 hf
                            refine bM_copy_179 (ct := c_M_no (d := d) w (-5 : Int32) (vpd (i := (-(-5 : Int32))) (n := 8) (by decide))) (k := ?_)
                            obtain ⟨rfl, rfl⟩ := ret_e hf
                            exact bM_copy_185 
                          · replace hf := ite_f q77 hf
                            obtain ⟨g80_0, hf⟩ := grd_e hf
                            refine bM_copy_161 (y1 := 64) (h3 := (vpb_ok g80_0)) (kt := fun q80 => ?_) (kf := fun q80 => ?_)
                            · replace hf := ite_t q80 hf
                              refine bM_copy_186 (kt := fun q81 => ?_) (kf := fun q81 => ?_)
                              · replace hf := ite_f q81 hf
                                refine bM_copy_248 (k := ?_)
                                exact r_M_copy_251 FU w x1 x2 x3 x4 x5 (0 : Int32) hf
                              · replace hf := ite_t q81 hf
                                refine bM_copy_191 (kt := fun q83 => ?_) (kf := fun q83 => ?_)
                                · replace hf := ite_t q83 hf
                                  refine bM_copy_248 (k := ?_)
                                  exact r_M_copy_251 FU w x1 x2 x3 x4 x5 (0 : Int32) hf
                                · replace hf := ite_f q83 hf
                                  refine bM_copy_197 (k := ?_)
                                  exact r_M_copy_203 FU w x1 x2 x3 x4 (x5 - 1) hf
                            · replace hf := ite_f q80 hf
                              refine bM_copy_179 (ct := c_M_no (d := d) w (-5 : Int32) (vpd (i := (-(-5 : Int32))) (n := 8) (by decide))) (k := ?_)
                              obtain ⟨rfl, rfl⟩ := ret_e hf
                              exact bM_copy_185 
                    · replace hf := ite_f q70 hf
                      refine bM_copy_128 (ct := c_M_no (d := d) w (-4 : Int32) (vpd (i := (-(-4 : Int32))) (n := 8) (by decide))) (k := ?_)
                      obtain ⟨rfl, rfl⟩ := ret_e hf
                      exact bM_copy_134 
                  · replace hf := ite_f q69 hf
                    refine bM_copy_116 (ct := c_M_no (d := d) w (-3 : Int32) (vpd (i := (-(-3 : Int32))) (n := 8) (by decide))) (k := ?_)
                    obtain ⟨rfl, rfl⟩ := ret_e hf
                    exact bM_copy_122 
              · replace hf := ite_f q65 hf
                refine bM_copy_91 (ct := c_M_no (d := d) w (-2 : Int32) (vpd (i := (-(-2 : Int32))) (n := 8) (by decide))) (k := ?_)
                obtain ⟨rfl, rfl⟩ := ret_e hf
                exact bM_copy_97 
        · replace hf := ite_f q8 hf
          obtain ⟨g94_0, hf⟩ := grd_e hf
          refine bM_copy_52 (ct := c_M_isRow (d := d) w x2 (vpb_ok g94_0)) (k := ?_)
          refine bM_copy_57 (kt := fun q95 => ?_) (kf := fun q95 => ?_)
          · replace hf := ite_t q95 hf
            refine bM_copy_91 (ct := c_M_no (d := d) w (-2 : Int32) (vpd (i := (-(-2 : Int32))) (n := 8) (by decide))) (k := ?_)
            obtain ⟨rfl, rfl⟩ := ret_e hf
            exact bM_copy_97 
          · replace hf := ite_f q95 hf
            obtain ⟨g98_0, hf⟩ := grd_e hf
            refine bM_copy_60 (ct := c_M_isRow (d := d) w x1 (vpb_ok g98_0)) (k := ?_)
            refine bM_copy_65 (kt := fun q99 => ?_) (kf := fun q99 => ?_)
            · replace hf := ite_t q99 hf
              obtain ⟨g100_0, hf⟩ := grd_e hf
              refine bM_copy_98 (y1 := 63) (h3 := (vpb_ok g100_0)) (kt := fun q100 => ?_) (kf := fun q100 => ?_)
              · replace hf := ite_t q100 hf
                refine bM_copy_116 (ct := c_M_no (d := d) w (-3 : Int32) (vpd (i := (-(-3 : Int32))) (n := 8) (by decide))) (k := ?_)
                obtain ⟨rfl, rfl⟩ := ret_e hf
                exact bM_copy_122 
              · replace hf := ite_f q100 hf
                obtain ⟨g103_0, hf⟩ := grd_e hf
                refine bM_copy_107 (y1 := 63) (h3 := (vpb_ok g103_0)) (kt := fun q103 => ?_) (kf := fun q103 => ?_)
                · replace hf := ite_t q103 hf
                  refine bM_copy_123 (kt := fun q104 => ?_) (kf := fun q104 => ?_)
                  · replace hf := ite_t q104 hf
                    refine bM_copy_135 (kt := fun q105 => ?_) (kf := fun q105 => ?_)
                    · replace hf := ite_t q105 hf
                      refine bM_copy_179 (ct := c_M_no (d := d) w (-5 : Int32) (vpd (i := (-(-5 : Int32))) (n := 8) (by decide))) (k := ?_)
                      obtain ⟨rfl, rfl⟩ := ret_e hf
                      exact bM_copy_185 
                    · replace hf := ite_f q105 hf
                      refine bM_copy_139 (kt := fun q108 => ?_) (kf := fun q108 => ?_)
                      · replace hf := ite_t q108 hf
                        refine bM_copy_179 (ct := c_M_no (d := d) w (-5 : Int32) (vpd (i := (-(-5 : Int32))) (n := 8) (by decide))) (k := ?_)
                        obtain ⟨rfl, rfl⟩ := ret_e hf
                        exact bM_copy_185 
                      · replace hf := ite_f q108 hf
                        obtain ⟨g111_0, hf⟩ := grd_e hf
                        refine bM_copy_144 (y1 := 64) (h3 := (vpb_ok g111_0)) (kt := fun q111 => ?_) (kf := fun q111 => ?_)
                        · replace hf := ite_t q111 hf
                          refine bM_copy_179 (ct := c_M_no (d := d) w (-5 : Int32) (vpd (i := (-(-5 : Int32))) (n := 8) (by decide))) (k := ?_)
                          obtain ⟨rfl, rfl⟩ := ret_e hf
                          exact bM_copy_185 
                        · replace hf := ite_f q111 hf
                          obtain ⟨g114_0, hf⟩ := grd_e hf
                          refine bM_copy_161 (y1 := 64) (h3 := (vpb_ok g114_0)) (kt := fun q114 => ?_) (kf := fun q114 => ?_)
                          · replace hf := ite_t q114 hf
                            refine bM_copy_186 (kt := fun q115 => ?_) (kf := fun q115 => ?_)
                            · replace hf := ite_f q115 hf
                              refine bM_copy_248 (k := ?_)
                              exact r_M_copy_251 FU w x1 x2 x3 x4 x5 (0 : Int32) hf
                            · replace hf := ite_t q115 hf
                              refine bM_copy_191 (kt := fun q117 => ?_) (kf := fun q117 => ?_)
                              · replace hf := ite_t q117 hf
                                refine bM_copy_248 (k := ?_)
                                exact r_M_copy_251 FU w x1 x2 x3 x4 x5 (0 : Int32) hf
                              · replace hf := ite_f q117 hf
                                refine bM_copy_197 (k := ?_)
                                exact r_M_copy_203 FU w x1 x2 x3 x4 (x5 - 1) hf
                          · replace hf := ite_f q114 hf
                            refine bM_copy_179 (ct := c_M_no (d := d) w (-5 : Int32) (vpd (i := (-(-5 : Int32))) (n := 8) (by decide))) (k := ?_)
                            obtain ⟨rfl, rfl⟩ := ret_e hf
                            exact bM_copy_185 
                  · replace hf := ite_f q104 hf
                    refine bM_copy_128 (ct := c_M_no (d := d) w (-4 : Int32) (vpd (i := (-(-4 : Int32))) (n := 8) (by decide))) (k := ?_)
                    obtain ⟨rfl, rfl⟩ := ret_e hf
                    exact bM_copy_134 
                · replace hf := ite_f q103 hf
                  refine bM_copy_116 (ct := c_M_no (d := d) w (-3 : Int32) (vpd (i := (-(-3 : Int32))) (n := 8) (by decide))) (k := ?_)
                  obtain ⟨rfl, rfl⟩ := ret_e hf
                  exact bM_copy_122 
            · replace hf := ite_f q99 hf
              obtain ⟨g126_0, hf⟩ := grd_e hf
              refine bM_copy_68 (ct := c_M_isRow (d := d) w x2 (vpb_ok g126_0)) (k := ?_)
              refine bM_copy_73 (kt := fun q127 => ?_) (kf := fun q127 => ?_)
              · replace hf := ite_t q127 hf
                obtain ⟨g128_0, hf⟩ := grd_e hf
                refine bM_copy_98 (y1 := 63) (h3 := (vpb_ok g128_0)) (kt := fun q128 => ?_) (kf := fun q128 => ?_)
                · replace hf := ite_t q128 hf
                  refine bM_copy_116 (ct := c_M_no (d := d) w (-3 : Int32) (vpd (i := (-(-3 : Int32))) (n := 8) (by decide))) (k := ?_)
                  obtain ⟨rfl, rfl⟩ := ret_e hf
                  exact bM_copy_122 
                · replace hf := ite_f q128 hf
                  obtain ⟨g131_0, hf⟩ := grd_e hf
                  refine bM_copy_107 (y1 := 63) (h3 := (vpb_ok g131_0)) (kt := fun q131 => ?_) (kf := fun q131 => ?_)
                  · replace hf := ite_t q131 hf
                    refine bM_copy_123 (kt := fun q132 => ?_) (kf := fun q132 => ?_)
                    · replace hf := ite_t q132 hf
                      refine bM_copy_135 (kt := fun q133 => ?_) (kf := fun q133 => ?_)
                      · replace hf := ite_t q133 hf
                        refine bM_copy_179 (ct := c_M_no (d := d) w (-5 : Int32) (vpd (i := (-(-5 : Int32))) (n := 8) (by decide))) (k := ?_)
                        obtain ⟨rfl, rfl⟩ := ret_e hf
                        exact bM_copy_185 
                      · replace hf := ite_f q133 hf
                        refine bM_copy_139 (kt := fun q136 => ?_) (kf := fun q136 => ?_)
                        · replace hf := ite_t q136 hf
                          refine bM_copy_179 (ct := c_M_no (d := d) w (-5 : Int32) (vpd (i := (-(-5 : Int32))) (n := 8) (by decide))) (k := ?_)
                          obtain ⟨rfl, rfl⟩ := ret_e hf
                          exact bM_copy_185 
                        · replace hf := ite_f q136 hf
                          obtain ⟨g139_0, hf⟩ := grd_e hf
                          refine bM_copy_144 (y1 := 64) (h3 := (vpb_ok g139_0)) (kt := fun q139 => ?_) (kf := fun q139 => ?_)
                          · replace hf := ite_t q139 hf
                            refine bM_copy_179 (ct := c_M_no (d := d) w (-5 : Int32) (vpd (i := (-(-5 : Int32))) (n := 8) (by decide))) (k := ?_)
                            obtain ⟨rfl, rfl⟩ := ret_e hf
                            exact bM_copy_185 
                          · replace hf := ite_f q139 hf
                            obtain ⟨g142_0, hf⟩ := grd_e hf
                            refine bM_copy_161 (y1 := 64) (h3 := (vpb_ok g142_0)) (kt := fun q142 => ?_) (kf := fun q142 => ?_)
                            · replace hf := ite_t q142 hf
                              refine bM_copy_186 (kt := fun q143 => ?_) (kf := fun q143 => ?_)
                              · replace hf := ite_f q143 hf
                                refine bM_copy_248 (k := ?_)
                                exact r_M_copy_251 FU w x1 x2 x3 x4 x5 (0 : Int32) hf
                              · replace hf := ite_t q143 hf
                                refine bM_copy_191 (kt := fun q145 => ?_) (kf := fun q145 => ?_)
                                · replace hf := ite_t q145 hf
                                  refine bM_copy_248 (k := ?_)
                                  exact r_M_copy_251 FU w x1 x2 x3 x4 x5 (0 : Int32) hf
                                · replace hf := ite_f q145 hf
                                  refine bM_copy_197 (k := ?_)
                                  exact r_M_copy_203 FU w x1 x2 x3 x4 (x5 - 1) hf
                            · replace hf := ite_f q142 hf
                              refine bM_copy_179 (ct := c_M_no (d := d) w (-5 : Int32) (vpd (i := (-(-5 : Int32))) (n := 8) (by decide))) (k := ?_)
                              obtain ⟨rfl, rfl⟩ := ret_e hf
                              exact bM_copy_185 
                    · replace hf := ite_f q132 hf
                      refine bM_copy_128 (ct := c_M_no (d := d) w (-4 : Int32) (vpd (i := (-(-4 : Int32))) (n := 8) (by decide))) (k := ?_)
                      obtain ⟨rfl, rfl⟩ := ret_e hf
                      exact bM_copy_134 
                  · replace hf := ite_f q131 hf
                    refine bM_copy_116 (ct := c_M_no (d := d) w (-3 : Int32) (vpd (i := (-(-3 : Int32))) (n := 8) (by decide))) (k := ?_)
                    obtain ⟨rfl, rfl⟩ := ret_e hf
                    exact bM_copy_122 
              · replace hf := ite_f q127 hf
                obtain ⟨g154_0, hf⟩ := grd_e hf
                obtain ⟨g154_1, hf⟩ := grd_e hf
                refine bM_copy_76 (y1 := 63) (h3 := (vpb_ok g154_0)) (y2 := 63) (h6 := (vpb_ok g154_1)) (kt := fun q154 => ?_) (kf := fun q154 => ?_)
                · replace hf := ite_t q154 hf
                  obtain ⟨g155_0, hf⟩ := grd_e hf
                  refine bM_copy_98 (y1 := 63) (h3 := (vpb_ok g155_0)) (kt := fun q155 => ?_) (kf := fun q155 => ?_)
                  · replace hf := ite_t q155 hf
                    refine bM_copy_116 (ct := c_M_no (d := d) w (-3 : Int32) (vpd (i := (-(-3 : Int32))) (n := 8) (by decide))) (k := ?_)
                    obtain ⟨rfl, rfl⟩ := ret_e hf
                    exact bM_copy_122 
                  · replace hf := ite_f q155 hf
                    obtain ⟨g158_0, hf⟩ := grd_e hf
                    refine bM_copy_107 (y1 := 63) (h3 := (vpb_ok g158_0)) (kt := fun q158 => ?_) (kf := fun q158 => ?_)
                    · replace hf := ite_t q158 hf
                      refine bM_copy_123 (kt := fun q159 => ?_) (kf := fun q159 => ?_)
                      · replace hf := ite_t q159 hf
                        refine bM_copy_135 (kt := fun q160 => ?_) (kf := fun q160 => ?_)
                        · replace hf := ite_t q160 hf
                          refine bM_copy_179 (ct := c_M_no (d := d) w (-5 : Int32) (vpd (i := (-(-5 : Int32))) (n := 8) (by decide))) (k := ?_)
                          obtain ⟨rfl, rfl⟩ := ret_e hf
                          exact bM_copy_185 
                        · replace hf := ite_f q160 hf
                          refine bM_copy_139 (kt := fun q163 => ?_) (kf := fun q163 => ?_)
                          · replace hf := ite_t q163 hf
                            refine bM_copy_179 (ct := c_M_no (d := d) w (-5 : Int32) (vpd (i := (-(-5 : Int32))) (n := 8) (by decide))) (k := ?_)
                            obtain ⟨rfl, rfl⟩ := ret_e hf
                            exact bM_copy_185 
                          · replace hf := ite_f q163 hf
                            obtain ⟨g166_0, hf⟩ := grd_e hf
                            refine bM_copy_144 (y1 := 64) (h3 := (vpb_ok g166_0)) (kt := fun q166 => ?_) (kf := fun q166 => ?_)
                            · replace hf := ite_t q166 hf
                              refine bM_copy_179 (ct := c_M_no (d := d) w (-5 : Int32) (vpd (i := (-(-5 : Int32))) (n := 8) (by decide))) (k := ?_)
                              obtain ⟨rfl, rfl⟩ := ret_e hf
                              exact bM_copy_185 
                            · replace hf := ite_f q166 hf
                              obtain ⟨g169_0, hf⟩ := grd_e hf
                              refine bM_copy_161 (y1 := 64) (h3 := (vpb_ok g169_0)) (kt := fun q169 => ?_) (kf := fun q169 => ?_)
                              · replace hf := ite_t q169 hf
                                refine bM_copy_186 (kt := fun q170 => ?_) (kf := fun q170 => ?_)
                                · replace hf := ite_f q170 hf
                                  refine bM_copy_248 (k := ?_)
                                  exact r_M_copy_251 FU w x1 x2 x3 x4 x5 (0 : Int32) hf
                                · replace hf := ite_t q170 hf
                                  refine bM_copy_191 (kt := fun q172 => ?_) (kf := fun q172 => ?_)
                                  · replace hf := ite_t q172 hf
                                    refine bM_copy_248 (k := ?_)
                                    exact r_M_copy_251 FU w x1 x2 x3 x4 x5 (0 : Int32) hf
                                  · replace hf := ite_f q172 hf
                                    refine bM_copy_197 (k := ?_)
                                    exact r_M_copy_203 FU w x1 x2 x3 x4 (x5 - 1) hf
                              · replace hf := ite_f q169 hf
                                refine bM_copy_179 (ct := c_M_no (d := d) w (-5 : Int32) (vpd (i := (-(-5 : Int32))) (n := 8) (by decide))) (k := ?_)
                                obtain ⟨rfl, rfl⟩ := ret_e hf
                                exact bM_copy_185 
                      · replace hf := ite_f q159 hf
                        refine bM_copy_128 (ct := c_M_no (d := d) w (-4 : Int32) (vpd (i := (-(-4 : Int32))) (n := 8) (by decide))) (k := ?_)
                        obtain ⟨rfl, rfl⟩ := ret_e hf
                        exact bM_copy_134 
                    · replace hf := ite_f q158 hf
                      refine bM_copy_116 (ct := c_M_no (d := d) w (-3 : Int32) (vpd (i := (-(-3 : Int32))) (n := 8) (by decide))) (k := ?_)
                      obtain ⟨rfl, rfl⟩ := ret_e hf
                      exact bM_copy_122 
                · replace hf := ite_f q154 hf
                  refine bM_copy_91 (ct := c_M_no (d := d) w (-2 : Int32) (vpd (i := (-(-2 : Int32))) (n := 8) (by decide))) (k := ?_)
                  obtain ⟨rfl, rfl⟩ := ret_e hf
                  exact bM_copy_97 
      · replace hf := ite_f q7 hf
        obtain ⟨g183_0, hf⟩ := grd_e hf
        refine bM_copy_35 (ct := c_M_isRow (d := d) w x1 (vpb_ok g183_0)) (k := ?_)
        refine bM_copy_40 (kt := fun q184 => ?_) (kf := fun q184 => ?_)
        · replace hf := ite_t q184 hf
          refine bM_copy_91 (ct := c_M_no (d := d) w (-2 : Int32) (vpd (i := (-(-2 : Int32))) (n := 8) (by decide))) (k := ?_)
          obtain ⟨rfl, rfl⟩ := ret_e hf
          exact bM_copy_97 
        · replace hf := ite_f q184 hf
          obtain ⟨g187_0, hf⟩ := grd_e hf
          refine bM_copy_43 (y1 := 63) (h3 := (vpb_ok g187_0)) (kt := fun q187 => ?_) (kf := fun q187 => ?_)
          · replace hf := ite_t q187 hf
            obtain ⟨g188_0, hf⟩ := grd_e hf
            refine bM_copy_60 (ct := c_M_isRow (d := d) w x1 (vpb_ok g188_0)) (k := ?_)
            refine bM_copy_65 (kt := fun q189 => ?_) (kf := fun q189 => ?_)
            · replace hf := ite_t q189 hf
              obtain ⟨g190_0, hf⟩ := grd_e hf
              refine bM_copy_98 (y1 := 63) (h3 := (vpb_ok g190_0)) (kt := fun q190 => ?_) (kf := fun q190 => ?_)
              · replace hf := ite_t q190 hf
                refine bM_copy_116 (ct := c_M_no (d := d) w (-3 : Int32) (vpd (i := (-(-3 : Int32))) (n := 8) (by decide))) (k := ?_)
                obtain ⟨rfl, rfl⟩ := ret_e hf
                exact bM_copy_122 
              · replace hf := ite_f q190 hf
                obtain ⟨g193_0, hf⟩ := grd_e hf
                refine bM_copy_107 (y1 := 63) (h3 := (vpb_ok g193_0)) (kt := fun q193 => ?_) (kf := fun q193 => ?_)
                · replace hf := ite_t q193 hf
                  refine bM_copy_123 (kt := fun q194 => ?_) (kf := fun q194 => ?_)
                  · replace hf := ite_t q194 hf
                    refine bM_copy_135 (kt := fun q195 => ?_) (kf := fun q195 => ?_)
                    · replace hf := ite_t q195 hf
                      refine bM_copy_179 (ct := c_M_no (d := d) w (-5 : Int32) (vpd (i := (-(-5 : Int32))) (n := 8) (by decide))) (k := ?_)
                      obtain ⟨rfl, rfl⟩ := ret_e hf
                      exact bM_copy_185 
                    · replace hf := ite_f q195 hf
                      refine bM_copy_139 (kt := fun q198 => ?_) (kf := fun q198 => ?_)
                      · replace hf := ite_t q198 hf
                        refine bM_copy_179 (ct := c_M_no (d := d) w (-5 : Int32) (vpd (i := (-(-5 : Int32))) (n := 8) (by decide))) (k := ?_)
                        obtain ⟨rfl, rfl⟩ := ret_e hf
                        exact bM_copy_185 
                      · replace hf := ite_f q198 hf
                        obtain ⟨g201_0, hf⟩ := grd_e hf
                        refine bM_copy_144 (y1 := 64) (h3 := (vpb_ok g201_0)) (kt := fun q201 => ?_) (kf := fun q201 => ?_)
                        · replace hf := ite_t q201 hf
                          refine bM_copy_179 (ct := c_M_no (d := d) w (-5 : Int32) (vpd (i := (-(-5 : Int32))) (n := 8) (by decide))) (k := ?_)
                          obtain ⟨rfl, rfl⟩ := ret_e hf
                          exact bM_copy_185 
                        · replace hf := ite_f q201 hf
                          obtain ⟨g204_0, hf⟩ := grd_e hf
                          refine bM_copy_161 (y1 := 64) (h3 := (vpb_ok g204_0)) (kt := fun q204 => ?_) (kf := fun q204 => ?_)
                          · replace hf := ite_t q204 hf
                            refine bM_copy_186 (kt := fun q205 => ?_) (kf := fun q205 => ?_)
                            · replace hf := ite_f q205 hf
                              refine bM_copy_248 (k := ?_)
                              exact r_M_copy_251 FU w x1 x2 x3 x4 x5 (0 : Int32) hf
                            · replace hf := ite_t q205 hf
                              refine bM_copy_191 (kt := fun q207 => ?_) (kf := fun q207 => ?_)
                              · replace hf := ite_t q207 hf
                                refine bM_copy_248 (k := ?_)
                                exact r_M_copy_251 FU w x1 x2 x3 x4 x5 (0 : Int32) hf
                              · replace hf := ite_f q207 hf
                                refine bM_copy_197 (k := ?_)
                                exact r_M_copy_203 FU w x1 x2 x3 x4 (x5 - 1) hf
                          · replace hf := ite_f q204 hf
                            refine bM_copy_179 (ct := c_M_no (d := d) w (-5 : Int32) (vpd (i := (-(-5 : Int32))) (n := 8) (by decide))) (k := ?_)
                            obtain ⟨rfl, rfl⟩ := ret_e hf
                            exact bM_copy_185 
                  · replace hf := ite_f q194 hf
                    refine bM_copy_128 (ct := c_M_no (d := d) w (-4 : Int32) (vpd (i := (-(-4 : Int32))) (n := 8) (by decide))) (k := ?_)
                    obtain ⟨rfl, rfl⟩ := ret_e hf
                    exact bM_copy_134 
                · replace hf := ite_f q193 hf
                  refine bM_copy_116 (ct := c_M_no (d := d) w (-3 : Int32) (vpd (i := (-(-3 : Int32))) (n := 8) (by decide))) (k := ?_)
                  obtain ⟨rfl, rfl⟩ := ret_e hf
                  exact bM_copy_122 
            · replace hf := ite_f q189 hf
              obtain ⟨g216_0, hf⟩ := grd_e hf
              refine bM_copy_68 (ct := c_M_isRow (d := d) w x2 (vpb_ok g216_0)) (k := ?_)
              refine bM_copy_73 (kt := fun q217 => ?_) (kf := fun q217 => ?_)
              · replace hf := ite_t q217 hf
                obtain ⟨g218_0, hf⟩ := grd_e hf
                refine bM_copy_98 (y1 := 63) (h3 := (vpb_ok g218_0)) (kt := fun q218 => ?_) (kf := fun q218 => ?_)
                · replace hf := ite_t q218 hf
                  refine bM_copy_116 (ct := c_M_no (d := d) w (-3 : Int32) (vpd (i := (-(-3 : Int32))) (n := 8) (by decide))) (k := ?_)
                  obtain ⟨rfl, rfl⟩ := ret_e hf
                  exact bM_copy_122 
                · replace hf := ite_f q218 hf
                  obtain ⟨g221_0, hf⟩ := grd_e hf
                  refine bM_copy_107 (y1 := 63) (h3 := (vpb_ok g221_0)) (kt := fun q221 => ?_) (kf := fun q221 => ?_)
                  · replace hf := ite_t q221 hf
                    refine bM_copy_123 (kt := fun q222 => ?_) (kf := fun q222 => ?_)
                    · replace hf := ite_t q222 hf
                      refine bM_copy_135 (kt := fun q223 => ?_) (kf := fun q223 => ?_)
                      · replace hf := ite_t q223 hf
                        refine bM_copy_179 (ct := c_M_no (d := d) w (-5 : Int32) (vpd (i := (-(-5 : Int32))) (n := 8) (by decide))) (k := ?_)
                        obtain ⟨rfl, rfl⟩ := ret_e hf
                        exact bM_copy_185 
                      · replace hf := ite_f q223 hf
                        refine bM_copy_139 (kt := fun q226 => ?_) (kf := fun q226 => ?_)
                        · replace hf := ite_t q226 hf
                          refine bM_copy_179 (ct := c_M_no (d := d) w (-5 : Int32) (vpd (i := (-(-5 : Int32))) (n := 8) (by decide))) (k := ?_)
                          obtain ⟨rfl, rfl⟩ := ret_e hf
                          exact bM_copy_185 
                        · replace hf := ite_f q226 hf
                          obtain ⟨g229_0, hf⟩ := grd_e hf
                          refine bM_copy_144 (y1 := 64) (h3 := (vpb_ok g229_0)) (kt := fun q229 => ?_) (kf := fun q229 => ?_)
                          · replace hf := ite_t q229 hf
                            refine bM_copy_179 (ct := c_M_no (d := d) w (-5 : Int32) (vpd (i := (-(-5 : Int32))) (n := 8) (by decide))) (k := ?_)
                            obtain ⟨rfl, rfl⟩ := ret_e hf
                            exact bM_copy_185 
                          · replace hf := ite_f q229 hf
                            obtain ⟨g232_0, hf⟩ := grd_e hf
                            refine bM_copy_161 (y1 := 64) (h3 := (vpb_ok g232_0)) (kt := fun q232 => ?_) (kf := fun q232 => ?_)
                            · replace hf := ite_t q232 hf
                              refine bM_copy_186 (kt := fun q233 => ?_) (kf := fun q233 => ?_)
                              · replace hf := ite_f q233 hf
                                refine bM_copy_248 (k := ?_)
                                exact r_M_copy_251 FU w x1 x2 x3 x4 x5 (0 : Int32) hf
                              · replace hf := ite_t q233 hf
                                refine bM_copy_191 (kt := fun q235 => ?_) (kf := fun q235 => ?_)
                                · replace hf := ite_t q235 hf
                                  refine bM_copy_248 (k := ?_)
                                  exact r_M_copy_251 FU w x1 x2 x3 x4 x5 (0 : Int32) hf
                                · replace hf := ite_f q235 hf
                                  refine bM_copy_197 (k := ?_)
                                  exact r_M_copy_203 FU w x1 x2 x3 x4 (x5 - 1) hf
                            · replace hf := ite_f q232 hf
                              refine bM_copy_179 (ct := c_M_no (d := d) w (-5 : Int32) (vpd (i := (-(-5 : Int32))) (n := 8) (by decide))) (k := ?_)
                              obtain ⟨rfl, rfl⟩ := ret_e hf
                              exact bM_copy_185 
                    · replace hf := ite_f q222 hf
                      refine bM_copy_128 (ct := c_M_no (d := d) w (-4 : Int32) (vpd (i := (-(-4 : Int32))) (n := 8) (by decide))) (k := ?_)
                      obtain ⟨rfl, rfl⟩ := ret_e hf
                      exact bM_copy_134 
                  · replace hf := ite_f q221 hf
                    refine bM_copy_116 (ct := c_M_no (d := d) w (-3 : Int32) (vpd (i := (-(-3 : Int32))) (n := 8) (by decide))) (k := ?_)
                    obtain ⟨rfl, rfl⟩ := ret_e hf
                    exact bM_copy_122 
              · replace hf := ite_f q217 hf
                obtain ⟨g244_0, hf⟩ := grd_e hf
                obtain ⟨g244_1, hf⟩ := grd_e hf
                refine bM_copy_76 (y1 := 63) (h3 := (vpb_ok g244_0)) (y2 := 63) (h6 := (vpb_ok g244_1)) (kt := fun q244 => ?_) (kf := fun q244 => ?_)
                · replace hf := ite_t q244 hf
                  obtain ⟨g245_0, hf⟩ := grd_e hf
                  refine bM_copy_98 (y1 := 63) (h3 := (vpb_ok g245_0)) (kt := fun q245 => ?_) (kf := fun q245 => ?_)
                  · replace hf := ite_t q245 hf
                    refine bM_copy_116 (ct := c_M_no (d := d) w (-3 : Int32) (vpd (i := (-(-3 : Int32))) (n := 8) (by decide))) (k := ?_)
                    obtain ⟨rfl, rfl⟩ := ret_e hf
                    exact bM_copy_122 
                  · replace hf := ite_f q245 hf
                    obtain ⟨g248_0, hf⟩ := grd_e hf
                    refine bM_copy_107 (y1 := 63) (h3 := (vpb_ok g248_0)) (kt := fun q248 => ?_) (kf := fun q248 => ?_)
                    · replace hf := ite_t q248 hf
                      refine bM_copy_123 (kt := fun q249 => ?_) (kf := fun q249 => ?_)
                      · replace hf := ite_t q249 hf
                        refine bM_copy_135 (kt := fun q250 => ?_) (kf := fun q250 => ?_)
                        · replace hf := ite_t q250 hf
                          refine bM_copy_179 (ct := c_M_no (d := d) w (-5 : Int32) (vpd (i := (-(-5 : Int32))) (n := 8) (by decide))) (k := ?_)
                          obtain ⟨rfl, rfl⟩ := ret_e hf
                          exact bM_copy_185 
                        · replace hf := ite_f q250 hf
                          refine bM_copy_139 (kt := fun q253 => ?_) (kf := fun q253 => ?_)
                          · replace hf := ite_t q253 hf
                            refine bM_copy_179 (ct := c_M_no (d := d) w (-5 : Int32) (vpd (i := (-(-5 : Int32))) (n := 8) (by decide))) (k := ?_)
                            obtain ⟨rfl, rfl⟩ := ret_e hf
                            exact bM_copy_185 
                          · replace hf := ite_f q253 hf
                            obtain ⟨g256_0, hf⟩ := grd_e hf
                            refine bM_copy_144 (y1 := 64) (h3 := (vpb_ok g256_0)) (kt := fun q256 => ?_) (kf := fun q256 => ?_)
                            · replace hf := ite_t q256 hf
                              refine bM_copy_179 (ct := c_M_no (d := d) w (-5 : Int32) (vpd (i := (-(-5 : Int32))) (n := 8) (by decide))) (k := ?_)
                              obtain ⟨rfl, rfl⟩ := ret_e hf
                              exact bM_copy_185 
                            · replace hf := ite_f q256 hf
                              obtain ⟨g259_0, hf⟩ := grd_e hf
                              refine bM_copy_161 (y1 := 64) (h3 := (vpb_ok g259_0)) (kt := fun q259 => ?_) (kf := fun q259 => ?_)
                              · replace hf := ite_t q259 hf
                                refine bM_copy_186 (kt := fun q260 => ?_) (kf := fun q260 => ?_)
                                · replace hf := ite_f q260 hf
                                  refine bM_copy_248 (k := ?_)
                                  exact r_M_copy_251 FU w x1 x2 x3 x4 x5 (0 : Int32) hf
                                · replace hf := ite_t q260 hf
                                  refine bM_copy_191 (kt := fun q262 => ?_) (kf := fun q262 => ?_)
                                  · replace hf := ite_t q262 hf
                                    refine bM_copy_248 (k := ?_)
                                    exact r_M_copy_251 FU w x1 x2 x3 x4 x5 (0 : Int32) hf
                                  · replace hf := ite_f q262 hf
                                    refine bM_copy_197 (k := ?_)
                                    exact r_M_copy_203 FU w x1 x2 x3 x4 (x5 - 1) hf
                              · replace hf := ite_f q259 hf
                                refine bM_copy_179 (ct := c_M_no (d := d) w (-5 : Int32) (vpd (i := (-(-5 : Int32))) (n := 8) (by decide))) (k := ?_)
                                obtain ⟨rfl, rfl⟩ := ret_e hf
                                exact bM_copy_185 
                      · replace hf := ite_f q249 hf
                        refine bM_copy_128 (ct := c_M_no (d := d) w (-4 : Int32) (vpd (i := (-(-4 : Int32))) (n := 8) (by decide))) (k := ?_)
                        obtain ⟨rfl, rfl⟩ := ret_e hf
                        exact bM_copy_134 
                    · replace hf := ite_f q248 hf
                      refine bM_copy_116 (ct := c_M_no (d := d) w (-3 : Int32) (vpd (i := (-(-3 : Int32))) (n := 8) (by decide))) (k := ?_)
                      obtain ⟨rfl, rfl⟩ := ret_e hf
                      exact bM_copy_122 
                · replace hf := ite_f q244 hf
                  refine bM_copy_91 (ct := c_M_no (d := d) w (-2 : Int32) (vpd (i := (-(-2 : Int32))) (n := 8) (by decide))) (k := ?_)
                  obtain ⟨rfl, rfl⟩ := ret_e hf
                  exact bM_copy_97 
          · replace hf := ite_f q187 hf
            obtain ⟨g273_0, hf⟩ := grd_e hf
            refine bM_copy_52 (ct := c_M_isRow (d := d) w x2 (vpb_ok g273_0)) (k := ?_)
            refine bM_copy_57 (kt := fun q274 => ?_) (kf := fun q274 => ?_)
            · replace hf := ite_t q274 hf
              refine bM_copy_91 (ct := c_M_no (d := d) w (-2 : Int32) (vpd (i := (-(-2 : Int32))) (n := 8) (by decide))) (k := ?_)
              obtain ⟨rfl, rfl⟩ := ret_e hf
              exact bM_copy_97 
            · replace hf := ite_f q274 hf
              obtain ⟨g277_0, hf⟩ := grd_e hf
              refine bM_copy_60 (ct := c_M_isRow (d := d) w x1 (vpb_ok g277_0)) (k := ?_)
              refine bM_copy_65 (kt := fun q278 => ?_) (kf := fun q278 => ?_)
              · replace hf := ite_t q278 hf
                obtain ⟨g279_0, hf⟩ := grd_e hf
                refine bM_copy_98 (y1 := 63) (h3 := (vpb_ok g279_0)) (kt := fun q279 => ?_) (kf := fun q279 => ?_)
                · replace hf := ite_t q279 hf
                  refine bM_copy_116 (ct := c_M_no (d := d) w (-3 : Int32) (vpd (i := (-(-3 : Int32))) (n := 8) (by decide))) (k := ?_)
                  obtain ⟨rfl, rfl⟩ := ret_e hf
                  exact bM_copy_122 
                · replace hf := ite_f q279 hf
                  obtain ⟨g282_0, hf⟩ := grd_e hf
                  refine bM_copy_107 (y1 := 63) (h3 := (vpb_ok g282_0)) (kt := fun q282 => ?_) (kf := fun q282 => ?_)
                  · replace hf := ite_t q282 hf
                    refine bM_copy_123 (kt := fun q283 => ?_) (kf := fun q283 => ?_)
                    · replace hf := ite_t q283 hf
                      refine bM_copy_135 (kt := fun q284 => ?_) (kf := fun q284 => ?_)
                      · replace hf := ite_t q284 hf
                        refine bM_copy_179 (ct := c_M_no (d := d) w (-5 : Int32) (vpd (i := (-(-5 : Int32))) (n := 8) (by decide))) (k := ?_)
                        obtain ⟨rfl, rfl⟩ := ret_e hf
                        exact bM_copy_185 
                      · replace hf := ite_f q284 hf
                        refine bM_copy_139 (kt := fun q287 => ?_) (kf := fun q287 => ?_)
                        · replace hf := ite_t q287 hf
                          refine bM_copy_179 (ct := c_M_no (d := d) w (-5 : Int32) (vpd (i := (-(-5 : Int32))) (n := 8) (by decide))) (k := ?_)
                          obtain ⟨rfl, rfl⟩ := ret_e hf
                          exact bM_copy_185 
                        · replace hf := ite_f q287 hf
                          obtain ⟨g290_0, hf⟩ := grd_e hf
                          refine bM_copy_144 (y1 := 64) (h3 := (vpb_ok g290_0)) (kt := fun q290 => ?_) (kf := fun q290 => ?_)
                          · replace hf := ite_t q290 hf
                            refine bM_copy_179 (ct := c_M_no (d := d) w (-5 : Int32) (vpd (i := (-(-5 : Int32))) (n := 8) (by decide))) (k := ?_)
                            obtain ⟨rfl, rfl⟩ := ret_e hf
                            exact bM_copy_185 
                          · replace hf := ite_f q290 hf
                            obtain ⟨g293_0, hf⟩ := grd_e hf
                            refine bM_copy_161 (y1 := 64) (h3 := (vpb_ok g293_0)) (kt := fun q293 => ?_) (kf := fun q293 => ?_)
                            · replace hf := ite_t q293 hf
                              refine bM_copy_186 (kt := fun q294 => ?_) (kf := fun q294 => ?_)
                              · replace hf := ite_f q294 hf
                                refine bM_copy_248 (k := ?_)
                                exact r_M_copy_251 FU w x1 x2 x3 x4 x5 (0 : Int32) hf
                              · replace hf := ite_t q294 hf
                                refine bM_copy_191 (kt := fun q296 => ?_) (kf := fun q296 => ?_)
                                · replace hf := ite_t q296 hf
                                  refine bM_copy_248 (k := ?_)
                                  exact r_M_copy_251 FU w x1 x2 x3 x4 x5 (0 : Int32) hf
                                · replace hf := ite_f q296 hf
                                  refine bM_copy_197 (k := ?_)
                                  exact r_M_copy_203 FU w x1 x2 x3 x4 (x5 - 1) hf
                            · replace hf := ite_f q293 hf
                              refine bM_copy_179 (ct := c_M_no (d := d) w (-5 : Int32) (vpd (i := (-(-5 : Int32))) (n := 8) (by decide))) (k := ?_)
                              obtain ⟨rfl, rfl⟩ := ret_e hf
                              exact bM_copy_185 
                    · replace hf := ite_f q283 hf
                      refine bM_copy_128 (ct := c_M_no (d := d) w (-4 : Int32) (vpd (i := (-(-4 : Int32))) (n := 8) (by decide))) (k := ?_)
                      obtain ⟨rfl, rfl⟩ := ret_e hf
                      exact bM_copy_134 
                  · replace hf := ite_f q282 hf
                    refine bM_copy_116 (ct := c_M_no (d := d) w (-3 : Int32) (vpd (i := (-(-3 : Int32))) (n := 8) (by decide))) (k := ?_)
                    obtain ⟨rfl, rfl⟩ := ret_e hf
                    exact bM_copy_122 
              · replace hf := ite_f q278 hf
                obtain ⟨g305_0, hf⟩ := grd_e hf
                refine bM_copy_68 (ct := c_M_isRow (d := d) w x2 (vpb_ok g305_0)) (k := ?_)
                refine bM_copy_73 (kt := fun q306 => ?_) (kf := fun q306 => ?_)
                · replace hf := ite_t q306 hf
                  obtain ⟨g307_0, hf⟩ := grd_e hf
                  refine bM_copy_98 (y1 := 63) (h3 := (vpb_ok g307_0)) (kt := fun q307 => ?_) (kf := fun q307 => ?_)
                  · replace hf := ite_t q307 hf
                    refine bM_copy_116 (ct := c_M_no (d := d) w (-3 : Int32) (vpd (i := (-(-3 : Int32))) (n := 8) (by decide))) (k := ?_)
                    obtain ⟨rfl, rfl⟩ := ret_e hf
                    exact bM_copy_122 
                  · replace hf := ite_f q307 hf
                    obtain ⟨g310_0, hf⟩ := grd_e hf
                    refine bM_copy_107 (y1 := 63) (h3 := (vpb_ok g310_0)) (kt := fun q310 => ?_) (kf := fun q310 => ?_)
                    · replace hf := ite_t q310 hf
                      refine bM_copy_123 (kt := fun q311 => ?_) (kf := fun q311 => ?_)
                      · replace hf := ite_t q311 hf
                        refine bM_copy_135 (kt := fun q312 => ?_) (kf := fun q312 => ?_)
                        · replace hf := ite_t q312 hf
                          refine bM_copy_179 (ct := c_M_no (d := d) w (-5 : Int32) (vpd (i := (-(-5 : Int32))) (n := 8) (by decide))) (k := ?_)
                          obtain ⟨rfl, rfl⟩ := ret_e hf
                          exact bM_copy_185 
                        · replace hf := ite_f q312 hf
                          refine bM_copy_139 (kt := fun q315 => ?_) (kf := fun q315 => ?_)
                          · replace hf := ite_t q315 hf
                            refine bM_copy_179 (ct := c_M_no (d := d) w (-5 : Int32) (vpd (i := (-(-5 : Int32))) (n := 8) (by decide))) (k := ?_)
                            obtain ⟨rfl, rfl⟩ := ret_e hf
                            exact bM_copy_185 
                          · replace hf := ite_f q315 hf
                            obtain ⟨g318_0, hf⟩ := grd_e hf
                            refine bM_copy_144 (y1 := 64) (h3 := (vpb_ok g318_0)) (kt := fun q318 => ?_) (kf := fun q318 => ?_)
                            · replace hf := ite_t q318 hf
                              refine bM_copy_179 (ct := c_M_no (d := d) w (-5 : Int32) (vpd (i := (-(-5 : Int32))) (n := 8) (by decide))) (k := ?_)
                              obtain ⟨rfl, rfl⟩ := ret_e hf
                              exact bM_copy_185 
                            · replace hf := ite_f q318 hf
                              obtain ⟨g321_0, hf⟩ := grd_e hf
                              refine bM_copy_161 (y1 := 64) (h3 := (vpb_ok g321_0)) (kt := fun q321 => ?_) (kf := fun q321 => ?_)
                              · replace hf := ite_t q321 hf
                                refine bM_copy_186 (kt := fun q322 => ?_) (kf := fun q322 => ?_)
                                · replace hf := ite_f q322 hf
                                  refine bM_copy_248 (k := ?_)
                                  exact r_M_copy_251 FU w x1 x2 x3 x4 x5 (0 : Int32) hf
                                · replace hf := ite_t q322 hf
                                  refine bM_copy_191 (kt := fun q324 => ?_) (kf := fun q324 => ?_)
                                  · replace hf := ite_t q324 hf
                                    refine bM_copy_248 (k := ?_)
                                    exact r_M_copy_251 FU w x1 x2 x3 x4 x5 (0 : Int32) hf
                                  · replace hf := ite_f q324 hf
                                    refine bM_copy_197 (k := ?_)
                                    exact r_M_copy_203 FU w x1 x2 x3 x4 (x5 - 1) hf
                              · replace hf := ite_f q321 hf
                                refine bM_copy_179 (ct := c_M_no (d := d) w (-5 : Int32) (vpd (i := (-(-5 : Int32))) (n := 8) (by decide))) (k := ?_)
                                obtain ⟨rfl, rfl⟩ := ret_e hf
                                exact bM_copy_185 
                      · replace hf := ite_f q311 hf
                        refine bM_copy_128 (ct := c_M_no (d := d) w (-4 : Int32) (vpd (i := (-(-4 : Int32))) (n := 8) (by decide))) (k := ?_)
                        obtain ⟨rfl, rfl⟩ := ret_e hf
                        exact bM_copy_134 
                    · replace hf := ite_f q310 hf
                      refine bM_copy_116 (ct := c_M_no (d := d) w (-3 : Int32) (vpd (i := (-(-3 : Int32))) (n := 8) (by decide))) (k := ?_)
                      obtain ⟨rfl, rfl⟩ := ret_e hf
                      exact bM_copy_122 
                · replace hf := ite_f q306 hf
                  obtain ⟨g333_0, hf⟩ := grd_e hf
                  obtain ⟨g333_1, hf⟩ := grd_e hf
                  refine bM_copy_76 (y1 := 63) (h3 := (vpb_ok g333_0)) (y2 := 63) (h6 := (vpb_ok g333_1)) (kt := fun q333 => ?_) (kf := fun q333 => ?_)
                  · replace hf := ite_t q333 hf
                    obtain ⟨g334_0, hf⟩ := grd_e hf
                    refine bM_copy_98 (y1 := 63) (h3 := (vpb_ok g334_0)) (kt := fun q334 => ?_) (kf := fun q334 => ?_)
                    · replace hf := ite_t q334 hf
                      refine bM_copy_116 (ct := c_M_no (d := d) w (-3 : Int32) (vpd (i := (-(-3 : Int32))) (n := 8) (by decide))) (k := ?_)
                      obtain ⟨rfl, rfl⟩ := ret_e hf
                      exact bM_copy_122 
                    · replace hf := ite_f q334 hf
                      obtain ⟨g337_0, hf⟩ := grd_e hf
                      refine bM_copy_107 (y1 := 63) (h3 := (vpb_ok g337_0)) (kt := fun q337 => ?_) (kf := fun q337 => ?_)
                      · replace hf := ite_t q337 hf
                        refine bM_copy_123 (kt := fun q338 => ?_) (kf := fun q338 => ?_)
                        · replace hf := ite_t q338 hf
                          refine bM_copy_135 (kt := fun q339 => ?_) (kf := fun q339 => ?_)
                          · replace hf := ite_t q339 hf
                            refine bM_copy_179 (ct := c_M_no (d := d) w (-5 : Int32) (vpd (i := (-(-5 : Int32))) (n := 8) (by decide))) (k := ?_)
                            obtain ⟨rfl, rfl⟩ := ret_e hf
                            exact bM_copy_185 
                          · replace hf := ite_f q339 hf
                            refine bM_copy_139 (kt := fun q342 => ?_) (kf := fun q342 => ?_)
                            · replace hf := ite_t q342 hf
                              refine bM_copy_179 (ct := c_M_no (d := d) w (-5 : Int32) (vpd (i := (-(-5 : Int32))) (n := 8) (by decide))) (k := ?_)
                              obtain ⟨rfl, rfl⟩ := ret_e hf
                              exact bM_copy_185 
                            · replace hf := ite_f q342 hf
                              obtain ⟨g345_0, hf⟩ := grd_e hf
                              refine bM_copy_144 (y1 := 64) (h3 := (vpb_ok g345_0)) (kt := fun q345 => ?_) (kf := fun q345 => ?_)
                              · replace hf := ite_t q345 hf
                                refine bM_copy_179 (ct := c_M_no (d := d) w (-5 : Int32) (vpd (i := (-(-5 : Int32))) (n := 8) (by decide))) (k := ?_)
                                obtain ⟨rfl, rfl⟩ := ret_e hf
                                exact bM_copy_185 
                              · replace hf := ite_f q345 hf
                                obtain ⟨g348_0, hf⟩ := grd_e hf
                                refine bM_copy_161 (y1 := 64) (h3 := (vpb_ok g348_0)) (kt := fun q348 => ?_) (kf := fun q348 => ?_)
                                · replace hf := ite_t q348 hf
                                  refine bM_copy_186 (kt := fun q349 => ?_) (kf := fun q349 => ?_)
                                  · replace hf := ite_f q349 hf
                                    refine bM_copy_248 (k := ?_)
                                    exact r_M_copy_251 FU w x1 x2 x3 x4 x5 (0 : Int32) hf
                                  · replace hf := ite_t q349 hf
                                    refine bM_copy_191 (kt := fun q351 => ?_) (kf := fun q351 => ?_)
                                    · replace hf := ite_t q351 hf
                                      refine bM_copy_248 (k := ?_)
                                      exact r_M_copy_251 FU w x1 x2 x3 x4 x5 (0 : Int32) hf
                                    · replace hf := ite_f q351 hf
                                      refine bM_copy_197 (k := ?_)
                                      exact r_M_copy_203 FU w x1 x2 x3 x4 (x5 - 1) hf
                                · replace hf := ite_f q348 hf
                                  refine bM_copy_179 (ct := c_M_no (d := d) w (-5 : Int32) (vpd (i := (-(-5 : Int32))) (n := 8) (by decide))) (k := ?_)
                                  obtain ⟨rfl, rfl⟩ := ret_e hf
                                  exact bM_copy_185 
                        · replace hf := ite_f q338 hf
                          refine bM_copy_128 (ct := c_M_no (d := d) w (-4 : Int32) (vpd (i := (-(-4 : Int32))) (n := 8) (by decide))) (k := ?_)
                          obtain ⟨rfl, rfl⟩ := ret_e hf
                          exact bM_copy_134 
                      · replace hf := ite_f q337 hf
                        refine bM_copy_116 (ct := c_M_no (d := d) w (-3 : Int32) (vpd (i := (-(-3 : Int32))) (n := 8) (by decide))) (k := ?_)
                        obtain ⟨rfl, rfl⟩ := ret_e hf
                        exact bM_copy_122 
                  · replace hf := ite_f q333 hf
                    refine bM_copy_91 (ct := c_M_no (d := d) w (-2 : Int32) (vpd (i := (-(-2 : Int32))) (n := 8) (by decide))) (k := ?_)
                    obtain ⟨rfl, rfl⟩ := ret_e hf
                    exact bM_copy_97 
    · replace hf := ite_t q6 hf
      refine bM_copy_20 (ct := c_M_no (d := d) w (-1 : Int32) (vpd (i := (-(-1 : Int32))) (n := 8) (by decide))) (k := ?_)
      obtain ⟨rfl, rfl⟩ := ret_e hf
      exact bM_copy_25 
-- M_isUnder
def f_M_isUnder_2 : Nat → MW → Int32 → Int32 → Option RT
  | 0, _, _, _ => none
  | n + 1, w, x1, x2 => if x2 = x1 then (if x2 = x1 then (some (some (.int (1 : Int32)), w)) else (some (some (.int (0 : Int32)), w))) else (if x2 ≤ 0 then (if x2 = x1 then (some (some (.int (1 : Int32)), w)) else (some (some (.int (0 : Int32)), w))) else (f_M_isUnder_2 n w x1 (v_M_above w x2)))
set_option maxHeartbeats 4000000 in
theorem r_M_isUnder_2 {d : Nat} {r : Option Value} {w' : MW} : ∀ (n : Nat) (w : MW) (x1 : Int32) (x2 : Int32), f_M_isUnder_2 n w x1 x2 = some (r, w') → Rn (d + 1) mM_isUnder 2 [none, some (.int x1), some (.int x2)] [] w r w' := by
  intro n
  induction n with
  | zero =>
    intro w x1 x2 hf
    cases hf
  | succ n ih =>
    intro w x1 x2 hf
    rw [f_M_isUnder_2] at hf
    refine bM_isUnder_2 (kt := fun q1 => ?_) (kf := fun q1 => ?_)
    · replace hf := ite_t q1 hf
      refine bM_isUnder_19 (kt := fun q2 => ?_) (kf := fun q2 => ?_)
      · replace hf := ite_f q2 hf
        refine bM_isUnder_28 (k := ?_)
        obtain ⟨rfl, rfl⟩ := ret_e hf
        exact bM_isUnder_29 
      · replace hf := ite_t q2 hf
        refine bM_isUnder_24 (k := ?_)
        obtain ⟨rfl, rfl⟩ := ret_e hf
        exact bM_isUnder_29 
    · replace hf := ite_f q1 hf
      refine bM_isUnder_7 (kt := fun q7 => ?_) (kf := fun q7 => ?_)
      · replace hf := ite_t q7 hf
        refine bM_isUnder_19 (kt := fun q8 => ?_) (kf := fun q8 => ?_)
        · replace hf := ite_f q8 hf
          refine bM_isUnder_28 (k := ?_)
          obtain ⟨rfl, rfl⟩ := ret_e hf
          exact bM_isUnder_29 
        · replace hf := ite_t q8 hf
          refine bM_isUnder_24 (k := ?_)
          obtain ⟨rfl, rfl⟩ := ret_e hf
          exact bM_isUnder_29 
      · replace hf := ite_f q7 hf
        refine bM_isUnder_11 (ct := c_M_above (d := d) w x2) (k := ?_)
        refine bM_isUnder_15 (k := ?_)
        exact ih w x1 (v_M_above w x2) hf
def f_M_isUnder (w : MW) (x0 : Int32) (x1 : Int32) : Option RT := f_M_isUnder_2 FU w x1 x0
set_option maxHeartbeats 4000000 in
theorem c_M_isUnder {d : Nat} {r : Option Value} {w' : MW} (w : MW) (x0 : Int32) (x1 : Int32) (hf : f_M_isUnder w x0 x1 = some (r, w')) : Ct (d + 1) mM_isUnder [.int x0, .int x1] w r w' := by
  refine eM_isUnder ?_
  unfold f_M_isUnder at hf
  refine bM_isUnder_0 (k := ?_)
  exact r_M_isUnder_2 FU w x1 x0 hf
-- M_his
def f_M_his_12 : Nat → MW → Int32 → Int32 → Int32 → Int32 → Int32 → Int32 → Int32 → Option RT
  | 0, _, _, _, _, _, _, _, _ => none
  | n + 1, w, x1, x2, x3, x4, x5, x6, x7 => if (w.1 62 10) ≤ x7 then (some (some (.int x4), w)) else (if (x7 - x7 / 3 * 3) = x3 then (if x1 = 1 then (f_M_his_12 n w x1 x2 x3 (x4 ||| ((1 : Int32) <<< (x7 &&& 31))) x5 x6 (x7 + 1)) else if x1 = 2 then (if x5 < x2 then (if x1 = 5 then (if ((x6 + 1) - (x6 + 1) / 2 * 2) = 1 then (f_M_his_12 n w x1 x2 x3 (x4 ||| ((1 : Int32) <<< (x7 &&& 31))) (x5 + 1) (x6 + 1) (x7 + 1)) else (f_M_his_12 n w x1 x2 x3 x4 (x5 + 1) (x6 + 1) (x7 + 1))) else (f_M_his_12 n w x1 x2 x3 (x4 ||| ((1 : Int32) <<< (x7 &&& 31))) (x5 + 1) (x6 + 1) (x7 + 1))) else (grd (¬ x2 + 2 = 0) (if ((x5 - x2) - (x5 - x2) / (x2 + 2) * (x2 + 2)) = 0 then (if x1 = 5 then (f_M_his_12 n w x1 x2 x3 x4 (x5 + 1) x6 (x7 + 1)) else (f_M_his_12 n w x1 x2 x3 x4 (x5 + 1) x6 (x7 + 1))) else (if x1 = 5 then (if ((x6 + 1) - (x6 + 1) / 2 * 2) = 1 then (f_M_his_12 n w x1 x2 x3 (x4 ||| ((1 : Int32) <<< (x7 &&& 31))) (x5 + 1) (x6 + 1) (x7 + 1)) else (f_M_his_12 n w x1 x2 x3 x4 (x5 + 1) (x6 + 1) (x7 + 1))) else (f_M_his_12 n w x1 x2 x3 (x4 ||| ((1 : Int32) <<< (x7 &&& 31))) (x5 + 1) (x6 + 1) (x7 + 1)))))) else if x1 = 3 then (f_M_his_12 n w x1 x2 x3 (x4 ||| ((1 : Int32) <<< (x7 &&& 31))) x5 x6 (x7 + 1)) else if x1 = 4 then (if x2 ≤ x7 then (if (x7 - x7 / 3 * 3) = ((x3 + 1) - (x3 + 1) / 3 * 3) then (f_M_his_12 n w x1 x2 x3 (x4 ||| ((1 : Int32) <<< (x7 &&& 31))) x5 x6 (x7 + 1)) else (f_M_his_12 n w x1 x2 x3 x4 x5 x6 (x7 + 1))) else (if (x7 - x7 / 3 * 3) = x3 then (f_M_his_12 n w x1 x2 x3 (x4 ||| ((1 : Int32) <<< (x7 &&& 31))) x5 x6 (x7 + 1)) else (f_M_his_12 n w x1 x2 x3 x4 x5 x6 (x7 + 1)))) else if x1 = 5 then (if x5 < x2 then (if x1 = 5 then (if ((x6 + 1) - (x6 + 1) / 2 * 2) = 1 then (f_M_his_12 n w x1 x2 x3 (x4 ||| ((1 : Int32) <<< (x7 &&& 31))) (x5 + 1) (x6 + 1) (x7 + 1)) else (f_M_his_12 n w x1 x2 x3 x4 (x5 + 1) (x6 + 1) (x7 + 1))) else (f_M_his_12 n w x1 x2 x3 (x4 ||| ((1 : Int32) <<< (x7 &&& 31))) (x5 + 1) (x6 + 1) (x7 + 1))) else (grd (¬ x2 + 2 = 0) (if ((x5 - x2) - (x5 - x2) / (x2 + 2) * (x2 + 2)) = 0 then (if x1 = 5 then (f_M_his_12 n w x1 x2 x3 x4 (x5 + 1) x6 (x7 + 1)) else (f_M_his_12 n w x1 x2 x3 x4 (x5 + 1) x6 (x7 + 1))) else (if x1 = 5 then (if ((x6 + 1) - (x6 + 1) / 2 * 2) = 1 then (f_M_his_12 n w x1 x2 x3 (x4 ||| ((1 : Int32) <<< (x7 &&& 31))) (x5 + 1) (x6 + 1) (x7 + 1)) else (f_M_his_12 n w x1 x2 x3 x4 (x5 + 1) (x6 + 1) (x7 + 1))) else (f_M_his_12 n w x1 x2 x3 (x4 ||| ((1 : Int32) <<< (x7 &&& 31))) (x5 + 1) (x6 + 1) (x7 + 1)))))) else if x1 = 6 then (if x2 ≤ x7 then (if (2 * x2) ≤ x7 then (if (x7 - x7 / 3 * 3) = ((x3 + 2) - (x3 + 2) / 3 * 3) then (f_M_his_12 n w x1 x2 x3 (x4 ||| ((1 : Int32) <<< (x7 &&& 31))) x5 x6 (x7 + 1)) else (f_M_his_12 n w x1 x2 x3 x4 x5 x6 (x7 + 1))) else (if (x7 - x7 / 3 * 3) = ((x3 + 1) - (x3 + 1) / 3 * 3) then (f_M_his_12 n w x1 x2 x3 (x4 ||| ((1 : Int32) <<< (x7 &&& 31))) x5 x6 (x7 + 1)) else (f_M_his_12 n w x1 x2 x3 x4 x5 x6 (x7 + 1)))) else (if (x7 - x7 / 3 * 3) = x3 then (f_M_his_12 n w x1 x2 x3 (x4 ||| ((1 : Int32) <<< (x7 &&& 31))) x5 x6 (x7 + 1)) else (f_M_his_12 n w x1 x2 x3 x4 x5 x6 (x7 + 1)))) else (f_M_his_12 n w x1 x2 x3 (x4 ||| ((1 : Int32) <<< (x7 &&& 31))) x5 x6 (x7 + 1))) else (if x1 = 1 then (if x7 < x2 then (f_M_his_12 n w x1 x2 x3 x4 x5 x6 (x7 + 1)) else (if (x7 - x7 / 3 * 3) = ((x3 + 1) - (x3 + 1) / 3 * 3) then (f_M_his_12 n w x1 x2 x3 (x4 ||| ((1 : Int32) <<< (x7 &&& 31))) x5 x6 (x7 + 1)) else (f_M_his_12 n w x1 x2 x3 x4 x5 x6 (x7 + 1)))) else if x1 = 2 then (f_M_his_12 n w x1 x2 x3 x4 x5 x6 (x7 + 1)) else if x1 = 3 then (if x7 < x2 then (f_M_his_12 n w x1 x2 x3 x4 x5 x6 (x7 + 1)) else (f_M_his_12 n w x1 x2 x3 (x4 ||| ((1 : Int32) <<< (x7 &&& 31))) x5 x6 (x7 + 1))) else if x1 = 4 then (if x2 ≤ x7 then (if (x7 - x7 / 3 * 3) = ((x3 + 1) - (x3 + 1) / 3 * 3) then (f_M_his_12 n w x1 x2 x3 (x4 ||| ((1 : Int32) <<< (x7 &&& 31))) x5 x6 (x7 + 1)) else (f_M_his_12 n w x1 x2 x3 x4 x5 x6 (x7 + 1))) else (if (x7 - x7 / 3 * 3) = x3 then (f_M_his_12 n w x1 x2 x3 (x4 ||| ((1 : Int32) <<< (x7 &&& 31))) x5 x6 (x7 + 1)) else (f_M_his_12 n w x1 x2 x3 x4 x5 x6 (x7 + 1)))) else if x1 = 5 then (f_M_his_12 n w x1 x2 x3 x4 x5 x6 (x7 + 1)) else if x1 = 6 then (if x2 ≤ x7 then (if (2 * x2) ≤ x7 then (if (x7 - x7 / 3 * 3) = ((x3 + 2) - (x3 + 2) / 3 * 3) then (f_M_his_12 n w x1 x2 x3 (x4 ||| ((1 : Int32) <<< (x7 &&& 31))) x5 x6 (x7 + 1)) else (f_M_his_12 n w x1 x2 x3 x4 x5 x6 (x7 + 1))) else (if (x7 - x7 / 3 * 3) = ((x3 + 1) - (x3 + 1) / 3 * 3) then (f_M_his_12 n w x1 x2 x3 (x4 ||| ((1 : Int32) <<< (x7 &&& 31))) x5 x6 (x7 + 1)) else (f_M_his_12 n w x1 x2 x3 x4 x5 x6 (x7 + 1)))) else (if (x7 - x7 / 3 * 3) = x3 then (f_M_his_12 n w x1 x2 x3 (x4 ||| ((1 : Int32) <<< (x7 &&& 31))) x5 x6 (x7 + 1)) else (f_M_his_12 n w x1 x2 x3 x4 x5 x6 (x7 + 1)))) else (f_M_his_12 n w x1 x2 x3 x4 x5 x6 (x7 + 1))))
set_option maxHeartbeats 4000000 in
theorem r_M_his_12 {d : Nat} {r : Option Value} {w' : MW} : ∀ (n : Nat) (w : MW) (x1 : Int32) (x2 : Int32) (x3 : Int32) (x4 : Int32) (x5 : Int32) (x6 : Int32) (x7 : Int32), f_M_his_12 n w x1 x2 x3 x4 x5 x6 x7 = some (r, w') → Rn d mM_his 12 [some (.ref 62), some (.int x1), some (.int x2), some (.int x3), some (.int x4), some (.int x5), some (.int x6), some (.int x7), none, none] [] w r w' := by
  intro n
  induction n with
  | zero =>
    intro w x1 x2 x3 x4 x5 x6 x7 hf
    cases hf
  | succ n ih =>
    intro w x1 x2 x3 x4 x5 x6 x7 hf
    rw [f_M_his_12] at hf
    refine bM_his_12 (kt := fun q1 => ?_) (kf := fun q1 => ?_)
    · replace hf := ite_t q1 hf
      obtain ⟨rfl, rfl⟩ := ret_e hf
      exact bM_his_301 
    · replace hf := ite_f q1 hf
      refine bM_his_21 (kt := fun q3 => ?_) (kf := fun q3 => ?_)
      · replace hf := ite_f q3 hf
        refine bM_his_33 (k := ?_)
        refine bM_his_34 (k1 := fun q5_1 => ?_) (k2 := fun q5_2 => ?_) (k3 := fun q5_3 => ?_) (k4 := fun q5_4 => ?_) (k5 := fun q5_5 => ?_) (k6 := fun q5_6 => ?_) (kd := fun q5_1 q5_2 q5_3 q5_4 q5_5 q5_6 => ?_)
        · have hq := q5_1
          replace hf := ite_t hq hf
          refine bM_his_80 (kt := fun q => absurd q (by decide)) (kf := fun _ => ?_)
          refine bM_his_85 (kt := fun q7 => ?_) (kf := fun q7 => ?_)
          · replace hf := ite_t q7 hf
            refine bM_his_107 (k := ?_)
            refine bM_his_108 (k := ?_)
            refine bM_his_281 (kt := fun _ => ?_) (kf := fun q => absurd q (by decide))
            refine bM_his_295 (k := ?_)
            exact ih w x1 x2 x3 x4 x5 x6 (x7 + 1) hf
          · replace hf := ite_f q7 hf
            refine bM_his_91 (kt := fun q12 => ?_) (kf := fun q12 => ?_)
            · replace hf := ite_f q12 hf
              refine bM_his_107 (k := ?_)
              refine bM_his_108 (k := ?_)
              refine bM_his_281 (kt := fun _ => ?_) (kf := fun q => absurd q (by decide))
              refine bM_his_295 (k := ?_)
              exact ih w x1 x2 x3 x4 x5 x6 (x7 + 1) hf
            · replace hf := ite_t q12 hf
              refine bM_his_103 (k := ?_)
              refine bM_his_108 (k := ?_)
              refine bM_his_281 (kt := fun q => absurd q (by decide)) (kf := fun _ => ?_)
              refine bM_his_286 (k := ?_)
              refine bM_his_295 (k := ?_)
              exact ih w x1 x2 x3 (x4 ||| ((1 : Int32) <<< (x7 &&& 31))) x5 x6 (x7 + 1) hf
        · have hq := q5_2
          replace hf := ite_f (by rw [hq]; decide) hf
          replace hf := ite_t hq hf
          refine bM_his_134 (kt := fun q => absurd q (by decide)) (kf := fun _ => ?_)
          refine bM_his_139 (k := ?_)
          refine bM_his_281 (kt := fun _ => ?_) (kf := fun q => absurd q (by decide))
          refine bM_his_295 (k := ?_)
          exact ih w x1 x2 x3 x4 x5 x6 (x7 + 1) hf
        · have hq := q5_3
          replace hf := ite_f (by rw [hq]; decide) hf
          replace hf := ite_f (by rw [hq]; decide) hf
          replace hf := ite_t hq hf
          refine bM_his_113 (kt := fun q => absurd q (by decide)) (kf := fun _ => ?_)
          refine bM_his_118 (kt := fun q27 => ?_) (kf := fun q27 => ?_)
          · replace hf := ite_t q27 hf
            refine bM_his_128 (k := ?_)
            refine bM_his_129 (k := ?_)
            refine bM_his_281 (kt := fun _ => ?_) (kf := fun q => absurd q (by decide))
            refine bM_his_295 (k := ?_)
            exact ih w x1 x2 x3 x4 x5 x6 (x7 + 1) hf
          · replace hf := ite_f q27 hf
            refine bM_his_124 (k := ?_)
            refine bM_his_129 (k := ?_)
            refine bM_his_281 (kt := fun q => absurd q (by decide)) (kf := fun _ => ?_)
            refine bM_his_286 (k := ?_)
            refine bM_his_295 (k := ?_)
            exact ih w x1 x2 x3 (x4 ||| ((1 : Int32) <<< (x7 &&& 31))) x5 x6 (x7 + 1) hf
        · have hq := q5_4
          replace hf := ite_f (by rw [hq]; decide) hf
          replace hf := ite_f (by rw [hq]; decide) hf
          replace hf := ite_f (by rw [hq]; decide) hf
          replace hf := ite_t hq hf
          refine bM_his_205 (kt := fun q37 => ?_) (kf := fun q37 => ?_)
          · replace hf := ite_t q37 hf
            refine bM_his_219 (k := ?_)
            refine bM_his_224 (kt := fun q39 => ?_) (kf := fun q39 => ?_)
            · replace hf := ite_f q39 hf
              refine bM_his_231 (k := ?_)
              refine bM_his_232 (k := ?_)
              refine bM_his_281 (kt := fun _ => ?_) (kf := fun q => absurd q (by decide))
              refine bM_his_295 (k := ?_)
              exact ih w x1 x2 x3 x4 x5 x6 (x7 + 1) hf
            · replace hf := ite_t q39 hf
              refine bM_his_227 (k := ?_)
              refine bM_his_232 (k := ?_)
              refine bM_his_281 (kt := fun q => absurd q (by decide)) (kf := fun _ => ?_)
              refine bM_his_286 (k := ?_)
              refine bM_his_295 (k := ?_)
              exact ih w x1 x2 x3 (x4 ||| ((1 : Int32) <<< (x7 &&& 31))) x5 x6 (x7 + 1) hf
          · replace hf := ite_f q37 hf
            refine bM_his_215 (k := ?_)
            refine bM_his_224 (kt := fun q50 => ?_) (kf := fun q50 => ?_)
            · replace hf := ite_f q50 hf
              refine bM_his_231 (k := ?_)
              refine bM_his_232 (k := ?_)
              refine bM_his_281 (kt := fun _ => ?_) (kf := fun q => absurd q (by decide))
              refine bM_his_295 (k := ?_)
              exact ih w x1 x2 x3 x4 x5 x6 (x7 + 1) hf
            · replace hf := ite_t q50 hf
              refine bM_his_227 (k := ?_)
              refine bM_his_232 (k := ?_)
              refine bM_his_281 (kt := fun q => absurd q (by decide)) (kf := fun _ => ?_)
              refine bM_his_286 (k := ?_)
              refine bM_his_295 (k := ?_)
              exact ih w x1 x2 x3 (x4 ||| ((1 : Int32) <<< (x7 &&& 31))) x5 x6 (x7 + 1) hf
        · have hq := q5_5
          replace hf := ite_f (by rw [hq]; decide) hf
          replace hf := ite_f (by rw [hq]; decide) hf
          replace hf := ite_f (by rw [hq]; decide) hf
          replace hf := ite_f (by rw [hq]; decide) hf
          replace hf := ite_t hq hf
          refine bM_his_134 (kt := fun q => absurd q (by decide)) (kf := fun _ => ?_)
          refine bM_his_139 (k := ?_)
          refine bM_his_281 (kt := fun _ => ?_) (kf := fun q => absurd q (by decide))
          refine bM_his_295 (k := ?_)
          exact ih w x1 x2 x3 x4 x5 x6 (x7 + 1) hf
        · have hq := q5_6
          replace hf := ite_f (by rw [hq]; decide) hf
          replace hf := ite_f (by rw [hq]; decide) hf
          replace hf := ite_f (by rw [hq]; decide) hf
          replace hf := ite_f (by rw [hq]; decide) hf
          replace hf := ite_f (by rw [hq]; decide) hf
          replace hf := ite_t hq hf
          refine bM_his_237 (kt := fun q64 => ?_) (kf := fun q64 => ?_)
          · replace hf := ite_t q64 hf
            refine bM_his_251 (kt := fun q65 => ?_) (kf := fun q65 => ?_)
            · replace hf := ite_t q65 hf
              refine bM_his_264 (k := ?_)
              refine bM_his_265 (k := ?_)
              refine bM_his_268 (kt := fun q68 => ?_) (kf := fun q68 => ?_)
              · replace hf := ite_f q68 hf
                refine bM_his_275 (k := ?_)
                refine bM_his_276 (k := ?_)
                refine bM_his_281 (kt := fun _ => ?_) (kf := fun q => absurd q (by decide))
                refine bM_his_295 (k := ?_)
                exact ih w x1 x2 x3 x4 x5 x6 (x7 + 1) hf
              · replace hf := ite_t q68 hf
                refine bM_his_271 (k := ?_)
                refine bM_his_276 (k := ?_)
                refine bM_his_281 (kt := fun q => absurd q (by decide)) (kf := fun _ => ?_)
                refine bM_his_286 (k := ?_)
                refine bM_his_295 (k := ?_)
                exact ih w x1 x2 x3 (x4 ||| ((1 : Int32) <<< (x7 &&& 31))) x5 x6 (x7 + 1) hf
            · replace hf := ite_f q65 hf
              refine bM_his_260 (k := ?_)
              refine bM_his_265 (k := ?_)
              refine bM_his_268 (kt := fun q80 => ?_) (kf := fun q80 => ?_)
              · replace hf := ite_f q80 hf
                refine bM_his_275 (k := ?_)
                refine bM_his_276 (k := ?_)
                refine bM_his_281 (kt := fun _ => ?_) (kf := fun q => absurd q (by decide))
                refine bM_his_295 (k := ?_)
                exact ih w x1 x2 x3 x4 x5 x6 (x7 + 1) hf
              · replace hf := ite_t q80 hf
                refine bM_his_271 (k := ?_)
                refine bM_his_276 (k := ?_)
                refine bM_his_281 (kt := fun q => absurd q (by decide)) (kf := fun _ => ?_)
                refine bM_his_286 (k := ?_)
                refine bM_his_295 (k := ?_)
                exact ih w x1 x2 x3 (x4 ||| ((1 : Int32) <<< (x7 &&& 31))) x5 x6 (x7 + 1) hf
          · replace hf := ite_f q64 hf
            refine bM_his_247 (k := ?_)
            refine bM_his_268 (kt := fun q91 => ?_) (kf := fun q91 => ?_)
            · replace hf := ite_f q91 hf
              refine bM_his_275 (k := ?_)
              refine bM_his_276 (k := ?_)
              refine bM_his_281 (kt := fun _ => ?_) (kf := fun q => absurd q (by decide))
              refine bM_his_295 (k := ?_)
              exact ih w x1 x2 x3 x4 x5 x6 (x7 + 1) hf
            · replace hf := ite_t q91 hf
              refine bM_his_271 (k := ?_)
              refine bM_his_276 (k := ?_)
              refine bM_his_281 (kt := fun q => absurd q (by decide)) (kf := fun _ => ?_)
              refine bM_his_286 (k := ?_)
              refine bM_his_295 (k := ?_)
              exact ih w x1 x2 x3 (x4 ||| ((1 : Int32) <<< (x7 &&& 31))) x5 x6 (x7 + 1) hf
        · replace hf := ite_f q5_1 hf
          replace hf := ite_f q5_2 hf
          replace hf := ite_f q5_3 hf
          replace hf := ite_f q5_4 hf
          replace hf := ite_f q5_5 hf
          replace hf := ite_f q5_6 hf
          refine bM_his_281 (kt := fun _ => ?_) (kf := fun q => absurd q (by decide))
          refine bM_his_295 (k := ?_)
          exact ih w x1 x2 x3 x4 x5 x6 (x7 + 1) hf
      · replace hf := ite_t q3 hf
        refine bM_his_29 (k := ?_)
        refine bM_his_34 (k1 := fun q104_1 => ?_) (k2 := fun q104_2 => ?_) (k3 := fun q104_3 => ?_) (k4 := fun q104_4 => ?_) (k5 := fun q104_5 => ?_) (k6 := fun q104_6 => ?_) (kd := fun q104_1 q104_2 q104_3 q104_4 q104_5 q104_6 => ?_)
        · have hq := q104_1
          replace hf := ite_t hq hf
          refine bM_his_80 (kt := fun _ => ?_) (kf := fun q => absurd q (by decide))
          refine bM_his_103 (k := ?_)
          refine bM_his_108 (k := ?_)
          refine bM_his_281 (kt := fun q => absurd q (by decide)) (kf := fun _ => ?_)
          refine bM_his_286 (k := ?_)
          refine bM_his_295 (k := ?_)
          exact ih w x1 x2 x3 (x4 ||| ((1 : Int32) <<< (x7 &&& 31))) x5 x6 (x7 + 1) hf
        · have hq := q104_2
          replace hf := ite_f (by rw [hq]; decide) hf
          replace hf := ite_t hq hf
          refine bM_his_134 (kt := fun _ => ?_) (kf := fun q => absurd q (by decide))
          refine bM_his_142 (kt := fun q112 => ?_) (kf := fun q112 => ?_)
          · replace hf := ite_t q112 hf
            refine bM_his_159 (k := ?_)
            refine bM_his_164 (kt := fun q => absurd q (by decide)) (kf := fun _ => ?_)
            refine bM_his_174 (k := ?_)
            refine bM_his_177 (kt := fun q116 => ?_) (kf := fun q116 => ?_)
            · replace hf := ite_f q116 hf
              refine bM_his_281 (kt := fun q => absurd q (by decide)) (kf := fun _ => ?_)
              refine bM_his_286 (k := ?_)
              refine bM_his_295 (k := ?_)
              exact ih w x1 x2 x3 (x4 ||| ((1 : Int32) <<< (x7 &&& 31))) (x5 + 1) (x6 + 1) (x7 + 1) hf
            · replace hf := ite_t q116 hf
              refine bM_his_182 (kt := fun q => absurd q (by decide)) (kf := fun _ => ?_)
              refine bM_his_187 (kt := fun q121 => ?_) (kf := fun q121 => ?_)
              · replace hf := ite_f q121 hf
                refine bM_his_199 (k := ?_)
                refine bM_his_200 (k := ?_)
                refine bM_his_281 (kt := fun _ => ?_) (kf := fun q => absurd q (by decide))
                refine bM_his_295 (k := ?_)
                exact ih w x1 x2 x3 x4 (x5 + 1) (x6 + 1) (x7 + 1) hf
              · replace hf := ite_t q121 hf
                refine bM_his_195 (k := ?_)
                refine bM_his_200 (k := ?_)
                refine bM_his_281 (kt := fun q => absurd q (by decide)) (kf := fun _ => ?_)
                refine bM_his_286 (k := ?_)
                refine bM_his_295 (k := ?_)
                exact ih w x1 x2 x3 (x4 ||| ((1 : Int32) <<< (x7 &&& 31))) (x5 + 1) (x6 + 1) (x7 + 1) hf
          · replace hf := ite_f q112 hf
            obtain ⟨g131_0, hf⟩ := grd_e hf
            refine bM_his_148 (h1 := g131_0) (kt := fun q131 => ?_) (kf := fun q131 => ?_)
            · replace hf := ite_t q131 hf
              refine bM_his_163 (k := ?_)
              refine bM_his_164 (kt := fun _ => ?_) (kf := fun q => absurd q (by decide))
              refine bM_his_177 (kt := fun q134 => ?_) (kf := fun q134 => ?_)
              · replace hf := ite_f q134 hf
                refine bM_his_281 (kt := fun _ => ?_) (kf := fun q => absurd q (by decide))
                refine bM_his_295 (k := ?_)
                exact ih w x1 x2 x3 x4 (x5 + 1) x6 (x7 + 1) hf
              · replace hf := ite_t q134 hf
                refine bM_his_182 (kt := fun _ => ?_) (kf := fun q => absurd q (by decide))
                refine bM_his_199 (k := ?_)
                refine bM_his_200 (k := ?_)
                refine bM_his_281 (kt := fun _ => ?_) (kf := fun q => absurd q (by decide))
                refine bM_his_295 (k := ?_)
                exact ih w x1 x2 x3 x4 (x5 + 1) x6 (x7 + 1) hf
            · replace hf := ite_f q131 hf
              refine bM_his_159 (k := ?_)
              refine bM_his_164 (kt := fun q => absurd q (by decide)) (kf := fun _ => ?_)
              refine bM_his_174 (k := ?_)
              refine bM_his_177 (kt := fun q145 => ?_) (kf := fun q145 => ?_)
              · replace hf := ite_f q145 hf
                refine bM_his_281 (kt := fun q => absurd q (by decide)) (kf := fun _ => ?_)
                refine bM_his_286 (k := ?_)
                refine bM_his_295 (k := ?_)
                exact ih w x1 x2 x3 (x4 ||| ((1 : Int32) <<< (x7 &&& 31))) (x5 + 1) (x6 + 1) (x7 + 1) hf
              · replace hf := ite_t q145 hf
                refine bM_his_182 (kt := fun q => absurd q (by decide)) (kf := fun _ => ?_)
                refine bM_his_187 (kt := fun q150 => ?_) (kf := fun q150 => ?_)
                · replace hf := ite_f q150 hf
                  refine bM_his_199 (k := ?_)
                  refine bM_his_200 (k := ?_)
                  refine bM_his_281 (kt := fun _ => ?_) (kf := fun q => absurd q (by decide))
                  refine bM_his_295 (k := ?_)
                  exact ih w x1 x2 x3 x4 (x5 + 1) (x6 + 1) (x7 + 1) hf
                · replace hf := ite_t q150 hf
                  refine bM_his_195 (k := ?_)
                  refine bM_his_200 (k := ?_)
                  refine bM_his_281 (kt := fun q => absurd q (by decide)) (kf := fun _ => ?_)
                  refine bM_his_286 (k := ?_)
                  refine bM_his_295 (k := ?_)
                  exact ih w x1 x2 x3 (x4 ||| ((1 : Int32) <<< (x7 &&& 31))) (x5 + 1) (x6 + 1) (x7 + 1) hf
        · have hq := q104_3
          replace hf := ite_f (by rw [hq]; decide) hf
          replace hf := ite_f (by rw [hq]; decide) hf
          replace hf := ite_t hq hf
          refine bM_his_113 (kt := fun _ => ?_) (kf := fun q => absurd q (by decide))
          refine bM_his_124 (k := ?_)
          refine bM_his_129 (k := ?_)
          refine bM_his_281 (kt := fun q => absurd q (by decide)) (kf := fun _ => ?_)
          refine bM_his_286 (k := ?_)
          refine bM_his_295 (k := ?_)
          exact ih w x1 x2 x3 (x4 ||| ((1 : Int32) <<< (x7 &&& 31))) x5 x6 (x7 + 1) hf
        · have hq := q104_4
          replace hf := ite_f (by rw [hq]; decide) hf
          replace hf := ite_f (by rw [hq]; decide) hf
          replace hf := ite_f (by rw [hq]; decide) hf
          replace hf := ite_t hq hf
          refine bM_his_205 (kt := fun q166 => ?_) (kf := fun q166 => ?_)
          · replace hf := ite_t q166 hf
            refine bM_his_219 (k := ?_)
            refine bM_his_224 (kt := fun q168 => ?_) (kf := fun q168 => ?_)
            · replace hf := ite_f q168 hf
              refine bM_his_231 (k := ?_)
              refine bM_his_232 (k := ?_)
              refine bM_his_281 (kt := fun _ => ?_) (kf := fun q => absurd q (by decide))
              refine bM_his_295 (k := ?_)
              exact ih w x1 x2 x3 x4 x5 x6 (x7 + 1) hf
            · replace hf := ite_t q168 hf
              refine bM_his_227 (k := ?_)
              refine bM_his_232 (k := ?_)
              refine bM_his_281 (kt := fun q => absurd q (by decide)) (kf := fun _ => ?_)
              refine bM_his_286 (k := ?_)
              refine bM_his_295 (k := ?_)
              exact ih w x1 x2 x3 (x4 ||| ((1 : Int32) <<< (x7 &&& 31))) x5 x6 (x7 + 1) hf
          · replace hf := ite_f q166 hf
            refine bM_his_215 (k := ?_)
            refine bM_his_224 (kt := fun q179 => ?_) (kf := fun q179 => ?_)
            · replace hf := ite_f q179 hf
              refine bM_his_231 (k := ?_)
              refine bM_his_232 (k := ?_)
              refine bM_his_281 (kt := fun _ => ?_) (kf := fun q => absurd q (by decide))
              refine bM_his_295 (k := ?_)
              exact ih w x1 x2 x3 x4 x5 x6 (x7 + 1) hf
            · replace hf := ite_t q179 hf
              refine bM_his_227 (k := ?_)
              refine bM_his_232 (k := ?_)
              refine bM_his_281 (kt := fun q => absurd q (by decide)) (kf := fun _ => ?_)
              refine bM_his_286 (k := ?_)
              refine bM_his_295 (k := ?_)
              exact ih w x1 x2 x3 (x4 ||| ((1 : Int32) <<< (x7 &&& 31))) x5 x6 (x7 + 1) hf
        · have hq := q104_5
          replace hf := ite_f (by rw [hq]; decide) hf
          replace hf := ite_f (by rw [hq]; decide) hf
          replace hf := ite_f (by rw [hq]; decide) hf
          replace hf := ite_f (by rw [hq]; decide) hf
          replace hf := ite_t hq hf
          refine bM_his_134 (kt := fun _ => ?_) (kf := fun q => absurd q (by decide))
          refine bM_his_142 (kt := fun q190 => ?_) (kf := fun q190 => ?_)
          · replace hf := ite_t q190 hf
            refine bM_his_159 (k := ?_)
            refine bM_his_164 (kt := fun q => absurd q (by decide)) (kf := fun _ => ?_)
            refine bM_his_174 (k := ?_)
            refine bM_his_177 (kt := fun q194 => ?_) (kf := fun q194 => ?_)
            · replace hf := ite_f q194 hf
              refine bM_his_281 (kt := fun q => absurd q (by decide)) (kf := fun _ => ?_)
              refine bM_his_286 (k := ?_)
              refine bM_his_295 (k := ?_)
              exact ih w x1 x2 x3 (x4 ||| ((1 : Int32) <<< (x7 &&& 31))) (x5 + 1) (x6 + 1) (x7 + 1) hf
            · replace hf := ite_t q194 hf
              refine bM_his_182 (kt := fun q => absurd q (by decide)) (kf := fun _ => ?_)
              refine bM_his_187 (kt := fun q199 => ?_) (kf := fun q199 => ?_)
              · replace hf := ite_f q199 hf
                refine bM_his_199 (k := ?_)
                refine bM_his_200 (k := ?_)
                refine bM_his_281 (kt := fun _ => ?_) (kf := fun q => absurd q (by decide))
                refine bM_his_295 (k := ?_)
                exact ih w x1 x2 x3 x4 (x5 + 1) (x6 + 1) (x7 + 1) hf
              · replace hf := ite_t q199 hf
                refine bM_his_195 (k := ?_)
                refine bM_his_200 (k := ?_)
                refine bM_his_281 (kt := fun q => absurd q (by decide)) (kf := fun _ => ?_)
                refine bM_his_286 (k := ?_)
                refine bM_his_295 (k := ?_)
                exact ih w x1 x2 x3 (x4 ||| ((1 : Int32) <<< (x7 &&& 31))) (x5 + 1) (x6 + 1) (x7 + 1) hf
          · replace hf := ite_f q190 hf
            obtain ⟨g209_0, hf⟩ := grd_e hf
            refine bM_his_148 (h1 := g209_0) (kt := fun q209 => ?_) (kf := fun q209 => ?_)
            · replace hf := ite_t q209 hf
              refine bM_his_163 (k := ?_)
              refine bM_his_164 (kt := fun _ => ?_) (kf := fun q => absurd q (by decide))
              refine bM_his_177 (kt := fun q212 => ?_) (kf := fun q212 => ?_)
              · replace hf := ite_f q212 hf
                refine bM_his_281 (kt := fun _ => ?_) (kf := fun q => absurd q (by decide))
                refine bM_his_295 (k := ?_)
                exact ih w x1 x2 x3 x4 (x5 + 1) x6 (x7 + 1) hf
              · replace hf := ite_t q212 hf
                refine bM_his_182 (kt := fun _ => ?_) (kf := fun q => absurd q (by decide))
                refine bM_his_199 (k := ?_)
                refine bM_his_200 (k := ?_)
                refine bM_his_281 (kt := fun _ => ?_) (kf := fun q => absurd q (by decide))
                refine bM_his_295 (k := ?_)
                exact ih w x1 x2 x3 x4 (x5 + 1) x6 (x7 + 1) hf
            · replace hf := ite_f q209 hf
              refine bM_his_159 (k := ?_)
              refine bM_his_164 (kt := fun q => absurd q (by decide)) (kf := fun _ => ?_)
              refine bM_his_174 (k := ?_)
              refine bM_his_177 (kt := fun q223 => ?_) (kf := fun q223 => ?_)
              · replace hf := ite_f q223 hf
                refine bM_his_281 (kt := fun q => absurd q (by decide)) (kf := fun _ => ?_)
                refine bM_his_286 (k := ?_)
                refine bM_his_295 (k := ?_)
                exact ih w x1 x2 x3 (x4 ||| ((1 : Int32) <<< (x7 &&& 31))) (x5 + 1) (x6 + 1) (x7 + 1) hf
              · replace hf := ite_t q223 hf
                refine bM_his_182 (kt := fun q => absurd q (by decide)) (kf := fun _ => ?_)
                refine bM_his_187 (kt := fun q228 => ?_) (kf := fun q228 => ?_)
                · replace hf := ite_f q228 hf
                  refine bM_his_199 (k := ?_)
                  refine bM_his_200 (k := ?_)
                  refine bM_his_281 (kt := fun _ => ?_) (kf := fun q => absurd q (by decide))
                  refine bM_his_295 (k := ?_)
                  exact ih w x1 x2 x3 x4 (x5 + 1) (x6 + 1) (x7 + 1) hf
                · replace hf := ite_t q228 hf
                  refine bM_his_195 (k := ?_)
                  refine bM_his_200 (k := ?_)
                  refine bM_his_281 (kt := fun q => absurd q (by decide)) (kf := fun _ => ?_)
                  refine bM_his_286 (k := ?_)
                  refine bM_his_295 (k := ?_)
                  exact ih w x1 x2 x3 (x4 ||| ((1 : Int32) <<< (x7 &&& 31))) (x5 + 1) (x6 + 1) (x7 + 1) hf
        · have hq := q104_6
          replace hf := ite_f (by rw [hq]; decide) hf
          replace hf := ite_f (by rw [hq]; decide) hf
          replace hf := ite_f (by rw [hq]; decide) hf
          replace hf := ite_f (by rw [hq]; decide) hf
          replace hf := ite_f (by rw [hq]; decide) hf
          replace hf := ite_t hq hf
          refine bM_his_237 (kt := fun q238 => ?_) (kf := fun q238 => ?_)
          · replace hf := ite_t q238 hf
            refine bM_his_251 (kt := fun q239 => ?_) (kf := fun q239 => ?_)
            · replace hf := ite_t q239 hf
              refine bM_his_264 (k := ?_)
              refine bM_his_265 (k := ?_)
              refine bM_his_268 (kt := fun q242 => ?_) (kf := fun q242 => ?_)
              · replace hf := ite_f q242 hf
                refine bM_his_275 (k := ?_)
                refine bM_his_276 (k := ?_)
                refine bM_his_281 (kt := fun _ => ?_) (kf := fun q => absurd q (by decide))
                refine bM_his_295 (k := ?_)
                exact ih w x1 x2 x3 x4 x5 x6 (x7 + 1) hf
              · replace hf := ite_t q242 hf
                refine bM_his_271 (k := ?_)
                refine bM_his_276 (k := ?_)
                refine bM_his_281 (kt := fun q => absurd q (by decide)) (kf := fun _ => ?_)
                refine bM_his_286 (k := ?_)
                refine bM_his_295 (k := ?_)
                exact ih w x1 x2 x3 (x4 ||| ((1 : Int32) <<< (x7 &&& 31))) x5 x6 (x7 + 1) hf
            · replace hf := ite_f q239 hf
              refine bM_his_260 (k := ?_)
              refine bM_his_265 (k := ?_)
              refine bM_his_268 (kt := fun q254 => ?_) (kf := fun q254 => ?_)
              · replace hf := ite_f q254 hf
                refine bM_his_275 (k := ?_)
                refine bM_his_276 (k := ?_)
                refine bM_his_281 (kt := fun _ => ?_) (kf := fun q => absurd q (by decide))
                refine bM_his_295 (k := ?_)
                exact ih w x1 x2 x3 x4 x5 x6 (x7 + 1) hf
              · replace hf := ite_t q254 hf
                refine bM_his_271 (k := ?_)
                refine bM_his_276 (k := ?_)
                refine bM_his_281 (kt := fun q => absurd q (by decide)) (kf := fun _ => ?_)
                refine bM_his_286 (k := ?_)
                refine bM_his_295 (k := ?_)
                exact ih w x1 x2 x3 (x4 ||| ((1 : Int32) <<< (x7 &&& 31))) x5 x6 (x7 + 1) hf
          · replace hf := ite_f q238 hf
            refine bM_his_247 (k := ?_)
            refine bM_his_268 (kt := fun q265 => ?_) (kf := fun q265 => ?_)
            · replace hf := ite_f q265 hf
              refine bM_his_275 (k := ?_)
              refine bM_his_276 (k := ?_)
              refine bM_his_281 (kt := fun _ => ?_) (kf := fun q => absurd q (by decide))
              refine bM_his_295 (k := ?_)
              exact ih w x1 x2 x3 x4 x5 x6 (x7 + 1) hf
            · replace hf := ite_t q265 hf
              refine bM_his_271 (k := ?_)
              refine bM_his_276 (k := ?_)
              refine bM_his_281 (kt := fun q => absurd q (by decide)) (kf := fun _ => ?_)
              refine bM_his_286 (k := ?_)
              refine bM_his_295 (k := ?_)
              exact ih w x1 x2 x3 (x4 ||| ((1 : Int32) <<< (x7 &&& 31))) x5 x6 (x7 + 1) hf
        · replace hf := ite_f q104_1 hf
          replace hf := ite_f q104_2 hf
          replace hf := ite_f q104_3 hf
          replace hf := ite_f q104_4 hf
          replace hf := ite_f q104_5 hf
          replace hf := ite_f q104_6 hf
          refine bM_his_281 (kt := fun q => absurd q (by decide)) (kf := fun _ => ?_)
          refine bM_his_286 (k := ?_)
          refine bM_his_295 (k := ?_)
          exact ih w x1 x2 x3 (x4 ||| ((1 : Int32) <<< (x7 &&& 31))) x5 x6 (x7 + 1) hf
def f_M_his (w : MW) (x1 : Int32) (x2 : Int32) (x3 : Int32) : Option RT := f_M_his_12 FU w x1 x2 x3 (0 : Int32) (0 : Int32) (0 : Int32) (0 : Int32)
set_option maxHeartbeats 4000000 in
theorem c_M_his {d : Nat} {r : Option Value} {w' : MW} (w : MW) (x1 : Int32) (x2 : Int32) (x3 : Int32) (hf : f_M_his w x1 x2 x3 = some (r, w')) : Ct d mM_his [.ref 62, .int x1, .int x2, .int x3] w r w' := by
  refine eM_his ?_
  unfold f_M_his at hf
  refine bM_his_0 (k := ?_)
  exact r_M_his_12 FU w x1 x2 x3 (0 : Int32) (0 : Int32) (0 : Int32) (0 : Int32) hf
