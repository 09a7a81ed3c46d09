-- JL_bitCount
def f_JL_bitCount (w : MW) (z0 : Int64) : Option RT := some (some (.int ((((((((((z0 - ((lush z0 1) &&& 6148914691236517205)) &&& 3689348814741910323) + ((lush (z0 - ((lush z0 1) &&& 6148914691236517205)) 2) &&& 3689348814741910323)) + (lush (((z0 - ((lush z0 1) &&& 6148914691236517205)) &&& 3689348814741910323) + ((lush (z0 - ((lush z0 1) &&& 6148914691236517205)) 2) &&& 3689348814741910323)) 4)) &&& 1085102592571150095) + (lush (((((z0 - ((lush z0 1) &&& 6148914691236517205)) &&& 3689348814741910323) + ((lush (z0 - ((lush z0 1) &&& 6148914691236517205)) 2) &&& 3689348814741910323)) + (lush (((z0 - ((lush z0 1) &&& 6148914691236517205)) &&& 3689348814741910323) + ((lush (z0 - ((lush z0 1) &&& 6148914691236517205)) 2) &&& 3689348814741910323)) 4)) &&& 1085102592571150095) 8)) + (lush ((((((z0 - ((lush z0 1) &&& 6148914691236517205)) &&& 3689348814741910323) + ((lush (z0 - ((lush z0 1) &&& 6148914691236517205)) 2) &&& 3689348814741910323)) + (lush (((z0 - ((lush z0 1) &&& 6148914691236517205)) &&& 3689348814741910323) + ((lush (z0 - ((lush z0 1) &&& 6148914691236517205)) 2) &&& 3689348814741910323)) 4)) &&& 1085102592571150095) + (lush (((((z0 - ((lush z0 1) &&& 6148914691236517205)) &&& 3689348814741910323) + ((lush (z0 - ((lush z0 1) &&& 6148914691236517205)) 2) &&& 3689348814741910323)) + (lush (((z0 - ((lush z0 1) &&& 6148914691236517205)) &&& 3689348814741910323) + ((lush (z0 - ((lush z0 1) &&& 6148914691236517205)) 2) &&& 3689348814741910323)) 4)) &&& 1085102592571150095) 8)) 16)) + (lush (((((((z0 - ((lush z0 1) &&& 6148914691236517205)) &&& 3689348814741910323) + ((lush (z0 - ((lush z0 1) &&& 6148914691236517205)) 2) &&& 3689348814741910323)) + (lush (((z0 - ((lush z0 1) &&& 6148914691236517205)) &&& 3689348814741910323) + ((lush (z0 - ((lush z0 1) &&& 6148914691236517205)) 2) &&& 3689348814741910323)) 4)) &&& 1085102592571150095) + (lush (((((z0 - ((lush z0 1) &&& 6148914691236517205)) &&& 3689348814741910323) + ((lush (z0 - ((lush z0 1) &&& 6148914691236517205)) 2) &&& 3689348814741910323)) + (lush (((z0 - ((lush z0 1) &&& 6148914691236517205)) &&& 3689348814741910323) + ((lush (z0 - ((lush z0 1) &&& 6148914691236517205)) 2) &&& 3689348814741910323)) 4)) &&& 1085102592571150095) 8)) + (lush ((((((z0 - ((lush z0 1) &&& 6148914691236517205)) &&& 3689348814741910323) + ((lush (z0 - ((lush z0 1) &&& 6148914691236517205)) 2) &&& 3689348814741910323)) + (lush (((z0 - ((lush z0 1) &&& 6148914691236517205)) &&& 3689348814741910323) + ((lush (z0 - ((lush z0 1) &&& 6148914691236517205)) 2) &&& 3689348814741910323)) 4)) &&& 1085102592571150095) + (lush (((((z0 - ((lush z0 1) &&& 6148914691236517205)) &&& 3689348814741910323) + ((lush (z0 - ((lush z0 1) &&& 6148914691236517205)) 2) &&& 3689348814741910323)) + (lush (((z0 - ((lush z0 1) &&& 6148914691236517205)) &&& 3689348814741910323) + ((lush (z0 - ((lush z0 1) &&& 6148914691236517205)) 2) &&& 3689348814741910323)) 4)) &&& 1085102592571150095) 8)) 16)) 32)).toInt32) &&& 127)), w)
set_option maxHeartbeats 4000000 in
theorem c_JL_bitCount {d : Nat} {r : Option Value} {w' : MW} (w : MW) (z0 : Int64) (hf : f_JL_bitCount w z0 = some (r, w')) : Ct d mJL_bitCount [.long z0] w r w' := by
  refine eJL_bitCount ?_
  unfold f_JL_bitCount at hf
  obtain ⟨rfl, rfl⟩ := ret_e hf
  exact bJL_bitCount_0 
-- Cl_isJust
def f_Cl_isJust_19 (a1 : Nat) (a3 : Nat) : Nat → MW → Int32 → Int32 → Int32 → Option RT
  | 0, _, _, _, _ => none
  | n + 1, w, x2, x4, x5 => if (w.1 a1 3) ≤ x5 then (some (some (.int (1 : Int32)), w)) else (if ((ush x2 x5) &&& 1) = 0 then (f_Cl_isJust_19 a1 a3 n w x2 x4 (x5 + 1)) else (grd (¬ x4 < 0 → ¬ (w.1 a3 1) ≤ x4 → vpb x4 160 = true) (grd (vpb x5 30 = true) (if (v_Sh_asInt w a3 x4) = (w.1 (a1 + 10) x5.toNatClampNeg) then (f_Cl_isJust_19 a1 a3 n w x2 (x4 + 1) (x5 + 1)) else (some (some (.int (0 : Int32)), w))))))
set_option maxHeartbeats 4000000 in
theorem r_Cl_isJust_19 {d : Nat} {r : Option Value} {w' : MW} (a1 : Nat) (a3 : Nat) (c1 : isCt a1) (c3 : isSh a3) : ∀ (n : Nat) (w : MW) (x2 : Int32) (x4 : Int32) (x5 : Int32), f_Cl_isJust_19 a1 a3 n w x2 x4 x5 = some (r, w') → Rn (d + 1) mCl_isJust 19 [none, some (.ref a1), some (.int x2), some (.ref a3), some (.int x4), some (.int x5)] [] w r w' := by
  intro n
  induction n with
  | zero =>
    intro w x2 x4 x5 hf
    cases hf
  | succ n ih =>
    intro w x2 x4 x5 hf
    rw [f_Cl_isJust_19] at hf
    refine bCl_isJust_19 (h1 := ct_g3 c1) (kt := fun q1 => ?_) (kf := fun q1 => ?_)
    · replace hf := ite_t q1 hf
      obtain ⟨rfl, rfl⟩ := ret_e hf
      exact bCl_isJust_67 
    · replace hf := ite_f q1 hf
      refine bCl_isJust_28 (kt := fun q3 => ?_) (kf := fun q3 => ?_)
      · replace hf := ite_f q3 hf
        obtain ⟨g4_0, hf⟩ := grd_e hf
        refine bCl_isJust_40 (h1 := sh_k c3) (ct := c_Sh_asInt (d := d) w a3 x4 c3 (fun z0 z1 => vpb_ok (g4_0 z0 z1))) (k := ?_)
        obtain ⟨g5_0, hf⟩ := grd_e hf
        refine bCl_isJust_46 (y1 := a1 + 10) (h1 := ct_r2 c1) (h2 := Or.inl (ct_k10 c1)) (h3 := al_in (ct_k10 c1) (ct_l30 c1) (vpb_ok g5_0)) (kt := fun q5 => ?_) (kf := fun q5 => ?_)
        · replace hf := ite_t q5 hf
          refine bCl_isJust_58 (k := ?_)
          refine bCl_isJust_61 (k := ?_)
          exact ih w x2 (x4 + 1) (x5 + 1) hf
        · replace hf := ite_f q5 hf
          obtain ⟨rfl, rfl⟩ := ret_e hf
          exact bCl_isJust_56 
      · replace hf := ite_t q3 hf
        refine bCl_isJust_37 (k := ?_)
        refine bCl_isJust_61 (k := ?_)
        exact ih w x2 x4 (x5 + 1) hf
def f_Cl_isJust (w : MW) (a1 : Nat) (x2 : Int32) (a3 : Nat) : Option RT := bI (f_JI_bitCount w x2) (fun v1 w1 => if v1 = (w1.1 a3 1) then (f_Cl_isJust_19 a1 a3 FU w1 x2 (0 : Int32) (0 : Int32)) else (some (some (.int (0 : Int32)), w1)))
set_option maxHeartbeats 4000000 in
theorem c_Cl_isJust {d : Nat} {r : Option Value} {w' : MW} (w : MW) (a1 : Nat) (x2 : Int32) (a3 : Nat) (c1 : isCt a1) (c3 : isSh a3) (hf : f_Cl_isJust w a1 x2 a3 = some (r, w')) : Ct (d + 1) mCl_isJust [.ref 57, .ref a1, .int x2, .ref a3] w r w' := by
  refine eCl_isJust ?_
  unfold f_Cl_isJust at hf
  obtain ⟨v1, w1, e1, hf⟩ := bI_e hf
  refine bCl_isJust_0 (ct := c_JI_bitCount (d := d) w x2 e1) (k := ?_)
  refine bCl_isJust_4 (h1 := sh_g1 c3) (kt := fun q2 => ?_) (kf := fun q2 => ?_)
  · replace hf := ite_t q2 hf
    refine bCl_isJust_13 (k := ?_)
    exact r_Cl_isJust_19 a1 a3 c1 c3 FU w1 x2 (0 : Int32) (0 : Int32) hf
  · replace hf := ite_f q2 hf
    obtain ⟨rfl, rfl⟩ := ret_e hf
    exact bCl_isJust_11 
-- Cl_howManyHaveSense
def f_Cl_howManyHaveSense_5 : Nat → MW → Int32 → Int32 → Int32 → Int32 → Option RT
  | 0, _, _, _, _, _ => none
  | n + 1, w, x1, x2, x3, x4 => if x1 ≤ x4 then (some (some (.int x3), w)) else (grd (vpb x4 8 = true) (bI (f_X_senseIn w 58 x2 (w.1 59 x4.toNatClampNeg)) (fun v3 w3 => if v3 = (-1) then (f_Cl_howManyHaveSense_5 n w3 x1 x2 x3 (x4 + 1)) else (f_Cl_howManyHaveSense_5 n w3 x1 x2 (x3 + 1) (x4 + 1)))))
set_option maxHeartbeats 4000000 in
theorem r_Cl_howManyHaveSense_5 {d : Nat} {r : Option Value} {w' : MW} : ∀ (n : Nat) (w : MW) (x1 : Int32) (x2 : Int32) (x3 : Int32) (x4 : Int32), f_Cl_howManyHaveSense_5 n w x1 x2 x3 x4 = some (r, w') → Rn (d + 1) mCl_howManyHaveSense 5 [some (.ref 57), some (.int x1), some (.int x2), some (.int x3), some (.int x4)] [] w r w' := by
  intro n
  induction n with
  | zero =>
    intro w x1 x2 x3 x4 hf
    cases hf
  | succ n ih =>
    intro w x1 x2 x3 x4 hf
    rw [f_Cl_howManyHaveSense_5] at hf
    refine bCl_howManyHaveSense_5 (kt := fun q1 => ?_) (kf := fun q1 => ?_)
    · replace hf := ite_t q1 hf
      obtain ⟨rfl, rfl⟩ := ret_e hf
      exact bCl_howManyHaveSense_39 
    · replace hf := ite_f q1 hf
      obtain ⟨g3_0, hf⟩ := grd_e hf
      obtain ⟨v3, w3, e3, hf⟩ := bI_e hf
      refine bCl_howManyHaveSense_11 (y1 := 58) (y2 := 59) (h4 := (vpb_ok g3_0)) (ct := c_X_senseIn (d := d) w 58 x2 (w.1 59 x4.toNatClampNeg) ⟨rfl, rfl⟩ e3) (k := ?_)
      refine bCl_howManyHaveSense_26 (kt := fun q4 => ?_) (kf := fun q4 => ?_)
      · replace hf := ite_t q4 hf
        refine bCl_howManyHaveSense_33 (k := ?_)
        exact ih w3 x1 x2 x3 (x4 + 1) hf
      · replace hf := ite_f q4 hf
        refine bCl_howManyHaveSense_30 (k := ?_)
        refine bCl_howManyHaveSense_33 (k := ?_)
        exact ih w3 x1 x2 (x3 + 1) (x4 + 1) hf
def f_Cl_howManyHaveSense (w : MW) (x1 : Int32) (x2 : Int32) : Option RT := f_Cl_howManyHaveSense_5 FU w x1 x2 (0 : Int32) (0 : Int32)
set_option maxHeartbeats 4000000 in
theorem c_Cl_howManyHaveSense {d : Nat} {r : Option Value} {w' : MW} (w : MW) (x1 : Int32) (x2 : Int32) (hf : f_Cl_howManyHaveSense w x1 x2 = some (r, w')) : Ct (d + 1) mCl_howManyHaveSense [.ref 57, .int x1, .int x2] w r w' := by
  refine eCl_howManyHaveSense ?_
  unfold f_Cl_howManyHaveSense at hf
  refine bCl_howManyHaveSense_0 (k := ?_)
  exact r_Cl_howManyHaveSense_5 FU w x1 x2 (0 : Int32) (0 : Int32) hf
-- Cl_exchange
def f_Cl_exchange (w : MW) (x1 : Int32) (x2 : Int32) : Option RT := grd (vpb x1 30 = true) (grd (vpb x2 30 = true) (some (none, setI (setI w 58 x1.toNatClampNeg (w.1 58 x2.toNatClampNeg)) 58 x2.toNatClampNeg (w.1 58 x1.toNatClampNeg))))
set_option maxHeartbeats 4000000 in
theorem c_Cl_exchange {d : Nat} {r : Option Value} {w' : MW} (w : MW) (x1 : Int32) (x2 : Int32) (hf : f_Cl_exchange w x1 x2 = some (r, w')) : Ct d mCl_exchange [.ref 57, .int x1, .int x2] w r w' := by
  refine eCl_exchange ?_
  unfold f_Cl_exchange at hf
  obtain ⟨g1_0, hf⟩ := grd_e hf
  obtain ⟨g1_1, hf⟩ := grd_e hf
  obtain ⟨rfl, rfl⟩ := ret_e hf
  exact bCl_exchange_0 (y1 := 58) (h3 := (vpb_ok g1_0)) (y2 := 58) (y3 := 58) (h7 := (vpb_ok g1_1)) (h9 := (vpb_ok g1_0)) (y4 := 58) (h12 := (vpb_ok g1_1))
-- X_judge
def f_X_judge (w : MW) (x1 : Int32) (x2 : Int32) : Option RT := grd ((v_X_rowRefusal w x1) = 0 → 0 ≤ x2 → vpb x1 8 = true) (if (v_X_tellRefusal w x1 x2) = 0 then (if x2 ≤ 30 then (grd (vpb x1 8 = true) (bI (f_Sh_firstWrong w (35 + 2 * x1.toNatClampNeg) x2) (fun v4 w4 => some (some (.int v4), w4)))) else (some (some (.int (v_X_refuseFar w (-6 : Int32))), u_X_refuseFar w (-6 : Int32)))) else (some (some (.int (v_X_refuseFar w (v_X_tellRefusal w x1 x2))), u_X_refuseFar w (v_X_tellRefusal w x1 x2))))
set_option maxHeartbeats 4000000 in
theorem c_X_judge {d : Nat} {r : Option Value} {w' : MW} (w : MW) (x1 : Int32) (x2 : Int32) (hf : f_X_judge w x1 x2 = some (r, w')) : Ct (d + 3) mX_judge [.ref 0, .int x1, .int x2] w r w' := by
  refine eX_judge ?_
  unfold f_X_judge at hf
  obtain ⟨g1_0, hf⟩ := grd_e hf
  refine bX_judge_0 (ct := c_X_tellRefusal (d := d) w x1 x2 (fun z0 z1 => vpb_ok (g1_0 z0 z1))) (k := ?_)
  refine bX_judge_6 (kt := fun q2 => ?_) (kf := fun q2 => ?_)
  · replace hf := ite_t q2 hf
    refine bX_judge_17 (kt := fun q3 => ?_) (kf := fun q3 => ?_)
    · replace hf := ite_t q3 hf
      obtain ⟨g4_0, hf⟩ := grd_e hf
      obtain ⟨v4, w4, e4, hf⟩ := bI_e hf
      refine bX_judge_30 (y1 := 34) (y2 := 35 + 2 * x1.toNatClampNeg) (h3 := (vpb_ok g4_0)) (h4 := shr_sh (vpb_ok g4_0)) (h5 := sh_k (sh_of (vpb_ok g4_0))) (ct := c_Sh_firstWrong (d := d + 1) w (35 + 2 * x1.toNatClampNeg) x2 (sh_of (vpb_ok g4_0)) e4) (k := ?_)
      obtain ⟨rfl, rfl⟩ := ret_e hf
      exact bX_judge_40 
    · replace hf := ite_f q3 hf
      refine bX_judge_23 (ct := c_X_refuseFar (d := d + 1) w (-6 : Int32)) (k := ?_)
      obtain ⟨rfl, rfl⟩ := ret_e hf
      exact bX_judge_29 
  · replace hf := ite_f q2 hf
    refine bX_judge_11 (ct := c_X_refuseFar (d := d + 1) w (v_X_tellRefusal w x1 x2)) (k := ?_)
    obtain ⟨rfl, rfl⟩ := ret_e hf
    exact bX_judge_16 
-- Cl_senseOfTold
def f_Cl_senseOfTold_3 (a1 : Nat) : Nat → MW → Int32 → Int32 → Int32 → Option RT
  | 0, _, _, _, _ => none
  | n + 1, w, x2, x3, x4 => if x2 ≤ x4 then (bI (f_X_senseIn w 58 x2 x3) (fun v2 w2 => some (some (.int v2), w2))) else (if 30 ≤ x4 then (bI (f_X_senseIn w 58 x2 x3) (fun v5 w5 => some (some (.int v5), w5))) else (grd (¬ x4 < 0 → ¬ (w.1 a1 1) ≤ x4 → vpb x4 160 = true) (grd (vpb x4 30 = true) (f_Cl_senseOfTold_3 a1 n (setI w 58 x4.toNatClampNeg (v_Sh_asInt w a1 x4)) x2 x3 (x4 + 1)))))
set_option maxHeartbeats 4000000 in
theorem r_Cl_senseOfTold_3 {d : Nat} {r : Option Value} {w' : MW} (a1 : Nat) (c1 : isSh a1) : ∀ (n : Nat) (w : MW) (x2 : Int32) (x3 : Int32) (x4 : Int32), f_Cl_senseOfTold_3 a1 n w x2 x3 x4 = some (r, w') → Rn (d + 1) mCl_senseOfTold 3 [some (.ref 57), some (.ref a1), some (.int x2), some (.int x3), some (.int x4)] [] w r w' := by
  intro n
  induction n with
  | zero =>
    intro w x2 x3 x4 hf
    cases hf
  | succ n ih =>
    intro w x2 x3 x4 hf
    rw [f_Cl_senseOfTold_3] at hf
    refine bCl_senseOfTold_3 (kt := fun q1 => ?_) (kf := fun q1 => ?_)
    · replace hf := ite_t q1 hf
      obtain ⟨v2, w2, e2, hf⟩ := bI_e hf
      refine bCl_senseOfTold_35 (y1 := 58) (ct := c_X_senseIn (d := d) w 58 x2 x3 ⟨rfl, rfl⟩ e2) (k := ?_)
      obtain ⟨rfl, rfl⟩ := ret_e hf
      exact bCl_senseOfTold_44 
    · replace hf := ite_f q1 hf
      refine bCl_senseOfTold_9 (kt := fun q4 => ?_) (kf := fun q4 => ?_)
      · replace hf := ite_t q4 hf
        obtain ⟨v5, w5, e5, hf⟩ := bI_e hf
        refine bCl_senseOfTold_35 (y1 := 58) (ct := c_X_senseIn (d := d) w 58 x2 x3 ⟨rfl, rfl⟩ e5) (k := ?_)
        obtain ⟨rfl, rfl⟩ := ret_e hf
        exact bCl_senseOfTold_44 
      · replace hf := ite_f q4 hf
        obtain ⟨g7_0, hf⟩ := grd_e hf
        refine bCl_senseOfTold_16 (y1 := 58) (h2 := sh_k c1) (ct := c_Sh_asInt (d := d) w a1 x4 c1 (fun z0 z1 => vpb_ok (g7_0 z0 z1))) (k := ?_)
        obtain ⟨g8_0, hf⟩ := grd_e hf
        refine bCl_senseOfTold_28 (h2 := (vpb_ok g8_0)) (k := ?_)
        exact ih (setI w 58 x4.toNatClampNeg (v_Sh_asInt w a1 x4)) x2 x3 (x4 + 1) hf
def f_Cl_senseOfTold (w : MW) (a1 : Nat) (x2 : Int32) (x3 : Int32) : Option RT := f_Cl_senseOfTold_3 a1 FU w x2 x3 (0 : Int32)
set_option maxHeartbeats 4000000 in
theorem c_Cl_senseOfTold {d : Nat} {r : Option Value} {w' : MW} (w : MW) (a1 : Nat) (x2 : Int32) (x3 : Int32) (c1 : isSh a1) (hf : f_Cl_senseOfTold w a1 x2 x3 = some (r, w')) : Ct (d + 1) mCl_senseOfTold [.ref 57, .ref a1, .int x2, .int x3] w r w' := by
  refine eCl_senseOfTold ?_
  unfold f_Cl_senseOfTold at hf
  refine bCl_senseOfTold_0 (k := ?_)
  exact r_Cl_senseOfTold_3 a1 c1 FU w x2 x3 (0 : Int32) hf
-- Ct_drawSaying
def f_Ct_drawSaying_16 (a0 : Nat) : Nat → MW → Int32 → Int32 → Option RT
  | 0, _, _, _ => none
  | n + 1, w, x1, x2 => if x1 ≤ x2 then (some (none, w)) else (grd (((u_Ct_drawUpper w a0).1 a0 3) < 30 → vpb ((u_Ct_drawUpper w a0).1 a0 3) 30 = true) (f_Ct_drawSaying_16 a0 n (u_Ct_addWord (u_Ct_drawUpper w a0) a0 ((v_Ct_drawUpper w a0) - (v_Ct_drawUpper w a0) / 40 * 40)) x1 (x2 + 1)))
set_option maxHeartbeats 4000000 in
theorem r_Ct_drawSaying_16 {d : Nat} {r : Option Value} {w' : MW} (a0 : Nat) (c0 : isCt a0) : ∀ (n : Nat) (w : MW) (x1 : Int32) (x2 : Int32), f_Ct_drawSaying_16 a0 n w x1 x2 = some (r, w') → Rn (d + 1) mCt_drawSaying 16 [some (.ref a0), some (.int x1), some (.int x2)] [] w r w' := by
  intro n
  induction n with
  | zero =>
    intro w x1 x2 hf
    cases hf
  | succ n ih =>
    intro w x1 x2 hf
    rw [f_Ct_drawSaying_16] at hf
    refine bCt_drawSaying_16 (kt := fun q1 => ?_) (kf := fun q1 => ?_)
    · replace hf := ite_t q1 hf
      obtain ⟨rfl, rfl⟩ := ret_e hf
      exact bCt_drawSaying_38 
    · replace hf := ite_f q1 hf
      refine bCt_drawSaying_21 (h1 := ct_k c0) (ct := c_Ct_drawUpper (d := d) w a0 c0) (k := ?_)
      obtain ⟨g4_0, hf⟩ := grd_e hf
      refine bCt_drawSaying_26 (h1 := ct_k c0) (ct := c_Ct_addWord (d := d) (u_Ct_drawUpper w a0) a0 ((v_Ct_drawUpper w a0) - (v_Ct_drawUpper w a0) / 40 * 40) c0 (fun z0 => vpb_ok (g4_0 z0))) (k := ?_)
      refine bCt_drawSaying_32 (k := ?_)
      exact ih (u_Ct_addWord (u_Ct_drawUpper w a0) a0 ((v_Ct_drawUpper w a0) - (v_Ct_drawUpper w a0) / 40 * 40)) x1 (x2 + 1) hf
def f_Ct_drawSaying (w : MW) (a0 : Nat) : Option RT := f_Ct_drawSaying_16 a0 FU (u_Ct_drawUpper (u_Ct_hushWords w a0) a0) (1 + ((v_Ct_drawUpper (u_Ct_hushWords w a0) a0) - (v_Ct_drawUpper (u_Ct_hushWords w a0) a0) / 30 * 30)) (0 : Int32)
set_option maxHeartbeats 4000000 in
theorem c_Ct_drawSaying {d : Nat} {r : Option Value} {w' : MW} (w : MW) (a0 : Nat) (c0 : isCt a0) (hf : f_Ct_drawSaying w a0 = some (r, w')) : Ct (d + 1) mCt_drawSaying [.ref a0] w r w' := by
  refine eCt_drawSaying ?_
  unfold f_Ct_drawSaying at hf
  refine bCt_drawSaying_0 (h1 := ct_k c0) (ct := c_Ct_hushWords (d := d) w a0 c0) (k := ?_)
  refine bCt_drawSaying_4 (h1 := ct_k c0) (ct := c_Ct_drawUpper (d := d) (u_Ct_hushWords w a0) a0 c0) (k := ?_)
  refine bCt_drawSaying_9 (k := ?_)
  exact r_Ct_drawSaying_16 a0 c0 FU (u_Ct_drawUpper (u_Ct_hushWords w a0) a0) (1 + ((v_Ct_drawUpper (u_Ct_hushWords w a0) a0) - (v_Ct_drawUpper (u_Ct_hushWords w a0) a0) / 30 * 30)) (0 : Int32) hf
-- X_seed
def f_X_seed (w : MW) (x1 : Int32) : Option RT := some (some (.int (w.1 1 4)), setI w 1 4 x1)
set_option maxHeartbeats 4000000 in
theorem c_X_seed {d : Nat} {r : Option Value} {w' : MW} (w : MW) (x1 : Int32) (hf : f_X_seed w x1 = some (r, w')) : Ct d mX_seed [.ref 0, .int x1] w r w' := by
  refine eX_seed ?_
  unfold f_X_seed at hf
  obtain ⟨rfl, rfl⟩ := ret_e hf
  exact bX_seed_0 (y1 := 1) (y2 := 1)
-- Mv_ownerOf
def f_Mv_ownerOf_4 : Nat → MW → Int32 → Int32 → Int32 → Option RT
  | 0, _, _, _, _ => none
  | n + 1, w, x1, x2, x3 => if 7 ≤ x3 then (some (some (.int (-1 : Int32)), w)) else (if (v_X_isKind w x2) = 0 then (some (some (.int (-1 : Int32)), w)) else (grd (vpb ((3 * x2) + x1) 21 = true) (if (w.1 82 ((3 * x2) + x1).toNatClampNeg) = 0 then (grd (vpb x2 7 = true) (f_Mv_ownerOf_4 n w x1 (w.1 81 x2.toNatClampNeg) (x3 + 1))) else (some (some (.int x2), w)))))
set_option maxHeartbeats 4000000 in
theorem r_Mv_ownerOf_4 {d : Nat} {r : Option Value} {w' : MW} : ∀ (n : Nat) (w : MW) (x1 : Int32) (x2 : Int32) (x3 : Int32), f_Mv_ownerOf_4 n w x1 x2 x3 = some (r, w') → Rn (d + 1) mMv_ownerOf 4 [none, some (.int x1), some (.int x2), some (.int x3)] [] w r w' := by
  intro n
  induction n with
  | zero =>
    intro w x1 x2 x3 hf
    cases hf
  | succ n ih =>
    intro w x1 x2 x3 hf
    rw [f_Mv_ownerOf_4] at hf
    refine bMv_ownerOf_4 (kt := fun q1 => ?_) (kf := fun q1 => ?_)
    · replace hf := ite_t q1 hf
      obtain ⟨rfl, rfl⟩ := ret_e hf
      exact bMv_ownerOf_43 
    · replace hf := ite_f q1 hf
      refine bMv_ownerOf_10 (ct := c_X_isKind (d := d) w x2) (k := ?_)
      refine bMv_ownerOf_14 (kt := fun q4 => ?_) (kf := fun q4 => ?_)
      · replace hf := ite_t q4 hf
        obtain ⟨rfl, rfl⟩ := ret_e hf
        exact bMv_ownerOf_43 
      · replace hf := ite_f q4 hf
        obtain ⟨g6_0, hf⟩ := grd_e hf
        refine bMv_ownerOf_17 (h1 := (Or.inr (by decide))) (h2 := (vpb_ok g6_0)) (kt := fun q6 => ?_) (kf := fun q6 => ?_)
        · replace hf := ite_t q6 hf
          obtain ⟨g7_0, hf⟩ := grd_e hf
          refine bMv_ownerOf_31 (h1 := (Or.inr (by decide))) (h2 := (vpb_ok g7_0)) (k := ?_)
          exact ih w x1 (w.1 81 x2.toNatClampNeg) (x3 + 1) hf
        · replace hf := ite_f q6 hf
          obtain ⟨rfl, rfl⟩ := ret_e hf
          exact bMv_ownerOf_29 
def f_Mv_ownerOf (w : MW) (x0 : Int32) (x1 : Int32) : Option RT := f_Mv_ownerOf_4 FU w x1 x0 (0 : Int32)
set_option maxHeartbeats 4000000 in
theorem c_Mv_ownerOf {d : Nat} {r : Option Value} {w' : MW} (w : MW) (x0 : Int32) (x1 : Int32) (hf : f_Mv_ownerOf w x0 x1 = some (r, w')) : Ct (d + 1) mMv_ownerOf [.int x0, .int x1] w r w' := by
  refine eMv_ownerOf ?_
  unfold f_Mv_ownerOf at hf
  refine bMv_ownerOf_0 (k := ?_)
  exact r_Mv_ownerOf_4 FU w x1 x0 (0 : Int32) hf
-- X_trace
def f_X_trace (w : MW) (x1 : Int32) : Option RT := grd (¬ x1 < 0 → ¬ (w.1 60 1) ≤ x1 → ¬ 20 ≤ x1 → vpb x1 20 = true) (some (some (.int (v_Mv_traced w x1)), w))
set_option maxHeartbeats 4000000 in
theorem c_X_trace {d : Nat} {r : Option Value} {w' : MW} (w : MW) (x1 : Int32) (hf : f_X_trace w x1 = some (r, w')) : Ct (d + 1) mX_trace [.ref 0, .int x1] w r w' := by
  refine eX_trace ?_
  unfold f_X_trace at hf
  obtain ⟨g1_0, hf⟩ := grd_e hf
  refine bX_trace_0 (y1 := 60) (ct := c_Mv_traced (d := d) w x1 (fun z0 z1 z2 => vpb_ok (g1_0 z0 z1 z2))) (k := ?_)
  obtain ⟨rfl, rfl⟩ := ret_e hf
  exact bX_trace_8 
-- X_image
def f_X_image (w : MW) : Option RT := bV (f_Ct_become w 12 1) (fun w1 => some (some (.int ((setI w1 0 8 1).1 1 1)), setI w1 0 8 1))
set_option maxHeartbeats 4000000 in
theorem c_X_image {d : Nat} {r : Option Value} {w' : MW} (w : MW) (hf : f_X_image w = some (r, w')) : Ct (d + 2) mX_image [.ref 0] w r w' := by
  refine eX_image ?_
  unfold f_X_image at hf
  obtain ⟨w1, e1, hf⟩ := bV_e hf
  refine bX_image_0 (y1 := 12) (y2 := 1) (ct := c_Ct_become (d := d) w 12 1 ct12 ct1 e1) (k := ?_)
  obtain ⟨rfl, rfl⟩ := ret_e hf
  exact bX_image_11 (y1 := 1)
-- X_restore
def f_X_restore_27 : Nat → MW → Int32 → Option RT
  | 0, _, _ => none
  | n + 1, w, x1 => if 8 ≤ x1 then (some (some (.int (w.1 1 1)), w)) else (grd (vpb x1 8 = true) (if (v_Sh_isMan w (35 + 2 * x1.toNatClampNeg)) = 0 then (f_X_restore_27 n w (x1 + 1)) else (grd (vpb x1 8 = true) (if (v_Ct_isMan w 1 (w.1 (35 + 2 * x1.toNatClampNeg) 0)) = 0 then (grd (vpb x1 8 = true) (f_X_restore_27 n (u_Sh_takeNothing w (35 + 2 * x1.toNatClampNeg)) (x1 + 1))) else (f_X_restore_27 n w (x1 + 1))))))
set_option maxHeartbeats 4000000 in
theorem r_X_restore_27 {d : Nat} {r : Option Value} {w' : MW} : ∀ (n : Nat) (w : MW) (x1 : Int32), f_X_restore_27 n w x1 = some (r, w') → Rn (d + 2) mX_restore 27 [some (.ref 0), some (.int x1)] [] w r w' := by
  intro n
  induction n with
  | zero =>
    intro w x1 hf
    cases hf
  | succ n ih =>
    intro w x1 hf
    rw [f_X_restore_27] at hf
    refine bX_restore_27 (kt := fun q1 => ?_) (kf := fun q1 => ?_)
    · replace hf := ite_t q1 hf
      obtain ⟨rfl, rfl⟩ := ret_e hf
      exact bX_restore_79 (y1 := 1)
    · replace hf := ite_f q1 hf
      obtain ⟨g3_0, hf⟩ := grd_e hf
      refine bX_restore_33 (y1 := 34) (y2 := 35 + 2 * x1.toNatClampNeg) (h3 := (vpb_ok g3_0)) (h4 := shr_sh (vpb_ok g3_0)) (h5 := sh_k (sh_of (vpb_ok g3_0))) (ct := c_Sh_isMan (d := d + 1) w (35 + 2 * x1.toNatClampNeg) (sh_of (vpb_ok g3_0))) (k := ?_)
      refine bX_restore_42 (kt := fun q4 => ?_) (kf := fun q4 => ?_)
      · replace hf := ite_t q4 hf
        refine bX_restore_73 (k := ?_)
        exact ih w (x1 + 1) hf
      · replace hf := ite_f q4 hf
        obtain ⟨g6_0, hf⟩ := grd_e hf
        refine bX_restore_45 (y1 := 1) (y2 := 34) (y3 := 35 + 2 * x1.toNatClampNeg) (h4 := (vpb_ok g6_0)) (h5 := shr_sh (vpb_ok g6_0)) (h6 := sh_g0 (sh_of (vpb_ok g6_0))) (ct := c_Ct_isMan (d := d + 1) w 1 (w.1 (35 + 2 * x1.toNatClampNeg) 0) ct1) (k := ?_)
        refine bX_restore_61 (kt := fun q7 => ?_) (kf := fun q7 => ?_)
        · replace hf := ite_f q7 hf
          refine bX_restore_73 (k := ?_)
          exact ih w (x1 + 1) hf
        · replace hf := ite_t q7 hf
          obtain ⟨g9_0, hf⟩ := grd_e hf
          refine bX_restore_64 (y1 := 34) (y2 := 35 + 2 * x1.toNatClampNeg) (h3 := (vpb_ok g9_0)) (h4 := shr_sh (vpb_ok g9_0)) (h5 := sh_k (sh_of (vpb_ok g9_0))) (ct := c_Sh_takeNothing (d := d + 1) w (35 + 2 * x1.toNatClampNeg) (sh_of (vpb_ok g9_0))) (k := ?_)
          refine bX_restore_73 (k := ?_)
          exact ih (u_Sh_takeNothing w (35 + 2 * x1.toNatClampNeg)) (x1 + 1) hf
def f_X_restore (w : MW) : Option RT := if (w.1 0 8) = 0 then (some (some (.int (v_X_refuse w (-6 : Int32))), u_X_refuse w (-6 : Int32))) else (bV (f_Ct_become w 1 12) (fun w2 => f_X_restore_27 FU w2 (0 : Int32)))
set_option maxHeartbeats 4000000 in
theorem c_X_restore {d : Nat} {r : Option Value} {w' : MW} (w : MW) (hf : f_X_restore w = some (r, w')) : Ct (d + 2) mX_restore [.ref 0] w r w' := by
  refine eX_restore ?_
  unfold f_X_restore at hf
  refine bX_restore_0 (kt := fun q1 => ?_) (kf := fun q1 => ?_)
  · replace hf := ite_f q1 hf
    obtain ⟨w2, e2, hf⟩ := bV_e hf
    refine bX_restore_14 (y1 := 1) (y2 := 12) (ct := c_Ct_become (d := d) w 1 12 ct1 ct12 e2) (k := ?_)
    refine bX_restore_25 (k := ?_)
    exact r_X_restore_27 FU w2 (0 : Int32) hf
  · replace hf := ite_t q1 hf
    refine bX_restore_7 (ct := c_X_refuse (d := d + 1) w (-6 : Int32)) (k := ?_)
    obtain ⟨rfl, rfl⟩ := ret_e hf
    exact bX_restore_13 
-- Ct_meetings
def f_Ct_meetings_4 (a0 : Nat) : Nat → MW → Int32 → Int32 → Option RT
  | 0, _, _, _ => none
  | n + 1, w, x1, x2 => if (w.1 a0 1) ≤ x2 then (some (some (.int (x1 / 2)), w)) else (grd (vpb x2 8 = true) (bI (f_JI_bitCount w (w.1 (a0 + 2 + x2.toNatClampNeg) 5)) (fun v3 w3 => f_Ct_meetings_4 a0 n w3 (x1 + v3) (x2 + 1))))
set_option maxHeartbeats 4000000 in
theorem r_Ct_meetings_4 {d : Nat} {r : Option Value} {w' : MW} (a0 : Nat) (c0 : isCt a0) : ∀ (n : Nat) (w : MW) (x1 : Int32) (x2 : Int32), f_Ct_meetings_4 a0 n w x1 x2 = some (r, w') → Rn (d + 1) mCt_meetings 4 [some (.ref a0), some (.int x1), some (.int x2)] [] w r w' := by
  intro n
  induction n with
  | zero =>
    intro w x1 x2 hf
    cases hf
  | succ n ih =>
    intro w x1 x2 hf
    rw [f_Ct_meetings_4] at hf
    refine bCt_meetings_4 (h1 := ct_g1 c0) (kt := fun q1 => ?_) (kf := fun q1 => ?_)
    · replace hf := ite_t q1 hf
      obtain ⟨rfl, rfl⟩ := ret_e hf
      exact bCt_meetings_33 
    · replace hf := ite_f q1 hf
      obtain ⟨g3_0, hf⟩ := grd_e hf
      obtain ⟨v3, w3, e3, hf⟩ := bI_e hf
      refine bCt_meetings_12 (y1 := a0 + 1) (h1 := ct_r0 c0) (y2 := a0 + 2 + x2.toNatClampNeg) (h2 := ct_k12 c0) (h3 := ct_l8 c0 (vpb_ok g3_0)) (h4 := ct_mn c0 (vpb_ok g3_0)) (h5 := mn_g (mn_of c0 (vpb_ok g3_0)) 5 (by decide)) (ct := c_JI_bitCount (d := d) w (w.1 (a0 + 2 + x2.toNatClampNeg) 5) e3) (k := ?_)
      refine bCt_meetings_25 (k := ?_)
      exact ih w3 (x1 + v3) (x2 + 1) hf
def f_Ct_meetings (w : MW) (a0 : Nat) : Option RT := f_Ct_meetings_4 a0 FU w (0 : Int32) (0 : Int32)
set_option maxHeartbeats 4000000 in
theorem c_Ct_meetings {d : Nat} {r : Option Value} {w' : MW} (w : MW) (a0 : Nat) (c0 : isCt a0) (hf : f_Ct_meetings w a0 = some (r, w')) : Ct (d + 1) mCt_meetings [.ref a0] w r w' := by
  refine eCt_meetings ?_
  unfold f_Ct_meetings at hf
  refine bCt_meetings_0 (k := ?_)
  exact r_Ct_meetings_4 a0 c0 FU w (0 : Int32) (0 : Int32) hf
-- Ct_allHits
def f_Ct_allHits_4 (a0 : Nat) : Nat → MW → Int32 → Int32 → Option RT
  | 0, _, _, _ => none
  | n + 1, w, x1, x2 => if (w.1 a0 1) ≤ x2 then (some (some (.int x1), w)) else (grd (vpb x2 8 = true) (f_Ct_allHits_4 a0 n w (x1 + (w.1 (a0 + 2 + x2.toNatClampNeg) 4)) (x2 + 1)))
set_option maxHeartbeats 4000000 in
theorem r_Ct_allHits_4 {d : Nat} {r : Option Value} {w' : MW} (a0 : Nat) (c0 : isCt a0) : ∀ (n : Nat) (w : MW) (x1 : Int32) (x2 : Int32), f_Ct_allHits_4 a0 n w x1 x2 = some (r, w') → Rn d mCt_allHits 4 [some (.ref a0), some (.int x1), some (.int x2)] [] w r w' := by
  intro n
  induction n with
  | zero =>
    intro w x1 x2 hf
    cases hf
  | succ n ih =>
    intro w x1 x2 hf
    rw [f_Ct_allHits_4] at hf
    refine bCt_allHits_4 (h1 := ct_g1 c0) (kt := fun q1 => ?_) (kf := fun q1 => ?_)
    · replace hf := ite_t q1 hf
      obtain ⟨rfl, rfl⟩ := ret_e hf
      exact bCt_allHits_30 
    · replace hf := ite_f q1 hf
      obtain ⟨g3_0, hf⟩ := grd_e hf
      refine bCt_allHits_12 (y1 := a0 + 1) (h1 := ct_r0 c0) (y2 := a0 + 2 + x2.toNatClampNeg) (h2 := ct_k12 c0) (h3 := ct_l8 c0 (vpb_ok g3_0)) (h4 := ct_mn c0 (vpb_ok g3_0)) (h5 := mn_g (mn_of c0 (vpb_ok g3_0)) 4 (by decide)) (k := ?_)
      exact ih w (x1 + (w.1 (a0 + 2 + x2.toNatClampNeg) 4)) (x2 + 1) hf
def f_Ct_allHits (w : MW) (a0 : Nat) : Option RT := f_Ct_allHits_4 a0 FU w (0 : Int32) (0 : Int32)
set_option maxHeartbeats 4000000 in
theorem c_Ct_allHits {d : Nat} {r : Option Value} {w' : MW} (w : MW) (a0 : Nat) (c0 : isCt a0) (hf : f_Ct_allHits w a0 = some (r, w')) : Ct d mCt_allHits [.ref a0] w r w' := by
  refine eCt_allHits ?_
  unfold f_Ct_allHits at hf
  refine bCt_allHits_0 (k := ?_)
  exact r_Ct_allHits_4 a0 c0 FU w (0 : Int32) (0 : Int32) hf
-- Ct_believers
def f_Ct_believers_4 (a0 : Nat) : Nat → MW → Int32 → Int32 → Option RT
  | 0, _, _, _ => none
  | n + 1, w, x1, x2 => if (w.1 a0 1) ≤ x2 then (some (some (.int x1), w)) else (grd (vpb x2 8 = true) (if (w.1 (a0 + 2 + x2.toNatClampNeg) 3) = (-1) then (f_Ct_believers_4 a0 n w x1 (x2 + 1)) else (f_Ct_believers_4 a0 n w (x1 + 1) (x2 + 1))))
set_option maxHeartbeats 4000000 in
theorem r_Ct_believers_4 {d : Nat} {r : Option Value} {w' : MW} (a0 : Nat) (c0 : isCt a0) : ∀ (n : Nat) (w : MW) (x1 : Int32) (x2 : Int32), f_Ct_believers_4 a0 n w x1 x2 = some (r, w') → Rn d mCt_believers 4 [some (.ref a0), some (.int x1), some (.int x2)] [] w r w' := by
  intro n
  induction n with
  | zero =>
    intro w x1 x2 hf
    cases hf
  | succ n ih =>
    intro w x1 x2 hf
    rw [f_Ct_believers_4] at hf
    refine bCt_believers_4 (h1 := ct_g1 c0) (kt := fun q1 => ?_) (kf := fun q1 => ?_)
    · replace hf := ite_t q1 hf
      obtain ⟨rfl, rfl⟩ := ret_e hf
      exact bCt_believers_34 
    · replace hf := ite_f q1 hf
      obtain ⟨g3_0, hf⟩ := grd_e hf
      refine bCt_believers_12 (y1 := a0 + 1) (h1 := ct_r0 c0) (y2 := a0 + 2 + x2.toNatClampNeg) (h2 := ct_k12 c0) (h3 := ct_l8 c0 (vpb_ok g3_0)) (h4 := ct_mn c0 (vpb_ok g3_0)) (h5 := mn_g (mn_of c0 (vpb_ok g3_0)) 3 (by decide)) (kt := fun q3 => ?_) (kf := fun q3 => ?_)
      · replace hf := ite_t q3 hf
        refine bCt_believers_28 (k := ?_)
        exact ih w x1 (x2 + 1) hf
      · replace hf := ite_f q3 hf
        refine bCt_believers_25 (k := ?_)
        refine bCt_believers_28 (k := ?_)
        exact ih w (x1 + 1) (x2 + 1) hf
def f_Ct_believers (w : MW) (a0 : Nat) : Option RT := f_Ct_believers_4 a0 FU w (0 : Int32) (0 : Int32)
set_option maxHeartbeats 4000000 in
theorem c_Ct_believers {d : Nat} {r : Option Value} {w' : MW} (w : MW) (a0 : Nat) (c0 : isCt a0) (hf : f_Ct_believers w a0 = some (r, w')) : Ct d mCt_believers [.ref a0] w r w' := by
  refine eCt_believers ?_
  unfold f_Ct_believers at hf
  refine bCt_believers_0 (k := ?_)
  exact r_Ct_believers_4 a0 c0 FU w (0 : Int32) (0 : Int32) hf
-- M_row
def f_M_row_77 : Nat → MW → Int32 → Int32 → Option RT
  | 0, _, _, _ => none
  | n + 1, w, x1, x4 => if 160 ≤ x4 then (some (some (.int (1 : Int32)), w)) else (grd (vpb ((160 * x1) + x4) 1280 = true) (f_M_row_77 n (setL w 65 ((160 * x1) + x4).toNatClampNeg (Int64.ofNat 0)) x1 (x4 + 1)))
set_option maxHeartbeats 4000000 in
theorem r_M_row_77 {d : Nat} {r : Option Value} {w' : MW} : ∀ (n : Nat) (w : MW) (x1 : Int32) (x4 : Int32), f_M_row_77 n w x1 x4 = some (r, w') → Rn (d + 1) mM_row 77 [some (.ref 62), some (.int x1), none, none, some (.int x4)] [] w r w' := by
  intro n
  induction n with
  | zero =>
    intro w x1 x4 hf
    cases hf
  | succ n ih =>
    intro w x1 x4 hf
    rw [f_M_row_77] at hf
    refine bM_row_77 (kt := fun q1 => ?_) (kf := fun q1 => ?_)
    · replace hf := ite_t q1 hf
      obtain ⟨rfl, rfl⟩ := ret_e hf
      exact bM_row_105 
    · replace hf := ite_f q1 hf
      obtain ⟨g3_0, hf⟩ := grd_e hf
      refine bM_row_85 (y1 := 65) (h3 := (vpb_ok g3_0)) (k := ?_)
      exact ih (setL w 65 ((160 * x1) + x4).toNatClampNeg (Int64.ofNat 0)) x1 (x4 + 1) hf
def f_M_row (w : MW) (x1 : Int32) (x2 : Int32) (x3 : Int32) : Option RT := if (v_M_within w x1 (0 : Int32) (7 : Int32)) = 0 then (some (some (.int (v_M_no w (-1 : Int32))), u_M_no w (-1 : Int32))) else (if 0 ≤ x3 then (if (v_M_within w x2 (0 : Int32) (3 : Int32)) = 0 then (some (some (.int (v_M_no w (-6 : Int32))), u_M_no w (-6 : Int32))) else (if x3 ≤ 160 then (grd (vpb x1 8 = true) (f_M_row_77 FU (setI (setI w 63 x1.toNatClampNeg (100 + x2)) 64 x1.toNatClampNeg x3) x1 (0 : Int32))) else (some (some (.int (v_M_no w (-7 : Int32))), u_M_no w (-7 : Int32))))) else (some (some (.int (v_M_no w (-4 : Int32))), u_M_no w (-4 : Int32))))
set_option maxHeartbeats 4000000 in
theorem c_M_row {d : Nat} {r : Option Value} {w' : MW} (w : MW) (x1 : Int32) (x2 : Int32) (x3 : Int32) (hf : f_M_row w x1 x2 x3 = some (r, w')) : Ct (d + 1) mM_row [.ref 62, .int x1, .int x2, .int x3] w r w' := by
  refine eM_row ?_
  unfold f_M_row at hf
  refine bM_row_0 (ct := c_M_within (d := d) w x1 (0 : Int32) (7 : Int32)) (k := ?_)
  refine bM_row_7 (kt := fun q2 => ?_) (kf := fun q2 => ?_)
  · replace hf := ite_f q2 hf
    refine bM_row_16 (kt := fun q3 => ?_) (kf := fun q3 => ?_)
    · replace hf := ite_t q3 hf
      refine bM_row_27 (ct := c_M_within (d := d) w x2 (0 : Int32) (3 : Int32)) (k := ?_)
      refine bM_row_33 (kt := fun q5 => ?_) (kf := fun q5 => ?_)
      · replace hf := ite_f q5 hf
        refine bM_row_43 (kt := fun q6 => ?_) (kf := fun q6 => ?_)
        · replace hf := ite_t q6 hf
          obtain ⟨g7_0, hf⟩ := grd_e hf
          refine bM_row_57 (y1 := 63) (h3 := (vpb_ok g7_0)) (y2 := 64) (h6 := (vpb_ok g7_0)) (k := ?_)
          exact r_M_row_77 FU (setI (setI w 63 x1.toNatClampNeg (100 + x2)) 64 x1.toNatClampNeg x3) x1 (0 : Int32) hf
        · replace hf := ite_f q6 hf
          refine bM_row_50 (ct := c_M_no (d := d) w (-7 : Int32) (vpd (i := (-(-7 : Int32))) (n := 8) (by decide))) (k := ?_)
          obtain ⟨rfl, rfl⟩ := ret_e hf
          exact bM_row_56 
      · replace hf := ite_t q5 hf
        refine bM_row_36 (ct := c_M_no (d := d) w (-6 : Int32) (vpd (i := (-(-6 : Int32))) (n := 8) (by decide))) (k := ?_)
        obtain ⟨rfl, rfl⟩ := ret_e hf
        exact bM_row_42 
    · replace hf := ite_f q3 hf
      refine bM_row_20 (ct := c_M_no (d := d) w (-4 : Int32) (vpd (i := (-(-4 : Int32))) (n := 8) (by decide))) (k := ?_)
      obtain ⟨rfl, rfl⟩ := ret_e hf
      exact bM_row_26 
  · replace hf := ite_t q2 hf
    refine bM_row_10 (ct := c_M_no (d := d) w (-1 : Int32) (vpd (i := (-(-1 : Int32))) (n := 8) (by decide))) (k := ?_)
    obtain ⟨rfl, rfl⟩ := ret_e hf
    exact bM_row_15 
-- M_set
def f_M_set (w : MW) (x1 : Int32) (x2 : Int32) (z3 : Int64) : Option RT := if 0 ≤ (v_M_noRow w x1) then (grd (vpb x1 8 = true) (if (v_M_within w x2 (0 : Int32) ((w.1 64 x1.toNatClampNeg) - 1)) = 0 then (some (some (.int (v_M_no w (-5 : Int32))), u_M_no w (-5 : Int32))) else (grd (vpb x1 8 = true) (if ((w.1 63 x1.toNatClampNeg) - 100) = 0 then (grd (vpb ((160 * x1) + x2) 1280 = true) (some (some (.int (1 : Int32)), setL w 65 ((160 * x1) + x2).toNatClampNeg z3.toInt32.toInt8.toInt32.toInt64))) else (if ((w.1 63 x1.toNatClampNeg) - 100) = 1 then (grd (vpb ((160 * x1) + x2) 1280 = true) (some (some (.int (1 : Int32)), setL w 65 ((160 * x1) + x2).toNatClampNeg z3.toInt32.toInt16.toInt32.toInt64))) else (if ((w.1 63 x1.toNatClampNeg) - 100) = 2 then (grd (vpb ((160 * x1) + x2) 1280 = true) (some (some (.int (1 : Int32)), setL w 65 ((160 * x1) + x2).toNatClampNeg z3.toInt32.toInt64))) else (grd (vpb ((160 * x1) + x2) 1280 = true) (some (some (.int (1 : Int32)), setL w 65 ((160 * x1) + x2).toNatClampNeg z3))))))))) else (some (some (.int (v_M_no w (v_M_noRow w x1))), u_M_no w (v_M_noRow w x1)))
set_option maxHeartbeats 4000000 in
theorem c_M_set {d : Nat} {r : Option Value} {w' : MW} (w : MW) (x1 : Int32) (x2 : Int32) (z3 : Int64) (hf : f_M_set w x1 x2 z3 = some (r, w')) : Ct (d + 2) mM_set [.ref 62, .int x1, .int x2, .long z3] w r w' := by
  refine eM_set ?_
  unfold f_M_set at hf
  refine bM_set_0 (ct := c_M_noRow (d := d) w x1) (k := ?_)
  refine bM_set_5 (kt := fun q2 => ?_) (kf := fun q2 => ?_)
  · replace hf := ite_t q2 hf
    obtain ⟨g3_0, hf⟩ := grd_e hf
    refine bM_set_19 (y1 := 64) (h3 := (vpb_ok g3_0)) (ct := c_M_within (d := d + 1) w x2 (0 : Int32) ((w.1 64 x1.toNatClampNeg) - 1)) (k := ?_)
    refine bM_set_32 (kt := fun q4 => ?_) (kf := fun q4 => ?_)
    · replace hf := ite_f q4 hf
      obtain ⟨g5_0, hf⟩ := grd_e hf
      refine bM_set_42 (y1 := 63) (h3 := (vpb_ok g5_0)) (y2 := 65) (kt := fun q5 => ?_) (kf := fun q5 => ?_)
      · replace hf := ite_f q5 hf
        refine bM_set_76 (kt := fun q6 => ?_) (kf := fun q6 => ?_)
        · replace hf := ite_f q6 hf
          refine bM_set_89 (kt := fun q7 => ?_) (kf := fun q7 => ?_)
          · replace hf := ite_f q7 hf
            refine bM_set_101 (k := ?_)
            obtain ⟨g9_0, hf⟩ := grd_e hf
            obtain ⟨rfl, rfl⟩ := ret_e hf
            exact bM_set_102 (h2 := (vpb_ok g9_0))
          · replace hf := ite_t q7 hf
            refine bM_set_95 (k := ?_)
            obtain ⟨g11_0, hf⟩ := grd_e hf
            obtain ⟨rfl, rfl⟩ := ret_e hf
            exact bM_set_102 (h2 := (vpb_ok g11_0))
        · replace hf := ite_t q6 hf
          refine bM_set_82 (k := ?_)
          obtain ⟨g13_0, hf⟩ := grd_e hf
          obtain ⟨rfl, rfl⟩ := ret_e hf
          exact bM_set_102 (h2 := (vpb_ok g13_0))
      · replace hf := ite_t q5 hf
        refine bM_set_69 (k := ?_)
        obtain ⟨g15_0, hf⟩ := grd_e hf
        obtain ⟨rfl, rfl⟩ := ret_e hf
        exact bM_set_102 (h2 := (vpb_ok g15_0))
    · replace hf := ite_t q4 hf
      refine bM_set_35 (ct := c_M_no (d := d + 1) w (-5 : Int32) (vpd (i := (-(-5 : Int32))) (n := 8) (by decide))) (k := ?_)
      obtain ⟨rfl, rfl⟩ := ret_e hf
      exact bM_set_41 
  · replace hf := ite_f q2 hf
    refine bM_set_12 (ct := c_M_no (d := d + 1) w (v_M_noRow w x1) (no8_M_noRow _ _)) (k := ?_)
    obtain ⟨rfl, rfl⟩ := ret_e hf
    exact bM_set_18 
-- M_copy
def f_M_copy_251 : Nat → MW → Int32 → Int32 → Int32 → Int32 → Int32 → Int32 → Option RT
  | 0, _, _, _, _, _, _, _ => none
  | n + 1, w, x1, x2, x3, x4, x5, x6 => if x5 ≤ x6 then (some (some (.int (1 : Int32)), w)) else (grd (vpb (((160 * x1) + x3) + x6) 1280 = true) (grd (vpb (((160 * x2) + x4) + x6) 1280 = true) (f_M_copy_251 n (setL w 65 (((160 * x2) + x4) + x6).toNatClampNeg (w.2.1 65 (((160 * x1) + x3) + x6).toNatClampNeg)) x1 x2 x3 x4 x5 (x6 + 1))))
set_option maxHeartbeats 4000000 in
theorem r_M_copy_251 {d : Nat} {r : Option Value} {w' : MW} : ∀ (n : Nat) (w : MW) (x1 : Int32) (x2 : Int32) (x3 : Int32) (x4 : Int32) (x5 : Int32) (x6 : Int32), f_M_copy_251 n w x1 x2 x3 x4 x5 x6 = some (r, w') → Rn (d + 1) mM_copy 251 [some (.ref 62), some (.int x1), some (.int x2), some (.int x3), some (.int x4), some (.int x5), some (.int x6)] [] w r w' := by
  intro n
  induction n with
  | zero =>
    intro w x1 x2 x3 x4 x5 x6 hf
    cases hf
  | succ n ih =>
    intro w x1 x2 x3 x4 x5 x6 hf
    rw [f_M_copy_251] at hf
    refine bM_copy_251 (kt := fun q1 => ?_) (kf := fun q1 => ?_)
    · replace hf := ite_t q1 hf
      obtain ⟨rfl, rfl⟩ := ret_e hf
      exact bM_copy_295 
    · replace hf := ite_f q1 hf
      obtain ⟨g3_0, hf⟩ := grd_e hf
      obtain ⟨g3_1, hf⟩ := grd_e hf
      refine bM_copy_258 (y1 := 65) (y2 := 65) (h4 := (vpb_ok g3_0)) (h6 := (vpb_ok g3_1)) (k := ?_)
      exact ih (setL w 65 (((160 * x2) + x4) + x6).toNatClampNeg (w.2.1 65 (((160 * x1) + x3) + x6).toNatClampNeg)) x1 x2 x3 x4 x5 (x6 + 1) hf
def f_M_copy_203 : Nat → MW → Int32 → Int32 → Int32 → Int32 → Int32 → Option RT
  | 0, _, _, _, _, _, _ => none
  | n + 1, w, x1, x2, x3, x4, x6 => if x6 < 0 then (some (some (.int (1 : Int32)), w)) else (grd (vpb (((160 * x1) + x3) + x6) 1280 = true) (grd (vpb (((160 * x2) + x4) + x6) 1280 = true) (f_M_copy_203 n (setL w 65 (((160 * x2) + x4) + x6).toNatClampNeg (w.2.1 65 (((160 * x1) + x3) + x6).toNatClampNeg)) x1 x2 x3 x4 (x6 + (-1)))))
set_option maxHeartbeats 4000000 in
theorem r_M_copy_203 {d : Nat} {r : Option Value} {w' : MW} : ∀ (n : Nat) (w : MW) (x1 : Int32) (x2 : Int32) (x3 : Int32) (x4 : Int32) (x6 : Int32), f_M_copy_203 n w x1 x2 x3 x4 x6 = some (r, w') → Rn (d + 1) mM_copy 203 [some (.ref 62), some (.int x1), some (.int x2), some (.int x3), some (.int x4), none, some (.int x6)] [] w r w' := by
  intro n
  induction n with
  | zero =>
    intro w x1 x2 x3 x4 x6 hf
    cases hf
  | succ n ih =>
    intro w x1 x2 x3 x4 x6 hf
    rw [f_M_copy_203] at hf
    refine bM_copy_203 (kt := fun q1 => ?_) (kf := fun q1 => ?_)
    · replace hf := ite_t q1 hf
      refine bM_copy_245 (k := ?_)
      obtain ⟨rfl, rfl⟩ := ret_e hf
      exact bM_copy_295 
    · replace hf := ite_f q1 hf
      obtain ⟨g4_0, hf⟩ := grd_e hf
      obtain ⟨g4_1, hf⟩ := grd_e hf
      refine bM_copy_208 (y1 := 65) (y2 := 65) (h4 := (vpb_ok g4_0)) (h6 := (vpb_ok g4_1)) (k := ?_)
      exact ih (setL w 65 (((160 * x2) + x4) + x6).toNatClampNeg (w.2.1 65 (((160 * x1) + x3) + x6).toNatClampNeg)) x1 x2 x3 x4 (x6 + (-1)) hf
def f_M_copy (w : MW) (x1 : Int32) (x2 : Int32) (x3 : Int32) (x4 : Int32) (x5 : Int32) : Option RT := if (v_M_within w x1 (0 : Int32) (7 : Int32)) = 0 then (some (some (.int (v_M_no w (-1 : Int32))), u_M_no w (-1 : Int32))) else (if (v_M_within w x2 (0 : Int32) (7 : Int32)) = 0 then (some (some (.int (v_M_no w (-1 : Int32))), u_M_no w (-1 : Int32))) else (grd (vpb x1 8 = true) (if (w.1 63 x1.toNatClampNeg) < 0 then (grd (vpb x2 8 = true) (if (w.1 63 x2.toNatClampNeg) < 0 then (grd (vpb x1 8 = true) (if (v_M_isRow w x1) = 0 then (grd (vpb x1 8 = true) (if (w.1 63 x1.toNatClampNeg) < 0 then (some (some (.int (v_M_no w (-3 : Int32))), u_M_no w (-3 : Int32))) else (grd (vpb x2 8 = true) (if 0 ≤ (w.1 63 x2.toNatClampNeg) then (if 0 ≤ x5 then (if x3 < 0 then (some (some (.int (v_M_no w (-5 : Int32))), u_M_no w (-5 : Int32))) else (if x4 < 0 then (some (some (.int (v_M_no w (-5 : Int32))), u_M_no w (-5 : Int32))) else (grd (vpb x1 8 = true) (if 0 < (lg_cmp (x3.toInt64 + x5.toInt64) ((w.1 64 x1.toNatClampNeg).toInt64)) then (some (some (.int (v_M_no w (-5 : Int32))), u_M_no w (-5 : Int32))) else (grd (vpb x2 8 = true) (if (lg_cmp (x4.toInt64 + x5.toInt64) ((w.1 64 x2.toNatClampNeg).toInt64)) ≤ 0 then (if x1 = x2 then (if x4 ≤ x3 then (f_M_copy_251 FU w x1 x2 x3 x4 x5 (0 : Int32)) else (f_M_copy_203 FU w x1 x2 x3 x4 (x5 - 1))) else (f_M_copy_251 FU w x1 x2 x3 x4 x5 (0 : Int32))) else (some (some (.int (v_M_no w (-5 : Int32))), u_M_no w (-5 : Int32))))))))) else (some (some (.int (v_M_no w (-4 : Int32))), u_M_no w (-4 : Int32)))) else (some (some (.int (v_M_no w (-3 : Int32))), u_M_no w (-3 : Int32))))))) else (grd (vpb x2 8 = true) (if (v_M_isRow w x2) = 0 then (grd (vpb x1 8 = true) (if (w.1 63 x1.toNatClampNeg) < 0 then (some (some (.int (v_M_no w (-3 : Int32))), u_M_no w (-3 : Int32))) else (grd (vpb x2 8 = true) (if 0 ≤ (w.1 63 x2.toNatClampNeg) then (if 0 ≤ x5 then (if x3 < 0 then (some (some (.int (v_M_no w (-5 : Int32))), u_M_no w (-5 : Int32))) else (if x4 < 0 then (some (some (.int (v_M_no w (-5 : Int32))), u_M_no w (-5 : Int32))) else (grd (vpb x1 8 = true) (if 0 < (lg_cmp (x3.toInt64 + x5.toInt64) ((w.1 64 x1.toNatClampNeg).toInt64)) then (some (some (.int (v_M_no w (-5 : Int32))), u_M_no w (-5 : Int32))) else (grd (vpb x2 8 = true) (if (lg_cmp (x4.toInt64 + x5.toInt64) ((w.1 64 x2.toNatClampNeg).toInt64)) ≤ 0 then (if x1 = x2 then (if x4 ≤ x3 then (f_M_copy_251 FU w x1 x2 x3 x4 x5 (0 : Int32)) else (f_M_copy_203 FU w x1 x2 x3 x4 (x5 - 1))) else (f_M_copy_251 FU w x1 x2 x3 x4 x5 (0 : Int32))) else (some (some (.int (v_M_no w (-5 : Int32))), u_M_no w (-5 : Int32))))))))) else (some (some (.int (v_M_no w (-4 : Int32))), u_M_no w (-4 : Int32)))) else (some (some (.int (v_M_no w (-3 : Int32))), u_M_no w (-3 : Int32))))))) else (grd (vpb x1 8 = true) (grd (vpb x2 8 = true) (if (w.1 63 x1.toNatClampNeg) = (w.1 63 x2.toNatClampNeg) then (grd (vpb x1 8 = true) (if (w.1 63 x1.toNatClampNeg) < 0 then (some (some (.int (v_M_no w (-3 : Int32))), u_M_no w (-3 : Int32))) else (grd (vpb x2 8 = true) (if 0 ≤ (w.1 63 x2.toNatClampNeg) then (if 0 ≤ x5 then (if x3 < 0 then (some (some (.int (v_M_no w (-5 : Int32))), u_M_no w (-5 : Int32))) else (if x4 < 0 then (some (some (.int (v_M_no w (-5 : Int32))), u_M_no w (-5 : Int32))) else (grd (vpb x1 8 = true) (if 0 < (lg_cmp (x3.toInt64 + x5.toInt64) ((w.1 64 x1.toNatClampNeg).toInt64)) then (some (some (.int (v_M_no w (-5 : Int32))), u_M_no w (-5 : Int32))) else (grd (vpb x2 8 = true) (if (lg_cmp (x4.toInt64 + x5.toInt64) ((w.1 64 x2.toNatClampNeg).toInt64)) ≤ 0 then (if x1 = x2 then (if x4 ≤ x3 then (f_M_copy_251 FU w x1 x2 x3 x4 x5 (0 : Int32)) else (f_M_copy_203 FU w x1 x2 x3 x4 (x5 - 1))) else (f_M_copy_251 FU w x1 x2 x3 x4 x5 (0 : Int32))) else (some (some (.int (v_M_no w (-5 : Int32))), u_M_no w (-5 : Int32))))))))) else (some (some (.int (v_M_no w (-4 : Int32))), u_M_no w (-4 : Int32)))) else (some (some (.int (v_M_no w (-3 : Int32))), u_M_no w (-3 : Int32))))))) else (some (some (.int (v_M_no w (-2 : Int32))), u_M_no w (-2 : Int32)))))))))) else (grd (vpb x2 8 = true) (if (v_M_isRow w x2) = 0 then (some (some (.int (v_M_no w (-2 : Int32))), u_M_no w (-2 : Int32))) else (grd (vpb x1 8 = true) (if (v_M_isRow w x1) = 0 then (grd (vpb x1 8 = true) (if (w.1 63 x1.toNatClampNeg) < 0 then (some (some (.int (v_M_no w (-3 : Int32))), u_M_no w (-3 : Int32))) else (grd (vpb x2 8 = true) (if 0 ≤ (w.1 63 x2.toNatClampNeg) then (if 0 ≤ x5 then (if x3 < 0 then (some (some (.int (v_M_no w (-5 : Int32))), u_M_no w (-5 : Int32))) else (if x4 < 0 then (some (some (.int (v_M_no w (-5 : Int32))), u_M_no w (-5 : Int32))) else (grd (vpb x1 8 = true) (if 0 < (lg_cmp (x3.toInt64 + x5.toInt64) ((w.1 64 x1.toNatClampNeg).toInt64)) then (some (some (.int (v_M_no w (-5 : Int32))), u_M_no w (-5 : Int32))) else (grd (vpb x2 8 = true) (if (lg_cmp (x4.toInt64 + x5.toInt64) ((w.1 64 x2.toNatClampNeg).toInt64)) ≤ 0 then (if x1 = x2 then (if x4 ≤ x3 then (f_M_copy_251 FU w x1 x2 x3 x4 x5 (0 : Int32)) else (f_M_copy_203 FU w x1 x2 x3 x4 (x5 - 1))) else (f_M_copy_251 FU w x1 x2 x3 x4 x5 (0 : Int32))) else (some (some (.int (v_M_no w (-5 : Int32))), u_M_no w (-5 : Int32))))))))) else (some (some (.int (v_M_no w (-4 : Int32))), u_M_no w (-4 : Int32)))) else (some (some (.int (v_M_no w (-3 : Int32))), u_M_no w (-3 : Int32))))))) else (grd (vpb x2 8 = true) (if (v_M_isRow w x2) = 0 then (grd (vpb x1 8 = true) (if (w.1 63 x1.toNatClampNeg) < 0 then (some (some (.int (v_M_no w (-3 : Int32))), u_M_no w (-3 : Int32))) else (grd (vpb x2 8 = true) (if 0 ≤ (w.1 63 x2.toNatClampNeg) then (if 0 ≤ x5 then (if x3 < 0 then (some (some (.int (v_M_no w (-5 : Int32))), u_M_no w (-5 : Int32))) else (if x4 < 0 then (some (some (.int (v_M_no w (-5 : Int32))), u_M_no w (-5 : Int32))) else (grd (vpb x1 8 = true) (if 0 < (lg_cmp (x3.toInt64 + x5.toInt64) ((w.1 64 x1.toNatClampNeg).toInt64)) then (some (some (.int (v_M_no w (-5 : Int32))), u_M_no w (-5 : Int32))) else (grd (vpb x2 8 = true) (if (lg_cmp (x4.toInt64 + x5.toInt64) ((w.1 64 x2.toNatClampNeg).toInt64)) ≤ 0 then (if x1 = x2 then (if x4 ≤ x3 then (f_M_copy_251 FU w x1 x2 x3 x4 x5 (0 : Int32)) else (f_M_copy_203 FU w x1 x2 x3 x4 (x5 - 1))) else (f_M_copy_251 FU w x1 x2 x3 x4 x5 (0 : Int32))) else (some (some (.int (v_M_no w (-5 : Int32))), u_M_no w (-5 : Int32))))))))) else (some (some (.int (v_M_no w (-4 : Int32))), u_M_no w (-4 : Int32)))) else (some (some (.int (v_M_no w (-3 : Int32))), u_M_no w (-3 : Int32))))))) else (grd (vpb x1 8 = true) (grd (vpb x2 8 = true) (if (w.1 63 x1.toNatClampNeg) = (w.1 63 x2.toNatClampNeg) then (grd (vpb x1 8 = true) (if (w.1 63 x1.toNatClampNeg) < 0 then (some (some (.int (v_M_no w (-3 : Int32))), u_M_no w (-3 : Int32))) else (grd (vpb x2 8 = true) (if 0 ≤ (w.1 63 x2.toNatClampNeg) then (if 0 ≤ x5 then (if x3 < 0 then (some (some (.int (v_M_no w (-5 : Int32))), u_M_no w (-5 : Int32))) else (if x4 < 0 then (some (some (.int (v_M_no w (-5 : Int32))), u_M_no w (-5 : Int32))) else (grd (vpb x1 8 = true) (if 0 < (lg_cmp (x3.toInt64 + x5.toInt64) ((w.1 64 x1.toNatClampNeg).toInt64)) then (some (some (.int (v_M_no w (-5 : Int32))), u_M_no w (-5 : Int32))) else (grd (vpb x2 8 = true) (if (lg_cmp (x4.toInt64 + x5.toInt64) ((w.1 64 x2.toNatClampNeg).toInt64)) ≤ 0 then (if x1 = x2 then (if x4 ≤ x3 then (f_M_copy_251 FU w x1 x2 x3 x4 x5 (0 : Int32)) else (f_M_copy_203 FU w x1 x2 x3 x4 (x5 - 1))) else (f_M_copy_251 FU w x1 x2 x3 x4 x5 (0 : Int32))) else (some (some (.int (v_M_no w (-5 : Int32))), u_M_no w (-5 : Int32))))))))) else (some (some (.int (v_M_no w (-4 : Int32))), u_M_no w (-4 : Int32)))) else (some (some (.int (v_M_no w (-3 : Int32))), u_M_no w (-3 : Int32))))))) else (some (some (.int (v_M_no w (-2 : Int32))), u_M_no w (-2 : Int32)))))))))))))) else (grd (vpb x1 8 = true) (if (v_M_isRow w x1) = 0 then (some (some (.int (v_M_no w (-2 : Int32))), u_M_no w (-2 : Int32))) else (grd (vpb x2 8 = true) (if (w.1 63 x2.toNatClampNeg) < 0 then (grd (vpb x1 8 = true) (if (v_M_isRow w x1) = 0 then (grd (vpb x1 8 = true) (if (w.1 63 x1.toNatClampNeg) < 0 then (some (some (.int (v_M_no w (-3 : Int32))), u_M_no w (-3 : Int32))) else (grd (vpb x2 8 = true) (if 0 ≤ (w.1 63 x2.toNatClampNeg) then (if 0 ≤ x5 then (if x3 < 0 then (some (some (.int (v_M_no w (-5 : Int32))), u_M_no w (-5 : Int32))) else (if x4 < 0 then (some (some (.int (v_M_no w (-5 : Int32))), u_M_no w (-5 : Int32))) else (grd (vpb x1 8 = true) (if 0 < (lg_cmp (x3.toInt64 + x5.toInt64) ((w.1 64 x1.toNatClampNeg).toInt64)) then (some (some (.int (v_M_no w (-5 : Int32))), u_M_no w (-5 : Int32))) else (grd (vpb x2 8 = true) (if (lg_cmp (x4.toInt64 + x5.toInt64) ((w.1 64 x2.toNatClampNeg).toInt64)) ≤ 0 then (if x1 = x2 then (if x4 ≤ x3 then (f_M_copy_251 FU w x1 x2 x3 x4 x5 (0 : Int32)) else (f_M_copy_203 FU w x1 x2 x3 x4 (x5 - 1))) else (f_M_copy_251 FU w x1 x2 x3 x4 x5 (0 : Int32))) else (some (some (.int (v_M_no w (-5 : Int32))), u_M_no w (-5 : Int32))))))))) else (some (some (.int (v_M_no w (-4 : Int32))), u_M_no w (-4 : Int32)))) else (some (some (.int (v_M_no w (-3 : Int32))), u_M_no w (-3 : Int32))))))) else (grd (vpb x2 8 = true) (if (v_M_isRow w x2) = 0 then (grd (vpb x1 8 = true) (if (w.1 63 x1.toNatClampNeg) < 0 then (some (some (.int (v_M_no w (-3 : Int32))), u_M_no w (-3 : Int32))) else (grd (vpb x2 8 = true) (if 0 ≤ (w.1 63 x2.toNatClampNeg) then (if 0 ≤ x5 then (if x3 < 0 then (some (some (.int (v_M_no w (-5 : Int32))), u_M_no w (-5 : Int32))) else (if x4 < 0 then (some (some (.int (v_M_no w (-5 : Int32))), u_M_no w (-5 : Int32))) else (grd (vpb x1 8 = true) (if 0 < (lg_cmp (x3.toInt64 + x5.toInt64) ((w.1 64 x1.toNatClampNeg).toInt64)) then (some (some (.int (v_M_no w (-5 : Int32))), u_M_no w (-5 : Int32))) else (grd (vpb x2 8 = true) (if (lg_cmp (x4.toInt64 + x5.toInt64) ((w.1 64 x2.toNatClampNeg).toInt64)) ≤ 0 then (if x1 = x2 then (if x4 ≤ x3 then (f_M_copy_251 FU w x1 x2 x3 x4 x5 (0 : Int32)) else (f_M_copy_203 FU w x1 x2 x3 x4 (x5 - 1))) else (f_M_copy_251 FU w x1 x2 x3 x4 x5 (0 : Int32))) else (some (some (.int (v_M_no w (-5 : Int32))), u_M_no w (-5 : Int32))))))))) else (some (some (.int (v_M_no w (-4 : Int32))), u_M_no w (-4 : Int32)))) else (some (some (.int (v_M_no w (-3 : Int32))), u_M_no w (-3 : Int32))))))) else (grd (vpb x1 8 = true) (grd (vpb x2 8 = true) (if (w.1 63 x1.toNatClampNeg) = (w.1 63 x2.toNatClampNeg) then (grd (vpb x1 8 = true) (if (w.1 63 x1.toNatClampNeg) < 0 then (some (some (.int (v_M_no w (-3 : Int32))), u_M_no w (-3 : Int32))) else (grd (vpb x2 8 = true) (if 0 ≤ (w.1 63 x2.toNatClampNeg) then (if 0 ≤ x5 then (if x3 < 0 then (some (some (.int (v_M_no w (-5 : Int32))), u_M_no w (-5 : Int32))) else (if x4 < 0 then (some (some (.int (v_M_no w (-5 : Int32))), u_M_no w (-5 : Int32))) else (grd (vpb x1 8 = true) (if 0 < (lg_cmp (x3.toInt64 + x5.toInt64) ((w.1 64 x1.toNatClampNeg).toInt64)) then (some (some (.int (v_M_no w (-5 : Int32))), u_M_no w (-5 : Int32))) else (grd (vpb x2 8 = true) (if (lg_cmp (x4.toInt64 + x5.toInt64) ((w.1 64 x2.toNatClampNeg).toInt64)) ≤ 0 then (if x1 = x2 then (if x4 ≤ x3 then (f_M_copy_251 FU w x1 x2 x3 x4 x5 (0 : Int32)) else (f_M_copy_203 FU w x1 x2 x3 x4 (x5 - 1))) else (f_M_copy_251 FU w x1 x2 x3 x4 x5 (0 : Int32))) else (some (some (.int (v_M_no w (-5 : Int32))), u_M_no w (-5 : Int32))))))))) else (some (some (.int (v_M_no w (-4 : Int32))), u_M_no w (-4 : Int32)))) else (some (some (.int (v_M_no w (-3 : Int32))), u_M_no w (-3 : Int32))))))) else (some (some (.int (v_M_no w (-2 : Int32))), u_M_no w (-2 : Int32)))))))))) else (grd (vpb x2 8 = true) (if (v_M_isRow w x2) = 0 then (some (some (.int (v_M_no w (-2 : Int32))), u_M_no w (-2 : Int32))) else (grd (vpb x1 8 = true) (if (v_M_isRow w x1) = 0 then (grd (vpb x1 8 = true) (if (w.1 63 x1.toNatClampNeg) < 0 then (some (some (.int (v_M_no w (-3 : Int32))), u_M_no w (-3 : Int32))) else (grd (vpb x2 8 = true) (if 0 ≤ (w.1 63 x2.toNatClampNeg) then (if 0 ≤ x5 then (if x3 < 0 then (some (some (.int (v_M_no w (-5 : Int32))), u_M_no w (-5 : Int32))) else (if x4 < 0 then (some (some (.int (v_M_no w (-5 : Int32))), u_M_no w (-5 : Int32))) else (grd (vpb x1 8 = true) (if 0 < (lg_cmp (x3.toInt64 + x5.toInt64) ((w.1 64 x1.toNatClampNeg).toInt64)) then (some (some (.int (v_M_no w (-5 : Int32))), u_M_no w (-5 : Int32))) else (grd (vpb x2 8 = true) (if (lg_cmp (x4.toInt64 + x5.toInt64) ((w.1 64 x2.toNatClampNeg).toInt64)) ≤ 0 then (if x1 = x2 then (if x4 ≤ x3 then (f_M_copy_251 FU w x1 x2 x3 x4 x5 (0 : Int32)) else (f_M_copy_203 FU w x1 x2 x3 x4 (x5 - 1))) else (f_M_copy_251 FU w x1 x2 x3 x4 x5 (0 : Int32))) else (some (some (.int (v_M_no w (-5 : Int32))), u_M_no w (-5 : Int32))))))))) else (some (some (.int (v_M_no w (-4 : Int32))), u_M_no w (-4 : Int32)))) else (some (some (.int (v_M_no w (-3 : Int32))), u_M_no w (-3 : Int32))))))) else (grd (vpb x2 8 = true) (if (v_M_isRow w x2) = 0 then (grd (vpb x1 8 = true) (if (w.1 63 x1.toNatClampNeg) < 0 then (some (some (.int (v_M_no w (-3 : Int32))), u_M_no w (-3 : Int32))) else (grd (vpb x2 8 = true) (if 0 ≤ (w.1 63 x2.toNatClampNeg) then (if 0 ≤ x5 then (if x3 < 0 then (some (some (.int (v_M_no w (-5 : Int32))), u_M_no w (-5 : Int32))) else (if x4 < 0 then (some (some (.int (v_M_no w (-5 : Int32))), u_M_no w (-5 : Int32))) else (grd (vpb x1 8 = true) (if 0 < (lg_cmp (x3.toInt64 + x5.toInt64) ((w.1 64 x1.toNatClampNeg).toInt64)) then (some (some (.int (v_M_no w (-5 : Int32))), u_M_no w (-5 : Int32))) else (grd (vpb x2 8 = true) (if (lg_cmp (x4.toInt64 + x5.toInt64) ((w.1 64 x2.toNatClampNeg).toInt64)) ≤ 0 then (if x1 = x2 then (if x4 ≤ x3 then (f_M_copy_251 FU w x1 x2 x3 x4 x5 (0 : Int32)) else (f_M_copy_203 FU w x1 x2 x3 x4 (x5 - 1))) else (f_M_copy_251 FU w x1 x2 x3 x4 x5 (0 : Int32))) else (some (some (.int (v_M_no w (-5 : Int32))), u_M_no w (-5 : Int32))))))))) else (some (some (.int (v_M_no w (-4 : Int32))), u_M_no w (-4 : Int32)))) else (some (some (.int (v_M_no w (-3 : Int32))), u_M_no w (-3 : Int32))))))) else (grd (vpb x1 8 = true) (grd (vpb x2 8 = true) (if (w.1 63 x1.toNatClampNeg) = (w.1 63 x2.toNatClampNeg) then (grd (vpb x1 8 = true) (if (w.1 63 x1.toNatClampNeg) < 0 then (some (some (.int (v_M_no w (-3 : Int32))), u_M_no w (-3 : Int32))) else (grd (vpb x2 8 = true) (if 0 ≤ (w.1 63 x2.toNatClampNeg) then (if 0 ≤ x5 then (if x3 < 0 then (some (some (.int (v_M_no w (-5 : Int32))), u_M_no w (-5 : Int32))) else (if x4 < 0 then (some (some (.int (v_M_no w (-5 : Int32))), u_M_no w (-5 : Int32))) else (grd (vpb x1 8 = true) (if 0 < (lg_cmp (x3.toInt64 + x5.toInt64) ((w.1 64 x1.toNatClampNeg).toInt64)) then (some (some (.int (v_M_no w (-5 : Int32))), u_M_no w (-5 : Int32))) else (grd (vpb x2 8 = true) (if (lg_cmp (x4.toInt64 + x5.toInt64) ((w.1 64 x2.toNatClampNeg).toInt64)) ≤ 0 then (if x1 = x2 then (if x4 ≤ x3 then (f_M_copy_251 FU w x1 x2 x3 x4 x5 (0 : Int32)) else (f_M_copy_203 FU w x1 x2 x3 x4 (x5 - 1))) else (f_M_copy_251 FU w x1 x2 x3 x4 x5 (0 : Int32))) else (some (some (.int (v_M_no w (-5 : Int32))), u_M_no w (-5 : Int32))))))))) else (some (some (.int (v_M_no w (-4 : Int32))), u_M_no w (-4 : Int32)))) else (some (some (.int (v_M_no w (-3 : Int32))), u_M_no w (-3 : Int32))))))) else (some (some (.int (v_M_no w (-2 : Int32))), u_M_no w (-2 : Int32)))))))))))))))))))
set_option maxHeartbeats 4000000 in
theorem c_M_copy {d : Nat} {r : Option Value} {w' : MW} (w : MW) (x1 : Int32) (x2 : Int32) (x3 : Int32) (x4 : Int32) (x5 : Int32) (hf : f_M_copy w x1 x2 x3 x4 x5 = some (r, w')) : Ct (d + 1) mM_copy [.ref 62, .int x1, .int x2, .int x3, .int x4, .int x5] w r w' := by
  refine eM_copy ?_
  unfold f_M_copy at hf
  refine bM_copy_0 (ct := c_M_within (d := d) w x1 (0 : Int32) (7 : Int32)) (k := ?_)
  refine bM_copy_7 (kt := fun q2 => ?_) (kf := fun q2 => ?_)
  · replace hf := ite_t q2 hf
    refine bM_copy_20 (ct := c_M_no (d := d) w (-1 : Int32) (vpd (i := (-(-1 : Int32))) (n := 8) (by decide))) (k := ?_)
    obtain ⟨rfl, rfl⟩ := ret_e hf
    exact bM_copy_25 
  · replace hf := ite_f q2 hf
    refine bM_copy_10 (ct := c_M_within (d := d) w x2 (0 : Int32) (7 : Int32)) (k := ?_)
    refine bM_copy_17 (kt := fun q6 => ?_) (kf := fun q6 => ?_)
    · replace hf := ite_f q6 hf
      obtain ⟨g7_0, hf⟩ := grd_e hf
      refine bM_copy_26 (y1 := 63) (h3 := (vpb_ok g7_0)) (kt := fun q7 => ?_) (kf := fun q7 => ?_)
      · replace hf := ite_t q7 hf
        obtain ⟨g8_0, hf⟩ := grd_e hf
        refine bM_copy_43 (y1 := 63) (h3 := (vpb_ok g8_0)) (kt := fun q8 => ?_) (kf := fun q8 => ?_)
        · replace hf := ite_t q8 hf
          obtain ⟨g9_0, hf⟩ := grd_e hf
          refine bM_copy_60 (ct := c_M_isRow (d := d) w x1 (vpb_ok g9_0)) (k := ?_)
          refine bM_copy_65 (kt := fun q10 => ?_) (kf := fun q10 => ?_)
          · replace hf := ite_t q10 hf
            obtain ⟨g11_0, hf⟩ := grd_e hf
            refine bM_copy_98 (y1 := 63) (h3 := (vpb_ok g11_0)) (kt := fun q11 => ?_) (kf := fun q11 => ?_)
            · replace hf := ite_t q11 hf
              refine bM_copy_116 (ct := c_M_no (d := d) w (-3 : Int32) (vpd (i := (-(-3 : Int32))) (n := 8) (by decide))) (k := ?_)
              obtain ⟨rfl, rfl⟩ := ret_e hf
              exact bM_copy_122 
            · replace hf := ite_f q11 hf
              obtain ⟨g14_0, hf⟩ := grd_e hf
              refine bM_copy_107 (y1 := 63) (h3 := (vpb_ok g14_0)) (kt := fun q14 => ?_) (kf := fun q14 => ?_)
              · replace hf := ite_t q14 hf
                refine bM_copy_123 (kt := fun q15 => ?_) (kf := fun q15 => ?_)
                · replace hf := ite_t q15 hf
                  refine bM_copy_135 (kt := fun q16 => ?_) (kf := fun q16 => ?_)
                  · replace hf := ite_t q16 hf
                    refine bM_copy_179 (ct := c_M_no (d := d) w (-5 : Int32) (vpd (i := (-(-5 : Int32))) (n := 8) (by decide))) (k := ?_)
                    obtain ⟨rfl, rfl⟩ := ret_e hf
                    exact bM_copy_185 
                  · replace hf := ite_f q16 hf
                    refine bM_copy_139 (kt := fun q19 => ?_) (kf := fun q19 => ?_)
                    · replace hf := ite_t q19 hf
                      refine bM_copy_179 (ct := c_M_no (d := d) w (-5 : Int32) (vpd (i := (-(-5 : Int32))) (n := 8) (by decide))) (k := ?_)
                      obtain ⟨rfl, rfl⟩ := ret_e hf
                      exact bM_copy_185 
                    · replace hf := ite_f q19 hf
                      obtain ⟨g22_0, hf⟩ := grd_e hf
                      refine bM_copy_144 (y1 := 64) (h3 := (vpb_ok g22_0)) (kt := fun q22 => ?_) (kf := fun q22 => ?_)
                      · replace hf := ite_t q22 hf
                        refine bM_copy_179 (ct := c_M_no (d := d) w (-5 : Int32) (vpd (i := (-(-5 : Int32))) (n := 8) (by decide))) (k := ?_)
                        obtain ⟨rfl, rfl⟩ := ret_e hf
                        exact bM_copy_185 
                      · replace hf := ite_f q22 hf
                        obtain ⟨g25_0, hf⟩ := grd_e hf
                        refine bM_copy_161 (y1 := 64) (h3 := (vpb_ok g25_0)) (kt := fun q25 => ?_) (kf := fun q25 => ?_)
                        · replace hf := ite_t q25 hf
                          refine bM_copy_186 (kt := fun q26 => ?_) (kf := fun q26 => ?_)
                          · replace hf := ite_f q26 hf
                            refine bM_copy_248 (k := ?_)
                            exact r_M_copy_251 FU w x1 x2 x3 x4 x5 (0 : Int32) hf
                          · replace hf := ite_t q26 hf
                            refine bM_copy_191 (kt := fun q28 => ?_) (kf := fun q28 => ?_)
                            · replace hf := ite_t q28 hf
                              refine bM_copy_248 (k := ?_)
                              exact r_M_copy_251 FU w x1 x2 x3 x4 x5 (0 : Int32) hf
                            · replace hf := ite_f q28 hf
                              refine bM_copy_197 (k := ?_)
                              exact r_M_copy_203 FU w x1 x2 x3 x4 (x5 - 1) hf
                        · replace hf := ite_f q25 hf
                          refine bM_copy_179 (ct := c_M_no (d := d) w (-5 : Int32) (vpd (i := (-(-5 : Int32))) (n := 8) (by decide))) (k := ?_)
                          obtain ⟨rfl, rfl⟩ := ret_e hf
                          exact bM_copy_185 
                · replace hf := ite_f q15 hf
                  refine bM_copy_128 (ct := c_M_no (d := d) w (-4 : Int32) (vpd (i := (-(-4 : Int32))) (n := 8) (by decide))) (k := ?_)
                  obtain ⟨rfl, rfl⟩ := ret_e hf
                  exact bM_copy_134 
              · replace hf := ite_f q14 hf
                refine bM_copy_116 (ct := c_M_no (d := d) w (-3 : Int32) (vpd (i := (-(-3 : Int32))) (n := 8) (by decide))) (k := ?_)
                obtain ⟨rfl, rfl⟩ := ret_e hf
                exact bM_copy_122 
          · replace hf := ite_f q10 hf
            obtain ⟨g37_0, hf⟩ := grd_e hf
            refine bM_copy_68 (ct := c_M_isRow (d := d) w x2 (vpb_ok g37_0)) (k := ?_)
            refine bM_copy_73 (kt := fun q38 => ?_) (kf := fun q38 => ?_)
            · replace hf := ite_t q38 hf
              obtain ⟨g39_0, hf⟩ := grd_e hf
              refine bM_copy_98 (y1 := 63) (h3 := (vpb_ok g39_0)) (kt := fun q39 => ?_) (kf := fun q39 => ?_)
              · replace hf := ite_t q39 hf
                refine bM_copy_116 (ct := c_M_no (d := d) w (-3 : Int32) (vpd (i := (-(-3 : Int32))) (n := 8) (by decide))) (k := ?_)
                obtain ⟨rfl, rfl⟩ := ret_e hf
                exact bM_copy_122 
              · replace hf := ite_f q39 hf
                obtain ⟨g42_0, hf⟩ := grd_e hf
                refine bM_copy_107 (y1 := 63) (h3 := (vpb_ok g42_0)) (kt := fun q42 => ?_) (kf := fun q42 => ?_)
                · replace hf := ite_t q42 hf
                  refine bM_copy_123 (kt := fun q43 => ?_) (kf := fun q43 => ?_)
                  · replace hf := ite_t q43 hf
                    refine bM_copy_135 (kt := fun q44 => ?_) (kf := fun q44 => ?_)
                    · replace hf := ite_t q44 hf
                      refine bM_copy_179 (ct := c_M_no (d := d) w (-5 : Int32) (vpd (i := (-(-5 : Int32))) (n := 8) (by decide))) (k := ?_)
                      obtain ⟨rfl, rfl⟩ := ret_e hf
                      exact bM_copy_185 
                    · replace hf := ite_f q44 hf
                      refine bM_copy_139 (kt := fun q47 => ?_) (kf := fun q47 => ?_)
                      · replace hf := ite_t q47 hf
                        refine bM_copy_179 (ct := c_M_no (d := d) w (-5 : Int32) (vpd (i := (-(-5 : Int32))) (n := 8) (by decide))) (k := ?_)
                        obtain ⟨rfl, rfl⟩ := ret_e hf
                        exact bM_copy_185 
                      · replace hf := ite_f q47 hf
                        obtain ⟨g50_0, hf⟩ := grd_e hf
                        refine bM_copy_144 (y1 := 64) (h3 := (vpb_ok g50_0)) (kt := fun q50 => ?_) (kf := fun q50 => ?_)
                        · replace hf := ite_t q50 hf
                          refine bM_copy_179 (ct := c_M_no (d := d) w (-5 : Int32) (vpd (i := (-(-5 : Int32))) (n := 8) (by decide))) (k := ?_)
                          obtain ⟨rfl, rfl⟩ := ret_e hf
                          exact bM_copy_185 
                        · replace hf := ite_f q50 hf
                          obtain ⟨g53_0, hf⟩ := grd_e hf
                          refine bM_copy_161 (y1 := 64) (h3 := (vpb_ok g53_0)) (kt := fun q53 => ?_) (kf := fun q53 => ?_)
                          · replace hf := ite_t q53 hf
                            refine bM_copy_186 (kt := fun q54 => ?_) (kf := fun q54 => ?_)
                            · replace hf := ite_f q54 hf
                              refine bM_copy_248 (k := ?_)
                              exact r_M_copy_251 FU w x1 x2 x3 x4 x5 (0 : Int32) hf
                            · replace hf := ite_t q54 hf
                              refine bM_copy_191 (kt := fun q56 => ?_) (kf := fun q56 => ?_)
                              · replace hf := ite_t q56 hf
                                refine bM_copy_248 (k := ?_)
                                exact r_M_copy_251 FU w x1 x2 x3 x4 x5 (0 : Int32) hf
                              · replace hf := ite_f q56 hf
                                refine bM_copy_197 (k := ?_)
                                exact r_M_copy_203 FU w x1 x2 x3 x4 (x5 - 1) hf
                          · replace hf := ite_f q53 hf
                            refine bM_copy_179 (ct := c_M_no (d := d) w (-5 : Int32) (vpd (i := (-(-5 : Int32))) (n := 8) (by decide))) (k := ?_)
                            obtain ⟨rfl, rfl⟩ := ret_e hf
                            exact bM_copy_185 
                  · replace hf := ite_f q43 hf
                    refine bM_copy_128 (ct := c_M_no (d := d) w (-4 : Int32) (vpd (i := (-(-4 : Int32))) (n := 8) (by decide))) (k := ?_)
                    obtain ⟨rfl, rfl⟩ := ret_e hf
                    exact bM_copy_134 
                · replace hf := ite_f q42 hf
                  refine bM_copy_116 (ct := c_M_no (d := d) w (-3 : Int32) (vpd (i := (-(-3 : Int32))) (n := 8) (by decide))) (k := ?_)
                  obtain ⟨rfl, rfl⟩ := ret_e hf
                  exact bM_copy_122 
            · replace hf := ite_f q38 hf
              obtain ⟨g65_0, hf⟩ := grd_e hf
              obtain ⟨g65_1, hf⟩ := grd_e hf
              refine bM_copy_76 (y1 := 63) (h3 := (vpb_ok g65_0)) (y2 := 63) (h6 := (vpb_ok g65_1)) (kt := fun q65 => ?_) (kf := fun q65 => ?_)
              · replace hf := ite_t q65 hf
                obtain ⟨g66_0, hf⟩ := grd_e hf
                refine bM_copy_98 (y1 := 63) (h3 := (vpb_ok g66_0)) (kt := fun q66 => ?_) (kf := fun q66 => ?_)
                · replace hf := ite_t q66 hf
                  refine bM_copy_116 (ct := c_M_no (d := d) w (-3 : Int32) (vpd (i := (-(-3 : Int32))) (n := 8) (by decide))) (k := ?_)
                  obtain ⟨rfl, rfl⟩ := ret_e hf
                  exact bM_copy_122 
                · replace hf := ite_f q66 hf
                  obtain ⟨g69_0, hf⟩ := grd_e hf
                  refine bM_copy_107 (y1 := 63) (h3 := (vpb_ok g69_0)) (kt := fun q69 => ?_) (kf := fun q69 => ?_)
                  · replace hf := ite_t q69 hf
                    refine bM_copy_123 (kt := fun q70 => ?_) (kf := fun q70 => ?_)
                    · replace hf := ite_t q70 hf
                      refine bM_copy_135 (kt := fun q71 => ?_) (kf := fun q71 => ?_)
                      · replace hf := ite_t q71 hf
                        refine bM_copy_179 (ct := c_M_no (d := d) w (-5 : Int32) (vpd (i := (-(-5 : Int32))) (n := 8) (by decide))) (k := ?_)
                        obtain ⟨rfl, rfl⟩ := ret_e hf
                        exact bM_copy_185 
                      · replace hf := ite_f q71 hf
                        refine bM_copy_139 (kt := fun q74 => ?_) (kf := fun q74 => ?_)
                        · replace hf := ite_t q74 hf
                          refine bM_copy_179 (ct := c_M_no (d := d) w (-5 : Int32) (vpd (i := (-(-5 : Int32))) (n := 8) (by decide))) (k := ?_)
                          obtain ⟨rfl, rfl⟩ := ret_e hf
                          exact bM_copy_185 
                        · replace hf := ite_f q74 hf
                          obtain ⟨g77_0, hf⟩ := grd_e hf
                          refine bM_copy_144 (y1 := 64) (h3 := (vpb_ok g77_0)) (kt := fun q77 => ?_) (kf := fun q77 => ?_)
                          · replace hf := ite_t q77 hf
                            refine bM_copy_179 (ct := c_M_no (d := d) w (-5 : Int32) (vpd (i := (-(-5 : Int32))) (n := 8) (by decide))) (k := ?_)
                            obtain ⟨rfl, rfl⟩ := ret_e hf
                            exact bM_copy_185 
                          · replace hf := ite_f q77 hf
                            obtain ⟨g80_0, hf⟩ := grd_e hf
                            refine bM_copy_161 (y1 := 64) (h3 := (vpb_ok g80_0)) (kt := fun q80 => ?_) (kf := fun q80 => ?_)
                            · replace hf := ite_t q80 hf
                              refine bM_copy_186 (kt := fun q81 => ?_) (kf := fun q81 => ?_)
                              · replace hf := ite_f q81 hf
                                refine bM_copy_248 (k := ?_)
                                exact r_M_copy_251 FU w x1 x2 x3 x4 x5 (0 : Int32) hf
                              · replace hf := ite_t q81 hf
                                refine bM_copy_191 (kt := fun q83 => ?_) (kf := fun q83 => ?_)
                                · replace hf := ite_t q83 hf
                                  refine bM_copy_248 (k := ?_)
                                  exact r_M_copy_251 FU w x1 x2 x3 x4 x5 (0 : Int32) hf
                                · replace hf := ite_f q83 hf
                                  refine bM_copy_197 (k := ?_)
                                  exact r_M_copy_203 FU w x1 x2 x3 x4 (x5 - 1) hf
                            · replace hf := ite_f q80 hf
                              refine bM_copy_179 (ct := c_M_no (d := d) w (-5 : Int32) (vpd (i := (-(-5 : Int32))) (n := 8) (by decide))) (k := ?_)
                              obtain ⟨rfl, rfl⟩ := ret_e hf
                              exact bM_copy_185 
                    · replace hf := ite_f q70 hf
                      refine bM_copy_128 (ct := c_M_no (d := d) w (-4 : Int32) (vpd (i := (-(-4 : Int32))) (n := 8) (by decide))) (k := ?_)
                      obtain ⟨rfl, rfl⟩ := ret_e hf
                      exact bM_copy_134 
                  · replace hf := ite_f q69 hf
                    refine bM_copy_116 (ct := c_M_no (d := d) w (-3 : Int32) (vpd (i := (-(-3 : Int32))) (n := 8) (by decide))) (k := ?_)
                    obtain ⟨rfl, rfl⟩ := ret_e hf
                    exact bM_copy_122 
              · replace hf := ite_f q65 hf
                refine bM_copy_91 (ct := c_M_no (d := d) w (-2 : Int32) (vpd (i := (-(-2 : Int32))) (n := 8) (by decide))) (k := ?_)
                obtain ⟨rfl, rfl⟩ := ret_e hf
                exact bM_copy_97 
        · replace hf := ite_f q8 hf
          obtain ⟨g94_0, hf⟩ := grd_e hf
          refine bM_copy_52 (ct := c_M_isRow (d := d) w x2 (vpb_ok g94_0)) (k := ?_)
          refine bM_copy_57 (kt := fun q95 => ?_) (kf := fun q95 => ?_)
          · replace hf := ite_t q95 hf
            refine bM_copy_91 (ct := c_M_no (d := d) w (-2 : Int32) (vpd (i := (-(-2 : Int32))) (n := 8) (by decide))) (k := ?_)
            obtain ⟨rfl, rfl⟩ := ret_e hf
            exact bM_copy_97 
          · replace hf := ite_f q95 hf
            obtain ⟨g98_0, hf⟩ := grd_e hf
            refine bM_copy_60 (ct := c_M_isRow (d := d) w x1 (vpb_ok g98_0)) (k := ?_)
            refine bM_copy_65 (kt := fun q99 => ?_) (kf := fun q99 => ?_)
            · replace hf := ite_t q99 hf
              obtain ⟨g100_0, hf⟩ := grd_e hf
              refine bM_copy_98 (y1 := 63) (h3 := (vpb_ok g100_0)) (kt := fun q100 => ?_) (kf := fun q100 => ?_)
              · replace hf := ite_t q100 hf
                refine bM_copy_116 (ct := c_M_no (d := d) w (-3 : Int32) (vpd (i := (-(-3 : Int32))) (n := 8) (by decide))) (k := ?_)
                obtain ⟨rfl, rfl⟩ := ret_e hf
                exact bM_copy_122 
              · replace hf := ite_f q100 hf
                obtain ⟨g103_0, hf⟩ := grd_e hf
                refine bM_copy_107 (y1 := 63) (h3 := (vpb_ok g103_0)) (kt := fun q103 => ?_) (kf := fun q103 => ?_)
                · replace hf := ite_t q103 hf
                  refine bM_copy_123 (kt := fun q104 => ?_) (kf := fun q104 => ?_)
                  · replace hf := ite_t q104 hf
                    refine bM_copy_135 (kt := fun q105 => ?_) (kf := fun q105 => ?_)
                    · replace hf := ite_t q105 hf
                      refine bM_copy_179 (ct := c_M_no (d := d) w (-5 : Int32) (vpd (i := (-(-5 : Int32))) (n := 8) (by decide))) (k := ?_)
                      obtain ⟨rfl, rfl⟩ := ret_e hf
                      exact bM_copy_185 
                    · replace hf := ite_f q105 hf
                      refine bM_copy_139 (kt := fun q108 => ?_) (kf := fun q108 => ?_)
                      · replace hf := ite_t q108 hf
                        refine bM_copy_179 (ct := c_M_no (d := d) w (-5 : Int32) (vpd (i := (-(-5 : Int32))) (n := 8) (by decide))) (k := ?_)
                        obtain ⟨rfl, rfl⟩ := ret_e hf
                        exact bM_copy_185 
                      · replace hf := ite_f q108 hf
                        obtain ⟨g111_0, hf⟩ := grd_e hf
                        refine bM_copy_144 (y1 := 64) (h3 := (vpb_ok g111_0)) (kt := fun q111 => ?_) (kf := fun q111 => ?_)
                        · replace hf := ite_t q111 hf
                          refine bM_copy_179 (ct := c_M_no (d := d) w (-5 : Int32) (vpd (i := (-(-5 : Int32))) (n := 8) (by decide))) (k := ?_)
                          obtain ⟨rfl, rfl⟩ := ret_e hf
                          exact bM_copy_185 
                        · replace hf := ite_f q111 hf
                          obtain ⟨g114_0, hf⟩ := grd_e hf
                          refine bM_copy_161 (y1 := 64) (h3 := (vpb_ok g114_0)) (kt := fun q114 => ?_) (kf := fun q114 => ?_)
                          · replace hf := ite_t q114 hf
                            refine bM_copy_186 (kt := fun q115 => ?_) (kf := fun q115 => ?_)
                            · replace hf := ite_f q115 hf
                              refine bM_copy_248 (k := ?_)
                              exact r_M_copy_251 FU w x1 x2 x3 x4 x5 (0 : Int32) hf
                            · replace hf := ite_t q115 hf
                              refine bM_copy_191 (kt := fun q117 => ?_) (kf := fun q117 => ?_)
                              · replace hf := ite_t q117 hf
                                refine bM_copy_248 (k := ?_)
                                exact r_M_copy_251 FU w x1 x2 x3 x4 x5 (0 : Int32) hf
                              · replace hf := ite_f q117 hf
                                refine bM_copy_197 (k := ?_)
                                exact r_M_copy_203 FU w x1 x2 x3 x4 (x5 - 1) hf
                          · replace hf := ite_f q114 hf
                            refine bM_copy_179 (ct := c_M_no (d := d) w (-5 : Int32) (vpd (i := (-(-5 : Int32))) (n := 8) (by decide))) (k := ?_)
                            obtain ⟨rfl, rfl⟩ := ret_e hf
                            exact bM_copy_185 
                  · replace hf := ite_f q104 hf
                    refine bM_copy_128 (ct := c_M_no (d := d) w (-4 : Int32) (vpd (i := (-(-4 : Int32))) (n := 8) (by decide))) (k := ?_)
                    obtain ⟨rfl, rfl⟩ := ret_e hf
                    exact bM_copy_134 
                · replace hf := ite_f q103 hf
                  refine bM_copy_116 (ct := c_M_no (d := d) w (-3 : Int32) (vpd (i := (-(-3 : Int32))) (n := 8) (by decide))) (k := ?_)
                  obtain ⟨rfl, rfl⟩ := ret_e hf
                  exact bM_copy_122 
            · replace hf := ite_f q99 hf
              obtain ⟨g126_0, hf⟩ := grd_e hf
              refine bM_copy_68 (ct := c_M_isRow (d := d) w x2 (vpb_ok g126_0)) (k := ?_)
              refine bM_copy_73 (kt := fun q127 => ?_) (kf := fun q127 => ?_)
              · replace hf := ite_t q127 hf
                obtain ⟨g128_0, hf⟩ := grd_e hf
                refine bM_copy_98 (y1 := 63) (h3 := (vpb_ok g128_0)) (kt := fun q128 => ?_) (kf := fun q128 => ?_)
                · replace hf := ite_t q128 hf
                  refine bM_copy_116 (ct := c_M_no (d := d) w (-3 : Int32) (vpd (i := (-(-3 : Int32))) (n := 8) (by decide))) (k := ?_)
                  obtain ⟨rfl, rfl⟩ := ret_e hf
                  exact bM_copy_122 
                · replace hf := ite_f q128 hf
                  obtain ⟨g131_0, hf⟩ := grd_e hf
                  refine bM_copy_107 (y1 := 63) (h3 := (vpb_ok g131_0)) (kt := fun q131 => ?_) (kf := fun q131 => ?_)
                  · replace hf := ite_t q131 hf
                    refine bM_copy_123 (kt := fun q132 => ?_) (kf := fun q132 => ?_)
                    · replace hf := ite_t q132 hf
                      refine bM_copy_135 (kt := fun q133 => ?_) (kf := fun q133 => ?_)
                      · replace hf := ite_t q133 hf
                        refine bM_copy_179 (ct := c_M_no (d := d) w (-5 : Int32) (vpd (i := (-(-5 : Int32))) (n := 8) (by decide))) (k := ?_)
                        obtain ⟨rfl, rfl⟩ := ret_e hf
                        exact bM_copy_185 
                      · replace hf := ite_f q133 hf
                        refine bM_copy_139 (kt := fun q136 => ?_) (kf := fun q136 => ?_)
                        · replace hf := ite_t q136 hf
                          refine bM_copy_179 (ct := c_M_no (d := d) w (-5 : Int32) (vpd (i := (-(-5 : Int32))) (n := 8) (by decide))) (k := ?_)
                          obtain ⟨rfl, rfl⟩ := ret_e hf
                          exact bM_copy_185 
                        · replace hf := ite_f q136 hf
                          obtain ⟨g139_0, hf⟩ := grd_e hf
                          refine bM_copy_144 (y1 := 64) (h3 := (vpb_ok g139_0)) (kt := fun q139 => ?_) (kf := fun q139 => ?_)
                          · replace hf := ite_t q139 hf
                            refine bM_copy_179 (ct := c_M_no (d := d) w (-5 : Int32) (vpd (i := (-(-5 : Int32))) (n := 8) (by decide))) (k := ?_)
                            obtain ⟨rfl, rfl⟩ := ret_e hf
                            exact bM_copy_185 
                          · replace hf := ite_f q139 hf
                            obtain ⟨g142_0, hf⟩ := grd_e hf
                            refine bM_copy_161 (y1 := 64) (h3 := (vpb_ok g142_0)) (kt := fun q142 => ?_) (kf := fun q142 => ?_)
                            · replace hf := ite_t q142 hf
                              refine bM_copy_186 (kt := fun q143 => ?_) (kf := fun q143 => ?_)
                              · replace hf := ite_f q143 hf
                                refine bM_copy_248 (k := ?_)
                                exact r_M_copy_251 FU w x1 x2 x3 x4 x5 (0 : Int32) hf
                              · replace hf := ite_t q143 hf
                                refine bM_copy_191 (kt := fun q145 => ?_) (kf := fun q145 => ?_)
                                · replace hf := ite_t q145 hf
                                  refine bM_copy_248 (k := ?_)
                                  exact r_M_copy_251 FU w x1 x2 x3 x4 x5 (0 : Int32) hf
                                · replace hf := ite_f q145 hf
                                  refine bM_copy_197 (k := ?_)
                                  exact r_M_copy_203 FU w x1 x2 x3 x4 (x5 - 1) hf
                            · replace hf := ite_f q142 hf
                              refine bM_copy_179 (ct := c_M_no (d := d) w (-5 : Int32) (vpd (i := (-(-5 : Int32))) (n := 8) (by decide))) (k := ?_)
                              obtain ⟨rfl, rfl⟩ := ret_e hf
                              exact bM_copy_185 
                    · replace hf := ite_f q132 hf
                      refine bM_copy_128 (ct := c_M_no (d := d) w (-4 : Int32) (vpd (i := (-(-4 : Int32))) (n := 8) (by decide))) (k := ?_)
                      obtain ⟨rfl, rfl⟩ := ret_e hf
                      exact bM_copy_134 
                  · replace hf := ite_f q131 hf
                    refine bM_copy_116 (ct := c_M_no (d := d) w (-3 : Int32) (vpd (i := (-(-3 : Int32))) (n := 8) (by decide))) (k := ?_)
                    obtain ⟨rfl, rfl⟩ := ret_e hf
                    exact bM_copy_122 
              · replace hf := ite_f q127 hf
                obtain ⟨g154_0, hf⟩ := grd_e hf
                obtain ⟨g154_1, hf⟩ := grd_e hf
                refine bM_copy_76 (y1 := 63) (h3 := (vpb_ok g154_0)) (y2 := 63) (h6 := (vpb_ok g154_1)) (kt := fun q154 => ?_) (kf := fun q154 => ?_)
                · replace hf := ite_t q154 hf
                  obtain ⟨g155_0, hf⟩ := grd_e hf
                  refine bM_copy_98 (y1 := 63) (h3 := (vpb_ok g155_0)) (kt := fun q155 => ?_) (kf := fun q155 => ?_)
                  · replace hf := ite_t q155 hf
                    refine bM_copy_116 (ct := c_M_no (d := d) w (-3 : Int32) (vpd (i := (-(-3 : Int32))) (n := 8) (by decide))) (k := ?_)
                    obtain ⟨rfl, rfl⟩ := ret_e hf
                    exact bM_copy_122 
                  · replace hf := ite_f q155 hf
                    obtain ⟨g158_0, hf⟩ := grd_e hf
                    refine bM_copy_107 (y1 := 63) (h3 := (vpb_ok g158_0)) (kt := fun q158 => ?_) (kf := fun q158 => ?_)
                    · replace hf := ite_t q158 hf
                      refine bM_copy_123 (kt := fun q159 => ?_) (kf := fun q159 => ?_)
                      · replace hf := ite_t q159 hf
                        refine bM_copy_135 (kt := fun q160 => ?_) (kf := fun q160 => ?_)
                        · replace hf := ite_t q160 hf
                          refine bM_copy_179 (ct := c_M_no (d := d) w (-5 : Int32) (vpd (i := (-(-5 : Int32))) (n := 8) (by decide))) (k := ?_)
                          obtain ⟨rfl, rfl⟩ := ret_e hf
                          exact bM_copy_185 
                        · replace hf := ite_f q160 hf
                          refine bM_copy_139 (kt := fun q163 => ?_) (kf := fun q163 => ?_)
                          · replace hf := ite_t q163 hf
                            refine bM_copy_179 (ct := c_M_no (d := d) w (-5 : Int32) (vpd (i := (-(-5 : Int32))) (n := 8) (by decide))) (k := ?_)
                            obtain ⟨rfl, rfl⟩ := ret_e hf
                            exact bM_copy_185 
                          · replace hf := ite_f q163 hf
                            obtain ⟨g166_0, hf⟩ := grd_e hf
                            refine bM_copy_144 (y1 := 64) (h3 := (vpb_ok g166_0)) (kt := fun q166 => ?_) (kf := fun q166 => ?_)
                            · replace hf := ite_t q166 hf
                              refine bM_copy_179 (ct := c_M_no (d := d) w (-5 : Int32) (vpd (i := (-(-5 : Int32))) (n := 8) (by decide))) (k := ?_)
                              obtain ⟨rfl, rfl⟩ := ret_e hf
                              exact bM_copy_185 
                            · replace hf := ite_f q166 hf
                              obtain ⟨g169_0, hf⟩ := grd_e hf
                              refine bM_copy_161 (y1 := 64) (h3 := (vpb_ok g169_0)) (kt := fun q169 => ?_) (kf := fun q169 => ?_)
                              · replace hf := ite_t q169 hf
                                refine bM_copy_186 (kt := fun q170 => ?_) (kf := fun q170 => ?_)
                                · replace hf := ite_f q170 hf
                                  refine bM_copy_248 (k := ?_)
                                  exact r_M_copy_251 FU w x1 x2 x3 x4 x5 (0 : Int32) hf
                                · replace hf := ite_t q170 hf
                                  refine bM_copy_191 (kt := fun q172 => ?_) (kf := fun q172 => ?_)
                                  · replace hf := ite_t q172 hf
                                    refine bM_copy_248 (k := ?_)
                                    exact r_M_copy_251 FU w x1 x2 x3 x4 x5 (0 : Int32) hf
                                  · replace hf := ite_f q172 hf
                                    refine bM_copy_197 (k := ?_)
                                    exact r_M_copy_203 FU w x1 x2 x3 x4 (x5 - 1) hf
                              · replace hf := ite_f q169 hf
                                refine bM_copy_179 (ct := c_M_no (d := d) w (-5 : Int32) (vpd (i := (-(-5 : Int32))) (n := 8) (by decide))) (k := ?_)
                                obtain ⟨rfl, rfl⟩ := ret_e hf
                                exact bM_copy_185 
                      · replace hf := ite_f q159 hf
                        refine bM_copy_128 (ct := c_M_no (d := d) w (-4 : Int32) (vpd (i := (-(-4 : Int32))) (n := 8) (by decide))) (k := ?_)
                        obtain ⟨rfl, rfl⟩ := ret_e hf
                        exact bM_copy_134 
                    · replace hf := ite_f q158 hf
                      refine bM_copy_116 (ct := c_M_no (d := d) w (-3 : Int32) (vpd (i := (-(-3 : Int32))) (n := 8) (by decide))) (k := ?_)
                      obtain ⟨rfl, rfl⟩ := ret_e hf
                      exact bM_copy_122 
                · replace hf := ite_f q154 hf
                  refine bM_copy_91 (ct := c_M_no (d := d) w (-2 : Int32) (vpd (i := (-(-2 : Int32))) (n := 8) (by decide))) (k := ?_)
                  obtain ⟨rfl, rfl⟩ := ret_e hf
                  exact bM_copy_97 
      · replace hf := ite_f q7 hf
        obtain ⟨g183_0, hf⟩ := grd_e hf
        refine bM_copy_35 (ct := c_M_isRow (d := d) w x1 (vpb_ok g183_0)) (k := ?_)
        refine bM_copy_40 (kt := fun q184 => ?_) (kf := fun q184 => ?_)
        · replace hf := ite_t q184 hf
          refine bM_copy_91 (ct := c_M_no (d := d) w (-2 : Int32) (vpd (i := (-(-2 : Int32))) (n := 8) (by decide))) (k := ?_)
          obtain ⟨rfl, rfl⟩ := ret_e hf
          exact bM_copy_97 
        · replace hf := ite_f q184 hf
          obtain ⟨g187_0, hf⟩ := grd_e hf
          refine bM_copy_43 (y1 := 63) (h3 := (vpb_ok g187_0)) (kt := fun q187 => ?_) (kf := fun q187 => ?_)
          · replace hf := ite_t q187 hf
            obtain ⟨g188_0, hf⟩ := grd_e hf
            refine bM_copy_60 (ct := c_M_isRow (d := d) w x1 (vpb_ok g188_0)) (k := ?_)
            refine bM_copy_65 (kt := fun q189 => ?_) (kf := fun q189 => ?_)
            · replace hf := ite_t q189 hf
              obtain ⟨g190_0, hf⟩ := grd_e hf
              refine bM_copy_98 (y1 := 63) (h3 := (vpb_ok g190_0)) (kt := fun q190 => ?_) (kf := fun q190 => ?_)
              · replace hf := ite_t q190 hf
                refine bM_copy_116 (ct := c_M_no (d := d) w (-3 : Int32) (vpd (i := (-(-3 : Int32))) (n := 8) (by decide))) (k := ?_)
                obtain ⟨rfl, rfl⟩ := ret_e hf
                exact bM_copy_122 
              · replace hf := ite_f q190 hf
                obtain ⟨g193_0, hf⟩ := grd_e hf
                refine bM_copy_107 (y1 := 63) (h3 := (vpb_ok g193_0)) (kt := fun q193 => ?_) (kf := fun q193 => ?_)
                · replace hf := ite_t q193 hf
                  refine bM_copy_123 (kt := fun q194 => ?_) (kf := fun q194 => ?_)
                  · replace hf := ite_t q194 hf
                    refine bM_copy_135 (kt := fun q195 => ?_) (kf := fun q195 => ?_)
                    · replace hf := ite_t q195 hf
                      refine bM_copy_179 (ct := c_M_no (d := d) w (-5 : Int32) (vpd (i := (-(-5 : Int32))) (n := 8) (by decide))) (k := ?_)
                      obtain ⟨rfl, rfl⟩ := ret_e hf
                      exact bM_copy_185 
                    · replace hf := ite_f q195 hf
                      refine bM_copy_139 (kt := fun q198 => ?_) (kf := fun q198 => ?_)
                      · replace hf := ite_t q198 hf
                        refine bM_copy_179 (ct := c_M_no (d := d) w (-5 : Int32) (vpd (i := (-(-5 : Int32))) (n := 8) (by decide))) (k := ?_)
                        obtain ⟨rfl, rfl⟩ := ret_e hf
                        exact bM_copy_185 
                      · replace hf := ite_f q198 hf
                        obtain ⟨g201_0, hf⟩ := grd_e hf
                        refine bM_copy_144 (y1 := 64) (h3 := (vpb_ok g201_0)) (kt := fun q201 => ?_) (kf := fun q201 => ?_)
                        · replace hf := ite_t q201 hf
                          refine bM_copy_179 (ct := c_M_no (d := d) w (-5 : Int32) (vpd (i := (-(-5 : Int32))) (n := 8) (by decide))) (k := ?_)
                          obtain ⟨rfl, rfl⟩ := ret_e hf
                          exact bM_copy_185 
                        · replace hf := ite_f q201 hf
                          obtain ⟨g204_0, hf⟩ := grd_e hf
                          refine bM_copy_161 (y1 := 64) (h3 := (vpb_ok g204_0)) (kt := fun q204 => ?_) (kf := fun q204 => ?_)
                          · replace hf := ite_t q204 hf
                            refine bM_copy_186 (kt := fun q205 => ?_) (kf := fun q205 => ?_)
                            · replace hf := ite_f q205 hf
                              refine bM_copy_248 (k := ?_)
                              exact r_M_copy_251 FU w x1 x2 x3 x4 x5 (0 : Int32) hf
                            · replace hf := ite_t q205 hf
                              refine bM_copy_191 (kt := fun q207 => ?_) (kf := fun q207 => ?_)
                              · replace hf := ite_t q207 hf
                                refine bM_copy_248 (k := ?_)
                                exact r_M_copy_251 FU w x1 x2 x3 x4 x5 (0 : Int32) hf
                              · replace hf := ite_f q207 hf
                                refine bM_copy_197 (k := ?_)
                                exact r_M_copy_203 FU w x1 x2 x3 x4 (x5 - 1) hf
                          · replace hf := ite_f q204 hf
                            refine bM_copy_179 (ct := c_M_no (d := d) w (-5 : Int32) (vpd (i := (-(-5 : Int32))) (n := 8) (by decide))) (k := ?_)
                            obtain ⟨rfl, rfl⟩ := ret_e hf
                            exact bM_copy_185 
                  · replace hf := ite_f q194 hf
                    refine bM_copy_128 (ct := c_M_no (d := d) w (-4 : Int32) (vpd (i := (-(-4 : Int32))) (n := 8) (by decide))) (k := ?_)
                    obtain ⟨rfl, rfl⟩ := ret_e hf
                    exact bM_copy_134 
                · replace hf := ite_f q193 hf
                  refine bM_copy_116 (ct := c_M_no (d := d) w (-3 : Int32) (vpd (i := (-(-3 : Int32))) (n := 8) (by decide))) (k := ?_)
                  obtain ⟨rfl, rfl⟩ := ret_e hf
                  exact bM_copy_122 
            · replace hf := ite_f q189 hf
              obtain ⟨g216_0, hf⟩ := grd_e hf
              refine bM_copy_68 (ct := c_M_isRow (d := d) w x2 (vpb_ok g216_0)) (k := ?_)
              refine bM_copy_73 (kt := fun q217 => ?_) (kf := fun q217 => ?_)
              · replace hf := ite_t q217 hf
                obtain ⟨g218_0, hf⟩ := grd_e hf
                refine bM_copy_98 (y1 := 63) (h3 := (vpb_ok g218_0)) (kt := fun q218 => ?_) (kf := fun q218 => ?_)
                · replace hf := ite_t q218 hf
                  refine bM_copy_116 (ct := c_M_no (d := d) w (-3 : Int32) (vpd (i := (-(-3 : Int32))) (n := 8) (by decide))) (k := ?_)
                  obtain ⟨rfl, rfl⟩ := ret_e hf
                  exact bM_copy_122 
                · replace hf := ite_f q218 hf
                  obtain ⟨g221_0, hf⟩ := grd_e hf
                  refine bM_copy_107 (y1 := 63) (h3 := (vpb_ok g221_0)) (kt := fun q221 => ?_) (kf := fun q221 => ?_)
                  · replace hf := ite_t q221 hf
                    refine bM_copy_123 (kt := fun q222 => ?_) (kf := fun q222 => ?_)
                    · replace hf := ite_t q222 hf
                      refine bM_copy_135 (kt := fun q223 => ?_) (kf := fun q223 => ?_)
                      · replace hf := ite_t q223 hf
                        refine bM_copy_179 (ct := c_M_no (d := d) w (-5 : Int32) (vpd (i := (-(-5 : Int32))) (n := 8) (by decide))) (k := ?_)
                        obtain ⟨rfl, rfl⟩ := ret_e hf
                        exact bM_copy_185 
                      · replace hf := ite_f q223 hf
                        refine bM_copy_139 (kt := fun q226 => ?_) (kf := fun q226 => ?_)
                        · replace hf := ite_t q226 hf
                          refine bM_copy_179 (ct := c_M_no (d := d) w (-5 : Int32) (vpd (i := (-(-5 : Int32))) (n := 8) (by decide))) (k := ?_)
                          obtain ⟨rfl, rfl⟩ := ret_e hf
                          exact bM_copy_185 
                        · replace hf := ite_f q226 hf
                          obtain ⟨g229_0, hf⟩ := grd_e hf
                          refine bM_copy_144 (y1 := 64) (h3 := (vpb_ok g229_0)) (kt := fun q229 => ?_) (kf := fun q229 => ?_)
                          · replace hf := ite_t q229 hf
                            refine bM_copy_179 (ct := c_M_no (d := d) w (-5 : Int32) (vpd (i := (-(-5 : Int32))) (n := 8) (by decide))) (k := ?_)
                            obtain ⟨rfl, rfl⟩ := ret_e hf
                            exact bM_copy_185 
                          · replace hf := ite_f q229 hf
                            obtain ⟨g232_0, hf⟩ := grd_e hf
                            refine bM_copy_161 (y1 := 64) (h3 := (vpb_ok g232_0)) (kt := fun q232 => ?_) (kf := fun q232 => ?_)
                            · replace hf := ite_t q232 hf
                              refine bM_copy_186 (kt := fun q233 => ?_) (kf := fun q233 => ?_)
                              · replace hf := ite_f q233 hf
                                refine bM_copy_248 (k := ?_)
                                exact r_M_copy_251 FU w x1 x2 x3 x4 x5 (0 : Int32) hf
                              · replace hf := ite_t q233 hf
                                refine bM_copy_191 (kt := fun q235 => ?_) (kf := fun q235 => ?_)
                                · replace hf := ite_t q235 hf
                                  refine bM_copy_248 (k := ?_)
                                  exact r_M_copy_251 FU w x1 x2 x3 x4 x5 (0 : Int32) hf
                                · replace hf := ite_f q235 hf
                                  refine bM_copy_197 (k := ?_)
                                  exact r_M_copy_203 FU w x1 x2 x3 x4 (x5 - 1) hf
                            · replace hf := ite_f q232 hf
                              refine bM_copy_179 (ct := c_M_no (d := d) w (-5 : Int32) (vpd (i := (-(-5 : Int32))) (n := 8) (by decide))) (k := ?_)
                              obtain ⟨rfl, rfl⟩ := ret_e hf
                              exact bM_copy_185 
                    · replace hf := ite_f q222 hf
                      refine bM_copy_128 (ct := c_M_no (d := d) w (-4 : Int32) (vpd (i := (-(-4 : Int32))) (n := 8) (by decide))) (k := ?_)
                      obtain ⟨rfl, rfl⟩ := ret_e hf
                      exact bM_copy_134 
                  · replace hf := ite_f q221 hf
                    refine bM_copy_116 (ct := c_M_no (d := d) w (-3 : Int32) (vpd (i := (-(-3 : Int32))) (n := 8) (by decide))) (k := ?_)
                    obtain ⟨rfl, rfl⟩ := ret_e hf
                    exact bM_copy_122 
              · replace hf := ite_f q217 hf
                obtain ⟨g244_0, hf⟩ := grd_e hf
                obtain ⟨g244_1, hf⟩ := grd_e hf
                refine bM_copy_76 (y1 := 63) (h3 := (vpb_ok g244_0)) (y2 := 63) (h6 := (vpb_ok g244_1)) (kt := fun q244 => ?_) (kf := fun q244 => ?_)
                · replace hf := ite_t q244 hf
                  obtain ⟨g245_0, hf⟩ := grd_e hf
                  refine bM_copy_98 (y1 := 63) (h3 := (vpb_ok g245_0)) (kt := fun q245 => ?_) (kf := fun q245 => ?_)
                  · replace hf := ite_t q245 hf
                    refine bM_copy_116 (ct := c_M_no (d := d) w (-3 : Int32) (vpd (i := (-(-3 : Int32))) (n := 8) (by decide))) (k := ?_)
                    obtain ⟨rfl, rfl⟩ := ret_e hf
                    exact bM_copy_122 
                  · replace hf := ite_f q245 hf
                    obtain ⟨g248_0, hf⟩ := grd_e hf
                    refine bM_copy_107 (y1 := 63) (h3 := (vpb_ok g248_0)) (kt := fun q248 => ?_) (kf := fun q248 => ?_)
                    · replace hf := ite_t q248 hf
                      refine bM_copy_123 (kt := fun q249 => ?_) (kf := fun q249 => ?_)
                      · replace hf := ite_t q249 hf
                        refine bM_copy_135 (kt := fun q250 => ?_) (kf := fun q250 => ?_)
                        · replace hf := ite_t q250 hf
                          refine bM_copy_179 (ct := c_M_no (d := d) w (-5 : Int32) (vpd (i := (-(-5 : Int32))) (n := 8) (by decide))) (k := ?_)
                          obtain ⟨rfl, rfl⟩ := ret_e hf
                          exact bM_copy_185 
                        · replace hf := ite_f q250 hf
                          refine bM_copy_139 (kt := fun q253 => ?_) (kf := fun q253 => ?_)
                          · replace hf := ite_t q253 hf
                            refine bM_copy_179 (ct := c_M_no (d := d) w (-5 : Int32) (vpd (i := (-(-5 : Int32))) (n := 8) (by decide))) (k := ?_)
                            obtain ⟨rfl, rfl⟩ := ret_e hf
                            exact bM_copy_185 
                          · replace hf := ite_f q253 hf
                            obtain ⟨g256_0, hf⟩ := grd_e hf
                            refine bM_copy_144 (y1 := 64) (h3 := (vpb_ok g256_0)) (kt := fun q256 => ?_) (kf := fun q256 => ?_)
                            · replace hf := ite_t q256 hf
                              refine bM_copy_179 (ct := c_M_no (d := d) w (-5 : Int32) (vpd (i := (-(-5 : Int32))) (n := 8) (by decide))) (k := ?_)
                              obtain ⟨rfl, rfl⟩ := ret_e hf
                              exact bM_copy_185 
                            · replace hf := ite_f q256 hf
                              obtain ⟨g259_0, hf⟩ := grd_e hf
                              refine bM_copy_161 (y1 := 64) (h3 := (vpb_ok g259_0)) (kt := fun q259 => ?_) (kf := fun q259 => ?_)
                              · replace hf := ite_t q259 hf
                                refine bM_copy_186 (kt := fun q260 => ?_) (kf := fun q260 => ?_)
                                · replace hf := ite_f q260 hf
                                  refine bM_copy_248 (k := ?_)
                                  exact r_M_copy_251 FU w x1 x2 x3 x4 x5 (0 : Int32) hf
                                · replace hf := ite_t q260 hf
                                  refine bM_copy_191 (kt := fun q262 => ?_) (kf := fun q262 => ?_)
                                  · replace hf := ite_t q262 hf
                                    refine bM_copy_248 (k := ?_)
                                    exact r_M_copy_251 FU w x1 x2 x3 x4 x5 (0 : Int32) hf
                                  · replace hf := ite_f q262 hf
                                    refine bM_copy_197 (k := ?_)
                                    exact r_M_copy_203 FU w x1 x2 x3 x4 (x5 - 1) hf
                              · replace hf := ite_f q259 hf
                                refine bM_copy_179 (ct := c_M_no (d := d) w (-5 : Int32) (vpd (i := (-(-5 : Int32))) (n := 8) (by decide))) (k := ?_)
                                obtain ⟨rfl, rfl⟩ := ret_e hf
                                exact bM_copy_185 
                      · replace hf := ite_f q249 hf
                        refine bM_copy_128 (ct := c_M_no (d := d) w (-4 : Int32) (vpd (i := (-(-4 : Int32))) (n := 8) (by decide))) (k := ?_)
                        obtain ⟨rfl, rfl⟩ := ret_e hf
                        exact bM_copy_134 
                    · replace hf := ite_f q248 hf
                      refine bM_copy_116 (ct := c_M_no (d := d) w (-3 : Int32) (vpd (i := (-(-3 : Int32))) (n := 8) (by decide))) (k := ?_)
                      obtain ⟨rfl, rfl⟩ := ret_e hf
                      exact bM_copy_122 
                · replace hf := ite_f q244 hf
                  refine bM_copy_91 (ct := c_M_no (d := d) w (-2 : Int32) (vpd (i := (-(-2 : Int32))) (n := 8) (by decide))) (k := ?_)
                  obtain ⟨rfl, rfl⟩ := ret_e hf
                  exact bM_copy_97 
          · replace hf := ite_f q187 hf
            obtain ⟨g273_0, hf⟩ := grd_e hf
            refine bM_copy_52 (ct := c_M_isRow (d := d) w x2 (vpb_ok g273_0)) (k := ?_)
            refine bM_copy_57 (kt := fun q274 => ?_) (kf := fun q274 => ?_)
            · replace hf := ite_t q274 hf
              refine bM_copy_91 (ct := c_M_no (d := d) w (-2 : Int32) (vpd (i := (-(-2 : Int32))) (n := 8) (by decide))) (k := ?_)
              obtain ⟨rfl, rfl⟩ := ret_e hf
              exact bM_copy_97 
            · replace hf := ite_f q274 hf
              obtain ⟨g277_0, hf⟩ := grd_e hf
              refine bM_copy_60 (ct := c_M_isRow (d := d) w x1 (vpb_ok g277_0)) (k := ?_)
              refine bM_copy_65 (kt := fun q278 => ?_) (kf := fun q278 => ?_)
              · replace hf := ite_t q278 hf
                obtain ⟨g279_0, hf⟩ := grd_e hf
                refine bM_copy_98 (y1 := 63) (h3 := (vpb_ok g279_0)) (kt := fun q279 => ?_) (kf := fun q279 => ?_)
                · replace hf := ite_t q279 hf
                  refine bM_copy_116 (ct := c_M_no (d := d) w (-3 : Int32) (vpd (i := (-(-3 : Int32))) (n := 8) (by decide))) (k := ?_)
                  obtain ⟨rfl, rfl⟩ := ret_e hf
                  exact bM_copy_122 
                · replace hf := ite_f q279 hf
                  obtain ⟨g282_0, hf⟩ := grd_e hf
                  refine bM_copy_107 (y1 := 63) (h3 := (vpb_ok g282_0)) (kt := fun q282 => ?_) (kf := fun q282 => ?_)
                  · replace hf := ite_t q282 hf
                    refine bM_copy_123 (kt := fun q283 => ?_) (kf := fun q283 => ?_)
                    · replace hf := ite_t q283 hf
                      refine bM_copy_135 (kt := fun q284 => ?_) (kf := fun q284 => ?_)
                      · replace hf := ite_t q284 hf
                        refine bM_copy_179 (ct := c_M_no (d := d) w (-5 : Int32) (vpd (i := (-(-5 : Int32))) (n := 8) (by decide))) (k := ?_)
                        obtain ⟨rfl, rfl⟩ := ret_e hf
                        exact bM_copy_185 
                      · replace hf := ite_f q284 hf
                        refine bM_copy_139 (kt := fun q287 => ?_) (kf := fun q287 => ?_)
                        · replace hf := ite_t q287 hf
                          refine bM_copy_179 (ct := c_M_no (d := d) w (-5 : Int32) (vpd (i := (-(-5 : Int32))) (n := 8) (by decide))) (k := ?_)
                          obtain ⟨rfl, rfl⟩ := ret_e hf
                          exact bM_copy_185 
                        · replace hf := ite_f q287 hf
                          obtain ⟨g290_0, hf⟩ := grd_e hf
                          refine bM_copy_144 (y1 := 64) (h3 := (vpb_ok g290_0)) (kt := fun q290 => ?_) (kf := fun q290 => ?_)
                          · replace hf := ite_t q290 hf
                            refine bM_copy_179 (ct := c_M_no (d := d) w (-5 : Int32) (vpd (i := (-(-5 : Int32))) (n := 8) (by decide))) (k := ?_)
                            obtain ⟨rfl, rfl⟩ := ret_e hf
                            exact bM_copy_185 
                          · replace hf := ite_f q290 hf
                            obtain ⟨g293_0, hf⟩ := grd_e hf
                            refine bM_copy_161 (y1 := 64) (h3 := (vpb_ok g293_0)) (kt := fun q293 => ?_) (kf := fun q293 => ?_)
                            · replace hf := ite_t q293 hf
                              refine bM_copy_186 (kt := fun q294 => ?_) (kf := fun q294 => ?_)
                              · replace hf := ite_f q294 hf
                                refine bM_copy_248 (k := ?_)
                                exact r_M_copy_251 FU w x1 x2 x3 x4 x5 (0 : Int32) hf
                              · replace hf := ite_t q294 hf
                                refine bM_copy_191 (kt := fun q296 => ?_) (kf := fun q296 => ?_)
                                · replace hf := ite_t q296 hf
                                  refine bM_copy_248 (k := ?_)
                                  exact r_M_copy_251 FU w x1 x2 x3 x4 x5 (0 : Int32) hf
                                · replace hf := ite_f q296 hf
                                  refine bM_copy_197 (k := ?_)
                                  exact r_M_copy_203 FU w x1 x2 x3 x4 (x5 - 1) hf
                            · replace hf := ite_f q293 hf
                              refine bM_copy_179 (ct := c_M_no (d := d) w (-5 : Int32) (vpd (i := (-(-5 : Int32))) (n := 8) (by decide))) (k := ?_)
                              obtain ⟨rfl, rfl⟩ := ret_e hf
                              exact bM_copy_185 
                    · replace hf := ite_f q283 hf
                      refine bM_copy_128 (ct := c_M_no (d := d) w (-4 : Int32) (vpd (i := (-(-4 : Int32))) (n := 8) (by decide))) (k := ?_)
                      obtain ⟨rfl, rfl⟩ := ret_e hf
                      exact bM_copy_134 
                  · replace hf := ite_f q282 hf
                    refine bM_copy_116 (ct := c_M_no (d := d) w (-3 : Int32) (vpd (i := (-(-3 : Int32))) (n := 8) (by decide))) (k := ?_)
                    obtain ⟨rfl, rfl⟩ := ret_e hf
                    exact bM_copy_122 
              · replace hf := ite_f q278 hf
                obtain ⟨g305_0, hf⟩ := grd_e hf
                refine bM_copy_68 (ct := c_M_isRow (d := d) w x2 (vpb_ok g305_0)) (k := ?_)
                refine bM_copy_73 (kt := fun q306 => ?_) (kf := fun q306 => ?_)
                · replace hf := ite_t q306 hf
                  obtain ⟨g307_0, hf⟩ := grd_e hf
                  refine bM_copy_98 (y1 := 63) (h3 := (vpb_ok g307_0)) (kt := fun q307 => ?_) (kf := fun q307 => ?_)
                  · replace hf := ite_t q307 hf
                    refine bM_copy_116 (ct := c_M_no (d := d) w (-3 : Int32) (vpd (i := (-(-3 : Int32))) (n := 8) (by decide))) (k := ?_)
                    obtain ⟨rfl, rfl⟩ := ret_e hf
                    exact bM_copy_122 
                  · replace hf := ite_f q307 hf
                    obtain ⟨g310_0, hf⟩ := grd_e hf
                    refine bM_copy_107 (y1 := 63) (h3 := (vpb_ok g310_0)) (kt := fun q310 => ?_) (kf := fun q310 => ?_)
                    · replace hf := ite_t q310 hf
                      refine bM_copy_123 (kt := fun q311 => ?_) (kf := fun q311 => ?_)
                      · replace hf := ite_t q311 hf
                        refine bM_copy_135 (kt := fun q312 => ?_) (kf := fun q312 => ?_)
                        · replace hf := ite_t q312 hf
                          refine bM_copy_179 (ct := c_M_no (d := d) w (-5 : Int32) (vpd (i := (-(-5 : Int32))) (n := 8) (by decide))) (k := ?_)
                          obtain ⟨rfl, rfl⟩ := ret_e hf
                          exact bM_copy_185 
                        · replace hf := ite_f q312 hf
                          refine bM_copy_139 (kt := fun q315 => ?_) (kf := fun q315 => ?_)
                          · replace hf := ite_t q315 hf
                            refine bM_copy_179 (ct := c_M_no (d := d) w (-5 : Int32) (vpd (i := (-(-5 : Int32))) (n := 8) (by decide))) (k := ?_)
                            obtain ⟨rfl, rfl⟩ := ret_e hf
                            exact bM_copy_185 
                          · replace hf := ite_f q315 hf
                            obtain ⟨g318_0, hf⟩ := grd_e hf
                            refine bM_copy_144 (y1 := 64) (h3 := (vpb_ok g318_0)) (kt := fun q318 => ?_) (kf := fun q318 => ?_)
                            · replace hf := ite_t q318 hf
                              refine bM_copy_179 (ct := c_M_no (d := d) w (-5 : Int32) (vpd (i := (-(-5 : Int32))) (n := 8) (by decide))) (k := ?_)
                              obtain ⟨rfl, rfl⟩ := ret_e hf
                              exact bM_copy_185 
                            · replace hf := ite_f q318 hf
                              obtain ⟨g321_0, hf⟩ := grd_e hf
                              refine bM_copy_161 (y1 := 64) (h3 := (vpb_ok g321_0)) (kt := fun q321 => ?_) (kf := fun q321 => ?_)
                              · replace hf := ite_t q321 hf
                                refine bM_copy_186 (kt := fun q322 => ?_) (kf := fun q322 => ?_)
                                · replace hf := ite_f q322 hf
                                  refine bM_copy_248 (k := ?_)
                                  exact r_M_copy_251 FU w x1 x2 x3 x4 x5 (0 : Int32) hf
                                · replace hf := ite_t q322 hf
                                  refine bM_copy_191 (kt := fun q324 => ?_) (kf := fun q324 => ?_)
                                  · replace hf := ite_t q324 hf
                                    refine bM_copy_248 (k := ?_)
                                    exact r_M_copy_251 FU w x1 x2 x3 x4 x5 (0 : Int32) hf
                                  · replace hf := ite_f q324 hf
                                    refine bM_copy_197 (k := ?_)
                                    exact r_M_copy_203 FU w x1 x2 x3 x4 (x5 - 1) hf
                              · replace hf := ite_f q321 hf
                                refine bM_copy_179 (ct := c_M_no (d := d) w (-5 : Int32) (vpd (i := (-(-5 : Int32))) (n := 8) (by decide))) (k := ?_)
                                obtain ⟨rfl, rfl⟩ := ret_e hf
                                exact bM_copy_185 
                      · replace hf := ite_f q311 hf
                        refine bM_copy_128 (ct := c_M_no (d := d) w (-4 : Int32) (vpd (i := (-(-4 : Int32))) (n := 8) (by decide))) (k := ?_)
                        obtain ⟨rfl, rfl⟩ := ret_e hf
                        exact bM_copy_134 
                    · replace hf := ite_f q310 hf
                      refine bM_copy_116 (ct := c_M_no (d := d) w (-3 : Int32) (vpd (i := (-(-3 : Int32))) (n := 8) (by decide))) (k := ?_)
                      obtain ⟨rfl, rfl⟩ := ret_e hf
                      exact bM_copy_122 
                · replace hf := ite_f q306 hf
                  obtain ⟨g333_0, hf⟩ := grd_e hf
                  obtain ⟨g333_1, hf⟩ := grd_e hf
                  refine bM_copy_76 (y1 := 63) (h3 := (vpb_ok g333_0)) (y2 := 63) (h6 := (vpb_ok g333_1)) (kt := fun q333 => ?_) (kf := fun q333 => ?_)
                  · replace hf := ite_t q333 hf
                    obtain ⟨g334_0, hf⟩ := grd_e hf
                    refine bM_copy_98 (y1 := 63) (h3 := (vpb_ok g334_0)) (kt := fun q334 => ?_) (kf := fun q334 => ?_)
                    · replace hf := ite_t q334 hf
                      refine bM_copy_116 (ct := c_M_no (d := d) w (-3 : Int32) (vpd (i := (-(-3 : Int32))) (n := 8) (by decide))) (k := ?_)
                      obtain ⟨rfl, rfl⟩ := ret_e hf
                      exact bM_copy_122 
                    · replace hf := ite_f q334 hf
                      obtain ⟨g337_0, hf⟩ := grd_e hf
                      refine bM_copy_107 (y1 := 63) (h3 := (vpb_ok g337_0)) (kt := fun q337 => ?_) (kf := fun q337 => ?_)
                      · replace hf := ite_t q337 hf
                        refine bM_copy_123 (kt := fun q338 => ?_) (kf := fun q338 => ?_)
                        · replace hf := ite_t q338 hf
                          refine bM_copy_135 (kt := fun q339 => ?_) (kf := fun q339 => ?_)
                          · replace hf := ite_t q339 hf
                            refine bM_copy_179 (ct := c_M_no (d := d) w (-5 : Int32) (vpd (i := (-(-5 : Int32))) (n := 8) (by decide))) (k := ?_)
                            obtain ⟨rfl, rfl⟩ := ret_e hf
                            exact bM_copy_185 
                          · replace hf := ite_f q339 hf
                            refine bM_copy_139 (kt := fun q342 => ?_) (kf := fun q342 => ?_)
                            · replace hf := ite_t q342 hf
                              refine bM_copy_179 (ct := c_M_no (d := d) w (-5 : Int32) (vpd (i := (-(-5 : Int32))) (n := 8) (by decide))) (k := ?_)
                              obtain ⟨rfl, rfl⟩ := ret_e hf
                              exact bM_copy_185 
                            · replace hf := ite_f q342 hf
                              obtain ⟨g345_0, hf⟩ := grd_e hf
                              refine bM_copy_144 (y1 := 64) (h3 := (vpb_ok g345_0)) (kt := fun q345 => ?_) (kf := fun q345 => ?_)
                              · replace hf := ite_t q345 hf
                                refine bM_copy_179 (ct := c_M_no (d := d) w (-5 : Int32) (vpd (i := (-(-5 : Int32))) (n := 8) (by decide))) (k := ?_)
                                obtain ⟨rfl, rfl⟩ := ret_e hf
                                exact bM_copy_185 
                              · replace hf := ite_f q345 hf
                                obtain ⟨g348_0, hf⟩ := grd_e hf
                                refine bM_copy_161 (y1 := 64) (h3 := (vpb_ok g348_0)) (kt := fun q348 => ?_) (kf := fun q348 => ?_)
                                · replace hf := ite_t q348 hf
                                  refine bM_copy_186 (kt := fun q349 => ?_) (kf := fun q349 => ?_)
                                  · replace hf := ite_f q349 hf
                                    refine bM_copy_248 (k := ?_)
                                    exact r_M_copy_251 FU w x1 x2 x3 x4 x5 (0 : Int32) hf
                                  · replace hf := ite_t q349 hf
                                    refine bM_copy_191 (kt := fun q351 => ?_) (kf := fun q351 => ?_)
                                    · replace hf := ite_t q351 hf
                                      refine bM_copy_248 (k := ?_)
                                      exact r_M_copy_251 FU w x1 x2 x3 x4 x5 (0 : Int32) hf
                                    · replace hf := ite_f q351 hf
                                      refine bM_copy_197 (k := ?_)
                                      exact r_M_copy_203 FU w x1 x2 x3 x4 (x5 - 1) hf
                                · replace hf := ite_f q348 hf
                                  refine bM_copy_179 (ct := c_M_no (d := d) w (-5 : Int32) (vpd (i := (-(-5 : Int32))) (n := 8) (by decide))) (k := ?_)
                                  obtain ⟨rfl, rfl⟩ := ret_e hf
                                  exact bM_copy_185 
                        · replace hf := ite_f q338 hf
                          refine bM_copy_128 (ct := c_M_no (d := d) w (-4 : Int32) (vpd (i := (-(-4 : Int32))) (n := 8) (by decide))) (k := ?_)
                          obtain ⟨rfl, rfl⟩ := ret_e hf
                          exact bM_copy_134 
                      · replace hf := ite_f q337 hf
                        refine bM_copy_116 (ct := c_M_no (d := d) w (-3 : Int32) (vpd (i := (-(-3 : Int32))) (n := 8) (by decide))) (k := ?_)
                        obtain ⟨rfl, rfl⟩ := ret_e hf
                        exact bM_copy_122 
                  · replace hf := ite_f q333 hf
                    refine bM_copy_91 (ct := c_M_no (d := d) w (-2 : Int32) (vpd (i := (-(-2 : Int32))) (n := 8) (by decide))) (k := ?_)
                    obtain ⟨rfl, rfl⟩ := ret_e hf
                    exact bM_copy_97 
    · replace hf := ite_t q6 hf
      refine bM_copy_20 (ct := c_M_no (d := d) w (-1 : Int32) (vpd (i := (-(-1 : Int32))) (n := 8) (by decide))) (k := ?_)
      obtain ⟨rfl, rfl⟩ := ret_e hf
      exact bM_copy_25 
