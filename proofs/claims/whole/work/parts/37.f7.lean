-- X_sense
def f_X_sense (w : MW) (x1 : Int32) (x2 : Int32) : Option RT := if (v_Ct_isMan w 1 x1) = 0 then (some (some (.int (v_X_refuseFar w (-1 : Int32))), u_X_refuseFar w (-1 : Int32))) else (if (v_X_isRounds w x2) = 0 then (some (some (.int (v_X_refuseFar w (-6 : Int32))), u_X_refuseFar w (-6 : Int32))) else (bI (f_X_knownBehind w x1 x2) (fun v5 w5 => bI (f_Ct_senseOf w5 1 v5) (fun v6 w6 => some (some (.int v6), w6)))))
set_option maxHeartbeats 4000000 in
theorem c_X_sense {d : Nat} {r : Option Value} {w' : MW} (w : MW) (x1 : Int32) (x2 : Int32) (hf : f_X_sense w x1 x2 = some (r, w')) : Ct (d + 6) mX_sense [.ref 0, .int x1, .int x2] w r w' := by
  refine eX_sense ?_
  unfold f_X_sense at hf
  refine bX_sense_0 (y1 := 1) (ct := c_Ct_isMan (d := d + 5) w 1 x1 ct1) (k := ?_)
  refine bX_sense_8 (kt := fun q2 => ?_) (kf := fun q2 => ?_)
  · replace hf := ite_f q2 hf
    refine bX_sense_17 (ct := c_X_isRounds (d := d + 5) w x2) (k := ?_)
    refine bX_sense_21 (kt := fun q4 => ?_) (kf := fun q4 => ?_)
    · replace hf := ite_f q4 hf
      obtain ⟨v5, w5, e5, hf⟩ := bI_e hf
      refine bX_sense_31 (y1 := 1) (ct := c_X_knownBehind (d := d) w x1 x2 e5) (k := ?_)
      obtain ⟨v6, w6, e6, hf⟩ := bI_e hf
      refine bX_sense_41 (ct := c_Ct_senseOf (d := d + 4) w5 1 v5 ct1 e6) (k := ?_)
      obtain ⟨rfl, rfl⟩ := ret_e hf
      exact bX_sense_44 
    · replace hf := ite_t q4 hf
      refine bX_sense_24 (ct := c_X_refuseFar (d := d + 4) w (-6 : Int32)) (k := ?_)
      obtain ⟨rfl, rfl⟩ := ret_e hf
      exact bX_sense_30 
  · replace hf := ite_t q2 hf
    refine bX_sense_11 (ct := c_X_refuseFar (d := d + 4) w (-1 : Int32)) (k := ?_)
    obtain ⟨rfl, rfl⟩ := ret_e hf
    exact bX_sense_16 
-- X_together
def f_X_together (w : MW) (x1 : Int32) (x2 : Int32) : Option RT := if x2 < 0 then (some (some (.int (v_X_refuseFar w (-5 : Int32))), u_X_refuseFar w (-5 : Int32))) else (if x2 ≤ 2 then (if (v_Ct_isSet w 1 x1) = 0 then (some (some (.int (v_X_refuseFar w (-6 : Int32))), u_X_refuseFar w (-6 : Int32))) else (bI (f_Cl_placesHeardBy w 1 x1) (fun v7 w7 => if x2 = 0 then (bI (f_Ct_senseOf w7 1 v7) (fun v18 w18 => some (some (.int v18), w18))) else (if x2 = 1 then (bI (f_JI_bitCount w7 v7) (fun v16 w16 => some (some (.int ((w7.1 1 3) - v16)), w16))) else (bI (f_Cl_isSure w7 1 v7) (fun v10 w10 => if v10 = 0 then (some (some (.int (0 : Int32)), w10)) else (some (some (.int (1 : Int32)), w10)))))))) else (some (some (.int (v_X_refuseFar w (-5 : Int32))), u_X_refuseFar w (-5 : Int32))))
set_option maxHeartbeats 4000000 in
theorem c_X_together {d : Nat} {r : Option Value} {w' : MW} (w : MW) (x1 : Int32) (x2 : Int32) (hf : f_X_together w x1 x2 = some (r, w')) : Ct (d + 6) mX_together [.ref 0, .int x1, .int x2] w r w' := by
  refine eX_together ?_
  unfold f_X_together at hf
  refine bX_together_0 (kt := fun q1 => ?_) (kf := fun q1 => ?_)
  · replace hf := ite_t q1 hf
    refine bX_together_9 (ct := c_X_refuseFar (d := d + 4) w (-5 : Int32)) (k := ?_)
    obtain ⟨rfl, rfl⟩ := ret_e hf
    exact bX_together_15 
  · replace hf := ite_f q1 hf
    refine bX_together_4 (kt := fun q4 => ?_) (kf := fun q4 => ?_)
    · replace hf := ite_t q4 hf
      refine bX_together_16 (y1 := 1) (ct := c_Ct_isSet (d := d + 5) w 1 x1 ct1) (k := ?_)
      refine bX_together_24 (kt := fun q6 => ?_) (kf := fun q6 => ?_)
      · replace hf := ite_f q6 hf
        obtain ⟨v7, w7, e7, hf⟩ := bI_e hf
        refine bX_together_34 (y1 := 57) (y2 := 1) (ct := c_Cl_placesHeardBy (d := d) w 1 x1 ct1 e7) (k := ?_)
        refine bX_together_46 (kt := fun q8 => ?_) (kf := fun q8 => ?_)
        · replace hf := ite_f q8 hf
          refine bX_together_60 (kt := fun q9 => ?_) (kf := fun q9 => ?_)
          · replace hf := ite_f q9 hf
            obtain ⟨v10, w10, e10, hf⟩ := bI_e hf
            refine bX_together_78 (y1 := 57) (y2 := 1) (ct := c_Cl_isSure (d := d + 3) w7 1 v7 ct1 e10) (k := ?_)
            refine bX_together_90 (kt := fun q11 => ?_) (kf := fun q11 => ?_)
            · replace hf := ite_t q11 hf
              refine bX_together_97 (k := ?_)
              obtain ⟨rfl, rfl⟩ := ret_e hf
              exact bX_together_98 
            · replace hf := ite_f q11 hf
              refine bX_together_93 (k := ?_)
              obtain ⟨rfl, rfl⟩ := ret_e hf
              exact bX_together_98 
          · replace hf := ite_t q9 hf
            obtain ⟨v16, w16, e16, hf⟩ := bI_e hf
            refine bX_together_65 (y1 := 1) (ct := c_JI_bitCount (d := d + 5) w7 v7 e16) (k := ?_)
            obtain ⟨rfl, rfl⟩ := ret_e hf
            exact bX_together_76 
        · replace hf := ite_t q8 hf
          obtain ⟨v18, w18, e18, hf⟩ := bI_e hf
          refine bX_together_51 (y1 := 1) (ct := c_Ct_senseOf (d := d + 4) w7 1 v7 ct1 e18) (k := ?_)
          obtain ⟨rfl, rfl⟩ := ret_e hf
          exact bX_together_59 
      · replace hf := ite_t q6 hf
        refine bX_together_27 (ct := c_X_refuseFar (d := d + 4) w (-6 : Int32)) (k := ?_)
        obtain ⟨rfl, rfl⟩ := ret_e hf
        exact bX_together_33 
    · replace hf := ite_f q4 hf
      refine bX_together_9 (ct := c_X_refuseFar (d := d + 4) w (-5 : Int32)) (k := ?_)
      obtain ⟨rfl, rfl⟩ := ret_e hf
      exact bX_together_15 
-- X_ask
def f_X_ask (w : MW) (x1 : Int32) : Option RT := if (v_Ct_isSet w 1 x1) = 0 then (some (some (.int (v_X_refuseFar w (-6 : Int32))), u_X_refuseFar w (-6 : Int32))) else (bI (f_Cl_nextToAsk w 1 x1) (fun v3 w3 => some (some (.int v3), w3)))
set_option maxHeartbeats 4000000 in
theorem c_X_ask {d : Nat} {r : Option Value} {w' : MW} (w : MW) (x1 : Int32) (hf : f_X_ask w x1 = some (r, w')) : Ct (d + 7) mX_ask [.ref 0, .int x1] w r w' := by
  refine eX_ask ?_
  unfold f_X_ask at hf
  refine bX_ask_0 (y1 := 1) (ct := c_Ct_isSet (d := d + 6) w 1 x1 ct1) (k := ?_)
  refine bX_ask_8 (kt := fun q2 => ?_) (kf := fun q2 => ?_)
  · replace hf := ite_f q2 hf
    obtain ⟨v3, w3, e3, hf⟩ := bI_e hf
    refine bX_ask_18 (y1 := 57) (y2 := 1) (ct := c_Cl_nextToAsk (d := d) w 1 x1 ct1 e3) (k := ?_)
    obtain ⟨rfl, rfl⟩ := ret_e hf
    exact bX_ask_30 
  · replace hf := ite_t q2 hf
    refine bX_ask_11 (ct := c_X_refuseFar (d := d + 5) w (-6 : Int32)) (k := ?_)
    obtain ⟨rfl, rfl⟩ := ret_e hf
    exact bX_ask_17 
