-- Cl_fewestWhoCover
def f_Cl_fewestWhoCover_23 (a1 : Nat) : Nat → MW → Int32 → Int32 → Int32 → Int32 → Option RT
  | 0, _, _, _, _, _ => none
  | n + 1, w, x2, x3, x4, x5 => if ((1 : Int32) <<< ((w.1 a1 1) &&& 31)) ≤ x5 then (some (some (.int x3), w)) else (bI (f_JI_bitCount w x5) (fun v3 w3 => if x4 ≤ v3 then (f_Cl_fewestWhoCover_23 a1 n w3 x2 x3 x4 (x5 + 1)) else (bI (f_Cl_heardByAny w3 x5) (fun v6 w6 => if v6 = x2 then (f_Cl_fewestWhoCover_23 a1 n w6 x2 x5 v3 (x5 + 1)) else (f_Cl_fewestWhoCover_23 a1 n w6 x2 x3 x4 (x5 + 1))))))
set_option maxHeartbeats 4000000 in
theorem r_Cl_fewestWhoCover_23 {d : Nat} {r : Option Value} {w' : MW} (a1 : Nat) (c1 : isCt a1) : ∀ (n : Nat) (w : MW) (x2 : Int32) (x3 : Int32) (x4 : Int32) (x5 : Int32), f_Cl_fewestWhoCover_23 a1 n w x2 x3 x4 x5 = some (r, w') → Rn (d + 5) mCl_fewestWhoCover 23 [some (.ref 57), some (.ref a1), some (.int x2), some (.int x3), some (.int x4), some (.int x5), none] [] w r w' := by
  intro n
  induction n with
  | zero =>
    intro w x2 x3 x4 x5 hf
    cases hf
  | succ n ih =>
    intro w x2 x3 x4 x5 hf
    rw [f_Cl_fewestWhoCover_23] at hf
    refine bCl_fewestWhoCover_23 (h1 := ct_g1 c1) (kt := fun q1 => ?_) (kf := fun q1 => ?_)
    · replace hf := ite_t q1 hf
      obtain ⟨rfl, rfl⟩ := ret_e hf
      exact bCl_fewestWhoCover_71 
    · replace hf := ite_f q1 hf
      obtain ⟨v3, w3, e3, hf⟩ := bI_e hf
      refine bCl_fewestWhoCover_34 (ct := c_JI_bitCount (d := d + 4) w x5 e3) (k := ?_)
      refine bCl_fewestWhoCover_39 (kt := fun q4 => ?_) (kf := fun q4 => ?_)
      · replace hf := ite_t q4 hf
        refine bCl_fewestWhoCover_65 (k := ?_)
        exact ih w3 x2 x3 x4 (x5 + 1) hf
      · replace hf := ite_f q4 hf
        obtain ⟨v6, w6, e6, hf⟩ := bI_e hf
        refine bCl_fewestWhoCover_48 (ct := c_Cl_heardByAny (d := d + 4) w3 x5 e6) (k := ?_)
        refine bCl_fewestWhoCover_54 (kt := fun q7 => ?_) (kf := fun q7 => ?_)
        · replace hf := ite_f q7 hf
          refine bCl_fewestWhoCover_65 (k := ?_)
          exact ih w6 x2 x3 x4 (x5 + 1) hf
        · replace hf := ite_t q7 hf
          refine bCl_fewestWhoCover_58 (k := ?_)
          refine bCl_fewestWhoCover_65 (k := ?_)
          exact ih w6 x2 x5 v3 (x5 + 1) hf
def f_Cl_fewestWhoCover (w : MW) (a1 : Nat) : Option RT := bV (f_Cl_listen w a1) (fun w1 => bI (f_X_span w1 (0 : Int32) (w1.1 a1 3)) (fun v2 w2 => f_Cl_fewestWhoCover_23 a1 FU w2 v2 (-1 : Int32) (9 : Int32) (0 : Int32)))
set_option maxHeartbeats 4000000 in
theorem c_Cl_fewestWhoCover {d : Nat} {r : Option Value} {w' : MW} (w : MW) (a1 : Nat) (c1 : isCt a1) (hf : f_Cl_fewestWhoCover w a1 = some (r, w')) : Ct (d + 5) mCl_fewestWhoCover [.ref 57, .ref a1] w r w' := by
  refine eCl_fewestWhoCover ?_
  unfold f_Cl_fewestWhoCover at hf
  obtain ⟨w1, e1, hf⟩ := bV_e hf
  refine bCl_fewestWhoCover_0 (ct := c_Cl_listen (d := d) w a1 c1 e1) (k := ?_)
  obtain ⟨v2, w2, e2, hf⟩ := bI_e hf
  refine bCl_fewestWhoCover_5 (h1 := ct_g3 c1) (ct := c_X_span (d := d + 4) w1 (0 : Int32) (w1.1 a1 3) e2) (k := ?_)
  refine bCl_fewestWhoCover_13 (k := ?_)
  exact r_Cl_fewestWhoCover_23 a1 c1 FU w2 v2 (-1 : Int32) (9 : Int32) (0 : Int32) hf
-- X_soon
def f_X_soon (w : MW) (x1 : Int32) : Option RT := if (v_Ct_isMan w 1 x1) = 0 then (some (some (.int (v_X_refuseFar w (-1 : Int32))), u_X_refuseFar w (-1 : Int32))) else (bV (f_Co_begin w 1) (fun w3 => bI (f_Co_roundsUntilWhole w3 1 x1) (fun v4 w4 => some (some (.int v4), w4))))
set_option maxHeartbeats 4000000 in
theorem c_X_soon {d : Nat} {r : Option Value} {w' : MW} (w : MW) (x1 : Int32) (hf : f_X_soon w x1 = some (r, w')) : Ct (d + 5) mX_soon [.ref 0, .int x1] w r w' := by
  refine eX_soon ?_
  unfold f_X_soon at hf
  refine bX_soon_0 (y1 := 1) (ct := c_Ct_isMan (d := d + 4) w 1 x1 ct1) (k := ?_)
  refine bX_soon_8 (kt := fun q2 => ?_) (kf := fun q2 => ?_)
  · replace hf := ite_f q2 hf
    obtain ⟨w3, e3, hf⟩ := bV_e hf
    refine bX_soon_17 (y1 := 53) (y2 := 1) (ct := c_Co_begin (d := d) w 1 ct1 e3) (k := ?_)
    obtain ⟨v4, w4, e4, hf⟩ := bI_e hf
    refine bX_soon_28 (y1 := 53) (y2 := 1) (ct := c_Co_roundsUntilWhole (d := d + 1) w3 1 x1 ct1 e4) (k := ?_)
    obtain ⟨rfl, rfl⟩ := ret_e hf
    exact bX_soon_40 
  · replace hf := ite_t q2 hf
    refine bX_soon_11 (ct := c_X_refuseFar (d := d + 3) w (-1 : Int32)) (k := ?_)
    obtain ⟨rfl, rfl⟩ := ret_e hf
    exact bX_soon_16 
-- X_wrongOnes
def f_X_wrongOnes (w : MW) (x1 : Int32) : Option RT := if (v_X_isRounds w x1) = 0 then (some (some (.int (v_X_refuse w (-6 : Int32))), u_X_refuse w (-6 : Int32))) else (bV (f_Co_begin w 1) (fun w3 => bV (f_Co_ride w3 x1) (fun w4 => bI (f_Co_falseOnes w4 1) (fun v5 w5 => some (some (.int v5), w5)))))
set_option maxHeartbeats 4000000 in
theorem c_X_wrongOnes {d : Nat} {r : Option Value} {w' : MW} (w : MW) (x1 : Int32) (hf : f_X_wrongOnes w x1 = some (r, w')) : Ct (d + 5) mX_wrongOnes [.ref 0, .int x1] w r w' := by
  refine eX_wrongOnes ?_
  unfold f_X_wrongOnes at hf
  refine bX_wrongOnes_0 (ct := c_X_isRounds (d := d + 4) w x1) (k := ?_)
  refine bX_wrongOnes_4 (kt := fun q2 => ?_) (kf := fun q2 => ?_)
  · replace hf := ite_f q2 hf
    obtain ⟨w3, e3, hf⟩ := bV_e hf
    refine bX_wrongOnes_14 (y1 := 53) (y2 := 1) (ct := c_Co_begin (d := d) w 1 ct1 e3) (k := ?_)
    obtain ⟨w4, e4, hf⟩ := bV_e hf
    refine bX_wrongOnes_25 (y1 := 53) (ct := c_Co_ride (d := d + 3) w3 x1 e4) (k := ?_)
    obtain ⟨v5, w5, e5, hf⟩ := bI_e hf
    refine bX_wrongOnes_33 (y1 := 53) (y2 := 1) (ct := c_Co_falseOnes (d := d + 1) w4 1 ct1 e5) (k := ?_)
    obtain ⟨rfl, rfl⟩ := ret_e hf
    exact bX_wrongOnes_44 
  · replace hf := ite_t q2 hf
    refine bX_wrongOnes_7 (ct := c_X_refuse (d := d + 4) w (-6 : Int32)) (k := ?_)
    obtain ⟨rfl, rfl⟩ := ret_e hf
    exact bX_wrongOnes_13 
-- Co_fewestApart
def f_Co_fewestApart_9 (a1 : Nat) : Nat → MW → Int32 → Int32 → Int32 → Int32 → Option RT
  | 0, _, _, _, _, _ => none
  | n + 1, w, x2, x3, x4, x5 => if ((1 : Int32) <<< ((w.1 a1 1) &&& 31)) ≤ x5 then (some (some (.int x3), w)) else (bI (f_JI_bitCount w x5) (fun v3 w3 => if ((ush x5 x2) &&& 1) = 1 then (f_Co_fewestApart_9 a1 n w3 x2 x3 x4 (x5 + 1)) else (if v3 < x4 then (bV (f_Co_begin w3 a1) (fun w7 => bV (f_Co_sendAway w7 x5) (fun w8 => bI (f_Co_roundsUntilWhole w8 a1 x2) (fun v9 w9 => if v9 = (-1) then (f_Co_fewestApart_9 a1 n w9 x2 x5 v3 (x5 + 1)) else (f_Co_fewestApart_9 a1 n w9 x2 x3 x4 (x5 + 1)))))) else (f_Co_fewestApart_9 a1 n w3 x2 x3 x4 (x5 + 1)))))
set_option maxHeartbeats 4000000 in
theorem r_Co_fewestApart_9 {d : Nat} {r : Option Value} {w' : MW} (a1 : Nat) (c1 : isCt a1) : ∀ (n : Nat) (w : MW) (x2 : Int32) (x3 : Int32) (x4 : Int32) (x5 : Int32), f_Co_fewestApart_9 a1 n w x2 x3 x4 x5 = some (r, w') → Rn (d + 5) mCo_fewestApart 9 [some (.ref 53), some (.ref a1), some (.int x2), some (.int x3), some (.int x4), some (.int x5), none] [] w r w' := by
  intro n
  induction n with
  | zero =>
    intro w x2 x3 x4 x5 hf
    cases hf
  | succ n ih =>
    intro w x2 x3 x4 x5 hf
    rw [f_Co_fewestApart_9] at hf
    refine bCo_fewestApart_9 (h1 := ct_g1 c1) (kt := fun q1 => ?_) (kf := fun q1 => ?_)
    · replace hf := ite_t q1 hf
      obtain ⟨rfl, rfl⟩ := ret_e hf
      exact bCo_fewestApart_81 
    · replace hf := ite_f q1 hf
      obtain ⟨v3, w3, e3, hf⟩ := bI_e hf
      refine bCo_fewestApart_20 (ct := c_JI_bitCount (d := d + 4) w x5 e3) (k := ?_)
      refine bCo_fewestApart_25 (kt := fun q4 => ?_) (kf := fun q4 => ?_)
      · replace hf := ite_t q4 hf
        refine bCo_fewestApart_75 (k := ?_)
        exact ih w3 x2 x3 x4 (x5 + 1) hf
      · replace hf := ite_f q4 hf
        refine bCo_fewestApart_37 (kt := fun q6 => ?_) (kf := fun q6 => ?_)
        · replace hf := ite_t q6 hf
          obtain ⟨w7, e7, hf⟩ := bV_e hf
          refine bCo_fewestApart_47 (ct := c_Co_begin (d := d) w3 a1 c1 e7) (k := ?_)
          obtain ⟨w8, e8, hf⟩ := bV_e hf
          refine bCo_fewestApart_52 (ct := c_Co_sendAway (d := d + 4) w7 x5 e8) (k := ?_)
          obtain ⟨v9, w9, e9, hf⟩ := bI_e hf
          refine bCo_fewestApart_58 (ct := c_Co_roundsUntilWhole (d := d + 1) w8 a1 x2 c1 e9) (k := ?_)
          refine bCo_fewestApart_64 (kt := fun q10 => ?_) (kf := fun q10 => ?_)
          · replace hf := ite_f q10 hf
            refine bCo_fewestApart_75 (k := ?_)
            exact ih w9 x2 x3 x4 (x5 + 1) hf
          · replace hf := ite_t q10 hf
            refine bCo_fewestApart_68 (k := ?_)
            refine bCo_fewestApart_75 (k := ?_)
            exact ih w9 x2 x5 v3 (x5 + 1) hf
        · replace hf := ite_f q6 hf
          refine bCo_fewestApart_44 (k := ?_)
          refine bCo_fewestApart_75 (k := ?_)
          exact ih w3 x2 x3 x4 (x5 + 1) hf
def f_Co_fewestApart (w : MW) (a1 : Nat) (x2 : Int32) : Option RT := f_Co_fewestApart_9 a1 FU w x2 (-1 : Int32) (8 : Int32) (0 : Int32)
set_option maxHeartbeats 4000000 in
theorem c_Co_fewestApart {d : Nat} {r : Option Value} {w' : MW} (w : MW) (a1 : Nat) (x2 : Int32) (c1 : isCt a1) (hf : f_Co_fewestApart w a1 x2 = some (r, w')) : Ct (d + 5) mCo_fewestApart [.ref 53, .ref a1, .int x2] w r w' := by
  refine eCo_fewestApart ?_
  unfold f_Co_fewestApart at hf
  refine bCo_fewestApart_0 (k := ?_)
  exact r_Co_fewestApart_9 a1 c1 FU w x2 (-1 : Int32) (8 : Int32) (0 : Int32) hf
-- Co_worstLoss
def f_Co_worstLoss_23 (a1 : Nat) (k8 : MW → Int32 → Int32 → Int32 → Option RT) : Nat → MW → Int32 → Int32 → Int32 → Int32 → Option RT
  | 0, _, _, _, _, _ => none
  | n + 1, w, x2, x3, x4, x5 => if (w.1 a1 1) ≤ x5 then (k8 w x2 x3 (x4 + 1)) else (grd (¬ (v_Ct_isMan w a1 x4) = 0 → vpb x4 8 = true) (if (v_Ct_doMeet w a1 x4 x5) = 0 then (f_Co_worstLoss_23 a1 k8 n w x2 x3 x4 (x5 + 1)) else (bV (f_Co_begin w a1) (fun w5 => grd (vpb x4 8 = true) (grd (vpb x5 8 = true) (bV (f_Co_ride (setI (setI w5 56 x4.toNatClampNeg ((w5.1 56 x4.toNatClampNeg) &&& (((1 : Int32) <<< (x5 &&& 31)) ^^^ (-1)))) 56 x5.toNatClampNeg (((setI w5 56 x4.toNatClampNeg ((w5.1 56 x4.toNatClampNeg) &&& (((1 : Int32) <<< (x5 &&& 31)) ^^^ (-1)))).1 56 x5.toNatClampNeg) &&& (((1 : Int32) <<< (x4 &&& 31)) ^^^ (-1)))) (9 : Int32)) (fun w6 => bI (f_Co_howManyHaveWhole w6 a1) (fun v7 w7 => if x3 ≤ v7 then (f_Co_worstLoss_23 a1 k8 n w7 x2 x3 x4 (x5 + 1)) else (f_Co_worstLoss_23 a1 k8 n w7 ((100 * x4) + x5) v7 x4 (x5 + 1))))))))))
set_option maxHeartbeats 4000000 in
theorem r_Co_worstLoss_23 {d : Nat} {r : Option Value} {w' : MW} (a1 : Nat) (c1 : isCt a1) (k8 : MW → Int32 → Int32 → Int32 → Option RT) (hk8 : ∀ w x2 x3 x4, k8 w x2 x3 x4 = some (r, w') → Rn (d + 5) mCo_worstLoss 8 [some (.ref 53), some (.ref a1), some (.int x2), some (.int x3), some (.int x4), none, none] [] w r w') : ∀ (n : Nat) (w : MW) (x2 : Int32) (x3 : Int32) (x4 : Int32) (x5 : Int32), f_Co_worstLoss_23 a1 k8 n w x2 x3 x4 x5 = some (r, w') → Rn (d + 5) mCo_worstLoss 23 [some (.ref 53), some (.ref a1), some (.int x2), some (.int x3), some (.int x4), some (.int x5), none] [] w r w' := by
  intro n
  induction n with
  | zero =>
    intro w x2 x3 x4 x5 hf
    cases hf
  | succ n ih =>
    intro w x2 x3 x4 x5 hf
    rw [f_Co_worstLoss_23] at hf
    refine bCo_worstLoss_23 (h1 := ct_g1 c1) (kt := fun q1 => ?_) (kf := fun q1 => ?_)
    · replace hf := ite_t q1 hf
      refine bCo_worstLoss_120 (k := ?_)
      exact hk8 w x2 x3 (x4 + 1) hf
    · replace hf := ite_f q1 hf
      obtain ⟨g3_0, hf⟩ := grd_e hf
      refine bCo_worstLoss_32 (h1 := ct_k c1) (ct := c_Ct_doMeet (d := d + 3) w a1 x4 x5 c1 (fun z0 => vpb_ok (g3_0 z0))) (k := ?_)
      refine bCo_worstLoss_40 (kt := fun q4 => ?_) (kf := fun q4 => ?_)
      · replace hf := ite_f q4 hf
        obtain ⟨w5, e5, hf⟩ := bV_e hf
        refine bCo_worstLoss_46 (ct := c_Co_begin (d := d) w a1 c1 e5) (k := ?_)
        obtain ⟨g6_0, hf⟩ := grd_e hf
        obtain ⟨g6_1, hf⟩ := grd_e hf
        obtain ⟨w6, e6, hf⟩ := bV_e hf
        refine bCo_worstLoss_51 (y1 := 56) (h3 := (vpb_ok g6_0)) (h5 := (vpb_ok g6_0)) (y2 := 56) (h8 := (vpb_ok g6_1)) (h10 := (vpb_ok g6_1)) (ct := c_Co_ride (d := d + 3) (setI (setI w5 56 x4.toNatClampNeg ((w5.1 56 x4.toNatClampNeg) &&& (((1 : Int32) <<< (x5 &&& 31)) ^^^ (-1)))) 56 x5.toNatClampNeg (((setI w5 56 x4.toNatClampNeg ((w5.1 56 x4.toNatClampNeg) &&& (((1 : Int32) <<< (x5 &&& 31)) ^^^ (-1)))).1 56 x5.toNatClampNeg) &&& (((1 : Int32) <<< (x4 &&& 31)) ^^^ (-1)))) (9 : Int32) e6) (k := ?_)
        obtain ⟨v7, w7, e7, hf⟩ := bI_e hf
        refine bCo_worstLoss_89 (ct := c_Co_howManyHaveWhole (d := d + 1) w6 a1 c1 e7) (k := ?_)
        refine bCo_worstLoss_94 (kt := fun q8 => ?_) (kf := fun q8 => ?_)
        · replace hf := ite_t q8 hf
          refine bCo_worstLoss_114 (k := ?_)
          exact ih w7 x2 x3 x4 (x5 + 1) hf
        · replace hf := ite_f q8 hf
          refine bCo_worstLoss_102 (k := ?_)
          refine bCo_worstLoss_114 (k := ?_)
          exact ih w7 ((100 * x4) + x5) v7 x4 (x5 + 1) hf
      · replace hf := ite_t q4 hf
        refine bCo_worstLoss_43 (k := ?_)
        refine bCo_worstLoss_114 (k := ?_)
        exact ih w x2 x3 x4 (x5 + 1) hf
def f_Co_worstLoss_8 (a1 : Nat) : Nat → MW → Int32 → Int32 → Int32 → Option RT
  | 0, _, _, _, _ => none
  | n + 1, w, x2, x3, x4 => if (w.1 a1 1) ≤ x4 then (some (some (.int x2), w)) else (f_Co_worstLoss_23 a1 (fun w x2 x3 x4 => f_Co_worstLoss_8 a1 n w x2 x3 x4) FU w x2 x3 x4 (x4 + 1))
set_option maxHeartbeats 4000000 in
theorem r_Co_worstLoss_8 {d : Nat} {r : Option Value} {w' : MW} (a1 : Nat) (c1 : isCt a1) : ∀ (n : Nat) (w : MW) (x2 : Int32) (x3 : Int32) (x4 : Int32), f_Co_worstLoss_8 a1 n w x2 x3 x4 = some (r, w') → Rn (d + 5) mCo_worstLoss 8 [some (.ref 53), some (.ref a1), some (.int x2), some (.int x3), some (.int x4), none, none] [] w r w' := by
  intro n
  induction n with
  | zero =>
    intro w x2 x3 x4 hf
    cases hf
  | succ n ih =>
    intro w x2 x3 x4 hf
    rw [f_Co_worstLoss_8] at hf
    refine bCo_worstLoss_8 (h1 := ct_g1 c1) (kt := fun q1 => ?_) (kf := fun q1 => ?_)
    · replace hf := ite_t q1 hf
      obtain ⟨rfl, rfl⟩ := ret_e hf
      exact bCo_worstLoss_126 
    · replace hf := ite_f q1 hf
      refine bCo_worstLoss_17 (k := ?_)
      exact r_Co_worstLoss_23 a1 c1 (fun w x2 x3 x4 => f_Co_worstLoss_8 a1 n w x2 x3 x4) ih FU w x2 x3 x4 (x4 + 1) hf
def f_Co_worstLoss (w : MW) (a1 : Nat) : Option RT := f_Co_worstLoss_8 a1 FU w (-1 : Int32) (9 : Int32) (0 : Int32)
set_option maxHeartbeats 4000000 in
theorem c_Co_worstLoss {d : Nat} {r : Option Value} {w' : MW} (w : MW) (a1 : Nat) (c1 : isCt a1) (hf : f_Co_worstLoss w a1 = some (r, w')) : Ct (d + 5) mCo_worstLoss [.ref 53, .ref a1] w r w' := by
  refine eCo_worstLoss ?_
  unfold f_Co_worstLoss at hf
  refine bCo_worstLoss_0 (k := ?_)
  exact r_Co_worstLoss_8 a1 c1 FU w (-1 : Int32) (9 : Int32) (0 : Int32) hf
-- X_needs
def f_X_needs (w : MW) (x1 : Int32) : Option RT := if (v_X_rowRefusal w x1) = 0 then (grd (vpb x1 8 = true) (if (w.1 1 1) ≤ (w.1 (35 + 2 * x1.toNatClampNeg) 1) then (bI (f_Sh_firstWrong w (35 + 2 * x1.toNatClampNeg) (w.1 1 1)) (fun v4 w4 => if v4 = (-1) then (bI (f_Cl_shortestFor w4 1 (35 + 2 * x1.toNatClampNeg)) (fun v6 w6 => some (some (.int v6), w6))) else (some (some (.int (v_X_refuse w4 (-6 : Int32))), u_X_refuse w4 (-6 : Int32))))) else (some (some (.int (v_X_refuse w (-5 : Int32))), u_X_refuse w (-5 : Int32))))) else (some (some (.int (v_X_refuse w (v_X_rowRefusal w x1))), u_X_refuse w (v_X_rowRefusal w x1)))
set_option maxHeartbeats 4000000 in
theorem c_X_needs {d : Nat} {r : Option Value} {w' : MW} (w : MW) (x1 : Int32) (hf : f_X_needs w x1 = some (r, w')) : Ct (d + 2) mX_needs [.ref 0, .int x1] w r w' := by
  refine eX_needs ?_
  unfold f_X_needs at hf
  refine bX_needs_0 (ct := c_X_rowRefusal (d := d) w x1) (k := ?_)
  refine bX_needs_5 (kt := fun q2 => ?_) (kf := fun q2 => ?_)
  · replace hf := ite_t q2 hf
    obtain ⟨g3_0, hf⟩ := grd_e hf
    refine bX_needs_16 (y1 := 34) (y2 := 35 + 2 * x1.toNatClampNeg) (h3 := (vpb_ok g3_0)) (h4 := shr_sh (vpb_ok g3_0)) (h5 := sh_g1 (sh_of (vpb_ok g3_0))) (y3 := 1) (kt := fun q3 => ?_) (kf := fun q3 => ?_)
    · replace hf := ite_t q3 hf
      obtain ⟨v4, w4, e4, hf⟩ := bI_e hf
      refine bX_needs_44 (y1 := 1) (h3 := sh_k (sh_of (vpb_ok g3_0))) (ct := c_Sh_firstWrong (d := d) w (35 + 2 * x1.toNatClampNeg) (w.1 1 1) (sh_of (vpb_ok g3_0)) e4) (k := ?_)
      refine bX_needs_55 (kt := fun q5 => ?_) (kf := fun q5 => ?_)
      · replace hf := ite_t q5 hf
        obtain ⟨v6, w6, e6, hf⟩ := bI_e hf
        refine bX_needs_66 (y1 := 57) (y2 := 1) (ct := c_Cl_shortestFor (d := d) w4 1 (35 + 2 * x1.toNatClampNeg) ct1 (sh_of (vpb_ok g3_0)) e6) (k := ?_)
        obtain ⟨rfl, rfl⟩ := ret_e hf
        exact bX_needs_78 
      · replace hf := ite_f q5 hf
        refine bX_needs_59 (ct := c_X_refuse (d := d + 1) w4 (-6 : Int32)) (k := ?_)
        obtain ⟨rfl, rfl⟩ := ret_e hf
        exact bX_needs_65 
    · replace hf := ite_f q3 hf
      refine bX_needs_37 (ct := c_X_refuse (d := d + 1) w (-5 : Int32)) (k := ?_)
      obtain ⟨rfl, rfl⟩ := ret_e hf
      exact bX_needs_43 
  · replace hf := ite_f q2 hf
    refine bX_needs_10 (ct := c_X_refuse (d := d + 1) w (v_X_rowRefusal w x1)) (k := ?_)
    obtain ⟨rfl, rfl⟩ := ret_e hf
    exact bX_needs_15 
-- Cl_slips
def f_Cl_slips_14 (a1 : Nat) (a2 : Nat) (k5 : MW → Int32 → Int32 → Option RT) : Nat → MW → Int32 → Int32 → Int32 → Option RT
  | 0, _, _, _, _ => none
  | n + 1, w, x3, x4, x5 => if 30 < x5 then (k5 w x3 (x4 + 1)) else (bI (f_Cl_slipHearsJust w a1 x4 x5 a2) (fun v3 w3 => if v3 = 0 then (f_Cl_slips_14 a1 a2 k5 n w3 x3 x4 (x5 + 1)) else (f_Cl_slips_14 a1 a2 k5 n w3 (x3 + 1) x4 (x5 + 1))))
set_option maxHeartbeats 4000000 in
theorem r_Cl_slips_14 {d : Nat} {r : Option Value} {w' : MW} (a1 : Nat) (a2 : Nat) (c1 : isCt a1) (c2 : isSh a2) (k5 : MW → Int32 → Int32 → Option RT) (hk5 : ∀ w x3 x4, k5 w x3 x4 = some (r, w') → Rn (d + 3) mCl_slips 5 [some (.ref 57), some (.ref a1), some (.ref a2), some (.int x3), some (.int x4), none] [] w r w') : ∀ (n : Nat) (w : MW) (x3 : Int32) (x4 : Int32) (x5 : Int32), f_Cl_slips_14 a1 a2 k5 n w x3 x4 x5 = some (r, w') → Rn (d + 3) mCl_slips 14 [some (.ref 57), some (.ref a1), some (.ref a2), some (.int x3), some (.int x4), some (.int x5)] [] w r w' := by
  intro n
  induction n with
  | zero =>
    intro w x3 x4 x5 hf
    cases hf
  | succ n ih =>
    intro w x3 x4 x5 hf
    rw [f_Cl_slips_14] at hf
    refine bCl_slips_14 (kt := fun q1 => ?_) (kf := fun q1 => ?_)
    · replace hf := ite_t q1 hf
      refine bCl_slips_43 (k := ?_)
      exact hk5 w x3 (x4 + 1) hf
    · replace hf := ite_f q1 hf
      obtain ⟨v3, w3, e3, hf⟩ := bI_e hf
      refine bCl_slips_21 (ct := c_Cl_slipHearsJust (d := d) w a1 x4 x5 a2 c1 c2 e3) (k := ?_)
      refine bCl_slips_31 (kt := fun q4 => ?_) (kf := fun q4 => ?_)
      · replace hf := ite_t q4 hf
        refine bCl_slips_37 (k := ?_)
        exact ih w3 x3 x4 (x5 + 1) hf
      · replace hf := ite_f q4 hf
        refine bCl_slips_34 (k := ?_)
        refine bCl_slips_37 (k := ?_)
        exact ih w3 (x3 + 1) x4 (x5 + 1) hf
def f_Cl_slips_5 (a1 : Nat) (a2 : Nat) : Nat → MW → Int32 → Int32 → Option RT
  | 0, _, _, _ => none
  | n + 1, w, x3, x4 => if 3 ≤ x4 then (some (some (.int x3), w)) else (f_Cl_slips_14 a1 a2 (fun w x3 x4 => f_Cl_slips_5 a1 a2 n w x3 x4) FU w x3 x4 (0 : Int32))
set_option maxHeartbeats 4000000 in
theorem r_Cl_slips_5 {d : Nat} {r : Option Value} {w' : MW} (a1 : Nat) (a2 : Nat) (c1 : isCt a1) (c2 : isSh a2) : ∀ (n : Nat) (w : MW) (x3 : Int32) (x4 : Int32), f_Cl_slips_5 a1 a2 n w x3 x4 = some (r, w') → Rn (d + 3) mCl_slips 5 [some (.ref 57), some (.ref a1), some (.ref a2), some (.int x3), some (.int x4), none] [] w r w' := by
  intro n
  induction n with
  | zero =>
    intro w x3 x4 hf
    cases hf
  | succ n ih =>
    intro w x3 x4 hf
    rw [f_Cl_slips_5] at hf
    refine bCl_slips_5 (kt := fun q1 => ?_) (kf := fun q1 => ?_)
    · replace hf := ite_t q1 hf
      obtain ⟨rfl, rfl⟩ := ret_e hf
      exact bCl_slips_49 
    · replace hf := ite_f q1 hf
      refine bCl_slips_11 (k := ?_)
      exact r_Cl_slips_14 a1 a2 c1 c2 (fun w x3 x4 => f_Cl_slips_5 a1 a2 n w x3 x4) ih FU w x3 x4 (0 : Int32) hf
def f_Cl_slips (w : MW) (a1 : Nat) (a2 : Nat) : Option RT := f_Cl_slips_5 a1 a2 FU w (0 : Int32) (0 : Int32)
set_option maxHeartbeats 4000000 in
theorem c_Cl_slips {d : Nat} {r : Option Value} {w' : MW} (w : MW) (a1 : Nat) (a2 : Nat) (c1 : isCt a1) (c2 : isSh a2) (hf : f_Cl_slips w a1 a2 = some (r, w')) : Ct (d + 3) mCl_slips [.ref 57, .ref a1, .ref a2] w r w' := by
  refine eCl_slips ?_
  unfold f_Cl_slips at hf
  refine bCl_slips_0 (k := ?_)
  exact r_Cl_slips_5 a1 a2 c1 c2 FU w (0 : Int32) (0 : Int32) hf
-- Cl_whoHearJust
def f_Cl_whoHearJust_5 (a1 : Nat) (a2 : Nat) : Nat → MW → Int32 → Int32 → Option RT
  | 0, _, _, _ => none
  | n + 1, w, x3, x4 => if (w.1 a1 1) ≤ x4 then (some (some (.int x3), w)) else (bI (f_Ct_his w a1 x4) (fun v3 w3 => bI (f_Cl_isJust w3 a1 v3 a2) (fun v4 w4 => if v4 = 0 then (f_Cl_whoHearJust_5 a1 a2 n w4 x3 (x4 + 1)) else (f_Cl_whoHearJust_5 a1 a2 n w4 (x3 ||| ((1 : Int32) <<< (x4 &&& 31))) (x4 + 1)))))
set_option maxHeartbeats 4000000 in
theorem r_Cl_whoHearJust_5 {d : Nat} {r : Option Value} {w' : MW} (a1 : Nat) (a2 : Nat) (c1 : isCt a1) (c2 : isSh a2) : ∀ (n : Nat) (w : MW) (x3 : Int32) (x4 : Int32), f_Cl_whoHearJust_5 a1 a2 n w x3 x4 = some (r, w') → Rn (d + 4) mCl_whoHearJust 5 [some (.ref 57), some (.ref a1), some (.ref a2), some (.int x3), some (.int x4)] [] w r w' := by
  intro n
  induction n with
  | zero =>
    intro w x3 x4 hf
    cases hf
  | succ n ih =>
    intro w x3 x4 hf
    rw [f_Cl_whoHearJust_5] at hf
    refine bCl_whoHearJust_5 (h1 := ct_g1 c1) (kt := fun q1 => ?_) (kf := fun q1 => ?_)
    · replace hf := ite_t q1 hf
      obtain ⟨rfl, rfl⟩ := ret_e hf
      exact bCl_whoHearJust_42 
    · replace hf := ite_f q1 hf
      obtain ⟨v3, w3, e3, hf⟩ := bI_e hf
      refine bCl_whoHearJust_14 (h1 := ct_k c1) (ct := c_Ct_his (d := d) w a1 x4 c1 e3) (k := ?_)
      obtain ⟨v4, w4, e4, hf⟩ := bI_e hf
      refine bCl_whoHearJust_22 (ct := c_Cl_isJust (d := d + 2) w3 a1 v3 a2 c1 c2 e4) (k := ?_)
      refine bCl_whoHearJust_26 (kt := fun q5 => ?_) (kf := fun q5 => ?_)
      · replace hf := ite_t q5 hf
        refine bCl_whoHearJust_36 (k := ?_)
        exact ih w4 x3 (x4 + 1) hf
      · replace hf := ite_f q5 hf
        refine bCl_whoHearJust_29 (k := ?_)
        refine bCl_whoHearJust_36 (k := ?_)
        exact ih w4 (x3 ||| ((1 : Int32) <<< (x4 &&& 31))) (x4 + 1) hf
def f_Cl_whoHearJust (w : MW) (a1 : Nat) (a2 : Nat) : Option RT := f_Cl_whoHearJust_5 a1 a2 FU w (0 : Int32) (0 : Int32)
set_option maxHeartbeats 4000000 in
theorem c_Cl_whoHearJust {d : Nat} {r : Option Value} {w' : MW} (w : MW) (a1 : Nat) (a2 : Nat) (c1 : isCt a1) (c2 : isSh a2) (hf : f_Cl_whoHearJust w a1 a2 = some (r, w')) : Ct (d + 4) mCl_whoHearJust [.ref 57, .ref a1, .ref a2] w r w' := by
  refine eCl_whoHearJust ?_
  unfold f_Cl_whoHearJust at hf
  refine bCl_whoHearJust_0 (k := ?_)
  exact r_Cl_whoHearJust_5 a1 a2 c1 c2 FU w (0 : Int32) (0 : Int32) hf
-- Cl_bestSwap
def f_Cl_bestSwap_53 (a1 : Nat) (k41 : MW → Int32 → Int32 → Int32 → Int32 → Option RT) : Nat → MW → Int32 → Int32 → Int32 → Int32 → Int32 → Option RT
  | 0, _, _, _, _, _, _ => none
  | n + 1, w, x2, x3, x4, x5, x6 => if x2 ≤ x6 then (k41 w x2 x3 x4 (x5 + 1)) else (grd (vpb x5 30 = true) (grd (vpb x6 30 = true) (if ((w.1 58 x5.toNatClampNeg) - (w.1 58 x5.toNatClampNeg) / 4 * 4) = ((w.1 58 x6.toNatClampNeg) - (w.1 58 x6.toNatClampNeg) / 4 * 4) then (f_Cl_bestSwap_53 a1 k41 n w x2 x3 x4 x5 (x6 + 1)) else (bV (f_Cl_exchange w x5 x6) (fun w4 => bI (f_Cl_howManyHaveSense w4 (w4.1 a1 1) x2) (fun v5 w5 => bV (f_Cl_exchange w5 x5 x6) (fun w6 => if v5 ≤ x4 then (f_Cl_bestSwap_53 a1 k41 n w6 x2 x3 x4 x5 (x6 + 1)) else (f_Cl_bestSwap_53 a1 k41 n w6 x2 ((100 * x5) + x6) v5 x5 (x6 + 1)))))))))
set_option maxHeartbeats 4000000 in
theorem r_Cl_bestSwap_53 {d : Nat} {r : Option Value} {w' : MW} (a1 : Nat) (c1 : isCt a1) (k41 : MW → Int32 → Int32 → Int32 → Int32 → Option RT) (hk41 : ∀ w x2 x3 x4 x5, k41 w x2 x3 x4 x5 = some (r, w') → Rn (d + 5) mCl_bestSwap 41 [some (.ref 57), some (.ref a1), some (.int x2), some (.int x3), some (.int x4), some (.int x5), none, none] [] w r w') : ∀ (n : Nat) (w : MW) (x2 : Int32) (x3 : Int32) (x4 : Int32) (x5 : Int32) (x6 : Int32), f_Cl_bestSwap_53 a1 k41 n w x2 x3 x4 x5 x6 = some (r, w') → Rn (d + 5) mCl_bestSwap 53 [some (.ref 57), some (.ref a1), some (.int x2), some (.int x3), some (.int x4), some (.int x5), some (.int x6), none] [] w r w' := by
  intro n
  induction n with
  | zero =>
    intro w x2 x3 x4 x5 x6 hf
    cases hf
  | succ n ih =>
    intro w x2 x3 x4 x5 x6 hf
    rw [f_Cl_bestSwap_53] at hf
    refine bCl_bestSwap_53 (kt := fun q1 => ?_) (kf := fun q1 => ?_)
    · replace hf := ite_t q1 hf
      refine bCl_bestSwap_136 (k := ?_)
      exact hk41 w x2 x3 x4 (x5 + 1) hf
    · replace hf := ite_f q1 hf
      obtain ⟨g3_0, hf⟩ := grd_e hf
      obtain ⟨g3_1, hf⟩ := grd_e hf
      refine bCl_bestSwap_59 (y1 := 58) (h3 := (vpb_ok g3_0)) (y2 := 58) (h6 := (vpb_ok g3_1)) (kt := fun q3 => ?_) (kf := fun q3 => ?_)
      · replace hf := ite_f q3 hf
        obtain ⟨w4, e4, hf⟩ := bV_e hf
        refine bCl_bestSwap_83 (ct := c_Cl_exchange (d := d + 4) w x5 x6 e4) (k := ?_)
        obtain ⟨v5, w5, e5, hf⟩ := bI_e hf
        refine bCl_bestSwap_91 (h1 := ct_g1 c1) (ct := c_Cl_howManyHaveSense (d := d + 3) w4 (w4.1 a1 1) x2 e5) (k := ?_)
        obtain ⟨w6, e6, hf⟩ := bV_e hf
        refine bCl_bestSwap_100 (ct := c_Cl_exchange (d := d + 4) w5 x5 x6 e6) (k := ?_)
        refine bCl_bestSwap_110 (kt := fun q7 => ?_) (kf := fun q7 => ?_)
        · replace hf := ite_t q7 hf
          refine bCl_bestSwap_130 (k := ?_)
          exact ih w6 x2 x3 x4 x5 (x6 + 1) hf
        · replace hf := ite_f q7 hf
          refine bCl_bestSwap_117 (k := ?_)
          refine bCl_bestSwap_130 (k := ?_)
          exact ih w6 x2 ((100 * x5) + x6) v5 x5 (x6 + 1) hf
      · replace hf := ite_t q3 hf
        refine bCl_bestSwap_80 (k := ?_)
        refine bCl_bestSwap_130 (k := ?_)
        exact ih w x2 x3 x4 x5 (x6 + 1) hf
def f_Cl_bestSwap_41 (a1 : Nat) : Nat → MW → Int32 → Int32 → Int32 → Int32 → Option RT
  | 0, _, _, _, _, _ => none
  | n + 1, w, x2, x3, x4, x5 => if x2 ≤ x5 then (some (some (.int x3), w)) else (f_Cl_bestSwap_53 a1 (fun w x2 x3 x4 x5 => f_Cl_bestSwap_41 a1 n w x2 x3 x4 x5) FU w x2 x3 x4 x5 (x5 + 1))
set_option maxHeartbeats 4000000 in
theorem r_Cl_bestSwap_41 {d : Nat} {r : Option Value} {w' : MW} (a1 : Nat) (c1 : isCt a1) : ∀ (n : Nat) (w : MW) (x2 : Int32) (x3 : Int32) (x4 : Int32) (x5 : Int32), f_Cl_bestSwap_41 a1 n w x2 x3 x4 x5 = some (r, w') → Rn (d + 5) mCl_bestSwap 41 [some (.ref 57), some (.ref a1), some (.int x2), some (.int x3), some (.int x4), some (.int x5), none, none] [] w r w' := by
  intro n
  induction n with
  | zero =>
    intro w x2 x3 x4 x5 hf
    cases hf
  | succ n ih =>
    intro w x2 x3 x4 x5 hf
    rw [f_Cl_bestSwap_41] at hf
    refine bCl_bestSwap_41 (kt := fun q1 => ?_) (kf := fun q1 => ?_)
    · replace hf := ite_t q1 hf
      obtain ⟨rfl, rfl⟩ := ret_e hf
      exact bCl_bestSwap_142 
    · replace hf := ite_f q1 hf
      refine bCl_bestSwap_47 (k := ?_)
      exact r_Cl_bestSwap_53 a1 c1 (fun w x2 x3 x4 x5 => f_Cl_bestSwap_41 a1 n w x2 x3 x4 x5) ih FU w x2 x3 x4 x5 (x5 + 1) hf
def f_Cl_bestSwap (w : MW) (a1 : Nat) : Option RT := bV (f_Cl_listen (setA w 58 (va_cpy (w.1 (a1 + 10)) (w.1 58) (0 : Int32).toNatClampNeg (0 : Int32).toNatClampNeg (30 : Int32).toNatClampNeg)) a1) (fun w1 => bI (f_Cl_howManyHaveSense w1 (w1.1 a1 1) (w.1 a1 3)) (fun v2 w2 => f_Cl_bestSwap_41 a1 FU w2 (w.1 a1 3) (-1 : Int32) v2 (0 : Int32)))
set_option maxHeartbeats 4000000 in
theorem c_Cl_bestSwap {d : Nat} {r : Option Value} {w' : MW} (w : MW) (a1 : Nat) (c1 : isCt a1) (hf : f_Cl_bestSwap w a1 = some (r, w')) : Ct (d + 5) mCl_bestSwap [.ref 57, .ref a1] w r w' := by
  refine eCl_bestSwap ?_
  unfold f_Cl_bestSwap at hf
  obtain ⟨w1, e1, hf⟩ := bV_e hf
  refine bCl_bestSwap_0 (h1 := ct_g3 c1) (y1 := a1 + 10) (h2 := ct_r2 c1) (y2 := 58) (h4 := ⟨ct_k10 c1, rfl⟩) (h5 := by rw [ct_l30 c1]; decide) (ct := c_Cl_listen (d := d) (setA w 58 (va_cpy (w.1 (a1 + 10)) (w.1 58) (0 : Int32).toNatClampNeg (0 : Int32).toNatClampNeg (30 : Int32).toNatClampNeg)) a1 c1 e1) (k := ?_)
  obtain ⟨v2, w2, e2, hf⟩ := bI_e hf
  refine bCl_bestSwap_25 (h1 := ct_g1 c1) (ct := c_Cl_howManyHaveSense (d := d + 3) w1 (w1.1 a1 1) (w.1 a1 3) e2) (k := ?_)
  refine bCl_bestSwap_36 (k := ?_)
  exact r_Cl_bestSwap_41 a1 c1 FU w2 (w.1 a1 3) (-1 : Int32) v2 (0 : Int32) hf
-- X_would
def f_X_would (w : MW) (x1 : Int32) (x2 : Int32) (x3 : Int32) : Option RT := if (v_X_isShelf w x1) = 0 then (some (some (.int (v_X_refuseFar w (-1 : Int32))), u_X_refuseFar w (-1 : Int32))) else (if (v_Ct_isMan w 1 x3) = 0 then (some (some (.int (v_X_refuseFar w (-1 : Int32))), u_X_refuseFar w (-1 : Int32))) else (grd ((v_X_rowRefusal w x1) = 0 → 0 ≤ x2 → vpb x1 8 = true) (if (v_X_tellRefusal w x1 x2) = 0 then (if 30 < x2 then (some (some (.int (v_X_refuseFar w (-6 : Int32))), u_X_refuseFar w (-6 : Int32))) else (grd (vpb x1 8 = true) (bI (f_Sh_firstWrong w (35 + 2 * x1.toNatClampNeg) x2) (fun v12 w12 => if v12 = (-1) then (grd (vpb x1 8 = true) (grd (vpb x3 8 = true) (bI (f_Mn_placesOf w12 (1 + 2 + x3.toNatClampNeg) x2) (fun v14 w14 => bI (f_Cl_senseOfTold w14 (35 + 2 * x1.toNatClampNeg) x2 v14) (fun v15 w15 => some (some (.int v15), w15)))))) else (some (some (.int (v_X_refuseFar w12 (-6 : Int32))), u_X_refuseFar w12 (-6 : Int32))))))) else (some (some (.int (v_X_refuseFar w (v_X_tellRefusal w x1 x2))), u_X_refuseFar w (v_X_tellRefusal w x1 x2))))))
set_option maxHeartbeats 4000000 in
theorem c_X_would {d : Nat} {r : Option Value} {w' : MW} (w : MW) (x1 : Int32) (x2 : Int32) (x3 : Int32) (hf : f_X_would w x1 x2 x3 = some (r, w')) : Ct (d + 3) mX_would [.ref 0, .int x1, .int x2, .int x3] w r w' := by
  refine eX_would ?_
  unfold f_X_would at hf
  refine bX_would_0 (ct := c_X_isShelf (d := d + 2) w x1) (k := ?_)
  refine bX_would_4 (kt := fun q2 => ?_) (kf := fun q2 => ?_)
  · replace hf := ite_t q2 hf
    refine bX_would_18 (ct := c_X_refuseFar (d := d + 1) w (-1 : Int32)) (k := ?_)
    obtain ⟨rfl, rfl⟩ := ret_e hf
    exact bX_would_23 
  · replace hf := ite_f q2 hf
    refine bX_would_7 (y1 := 1) (ct := c_Ct_isMan (d := d + 2) w 1 x3 ct1) (k := ?_)
    refine bX_would_15 (kt := fun q6 => ?_) (kf := fun q6 => ?_)
    · replace hf := ite_f q6 hf
      obtain ⟨g7_0, hf⟩ := grd_e hf
      refine bX_would_24 (ct := c_X_tellRefusal (d := d) w x1 x2 (fun z0 z1 => vpb_ok (g7_0 z0 z1))) (k := ?_)
      refine bX_would_30 (kt := fun q8 => ?_) (kf := fun q8 => ?_)
      · replace hf := ite_t q8 hf
        refine bX_would_44 (kt := fun q9 => ?_) (kf := fun q9 => ?_)
        · replace hf := ite_t q9 hf
          refine bX_would_64 (ct := c_X_refuseFar (d := d + 1) w (-6 : Int32)) (k := ?_)
          obtain ⟨rfl, rfl⟩ := ret_e hf
          exact bX_would_70 
        · replace hf := ite_f q9 hf
          obtain ⟨g12_0, hf⟩ := grd_e hf
          obtain ⟨v12, w12, e12, hf⟩ := bI_e hf
          refine bX_would_50 (y1 := 34) (y2 := 35 + 2 * x1.toNatClampNeg) (h3 := (vpb_ok g12_0)) (h4 := shr_sh (vpb_ok g12_0)) (h5 := sh_k (sh_of (vpb_ok g12_0))) (ct := c_Sh_firstWrong (d := d + 1) w (35 + 2 * x1.toNatClampNeg) x2 (sh_of (vpb_ok g12_0)) e12) (k := ?_)
          refine bX_would_60 (kt := fun q13 => ?_) (kf := fun q13 => ?_)
          · replace hf := ite_t q13 hf
            obtain ⟨g14_0, hf⟩ := grd_e hf
            obtain ⟨g14_1, hf⟩ := grd_e hf
            obtain ⟨v14, w14, e14, hf⟩ := bI_e hf
            refine bX_would_71 (y1 := 57) (y2 := 34) (y3 := 35 + 2 * x1.toNatClampNeg) (h4 := (vpb_ok g14_0)) (h5 := shr_sh (vpb_ok g14_0)) (y4 := 1) (y5 := 2) (y6 := 1 + 2 + x3.toNatClampNeg) (h8 := ct_k12 ct1) (h9 := ct_l8 ct1 (vpb_ok g14_1)) (h10 := ct_mn ct1 (vpb_ok g14_1)) (h11 := mn_k (mn_of ct1 (vpb_ok g14_1))) (ct := c_Mn_placesOf (d := d) w12 (1 + 2 + x3.toNatClampNeg) x2 (mn_of ct1 (vpb_ok g14_1)) e14) (k := ?_)
            obtain ⟨v15, w15, e15, hf⟩ := bI_e hf
            refine bX_would_95 (ct := c_Cl_senseOfTold (d := d + 1) w14 (35 + 2 * x1.toNatClampNeg) x2 v14 (sh_of (vpb_ok g14_0)) e15) (k := ?_)
            obtain ⟨rfl, rfl⟩ := ret_e hf
            exact bX_would_98 
          · replace hf := ite_f q13 hf
            refine bX_would_64 (ct := c_X_refuseFar (d := d + 1) w12 (-6 : Int32)) (k := ?_)
            obtain ⟨rfl, rfl⟩ := ret_e hf
            exact bX_would_70 
      · replace hf := ite_f q8 hf
        refine bX_would_37 (ct := c_X_refuseFar (d := d + 1) w (v_X_tellRefusal w x1 x2)) (k := ?_)
        obtain ⟨rfl, rfl⟩ := ret_e hf
        exact bX_would_43 
    · replace hf := ite_t q6 hf
      refine bX_would_18 (ct := c_X_refuseFar (d := d + 1) w (-1 : Int32)) (k := ?_)
      obtain ⟨rfl, rfl⟩ := ret_e hf
      exact bX_would_23 
-- X_hold
def f_X_hold (w : MW) (x1 : Int32) : Option RT := bV (f_Co_begin w 1) (fun w1 => bV (f_Co_ride w1 x1) (fun w2 => bI (f_Co_believe w2 1) (fun v3 w3 => some (some (.int v3), w3))))
set_option maxHeartbeats 4000000 in
theorem c_X_hold {d : Nat} {r : Option Value} {w' : MW} (w : MW) (x1 : Int32) (hf : f_X_hold w x1 = some (r, w')) : Ct (d + 5) mX_hold [.ref 0, .int x1] w r w' := by
  refine eX_hold ?_
  unfold f_X_hold at hf
  obtain ⟨w1, e1, hf⟩ := bV_e hf
  refine bX_hold_0 (y1 := 53) (y2 := 1) (ct := c_Co_begin (d := d) w 1 ct1 e1) (k := ?_)
  obtain ⟨w2, e2, hf⟩ := bV_e hf
  refine bX_hold_11 (y1 := 53) (ct := c_Co_ride (d := d + 3) w1 x1 e2) (k := ?_)
  obtain ⟨v3, w3, e3, hf⟩ := bI_e hf
  refine bX_hold_19 (y1 := 53) (y2 := 1) (ct := c_Co_believe (d := d + 1) w2 1 ct1 e3) (k := ?_)
  obtain ⟨rfl, rfl⟩ := ret_e hf
  exact bX_hold_30 
-- X_reign
def f_X_reign_22 : Nat → MW → Int32 → Int32 → Int32 → Option RT
  | 0, _, _, _, _ => none
  | n + 1, w, x1, x2, x3 => if x1 ≤ x3 then (some (some (.int x2), w)) else (bV (f_Ct_drawSaying w 1) (fun w3 => bI (f_X_hold w3 (0 : Int32)) (fun v4 w4 => f_X_reign_22 n w4 x1 (x2 + v4) (x3 + 1))))
set_option maxHeartbeats 4000000 in
theorem r_X_reign_22 {d : Nat} {r : Option Value} {w' : MW} : ∀ (n : Nat) (w : MW) (x1 : Int32) (x2 : Int32) (x3 : Int32), f_X_reign_22 n w x1 x2 x3 = some (r, w') → Rn (d + 6) mX_reign 22 [some (.ref 0), some (.int x1), some (.int x2), some (.int x3)] [] w r w' := by
  intro n
  induction n with
  | zero =>
    intro w x1 x2 x3 hf
    cases hf
  | succ n ih =>
    intro w x1 x2 x3 hf
    rw [f_X_reign_22] at hf
    refine bX_reign_22 (kt := fun q1 => ?_) (kf := fun q1 => ?_)
    · replace hf := ite_t q1 hf
      obtain ⟨rfl, rfl⟩ := ret_e hf
      exact bX_reign_48 
    · replace hf := ite_f q1 hf
      obtain ⟨w3, e3, hf⟩ := bV_e hf
      refine bX_reign_27 (y1 := 1) (ct := c_Ct_drawSaying (d := d + 4) w 1 ct1 e3) (k := ?_)
      obtain ⟨v4, w4, e4, hf⟩ := bI_e hf
      refine bX_reign_34 (ct := c_X_hold (d := d) w3 (0 : Int32) e4) (k := ?_)
      refine bX_reign_40 (k := ?_)
      exact ih w4 x1 (x2 + v4) (x3 + 1) hf
def f_X_reign (w : MW) (x1 : Int32) : Option RT := if x1 < 1 then (some (some (.int (v_X_refuse w (-6 : Int32))), u_X_refuse w (-6 : Int32))) else (if x1 ≤ 60 then (f_X_reign_22 FU w x1 (0 : Int32) (0 : Int32)) else (some (some (.int (v_X_refuse w (-6 : Int32))), u_X_refuse w (-6 : Int32))))
set_option maxHeartbeats 4000000 in
theorem c_X_reign {d : Nat} {r : Option Value} {w' : MW} (w : MW) (x1 : Int32) (hf : f_X_reign w x1 = some (r, w')) : Ct (d + 6) mX_reign [.ref 0, .int x1] w r w' := by
  refine eX_reign ?_
  unfold f_X_reign at hf
  refine bX_reign_0 (kt := fun q1 => ?_) (kf := fun q1 => ?_)
  · replace hf := ite_t q1 hf
    refine bX_reign_11 (ct := c_X_refuse (d := d + 5) w (-6 : Int32)) (k := ?_)
    obtain ⟨rfl, rfl⟩ := ret_e hf
    exact bX_reign_17 
  · replace hf := ite_f q1 hf
    refine bX_reign_5 (kt := fun q4 => ?_) (kf := fun q4 => ?_)
    · replace hf := ite_t q4 hf
      refine bX_reign_18 (k := ?_)
      exact r_X_reign_22 FU w x1 (0 : Int32) (0 : Int32) hf
    · replace hf := ite_f q4 hf
      refine bX_reign_11 (ct := c_X_refuse (d := d + 5) w (-6 : Int32)) (k := ?_)
      obtain ⟨rfl, rfl⟩ := ret_e hf
      exact bX_reign_17 
-- M_says
def f_M_says (w : MW) (x1 : Int32) (x2 : Int32) : Option RT := if (v_M_within w x1 (0 : Int32) (7 : Int32)) = 0 then (some (some (.int (v_M_no w (-1 : Int32))), u_M_no w (-1 : Int32))) else (if (v_M_within w x2 (0 : Int32) (6 : Int32)) = 0 then (some (some (.int (v_M_no w (-1 : Int32))), u_M_no w (-1 : Int32))) else (grd (vpb x1 8 = true) (if (w.1 63 x1.toNatClampNeg) < 0 then (if 0 ≤ (w.1 63 x1.toNatClampNeg) then (bI (f_M_hisOf w (w.1 63 x1.toNatClampNeg)) (fun v9 w9 => grd (vpb (w.1 63 x1.toNatClampNeg) 8 = true) (bI (f_M_his w9 (0 : Int32) (0 : Int32) (w9.1 68 (w.1 63 x1.toNatClampNeg).toNatClampNeg)) (fun v10 w10 => if x2 = 0 then (grd (vpb (w.1 63 x1.toNatClampNeg) 8 = true) (some (some (.int (w10.1 68 (w.1 63 x1.toNatClampNeg).toNatClampNeg)), w10))) else if x2 = 1 then (bI (f_JI_bitCount w10 v9) (fun v13 w13 => bI (f_JI_bitCount w13 v10) (fun v14 w14 => some (some (.int (v13 - v14)), w14)))) else if x2 = 2 then (bI (f_JI_bitCount w10 v10) (fun v16 w16 => bI (f_JI_bitCount w16 v9) (fun v17 w17 => some (some (.int (v16 - v17)), w17)))) else if x2 = 3 then (bI (f_JI_bitCount w10 v9) (fun v19 w19 => bI (f_JI_bitCount w19 v10) (fun v20 w20 => some (some (.int (v19 - v20)), w20)))) else if x2 = 5 then (bI (f_JI_bitCount w10 v10) (fun v22 w22 => bI (f_JI_bitCount w22 v9) (fun v23 w23 => some (some (.int (v22 - v23)), w23)))) else (bI (f_JI_bitCount w10 (v9 &&& (v10 ^^^ (-1)))) (fun v25 w25 => some (some (.int v25), w25))))))) else (some (some (.int (v_M_no w (-3 : Int32))), u_M_no w (-3 : Int32)))) else (grd (vpb x1 8 = true) (if (v_M_isRow w x1) = 0 then (grd (vpb (w.1 63 x1.toNatClampNeg) 8 = true) (bI (f_M_isUnder w (w.1 66 (w.1 63 x1.toNatClampNeg).toNatClampNeg) x2) (fun v33 w33 => if v33 = 0 then (some (some (.int (v_M_no w33 (-2 : Int32))), u_M_no w33 (-2 : Int32))) else (if 0 ≤ (w.1 63 x1.toNatClampNeg) then (bI (f_M_hisOf w33 (w.1 63 x1.toNatClampNeg)) (fun v36 w36 => grd (vpb (w.1 63 x1.toNatClampNeg) 8 = true) (bI (f_M_his w36 (0 : Int32) (0 : Int32) (w36.1 68 (w.1 63 x1.toNatClampNeg).toNatClampNeg)) (fun v37 w37 => if x2 = 0 then (grd (vpb (w.1 63 x1.toNatClampNeg) 8 = true) (some (some (.int (w37.1 68 (w.1 63 x1.toNatClampNeg).toNatClampNeg)), w37))) else if x2 = 1 then (bI (f_JI_bitCount w37 v36) (fun v40 w40 => bI (f_JI_bitCount w40 v37) (fun v41 w41 => some (some (.int (v40 - v41)), w41)))) else if x2 = 2 then (bI (f_JI_bitCount w37 v37) (fun v43 w43 => bI (f_JI_bitCount w43 v36) (fun v44 w44 => some (some (.int (v43 - v44)), w44)))) else if x2 = 3 then (bI (f_JI_bitCount w37 v36) (fun v46 w46 => bI (f_JI_bitCount w46 v37) (fun v47 w47 => some (some (.int (v46 - v47)), w47)))) else if x2 = 5 then (bI (f_JI_bitCount w37 v37) (fun v49 w49 => bI (f_JI_bitCount w49 v36) (fun v50 w50 => some (some (.int (v49 - v50)), w50)))) else (bI (f_JI_bitCount w37 (v36 &&& (v37 ^^^ (-1)))) (fun v52 w52 => some (some (.int v52), w52))))))) else (some (some (.int (v_M_no w33 (-3 : Int32))), u_M_no w33 (-3 : Int32))))))) else (some (some (.int (v_M_no w (-2 : Int32))), u_M_no w (-2 : Int32))))))))
set_option maxHeartbeats 4000000 in
theorem c_M_says {d : Nat} {r : Option Value} {w' : MW} (w : MW) (x1 : Int32) (x2 : Int32) (hf : f_M_says w x1 x2 = some (r, w')) : Ct (d + 2) mM_says [.ref 62, .int x1, .int x2] w r w' := by
  refine eM_says ?_
  unfold f_M_says at hf
  refine bM_says_0 (ct := c_M_within (d := d + 1) w x1 (0 : Int32) (7 : Int32)) (k := ?_)
  refine bM_says_7 (kt := fun q2 => ?_) (kf := fun q2 => ?_)
  · replace hf := ite_t q2 hf
    refine bM_says_20 (ct := c_M_no (d := d + 1) w (-1 : Int32) (vpd (i := (-(-1 : Int32))) (n := 8) (by decide))) (k := ?_)
    obtain ⟨rfl, rfl⟩ := ret_e hf
    exact bM_says_25 
  · replace hf := ite_f q2 hf
    refine bM_says_10 (ct := c_M_within (d := d + 1) w x2 (0 : Int32) (6 : Int32)) (k := ?_)
    refine bM_says_17 (kt := fun q6 => ?_) (kf := fun q6 => ?_)
    · replace hf := ite_f q6 hf
      obtain ⟨g7_0, hf⟩ := grd_e hf
      refine bM_says_26 (y1 := 63) (h3 := (vpb_ok g7_0)) (kt := fun q7 => ?_) (kf := fun q7 => ?_)
      · replace hf := ite_t q7 hf
        refine bM_says_65 (kt := fun q8 => ?_) (kf := fun q8 => ?_)
        · replace hf := ite_t q8 hf
          obtain ⟨v9, w9, e9, hf⟩ := bI_e hf
          refine bM_says_76 (ct := c_M_hisOf (d := d) w (w.1 63 x1.toNatClampNeg) e9) (k := ?_)
          obtain ⟨g10_0, hf⟩ := grd_e hf
          obtain ⟨v10, w10, e10, hf⟩ := bI_e hf
          refine bM_says_81 (y1 := 68) (h3 := (vpb_ok g10_0)) (ct := c_M_his (d := d + 1) w9 (0 : Int32) (0 : Int32) (w9.1 68 (w.1 63 x1.toNatClampNeg).toNatClampNeg) e10) (k := ?_)
          refine bM_says_95 (k0 := fun q11_0 => ?_) (k1 := fun q11_1 => ?_) (k2 := fun q11_2 => ?_) (k3 := fun q11_3 => ?_) (k5 := fun q11_5 => ?_) (kd := fun q11_0 q11_1 q11_2 q11_3 q11_5 => ?_)
          · have hq := q11_0
            replace hf := ite_t hq hf
            obtain ⟨g12_0, hf⟩ := grd_e hf
            obtain ⟨rfl, rfl⟩ := ret_e hf
            exact bM_says_136 (y1 := 68) (h3 := (vpb_ok g12_0))
          · have hq := q11_1
            replace hf := ite_f (by rw [hq]; decide) hf
            replace hf := ite_t hq hf
            obtain ⟨v13, w13, e13, hf⟩ := bI_e hf
            refine bM_says_143 (ct := c_JI_bitCount (d := d + 1) w10 v9 e13) (k := ?_)
            obtain ⟨v14, w14, e14, hf⟩ := bI_e hf
            refine bM_says_148 (ct := c_JI_bitCount (d := d + 1) w13 v10 e14) (k := ?_)
            obtain ⟨rfl, rfl⟩ := ret_e hf
            exact bM_says_153 
          · have hq := q11_2
            replace hf := ite_f (by rw [hq]; decide) hf
            replace hf := ite_f (by rw [hq]; decide) hf
            replace hf := ite_t hq hf
            obtain ⟨v16, w16, e16, hf⟩ := bI_e hf
            refine bM_says_155 (ct := c_JI_bitCount (d := d + 1) w10 v10 e16) (k := ?_)
            obtain ⟨v17, w17, e17, hf⟩ := bI_e hf
            refine bM_says_160 (ct := c_JI_bitCount (d := d + 1) w16 v9 e17) (k := ?_)
            obtain ⟨rfl, rfl⟩ := ret_e hf
            exact bM_says_165 
          · have hq := q11_3
            replace hf := ite_f (by rw [hq]; decide) hf
            replace hf := ite_f (by rw [hq]; decide) hf
            replace hf := ite_f (by rw [hq]; decide) hf
            replace hf := ite_t hq hf
            obtain ⟨v19, w19, e19, hf⟩ := bI_e hf
            refine bM_says_143 (ct := c_JI_bitCount (d := d + 1) w10 v9 e19) (k := ?_)
            obtain ⟨v20, w20, e20, hf⟩ := bI_e hf
            refine bM_says_148 (ct := c_JI_bitCount (d := d + 1) w19 v10 e20) (k := ?_)
            obtain ⟨rfl, rfl⟩ := ret_e hf
            exact bM_says_153 
          · have hq := q11_5
            replace hf := ite_f (by rw [hq]; decide) hf
            replace hf := ite_f (by rw [hq]; decide) hf
            replace hf := ite_f (by rw [hq]; decide) hf
            replace hf := ite_f (by rw [hq]; decide) hf
            replace hf := ite_t hq hf
            obtain ⟨v22, w22, e22, hf⟩ := bI_e hf
            refine bM_says_155 (ct := c_JI_bitCount (d := d + 1) w10 v10 e22) (k := ?_)
            obtain ⟨v23, w23, e23, hf⟩ := bI_e hf
            refine bM_says_160 (ct := c_JI_bitCount (d := d + 1) w22 v9 e23) (k := ?_)
            obtain ⟨rfl, rfl⟩ := ret_e hf
            exact bM_says_165 
          · replace hf := ite_f q11_0 hf
            replace hf := ite_f q11_1 hf
            replace hf := ite_f q11_2 hf
            replace hf := ite_f q11_3 hf
            replace hf := ite_f q11_5 hf
            obtain ⟨v25, w25, e25, hf⟩ := bI_e hf
            refine bM_says_167 (ct := c_JI_bitCount (d := d + 1) w10 (v9 &&& (v10 ^^^ (-1))) e25) (k := ?_)
            obtain ⟨rfl, rfl⟩ := ret_e hf
            exact bM_says_177 
        · replace hf := ite_f q8 hf
          refine bM_says_69 (ct := c_M_no (d := d + 1) w (-3 : Int32) (vpd (i := (-(-3 : Int32))) (n := 8) (by decide))) (k := ?_)
          obtain ⟨rfl, rfl⟩ := ret_e hf
          exact bM_says_75 
      · replace hf := ite_f q7 hf
        obtain ⟨g29_0, hf⟩ := grd_e hf
        refine bM_says_37 (ct := c_M_isRow (d := d + 1) w x1 (vpb_ok g29_0)) (k := ?_)
        refine bM_says_42 (kt := fun q30 => ?_) (kf := fun q30 => ?_)
        · replace hf := ite_f q30 hf
          refine bM_says_58 (ct := c_M_no (d := d + 1) w (-2 : Int32) (vpd (i := (-(-2 : Int32))) (n := 8) (by decide))) (k := ?_)
          obtain ⟨rfl, rfl⟩ := ret_e hf
          exact bM_says_64 
        · replace hf := ite_t q30 hf
          obtain ⟨g33_0, hf⟩ := grd_e hf
          obtain ⟨v33, w33, e33, hf⟩ := bI_e hf
          refine bM_says_45 (y1 := 66) (h3 := (vpb_ok g33_0)) (ct := c_M_isUnder (d := d) w (w.1 66 (w.1 63 x1.toNatClampNeg).toNatClampNeg) x2 e33) (k := ?_)
          refine bM_says_55 (kt := fun q34 => ?_) (kf := fun q34 => ?_)
          · replace hf := ite_f q34 hf
            refine bM_says_65 (kt := fun q35 => ?_) (kf := fun q35 => ?_)
            · replace hf := ite_t q35 hf
              obtain ⟨v36, w36, e36, hf⟩ := bI_e hf
              refine bM_says_76 (ct := c_M_hisOf (d := d) w33 (w.1 63 x1.toNatClampNeg) e36) (k := ?_)
              obtain ⟨g37_0, hf⟩ := grd_e hf
              obtain ⟨v37, w37, e37, hf⟩ := bI_e hf
              refine bM_says_81 (y1 := 68) (h3 := (vpb_ok g37_0)) (ct := c_M_his (d := d + 1) w36 (0 : Int32) (0 : Int32) (w36.1 68 (w.1 63 x1.toNatClampNeg).toNatClampNeg) e37) (k := ?_)
              refine bM_says_95 (k0 := fun q38_0 => ?_) (k1 := fun q38_1 => ?_) (k2 := fun q38_2 => ?_) (k3 := fun q38_3 => ?_) (k5 := fun q38_5 => ?_) (kd := fun q38_0 q38_1 q38_2 q38_3 q38_5 => ?_)
              · have hq := q38_0
                replace hf := ite_t hq hf
                obtain ⟨g39_0, hf⟩ := grd_e hf
                obtain ⟨rfl, rfl⟩ := ret_e hf
                exact bM_says_136 (y1 := 68) (h3 := (vpb_ok g39_0))
              · have hq := q38_1
                replace hf := ite_f (by rw [hq]; decide) hf
                replace hf := ite_t hq hf
                obtain ⟨v40, w40, e40, hf⟩ := bI_e hf
                refine bM_says_143 (ct := c_JI_bitCount (d := d + 1) w37 v36 e40) (k := ?_)
                obtain ⟨v41, w41, e41, hf⟩ := bI_e hf
                refine bM_says_148 (ct := c_JI_bitCount (d := d + 1) w40 v37 e41) (k := ?_)
                obtain ⟨rfl, rfl⟩ := ret_e hf
                exact bM_says_153 
              · have hq := q38_2
                replace hf := ite_f (by rw [hq]; decide) hf
                replace hf := ite_f (by rw [hq]; decide) hf
                replace hf := ite_t hq hf
                obtain ⟨v43, w43, e43, hf⟩ := bI_e hf
                refine bM_says_155 (ct := c_JI_bitCount (d := d + 1) w37 v37 e43) (k := ?_)
                obtain ⟨v44, w44, e44, hf⟩ := bI_e hf
                refine bM_says_160 (ct := c_JI_bitCount (d := d + 1) w43 v36 e44) (k := ?_)
                obtain ⟨rfl, rfl⟩ := ret_e hf
                exact bM_says_165 
              · have hq := q38_3
                replace hf := ite_f (by rw [hq]; decide) hf
                replace hf := ite_f (by rw [hq]; decide) hf
                replace hf := ite_f (by rw [hq]; decide) hf
                replace hf := ite_t hq hf
                obtain ⟨v46, w46, e46, hf⟩ := bI_e hf
                refine bM_says_143 (ct := c_JI_bitCount (d := d + 1) w37 v36 e46) (k := ?_)
                obtain ⟨v47, w47, e47, hf⟩ := bI_e hf
                refine bM_says_148 (ct := c_JI_bitCount (d := d + 1) w46 v37 e47) (k := ?_)
                obtain ⟨rfl, rfl⟩ := ret_e hf
                exact bM_says_153 
              · have hq := q38_5
                replace hf := ite_f (by rw [hq]; decide) hf
                replace hf := ite_f (by rw [hq]; decide) hf
                replace hf := ite_f (by rw [hq]; decide) hf
                replace hf := ite_f (by rw [hq]; decide) hf
                replace hf := ite_t hq hf
                obtain ⟨v49, w49, e49, hf⟩ := bI_e hf
                refine bM_says_155 (ct := c_JI_bitCount (d := d + 1) w37 v37 e49) (k := ?_)
                obtain ⟨v50, w50, e50, hf⟩ := bI_e hf
                refine bM_says_160 (ct := c_JI_bitCount (d := d + 1) w49 v36 e50) (k := ?_)
                obtain ⟨rfl, rfl⟩ := ret_e hf
                exact bM_says_165 
              · replace hf := ite_f q38_0 hf
                replace hf := ite_f q38_1 hf
                replace hf := ite_f q38_2 hf
                replace hf := ite_f q38_3 hf
                replace hf := ite_f q38_5 hf
                obtain ⟨v52, w52, e52, hf⟩ := bI_e hf
                refine bM_says_167 (ct := c_JI_bitCount (d := d + 1) w37 (v36 &&& (v37 ^^^ (-1))) e52) (k := ?_)
                obtain ⟨rfl, rfl⟩ := ret_e hf
                exact bM_says_177 
            · replace hf := ite_f q35 hf
              refine bM_says_69 (ct := c_M_no (d := d + 1) w33 (-3 : Int32) (vpd (i := (-(-3 : Int32))) (n := 8) (by decide))) (k := ?_)
              obtain ⟨rfl, rfl⟩ := ret_e hf
              exact bM_says_75 
          · replace hf := ite_t q34 hf
            refine bM_says_58 (ct := c_M_no (d := d + 1) w33 (-2 : Int32) (vpd (i := (-(-2 : Int32))) (n := 8) (by decide))) (k := ?_)
            obtain ⟨rfl, rfl⟩ := ret_e hf
            exact bM_says_64 
    · replace hf := ite_t q6 hf
      refine bM_says_20 (ct := c_M_no (d := d + 1) w (-1 : Int32) (vpd (i := (-(-1 : Int32))) (n := 8) (by decide))) (k := ?_)
      obtain ⟨rfl, rfl⟩ := ret_e hf
      exact bM_says_25 
-- M_sense
def f_M_sense (w : MW) (x1 : Int32) (x2 : Int32) : Option RT := if (v_M_isMan w x1) = 0 then (some (some (.int (v_M_no10 w (-1 : Int32))), u_M_no10 w (-1 : Int32))) else (if (v_M_isRounds w x2) = 0 then (some (some (.int (v_M_no10 w (-6 : Int32))), u_M_no10 w (-6 : Int32))) else (bV (f_M_goOn w x2) (fun w5 => grd (vpb x1 8 = true) (bI (f_M_senseOf w5 (w5.1 77 x1.toNatClampNeg)) (fun v6 w6 => some (some (.int v6), w6))))))
set_option maxHeartbeats 4000000 in
theorem c_M_sense {d : Nat} {r : Option Value} {w' : MW} (w : MW) (x1 : Int32) (x2 : Int32) (hf : f_M_sense w x1 x2 = some (r, w')) : Ct (d + 3) mM_sense [.ref 62, .int x1, .int x2] w r w' := by
  refine eM_sense ?_
  unfold f_M_sense at hf
  refine bM_sense_0 (ct := c_M_isMan (d := d + 1) w x1) (k := ?_)
  refine bM_sense_5 (kt := fun q2 => ?_) (kf := fun q2 => ?_)
  · replace hf := ite_f q2 hf
    refine bM_sense_14 (ct := c_M_isRounds (d := d + 1) w x2) (k := ?_)
    refine bM_sense_18 (kt := fun q4 => ?_) (kf := fun q4 => ?_)
    · replace hf := ite_f q4 hf
      obtain ⟨w5, e5, hf⟩ := bV_e hf
      refine bM_sense_28 (ct := c_M_goOn (d := d) w x2 e5) (k := ?_)
      obtain ⟨g6_0, hf⟩ := grd_e hf
      obtain ⟨v6, w6, e6, hf⟩ := bI_e hf
      refine bM_sense_33 (y1 := 77) (h3 := (vpb_ok g6_0)) (ct := c_M_senseOf (d := d + 1) w5 (w5.1 77 x1.toNatClampNeg) e6) (k := ?_)
      obtain ⟨rfl, rfl⟩ := ret_e hf
      exact bM_sense_43 
    · replace hf := ite_t q4 hf
      refine bM_sense_21 (ct := c_M_no10 (d := d + 1) w (-6 : Int32) (vpd (i := (-(-6 : Int32))) (n := 8) (by decide))) (k := ?_)
      obtain ⟨rfl, rfl⟩ := ret_e hf
      exact bM_sense_27 
  · replace hf := ite_t q2 hf
    refine bM_sense_8 (ct := c_M_no10 (d := d + 1) w (-1 : Int32) (vpd (i := (-(-1 : Int32))) (n := 8) (by decide))) (k := ?_)
    obtain ⟨rfl, rfl⟩ := ret_e hf
    exact bM_sense_13 
-- M_together
def f_M_together (w : MW) (x1 : Int32) (x2 : Int32) : Option RT := if (v_M_within w x2 (0 : Int32) (2 : Int32)) = 0 then (some (some (.int (v_M_no10 w (-5 : Int32))), u_M_no10 w (-5 : Int32))) else (bI (f_M_isSet w x1) (fun v3 w3 => if v3 = 0 then (some (some (.int (v_M_no10 w3 (-6 : Int32))), u_M_no10 w3 (-6 : Int32))) else (bI (f_M_heardBy w3 x1) (fun v5 w5 => if x2 = 0 then (bI (f_M_senseOf w5 v5) (fun v17 w17 => some (some (.int v17), w17))) else (if x2 = 1 then (bI (f_JI_bitCount w5 v5) (fun v14 w14 => some (some (.int ((w5.1 62 10) - v14)), w14))) else (bI (f_M_isSure w5 v5) (fun v8 w8 => if v8 = 0 then (some (some (.int (0 : Int32)), w8)) else (some (some (.int (1 : Int32)), w8)))))))))
set_option maxHeartbeats 4000000 in
theorem c_M_together {d : Nat} {r : Option Value} {w' : MW} (w : MW) (x1 : Int32) (x2 : Int32) (hf : f_M_together w x1 x2 = some (r, w')) : Ct (d + 4) mM_together [.ref 62, .int x1, .int x2] w r w' := by
  refine eM_together ?_
  unfold f_M_together at hf
  refine bM_together_0 (ct := c_M_within (d := d + 3) w x2 (0 : Int32) (2 : Int32)) (k := ?_)
  refine bM_together_6 (kt := fun q2 => ?_) (kf := fun q2 => ?_)
  · replace hf := ite_f q2 hf
    obtain ⟨v3, w3, e3, hf⟩ := bI_e hf
    refine bM_together_16 (ct := c_M_isSet (d := d + 3) w x1 e3) (k := ?_)
    refine bM_together_21 (kt := fun q4 => ?_) (kf := fun q4 => ?_)
    · replace hf := ite_f q4 hf
      obtain ⟨v5, w5, e5, hf⟩ := bI_e hf
      refine bM_together_31 (ct := c_M_heardBy (d := d + 1) w3 x1 e5) (k := ?_)
      refine bM_together_36 (kt := fun q6 => ?_) (kf := fun q6 => ?_)
      · replace hf := ite_f q6 hf
        refine bM_together_49 (kt := fun q7 => ?_) (kf := fun q7 => ?_)
        · replace hf := ite_f q7 hf
          obtain ⟨v8, w8, e8, hf⟩ := bI_e hf
          refine bM_together_66 (ct := c_M_isSure (d := d) w5 v5 e8) (k := ?_)
          refine bM_together_71 (kt := fun q9 => ?_) (kf := fun q9 => ?_)
          · replace hf := ite_t q9 hf
            refine bM_together_78 (k := ?_)
            obtain ⟨rfl, rfl⟩ := ret_e hf
            exact bM_together_79 
          · replace hf := ite_f q9 hf
            refine bM_together_74 (k := ?_)
            obtain ⟨rfl, rfl⟩ := ret_e hf
            exact bM_together_79 
        · replace hf := ite_t q7 hf
          obtain ⟨v14, w14, e14, hf⟩ := bI_e hf
          refine bM_together_54 (ct := c_JI_bitCount (d := d + 3) w5 v5 e14) (k := ?_)
          refine bM_together_62 (k := ?_)
          obtain ⟨rfl, rfl⟩ := ret_e hf
          exact bM_together_79 
      · replace hf := ite_t q6 hf
        obtain ⟨v17, w17, e17, hf⟩ := bI_e hf
        refine bM_together_41 (ct := c_M_senseOf (d := d + 2) w5 v5 e17) (k := ?_)
        refine bM_together_46 (k := ?_)
        obtain ⟨rfl, rfl⟩ := ret_e hf
        exact bM_together_79 
    · replace hf := ite_t q4 hf
      refine bM_together_24 (ct := c_M_no10 (d := d + 2) w3 (-6 : Int32) (vpd (i := (-(-6 : Int32))) (n := 8) (by decide))) (k := ?_)
      obtain ⟨rfl, rfl⟩ := ret_e hf
      exact bM_together_30 
  · replace hf := ite_t q2 hf
    refine bM_together_9 (ct := c_M_no10 (d := d + 2) w (-5 : Int32) (vpd (i := (-(-5 : Int32))) (n := 8) (by decide))) (k := ?_)
    obtain ⟨rfl, rfl⟩ := ret_e hf
    exact bM_together_15 
-- M_soon
def f_M_soon (w : MW) (x1 : Int32) : Option RT := if (v_M_isMan w x1) = 0 then (some (some (.int (v_M_no10 w (-1 : Int32))), u_M_no10 w (-1 : Int32))) else (bI (f_M_soonOf w x1) (fun v5 w5 => some (some (.int v5), w5)))
set_option maxHeartbeats 4000000 in
theorem c_M_soon {d : Nat} {r : Option Value} {w' : MW} (w : MW) (x1 : Int32) (hf : f_M_soon w x1 = some (r, w')) : Ct (d + 4) mM_soon [.ref 62, .int x1] w r w' := by
  refine eM_soon ?_
  unfold f_M_soon at hf
  refine bM_soon_0 (ct := c_M_isMan (d := d + 2) w x1) (k := ?_)
  refine bM_soon_5 (kt := fun q2 => ?_) (kf := fun q2 => ?_)
  · replace hf := ite_t q2 hf
    refine bM_soon_16 (ct := c_M_no10 (d := d + 2) w (-1 : Int32) (vpd (i := (-(-1 : Int32))) (n := 8) (by decide))) (k := ?_)
    obtain ⟨rfl, rfl⟩ := ret_e hf
    exact bM_soon_21 
  · replace hf := ite_f q2 hf
    obtain ⟨v5, w5, e5, hf⟩ := bI_e hf
    refine bM_soon_8 (ct := c_M_soonOf (d := d) w x1 e5) (k := ?_)
    refine bM_soon_13 (k := ?_)
    obtain ⟨rfl, rfl⟩ := ret_e hf
    exact bM_soon_21 
-- M_lose
def f_M_lose_20 (k7 : MW → Int32 → Int32 → Int32 → Option RT) : Nat → MW → Int32 → Int32 → Int32 → Int32 → Option RT
  | 0, _, _, _, _, _ => none
  | n + 1, w, x1, x2, x3, x4 => if (w.1 62 3) ≤ x4 then (k7 w x1 x2 (x3 + 1)) else (grd (vpb x3 8 = true) (if (v_M_has w (w.1 71 x3.toNatClampNeg) x4) = 0 then (f_M_lose_20 k7 n w x1 x2 x3 (x4 + 1)) else (grd (vpb x3 8 = true) (grd ((0 : Int32) = 0 → vpb x4 8 = true) (grd (¬ (0 : Int32) = 0 → vpb x4 8 = true) (bI (f_M_haveIt (u_M_meeting w x3 x4 (0 : Int32)) ) (fun v6 w6 => grd (vpb x3 8 = true) (grd ((1 : Int32) = 0 → vpb x4 8 = true) (grd (¬ (1 : Int32) = 0 → vpb x4 8 = true) (if v6 < x2 then (f_M_lose_20 k7 n (u_M_meeting w6 x3 x4 (1 : Int32)) ((100 * x3) + x4) v6 x3 (x4 + 1)) else (f_M_lose_20 k7 n (u_M_meeting w6 x3 x4 (1 : Int32)) x1 x2 x3 (x4 + 1))))))))))))
set_option maxHeartbeats 4000000 in
theorem r_M_lose_20 {d : Nat} {r : Option Value} {w' : MW} (k7 : MW → Int32 → Int32 → Int32 → Option RT) (hk7 : ∀ w x1 x2 x3, k7 w x1 x2 x3 = some (r, w') → Rn (d + 4) mM_lose 7 [some (.ref 62), some (.int x1), some (.int x2), some (.int x3), none, none] [] w r w') : ∀ (n : Nat) (w : MW) (x1 : Int32) (x2 : Int32) (x3 : Int32) (x4 : Int32), f_M_lose_20 k7 n w x1 x2 x3 x4 = some (r, w') → Rn (d + 4) mM_lose 20 [some (.ref 62), some (.int x1), some (.int x2), some (.int x3), some (.int x4), none] [] w r w' := by
  intro n
  induction n with
  | zero =>
    intro w x1 x2 x3 x4 hf
    cases hf
  | succ n ih =>
    intro w x1 x2 x3 x4 hf
    rw [f_M_lose_20] at hf
    refine bM_lose_20 (kt := fun q1 => ?_) (kf := fun q1 => ?_)
    · replace hf := ite_t q1 hf
      refine bM_lose_94 (k := ?_)
      exact hk7 w x1 x2 (x3 + 1) hf
    · replace hf := ite_f q1 hf
      obtain ⟨g3_0, hf⟩ := grd_e hf
      refine bM_lose_29 (y1 := 71) (h3 := (vpb_ok g3_0)) (ct := c_M_has (d := d + 3) w (w.1 71 x3.toNatClampNeg) x4) (k := ?_)
      refine bM_lose_40 (kt := fun q4 => ?_) (kf := fun q4 => ?_)
      · replace hf := ite_f q4 hf
        obtain ⟨g5_0, hf⟩ := grd_e hf
        obtain ⟨g5_1, hf⟩ := grd_e hf
        obtain ⟨g5_2, hf⟩ := grd_e hf
        refine bM_lose_46 (ct := c_M_meeting (d := d + 3) w x3 x4 (0 : Int32) (vpb_ok g5_0) (fun z0 => vpb_ok (g5_1 z0)) (fun z0 => vpb_ok (g5_2 z0))) (k := ?_)
        obtain ⟨v6, w6, e6, hf⟩ := bI_e hf
        refine bM_lose_54 (ct := c_M_haveIt (d := d) (u_M_meeting w x3 x4 (0 : Int32)) e6) (k := ?_)
        obtain ⟨g7_0, hf⟩ := grd_e hf
        obtain ⟨g7_1, hf⟩ := grd_e hf
        obtain ⟨g7_2, hf⟩ := grd_e hf
        refine bM_lose_58 (ct := c_M_meeting (d := d + 3) w6 x3 x4 (1 : Int32) (vpb_ok g7_0) (fun z0 => vpb_ok (g7_1 z0)) (fun z0 => vpb_ok (g7_2 z0))) (k := ?_)
        refine bM_lose_68 (kt := fun q8 => ?_) (kf := fun q8 => ?_)
        · replace hf := ite_t q8 hf
          refine bM_lose_77 (k := ?_)
          refine bM_lose_88 (k := ?_)
          exact ih (u_M_meeting w6 x3 x4 (1 : Int32)) ((100 * x3) + x4) v6 x3 (x4 + 1) hf
        · replace hf := ite_f q8 hf
          refine bM_lose_74 (k := ?_)
          refine bM_lose_88 (k := ?_)
          exact ih (u_M_meeting w6 x3 x4 (1 : Int32)) x1 x2 x3 (x4 + 1) hf
      · replace hf := ite_t q4 hf
        refine bM_lose_43 (k := ?_)
        refine bM_lose_88 (k := ?_)
        exact ih w x1 x2 x3 (x4 + 1) hf
def f_M_lose_7 : Nat → MW → Int32 → Int32 → Int32 → Option RT
  | 0, _, _, _, _ => none
  | n + 1, w, x1, x2, x3 => if (w.1 62 3) ≤ x3 then (some (some (.int x1), w)) else (f_M_lose_20 (fun w x1 x2 x3 => f_M_lose_7 n w x1 x2 x3) FU w x1 x2 x3 (x3 + 1))
set_option maxHeartbeats 4000000 in
theorem r_M_lose_7 {d : Nat} {r : Option Value} {w' : MW} : ∀ (n : Nat) (w : MW) (x1 : Int32) (x2 : Int32) (x3 : Int32), f_M_lose_7 n w x1 x2 x3 = some (r, w') → Rn (d + 4) mM_lose 7 [some (.ref 62), some (.int x1), some (.int x2), some (.int x3), none, none] [] w r w' := by
  intro n
  induction n with
  | zero =>
    intro w x1 x2 x3 hf
    cases hf
  | succ n ih =>
    intro w x1 x2 x3 hf
    rw [f_M_lose_7] at hf
    refine bM_lose_7 (kt := fun q1 => ?_) (kf := fun q1 => ?_)
    · replace hf := ite_t q1 hf
      obtain ⟨rfl, rfl⟩ := ret_e hf
      exact bM_lose_100 
    · replace hf := ite_f q1 hf
      refine bM_lose_15 (k := ?_)
      exact r_M_lose_20 (fun w x1 x2 x3 => f_M_lose_7 n w x1 x2 x3) ih FU w x1 x2 x3 (x3 + 1) hf
def f_M_lose (w : MW) : Option RT := f_M_lose_7 FU w (-1 : Int32) (99 : Int32) (0 : Int32)
set_option maxHeartbeats 4000000 in
theorem c_M_lose {d : Nat} {r : Option Value} {w' : MW} (w : MW) (hf : f_M_lose w = some (r, w')) : Ct (d + 4) mM_lose [.ref 62] w r w' := by
  refine eM_lose ?_
  unfold f_M_lose at hf
  refine bM_lose_0 (k := ?_)
  exact r_M_lose_7 FU w (-1 : Int32) (99 : Int32) (0 : Int32) hf
-- M_swap
def f_M_swap_22 (k9 : MW → Int32 → Int32 → Int32 → Option RT) : Nat → MW → Int32 → Int32 → Int32 → Int32 → Option RT
  | 0, _, _, _, _, _ => none
  | n + 1, w, x1, x2, x3, x4 => if (w.1 62 10) ≤ x4 then (k9 w x1 x2 (x3 + 1)) else (grd (vpb x3 30 = true) (grd (vpb x4 30 = true) (bI (f_M_senses (u_M_change w x3 x4) ) (fun v4 w4 => grd (vpb x3 30 = true) (grd (vpb x4 30 = true) (if x1 < v4 then (f_M_swap_22 k9 n (u_M_change w4 x3 x4) v4 ((100 * x3) + x4) x3 (x4 + 1)) else (f_M_swap_22 k9 n (u_M_change w4 x3 x4) x1 x2 x3 (x4 + 1))))))))
set_option maxHeartbeats 4000000 in
theorem r_M_swap_22 {d : Nat} {r : Option Value} {w' : MW} (k9 : MW → Int32 → Int32 → Int32 → Option RT) (hk9 : ∀ w x1 x2 x3, k9 w x1 x2 x3 = some (r, w') → Rn (d + 3) mM_swap 9 [some (.ref 62), some (.int x1), some (.int x2), some (.int x3), none, none] [] w r w') : ∀ (n : Nat) (w : MW) (x1 : Int32) (x2 : Int32) (x3 : Int32) (x4 : Int32), f_M_swap_22 k9 n w x1 x2 x3 x4 = some (r, w') → Rn (d + 3) mM_swap 22 [some (.ref 62), some (.int x1), some (.int x2), some (.int x3), some (.int x4), none] [] w r w' := by
  intro n
  induction n with
  | zero =>
    intro w x1 x2 x3 x4 hf
    cases hf
  | succ n ih =>
    intro w x1 x2 x3 x4 hf
    rw [f_M_swap_22] at hf
    refine bM_swap_22 (kt := fun q1 => ?_) (kf := fun q1 => ?_)
    · replace hf := ite_t q1 hf
      refine bM_swap_77 (k := ?_)
      exact hk9 w x1 x2 (x3 + 1) hf
    · replace hf := ite_f q1 hf
      obtain ⟨g3_0, hf⟩ := grd_e hf
      obtain ⟨g3_1, hf⟩ := grd_e hf
      refine bM_swap_31 (ct := c_M_change (d := d + 2) w x3 x4 (vpb_ok g3_0) (vpb_ok g3_1)) (k := ?_)
      obtain ⟨v4, w4, e4, hf⟩ := bI_e hf
      refine bM_swap_38 (ct := c_M_senses (d := d) (u_M_change w x3 x4) e4) (k := ?_)
      obtain ⟨g5_0, hf⟩ := grd_e hf
      obtain ⟨g5_1, hf⟩ := grd_e hf
      refine bM_swap_42 (ct := c_M_change (d := d + 2) w4 x3 x4 (vpb_ok g5_0) (vpb_ok g5_1)) (k := ?_)
      refine bM_swap_51 (kt := fun q6 => ?_) (kf := fun q6 => ?_)
      · replace hf := ite_t q6 hf
        refine bM_swap_60 (k := ?_)
        refine bM_swap_71 (k := ?_)
        exact ih (u_M_change w4 x3 x4) v4 ((100 * x3) + x4) x3 (x4 + 1) hf
      · replace hf := ite_f q6 hf
        refine bM_swap_57 (k := ?_)
        refine bM_swap_71 (k := ?_)
        exact ih (u_M_change w4 x3 x4) x1 x2 x3 (x4 + 1) hf
def f_M_swap_9 : Nat → MW → Int32 → Int32 → Int32 → Option RT
  | 0, _, _, _, _ => none
  | n + 1, w, x1, x2, x3 => if (w.1 62 10) ≤ x3 then (some (some (.int x2), w)) else (f_M_swap_22 (fun w x1 x2 x3 => f_M_swap_9 n w x1 x2 x3) FU w x1 x2 x3 (x3 + 1))
set_option maxHeartbeats 4000000 in
theorem r_M_swap_9 {d : Nat} {r : Option Value} {w' : MW} : ∀ (n : Nat) (w : MW) (x1 : Int32) (x2 : Int32) (x3 : Int32), f_M_swap_9 n w x1 x2 x3 = some (r, w') → Rn (d + 3) mM_swap 9 [some (.ref 62), some (.int x1), some (.int x2), some (.int x3), none, none] [] w r w' := by
  intro n
  induction n with
  | zero =>
    intro w x1 x2 x3 hf
    cases hf
  | succ n ih =>
    intro w x1 x2 x3 hf
    rw [f_M_swap_9] at hf
    refine bM_swap_9 (kt := fun q1 => ?_) (kf := fun q1 => ?_)
    · replace hf := ite_t q1 hf
      obtain ⟨rfl, rfl⟩ := ret_e hf
      exact bM_swap_83 
    · replace hf := ite_f q1 hf
      refine bM_swap_17 (k := ?_)
      exact r_M_swap_22 (fun w x1 x2 x3 => f_M_swap_9 n w x1 x2 x3) ih FU w x1 x2 x3 (x3 + 1) hf
def f_M_swap (w : MW) : Option RT := bI (f_M_senses w ) (fun v1 w1 => f_M_swap_9 FU w1 v1 (-1 : Int32) (0 : Int32))
set_option maxHeartbeats 4000000 in
theorem c_M_swap {d : Nat} {r : Option Value} {w' : MW} (w : MW) (hf : f_M_swap w = some (r, w')) : Ct (d + 3) mM_swap [.ref 62] w r w' := by
  refine eM_swap ?_
  unfold f_M_swap at hf
  obtain ⟨v1, w1, e1, hf⟩ := bI_e hf
  refine bM_swap_0 (ct := c_M_senses (d := d) w e1) (k := ?_)
  refine bM_swap_4 (k := ?_)
  exact r_M_swap_9 FU w1 v1 (-1 : Int32) (0 : Int32) hf
-- M_audience
def f_M_audience (w : MW) (x1 : Int32) : Option RT := if (v_M_isRounds w x1) = 0 then (some (some (.int (v_M_no w (-6 : Int32))), u_M_no w (-6 : Int32))) else (bI (f_M_heard w x1) (fun v5 w5 => some (some (.int v5), w5)))
set_option maxHeartbeats 4000000 in
theorem c_M_audience {d : Nat} {r : Option Value} {w' : MW} (w : MW) (x1 : Int32) (hf : f_M_audience w x1 = some (r, w')) : Ct (d + 4) mM_audience [.ref 62, .int x1] w r w' := by
  refine eM_audience ?_
  unfold f_M_audience at hf
  refine bM_audience_0 (ct := c_M_isRounds (d := d + 2) w x1) (k := ?_)
  refine bM_audience_4 (kt := fun q2 => ?_) (kf := fun q2 => ?_)
  · replace hf := ite_t q2 hf
    refine bM_audience_15 (ct := c_M_no (d := d + 3) w (-6 : Int32) (vpd (i := (-(-6 : Int32))) (n := 8) (by decide))) (k := ?_)
    obtain ⟨rfl, rfl⟩ := ret_e hf
    exact bM_audience_21 
  · replace hf := ite_f q2 hf
    obtain ⟨v5, w5, e5, hf⟩ := bI_e hf
    refine bM_audience_7 (ct := c_M_heard (d := d) w x1 e5) (k := ?_)
    refine bM_audience_12 (k := ?_)
    obtain ⟨rfl, rfl⟩ := ret_e hf
    exact bM_audience_21 
-- Mn_saysAs
def f_Mn_saysAs (w : MW) (a0 : Nat) (x1 : Int32) (x2 : Int32) : Option RT := bI (f_Mn_placesOf w a0 x2) (fun v1 w1 => bI (f_X_thirds w1 (w1.1 a0 2) (0 : Int32) x2) (fun v2 w2 => if x1 = 1 then (bI (f_JI_bitCount w2 v1) (fun v4 w4 => bI (f_JI_bitCount w4 v2) (fun v5 w5 => some (some (.int (v4 - v5)), w5)))) else if x1 = 2 then (bI (f_JI_bitCount w2 v2) (fun v7 w7 => bI (f_JI_bitCount w7 v1) (fun v8 w8 => some (some (.int (v7 - v8)), w8)))) else if x1 = 3 then (bI (f_JI_bitCount w2 v1) (fun v10 w10 => bI (f_JI_bitCount w10 v2) (fun v11 w11 => some (some (.int (v10 - v11)), w11)))) else if x1 = 4 then (bI (f_JI_bitCount w2 (v1 &&& (v2 ^^^ (-1)))) (fun v13 w13 => some (some (.int v13), w13))) else if x1 = 5 then (bI (f_JI_bitCount w2 v2) (fun v15 w15 => bI (f_JI_bitCount w15 v1) (fun v16 w16 => some (some (.int (v15 - v16)), w16)))) else if x1 = 6 then (bI (f_JI_bitCount w2 (v1 &&& (v2 ^^^ (-1)))) (fun v18 w18 => some (some (.int v18), w18))) else (some (some (.int (w2.1 a0 2)), w2))))
set_option maxHeartbeats 4000000 in
theorem c_Mn_saysAs {d : Nat} {r : Option Value} {w' : MW} (w : MW) (a0 : Nat) (x1 : Int32) (x2 : Int32) (c0 : isMn a0) (hf : f_Mn_saysAs w a0 x1 x2 = some (r, w')) : Ct (d + 3) mMn_saysAs [.ref a0, .int x1, .int x2] w r w' := by
  refine eMn_saysAs ?_
  unfold f_Mn_saysAs at hf
  obtain ⟨v1, w1, e1, hf⟩ := bI_e hf
  refine bMn_saysAs_0 (h1 := mn_k c0) (ct := c_Mn_placesOf (d := d) w a0 x2 c0 e1) (k := ?_)
  obtain ⟨v2, w2, e2, hf⟩ := bI_e hf
  refine bMn_saysAs_5 (h1 := mn_g c0 2 (by decide)) (ct := c_X_thirds (d := d + 2) w1 (w1.1 a0 2) (0 : Int32) x2 e2) (k := ?_)
  refine bMn_saysAs_15 (k1 := fun q3_1 => ?_) (k2 := fun q3_2 => ?_) (k3 := fun q3_3 => ?_) (k4 := fun q3_4 => ?_) (k5 := fun q3_5 => ?_) (k6 := fun q3_6 => ?_) (kd := fun q3_1 q3_2 q3_3 q3_4 q3_5 q3_6 => ?_)
  · have hq := q3_1
    replace hf := ite_t hq hf
    obtain ⟨v4, w4, e4, hf⟩ := bI_e hf
    refine bMn_saysAs_56 (ct := c_JI_bitCount (d := d + 2) w2 v1 e4) (k := ?_)
    obtain ⟨v5, w5, e5, hf⟩ := bI_e hf
    refine bMn_saysAs_60 (ct := c_JI_bitCount (d := d + 2) w4 v2 e5) (k := ?_)
    obtain ⟨rfl, rfl⟩ := ret_e hf
    exact bMn_saysAs_65 
  · have hq := q3_2
    replace hf := ite_f (by rw [hq]; decide) hf
    replace hf := ite_t hq hf
    obtain ⟨v7, w7, e7, hf⟩ := bI_e hf
    refine bMn_saysAs_67 (ct := c_JI_bitCount (d := d + 2) w2 v2 e7) (k := ?_)
    obtain ⟨v8, w8, e8, hf⟩ := bI_e hf
    refine bMn_saysAs_72 (ct := c_JI_bitCount (d := d + 2) w7 v1 e8) (k := ?_)
    obtain ⟨rfl, rfl⟩ := ret_e hf
    exact bMn_saysAs_76 
  · have hq := q3_3
    replace hf := ite_f (by rw [hq]; decide) hf
    replace hf := ite_f (by rw [hq]; decide) hf
    replace hf := ite_t hq hf
    obtain ⟨v10, w10, e10, hf⟩ := bI_e hf
    refine bMn_saysAs_56 (ct := c_JI_bitCount (d := d + 2) w2 v1 e10) (k := ?_)
    obtain ⟨v11, w11, e11, hf⟩ := bI_e hf
    refine bMn_saysAs_60 (ct := c_JI_bitCount (d := d + 2) w10 v2 e11) (k := ?_)
    obtain ⟨rfl, rfl⟩ := ret_e hf
    exact bMn_saysAs_65 
  · have hq := q3_4
    replace hf := ite_f (by rw [hq]; decide) hf
    replace hf := ite_f (by rw [hq]; decide) hf
    replace hf := ite_f (by rw [hq]; decide) hf
    replace hf := ite_t hq hf
    obtain ⟨v13, w13, e13, hf⟩ := bI_e hf
    refine bMn_saysAs_78 (ct := c_JI_bitCount (d := d + 2) w2 (v1 &&& (v2 ^^^ (-1))) e13) (k := ?_)
    obtain ⟨rfl, rfl⟩ := ret_e hf
    exact bMn_saysAs_87 
  · have hq := q3_5
    replace hf := ite_f (by rw [hq]; decide) hf
    replace hf := ite_f (by rw [hq]; decide) hf
    replace hf := ite_f (by rw [hq]; decide) hf
    replace hf := ite_f (by rw [hq]; decide) hf
    replace hf := ite_t hq hf
    obtain ⟨v15, w15, e15, hf⟩ := bI_e hf
    refine bMn_saysAs_67 (ct := c_JI_bitCount (d := d + 2) w2 v2 e15) (k := ?_)
    obtain ⟨v16, w16, e16, hf⟩ := bI_e hf
    refine bMn_saysAs_72 (ct := c_JI_bitCount (d := d + 2) w15 v1 e16) (k := ?_)
    obtain ⟨rfl, rfl⟩ := ret_e hf
    exact bMn_saysAs_76 
  · have hq := q3_6
    replace hf := ite_f (by rw [hq]; decide) hf
    replace hf := ite_f (by rw [hq]; decide) hf
    replace hf := ite_f (by rw [hq]; decide) hf
    replace hf := ite_f (by rw [hq]; decide) hf
    replace hf := ite_f (by rw [hq]; decide) hf
    replace hf := ite_t hq hf
    obtain ⟨v18, w18, e18, hf⟩ := bI_e hf
    refine bMn_saysAs_78 (ct := c_JI_bitCount (d := d + 2) w2 (v1 &&& (v2 ^^^ (-1))) e18) (k := ?_)
    obtain ⟨rfl, rfl⟩ := ret_e hf
    exact bMn_saysAs_87 
  · replace hf := ite_f q3_1 hf
    replace hf := ite_f q3_2 hf
    replace hf := ite_f q3_3 hf
    replace hf := ite_f q3_4 hf
    replace hf := ite_f q3_5 hf
    replace hf := ite_f q3_6 hf
    obtain ⟨rfl, rfl⟩ := ret_e hf
    exact bMn_saysAs_88 (h1 := mn_g c0 2 (by decide))
-- X_manOf
def f_X_manOf (w : MW) (x1 : Int32) (x2 : Int32) : Option RT := if (v_Ct_isMan w 1 x1) = 0 then (some (some (.int (v_X_refuse w (-5 : Int32))), u_X_refuse w (-5 : Int32))) else (grd (vpb x1 8 = true) (if x2 = 0 then (some (some (.int (w.1 (1 + 2 + x1.toNatClampNeg) 0)), w)) else if x2 = 1 then (some (some (.int (w.1 (1 + 2 + x1.toNatClampNeg) 1)), w)) else if x2 = 2 then (some (some (.int (w.1 (1 + 2 + x1.toNatClampNeg) 2)), w)) else if x2 = 3 then (bI (f_Ct_his w 1 x1) (fun v7 w7 => bI (f_JI_bitCount w7 v7) (fun v8 w8 => some (some (.int v8), w8)))) else if x2 = 4 then (some (some (.int (w.1 (1 + 2 + x1.toNatClampNeg) 5)), w)) else if x2 = 5 then (some (some (.int (w.1 (1 + 2 + x1.toNatClampNeg) 4)), w)) else (some (some (.int (v_X_refuse w (-5 : Int32))), u_X_refuse w (-5 : Int32)))))
set_option maxHeartbeats 4000000 in
theorem c_X_manOf {d : Nat} {r : Option Value} {w' : MW} (w : MW) (x1 : Int32) (x2 : Int32) (hf : f_X_manOf w x1 x2 = some (r, w')) : Ct (d + 4) mX_manOf [.ref 0, .int x1, .int x2] w r w' := by
  refine eX_manOf ?_
  unfold f_X_manOf at hf
  refine bX_manOf_0 (y1 := 1) (ct := c_Ct_isMan (d := d + 3) w 1 x1 ct1) (k := ?_)
  refine bX_manOf_8 (kt := fun q2 => ?_) (kf := fun q2 => ?_)
  · replace hf := ite_f q2 hf
    obtain ⟨g3_0, hf⟩ := grd_e hf
    refine bX_manOf_18 (y1 := 1) (y2 := 2) (y3 := 1 + 2 + x1.toNatClampNeg) (h3 := ct_k12 ct1) (h4 := ct_l8 ct1 (vpb_ok g3_0)) (h5 := ct_mn ct1 (vpb_ok g3_0)) (k0 := fun q3_0 => ?_) (k1 := fun q3_1 => ?_) (k2 := fun q3_2 => ?_) (k3 := fun q3_3 => ?_) (k4 := fun q3_4 => ?_) (k5 := fun q3_5 => ?_) (kd := fun q3_0 q3_1 q3_2 q3_3 q3_4 q3_5 => ?_)
    · have hq := q3_0
      replace hf := ite_t hq hf
      obtain ⟨rfl, rfl⟩ := ret_e hf
      exact bX_manOf_68 (h1 := mn_g (mn_of ct1 (vpb_ok g3_0)) 0 (by decide))
    · have hq := q3_1
      replace hf := ite_f (by rw [hq]; decide) hf
      replace hf := ite_t hq hf
      obtain ⟨rfl, rfl⟩ := ret_e hf
      exact bX_manOf_73 (h1 := mn_g (mn_of ct1 (vpb_ok g3_0)) 1 (by decide))
    · have hq := q3_2
      replace hf := ite_f (by rw [hq]; decide) hf
      replace hf := ite_f (by rw [hq]; decide) hf
      replace hf := ite_t hq hf
      obtain ⟨rfl, rfl⟩ := ret_e hf
      exact bX_manOf_78 (h1 := mn_g (mn_of ct1 (vpb_ok g3_0)) 2 (by decide))
    · have hq := q3_3
      replace hf := ite_f (by rw [hq]; decide) hf
      replace hf := ite_f (by rw [hq]; decide) hf
      replace hf := ite_f (by rw [hq]; decide) hf
      replace hf := ite_t hq hf
      obtain ⟨v7, w7, e7, hf⟩ := bI_e hf
      refine bX_manOf_83 (y1 := 1) (ct := c_Ct_his (d := d) w 1 x1 ct1 e7) (k := ?_)
      obtain ⟨v8, w8, e8, hf⟩ := bI_e hf
      refine bX_manOf_91 (ct := c_JI_bitCount (d := d + 3) w7 v7 e8) (k := ?_)
      obtain ⟨rfl, rfl⟩ := ret_e hf
      exact bX_manOf_94 
    · have hq := q3_4
      replace hf := ite_f (by rw [hq]; decide) hf
      replace hf := ite_f (by rw [hq]; decide) hf
      replace hf := ite_f (by rw [hq]; decide) hf
      replace hf := ite_f (by rw [hq]; decide) hf
      replace hf := ite_t hq hf
      obtain ⟨rfl, rfl⟩ := ret_e hf
      exact bX_manOf_95 (h1 := mn_g (mn_of ct1 (vpb_ok g3_0)) 5 (by decide))
    · have hq := q3_5
      replace hf := ite_f (by rw [hq]; decide) hf
      replace hf := ite_f (by rw [hq]; decide) hf
      replace hf := ite_f (by rw [hq]; decide) hf
      replace hf := ite_f (by rw [hq]; decide) hf
      replace hf := ite_f (by rw [hq]; decide) hf
      replace hf := ite_t hq hf
      obtain ⟨rfl, rfl⟩ := ret_e hf
      exact bX_manOf_100 (h1 := mn_g (mn_of ct1 (vpb_ok g3_0)) 4 (by decide))
    · replace hf := ite_f q3_0 hf
      replace hf := ite_f q3_1 hf
      replace hf := ite_f q3_2 hf
      replace hf := ite_f q3_3 hf
      replace hf := ite_f q3_4 hf
      replace hf := ite_f q3_5 hf
      refine bX_manOf_105 (ct := c_X_refuse (d := d + 3) w (-5 : Int32)) (k := ?_)
      obtain ⟨rfl, rfl⟩ := ret_e hf
      exact bX_manOf_111 
  · replace hf := ite_t q2 hf
    refine bX_manOf_11 (ct := c_X_refuse (d := d + 3) w (-5 : Int32)) (k := ?_)
    obtain ⟨rfl, rfl⟩ := ret_e hf
    exact bX_manOf_17 
-- X_knownBehind
def f_X_knownBehind (w : MW) (x1 : Int32) (x2 : Int32) : Option RT := bV (f_Co_begin w 1) (fun w1 => bV (f_Co_ride w1 x2) (fun w2 => grd (vpb x1 8 = true) (some (some (.int (w2.1 54 x1.toNatClampNeg)), w2))))
set_option maxHeartbeats 4000000 in
theorem c_X_knownBehind {d : Nat} {r : Option Value} {w' : MW} (w : MW) (x1 : Int32) (x2 : Int32) (hf : f_X_knownBehind w x1 x2 = some (r, w')) : Ct (d + 5) mX_knownBehind [.ref 0, .int x1, .int x2] w r w' := by
  refine eX_knownBehind ?_
  unfold f_X_knownBehind at hf
  obtain ⟨w1, e1, hf⟩ := bV_e hf
  refine bX_knownBehind_0 (y1 := 53) (y2 := 1) (ct := c_Co_begin (d := d) w 1 ct1 e1) (k := ?_)
  obtain ⟨w2, e2, hf⟩ := bV_e hf
  refine bX_knownBehind_11 (y1 := 53) (ct := c_Co_ride (d := d + 3) w1 x2 e2) (k := ?_)
  obtain ⟨g3_0, hf⟩ := grd_e hf
  obtain ⟨rfl, rfl⟩ := ret_e hf
  exact bX_knownBehind_19 (y1 := 53) (y2 := 54) (h4 := (vpb_ok g3_0))
-- X_known
def f_X_known (w : MW) (x1 : Int32) (x2 : Int32) : Option RT := if (v_Ct_isMan w 1 x1) = 0 then (some (some (.int (v_X_refuse w (-1 : Int32))), u_X_refuse w (-1 : Int32))) else (if (v_X_isRounds w x2) = 0 then (some (some (.int (v_X_refuse w (-6 : Int32))), u_X_refuse w (-6 : Int32))) else (bI (f_X_knownBehind w x1 x2) (fun v5 w5 => bI (f_JI_bitCount w5 v5) (fun v6 w6 => some (some (.int v6), w6)))))
set_option maxHeartbeats 4000000 in
theorem c_X_known {d : Nat} {r : Option Value} {w' : MW} (w : MW) (x1 : Int32) (x2 : Int32) (hf : f_X_known w x1 x2 = some (r, w')) : Ct (d + 6) mX_known [.ref 0, .int x1, .int x2] w r w' := by
  refine eX_known ?_
  unfold f_X_known at hf
  refine bX_known_0 (y1 := 1) (ct := c_Ct_isMan (d := d + 5) w 1 x1 ct1) (k := ?_)
  refine bX_known_8 (kt := fun q2 => ?_) (kf := fun q2 => ?_)
  · replace hf := ite_f q2 hf
    refine bX_known_17 (ct := c_X_isRounds (d := d + 5) w x2) (k := ?_)
    refine bX_known_21 (kt := fun q4 => ?_) (kf := fun q4 => ?_)
    · replace hf := ite_f q4 hf
      obtain ⟨v5, w5, e5, hf⟩ := bI_e hf
      refine bX_known_31 (ct := c_X_knownBehind (d := d) w x1 x2 e5) (k := ?_)
      obtain ⟨v6, w6, e6, hf⟩ := bI_e hf
      refine bX_known_37 (ct := c_JI_bitCount (d := d + 5) w5 v5 e6) (k := ?_)
      obtain ⟨rfl, rfl⟩ := ret_e hf
      exact bX_known_40 
    · replace hf := ite_t q4 hf
      refine bX_known_24 (ct := c_X_refuse (d := d + 5) w (-6 : Int32)) (k := ?_)
      obtain ⟨rfl, rfl⟩ := ret_e hf
      exact bX_known_30 
  · replace hf := ite_t q2 hf
    refine bX_known_11 (ct := c_X_refuse (d := d + 5) w (-1 : Int32)) (k := ?_)
    obtain ⟨rfl, rfl⟩ := ret_e hf
    exact bX_known_16 
-- Cl_placesHeardBy
def f_Cl_placesHeardBy (w : MW) (a1 : Nat) (x2 : Int32) : Option RT := bV (f_Cl_listen w a1) (fun w1 => bI (f_Cl_heardByAny w1 x2) (fun v2 w2 => some (some (.int v2), w2)))
set_option maxHeartbeats 4000000 in
theorem c_Cl_placesHeardBy {d : Nat} {r : Option Value} {w' : MW} (w : MW) (a1 : Nat) (x2 : Int32) (c1 : isCt a1) (hf : f_Cl_placesHeardBy w a1 x2 = some (r, w')) : Ct (d + 5) mCl_placesHeardBy [.ref 57, .ref a1, .int x2] w r w' := by
  refine eCl_placesHeardBy ?_
  unfold f_Cl_placesHeardBy at hf
  obtain ⟨w1, e1, hf⟩ := bV_e hf
  refine bCl_placesHeardBy_0 (ct := c_Cl_listen (d := d) w a1 c1 e1) (k := ?_)
  obtain ⟨v2, w2, e2, hf⟩ := bI_e hf
  refine bCl_placesHeardBy_5 (ct := c_Cl_heardByAny (d := d + 4) w1 x2 e2) (k := ?_)
  obtain ⟨rfl, rfl⟩ := ret_e hf
  exact bCl_placesHeardBy_10 
-- X_cover
def f_X_cover (w : MW) : Option RT := bI (f_Cl_fewestWhoCover w 1) (fun v1 w1 => some (some (.int v1), w1))
set_option maxHeartbeats 4000000 in
theorem c_X_cover {d : Nat} {r : Option Value} {w' : MW} (w : MW) (hf : f_X_cover w = some (r, w')) : Ct (d + 6) mX_cover [.ref 0] w r w' := by
  refine eX_cover ?_
  unfold f_X_cover at hf
  obtain ⟨v1, w1, e1, hf⟩ := bI_e hf
  refine bX_cover_0 (y1 := 57) (y2 := 1) (ct := c_Cl_fewestWhoCover (d := d) w 1 ct1 e1) (k := ?_)
  obtain ⟨rfl, rfl⟩ := ret_e hf
  exact bX_cover_11 
-- Cl_nextToAsk
def f_Cl_nextToAsk_16 (a1 : Nat) : Nat → MW → Int32 → Int32 → Int32 → Int32 → Int32 → Option RT
  | 0, _, _, _, _, _, _ => none
  | n + 1, w, x2, x3, x4, x5, x6 => if (w.1 a1 1) ≤ x6 then (some (some (.int x4), w)) else (if ((ush x2 x6) &&& 1) = 1 then (f_Cl_nextToAsk_16 a1 n w x2 x3 x4 x5 (x6 + 1)) else (grd (vpb x6 8 = true) (bI (f_JI_bitCount w ((w.1 59 x6.toNatClampNeg) &&& (x3 ^^^ (-1)))) (fun v4 w4 => if v4 ≤ x5 then (f_Cl_nextToAsk_16 a1 n w4 x2 x3 x4 x5 (x6 + 1)) else (f_Cl_nextToAsk_16 a1 n w4 x2 x3 x6 v4 (x6 + 1))))))
set_option maxHeartbeats 4000000 in
theorem r_Cl_nextToAsk_16 {d : Nat} {r : Option Value} {w' : MW} (a1 : Nat) (c1 : isCt a1) : ∀ (n : Nat) (w : MW) (x2 : Int32) (x3 : Int32) (x4 : Int32) (x5 : Int32) (x6 : Int32), f_Cl_nextToAsk_16 a1 n w x2 x3 x4 x5 x6 = some (r, w') → Rn (d + 6) mCl_nextToAsk 16 [some (.ref 57), some (.ref a1), some (.int x2), some (.int x3), some (.int x4), some (.int x5), some (.int x6), none] [] w r w' := by
  intro n
  induction n with
  | zero =>
    intro w x2 x3 x4 x5 x6 hf
    cases hf
  | succ n ih =>
    intro w x2 x3 x4 x5 x6 hf
    rw [f_Cl_nextToAsk_16] at hf
    refine bCl_nextToAsk_16 (h1 := ct_g1 c1) (kt := fun q1 => ?_) (kf := fun q1 => ?_)
    · replace hf := ite_t q1 hf
      obtain ⟨rfl, rfl⟩ := ret_e hf
      exact bCl_nextToAsk_75 
    · replace hf := ite_f q1 hf
      refine bCl_nextToAsk_25 (kt := fun q3 => ?_) (kf := fun q3 => ?_)
      · replace hf := ite_f q3 hf
        obtain ⟨g4_0, hf⟩ := grd_e hf
        obtain ⟨v4, w4, e4, hf⟩ := bI_e hf
        refine bCl_nextToAsk_38 (y1 := 59) (h3 := (vpb_ok g4_0)) (ct := c_JI_bitCount (d := d + 5) w ((w.1 59 x6.toNatClampNeg) &&& (x3 ^^^ (-1))) e4) (k := ?_)
        refine bCl_nextToAsk_52 (kt := fun q5 => ?_) (kf := fun q5 => ?_)
        · replace hf := ite_t q5 hf
          refine bCl_nextToAsk_69 (k := ?_)
          exact ih w4 x2 x3 x4 x5 (x6 + 1) hf
        · replace hf := ite_f q5 hf
          refine bCl_nextToAsk_61 (k := ?_)
          refine bCl_nextToAsk_69 (k := ?_)
          exact ih w4 x2 x3 x6 v4 (x6 + 1) hf
      · replace hf := ite_t q3 hf
        refine bCl_nextToAsk_35 (k := ?_)
        refine bCl_nextToAsk_69 (k := ?_)
        exact ih w x2 x3 x4 x5 (x6 + 1) hf
def f_Cl_nextToAsk (w : MW) (a1 : Nat) (x2 : Int32) : Option RT := bI (f_Cl_placesHeardBy w a1 x2) (fun v1 w1 => f_Cl_nextToAsk_16 a1 FU w1 x2 v1 (-1 : Int32) (0 : Int32) (0 : Int32))
set_option maxHeartbeats 4000000 in
theorem c_Cl_nextToAsk {d : Nat} {r : Option Value} {w' : MW} (w : MW) (a1 : Nat) (x2 : Int32) (c1 : isCt a1) (hf : f_Cl_nextToAsk w a1 x2 = some (r, w')) : Ct (d + 6) mCl_nextToAsk [.ref 57, .ref a1, .int x2] w r w' := by
  refine eCl_nextToAsk ?_
  unfold f_Cl_nextToAsk at hf
  obtain ⟨v1, w1, e1, hf⟩ := bI_e hf
  refine bCl_nextToAsk_0 (ct := c_Cl_placesHeardBy (d := d) w a1 x2 c1 e1) (k := ?_)
  refine bCl_nextToAsk_6 (k := ?_)
  exact r_Cl_nextToAsk_16 a1 c1 FU w1 x2 v1 (-1 : Int32) (0 : Int32) (0 : Int32) hf
-- X_apart
def f_X_apart (w : MW) (x1 : Int32) : Option RT := if (v_Ct_isMan w 1 x1) = 0 then (some (some (.int (v_X_refuseFar w (-1 : Int32))), u_X_refuseFar w (-1 : Int32))) else (bI (f_Co_fewestApart w 1 x1) (fun v3 w3 => some (some (.int v3), w3)))
set_option maxHeartbeats 4000000 in
theorem c_X_apart {d : Nat} {r : Option Value} {w' : MW} (w : MW) (x1 : Int32) (hf : f_X_apart w x1 = some (r, w')) : Ct (d + 6) mX_apart [.ref 0, .int x1] w r w' := by
  refine eX_apart ?_
  unfold f_X_apart at hf
  refine bX_apart_0 (y1 := 1) (ct := c_Ct_isMan (d := d + 5) w 1 x1 ct1) (k := ?_)
  refine bX_apart_8 (kt := fun q2 => ?_) (kf := fun q2 => ?_)
  · replace hf := ite_f q2 hf
    obtain ⟨v3, w3, e3, hf⟩ := bI_e hf
    refine bX_apart_17 (y1 := 53) (y2 := 1) (ct := c_Co_fewestApart (d := d) w 1 x1 ct1 e3) (k := ?_)
    obtain ⟨rfl, rfl⟩ := ret_e hf
    exact bX_apart_29 
  · replace hf := ite_t q2 hf
    refine bX_apart_11 (ct := c_X_refuseFar (d := d + 4) w (-1 : Int32)) (k := ?_)
    obtain ⟨rfl, rfl⟩ := ret_e hf
    exact bX_apart_16 
-- X_lose
def f_X_lose (w : MW) : Option RT := bI (f_Co_worstLoss w 1) (fun v1 w1 => some (some (.int v1), w1))
set_option maxHeartbeats 4000000 in
theorem c_X_lose {d : Nat} {r : Option Value} {w' : MW} (w : MW) (hf : f_X_lose w = some (r, w')) : Ct (d + 6) mX_lose [.ref 0] w r w' := by
  refine eX_lose ?_
  unfold f_X_lose at hf
  obtain ⟨v1, w1, e1, hf⟩ := bI_e hf
  refine bX_lose_0 (y1 := 53) (y2 := 1) (ct := c_Co_worstLoss (d := d) w 1 ct1 e1) (k := ?_)
  obtain ⟨rfl, rfl⟩ := ret_e hf
  exact bX_lose_11 
-- X_count
def f_X_count (w : MW) (x1 : Int32) (x2 : Int32) : Option RT := if (v_X_rowRefusal w x1) = 0 then (if x2 = 0 then (grd (vpb x1 8 = true) (bI (f_Cl_slips w 1 (35 + 2 * x1.toNatClampNeg)) (fun v9 w9 => some (some (.int v9), w9)))) else (if x2 = 1 then (grd (vpb x1 8 = true) (bI (f_Cl_firstSlip w 1 (35 + 2 * x1.toNatClampNeg)) (fun v7 w7 => some (some (.int v7), w7)))) else (some (some (.int (v_X_refuseFar w (-5 : Int32))), u_X_refuseFar w (-5 : Int32))))) else (some (some (.int (v_X_refuseFar w (v_X_rowRefusal w x1))), u_X_refuseFar w (v_X_rowRefusal w x1)))
set_option maxHeartbeats 4000000 in
theorem c_X_count {d : Nat} {r : Option Value} {w' : MW} (w : MW) (x1 : Int32) (x2 : Int32) (hf : f_X_count w x1 x2 = some (r, w')) : Ct (d + 4) mX_count [.ref 0, .int x1, .int x2] w r w' := by
  refine eX_count ?_
  unfold f_X_count at hf
  refine bX_count_0 (ct := c_X_rowRefusal (d := d + 2) w x1) (k := ?_)
  refine bX_count_5 (kt := fun q2 => ?_) (kf := fun q2 => ?_)
  · replace hf := ite_t q2 hf
    refine bX_count_16 (kt := fun q3 => ?_) (kf := fun q3 => ?_)
    · replace hf := ite_f q3 hf
      refine bX_count_38 (kt := fun q4 => ?_) (kf := fun q4 => ?_)
      · replace hf := ite_f q4 hf
        refine bX_count_61 (ct := c_X_refuseFar (d := d + 2) w (-5 : Int32)) (k := ?_)
        obtain ⟨rfl, rfl⟩ := ret_e hf
        exact bX_count_67 
      · replace hf := ite_t q4 hf
        obtain ⟨g7_0, hf⟩ := grd_e hf
        obtain ⟨v7, w7, e7, hf⟩ := bI_e hf
        refine bX_count_43 (y1 := 57) (y2 := 1) (y3 := 34) (y4 := 35 + 2 * x1.toNatClampNeg) (h5 := (vpb_ok g7_0)) (h6 := shr_sh (vpb_ok g7_0)) (ct := c_Cl_firstSlip (d := d) w 1 (35 + 2 * x1.toNatClampNeg) ct1 (sh_of (vpb_ok g7_0)) e7) (k := ?_)
        obtain ⟨rfl, rfl⟩ := ret_e hf
        exact bX_count_60 
    · replace hf := ite_t q3 hf
      obtain ⟨g9_0, hf⟩ := grd_e hf
      obtain ⟨v9, w9, e9, hf⟩ := bI_e hf
      refine bX_count_20 (y1 := 57) (y2 := 1) (y3 := 34) (y4 := 35 + 2 * x1.toNatClampNeg) (h5 := (vpb_ok g9_0)) (h6 := shr_sh (vpb_ok g9_0)) (ct := c_Cl_slips (d := d) w 1 (35 + 2 * x1.toNatClampNeg) ct1 (sh_of (vpb_ok g9_0)) e9) (k := ?_)
      obtain ⟨rfl, rfl⟩ := ret_e hf
      exact bX_count_37 
  · replace hf := ite_f q2 hf
    refine bX_count_10 (ct := c_X_refuseFar (d := d + 2) w (v_X_rowRefusal w x1)) (k := ?_)
    obtain ⟨rfl, rfl⟩ := ret_e hf
    exact bX_count_15 
-- X_could
def f_X_could (w : MW) (x1 : Int32) : Option RT := if (v_X_rowRefusal w x1) = 0 then (grd (vpb x1 8 = true) (bI (f_Cl_whoHearJust w 1 (35 + 2 * x1.toNatClampNeg)) (fun v3 w3 => some (some (.int v3), w3)))) else (some (some (.int (v_X_refuse w (v_X_rowRefusal w x1))), u_X_refuse w (v_X_rowRefusal w x1)))
set_option maxHeartbeats 4000000 in
theorem c_X_could {d : Nat} {r : Option Value} {w' : MW} (w : MW) (x1 : Int32) (hf : f_X_could w x1 = some (r, w')) : Ct (d + 5) mX_could [.ref 0, .int x1] w r w' := by
  refine eX_could ?_
  unfold f_X_could at hf
  refine bX_could_0 (ct := c_X_rowRefusal (d := d + 3) w x1) (k := ?_)
  refine bX_could_5 (kt := fun q2 => ?_) (kf := fun q2 => ?_)
  · replace hf := ite_t q2 hf
    obtain ⟨g3_0, hf⟩ := grd_e hf
    obtain ⟨v3, w3, e3, hf⟩ := bI_e hf
    refine bX_could_16 (y1 := 57) (y2 := 1) (y3 := 34) (y4 := 35 + 2 * x1.toNatClampNeg) (h5 := (vpb_ok g3_0)) (h6 := shr_sh (vpb_ok g3_0)) (ct := c_Cl_whoHearJust (d := d) w 1 (35 + 2 * x1.toNatClampNeg) ct1 (sh_of (vpb_ok g3_0)) e3) (k := ?_)
    obtain ⟨rfl, rfl⟩ := ret_e hf
    exact bX_could_33 
  · replace hf := ite_f q2 hf
    refine bX_could_10 (ct := c_X_refuse (d := d + 4) w (v_X_rowRefusal w x1)) (k := ?_)
    obtain ⟨rfl, rfl⟩ := ret_e hf
    exact bX_could_15 
-- X_swap
def f_X_swap (w : MW) : Option RT := bI (f_Cl_bestSwap w 1) (fun v1 w1 => some (some (.int v1), w1))
set_option maxHeartbeats 4000000 in
theorem c_X_swap {d : Nat} {r : Option Value} {w' : MW} (w : MW) (hf : f_X_swap w = some (r, w')) : Ct (d + 6) mX_swap [.ref 0] w r w' := by
  refine eX_swap ?_
  unfold f_X_swap at hf
  obtain ⟨v1, w1, e1, hf⟩ := bI_e hf
  refine bX_swap_0 (y1 := 57) (y2 := 1) (ct := c_Cl_bestSwap (d := d) w 1 ct1 e1) (k := ?_)
  obtain ⟨rfl, rfl⟩ := ret_e hf
  exact bX_swap_11 
-- X_audience
def f_X_audience (w : MW) (x1 : Int32) : Option RT := if (v_X_isRounds w x1) = 0 then (some (some (.int (v_X_refuse w (-6 : Int32))), u_X_refuse w (-6 : Int32))) else (bI (f_X_hold w x1) (fun v3 w3 => some (some (.int v3), w3)))
set_option maxHeartbeats 4000000 in
theorem c_X_audience {d : Nat} {r : Option Value} {w' : MW} (w : MW) (x1 : Int32) (hf : f_X_audience w x1 = some (r, w')) : Ct (d + 6) mX_audience [.ref 0, .int x1] w r w' := by
  refine eX_audience ?_
  unfold f_X_audience at hf
  refine bX_audience_0 (ct := c_X_isRounds (d := d + 5) w x1) (k := ?_)
  refine bX_audience_4 (kt := fun q2 => ?_) (kf := fun q2 => ?_)
  · replace hf := ite_f q2 hf
    obtain ⟨v3, w3, e3, hf⟩ := bI_e hf
    refine bX_audience_14 (ct := c_X_hold (d := d) w x1 e3) (k := ?_)
    obtain ⟨rfl, rfl⟩ := ret_e hf
    exact bX_audience_19 
  · replace hf := ite_t q2 hf
    refine bX_audience_7 (ct := c_X_refuse (d := d + 5) w (-6 : Int32)) (k := ?_)
    obtain ⟨rfl, rfl⟩ := ret_e hf
    exact bX_audience_13 
-- X_says
def f_X_says (w : MW) (x1 : Int32) (x2 : Int32) : Option RT := if (v_X_isShelf w x1) = 0 then (some (some (.int (v_X_refuse w (-1 : Int32))), u_X_refuse w (-1 : Int32))) else (if (v_X_isKind w x2) = 0 then (some (some (.int (v_X_refuse w (-1 : Int32))), u_X_refuse w (-1 : Int32))) else (grd (vpb x1 8 = true) (if (v_Sh_isRow w (35 + 2 * x1.toNatClampNeg)) = 0 then (if (v_Sh_isMan w (35 + 2 * x1.toNatClampNeg)) = 0 then (some (some (.int (v_X_refuse w (-3 : Int32))), u_X_refuse w (-3 : Int32))) else (if (v_Ct_isMan w 1 (w.1 (35 + 2 * x1.toNatClampNeg) 0)) = 0 then (some (some (.int (v_X_refuse w (-3 : Int32))), u_X_refuse w (-3 : Int32))) else (grd (vpb (w.1 (35 + 2 * x1.toNatClampNeg) 0) 8 = true) (bI (f_X_isUnder w (w.1 (1 + 2 + (w.1 (35 + 2 * x1.toNatClampNeg) 0).toNatClampNeg) 0) x2) (fun v15 w15 => if v15 = 0 then (some (some (.int (v_X_refuse w15 (-2 : Int32))), u_X_refuse w15 (-2 : Int32))) else (bI (f_Mn_saysAs w15 (1 + 2 + (w.1 (35 + 2 * x1.toNatClampNeg) 0).toNatClampNeg) x2 (w15.1 1 3)) (fun v17 w17 => some (some (.int v17), w17)))))))) else (some (some (.int (v_X_refuse w (-2 : Int32))), u_X_refuse w (-2 : Int32))))))
set_option maxHeartbeats 4000000 in
theorem c_X_says {d : Nat} {r : Option Value} {w' : MW} (w : MW) (x1 : Int32) (x2 : Int32) (hf : f_X_says w x1 x2 = some (r, w')) : Ct (d + 4) mX_says [.ref 0, .int x1, .int x2] w r w' := by
  refine eX_says ?_
  unfold f_X_says at hf
  refine bX_says_0 (ct := c_X_isShelf (d := d + 3) w x1) (k := ?_)
  refine bX_says_4 (kt := fun q2 => ?_) (kf := fun q2 => ?_)
  · replace hf := ite_t q2 hf
    refine bX_says_14 (ct := c_X_refuse (d := d + 3) w (-1 : Int32)) (k := ?_)
    obtain ⟨rfl, rfl⟩ := ret_e hf
    exact bX_says_19 
  · replace hf := ite_f q2 hf
    refine bX_says_7 (ct := c_X_isKind (d := d + 3) w x2) (k := ?_)
    refine bX_says_11 (kt := fun q6 => ?_) (kf := fun q6 => ?_)
    · replace hf := ite_f q6 hf
      obtain ⟨g7_0, hf⟩ := grd_e hf
      refine bX_says_20 (y1 := 34) (y2 := 35 + 2 * x1.toNatClampNeg) (h3 := (vpb_ok g7_0)) (h4 := shr_sh (vpb_ok g7_0)) (h5 := sh_k (sh_of (vpb_ok g7_0))) (ct := c_Sh_isRow (d := d + 3) w (35 + 2 * x1.toNatClampNeg) (sh_of (vpb_ok g7_0))) (k := ?_)
      refine bX_says_31 (kt := fun q8 => ?_) (kf := fun q8 => ?_)
      · replace hf := ite_t q8 hf
        refine bX_says_41 (h1 := sh_k (sh_of (vpb_ok g7_0))) (ct := c_Sh_isMan (d := d + 3) w (35 + 2 * x1.toNatClampNeg) (sh_of (vpb_ok g7_0))) (k := ?_)
        refine bX_says_45 (kt := fun q10 => ?_) (kf := fun q10 => ?_)
        · replace hf := ite_t q10 hf
          refine bX_says_62 (ct := c_X_refuse (d := d + 3) w (-3 : Int32)) (k := ?_)
          obtain ⟨rfl, rfl⟩ := ret_e hf
          exact bX_says_68 
        · replace hf := ite_f q10 hf
          refine bX_says_48 (y1 := 1) (h2 := sh_g0 (sh_of (vpb_ok g7_0))) (ct := c_Ct_isMan (d := d + 3) w 1 (w.1 (35 + 2 * x1.toNatClampNeg) 0) ct1) (k := ?_)
          refine bX_says_59 (kt := fun q14 => ?_) (kf := fun q14 => ?_)
          · replace hf := ite_f q14 hf
            obtain ⟨g15_0, hf⟩ := grd_e hf
            obtain ⟨v15, w15, e15, hf⟩ := bI_e hf
            refine bX_says_69 (y1 := 1) (y2 := 2) (h3 := sh_g0 (sh_of (vpb_ok g7_0))) (y3 := 1 + 2 + (w.1 (35 + 2 * x1.toNatClampNeg) 0).toNatClampNeg) (h4 := ct_k12 ct1) (h5 := ct_l8 ct1 (vpb_ok g15_0)) (h6 := ct_mn ct1 (vpb_ok g15_0)) (h7 := mn_g (mn_of ct1 (vpb_ok g15_0)) 0 (by decide)) (ct := c_X_isUnder (d := d + 2) w (w.1 (1 + 2 + (w.1 (35 + 2 * x1.toNatClampNeg) 0).toNatClampNeg) 0) x2 e15) (k := ?_)
            refine bX_says_92 (kt := fun q16 => ?_) (kf := fun q16 => ?_)
            · replace hf := ite_f q16 hf
              obtain ⟨v17, w17, e17, hf⟩ := bI_e hf
              refine bX_says_102 (y1 := 1) (h3 := mn_k (mn_of ct1 (vpb_ok g15_0))) (ct := c_Mn_saysAs (d := d) w15 (1 + 2 + (w.1 (35 + 2 * x1.toNatClampNeg) 0).toNatClampNeg) x2 (w15.1 1 3) (mn_of ct1 (vpb_ok g15_0)) e17) (k := ?_)
              obtain ⟨rfl, rfl⟩ := ret_e hf
              exact bX_says_115 
            · replace hf := ite_t q16 hf
              refine bX_says_95 (ct := c_X_refuse (d := d + 3) w15 (-2 : Int32)) (k := ?_)
              obtain ⟨rfl, rfl⟩ := ret_e hf
              exact bX_says_101 
          · replace hf := ite_t q14 hf
            refine bX_says_62 (ct := c_X_refuse (d := d + 3) w (-3 : Int32)) (k := ?_)
            obtain ⟨rfl, rfl⟩ := ret_e hf
            exact bX_says_68 
      · replace hf := ite_f q8 hf
        refine bX_says_34 (ct := c_X_refuse (d := d + 3) w (-2 : Int32)) (k := ?_)
        obtain ⟨rfl, rfl⟩ := ret_e hf
        exact bX_says_40 
    · replace hf := ite_t q6 hf
      refine bX_says_14 (ct := c_X_refuse (d := d + 3) w (-1 : Int32)) (k := ?_)
      obtain ⟨rfl, rfl⟩ := ret_e hf
      exact bX_says_19 
