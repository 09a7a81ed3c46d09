-- M_act
def f_M_act (w : MW) (x1 : Int32) (x2 : Int32) (x3 : Int32) : Option RT := if (v_M_isMan (setI w 62 15 0) x1) = 0 then (some (some (.int (0 : Int32)), setI w 62 15 0)) else (if (v_M_within (setI w 62 15 0) x2 (0 : Int32) (2 : Int32)) = 0 then (some (some (.int (0 : Int32)), setI w 62 15 0)) else (if x2 = 0 then (bI (f_M_hearsBy (setI w 62 15 0) x1 x3) (fun v13 w13 => some (some (.int v13), w13))) else (if x2 = 1 then (bI (f_M_makesBy (setI w 62 15 0) x1 x3) (fun v10 w10 => some (some (.int v10), w10))) else (bI (f_M_tellsBy (setI w 62 15 0) x1 x3) (fun v8 w8 => some (some (.int v8), w8))))))
set_option maxHeartbeats 4000000 in
theorem c_M_act {d : Nat} {r : Option Value} {w' : MW} (w : MW) (x1 : Int32) (x2 : Int32) (x3 : Int32) (hf : f_M_act w x1 x2 x3 = some (r, w')) : Ct (d + 4) mM_act [.ref 62, .int x1, .int x2, .int x3] w r w' := by
  refine eM_act ?_
  unfold f_M_act at hf
  refine bM_act_0 (ct := c_M_isMan (d := d + 2) (setI w 62 15 0) x1) (k := ?_)
  refine bM_act_10 (kt := fun q2 => ?_) (kf := fun q2 => ?_)
  · replace hf := ite_t q2 hf
    obtain ⟨rfl, rfl⟩ := ret_e hf
    exact bM_act_22 
  · replace hf := ite_f q2 hf
    refine bM_act_13 (ct := c_M_within (d := d + 3) (setI w 62 15 0) x2 (0 : Int32) (2 : Int32)) (k := ?_)
    refine bM_act_19 (kt := fun q5 => ?_) (kf := fun q5 => ?_)
    · replace hf := ite_f q5 hf
      refine bM_act_24 (kt := fun q6 => ?_) (kf := fun q6 => ?_)
      · replace hf := ite_f q6 hf
        refine bM_act_37 (kt := fun q7 => ?_) (kf := fun q7 => ?_)
        · replace hf := ite_f q7 hf
          obtain ⟨v8, w8, e8, hf⟩ := bI_e hf
          refine bM_act_51 (ct := c_M_tellsBy (d := d) (setI w 62 15 0) x1 x3 e8) (k := ?_)
          obtain ⟨rfl, rfl⟩ := ret_e hf
          exact bM_act_57 
        · replace hf := ite_t q7 hf
          obtain ⟨v10, w10, e10, hf⟩ := bI_e hf
          refine bM_act_42 (ct := c_M_makesBy (d := d + 1) (setI w 62 15 0) x1 x3 e10) (k := ?_)
          refine bM_act_48 (k := ?_)
          obtain ⟨rfl, rfl⟩ := ret_e hf
          exact bM_act_57 
      · replace hf := ite_t q6 hf
        obtain ⟨v13, w13, e13, hf⟩ := bI_e hf
        refine bM_act_28 (ct := c_M_hearsBy (d := d + 2) (setI w 62 15 0) x1 x3 e13) (k := ?_)
        refine bM_act_34 (k := ?_)
        obtain ⟨rfl, rfl⟩ := ret_e hf
        exact bM_act_57 
    · replace hf := ite_t q5 hf
      obtain ⟨rfl, rfl⟩ := ret_e hf
      exact bM_act_22 
-- Mn_placesOf
def f_Mn_placesOf (w : MW) (a0 : Nat) (x1 : Int32) : Option RT := bI (f_X_placesBy w (w.1 a0 0) (w.1 a0 1) (w.1 a0 2) x1) (fun v1 w1 => some (some (.int v1), w1))
set_option maxHeartbeats 4000000 in
theorem c_Mn_placesOf {d : Nat} {r : Option Value} {w' : MW} (w : MW) (a0 : Nat) (x1 : Int32) (c0 : isMn a0) (hf : f_Mn_placesOf w a0 x1 = some (r, w')) : Ct (d + 2) mMn_placesOf [.ref a0, .int x1] w r w' := by
  refine eMn_placesOf ?_
  unfold f_Mn_placesOf at hf
  obtain ⟨v1, w1, e1, hf⟩ := bI_e hf
  refine bMn_placesOf_0 (h1 := mn_g c0 0 (by decide)) (h2 := mn_g c0 1 (by decide)) (h3 := mn_g c0 2 (by decide)) (ct := c_X_placesBy (d := d) w (w.1 a0 0) (w.1 a0 1) (w.1 a0 2) x1 e1) (k := ?_)
  obtain ⟨rfl, rfl⟩ := ret_e hf
  exact bMn_placesOf_16 
-- Ct_his
def f_Ct_his (w : MW) (a0 : Nat) (x1 : Int32) : Option RT := if (v_Ct_isMan w a0 x1) = 0 then (some (some (.int (0 : Int32)), w)) else (grd (vpb x1 8 = true) (bI (f_Mn_placesOf w (a0 + 2 + x1.toNatClampNeg) (w.1 a0 3)) (fun v5 w5 => some (some (.int v5), w5))))
set_option maxHeartbeats 4000000 in
theorem c_Ct_his {d : Nat} {r : Option Value} {w' : MW} (w : MW) (a0 : Nat) (x1 : Int32) (c0 : isCt a0) (hf : f_Ct_his w a0 x1 = some (r, w')) : Ct (d + 3) mCt_his [.ref a0, .int x1] w r w' := by
  refine eCt_his ?_
  unfold f_Ct_his at hf
  refine bCt_his_0 (h1 := ct_k c0) (ct := c_Ct_isMan (d := d + 2) w a0 x1 c0) (k := ?_)
  refine bCt_his_5 (kt := fun q2 => ?_) (kf := fun q2 => ?_)
  · replace hf := ite_t q2 hf
    refine bCt_his_24 (k := ?_)
    obtain ⟨rfl, rfl⟩ := ret_e hf
    exact bCt_his_25 
  · replace hf := ite_f q2 hf
    obtain ⟨g5_0, hf⟩ := grd_e hf
    obtain ⟨v5, w5, e5, hf⟩ := bI_e hf
    refine bCt_his_8 (y1 := a0 + 1) (h1 := ct_r0 c0) (y2 := a0 + 2 + x1.toNatClampNeg) (h2 := ct_k12 c0) (h3 := ct_l8 c0 (vpb_ok g5_0)) (h4 := ct_mn c0 (vpb_ok g5_0)) (h5 := ct_g3 c0) (h6 := mn_k (mn_of c0 (vpb_ok g5_0))) (ct := c_Mn_placesOf (d := d) w (a0 + 2 + x1.toNatClampNeg) (w.1 a0 3) (mn_of c0 (vpb_ok g5_0)) e5) (k := ?_)
    refine bCt_his_21 (k := ?_)
    obtain ⟨rfl, rfl⟩ := ret_e hf
    exact bCt_his_25 
-- Rd_readItem
def f_Rd_readItem (w : MW) (a1 : Nat) : Option RT := grd (¬ (w.1 52 1) < 0 → ¬ (w.1 a1 1) ≤ (w.1 52 1) → vpb (w.1 52 1) 160 = true) (grd (¬ ((w.1 52 1) + 1) < 0 → ¬ (w.1 a1 1) ≤ ((w.1 52 1) + 1) → vpb ((w.1 52 1) + 1) 160 = true) (bV (f_Rd_takeWord w a1 (v_Rd_wordOf w (v_Rd_itemBy w (v_Sh_asInt w a1 (w.1 52 1)) (v_Sh_asInt w a1 ((w.1 52 1) + 1))))) (fun w5 => if (w5.1 52 3) = (-1) then (bI (f_Rd_lacksRoom w5 (v_Rd_itemBy w (v_Sh_asInt w a1 (w.1 52 1)) (v_Sh_asInt w a1 ((w.1 52 1) + 1)))) (fun v7 w7 => if v7 = 0 then (if (v_Rd_itemBy w (v_Sh_asInt w a1 (w.1 52 1)) (v_Sh_asInt w a1 ((w.1 52 1) + 1))) = 0 then (bV (f_Rd_readMan w7 a1) (fun w10 => some (none, w10))) else if (v_Rd_itemBy w (v_Sh_asInt w a1 (w.1 52 1)) (v_Sh_asInt w a1 ((w.1 52 1) + 1))) = 1 then (bV (f_Rd_readMeeting w7 a1 (1 : Int32)) (fun w13 => some (none, w13))) else if (v_Rd_itemBy w (v_Sh_asInt w a1 (w.1 52 1)) (v_Sh_asInt w a1 ((w.1 52 1) + 1))) = 2 then (bV (f_Rd_readMeeting w7 a1 (0 : Int32)) (fun w16 => some (none, w16))) else if (v_Rd_itemBy w (v_Sh_asInt w a1 (w.1 52 1)) (v_Sh_asInt w a1 ((w.1 52 1) + 1))) = 3 then (bV (f_Rd_readWord w7 a1) (fun w19 => some (none, w19))) else (some (none, u_Ct_hushWords w7 23))) else (some (none, setI w7 52 3 (w.1 52 1))))) else (some (none, w5)))))
set_option maxHeartbeats 4000000 in
theorem c_Rd_readItem {d : Nat} {r : Option Value} {w' : MW} (w : MW) (a1 : Nat) (c1 : isSh a1) (hf : f_Rd_readItem w a1 = some (r, w')) : Ct (d + 5) mRd_readItem [.ref 52, .ref a1] w r w' := by
  refine eRd_readItem ?_
  unfold f_Rd_readItem at hf
  obtain ⟨g1_0, hf⟩ := grd_e hf
  refine bRd_readItem_0 (h3 := sh_k c1) (ct := c_Sh_asInt (d := d + 4) w a1 (w.1 52 1) c1 (fun z0 z1 => vpb_ok (g1_0 z0 z1))) (k := ?_)
  obtain ⟨g2_0, hf⟩ := grd_e hf
  refine bRd_readItem_13 (h2 := sh_k c1) (ct := c_Sh_asInt (d := d + 4) w a1 ((w.1 52 1) + 1) c1 (fun z0 z1 => vpb_ok (g2_0 z0 z1))) (k := ?_)
  refine bRd_readItem_23 (ct := c_Rd_itemBy (d := d + 4) w (v_Sh_asInt w a1 (w.1 52 1)) (v_Sh_asInt w a1 ((w.1 52 1) + 1))) (k := ?_)
  refine bRd_readItem_26 (ct := c_Rd_wordOf (d := d + 4) w (v_Rd_itemBy w (v_Sh_asInt w a1 (w.1 52 1)) (v_Sh_asInt w a1 ((w.1 52 1) + 1)))) (k := ?_)
  obtain ⟨w5, e5, hf⟩ := bV_e hf
  refine bRd_readItem_33 (ct := c_Rd_takeWord (d := d) w a1 (v_Rd_wordOf w (v_Rd_itemBy w (v_Sh_asInt w a1 (w.1 52 1)) (v_Sh_asInt w a1 ((w.1 52 1) + 1)))) c1 (t_Rd_wordOf w (v_Rd_itemBy w (v_Sh_asInt w a1 (w.1 52 1)) (v_Sh_asInt w a1 ((w.1 52 1) + 1)))) e5) (k := ?_)
  refine bRd_readItem_36 (kt := fun q6 => ?_) (kf := fun q6 => ?_)
  · replace hf := ite_t q6 hf
    obtain ⟨v7, w7, e7, hf⟩ := bI_e hf
    refine bRd_readItem_45 (ct := c_Rd_lacksRoom (d := d + 4) w5 (v_Rd_itemBy w (v_Sh_asInt w a1 (w.1 52 1)) (v_Sh_asInt w a1 ((w.1 52 1) + 1))) e7) (k := ?_)
    refine bRd_readItem_50 (kt := fun q8 => ?_) (kf := fun q8 => ?_)
    · replace hf := ite_t q8 hf
      refine bRd_readItem_59 (k0 := fun q9_0 => ?_) (k1 := fun q9_1 => ?_) (k2 := fun q9_2 => ?_) (k3 := fun q9_3 => ?_) (kd := fun q9_0 q9_1 q9_2 q9_3 => ?_)
      · have hq := q9_0
        replace hf := ite_t hq hf
        obtain ⟨w10, e10, hf⟩ := bV_e hf
        refine bRd_readItem_92 (ct := c_Rd_readMan (d := d + 1) w7 a1 c1 e10) (k := ?_)
        refine bRd_readItem_97 (k := ?_)
        obtain ⟨rfl, rfl⟩ := ret_e hf
        exact bRd_readItem_133 
      · have hq := q9_1
        replace hf := ite_f (by rw [hq]; decide) hf
        replace hf := ite_t hq hf
        obtain ⟨w13, e13, hf⟩ := bV_e hf
        refine bRd_readItem_100 (ct := c_Rd_readMeeting (d := d + 1) w7 a1 (1 : Int32) c1 e13) (k := ?_)
        refine bRd_readItem_106 (k := ?_)
        obtain ⟨rfl, rfl⟩ := ret_e hf
        exact bRd_readItem_133 
      · have hq := q9_2
        replace hf := ite_f (by rw [hq]; decide) hf
        replace hf := ite_f (by rw [hq]; decide) hf
        replace hf := ite_t hq hf
        obtain ⟨w16, e16, hf⟩ := bV_e hf
        refine bRd_readItem_109 (ct := c_Rd_readMeeting (d := d + 1) w7 a1 (0 : Int32) c1 e16) (k := ?_)
        refine bRd_readItem_115 (k := ?_)
        obtain ⟨rfl, rfl⟩ := ret_e hf
        exact bRd_readItem_133 
      · have hq := q9_3
        replace hf := ite_f (by rw [hq]; decide) hf
        replace hf := ite_f (by rw [hq]; decide) hf
        replace hf := ite_f (by rw [hq]; decide) hf
        replace hf := ite_t hq hf
        obtain ⟨w19, e19, hf⟩ := bV_e hf
        refine bRd_readItem_118 (ct := c_Rd_readWord (d := d + 1) w7 a1 c1 e19) (k := ?_)
        refine bRd_readItem_123 (k := ?_)
        obtain ⟨rfl, rfl⟩ := ret_e hf
        exact bRd_readItem_133 
      · replace hf := ite_f q9_0 hf
        replace hf := ite_f q9_1 hf
        replace hf := ite_f q9_2 hf
        replace hf := ite_f q9_3 hf
        refine bRd_readItem_126 (y1 := 23) (ct := c_Ct_hushWords (d := d + 4) w7 23 ct23) (k := ?_)
        obtain ⟨rfl, rfl⟩ := ret_e hf
        exact bRd_readItem_133 
    · replace hf := ite_f q8 hf
      obtain ⟨rfl, rfl⟩ := ret_e hf
      exact bRd_readItem_53 
  · replace hf := ite_f q6 hf
    obtain ⟨rfl, rfl⟩ := ret_e hf
    exact bRd_readItem_44 
-- X_hears
def f_X_hears (w : MW) (x1 : Int32) (x2 : Int32) : Option RT := if (v_Ct_isMan w 1 x1) = 0 then (some (some (.int (v_X_refuse w (-1 : Int32))), u_X_refuse w (-1 : Int32))) else (if (v_Ct_isPlace w 1 x2) = 0 then (some (some (.int (v_X_refuse w (-5 : Int32))), u_X_refuse w (-5 : Int32))) else (bI (f_Ct_his w 1 x1) (fun v5 w5 => some (some (.int ((ush v5 x2) &&& 1)), w5))))
set_option maxHeartbeats 4000000 in
theorem c_X_hears {d : Nat} {r : Option Value} {w' : MW} (w : MW) (x1 : Int32) (x2 : Int32) (hf : f_X_hears w x1 x2 = some (r, w')) : Ct (d + 4) mX_hears [.ref 0, .int x1, .int x2] w r w' := by
  refine eX_hears ?_
  unfold f_X_hears at hf
  refine bX_hears_0 (y1 := 1) (ct := c_Ct_isMan (d := d + 3) w 1 x1 ct1) (k := ?_)
  refine bX_hears_8 (kt := fun q2 => ?_) (kf := fun q2 => ?_)
  · replace hf := ite_f q2 hf
    refine bX_hears_17 (y1 := 1) (ct := c_Ct_isPlace (d := d + 3) w 1 x2 ct1) (k := ?_)
    refine bX_hears_25 (kt := fun q4 => ?_) (kf := fun q4 => ?_)
    · replace hf := ite_f q4 hf
      obtain ⟨v5, w5, e5, hf⟩ := bI_e hf
      refine bX_hears_35 (y1 := 1) (ct := c_Ct_his (d := d) w 1 x1 ct1 e5) (k := ?_)
      obtain ⟨rfl, rfl⟩ := ret_e hf
      exact bX_hears_43 
    · replace hf := ite_t q4 hf
      refine bX_hears_28 (ct := c_X_refuse (d := d + 3) w (-5 : Int32)) (k := ?_)
      obtain ⟨rfl, rfl⟩ := ret_e hf
      exact bX_hears_34 
  · replace hf := ite_t q2 hf
    refine bX_hears_11 (ct := c_X_refuse (d := d + 3) w (-1 : Int32)) (k := ?_)
    obtain ⟨rfl, rfl⟩ := ret_e hf
    exact bX_hears_16 
-- Co_begin
def f_Co_begin_10 (a1 : Nat) : Nat → MW → Int32 → Option RT
  | 0, _, _ => none
  | n + 1, w, x2 => if (w.1 53 3) ≤ x2 then (some (none, w)) else (bI (f_Ct_his w a1 x2) (fun v3 w3 => grd (vpb x2 8 = true) (f_Co_begin_10 a1 n (setI (setI w3 54 x2.toNatClampNeg v3) 56 x2.toNatClampNeg ((setI w3 54 x2.toNatClampNeg v3).1 (a1 + 2 + x2.toNatClampNeg) 5)) (x2 + 1))))
set_option maxHeartbeats 4000000 in
theorem r_Co_begin_10 {d : Nat} {r : Option Value} {w' : MW} (a1 : Nat) (c1 : isCt a1) : ∀ (n : Nat) (w : MW) (x2 : Int32), f_Co_begin_10 a1 n w x2 = some (r, w') → Rn (d + 4) mCo_begin 10 [some (.ref 53), some (.ref a1), some (.int x2)] [] w r w' := by
  intro n
  induction n with
  | zero =>
    intro w x2 hf
    cases hf
  | succ n ih =>
    intro w x2 hf
    rw [f_Co_begin_10] at hf
    refine bCo_begin_10 (kt := fun q1 => ?_) (kf := fun q1 => ?_)
    · replace hf := ite_t q1 hf
      obtain ⟨rfl, rfl⟩ := ret_e hf
      exact bCo_begin_50 
    · replace hf := ite_f q1 hf
      obtain ⟨v3, w3, e3, hf⟩ := bI_e hf
      refine bCo_begin_18 (y1 := 54) (h2 := ct_k c1) (ct := c_Ct_his (d := d) w a1 x2 c1 e3) (k := ?_)
      obtain ⟨g4_0, hf⟩ := grd_e hf
      refine bCo_begin_28 (h2 := (vpb_ok g4_0)) (y1 := 56) (y2 := a1 + 1) (h4 := ct_r0 c1) (y3 := a1 + 2 + x2.toNatClampNeg) (h5 := ct_k12 c1) (h6 := ct_l8 c1 (vpb_ok g4_0)) (h7 := ct_mn c1 (vpb_ok g4_0)) (h8 := mn_g (mn_of c1 (vpb_ok g4_0)) 5 (by decide)) (h10 := (vpb_ok g4_0)) (k := ?_)
      exact ih (setI (setI w3 54 x2.toNatClampNeg v3) 56 x2.toNatClampNeg ((setI w3 54 x2.toNatClampNeg v3).1 (a1 + 2 + x2.toNatClampNeg) 5)) (x2 + 1) hf
def f_Co_begin (w : MW) (a1 : Nat) : Option RT := f_Co_begin_10 a1 FU (setI w 53 3 (w.1 a1 1)) (0 : Int32)
set_option maxHeartbeats 4000000 in
theorem c_Co_begin {d : Nat} {r : Option Value} {w' : MW} (w : MW) (a1 : Nat) (c1 : isCt a1) (hf : f_Co_begin w a1 = some (r, w')) : Ct (d + 4) mCo_begin [.ref 53, .ref a1] w r w' := by
  refine eCo_begin ?_
  unfold f_Co_begin at hf
  refine bCo_begin_0 (h1 := ct_g1 c1) (k := ?_)
  exact r_Co_begin_10 a1 c1 FU (setI w 53 3 (w.1 a1 1)) (0 : Int32) hf
-- X_whole
def f_X_whole (w : MW) : Option RT := bI (f_Ct_wholeSense w 1) (fun v1 w1 => some (some (.int v1), w1))
set_option maxHeartbeats 4000000 in
theorem c_X_whole {d : Nat} {r : Option Value} {w' : MW} (w : MW) (hf : f_X_whole w = some (r, w')) : Ct (d + 3) mX_whole [.ref 0] w r w' := by
  refine eX_whole ?_
  unfold f_X_whole at hf
  obtain ⟨v1, w1, e1, hf⟩ := bI_e hf
  refine bX_whole_0 (y1 := 1) (ct := c_Ct_wholeSense (d := d) w 1 ct1 e1) (k := ?_)
  obtain ⟨rfl, rfl⟩ := ret_e hf
  exact bX_whole_7 
-- Cl_listen
def f_Cl_listen_2 (a1 : Nat) : Nat → MW → Int32 → Option RT
  | 0, _, _ => none
  | n + 1, w, x2 => if (w.1 a1 1) ≤ x2 then (some (none, w)) else (bI (f_Ct_his w a1 x2) (fun v3 w3 => grd (vpb x2 8 = true) (f_Cl_listen_2 a1 n (setI w3 59 x2.toNatClampNeg v3) (x2 + 1))))
set_option maxHeartbeats 4000000 in
theorem r_Cl_listen_2 {d : Nat} {r : Option Value} {w' : MW} (a1 : Nat) (c1 : isCt a1) : ∀ (n : Nat) (w : MW) (x2 : Int32), f_Cl_listen_2 a1 n w x2 = some (r, w') → Rn (d + 4) mCl_listen 2 [some (.ref 57), some (.ref a1), some (.int x2)] [] w r w' := by
  intro n
  induction n with
  | zero =>
    intro w x2 hf
    cases hf
  | succ n ih =>
    intro w x2 hf
    rw [f_Cl_listen_2] at hf
    refine bCl_listen_2 (h1 := ct_g1 c1) (kt := fun q1 => ?_) (kf := fun q1 => ?_)
    · replace hf := ite_t q1 hf
      obtain ⟨rfl, rfl⟩ := ret_e hf
      exact bCl_listen_27 
    · replace hf := ite_f q1 hf
      obtain ⟨v3, w3, e3, hf⟩ := bI_e hf
      refine bCl_listen_10 (y1 := 59) (h2 := ct_k c1) (ct := c_Ct_his (d := d) w a1 x2 c1 e3) (k := ?_)
      obtain ⟨g4_0, hf⟩ := grd_e hf
      refine bCl_listen_20 (h2 := (vpb_ok g4_0)) (k := ?_)
      exact ih (setI w3 59 x2.toNatClampNeg v3) (x2 + 1) hf
def f_Cl_listen (w : MW) (a1 : Nat) : Option RT := f_Cl_listen_2 a1 FU w (0 : Int32)
set_option maxHeartbeats 4000000 in
theorem c_Cl_listen {d : Nat} {r : Option Value} {w' : MW} (w : MW) (a1 : Nat) (c1 : isCt a1) (hf : f_Cl_listen w a1 = some (r, w')) : Ct (d + 4) mCl_listen [.ref 57, .ref a1] w r w' := by
  refine eCl_listen ?_
  unfold f_Cl_listen at hf
  refine bCl_listen_0 (k := ?_)
  exact r_Cl_listen_2 a1 c1 FU w (0 : Int32) hf
-- Cl_fewestWhoCover
def f_Cl_fewestWhoCover_23 (a1 : Nat) : Nat → MW → Int32 → Int32 → Int32 → Int32 → Option RT
  | 0, _, _, _, _, _ => none
  | n + 1, w, x2, x3, x4, x5 => if ((1 : Int32) <<< ((w.1 a1 1) &&& 31)) ≤ x5 then (some (some (.int x3), w)) else (bI (f_JI_bitCount w x5) (fun v3 w3 => if x4 ≤ v3 then (f_Cl_fewestWhoCover_23 a1 n w3 x2 x3 x4 (x5 + 1)) else (bI (f_Cl_heardByAny w3 x5) (fun v6 w6 => if v6 = x2 then (f_Cl_fewestWhoCover_23 a1 n w6 x2 x5 v3 (x5 + 1)) else (f_Cl_fewestWhoCover_23 a1 n w6 x2 x3 x4 (x5 + 1))))))
set_option maxHeartbeats 4000000 in
theorem r_Cl_fewestWhoCover_23 {d : Nat} {r : Option Value} {w' : MW} (a1 : Nat) (c1 : isCt a1) : ∀ (n : Nat) (w : MW) (x2 : Int32) (x3 : Int32) (x4 : Int32) (x5 : Int32), f_Cl_fewestWhoCover_23 a1 n w x2 x3 x4 x5 = some (r, w') → Rn (d + 5) mCl_fewestWhoCover 23 [some (.ref 57), some (.ref a1), some (.int x2), some (.int x3), some (.int x4), some (.int x5), none] [] w r w' := by
  intro n
  induction n with
  | zero =>
    intro w x2 x3 x4 x5 hf
    cases hf
  | succ n ih =>
    intro w x2 x3 x4 x5 hf
    rw [f_Cl_fewestWhoCover_23] at hf
    refine bCl_fewestWhoCover_23 (h1 := ct_g1 c1) (kt := fun q1 => ?_) (kf := fun q1 => ?_)
    · replace hf := ite_t q1 hf
      obtain ⟨rfl, rfl⟩ := ret_e hf
      exact bCl_fewestWhoCover_71 
    · replace hf := ite_f q1 hf
      obtain ⟨v3, w3, e3, hf⟩ := bI_e hf
      refine bCl_fewestWhoCover_34 (ct := c_JI_bitCount (d := d + 4) w x5 e3) (k := ?_)
      refine bCl_fewestWhoCover_39 (kt := fun q4 => ?_) (kf := fun q4 => ?_)
      · replace hf := ite_t q4 hf
        refine bCl_fewestWhoCover_65 (k := ?_)
        exact ih w3 x2 x3 x4 (x5 + 1) hf
      · replace hf := ite_f q4 hf
        obtain ⟨v6, w6, e6, hf⟩ := bI_e hf
        refine bCl_fewestWhoCover_48 (ct := c_Cl_heardByAny (d := d + 4) w3 x5 e6) (k := ?_)
        refine bCl_fewestWhoCover_54 (kt := fun q7 => ?_) (kf := fun q7 => ?_)
        · replace hf := ite_f q7 hf
          refine bCl_fewestWhoCover_65 (k := ?_)
          exact ih w6 x2 x3 x4 (x5 + 1) hf
        · replace hf := ite_t q7 hf
          refine bCl_fewestWhoCover_58 (k := ?_)
          refine bCl_fewestWhoCover_65 (k := ?_)
          exact ih w6 x2 x5 v3 (x5 + 1) hf
def f_Cl_fewestWhoCover (w : MW) (a1 : Nat) : Option RT := bV (f_Cl_listen w a1) (fun w1 => bI (f_X_span w1 (0 : Int32) (w1.1 a1 3)) (fun v2 w2 => f_Cl_fewestWhoCover_23 a1 FU w2 v2 (-1 : Int32) (9 : Int32) (0 : Int32)))
set_option maxHeartbeats 4000000 in
theorem c_Cl_fewestWhoCover {d : Nat} {r : Option Value} {w' : MW} (w : MW) (a1 : Nat) (c1 : isCt a1) (hf : f_Cl_fewestWhoCover w a1 = some (r, w')) : Ct (d + 5) mCl_fewestWhoCover [.ref 57, .ref a1] w r w' := by
  refine eCl_fewestWhoCover ?_
  unfold f_Cl_fewestWhoCover at hf
  obtain ⟨w1, e1, hf⟩ := bV_e hf
  refine bCl_fewestWhoCover_0 (ct := c_Cl_listen (d := d) w a1 c1 e1) (k := ?_)
  obtain ⟨v2, w2, e2, hf⟩ := bI_e hf
  refine bCl_fewestWhoCover_5 (h1 := ct_g3 c1) (ct := c_X_span (d := d + 4) w1 (0 : Int32) (w1.1 a1 3) e2) (k := ?_)
  refine bCl_fewestWhoCover_13 (k := ?_)
  exact r_Cl_fewestWhoCover_23 a1 c1 FU w2 v2 (-1 : Int32) (9 : Int32) (0 : Int32) hf
-- X_soon
def f_X_soon (w : MW) (x1 : Int32) : Option RT := if (v_Ct_isMan w 1 x1) = 0 then (some (some (.int (v_X_refuseFar w (-1 : Int32))), u_X_refuseFar w (-1 : Int32))) else (bV (f_Co_begin w 1) (fun w3 => bI (f_Co_roundsUntilWhole w3 1 x1) (fun v4 w4 => some (some (.int v4), w4))))
set_option maxHeartbeats 4000000 in
theorem c_X_soon {d : Nat} {r : Option Value} {w' : MW} (w : MW) (x1 : Int32) (hf : f_X_soon w x1 = some (r, w')) : Ct (d + 5) mX_soon [.ref 0, .int x1] w r w' := by
  refine eX_soon ?_
  unfold f_X_soon at hf
  refine bX_soon_0 (y1 := 1) (ct := c_Ct_isMan (d := d + 4) w 1 x1 ct1) (k := ?_)
  refine bX_soon_8 (kt := fun q2 => ?_) (kf := fun q2 => ?_)
  · replace hf := ite_f q2 hf
    obtain ⟨w3, e3, hf⟩ := bV_e hf
    refine bX_soon_17 (y1 := 53) (y2 := 1) (ct := c_Co_begin (d := d) w 1 ct1 e3) (k := ?_)
    obtain ⟨v4, w4, e4, hf⟩ := bI_e hf
    refine bX_soon_28 (y1 := 53) (y2 := 1) (ct := c_Co_roundsUntilWhole (d := d + 1) w3 1 x1 ct1 e4) (k := ?_)
    obtain ⟨rfl, rfl⟩ := ret_e hf
    exact bX_soon_40 
  · replace hf := ite_t q2 hf
    refine bX_soon_11 (ct := c_X_refuseFar (d := d + 3) w (-1 : Int32)) (k := ?_)
    obtain ⟨rfl, rfl⟩ := ret_e hf
    exact bX_soon_16 
-- X_wrongOnes
def f_X_wrongOnes (w : MW) (x1 : Int32) : Option RT := if (v_X_isRounds w x1) = 0 then (some (some (.int (v_X_refuse w (-6 : Int32))), u_X_refuse w (-6 : Int32))) else (bV (f_Co_begin w 1) (fun w3 => bV (f_Co_ride w3 x1) (fun w4 => bI (f_Co_falseOnes w4 1) (fun v5 w5 => some (some (.int v5), w5)))))
set_option maxHeartbeats 4000000 in
theorem c_X_wrongOnes {d : Nat} {r : Option Value} {w' : MW} (w : MW) (x1 : Int32) (hf : f_X_wrongOnes w x1 = some (r, w')) : Ct (d + 5) mX_wrongOnes [.ref 0, .int x1] w r w' := by
  refine eX_wrongOnes ?_
  unfold f_X_wrongOnes at hf
  refine bX_wrongOnes_0 (ct := c_X_isRounds (d := d + 4) w x1) (k := ?_)
  refine bX_wrongOnes_4 (kt := fun q2 => ?_) (kf := fun q2 => ?_)
  · replace hf := ite_f q2 hf
    obtain ⟨w3, e3, hf⟩ := bV_e hf
    refine bX_wrongOnes_14 (y1 := 53) (y2 := 1) (ct := c_Co_begin (d := d) w 1 ct1 e3) (k := ?_)
    obtain ⟨w4, e4, hf⟩ := bV_e hf
    refine bX_wrongOnes_25 (y1 := 53) (ct := c_Co_ride (d := d + 3) w3 x1 e4) (k := ?_)
    obtain ⟨v5, w5, e5, hf⟩ := bI_e hf
    refine bX_wrongOnes_33 (y1 := 53) (y2 := 1) (ct := c_Co_falseOnes (d := d + 1) w4 1 ct1 e5) (k := ?_)
    obtain ⟨rfl, rfl⟩ := ret_e hf
    exact bX_wrongOnes_44 
  · replace hf := ite_t q2 hf
    refine bX_wrongOnes_7 (ct := c_X_refuse (d := d + 4) w (-6 : Int32)) (k := ?_)
    obtain ⟨rfl, rfl⟩ := ret_e hf
    exact bX_wrongOnes_13 
-- Co_fewestApart
def f_Co_fewestApart_9 (a1 : Nat) : Nat → MW → Int32 → Int32 → Int32 → Int32 → Option RT
  | 0, _, _, _, _, _ => none
  | n + 1, w, x2, x3, x4, x5 => if ((1 : Int32) <<< ((w.1 a1 1) &&& 31)) ≤ x5 then (some (some (.int x3), w)) else (bI (f_JI_bitCount w x5) (fun v3 w3 => if ((ush x5 x2) &&& 1) = 1 then (f_Co_fewestApart_9 a1 n w3 x2 x3 x4 (x5 + 1)) else (if v3 < x4 then (bV (f_Co_begin w3 a1) (fun w7 => bV (f_Co_sendAway w7 x5) (fun w8 => bI (f_Co_roundsUntilWhole w8 a1 x2) (fun v9 w9 => if v9 = (-1) then (f_Co_fewestApart_9 a1 n w9 x2 x5 v3 (x5 + 1)) else (f_Co_fewestApart_9 a1 n w9 x2 x3 x4 (x5 + 1)))))) else (f_Co_fewestApart_9 a1 n w3 x2 x3 x4 (x5 + 1)))))
set_option maxHeartbeats 4000000 in
theorem r_Co_fewestApart_9 {d : Nat} {r : Option Value} {w' : MW} (a1 : Nat) (c1 : isCt a1) : ∀ (n : Nat) (w : MW) (x2 : Int32) (x3 : Int32) (x4 : Int32) (x5 : Int32), f_Co_fewestApart_9 a1 n w x2 x3 x4 x5 = some (r, w') → Rn (d + 5) mCo_fewestApart 9 [some (.ref 53), some (.ref a1), some (.int x2), some (.int x3), some (.int x4), some (.int x5), none] [] w r w' := by
  intro n
  induction n with
  | zero =>
    intro w x2 x3 x4 x5 hf
    cases hf
  | succ n ih =>
    intro w x2 x3 x4 x5 hf
    rw [f_Co_fewestApart_9] at hf
    refine bCo_fewestApart_9 (h1 := ct_g1 c1) (kt := fun q1 => ?_) (kf := fun q1 => ?_)
    · replace hf := ite_t q1 hf
      obtain ⟨rfl, rfl⟩ := ret_e hf
      exact bCo_fewestApart_81 
    · replace hf := ite_f q1 hf
      obtain ⟨v3, w3, e3, hf⟩ := bI_e hf
      refine bCo_fewestApart_20 (ct := c_JI_bitCount (d := d + 4) w x5 e3) (k := ?_)
      refine bCo_fewestApart_25 (kt := fun q4 => ?_) (kf := fun q4 => ?_)
      · replace hf := ite_t q4 hf
        refine bCo_fewestApart_75 (k := ?_)
        exact ih w3 x2 x3 x4 (x5 + 1) hf
      · replace hf := ite_f q4 hf
        refine bCo_fewestApart_37 (kt := fun q6 => ?_) (kf := fun q6 => ?_)
        · replace hf := ite_t q6 hf
          obtain ⟨w7, e7, hf⟩ := bV_e hf
          refine bCo_fewestApart_47 (ct := c_Co_begin (d := d) w3 a1 c1 e7) (k := ?_)
          obtain ⟨w8, e8, hf⟩ := bV_e hf
          refine bCo_fewestApart_52 (ct := c_Co_sendAway (d := d + 4) w7 x5 e8) (k := ?_)
          obtain ⟨v9, w9, e9, hf⟩ := bI_e hf
          refine bCo_fewestApart_58 (ct := c_Co_roundsUntilWhole (d := d + 1) w8 a1 x2 c1 e9) (k := ?_)
          refine bCo_fewestApart_64 (kt := fun q10 => ?_) (kf := fun q10 => ?_)
          · replace hf := ite_f q10 hf
            refine bCo_fewestApart_75 (k := ?_)
            exact ih w9 x2 x3 x4 (x5 + 1) hf
          · replace hf := ite_t q10 hf
            refine bCo_fewestApart_68 (k := ?_)
            refine bCo_fewestApart_75 (k := ?_)
            exact ih w9 x2 x5 v3 (x5 + 1) hf
        · replace hf := ite_f q6 hf
          refine bCo_fewestApart_44 (k := ?_)
          refine bCo_fewestApart_75 (k := ?_)
          exact ih w3 x2 x3 x4 (x5 + 1) hf
def f_Co_fewestApart (w : MW) (a1 : Nat) (x2 : Int32) : Option RT := f_Co_fewestApart_9 a1 FU w x2 (-1 : Int32) (8 : Int32) (0 : Int32)
set_option maxHeartbeats 4000000 in
theorem c_Co_fewestApart {d : Nat} {r : Option Value} {w' : MW} (w : MW) (a1 : Nat) (x2 : Int32) (c1 : isCt a1) (hf : f_Co_fewestApart w a1 x2 = some (r, w')) : Ct (d + 5) mCo_fewestApart [.ref 53, .ref a1, .int x2] w r w' := by
  refine eCo_fewestApart ?_
  unfold f_Co_fewestApart at hf
  refine bCo_fewestApart_0 (k := ?_)
  exact r_Co_fewestApart_9 a1 c1 FU w x2 (-1 : Int32) (8 : Int32) (0 : Int32) hf
-- Co_worstLoss
def f_Co_worstLoss_23 (a1 : Nat) (k8 : MW → Int32 → Int32 → Int32 → Option RT) : Nat → MW → Int32 → Int32 → Int32 → Int32 → Option RT
  | 0, _, _, _, _, _ => none
  | n + 1, w, x2, x3, x4, x5 => if (w.1 a1 1) ≤ x5 then (k8 w x2 x3 (x4 + 1)) else (grd (¬ (v_Ct_isMan w a1 x4) = 0 → vpb x4 8 = true) (if (v_Ct_doMeet w a1 x4 x5) = 0 then (f_Co_worstLoss_23 a1 k8 n w x2 x3 x4 (x5 + 1)) else (bV (f_Co_begin w a1) (fun w5 => grd (vpb x4 8 = true) (grd (vpb x5 8 = true) (bV (f_Co_ride (setI (setI w5 56 x4.toNatClampNeg ((w5.1 56 x4.toNatClampNeg) &&& (((1 : Int32) <<< (x5 &&& 31)) ^^^ (-1)))) 56 x5.toNatClampNeg (((setI w5 56 x4.toNatClampNeg ((w5.1 56 x4.toNatClampNeg) &&& (((1 : Int32) <<< (x5 &&& 31)) ^^^ (-1)))).1 56 x5.toNatClampNeg) &&& (((1 : Int32) <<< (x4 &&& 31)) ^^^ (-1)))) (9 : Int32)) (fun w6 => bI (f_Co_howManyHaveWhole w6 a1) (fun v7 w7 => if x3 ≤ v7 then (f_Co_worstLoss_23 a1 k8 n w7 x2 x3 x4 (x5 + 1)) else (f_Co_worstLoss_23 a1 k8 n w7 ((100 * x4) + x5) v7 x4 (x5 + 1))))))))))
set_option maxHeartbeats 4000000 in
theorem r_Co_worstLoss_23 {d : Nat} {r : Option Value} {w' : MW} (a1 : Nat) (c1 : isCt a1) (k8 : MW → Int32 → Int32 → Int32 → Option RT) (hk8 : ∀ w x2 x3 x4, k8 w x2 x3 x4 = some (r, w') → Rn (d + 5) mCo_worstLoss 8 [some (.ref 53), some (.ref a1), some (.int x2), some (.int x3), some (.int x4), none, none] [] w r w') : ∀ (n : Nat) (w : MW) (x2 : Int32) (x3 : Int32) (x4 : Int32) (x5 : Int32), f_Co_worstLoss_23 a1 k8 n w x2 x3 x4 x5 = some (r, w') → Rn (d + 5) mCo_worstLoss 23 [some (.ref 53), some (.ref a1), some (.int x2), some (.int x3), some (.int x4), some (.int x5), none] [] w r w' := by
  intro n
  induction n with
  | zero =>
    intro w x2 x3 x4 x5 hf
    cases hf
  | succ n ih =>
    intro w x2 x3 x4 x5 hf
    rw [f_Co_worstLoss_23] at hf
    refine bCo_worstLoss_23 (h1 := ct_g1 c1) (kt := fun q1 => ?_) (kf := fun q1 => ?_)
    · replace hf := ite_t q1 hf
      refine bCo_worstLoss_120 (k := ?_)
      exact hk8 w x2 x3 (x4 + 1) hf
    · replace hf := ite_f q1 hf
      obtain ⟨g3_0, hf⟩ := grd_e hf
      refine bCo_worstLoss_32 (h1 := ct_k c1) (ct := c_Ct_doMeet (d := d + 3) w a1 x4 x5 c1 (fun z0 => vpb_ok (g3_0 z0))) (k := ?_)
      refine bCo_worstLoss_40 (kt := fun q4 => ?_) (kf := fun q4 => ?_)
      · replace hf := ite_f q4 hf
        obtain ⟨w5, e5, hf⟩ := bV_e hf
        refine bCo_worstLoss_46 (ct := c_Co_begin (d := d) w a1 c1 e5) (k := ?_)
        obtain ⟨g6_0, hf⟩ := grd_e hf
        obtain ⟨g6_1, hf⟩ := grd_e hf
        obtain ⟨w6, e6, hf⟩ := bV_e hf
        refine bCo_worstLoss_51 (y1 := 56) (h3 := (vpb_ok g6_0)) (h5 := (vpb_ok g6_0)) (y2 := 56) (h8 := (vpb_ok g6_1)) (h10 := (vpb_ok g6_1)) (ct := c_Co_ride (d := d + 3) (setI (setI w5 56 x4.toNatClampNeg ((w5.1 56 x4.toNatClampNeg) &&& (((1 : Int32) <<< (x5 &&& 31)) ^^^ (-1)))) 56 x5.toNatClampNeg (((setI w5 56 x4.toNatClampNeg ((w5.1 56 x4.toNatClampNeg) &&& (((1 : Int32) <<< (x5 &&& 31)) ^^^ (-1)))).1 56 x5.toNatClampNeg) &&& (((1 : Int32) <<< (x4 &&& 31)) ^^^ (-1)))) (9 : Int32) e6) (k := ?_)
        obtain ⟨v7, w7, e7, hf⟩ := bI_e hf
        refine bCo_worstLoss_89 (ct := c_Co_howManyHaveWhole (d := d + 1) w6 a1 c1 e7) (k := ?_)
        refine bCo_worstLoss_94 (kt := fun q8 => ?_) (kf := fun q8 => ?_)
        · replace hf := ite_t q8 hf
          refine bCo_worstLoss_114 (k := ?_)
          exact ih w7 x2 x3 x4 (x5 + 1) hf
        · replace hf := ite_f q8 hf
          refine bCo_worstLoss_102 (k := ?_)
          refine bCo_worstLoss_114 (k := ?_)
          exact ih w7 ((100 * x4) + x5) v7 x4 (x5 + 1) hf
      · replace hf := ite_t q4 hf
        refine bCo_worstLoss_43 (k := ?_)
        refine bCo_worstLoss_114 (k := ?_)
        exact ih w x2 x3 x4 (x5 + 1) hf
def f_Co_worstLoss_8 (a1 : Nat) : Nat → MW → Int32 → Int32 → Int32 → Option RT
  | 0, _, _, _, _ => none
  | n + 1, w, x2, x3, x4 => if (w.1 a1 1) ≤ x4 then (some (some (.int x2), w)) else (f_Co_worstLoss_23 a1 (fun w x2 x3 x4 => f_Co_worstLoss_8 a1 n w x2 x3 x4) FU w x2 x3 x4 (x4 + 1))
set_option maxHeartbeats 4000000 in
theorem r_Co_worstLoss_8 {d : Nat} {r : Option Value} {w' : MW} (a1 : Nat) (c1 : isCt a1) : ∀ (n : Nat) (w : MW) (x2 : Int32) (x3 : Int32) (x4 : Int32), f_Co_worstLoss_8 a1 n w x2 x3 x4 = some (r, w') → Rn (d + 5) mCo_worstLoss 8 [some (.ref 53), some (.ref a1), some (.int x2), some (.int x3), some (.int x4), none, none] [] w r w' := by
  intro n
  induction n with
  | zero =>
    intro w x2 x3 x4 hf
    cases hf
  | succ n ih =>
    intro w x2 x3 x4 hf
    rw [f_Co_worstLoss_8] at hf
    refine bCo_worstLoss_8 (h1 := ct_g1 c1) (kt := fun q1 => ?_) (kf := fun q1 => ?_)
    · replace hf := ite_t q1 hf
      obtain ⟨rfl, rfl⟩ := ret_e hf
      exact bCo_worstLoss_126 
    · replace hf := ite_f q1 hf
      refine bCo_worstLoss_17 (k := ?_)
      exact r_Co_worstLoss_23 a1 c1 (fun w x2 x3 x4 => f_Co_worstLoss_8 a1 n w x2 x3 x4) ih FU w x2 x3 x4 (x4 + 1) hf
def f_Co_worstLoss (w : MW) (a1 : Nat) : Option RT := f_Co_worstLoss_8 a1 FU w (-1 : Int32) (9 : Int32) (0 : Int32)
set_option maxHeartbeats 4000000 in
theorem c_Co_worstLoss {d : Nat} {r : Option Value} {w' : MW} (w : MW) (a1 : Nat) (c1 : isCt a1) (hf : f_Co_worstLoss w a1 = some (r, w')) : Ct (d + 5) mCo_worstLoss [.ref 53, .ref a1] w r w' := by
  refine eCo_worstLoss ?_
  unfold f_Co_worstLoss at hf
  refine bCo_worstLoss_0 (k := ?_)
  exact r_Co_worstLoss_8 a1 c1 FU w (-1 : Int32) (9 : Int32) (0 : Int32) hf
-- X_needs
def f_X_needs (w : MW) (x1 : Int32) : Option RT := if (v_X_rowRefusal w x1) = 0 then (grd (vpb x1 8 = true) (if (w.1 1 1) ≤ (w.1 (35 + 2 * x1.toNatClampNeg) 1) then (bI (f_Sh_firstWrong w (35 + 2 * x1.toNatClampNeg) (w.1 1 1)) (fun v4 w4 => if v4 = (-1) then (bI (f_Cl_shortestFor w4 1 (35 + 2 * x1.toNatClampNeg)) (fun v6 w6 => some (some (.int v6), w6))) else (some (some (.int (v_X_refuse w4 (-6 : Int32))), u_X_refuse w4 (-6 : Int32))))) else (some (some (.int (v_X_refuse w (-5 : Int32))), u_X_refuse w (-5 : Int32))))) else (some (some (.int (v_X_refuse w (v_X_rowRefusal w x1))), u_X_refuse w (v_X_rowRefusal w x1)))
set_option maxHeartbeats 4000000 in
theorem c_X_needs {d : Nat} {r : Option Value} {w' : MW} (w : MW) (x1 : Int32) (hf : f_X_needs w x1 = some (r, w')) : Ct (d + 2) mX_needs [.ref 0, .int x1] w r w' := by
  refine eX_needs ?_
  unfold f_X_needs at hf
  refine bX_needs_0 (ct := c_X_rowRefusal (d := d) w x1) (k := ?_)
  refine bX_needs_5 (kt := fun q2 => ?_) (kf := fun q2 => ?_)
  · replace hf := ite_t q2 hf
    obtain ⟨g3_0, hf⟩ := grd_e hf
    refine bX_needs_16 (y1 := 34) (y2 := 35 + 2 * x1.toNatClampNeg) (h3 := (vpb_ok g3_0)) (h4 := shr_sh (vpb_ok g3_0)) (h5 := sh_g1 (sh_of (vpb_ok g3_0))) (y3 := 1) (kt := fun q3 => ?_) (kf := fun q3 => ?_)
    · replace hf := ite_t q3 hf
      obtain ⟨v4, w4, e4, hf⟩ := bI_e hf
      refine bX_needs_44 (y1 := 1) (h3 := sh_k (sh_of (vpb_ok g3_0))) (ct := c_Sh_firstWrong (d := d) w (35 + 2 * x1.toNatClampNeg) (w.1 1 1) (sh_of (vpb_ok g3_0)) e4) (k := ?_)
      refine bX_needs_55 (kt := fun q5 => ?_) (kf := fun q5 => ?_)
      · replace hf := ite_t q5 hf
        obtain ⟨v6, w6, e6, hf⟩ := bI_e hf
        refine bX_needs_66 (y1 := 57) (y2 := 1) (ct := c_Cl_shortestFor (d := d) w4 1 (35 + 2 * x1.toNatClampNeg) ct1 (sh_of (vpb_ok g3_0)) e6) (k := ?_)
        obtain ⟨rfl, rfl⟩ := ret_e hf
        exact bX_needs_78 
      · replace hf := ite_f q5 hf
        refine bX_needs_59 (ct := c_X_refuse (d := d + 1) w4 (-6 : Int32)) (k := ?_)
        obtain ⟨rfl, rfl⟩ := ret_e hf
        exact bX_needs_65 
    · replace hf := ite_f q3 hf
      refine bX_needs_37 (ct := c_X_refuse (d := d + 1) w (-5 : Int32)) (k := ?_)
      obtain ⟨rfl, rfl⟩ := ret_e hf
      exact bX_needs_43 
  · replace hf := ite_f q2 hf
    refine bX_needs_10 (ct := c_X_refuse (d := d + 1) w (v_X_rowRefusal w x1)) (k := ?_)
    obtain ⟨rfl, rfl⟩ := ret_e hf
    exact bX_needs_15 
-- Cl_slips
def f_Cl_slips_14 (a1 : Nat) (a2 : Nat) (k5 : MW → Int32 → Int32 → Option RT) : Nat → MW → Int32 → Int32 → Int32 → Option RT
  | 0, _, _, _, _ => none
  | n + 1, w, x3, x4, x5 => if 30 < x5 then (k5 w x3 (x4 + 1)) else (bI (f_Cl_slipHearsJust w a1 x4 x5 a2) (fun v3 w3 => if v3 = 0 then (f_Cl_slips_14 a1 a2 k5 n w3 x3 x4 (x5 + 1)) else (f_Cl_slips_14 a1 a2 k5 n w3 (x3 + 1) x4 (x5 + 1))))
set_option maxHeartbeats 4000000 in
theorem r_Cl_slips_14 {d : Nat} {r : Option Value} {w' : MW} (a1 : Nat) (a2 : Nat) (c1 : isCt a1) (c2 : isSh a2) (k5 : MW → Int32 → Int32 → Option RT) (hk5 : ∀ w x3 x4, k5 w x3 x4 = some (r, w') → Rn (d + 3) mCl_slips 5 [some (.ref 57), some (.ref a1), some (.ref a2), some (.int x3), some (.int x4), none] [] w r w') : ∀ (n : Nat) (w : MW) (x3 : Int32) (x4 : Int32) (x5 : Int32), f_Cl_slips_14 a1 a2 k5 n w x3 x4 x5 = some (r, w') → Rn (d + 3) mCl_slips 14 [some (.ref 57), some (.ref a1), some (.ref a2), some (.int x3), some (.int x4), some (.int x5)] [] w r w' := by
  intro n
  induction n with
  | zero =>
    intro w x3 x4 x5 hf
    cases hf
  | succ n ih =>
    intro w x3 x4 x5 hf
    rw [f_Cl_slips_14] at hf
    refine bCl_slips_14 (kt := fun q1 => ?_) (kf := fun q1 => ?_)
    · replace hf := ite_t q1 hf
      refine bCl_slips_43 (k := ?_)
      exact hk5 w x3 (x4 + 1) hf
    · replace hf := ite_f q1 hf
      obtain ⟨v3, w3, e3, hf⟩ := bI_e hf
      refine bCl_slips_21 (ct := c_Cl_slipHearsJust (d := d) w a1 x4 x5 a2 c1 c2 e3) (k := ?_)
      refine bCl_slips_31 (kt := fun q4 => ?_) (kf := fun q4 => ?_)
      · replace hf := ite_t q4 hf
        refine bCl_slips_37 (k := ?_)
        exact ih w3 x3 x4 (x5 + 1) hf
      · replace hf := ite_f q4 hf
        refine bCl_slips_34 (k := ?_)
        refine bCl_slips_37 (k := ?_)
        exact ih w3 (x3 + 1) x4 (x5 + 1) hf
def f_Cl_slips_5 (a1 : Nat) (a2 : Nat) : Nat → MW → Int32 → Int32 → Option RT
  | 0, _, _, _ => none
  | n + 1, w, x3, x4 => if 3 ≤ x4 then (some (some (.int x3), w)) else (f_Cl_slips_14 a1 a2 (fun w x3 x4 => f_Cl_slips_5 a1 a2 n w x3 x4) FU w x3 x4 (0 : Int32))
set_option maxHeartbeats 4000000 in
theorem r_Cl_slips_5 {d : Nat} {r : Option Value} {w' : MW} (a1 : Nat) (a2 : Nat) (c1 : isCt a1) (c2 : isSh a2) : ∀ (n : Nat) (w : MW) (x3 : Int32) (x4 : Int32), f_Cl_slips_5 a1 a2 n w x3 x4 = some (r, w') → Rn (d + 3) mCl_slips 5 [some (.ref 57), some (.ref a1), some (.ref a2), some (.int x3), some (.int x4), none] [] w r w' := by
  intro n
  induction n with
  | zero =>
    intro w x3 x4 hf
    cases hf
  | succ n ih =>
    intro w x3 x4 hf
    rw [f_Cl_slips_5] at hf
    refine bCl_slips_5 (kt := fun q1 => ?_) (kf := fun q1 => ?_)
    · replace hf := ite_t q1 hf
      obtain ⟨rfl, rfl⟩ := ret_e hf
      exact bCl_slips_49 
    · replace hf := ite_f q1 hf
      refine bCl_slips_11 (k := ?_)
      exact r_Cl_slips_14 a1 a2 c1 c2 (fun w x3 x4 => f_Cl_slips_5 a1 a2 n w x3 x4) ih FU w x3 x4 (0 : Int32) hf
def f_Cl_slips (w : MW) (a1 : Nat) (a2 : Nat) : Option RT := f_Cl_slips_5 a1 a2 FU w (0 : Int32) (0 : Int32)
set_option maxHeartbeats 4000000 in
theorem c_Cl_slips {d : Nat} {r : Option Value} {w' : MW} (w : MW) (a1 : Nat) (a2 : Nat) (c1 : isCt a1) (c2 : isSh a2) (hf : f_Cl_slips w a1 a2 = some (r, w')) : Ct (d + 3) mCl_slips [.ref 57, .ref a1, .ref a2] w r w' := by
  refine eCl_slips ?_
  unfold f_Cl_slips at hf
  refine bCl_slips_0 (k := ?_)
  exact r_Cl_slips_5 a1 a2 c1 c2 FU w (0 : Int32) (0 : Int32) hf
-- Cl_whoHearJust
def f_Cl_whoHearJust_5 (a1 : Nat) (a2 : Nat) : Nat → MW → Int32 → Int32 → Option RT
  | 0, _, _, _ => none
  | n + 1, w, x3, x4 => if (w.1 a1 1) ≤ x4 then (some (some (.int x3), w)) else (bI (f_Ct_his w a1 x4) (fun v3 w3 => bI (f_Cl_isJust w3 a1 v3 a2) (fun v4 w4 => if v4 = 0 then (f_Cl_whoHearJust_5 a1 a2 n w4 x3 (x4 + 1)) else (f_Cl_whoHearJust_5 a1 a2 n w4 (x3 ||| ((1 : Int32) <<< (x4 &&& 31))) (x4 + 1)))))
set_option maxHeartbeats 4000000 in
theorem r_Cl_whoHearJust_5 {d : Nat} {r : Option Value} {w' : MW} (a1 : Nat) (a2 : Nat) (c1 : isCt a1) (c2 : isSh a2) : ∀ (n : Nat) (w : MW) (x3 : Int32) (x4 : Int32), f_Cl_whoHearJust_5 a1 a2 n w x3 x4 = some (r, w') → Rn (d + 4) mCl_whoHearJust 5 [some (.ref 57), some (.ref a1), some (.ref a2), some (.int x3), some (.int x4)] [] w r w' := by
  intro n
  induction n with
  | zero =>
    intro w x3 x4 hf
    cases hf
  | succ n ih =>
    intro w x3 x4 hf
    rw [f_Cl_whoHearJust_5] at hf
    refine bCl_whoHearJust_5 (h1 := ct_g1 c1) (kt := fun q1 => ?_) (kf := fun q1 => ?_)
    · replace hf := ite_t q1 hf
      obtain ⟨rfl, rfl⟩ := ret_e hf
      exact bCl_whoHearJust_42 
    · replace hf := ite_f q1 hf
      obtain ⟨v3, w3, e3, hf⟩ := bI_e hf
      refine bCl_whoHearJust_14 (h1 := ct_k c1) (ct := c_Ct_his (d := d) w a1 x4 c1 e3) (k := ?_)
      obtain ⟨v4, w4, e4, hf⟩ := bI_e hf
      refine bCl_whoHearJust_22 (ct := c_Cl_isJust (d := d + 2) w3 a1 v3 a2 c1 c2 e4) (k := ?_)
      refine bCl_whoHearJust_26 (kt := fun q5 => ?_) (kf := fun q5 => ?_)
      · replace hf := ite_t q5 hf
        refine bCl_whoHearJust_36 (k := ?_)
        exact ih w4 x3 (x4 + 1) hf
      · replace hf := ite_f q5 hf
        refine bCl_whoHearJust_29 (k := ?_)
        refine bCl_whoHearJust_36 (k := ?_)
        exact ih w4 (x3 ||| ((1 : Int32) <<< (x4 &&& 31))) (x4 + 1) hf
def f_Cl_whoHearJust (w : MW) (a1 : Nat) (a2 : Nat) : Option RT := f_Cl_whoHearJust_5 a1 a2 FU w (0 : Int32) (0 : Int32)
set_option maxHeartbeats 4000000 in
theorem c_Cl_whoHearJust {d : Nat} {r : Option Value} {w' : MW} (w : MW) (a1 : Nat) (a2 : Nat) (c1 : isCt a1) (c2 : isSh a2) (hf : f_Cl_whoHearJust w a1 a2 = some (r, w')) : Ct (d + 4) mCl_whoHearJust [.ref 57, .ref a1, .ref a2] w r w' := by
  refine eCl_whoHearJust ?_
  unfold f_Cl_whoHearJust at hf
  refine bCl_whoHearJust_0 (k := ?_)
  exact r_Cl_whoHearJust_5 a1 a2 c1 c2 FU w (0 : Int32) (0 : Int32) hf
-- Cl_bestSwap
def f_Cl_bestSwap_53 (a1 : Nat) (k41 : MW → Int32 → Int32 → Int32 → Int32 → Option RT) : Nat → MW → Int32 → Int32 → Int32 → Int32 → Int32 → Option RT
  | 0, _, _, _, _, _, _ => none
  | n + 1, w, x2, x3, x4, x5, x6 => if x2 ≤ x6 then (k41 w x2 x3 x4 (x5 + 1)) else (grd (vpb x5 30 = true) (grd (vpb x6 30 = true) (if ((w.1 58 x5.toNatClampNeg) - (w.1 58 x5.toNatClampNeg) / 4 * 4) = ((w.1 58 x6.toNatClampNeg) - (w.1 58 x6.toNatClampNeg) / 4 * 4) then (f_Cl_bestSwap_53 a1 k41 n w x2 x3 x4 x5 (x6 + 1)) else (bV (f_Cl_exchange w x5 x6) (fun w4 => bI (f_Cl_howManyHaveSense w4 (w4.1 a1 1) x2) (fun v5 w5 => bV (f_Cl_exchange w5 x5 x6) (fun w6 => if v5 ≤ x4 then (f_Cl_bestSwap_53 a1 k41 n w6 x2 x3 x4 x5 (x6 + 1)) else (f_Cl_bestSwap_53 a1 k41 n w6 x2 ((100 * x5) + x6) v5 x5 (x6 + 1)))))))))
set_option maxHeartbeats 4000000 in
theorem r_Cl_bestSwap_53 {d : Nat} {r : Option Value} {w' : MW} (a1 : Nat) (c1 : isCt a1) (k41 : MW → Int32 → Int32 → Int32 → Int32 → Option RT) (hk41 : ∀ w x2 x3 x4 x5, k41 w x2 x3 x4 x5 = some (r, w') → Rn (d + 5) mCl_bestSwap 41 [some (.ref 57), some (.ref a1), some (.int x2), some (.int x3), some (.int x4), some (.int x5), none, none] [] w r w') : ∀ (n : Nat) (w : MW) (x2 : Int32) (x3 : Int32) (x4 : Int32) (x5 : Int32) (x6 : Int32), f_Cl_bestSwap_53 a1 k41 n w x2 x3 x4 x5 x6 = some (r, w') → Rn (d + 5) mCl_bestSwap 53 [some (.ref 57), some (.ref a1), some (.int x2), some (.int x3), some (.int x4), some (.int x5), some (.int x6), none] [] w r w' := by
  intro n
  induction n with
  | zero =>
    intro w x2 x3 x4 x5 x6 hf
    cases hf
  | succ n ih =>
    intro w x2 x3 x4 x5 x6 hf
    rw [f_Cl_bestSwap_53] at hf
    refine bCl_bestSwap_53 (kt := fun q1 => ?_) (kf := fun q1 => ?_)
    · replace hf := ite_t q1 hf
      refine bCl_bestSwap_136 (k := ?_)
      exact hk41 w x2 x3 x4 (x5 + 1) hf
    · replace hf := ite_f q1 hf
      obtain ⟨g3_0, hf⟩ := grd_e hf
      obtain ⟨g3_1, hf⟩ := grd_e hf
      refine bCl_bestSwap_59 (y1 := 58) (h3 := (vpb_ok g3_0)) (y2 := 58) (h6 := (vpb_ok g3_1)) (kt := fun q3 => ?_) (kf := fun q3 => ?_)
      · replace hf := ite_f q3 hf
        obtain ⟨w4, e4, hf⟩ := bV_e hf
        refine bCl_bestSwap_83 (ct := c_Cl_exchange (d := d + 4) w x5 x6 e4) (k := ?_)
        obtain ⟨v5, w5, e5, hf⟩ := bI_e hf
        refine bCl_bestSwap_91 (h1 := ct_g1 c1) (ct := c_Cl_howManyHaveSense (d := d + 3) w4 (w4.1 a1 1) x2 e5) (k := ?_)
        obtain ⟨w6, e6, hf⟩ := bV_e hf
        refine bCl_bestSwap_100 (ct := c_Cl_exchange (d := d + 4) w5 x5 x6 e6) (k := ?_)
        refine bCl_bestSwap_110 (kt := fun q7 => ?_) (kf := fun q7 => ?_)
        · replace hf := ite_t q7 hf
          refine bCl_bestSwap_130 (k := ?_)
          exact ih w6 x2 x3 x4 x5 (x6 + 1) hf
        · replace hf := ite_f q7 hf
          refine bCl_bestSwap_117 (k := ?_)
          refine bCl_bestSwap_130 (k := ?_)
          exact ih w6 x2 ((100 * x5) + x6) v5 x5 (x6 + 1) hf
      · replace hf := ite_t q3 hf
        refine bCl_bestSwap_80 (k := ?_)
        refine bCl_bestSwap_130 (k := ?_)
        exact ih w x2 x3 x4 x5 (x6 + 1) hf
def f_Cl_bestSwap_41 (a1 : Nat) : Nat → MW → Int32 → Int32 → Int32 → Int32 → Option RT
  | 0, _, _, _, _, _ => none
  | n + 1, w, x2, x3, x4, x5 => if x2 ≤ x5 then (some (some (.int x3), w)) else (f_Cl_bestSwap_53 a1 (fun w x2 x3 x4 x5 => f_Cl_bestSwap_41 a1 n w x2 x3 x4 x5) FU w x2 x3 x4 x5 (x5 + 1))
set_option maxHeartbeats 4000000 in
theorem r_Cl_bestSwap_41 {d : Nat} {r : Option Value} {w' : MW} (a1 : Nat) (c1 : isCt a1) : ∀ (n : Nat) (w : MW) (x2 : Int32) (x3 : Int32) (x4 : Int32) (x5 : Int32), f_Cl_bestSwap_41 a1 n w x2 x3 x4 x5 = some (r, w') → Rn (d + 5) mCl_bestSwap 41 [some (.ref 57), some (.ref a1), some (.int x2), some (.int x3), some (.int x4), some (.int x5), none, none] [] w r w' := by
  intro n
  induction n with
  | zero =>
    intro w x2 x3 x4 x5 hf
    cases hf
  | succ n ih =>
    intro w x2 x3 x4 x5 hf
    rw [f_Cl_bestSwap_41] at hf
    refine bCl_bestSwap_41 (kt := fun q1 => ?_) (kf := fun q1 => ?_)
    · replace hf := ite_t q1 hf
      obtain ⟨rfl, rfl⟩ := ret_e hf
      exact bCl_bestSwap_142 
    · replace hf := ite_f q1 hf
      refine bCl_bestSwap_47 (k := ?_)
      exact r_Cl_bestSwap_53 a1 c1 (fun w x2 x3 x4 x5 => f_Cl_bestSwap_41 a1 n w x2 x3 x4 x5) ih FU w x2 x3 x4 x5 (x5 + 1) hf
def f_Cl_bestSwap (w : MW) (a1 : Nat) : Option RT := bV (f_Cl_listen (setA w 58 (va_cpy (w.1 (a1 + 10)) (w.1 58) (0 : Int32).toNatClampNeg (0 : Int32).toNatClampNeg (30 : Int32).toNatClampNeg)) a1) (fun w1 => bI (f_Cl_howManyHaveSense w1 (w1.1 a1 1) (w.1 a1 3)) (fun v2 w2 => f_Cl_bestSwap_41 a1 FU w2 (w.1 a1 3) (-1 : Int32) v2 (0 : Int32)))
set_option maxHeartbeats 4000000 in
theorem c_Cl_bestSwap {d : Nat} {r : Option Value} {w' : MW} (w : MW) (a1 : Nat) (c1 : isCt a1) (hf : f_Cl_bestSwap w a1 = some (r, w')) : Ct (d + 5) mCl_bestSwap [.ref 57, .ref a1] w r w' := by
  refine eCl_bestSwap ?_
  unfold f_Cl_bestSwap at hf
  obtain ⟨w1, e1, hf⟩ := bV_e hf
  refine bCl_bestSwap_0 (h1 := ct_g3 c1) (y1 := a1 + 10) (h2 := ct_r2 c1) (y2 := 58) (h4 := ⟨ct_k10 c1, rfl⟩) (h5 := by rw [ct_l30 c1]; decide) (ct := c_Cl_listen (d := d) (setA w 58 (va_cpy (w.1 (a1 + 10)) (w.1 58) (0 : Int32).toNatClampNeg (0 : Int32).toNatClampNeg (30 : Int32).toNatClampNeg)) a1 c1 e1) (k := ?_)
  obtain ⟨v2, w2, e2, hf⟩ := bI_e hf
  refine bCl_bestSwap_25 (h1 := ct_g1 c1) (ct := c_Cl_howManyHaveSense (d := d + 3) w1 (w1.1 a1 1) (w.1 a1 3) e2) (k := ?_)
  refine bCl_bestSwap_36 (k := ?_)
  exact r_Cl_bestSwap_41 a1 c1 FU w2 (w.1 a1 3) (-1 : Int32) v2 (0 : Int32) hf
-- X_would
def f_X_would (w : MW) (x1 : Int32) (x2 : Int32) (x3 : Int32) : Option RT := if (v_X_isShelf w x1) = 0 then (some (some (.int (v_X_refuseFar w (-1 : Int32))), u_X_refuseFar w (-1 : Int32))) else (if (v_Ct_isMan w 1 x3) = 0 then (some (some (.int (v_X_refuseFar w (-1 : Int32))), u_X_refuseFar w (-1 : Int32))) else (grd ((v_X_rowRefusal w x1) = 0 → 0 ≤ x2 → vpb x1 8 = true) (if (v_X_tellRefusal w x1 x2) = 0 then (if 30 < x2 then (some (some (.int (v_X_refuseFar w (-6 : Int32))), u_X_refuseFar w (-6 : Int32))) else (grd (vpb x1 8 = true) (bI (f_Sh_firstWrong w (35 + 2 * x1.toNatClampNeg) x2) (fun v12 w12 => if v12 = (-1) then (grd (vpb x1 8 = true) (grd (vpb x3 8 = true) (bI (f_Mn_placesOf w12 (1 + 2 + x3.toNatClampNeg) x2) (fun v14 w14 => bI (f_Cl_senseOfTold w14 (35 + 2 * x1.toNatClampNeg) x2 v14) (fun v15 w15 => some (some (.int v15), w15)))))) else (some (some (.int (v_X_refuseFar w12 (-6 : Int32))), u_X_refuseFar w12 (-6 : Int32))))))) else (some (some (.int (v_X_refuseFar w (v_X_tellRefusal w x1 x2))), u_X_refuseFar w (v_X_tellRefusal w x1 x2))))))
set_option maxHeartbeats 4000000 in
theorem c_X_would {d : Nat} {r : Option Value} {w' : MW} (w : MW) (x1 : Int32) (x2 : Int32) (x3 : Int32) (hf : f_X_would w x1 x2 x3 = some (r, w')) : Ct (d + 3) mX_would [.ref 0, .int x1, .int x2, .int x3] w r w' := by
  refine eX_would ?_
  unfold f_X_would at hf
  refine bX_would_0 (ct := c_X_isShelf (d := d + 2) w x1) (k := ?_)
  refine bX_would_4 (kt := fun q2 => ?_) (kf := fun q2 => ?_)
  · replace hf := ite_t q2 hf
    refine bX_would_18 (ct := c_X_refuseFar (d := d + 1) w (-1 : Int32)) (k := ?_)
    obtain ⟨rfl, rfl⟩ := ret_e hf
    exact bX_would_23 
  · replace hf := ite_f q2 hf
    refine bX_would_7 (y1 := 1) (ct := c_Ct_isMan (d := d + 2) w 1 x3 ct1) (k := ?_)
    refine bX_would_15 (kt := fun q6 => ?_) (kf := fun q6 => ?_)
    · replace hf := ite_f q6 hf
      obtain ⟨g7_0, hf⟩ := grd_e hf
      refine bX_would_24 (ct := c_X_tellRefusal (d := d) w x1 x2 (fun z0 z1 => vpb_ok (g7_0 z0 z1))) (k := ?_)
      refine bX_would_30 (kt := fun q8 => ?_) (kf := fun q8 => ?_)
      · replace hf := ite_t q8 hf
        refine bX_would_44 (kt := fun q9 => ?_) (kf := fun q9 => ?_)
        · replace hf := ite_t q9 hf
          refine bX_would_64 (ct := c_X_refuseFar (d := d + 1) w (-6 : Int32)) (k := ?_)
          obtain ⟨rfl, rfl⟩ := ret_e hf
          exact bX_would_70 
        · replace hf := ite_f q9 hf
          obtain ⟨g12_0, hf⟩ := grd_e hf
          obtain ⟨v12, w12, e12, hf⟩ := bI_e hf
          refine bX_would_50 (y1 := 34) (y2 := 35 + 2 * x1.toNatClampNeg) (h3 := (vpb_ok g12_0)) (h4 := shr_sh (vpb_ok g12_0)) (h5 := sh_k (sh_of (vpb_ok g12_0))) (ct := c_Sh_firstWrong (d := d + 1) w (35 + 2 * x1.toNatClampNeg) x2 (sh_of (vpb_ok g12_0)) e12) (k := ?_)
          refine bX_would_60 (kt := fun q13 => ?_) (kf := fun q13 => ?_)
          · replace hf := ite_t q13 hf
            obtain ⟨g14_0, hf⟩ := grd_e hf
            obtain ⟨g14_1, hf⟩ := grd_e hf
            obtain ⟨v14, w14, e14, hf⟩ := bI_e hf
            refine bX_would_71 (y1 := 57) (y2 := 34) (y3 := 35 + 2 * x1.toNatClampNeg) (h4 := (vpb_ok g14_0)) (h5 := shr_sh (vpb_ok g14_0)) (y4 := 1) (y5 := 2) (y6 := 1 + 2 + x3.toNatClampNeg) (h8 := ct_k12 ct1) (h9 := ct_l8 ct1 (vpb_ok g14_1)) (h10 := ct_mn ct1 (vpb_ok g14_1)) (h11 := mn_k (mn_of ct1 (vpb_ok g14_1))) (ct := c_Mn_placesOf (d := d) w12 (1 + 2 + x3.toNatClampNeg) x2 (mn_of ct1 (vpb_ok g14_1)) e14) (k := ?_)
            obtain ⟨v15, w15, e15, hf⟩ := bI_e hf
            refine bX_would_95 (ct := c_Cl_senseOfTold (d := d + 1) w14 (35 + 2 * x1.toNatClampNeg) x2 v14 (sh_of (vpb_ok g14_0)) e15) (k := ?_)
            obtain ⟨rfl, rfl⟩ := ret_e hf
            exact bX_would_98 
          · replace hf := ite_f q13 hf
            refine bX_would_64 (ct := c_X_refuseFar (d := d + 1) w12 (-6 : Int32)) (k := ?_)
            obtain ⟨rfl, rfl⟩ := ret_e hf
            exact bX_would_70 
      · replace hf := ite_f q8 hf
        refine bX_would_37 (ct := c_X_refuseFar (d := d + 1) w (v_X_tellRefusal w x1 x2)) (k := ?_)
        obtain ⟨rfl, rfl⟩ := ret_e hf
        exact bX_would_43 
    · replace hf := ite_t q6 hf
      refine bX_would_18 (ct := c_X_refuseFar (d := d + 1) w (-1 : Int32)) (k := ?_)
      obtain ⟨rfl, rfl⟩ := ret_e hf
      exact bX_would_23 
-- X_hold
def f_X_hold (w : MW) (x1 : Int32) : Option RT := bV (f_Co_begin w 1) (fun w1 => bV (f_Co_ride w1 x1) (fun w2 => bI (f_Co_believe w2 1) (fun v3 w3 => some (some (.int v3), w3))))
set_option maxHeartbeats 4000000 in
theorem c_X_hold {d : Nat} {r : Option Value} {w' : MW} (w : MW) (x1 : Int32) (hf : f_X_hold w x1 = some (r, w')) : Ct (d + 5) mX_hold [.ref 0, .int x1] w r w' := by
  refine eX_hold ?_
  unfold f_X_hold at hf
  obtain ⟨w1, e1, hf⟩ := bV_e hf
  refine bX_hold_0 (y1 := 53) (y2 := 1) (ct := c_Co_begin (d := d) w 1 ct1 e1) (k := ?_)
  obtain ⟨w2, e2, hf⟩ := bV_e hf
  refine bX_hold_11 (y1 := 53) (ct := c_Co_ride (d := d + 3) w1 x1 e2) (k := ?_)
  obtain ⟨v3, w3, e3, hf⟩ := bI_e hf
  refine bX_hold_19 (y1 := 53) (y2 := 1) (ct := c_Co_believe (d := d + 1) w2 1 ct1 e3) (k := ?_)
  obtain ⟨rfl, rfl⟩ := ret_e hf
  exact bX_hold_30 
-- X_reign
def f_X_reign_22 : Nat → MW → Int32 → Int32 → Int32 → Option RT
  | 0, _, _, _, _ => none
  | n + 1, w, x1, x2, x3 => if x1 ≤ x3 then (some (some (.int x2), w)) else (bV (f_Ct_drawSaying w 1) (fun w3 => bI (f_X_hold w3 (0 : Int32)) (fun v4 w4 => f_X_reign_22 n w4 x1 (x2 + v4) (x3 + 1))))
set_option maxHeartbeats 4000000 in
theorem r_X_reign_22 {d : Nat} {r : Option Value} {w' : MW} : ∀ (n : Nat) (w : MW) (x1 : Int32) (x2 : Int32) (x3 : Int32), f_X_reign_22 n w x1 x2 x3 = some (r, w') → Rn (d + 6) mX_reign 22 [some (.ref 0), some (.int x1), some (.int x2), some (.int x3)] [] w r w' := by
  intro n
  induction n with
  | zero =>
    intro w x1 x2 x3 hf
    cases hf
  | succ n ih =>
    intro w x1 x2 x3 hf
    rw [f_X_reign_22] at hf
    refine bX_reign_22 (kt := fun q1 => ?_) (kf := fun q1 => ?_)
    · replace hf := ite_t q1 hf
      obtain ⟨rfl, rfl⟩ := ret_e hf
      exact bX_reign_48 
    · replace hf := ite_f q1 hf
      obtain ⟨w3, e3, hf⟩ := bV_e hf
      refine bX_reign_27 (y1 := 1) (ct := c_Ct_drawSaying (d := d + 4) w 1 ct1 e3) (k := ?_)
      obtain ⟨v4, w4, e4, hf⟩ := bI_e hf
      refine bX_reign_34 (ct := c_X_hold (d := d) w3 (0 : Int32) e4) (k := ?_)
      refine bX_reign_40 (k := ?_)
      exact ih w4 x1 (x2 + v4) (x3 + 1) hf
def f_X_reign (w : MW) (x1 : Int32) : Option RT := if x1 < 1 then (some (some (.int (v_X_refuse w (-6 : Int32))), u_X_refuse w (-6 : Int32))) else (if x1 ≤ 60 then (f_X_reign_22 FU w x1 (0 : Int32) (0 : Int32)) else (some (some (.int (v_X_refuse w (-6 : Int32))), u_X_refuse w (-6 : Int32))))
set_option maxHeartbeats 4000000 in
theorem c_X_reign {d : Nat} {r : Option Value} {w' : MW} (w : MW) (x1 : Int32) (hf : f_X_reign w x1 = some (r, w')) : Ct (d + 6) mX_reign [.ref 0, .int x1] w r w' := by
  refine eX_reign ?_
  unfold f_X_reign at hf
  refine bX_reign_0 (kt := fun q1 => ?_) (kf := fun q1 => ?_)
  · replace hf := ite_t q1 hf
    refine bX_reign_11 (ct := c_X_refuse (d := d + 5) w (-6 : Int32)) (k := ?_)
    obtain ⟨rfl, rfl⟩ := ret_e hf
    exact bX_reign_17 
  · replace hf := ite_f q1 hf
    refine bX_reign_5 (kt := fun q4 => ?_) (kf := fun q4 => ?_)
    · replace hf := ite_t q4 hf
      refine bX_reign_18 (k := ?_)
      exact r_X_reign_22 FU w x1 (0 : Int32) (0 : Int32) hf
    · replace hf := ite_f q4 hf
      refine bX_reign_11 (ct := c_X_refuse (d := d + 5) w (-6 : Int32)) (k := ?_)
      obtain ⟨rfl, rfl⟩ := ret_e hf
      exact bX_reign_17 
-- Mv_play
def f_Mv_play (w : MW) (a1 : Nat) (x2 : Int32) (x3 : Int32) (x4 : Int32) : Option RT := bI (f_Mv_run (setI (setI (setI w 60 2 x2) 60 3 ((setI w 60 2 x2).1 a1 0)) 60 4 ((setI (setI w 60 2 x2) 60 3 ((setI w 60 2 x2).1 a1 0)).1 a1 1)) ((setI (setI (setI w 60 2 x2) 60 3 ((setI w 60 2 x2).1 a1 0)) 60 4 ((setI (setI w 60 2 x2) 60 3 ((setI w 60 2 x2).1 a1 0)).1 a1 1)).1 60 3) x3 x4 (0 : Int32)) (fun v1 w1 => some (some (.int v1), w1))
set_option maxHeartbeats 4000000 in
theorem c_Mv_play {d : Nat} {r : Option Value} {w' : MW} (w : MW) (a1 : Nat) (x2 : Int32) (x3 : Int32) (x4 : Int32) (c1 : isMn a1) (hf : f_Mv_play w a1 x2 x3 x4 = some (r, w')) : Ct (d + 63) mMv_play [.ref 60, .ref a1, .int x2, .int x3, .int x4] w r w' := by
  refine eMv_play ?_
  unfold f_Mv_play at hf
  obtain ⟨v1, w1, e1, hf⟩ := bI_e hf
  refine bMv_play_0 (h2 := mn_g c1 0 (by decide)) (h4 := mn_g c1 1 (by decide)) (ct := c_Mv_run (d := d) (setI (setI (setI w 60 2 x2) 60 3 ((setI w 60 2 x2).1 a1 0)) 60 4 ((setI (setI w 60 2 x2) 60 3 ((setI w 60 2 x2).1 a1 0)).1 a1 1)) ((setI (setI (setI w 60 2 x2) 60 3 ((setI w 60 2 x2).1 a1 0)) 60 4 ((setI (setI w 60 2 x2) 60 3 ((setI w 60 2 x2).1 a1 0)).1 a1 1)).1 60 3) x3 x4 (0 : Int32) e1) (k := ?_)
  obtain ⟨rfl, rfl⟩ := ret_e hf
  exact bMv_play_33 
-- M_says
def f_M_says (w : MW) (x1 : Int32) (x2 : Int32) : Option RT := if (v_M_within w x1 (0 : Int32) (7 : Int32)) = 0 then (some (some (.int (v_M_no w (-1 : Int32))), u_M_no w (-1 : Int32))) else (if (v_M_within w x2 (0 : Int32) (6 : Int32)) = 0 then (some (some (.int (v_M_no w (-1 : Int32))), u_M_no w (-1 : Int32))) else (grd (vpb x1 8 = true) (if (w.1 63 x1.toNatClampNeg) < 0 then (if 0 ≤ (w.1 63 x1.toNatClampNeg) then (bI (f_M_hisOf w (w.1 63 x1.toNatClampNeg)) (fun v9 w9 => grd (vpb (w.1 63 x1.toNatClampNeg) 8 = true) (bI (f_M_his w9 (0 : Int32) (0 : Int32) (w9.1 68 (w.1 63 x1.toNatClampNeg).toNatClampNeg)) (fun v10 w10 => if x2 = 0 then (grd (vpb (w.1 63 x1.toNatClampNeg) 8 = true) (some (some (.int (w10.1 68 (w.1 63 x1.toNatClampNeg).toNatClampNeg)), w10))) else if x2 = 1 then (bI (f_JI_bitCount w10 v9) (fun v13 w13 => bI (f_JI_bitCount w13 v10) (fun v14 w14 => some (some (.int (v13 - v14)), w14)))) else if x2 = 2 then (bI (f_JI_bitCount w10 v10) (fun v16 w16 => bI (f_JI_bitCount w16 v9) (fun v17 w17 => some (some (.int (v16 - v17)), w17)))) else if x2 = 3 then (bI (f_JI_bitCount w10 v9) (fun v19 w19 => bI (f_JI_bitCount w19 v10) (fun v20 w20 => some (some (.int (v19 - v20)), w20)))) else if x2 = 5 then (bI (f_JI_bitCount w10 v10) (fun v22 w22 => bI (f_JI_bitCount w22 v9) (fun v23 w23 => some (some (.int (v22 - v23)), w23)))) else (bI (f_JI_bitCount w10 (v9 &&& (v10 ^^^ (-1)))) (fun v25 w25 => some (some (.int v25), w25))))))) else (some (some (.int (v_M_no w (-3 : Int32))), u_M_no w (-3 : Int32)))) else (grd (vpb x1 8 = true) (if (v_M_isRow w x1) = 0 then (grd (vpb (w.1 63 x1.toNatClampNeg) 8 = true) (bI (f_M_isUnder w (w.1 66 (w.1 63 x1.toNatClampNeg).toNatClampNeg) x2) (fun v33 w33 => if v33 = 0 then (some (some (.int (v_M_no w33 (-2 : Int32))), u_M_no w33 (-2 : Int32))) else (if 0 ≤ (w.1 63 x1.toNatClampNeg) then (bI (f_M_hisOf w33 (w.1 63 x1.toNatClampNeg)) (fun v36 w36 => grd (vpb (w.1 63 x1.toNatClampNeg) 8 = true) (bI (f_M_his w36 (0 : Int32) (0 : Int32) (w36.1 68 (w.1 63 x1.toNatClampNeg).toNatClampNeg)) (fun v37 w37 => if x2 = 0 then (grd (vpb (w.1 63 x1.toNatClampNeg) 8 = true) (some (some (.int (w37.1 68 (w.1 63 x1.toNatClampNeg).toNatClampNeg)), w37))) else if x2 = 1 then (bI (f_JI_bitCount w37 v36) (fun v40 w40 => bI (f_JI_bitCount w40 v37) (fun v41 w41 => some (some (.int (v40 - v41)), w41)))) else if x2 = 2 then (bI (f_JI_bitCount w37 v37) (fun v43 w43 => bI (f_JI_bitCount w43 v36) (fun v44 w44 => some (some (.int (v43 - v44)), w44)))) else if x2 = 3 then (bI (f_JI_bitCount w37 v36) (fun v46 w46 => bI (f_JI_bitCount w46 v37) (fun v47 w47 => some (some (.int (v46 - v47)), w47)))) else if x2 = 5 then (bI (f_JI_bitCount w37 v37) (fun v49 w49 => bI (f_JI_bitCount w49 v36) (fun v50 w50 => some (some (.int (v49 - v50)), w50)))) else (bI (f_JI_bitCount w37 (v36 &&& (v37 ^^^ (-1)))) (fun v52 w52 => some (some (.int v52), w52))))))) else (some (some (.int (v_M_no w33 (-3 : Int32))), u_M_no w33 (-3 : Int32))))))) else (some (some (.int (v_M_no w (-2 : Int32))), u_M_no w (-2 : Int32))))))))
set_option maxHeartbeats 4000000 in
theorem c_M_says {d : Nat} {r : Option Value} {w' : MW} (w : MW) (x1 : Int32) (x2 : Int32) (hf : f_M_says w x1 x2 = some (r, w')) : Ct (d + 2) mM_says [.ref 62, .int x1, .int x2] w r w' := by
  refine eM_says ?_
  unfold f_M_says at hf
  refine bM_says_0 (ct := c_M_within (d := d + 1) w x1 (0 : Int32) (7 : Int32)) (k := ?_)
  refine bM_says_7 (kt := fun q2 => ?_) (kf := fun q2 => ?_)
  · replace hf := ite_t q2 hf
    refine bM_says_20 (ct := c_M_no (d := d + 1) w (-1 : Int32) (vpd (i := (-(-1 : Int32))) (n := 8) (by decide))) (k := ?_)
    obtain ⟨rfl, rfl⟩ := ret_e hf
    exact bM_says_25 
  · replace hf := ite_f q2 hf
    refine bM_says_10 (ct := c_M_within (d := d + 1) w x2 (0 : Int32) (6 : Int32)) (k := ?_)
    refine bM_says_17 (kt := fun q6 => ?_) (kf := fun q6 => ?_)
    · replace hf := ite_f q6 hf
      obtain ⟨g7_0, hf⟩ := grd_e hf
      refine bM_says_26 (y1 := 63) (h3 := (vpb_ok g7_0)) (kt := fun q7 => ?_) (kf := fun q7 => ?_)
      · replace hf := ite_t q7 hf
        refine bM_says_65 (kt := fun q8 => ?_) (kf := fun q8 => ?_)
        · replace hf := ite_t q8 hf
          obtain ⟨v9, w9, e9, hf⟩ := bI_e hf
          refine bM_says_76 (ct := c_M_hisOf (d := d) w (w.1 63 x1.toNatClampNeg) e9) (k := ?_)
          obtain ⟨g10_0, hf⟩ := grd_e hf
          obtain ⟨v10, w10, e10, hf⟩ := bI_e hf
          refine bM_says_81 (y1 := 68) (h3 := (vpb_ok g10_0)) (ct := c_M_his (d := d + 1) w9 (0 : Int32) (0 : Int32) (w9.1 68 (w.1 63 x1.toNatClampNeg).toNatClampNeg) e10) (k := ?_)
          refine bM_says_95 (k0 := fun q11_0 => ?_) (k1 := fun q11_1 => ?_) (k2 := fun q11_2 => ?_) (k3 := fun q11_3 => ?_) (k5 := fun q11_5 => ?_) (kd := fun q11_0 q11_1 q11_2 q11_3 q11_5 => ?_)
          · have hq := q11_0
            replace hf := ite_t hq hf
            obtain ⟨g12_0, hf⟩ := grd_e hf
            obtain ⟨rfl, rfl⟩ := ret_e hf
            exact bM_says_136 (y1 := 68) (h3 := (vpb_ok g12_0))
          · have hq := q11_1
            replace hf := ite_f (by rw [hq]; decide) hf
            replace hf := ite_t hq hf
            obtain ⟨v13, w13, e13, hf⟩ := bI_e hf
            refine bM_says_143 (ct := c_JI_bitCount (d := d + 1) w10 v9 e13) (k := ?_)
            obtain ⟨v14, w14, e14, hf⟩ := bI_e hf
            refine bM_says_148 (ct := c_JI_bitCount (d := d + 1) w13 v10 e14) (k := ?_)
            obtain ⟨rfl, rfl⟩ := ret_e hf
            exact bM_says_153 
          · have hq := q11_2
            replace hf := ite_f (by rw [hq]; decide) hf
            replace hf := ite_f (by rw [hq]; decide) hf
            replace hf := ite_t hq hf
            obtain ⟨v16, w16, e16, hf⟩ := bI_e hf
            refine bM_says_155 (ct := c_JI_bitCount (d := d + 1) w10 v10 e16) (k := ?_)
            obtain ⟨v17, w17, e17, hf⟩ := bI_e hf
            refine bM_says_160 (ct := c_JI_bitCount (d := d + 1) w16 v9 e17) (k := ?_)
            obtain ⟨rfl, rfl⟩ := ret_e hf
            exact bM_says_165 
          · have hq := q11_3
            replace hf := ite_f (by rw [hq]; decide) hf
            replace hf := ite_f (by rw [hq]; decide) hf
            replace hf := ite_f (by rw [hq]; decide) hf
            replace hf := ite_t hq hf
            obtain ⟨v19, w19, e19, hf⟩ := bI_e hf
            refine bM_says_143 (ct := c_JI_bitCount (d := d + 1) w10 v9 e19) (k := ?_)
            obtain ⟨v20, w20, e20, hf⟩ := bI_e hf
            refine bM_says_148 (ct := c_JI_bitCount (d := d + 1) w19 v10 e20) (k := ?_)
            obtain ⟨rfl, rfl⟩ := ret_e hf
            exact bM_says_153 
          · have hq := q11_5
            replace hf := ite_f (by rw [hq]; decide) hf
            replace hf := ite_f (by rw [hq]; decide) hf
            replace hf := ite_f (by rw [hq]; decide) hf
            replace hf := ite_f (by rw [hq]; decide) hf
            replace hf := ite_t hq hf
            obtain ⟨v22, w22, e22, hf⟩ := bI_e hf
            refine bM_says_155 (ct := c_JI_bitCount (d := d + 1) w10 v10 e22) (k := ?_)
            obtain ⟨v23, w23, e23, hf⟩ := bI_e hf
            refine bM_says_160 (ct := c_JI_bitCount (d := d + 1) w22 v9 e23) (k := ?_)
            obtain ⟨rfl, rfl⟩ := ret_e hf
            exact bM_says_165 
          · replace hf := ite_f q11_0 hf
            replace hf := ite_f q11_1 hf
            replace hf := ite_f q11_2 hf
            replace hf := ite_f q11_3 hf
            replace hf := ite_f q11_5 hf
            obtain ⟨v25, w25, e25, hf⟩ := bI_e hf
            refine bM_says_167 (ct := c_JI_bitCount (d := d + 1) w10 (v9 &&& (v10 ^^^ (-1))) e25) (k := ?_)
            obtain ⟨rfl, rfl⟩ := ret_e hf
            exact bM_says_177 
        · replace hf := ite_f q8 hf
          refine bM_says_69 (ct := c_M_no (d := d + 1) w (-3 : Int32) (vpd (i := (-(-3 : Int32))) (n := 8) (by decide))) (k := ?_)
          obtain ⟨rfl, rfl⟩ := ret_e hf
          exact bM_says_75 
      · replace hf := ite_f q7 hf
        obtain ⟨g29_0, hf⟩ := grd_e hf
        refine bM_says_37 (ct := c_M_isRow (d := d + 1) w x1 (vpb_ok g29_0)) (k := ?_)
        refine bM_says_42 (kt := fun q30 => ?_) (kf := fun q30 => ?_)
        · replace hf := ite_f q30 hf
          refine bM_says_58 (ct := c_M_no (d := d + 1) w (-2 : Int32) (vpd (i := (-(-2 : Int32))) (n := 8) (by decide))) (k := ?_)
          obtain ⟨rfl, rfl⟩ := ret_e hf
          exact bM_says_64 
        · replace hf := ite_t q30 hf
          obtain ⟨g33_0, hf⟩ := grd_e hf
          obtain ⟨v33, w33, e33, hf⟩ := bI_e hf
          refine bM_says_45 (y1 := 66) (h3 := (vpb_ok g33_0)) (ct := c_M_isUnder (d := d) w (w.1 66 (w.1 63 x1.toNatClampNeg).toNatClampNeg) x2 e33) (k := ?_)
          refine bM_says_55 (kt := fun q34 => ?_) (kf := fun q34 => ?_)
          · replace hf := ite_f q34 hf
            refine bM_says_65 (kt := fun q35 => ?_) (kf := fun q35 => ?_)
            · replace hf := ite_t q35 hf
              obtain ⟨v36, w36, e36, hf⟩ := bI_e hf
              refine bM_says_76 (ct := c_M_hisOf (d := d) w33 (w.1 63 x1.toNatClampNeg) e36) (k := ?_)
              obtain ⟨g37_0, hf⟩ := grd_e hf
              obtain ⟨v37, w37, e37, hf⟩ := bI_e hf
              refine bM_says_81 (y1 := 68) (h3 := (vpb_ok g37_0)) (ct := c_M_his (d := d + 1) w36 (0 : Int32) (0 : Int32) (w36.1 68 (w.1 63 x1.toNatClampNeg).toNatClampNeg) e37) (k := ?_)
              refine bM_says_95 (k0 := fun q38_0 => ?_) (k1 := fun q38_1 => ?_) (k2 := fun q38_2 => ?_) (k3 := fun q38_3 => ?_) (k5 := fun q38_5 => ?_) (kd := fun q38_0 q38_1 q38_2 q38_3 q38_5 => ?_)
              · have hq := q38_0
                replace hf := ite_t hq hf
                obtain ⟨g39_0, hf⟩ := grd_e hf
                obtain ⟨rfl, rfl⟩ := ret_e hf
                exact bM_says_136 (y1 := 68) (h3 := (vpb_ok g39_0))
              · have hq := q38_1
                replace hf := ite_f (by rw [hq]; decide) hf
                replace hf := ite_t hq hf
                obtain ⟨v40, w40, e40, hf⟩ := bI_e hf
                refine bM_says_143 (ct := c_JI_bitCount (d := d + 1) w37 v36 e40) (k := ?_)
                obtain ⟨v41, w41, e41, hf⟩ := bI_e hf
                refine bM_says_148 (ct := c_JI_bitCount (d := d + 1) w40 v37 e41) (k := ?_)
                obtain ⟨rfl, rfl⟩ := ret_e hf
                exact bM_says_153 
              · have hq := q38_2
                replace hf := ite_f (by rw [hq]; decide) hf
                replace hf := ite_f (by rw [hq]; decide) hf
                replace hf := ite_t hq hf
                obtain ⟨v43, w43, e43, hf⟩ := bI_e hf
                refine bM_says_155 (ct := c_JI_bitCount (d := d + 1) w37 v37 e43) (k := ?_)
                obtain ⟨v44, w44, e44, hf⟩ := bI_e hf
                refine bM_says_160 (ct := c_JI_bitCount (d := d + 1) w43 v36 e44) (k := ?_)
                obtain ⟨rfl, rfl⟩ := ret_e hf
                exact bM_says_165 
              · have hq := q38_3
                replace hf := ite_f (by rw [hq]; decide) hf
                replace hf := ite_f (by rw [hq]; decide) hf
                replace hf := ite_f (by rw [hq]; decide) hf
                replace hf := ite_t hq hf
                obtain ⟨v46, w46, e46, hf⟩ := bI_e hf
                refine bM_says_143 (ct := c_JI_bitCount (d := d + 1) w37 v36 e46) (k := ?_)
                obtain ⟨v47, w47, e47, hf⟩ := bI_e hf
                refine bM_says_148 (ct := c_JI_bitCount (d := d + 1) w46 v37 e47) (k := ?_)
                obtain ⟨rfl, rfl⟩ := ret_e hf
                exact bM_says_153 
              · have hq := q38_5
                replace hf := ite_f (by rw [hq]; decide) hf
                replace hf := ite_f (by rw [hq]; decide) hf
                replace hf := ite_f (by rw [hq]; decide) hf
                replace hf := ite_f (by rw [hq]; decide) hf
                replace hf := ite_t hq hf
                obtain ⟨v49, w49, e49, hf⟩ := bI_e hf
                refine bM_says_155 (ct := c_JI_bitCount (d := d + 1) w37 v37 e49) (k := ?_)
                obtain ⟨v50, w50, e50, hf⟩ := bI_e hf
                refine bM_says_160 (ct := c_JI_bitCount (d := d + 1) w49 v36 e50) (k := ?_)
                obtain ⟨rfl, rfl⟩ := ret_e hf
                exact bM_says_165 
              · replace hf := ite_f q38_0 hf
                replace hf := ite_f q38_1 hf
                replace hf := ite_f q38_2 hf
                replace hf := ite_f q38_3 hf
                replace hf := ite_f q38_5 hf
                obtain ⟨v52, w52, e52, hf⟩ := bI_e hf
                refine bM_says_167 (ct := c_JI_bitCount (d := d + 1) w37 (v36 &&& (v37 ^^^ (-1))) e52) (k := ?_)
                obtain ⟨rfl, rfl⟩ := ret_e hf
                exact bM_says_177 
            · replace hf := ite_f q35 hf
              refine bM_says_69 (ct := c_M_no (d := d + 1) w33 (-3 : Int32) (vpd (i := (-(-3 : Int32))) (n := 8) (by decide))) (k := ?_)
              obtain ⟨rfl, rfl⟩ := ret_e hf
              exact bM_says_75 
          · replace hf := ite_t q34 hf
            refine bM_says_58 (ct := c_M_no (d := d + 1) w33 (-2 : Int32) (vpd (i := (-(-2 : Int32))) (n := 8) (by decide))) (k := ?_)
            obtain ⟨rfl, rfl⟩ := ret_e hf
            exact bM_says_64 
    · replace hf := ite_t q6 hf
      refine bM_says_20 (ct := c_M_no (d := d + 1) w (-1 : Int32) (vpd (i := (-(-1 : Int32))) (n := 8) (by decide))) (k := ?_)
      obtain ⟨rfl, rfl⟩ := ret_e hf
      exact bM_says_25 
-- M_item
def f_M_item (w : MW) : Option RT := grd (vpb (w.1 62 23) 8 = true) (grd (¬ (w.1 64 (w.1 62 23).toNatClampNeg) ≤ (w.1 62 24) → vpb ((160 * (w.1 62 23)) + (w.1 62 24)) 1280 = true) (if (v_M_sign w ) = 104 then (bI (f_M_word_2 w 88) (fun v3 w3 => if v3 = 0 then (some (some (.int (0 : Int32)), w3)) else (some (some (.int (1 : Int32)), setI w3 62 10 0)))) else if (v_M_sign w ) = 109 then (grd (vpb (w.1 62 23) 8 = true) (if (w.1 64 (w.1 62 23).toNatClampNeg) ≤ ((w.1 62 24) + 1) then (if 8 ≤ (w.1 62 3) then (bI (f_M_word_3 w 84 (0 : Int32)) (fun v10 w10 => if v10 = 0 then (some (some (.int (0 : Int32)), w10)) else (bI (f_M_number w10 (0 : Int32) (0 : Int32) (6 : Int32)) (fun v13 w13 => if v13 = 0 then (some (some (.int (0 : Int32)), w13)) else (bI (f_M_number w13 (1 : Int32) (0 : Int32) (9 : Int32)) (fun v16 w16 => if v16 = 0 then (some (some (.int (0 : Int32)), w16)) else (bI (f_M_number w16 (2 : Int32) (0 : Int32) (2 : Int32)) (fun v19 w19 => if v19 = 0 then (some (some (.int (0 : Int32)), w19)) else (bI (f_M_newMan w19 (w19.1 80 (0 : Int32).toNatClampNeg) (w19.1 80 (1 : Int32).toNatClampNeg) (w19.1 80 (2 : Int32).toNatClampNeg)) (fun v21 w21 => some (some (.int (1 : Int32)), w21))))))))))) else (bI (f_M_word_3 w 84 (1 : Int32)) (fun v25 w25 => if v25 = 0 then (some (some (.int (0 : Int32)), w25)) else (bI (f_M_number w25 (0 : Int32) (0 : Int32) (6 : Int32)) (fun v28 w28 => if v28 = 0 then (some (some (.int (0 : Int32)), w28)) else (bI (f_M_number w28 (1 : Int32) (0 : Int32) (9 : Int32)) (fun v31 w31 => if v31 = 0 then (some (some (.int (0 : Int32)), w31)) else (bI (f_M_number w31 (2 : Int32) (0 : Int32) (2 : Int32)) (fun v34 w34 => if v34 = 0 then (some (some (.int (0 : Int32)), w34)) else (bI (f_M_newMan w34 (w34.1 80 (0 : Int32).toNatClampNeg) (w34.1 80 (1 : Int32).toNatClampNeg) (w34.1 80 (2 : Int32).toNatClampNeg)) (fun v36 w36 => some (some (.int (1 : Int32)), w36)))))))))))) else (grd (vpb (((160 * (w.1 62 23)) + (w.1 62 24)) + 1) 1280 = true) (if ((w.2.1 65 (((160 * (w.1 62 23)) + (w.1 62 24)) + 1).toNatClampNeg).toInt32) = 101 then (bI (f_M_word_2 w 85) (fun v71 w71 => if v71 = 0 then (some (some (.int (0 : Int32)), w71)) else (bI (f_M_two w71 (1 : Int32)) (fun v75 w75 => if v75 = 0 then (some (some (.int (0 : Int32)), w75)) else (some (some (.int (1 : Int32)), w75)))))) else (if 8 ≤ (w.1 62 3) then (bI (f_M_word_3 w 84 (0 : Int32)) (fun v42 w42 => if v42 = 0 then (some (some (.int (0 : Int32)), w42)) else (bI (f_M_number w42 (0 : Int32) (0 : Int32) (6 : Int32)) (fun v45 w45 => if v45 = 0 then (some (some (.int (0 : Int32)), w45)) else (bI (f_M_number w45 (1 : Int32) (0 : Int32) (9 : Int32)) (fun v48 w48 => if v48 = 0 then (some (some (.int (0 : Int32)), w48)) else (bI (f_M_number w48 (2 : Int32) (0 : Int32) (2 : Int32)) (fun v51 w51 => if v51 = 0 then (some (some (.int (0 : Int32)), w51)) else (bI (f_M_newMan w51 (w51.1 80 (0 : Int32).toNatClampNeg) (w51.1 80 (1 : Int32).toNatClampNeg) (w51.1 80 (2 : Int32).toNatClampNeg)) (fun v53 w53 => some (some (.int (1 : Int32)), w53))))))))))) else (bI (f_M_word_3 w 84 (1 : Int32)) (fun v57 w57 => if v57 = 0 then (some (some (.int (0 : Int32)), w57)) else (bI (f_M_number w57 (0 : Int32) (0 : Int32) (6 : Int32)) (fun v60 w60 => if v60 = 0 then (some (some (.int (0 : Int32)), w60)) else (bI (f_M_number w60 (1 : Int32) (0 : Int32) (9 : Int32)) (fun v63 w63 => if v63 = 0 then (some (some (.int (0 : Int32)), w63)) else (bI (f_M_number w63 (2 : Int32) (0 : Int32) (2 : Int32)) (fun v66 w66 => if v66 = 0 then (some (some (.int (0 : Int32)), w66)) else (bI (f_M_newMan w66 (w66.1 80 (0 : Int32).toNatClampNeg) (w66.1 80 (1 : Int32).toNatClampNeg) (w66.1 80 (2 : Int32).toNatClampNeg)) (fun v68 w68 => some (some (.int (1 : Int32)), w68)))))))))))))))) else if (v_M_sign w ) = 112 then (bI (f_M_word_2 w 86) (fun v81 w81 => if v81 = 0 then (some (some (.int (0 : Int32)), w81)) else (bI (f_M_two w81 (0 : Int32)) (fun v85 w85 => if v85 = 0 then (some (some (.int (0 : Int32)), w85)) else (some (some (.int (1 : Int32)), w85)))))) else if (v_M_sign w ) = 119 then (if 30 ≤ (w.1 62 10) then (bI (f_M_word_3 w 87 (0 : Int32)) (fun v93 w93 => if v93 = 0 then (some (some (.int (0 : Int32)), w93)) else (bI (f_M_number w93 (0 : Int32) (0 : Int32) (39 : Int32)) (fun v96 w96 => if v96 = 0 then (some (some (.int (0 : Int32)), w96)) else (grd (vpb (w96.1 62 10) 30 = true) (some (some (.int (1 : Int32)), setI (setI w96 62 10 ((w96.1 62 10) + 1)) 72 (w96.1 62 10).toNatClampNeg ((setI w96 62 10 ((w96.1 62 10) + 1)).1 80 (0 : Int32).toNatClampNeg)))))))) else (bI (f_M_word_3 w 87 (1 : Int32)) (fun v101 w101 => if v101 = 0 then (some (some (.int (0 : Int32)), w101)) else (bI (f_M_number w101 (0 : Int32) (0 : Int32) (39 : Int32)) (fun v104 w104 => if v104 = 0 then (some (some (.int (0 : Int32)), w104)) else (grd (vpb (w104.1 62 10) 30 = true) (some (some (.int (1 : Int32)), setI (setI w104 62 10 ((w104.1 62 10) + 1)) 72 (w104.1 62 10).toNatClampNeg ((setI w104 62 10 ((w104.1 62 10) + 1)).1 80 (0 : Int32).toNatClampNeg))))))))) else (some (some (.int (0 : Int32)), w))))
set_option maxHeartbeats 4000000 in
theorem c_M_item {d : Nat} {r : Option Value} {w' : MW} (w : MW) (hf : f_M_item w = some (r, w')) : Ct (d + 6) mM_item [.ref 62] w r w' := by
  refine eM_item ?_
  unfold f_M_item at hf
  obtain ⟨g1_0, hf⟩ := grd_e hf
  obtain ⟨g1_1, hf⟩ := grd_e hf
  refine bM_item_0 (ct := c_M_sign (d := d + 5) w (vpb_ok g1_0) (fun z0 => vpb_ok (g1_1 z0))) (k := ?_)
  refine bM_item_4 (k104 := fun q2_104 => ?_) (k109 := fun q2_109 => ?_) (k112 := fun q2_112 => ?_) (k119 := fun q2_119 => ?_) (kd := fun q2_104 q2_109 q2_112 q2_119 => ?_)
  · have hq := q2_104
    replace hf := ite_t hq hf
    obtain ⟨v3, w3, e3, hf⟩ := bI_e hf
    refine bM_item_280 (ct := c_M_word_2 (d := d + 1) w 88 (by decide) e3) (k := ?_)
    refine bM_item_286 (kt := fun q4 => ?_) (kf := fun q4 => ?_)
    · replace hf := ite_f q4 hf
      obtain ⟨rfl, rfl⟩ := ret_e hf
      exact bM_item_291 
    · replace hf := ite_t q4 hf
      obtain ⟨rfl, rfl⟩ := ret_e hf
      exact bM_item_289 
  · have hq := q2_109
    replace hf := ite_f (by rw [hq]; decide) hf
    replace hf := ite_t hq hf
    obtain ⟨g7_0, hf⟩ := grd_e hf
    refine bM_item_48 (y1 := 64) (h5 := (vpb_ok g7_0)) (kt := fun q7 => ?_) (kf := fun q7 => ?_)
    · replace hf := ite_t q7 hf
      refine bM_item_115 (kt := fun q8 => ?_) (kf := fun q8 => ?_)
      · replace hf := ite_t q8 hf
        refine bM_item_131 (k := ?_)
        obtain ⟨v10, w10, e10, hf⟩ := bI_e hf
        refine bM_item_132 (ct := c_M_word_3 (d := d) w 84 (0 : Int32) (by decide) e10) (k := ?_)
        refine bM_item_135 (kt := fun q11 => ?_) (kf := fun q11 => ?_)
        · replace hf := ite_t q11 hf
          obtain ⟨rfl, rfl⟩ := ret_e hf
          exact bM_item_170 
        · replace hf := ite_f q11 hf
          obtain ⟨v13, w13, e13, hf⟩ := bI_e hf
          refine bM_item_138 (ct := c_M_number (d := d + 3) w10 (0 : Int32) (0 : Int32) (6 : Int32) e13) (k := ?_)
          refine bM_item_146 (kt := fun q14 => ?_) (kf := fun q14 => ?_)
          · replace hf := ite_t q14 hf
            obtain ⟨rfl, rfl⟩ := ret_e hf
            exact bM_item_170 
          · replace hf := ite_f q14 hf
            obtain ⟨v16, w16, e16, hf⟩ := bI_e hf
            refine bM_item_149 (ct := c_M_number (d := d + 3) w13 (1 : Int32) (0 : Int32) (9 : Int32) e16) (k := ?_)
            refine bM_item_157 (kt := fun q17 => ?_) (kf := fun q17 => ?_)
            · replace hf := ite_t q17 hf
              obtain ⟨rfl, rfl⟩ := ret_e hf
              exact bM_item_170 
            · replace hf := ite_f q17 hf
              obtain ⟨v19, w19, e19, hf⟩ := bI_e hf
              refine bM_item_160 (ct := c_M_number (d := d + 3) w16 (2 : Int32) (0 : Int32) (2 : Int32) e19) (k := ?_)
              refine bM_item_167 (kt := fun q20 => ?_) (kf := fun q20 => ?_)
              · replace hf := ite_f q20 hf
                obtain ⟨v21, w21, e21, hf⟩ := bI_e hf
                refine bM_item_172 (y1 := 80) (h3 := (vpd (i := (0 : Int32)) (n := 3) (by decide))) (y2 := 80) (h6 := (vpd (i := (1 : Int32)) (n := 3) (by decide))) (y3 := 80) (h9 := (vpd (i := (2 : Int32)) (n := 3) (by decide))) (ct := c_M_newMan (d := d + 5) w19 (w19.1 80 (0 : Int32).toNatClampNeg) (w19.1 80 (1 : Int32).toNatClampNeg) (w19.1 80 (2 : Int32).toNatClampNeg) e21) (k := ?_)
                obtain ⟨rfl, rfl⟩ := ret_e hf
                exact bM_item_194 
              · replace hf := ite_t q20 hf
                obtain ⟨rfl, rfl⟩ := ret_e hf
                exact bM_item_170 
      · replace hf := ite_f q8 hf
        refine bM_item_127 (k := ?_)
        obtain ⟨v25, w25, e25, hf⟩ := bI_e hf
        refine bM_item_132 (ct := c_M_word_3 (d := d) w 84 (1 : Int32) (by decide) e25) (k := ?_)
        refine bM_item_135 (kt := fun q26 => ?_) (kf := fun q26 => ?_)
        · replace hf := ite_t q26 hf
          obtain ⟨rfl, rfl⟩ := ret_e hf
          exact bM_item_170 
        · replace hf := ite_f q26 hf
          obtain ⟨v28, w28, e28, hf⟩ := bI_e hf
          refine bM_item_138 (ct := c_M_number (d := d + 3) w25 (0 : Int32) (0 : Int32) (6 : Int32) e28) (k := ?_)
          refine bM_item_146 (kt := fun q29 => ?_) (kf := fun q29 => ?_)
          · replace hf := ite_t q29 hf
            obtain ⟨rfl, rfl⟩ := ret_e hf
            exact bM_item_170 
          · replace hf := ite_f q29 hf
            obtain ⟨v31, w31, e31, hf⟩ := bI_e hf
            refine bM_item_149 (ct := c_M_number (d := d + 3) w28 (1 : Int32) (0 : Int32) (9 : Int32) e31) (k := ?_)
            refine bM_item_157 (kt := fun q32 => ?_) (kf := fun q32 => ?_)
            · replace hf := ite_t q32 hf
              obtain ⟨rfl, rfl⟩ := ret_e hf
              exact bM_item_170 
            · replace hf := ite_f q32 hf
              obtain ⟨v34, w34, e34, hf⟩ := bI_e hf
              refine bM_item_160 (ct := c_M_number (d := d + 3) w31 (2 : Int32) (0 : Int32) (2 : Int32) e34) (k := ?_)
              refine bM_item_167 (kt := fun q35 => ?_) (kf := fun q35 => ?_)
              · replace hf := ite_f q35 hf
                obtain ⟨v36, w36, e36, hf⟩ := bI_e hf
                refine bM_item_172 (y1 := 80) (h3 := (vpd (i := (0 : Int32)) (n := 3) (by decide))) (y2 := 80) (h6 := (vpd (i := (1 : Int32)) (n := 3) (by decide))) (y3 := 80) (h9 := (vpd (i := (2 : Int32)) (n := 3) (by decide))) (ct := c_M_newMan (d := d + 5) w34 (w34.1 80 (0 : Int32).toNatClampNeg) (w34.1 80 (1 : Int32).toNatClampNeg) (w34.1 80 (2 : Int32).toNatClampNeg) e36) (k := ?_)
                obtain ⟨rfl, rfl⟩ := ret_e hf
                exact bM_item_194 
              · replace hf := ite_t q35 hf
                obtain ⟨rfl, rfl⟩ := ret_e hf
                exact bM_item_170 
    · replace hf := ite_f q7 hf
      obtain ⟨g39_0, hf⟩ := grd_e hf
      refine bM_item_66 (y1 := 65) (h5 := (vpb_ok g39_0)) (kt := fun q39 => ?_) (kf := fun q39 => ?_)
      · replace hf := ite_f q39 hf
        refine bM_item_115 (kt := fun q40 => ?_) (kf := fun q40 => ?_)
        · replace hf := ite_t q40 hf
          refine bM_item_131 (k := ?_)
          obtain ⟨v42, w42, e42, hf⟩ := bI_e hf
          refine bM_item_132 (ct := c_M_word_3 (d := d) w 84 (0 : Int32) (by decide) e42) (k := ?_)
          refine bM_item_135 (kt := fun q43 => ?_) (kf := fun q43 => ?_)
          · replace hf := ite_t q43 hf
            obtain ⟨rfl, rfl⟩ := ret_e hf
            exact bM_item_170 
          · replace hf := ite_f q43 hf
            obtain ⟨v45, w45, e45, hf⟩ := bI_e hf
            refine bM_item_138 (ct := c_M_number (d := d + 3) w42 (0 : Int32) (0 : Int32) (6 : Int32) e45) (k := ?_)
            refine bM_item_146 (kt := fun q46 => ?_) (kf := fun q46 => ?_)
            · replace hf := ite_t q46 hf
              obtain ⟨rfl, rfl⟩ := ret_e hf
              exact bM_item_170 
            · replace hf := ite_f q46 hf
              obtain ⟨v48, w48, e48, hf⟩ := bI_e hf
              refine bM_item_149 (ct := c_M_number (d := d + 3) w45 (1 : Int32) (0 : Int32) (9 : Int32) e48) (k := ?_)
              refine bM_item_157 (kt := fun q49 => ?_) (kf := fun q49 => ?_)
              · replace hf := ite_t q49 hf
                obtain ⟨rfl, rfl⟩ := ret_e hf
                exact bM_item_170 
              · replace hf := ite_f q49 hf
                obtain ⟨v51, w51, e51, hf⟩ := bI_e hf
                refine bM_item_160 (ct := c_M_number (d := d + 3) w48 (2 : Int32) (0 : Int32) (2 : Int32) e51) (k := ?_)
                refine bM_item_167 (kt := fun q52 => ?_) (kf := fun q52 => ?_)
                · replace hf := ite_f q52 hf
                  obtain ⟨v53, w53, e53, hf⟩ := bI_e hf
                  refine bM_item_172 (y1 := 80) (h3 := (vpd (i := (0 : Int32)) (n := 3) (by decide))) (y2 := 80) (h6 := (vpd (i := (1 : Int32)) (n := 3) (by decide))) (y3 := 80) (h9 := (vpd (i := (2 : Int32)) (n := 3) (by decide))) (ct := c_M_newMan (d := d + 5) w51 (w51.1 80 (0 : Int32).toNatClampNeg) (w51.1 80 (1 : Int32).toNatClampNeg) (w51.1 80 (2 : Int32).toNatClampNeg) e53) (k := ?_)
                  obtain ⟨rfl, rfl⟩ := ret_e hf
                  exact bM_item_194 
                · replace hf := ite_t q52 hf
                  obtain ⟨rfl, rfl⟩ := ret_e hf
                  exact bM_item_170 
        · replace hf := ite_f q40 hf
          refine bM_item_127 (k := ?_)
          obtain ⟨v57, w57, e57, hf⟩ := bI_e hf
          refine bM_item_132 (ct := c_M_word_3 (d := d) w 84 (1 : Int32) (by decide) e57) (k := ?_)
          refine bM_item_135 (kt := fun q58 => ?_) (kf := fun q58 => ?_)
          · replace hf := ite_t q58 hf
            obtain ⟨rfl, rfl⟩ := ret_e hf
            exact bM_item_170 
          · replace hf := ite_f q58 hf
            obtain ⟨v60, w60, e60, hf⟩ := bI_e hf
            refine bM_item_138 (ct := c_M_number (d := d + 3) w57 (0 : Int32) (0 : Int32) (6 : Int32) e60) (k := ?_)
            refine bM_item_146 (kt := fun q61 => ?_) (kf := fun q61 => ?_)
            · replace hf := ite_t q61 hf
              obtain ⟨rfl, rfl⟩ := ret_e hf
              exact bM_item_170 
            · replace hf := ite_f q61 hf
              obtain ⟨v63, w63, e63, hf⟩ := bI_e hf
              refine bM_item_149 (ct := c_M_number (d := d + 3) w60 (1 : Int32) (0 : Int32) (9 : Int32) e63) (k := ?_)
              refine bM_item_157 (kt := fun q64 => ?_) (kf := fun q64 => ?_)
              · replace hf := ite_t q64 hf
                obtain ⟨rfl, rfl⟩ := ret_e hf
                exact bM_item_170 
              · replace hf := ite_f q64 hf
                obtain ⟨v66, w66, e66, hf⟩ := bI_e hf
                refine bM_item_160 (ct := c_M_number (d := d + 3) w63 (2 : Int32) (0 : Int32) (2 : Int32) e66) (k := ?_)
                refine bM_item_167 (kt := fun q67 => ?_) (kf := fun q67 => ?_)
                · replace hf := ite_f q67 hf
                  obtain ⟨v68, w68, e68, hf⟩ := bI_e hf
                  refine bM_item_172 (y1 := 80) (h3 := (vpd (i := (0 : Int32)) (n := 3) (by decide))) (y2 := 80) (h6 := (vpd (i := (1 : Int32)) (n := 3) (by decide))) (y3 := 80) (h9 := (vpd (i := (2 : Int32)) (n := 3) (by decide))) (ct := c_M_newMan (d := d + 5) w66 (w66.1 80 (0 : Int32).toNatClampNeg) (w66.1 80 (1 : Int32).toNatClampNeg) (w66.1 80 (2 : Int32).toNatClampNeg) e68) (k := ?_)
                  obtain ⟨rfl, rfl⟩ := ret_e hf
                  exact bM_item_194 
                · replace hf := ite_t q67 hf
                  obtain ⟨rfl, rfl⟩ := ret_e hf
                  exact bM_item_170 
      · replace hf := ite_t q39 hf
        obtain ⟨v71, w71, e71, hf⟩ := bI_e hf
        refine bM_item_92 (ct := c_M_word_2 (d := d + 1) w 85 (by decide) e71) (k := ?_)
        refine bM_item_98 (kt := fun q72 => ?_) (kf := fun q72 => ?_)
        · replace hf := ite_t q72 hf
          refine bM_item_113 (k := ?_)
          obtain ⟨rfl, rfl⟩ := ret_e hf
          exact bM_item_114 
        · replace hf := ite_f q72 hf
          obtain ⟨v75, w75, e75, hf⟩ := bI_e hf
          refine bM_item_101 (ct := c_M_two (d := d + 2) w71 (1 : Int32) e75) (k := ?_)
          refine bM_item_106 (kt := fun q76 => ?_) (kf := fun q76 => ?_)
          · replace hf := ite_t q76 hf
            refine bM_item_113 (k := ?_)
            obtain ⟨rfl, rfl⟩ := ret_e hf
            exact bM_item_114 
          · replace hf := ite_f q76 hf
            refine bM_item_109 (k := ?_)
            obtain ⟨rfl, rfl⟩ := ret_e hf
            exact bM_item_114 
  · have hq := q2_112
    replace hf := ite_f (by rw [hq]; decide) hf
    replace hf := ite_f (by rw [hq]; decide) hf
    replace hf := ite_t hq hf
    obtain ⟨v81, w81, e81, hf⟩ := bI_e hf
    refine bM_item_197 (ct := c_M_word_2 (d := d + 1) w 86 (by decide) e81) (k := ?_)
    refine bM_item_203 (kt := fun q82 => ?_) (kf := fun q82 => ?_)
    · replace hf := ite_t q82 hf
      refine bM_item_218 (k := ?_)
      obtain ⟨rfl, rfl⟩ := ret_e hf
      exact bM_item_219 
    · replace hf := ite_f q82 hf
      obtain ⟨v85, w85, e85, hf⟩ := bI_e hf
      refine bM_item_206 (ct := c_M_two (d := d + 2) w81 (0 : Int32) e85) (k := ?_)
      refine bM_item_211 (kt := fun q86 => ?_) (kf := fun q86 => ?_)
      · replace hf := ite_t q86 hf
        refine bM_item_218 (k := ?_)
        obtain ⟨rfl, rfl⟩ := ret_e hf
        exact bM_item_219 
      · replace hf := ite_f q86 hf
        refine bM_item_214 (k := ?_)
        obtain ⟨rfl, rfl⟩ := ret_e hf
        exact bM_item_219 
  · have hq := q2_119
    replace hf := ite_f (by rw [hq]; decide) hf
    replace hf := ite_f (by rw [hq]; decide) hf
    replace hf := ite_f (by rw [hq]; decide) hf
    replace hf := ite_t hq hf
    refine bM_item_220 (kt := fun q91 => ?_) (kf := fun q91 => ?_)
    · replace hf := ite_t q91 hf
      refine bM_item_236 (k := ?_)
      obtain ⟨v93, w93, e93, hf⟩ := bI_e hf
      refine bM_item_237 (ct := c_M_word_3 (d := d) w 87 (0 : Int32) (by decide) e93) (k := ?_)
      refine bM_item_240 (kt := fun q94 => ?_) (kf := fun q94 => ?_)
      · replace hf := ite_t q94 hf
        obtain ⟨rfl, rfl⟩ := ret_e hf
        exact bM_item_254 
      · replace hf := ite_f q94 hf
        obtain ⟨v96, w96, e96, hf⟩ := bI_e hf
        refine bM_item_243 (ct := c_M_number (d := d + 3) w93 (0 : Int32) (0 : Int32) (39 : Int32) e96) (k := ?_)
        refine bM_item_251 (kt := fun q97 => ?_) (kf := fun q97 => ?_)
        · replace hf := ite_f q97 hf
          obtain ⟨g98_0, hf⟩ := grd_e hf
          obtain ⟨rfl, rfl⟩ := ret_e hf
          exact bM_item_256 (y1 := 72) (y2 := 80) (h6 := (vpd (i := (0 : Int32)) (n := 3) (by decide))) (h8 := (vpb_ok g98_0))
        · replace hf := ite_t q97 hf
          obtain ⟨rfl, rfl⟩ := ret_e hf
          exact bM_item_254 
    · replace hf := ite_f q91 hf
      refine bM_item_232 (k := ?_)
      obtain ⟨v101, w101, e101, hf⟩ := bI_e hf
      refine bM_item_237 (ct := c_M_word_3 (d := d) w 87 (1 : Int32) (by decide) e101) (k := ?_)
      refine bM_item_240 (kt := fun q102 => ?_) (kf := fun q102 => ?_)
      · replace hf := ite_t q102 hf
        obtain ⟨rfl, rfl⟩ := ret_e hf
        exact bM_item_254 
      · replace hf := ite_f q102 hf
        obtain ⟨v104, w104, e104, hf⟩ := bI_e hf
        refine bM_item_243 (ct := c_M_number (d := d + 3) w101 (0 : Int32) (0 : Int32) (39 : Int32) e104) (k := ?_)
        refine bM_item_251 (kt := fun q105 => ?_) (kf := fun q105 => ?_)
        · replace hf := ite_f q105 hf
          obtain ⟨g106_0, hf⟩ := grd_e hf
          obtain ⟨rfl, rfl⟩ := ret_e hf
          exact bM_item_256 (y1 := 72) (y2 := 80) (h6 := (vpd (i := (0 : Int32)) (n := 3) (by decide))) (h8 := (vpb_ok g106_0))
        · replace hf := ite_t q105 hf
          obtain ⟨rfl, rfl⟩ := ret_e hf
          exact bM_item_254 
  · replace hf := ite_f q2_104 hf
    replace hf := ite_f q2_109 hf
    replace hf := ite_f q2_112 hf
    replace hf := ite_f q2_119 hf
    obtain ⟨rfl, rfl⟩ := ret_e hf
    exact bM_item_298 
-- M_sense
def f_M_sense (w : MW) (x1 : Int32) (x2 : Int32) : Option RT := if (v_M_isMan w x1) = 0 then (some (some (.int (v_M_no10 w (-1 : Int32))), u_M_no10 w (-1 : Int32))) else (if (v_M_isRounds w x2) = 0 then (some (some (.int (v_M_no10 w (-6 : Int32))), u_M_no10 w (-6 : Int32))) else (bV (f_M_goOn w x2) (fun w5 => grd (vpb x1 8 = true) (bI (f_M_senseOf w5 (w5.1 77 x1.toNatClampNeg)) (fun v6 w6 => some (some (.int v6), w6))))))
set_option maxHeartbeats 4000000 in
theorem c_M_sense {d : Nat} {r : Option Value} {w' : MW} (w : MW) (x1 : Int32) (x2 : Int32) (hf : f_M_sense w x1 x2 = some (r, w')) : Ct (d + 3) mM_sense [.ref 62, .int x1, .int x2] w r w' := by
  refine eM_sense ?_
  unfold f_M_sense at hf
  refine bM_sense_0 (ct := c_M_isMan (d := d + 1) w x1) (k := ?_)
  refine bM_sense_5 (kt := fun q2 => ?_) (kf := fun q2 => ?_)
  · replace hf := ite_f q2 hf
    refine bM_sense_14 (ct := c_M_isRounds (d := d + 1) w x2) (k := ?_)
    refine bM_sense_18 (kt := fun q4 => ?_) (kf := fun q4 => ?_)
    · replace hf := ite_f q4 hf
      obtain ⟨w5, e5, hf⟩ := bV_e hf
      refine bM_sense_28 (ct := c_M_goOn (d := d) w x2 e5) (k := ?_)
      obtain ⟨g6_0, hf⟩ := grd_e hf
      obtain ⟨v6, w6, e6, hf⟩ := bI_e hf
      refine bM_sense_33 (y1 := 77) (h3 := (vpb_ok g6_0)) (ct := c_M_senseOf (d := d + 1) w5 (w5.1 77 x1.toNatClampNeg) e6) (k := ?_)
      obtain ⟨rfl, rfl⟩ := ret_e hf
      exact bM_sense_43 
    · replace hf := ite_t q4 hf
      refine bM_sense_21 (ct := c_M_no10 (d := d + 1) w (-6 : Int32) (vpd (i := (-(-6 : Int32))) (n := 8) (by decide))) (k := ?_)
      obtain ⟨rfl, rfl⟩ := ret_e hf
      exact bM_sense_27 
  · replace hf := ite_t q2 hf
    refine bM_sense_8 (ct := c_M_no10 (d := d + 1) w (-1 : Int32) (vpd (i := (-(-1 : Int32))) (n := 8) (by decide))) (k := ?_)
    obtain ⟨rfl, rfl⟩ := ret_e hf
    exact bM_sense_13 
-- M_together
def f_M_together (w : MW) (x1 : Int32) (x2 : Int32) : Option RT := if (v_M_within w x2 (0 : Int32) (2 : Int32)) = 0 then (some (some (.int (v_M_no10 w (-5 : Int32))), u_M_no10 w (-5 : Int32))) else (bI (f_M_isSet w x1) (fun v3 w3 => if v3 = 0 then (some (some (.int (v_M_no10 w3 (-6 : Int32))), u_M_no10 w3 (-6 : Int32))) else (bI (f_M_heardBy w3 x1) (fun v5 w5 => if x2 = 0 then (bI (f_M_senseOf w5 v5) (fun v17 w17 => some (some (.int v17), w17))) else (if x2 = 1 then (bI (f_JI_bitCount w5 v5) (fun v14 w14 => some (some (.int ((w5.1 62 10) - v14)), w14))) else (bI (f_M_isSure w5 v5) (fun v8 w8 => if v8 = 0 then (some (some (.int (0 : Int32)), w8)) else (some (some (.int (1 : Int32)), w8)))))))))
set_option maxHeartbeats 4000000 in
theorem c_M_together {d : Nat} {r : Option Value} {w' : MW} (w : MW) (x1 : Int32) (x2 : Int32) (hf : f_M_together w x1 x2 = some (r, w')) : Ct (d + 4) mM_together [.ref 62, .int x1, .int x2] w r w' := by
  refine eM_together ?_
  unfold f_M_together at hf
  refine bM_together_0 (ct := c_M_within (d := d + 3) w x2 (0 : Int32) (2 : Int32)) (k := ?_)
  refine bM_together_6 (kt := fun q2 => ?_) (kf := fun q2 => ?_)
  · replace hf := ite_f q2 hf
    obtain ⟨v3, w3, e3, hf⟩ := bI_e hf
    refine bM_together_16 (ct := c_M_isSet (d := d + 3) w x1 e3) (k := ?_)
    refine bM_together_21 (kt := fun q4 => ?_) (kf := fun q4 => ?_)
    · replace hf := ite_f q4 hf
      obtain ⟨v5, w5, e5, hf⟩ := bI_e hf
      refine bM_together_31 (ct := c_M_heardBy (d := d + 1) w3 x1 e5) (k := ?_)
      refine bM_together_36 (kt := fun q6 => ?_) (kf := fun q6 => ?_)
      · replace hf := ite_f q6 hf
        refine bM_together_49 (kt := fun q7 => ?_) (kf := fun q7 => ?_)
        · replace hf := ite_f q7 hf
          obtain ⟨v8, w8, e8, hf⟩ := bI_e hf
          refine bM_together_66 (ct := c_M_isSure (d := d) w5 v5 e8) (k := ?_)
          refine bM_together_71 (kt := fun q9 => ?_) (kf := fun q9 => ?_)
          · replace hf := ite_t q9 hf
            refine bM_together_78 (k := ?_)
            obtain ⟨rfl, rfl⟩ := ret_e hf
            exact bM_together_79 
          · replace hf := ite_f q9 hf
            refine bM_together_74 (k := ?_)
            obtain ⟨rfl, rfl⟩ := ret_e hf
            exact bM_together_79 
        · replace hf := ite_t q7 hf
          obtain ⟨v14, w14, e14, hf⟩ := bI_e hf
          refine bM_together_54 (ct := c_JI_bitCount (d := d + 3) w5 v5 e14) (k := ?_)
          refine bM_together_62 (k := ?_)
          obtain ⟨rfl, rfl⟩ := ret_e hf
          exact bM_together_79 
      · replace hf := ite_t q6 hf
        obtain ⟨v17, w17, e17, hf⟩ := bI_e hf
        refine bM_together_41 (ct := c_M_senseOf (d := d + 2) w5 v5 e17) (k := ?_)
        refine bM_together_46 (k := ?_)
        obtain ⟨rfl, rfl⟩ := ret_e hf
        exact bM_together_79 
    · replace hf := ite_t q4 hf
      refine bM_together_24 (ct := c_M_no10 (d := d + 2) w3 (-6 : Int32) (vpd (i := (-(-6 : Int32))) (n := 8) (by decide))) (k := ?_)
      obtain ⟨rfl, rfl⟩ := ret_e hf
      exact bM_together_30 
  · replace hf := ite_t q2 hf
    refine bM_together_9 (ct := c_M_no10 (d := d + 2) w (-5 : Int32) (vpd (i := (-(-5 : Int32))) (n := 8) (by decide))) (k := ?_)
    obtain ⟨rfl, rfl⟩ := ret_e hf
    exact bM_together_15 
