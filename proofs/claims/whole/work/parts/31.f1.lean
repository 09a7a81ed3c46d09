def isIRow (a : Nat) : Prop := kd a = 10 ∧ al a = 30
def isIRow81 (a : Nat) : Prop := kd a = 10 ∧ al a = 81
theorem al_to {a n : Nat} {i : Int32} (ha : al a = n) (hi : vp_in i n) : vp_in i (al a) := by rw [ha]; exact hi
theorem sh_l160 {a : Nat} (h : isSh a) : al (a + 1) = 160 := by
  obtain ⟨s, hs, rfl⟩ := h
  rcases lt8 hs with rfl | rfl | rfl | rfl | rfl | rfl | rfl | rfl <;> rfl
-- Sh_takeRow
def f_Sh_takeRow_15 (a0 : Nat) : Nat → MW → Int32 → Int32 → Option RT
  | 0, _, _, _ => none
  | n + 1, w, x2, x3 => if x2 ≤ x3 then (some (none, w)) else (if 160 ≤ x3 then (some (none, w)) else (grd (vpb x3 160 = true) (f_Sh_takeRow_15 a0 n (setL w (a0 + 1) x3.toNatClampNeg (Int64.ofNat 0)) x2 (x3 + 1))))
set_option maxHeartbeats 4000000 in
theorem r_Sh_takeRow_15 {d : Nat} {r : Option Value} {w' : MW} (a0 : Nat) (c0 : isSh a0) : ∀ (n : Nat) (w : MW) (x2 : Int32) (x3 : Int32), f_Sh_takeRow_15 a0 n w x2 x3 = some (r, w') → Rn d mSh_takeRow 15 [some (.ref a0), none, some (.int x2), some (.int x3)] [] w r w' := by
  intro n
  induction n with
  | zero =>
    intro w x2 x3 hf
    cases hf
  | succ n ih =>
    intro w x2 x3 hf
    rw [f_Sh_takeRow_15] at hf
    refine bSh_takeRow_15 (kt := fun q1 => ?_) (kf := fun q1 => ?_)
    · replace hf := ite_t q1 hf
      obtain ⟨rfl, rfl⟩ := ret_e hf
      exact bSh_takeRow_40 
    · replace hf := ite_f q1 hf
      refine bSh_takeRow_20 (kt := fun q3 => ?_) (kf := fun q3 => ?_)
      · replace hf := ite_t q3 hf
        obtain ⟨rfl, rfl⟩ := ret_e hf
        exact bSh_takeRow_40 
      · replace hf := ite_f q3 hf
        obtain ⟨g5_0, hf⟩ := grd_e hf
        refine bSh_takeRow_27 (y1 := a0 + 1) (h1 := sh_r2 c0) (h2 := sh_k1 c0) (h3 := sh_in c0 (vpb_ok g5_0)) (k := ?_)
        exact ih (setL w (a0 + 1) x3.toNatClampNeg (Int64.ofNat 0)) x2 (x3 + 1) hf
def f_Sh_takeRow (w : MW) (a0 : Nat) (x1 : Int32) (x2 : Int32) : Option RT := f_Sh_takeRow_15 a0 FU (setI (setI w a0 0 (100 + x1)) a0 1 x2) x2 (0 : Int32)
set_option maxHeartbeats 4000000 in
theorem c_Sh_takeRow {d : Nat} {r : Option Value} {w' : MW} (w : MW) (a0 : Nat) (x1 : Int32) (x2 : Int32) (c0 : isSh a0) (hf : f_Sh_takeRow w a0 x1 x2 = some (r, w')) : Ct d mSh_takeRow [.ref a0, .int x1, .int x2] w r w' := by
  refine eSh_takeRow ?_
  unfold f_Sh_takeRow at hf
  refine bSh_takeRow_0 (h1 := sh_g0 c0) (h2 := sh_g1 c0) (k := ?_)
  exact r_Sh_takeRow_15 a0 c0 FU (setI (setI w a0 0 (100 + x1)) a0 1 x2) x2 (0 : Int32) hf
-- X_set
def f_X_set (w : MW) (x1 : Int32) (x2 : Int32) (z3 : Int64) : Option RT := if (v_X_rowRefusal w x1) = 0 then (grd (vpb x1 8 = true) (if (v_Sh_has w (35 + 2 * x1.toNatClampNeg) x2) = 0 then (some (some (.int (v_X_refuse w (-5 : Int32))), u_X_refuse w (-5 : Int32))) else (grd (vpb x1 8 = true) (grd (¬ (v_Sh_has w (35 + 2 * x1.toNatClampNeg) x2) = 0 → ((w.1 (35 + 2 * x1.toNatClampNeg) 0) - 100) = 0 → vpb x2 160 = true) (grd (¬ (v_Sh_has w (35 + 2 * x1.toNatClampNeg) x2) = 0 → ((w.1 (35 + 2 * x1.toNatClampNeg) 0) - 100) = 1 → vpb x2 160 = true) (grd (¬ (v_Sh_has w (35 + 2 * x1.toNatClampNeg) x2) = 0 → ((w.1 (35 + 2 * x1.toNatClampNeg) 0) - 100) = 2 → vpb x2 160 = true) (grd (¬ (v_Sh_has w (35 + 2 * x1.toNatClampNeg) x2) = 0 → ¬ ((w.1 (35 + 2 * x1.toNatClampNeg) 0) - 100) = 0 → ¬ ((w.1 (35 + 2 * x1.toNatClampNeg) 0) - 100) = 1 → ¬ ((w.1 (35 + 2 * x1.toNatClampNeg) 0) - 100) = 2 → vpb x2 160 = true) (some (some (.int (1 : Int32)), u_Sh_put w (35 + 2 * x1.toNatClampNeg) x2 z3))))))))) else (some (some (.int (v_X_refuse w (v_X_rowRefusal w x1))), u_X_refuse w (v_X_rowRefusal w x1)))
set_option maxHeartbeats 4000000 in
theorem c_X_set {d : Nat} {r : Option Value} {w' : MW} (w : MW) (x1 : Int32) (x2 : Int32) (z3 : Int64) (hf : f_X_set w x1 x2 z3 = some (r, w')) : Ct (d + 2) mX_set [.ref 0, .int x1, .int x2, .long z3] w r w' := by
  refine eX_set ?_
  unfold f_X_set at hf
  refine bX_set_0 (ct := c_X_rowRefusal (d := d) w x1) (k := ?_)
  refine bX_set_5 (kt := fun q2 => ?_) (kf := fun q2 => ?_)
  · replace hf := ite_t q2 hf
    obtain ⟨g3_0, hf⟩ := grd_e hf
    refine bX_set_19 (y1 := 34) (y2 := 35 + 2 * x1.toNatClampNeg) (h3 := (vpb_ok g3_0)) (h4 := shr_sh (vpb_ok g3_0)) (h5 := sh_k (sh_of (vpb_ok g3_0))) (ct := c_Sh_has (d := d + 1) w (35 + 2 * x1.toNatClampNeg) x2 (sh_of (vpb_ok g3_0))) (k := ?_)
    refine bX_set_29 (kt := fun q4 => ?_) (kf := fun q4 => ?_)
    · replace hf := ite_f q4 hf
      obtain ⟨g5_0, hf⟩ := grd_e hf
      obtain ⟨g5_1, hf⟩ := grd_e hf
      obtain ⟨g5_2, hf⟩ := grd_e hf
      obtain ⟨g5_3, hf⟩ := grd_e hf
      obtain ⟨g5_4, hf⟩ := grd_e hf
      refine bX_set_39 (y1 := 34) (y2 := 35 + 2 * x1.toNatClampNeg) (h3 := (vpb_ok g5_0)) (h4 := shr_sh (vpb_ok g5_0)) (h5 := sh_k (sh_of (vpb_ok g5_0))) (ct := c_Sh_put (d := d) w (35 + 2 * x1.toNatClampNeg) x2 z3 (sh_of (vpb_ok g5_0)) (fun z0 z1 => vpb_ok (g5_1 z0 z1)) (fun z0 z1 => vpb_ok (g5_2 z0 z1)) (fun z0 z1 => vpb_ok (g5_3 z0 z1)) (fun z0 z1 z2 z3 => vpb_ok (g5_4 z0 z1 z2 z3))) (k := ?_)
      obtain ⟨rfl, rfl⟩ := ret_e hf
      exact bX_set_50 
    · replace hf := ite_t q4 hf
      refine bX_set_32 (ct := c_X_refuse (d := d + 1) w (-5 : Int32)) (k := ?_)
      obtain ⟨rfl, rfl⟩ := ret_e hf
      exact bX_set_38 
  · replace hf := ite_f q2 hf
    refine bX_set_12 (ct := c_X_refuse (d := d + 1) w (v_X_rowRefusal w x1)) (k := ?_)
    obtain ⟨rfl, rfl⟩ := ret_e hf
    exact bX_set_18 
-- X_copy
def f_X_copy (w : MW) (x1 : Int32) (x2 : Int32) (x3 : Int32) (x4 : Int32) (x5 : Int32) : Option RT := if (v_X_isShelf w x1) = 0 then (some (some (.int (v_X_refuse w (-1 : Int32))), u_X_refuse w (-1 : Int32))) else (if (v_X_isShelf w x2) = 0 then (some (some (.int (v_X_refuse w (-1 : Int32))), u_X_refuse w (-1 : Int32))) else (grd (vpb x1 8 = true) (grd (vpb x2 8 = true) (if (v_Sh_isMan w (35 + 2 * x1.toNatClampNeg)) = 0 then (if (v_Sh_isMan w (35 + 2 * x2.toNatClampNeg)) = 0 then (if (v_Sh_isRow w (35 + 2 * x1.toNatClampNeg)) = 0 then (if (v_Sh_isRow w (35 + 2 * x1.toNatClampNeg)) = 0 then (some (some (.int (v_X_refuse w (-3 : Int32))), u_X_refuse w (-3 : Int32))) else (if (v_Sh_isRow w (35 + 2 * x2.toNatClampNeg)) = 0 then (some (some (.int (v_X_refuse w (-3 : Int32))), u_X_refuse w (-3 : Int32))) else (if 0 ≤ x5 then (if x3 < 0 then (some (some (.int (v_X_refuse w (-5 : Int32))), u_X_refuse w (-5 : Int32))) else (if x4 < 0 then (some (some (.int (v_X_refuse w (-5 : Int32))), u_X_refuse w (-5 : Int32))) else (if ((w.1 (35 + 2 * x1.toNatClampNeg) 1) - x5) < x3 then (some (some (.int (v_X_refuse w (-5 : Int32))), u_X_refuse w (-5 : Int32))) else (if x4 ≤ ((w.1 (35 + 2 * x2.toNatClampNeg) 1) - x5) then (grd ((¬ x3 < 0 ∧ ¬ x4 < 0 ∧ ¬ x5 < 0 ∧ x3.toNatClampNeg + x5.toNatClampNeg ≤ 160 ∧ x4.toNatClampNeg + x5.toNatClampNeg ≤ 160)) (some (some (.int (1 : Int32)), setB w (35 + 2 * x2.toNatClampNeg + 1) (va_cpy (w.2.1 (35 + 2 * x1.toNatClampNeg + 1)) (w.2.1 (35 + 2 * x2.toNatClampNeg + 1)) x3.toNatClampNeg x4.toNatClampNeg x5.toNatClampNeg)))) else (some (some (.int (v_X_refuse w (-5 : Int32))), u_X_refuse w (-5 : Int32))))))) else (some (some (.int (v_X_refuse w (-4 : Int32))), u_X_refuse w (-4 : Int32)))))) else (if (v_Sh_isRow w (35 + 2 * x2.toNatClampNeg)) = 0 then (if (v_Sh_isRow w (35 + 2 * x1.toNatClampNeg)) = 0 then (some (some (.int (v_X_refuse w (-3 : Int32))), u_X_refuse w (-3 : Int32))) else (if (v_Sh_isRow w (35 + 2 * x2.toNatClampNeg)) = 0 then (some (some (.int (v_X_refuse w (-3 : Int32))), u_X_refuse w (-3 : Int32))) else (if 0 ≤ x5 then (if x3 < 0 then (some (some (.int (v_X_refuse w (-5 : Int32))), u_X_refuse w (-5 : Int32))) else (if x4 < 0 then (some (some (.int (v_X_refuse w (-5 : Int32))), u_X_refuse w (-5 : Int32))) else (if ((w.1 (35 + 2 * x1.toNatClampNeg) 1) - x5) < x3 then (some (some (.int (v_X_refuse w (-5 : Int32))), u_X_refuse w (-5 : Int32))) else (if x4 ≤ ((w.1 (35 + 2 * x2.toNatClampNeg) 1) - x5) then (grd ((¬ x3 < 0 ∧ ¬ x4 < 0 ∧ ¬ x5 < 0 ∧ x3.toNatClampNeg + x5.toNatClampNeg ≤ 160 ∧ x4.toNatClampNeg + x5.toNatClampNeg ≤ 160)) (some (some (.int (1 : Int32)), setB w (35 + 2 * x2.toNatClampNeg + 1) (va_cpy (w.2.1 (35 + 2 * x1.toNatClampNeg + 1)) (w.2.1 (35 + 2 * x2.toNatClampNeg + 1)) x3.toNatClampNeg x4.toNatClampNeg x5.toNatClampNeg)))) else (some (some (.int (v_X_refuse w (-5 : Int32))), u_X_refuse w (-5 : Int32))))))) else (some (some (.int (v_X_refuse w (-4 : Int32))), u_X_refuse w (-4 : Int32)))))) else (if (w.1 (35 + 2 * x1.toNatClampNeg) 0) = (w.1 (35 + 2 * x2.toNatClampNeg) 0) then (if (v_Sh_isRow w (35 + 2 * x1.toNatClampNeg)) = 0 then (some (some (.int (v_X_refuse w (-3 : Int32))), u_X_refuse w (-3 : Int32))) else (if (v_Sh_isRow w (35 + 2 * x2.toNatClampNeg)) = 0 then (some (some (.int (v_X_refuse w (-3 : Int32))), u_X_refuse w (-3 : Int32))) else (if 0 ≤ x5 then (if x3 < 0 then (some (some (.int (v_X_refuse w (-5 : Int32))), u_X_refuse w (-5 : Int32))) else (if x4 < 0 then (some (some (.int (v_X_refuse w (-5 : Int32))), u_X_refuse w (-5 : Int32))) else (if ((w.1 (35 + 2 * x1.toNatClampNeg) 1) - x5) < x3 then (some (some (.int (v_X_refuse w (-5 : Int32))), u_X_refuse w (-5 : Int32))) else (if x4 ≤ ((w.1 (35 + 2 * x2.toNatClampNeg) 1) - x5) then (grd ((¬ x3 < 0 ∧ ¬ x4 < 0 ∧ ¬ x5 < 0 ∧ x3.toNatClampNeg + x5.toNatClampNeg ≤ 160 ∧ x4.toNatClampNeg + x5.toNatClampNeg ≤ 160)) (some (some (.int (1 : Int32)), setB w (35 + 2 * x2.toNatClampNeg + 1) (va_cpy (w.2.1 (35 + 2 * x1.toNatClampNeg + 1)) (w.2.1 (35 + 2 * x2.toNatClampNeg + 1)) x3.toNatClampNeg x4.toNatClampNeg x5.toNatClampNeg)))) else (some (some (.int (v_X_refuse w (-5 : Int32))), u_X_refuse w (-5 : Int32))))))) else (some (some (.int (v_X_refuse w (-4 : Int32))), u_X_refuse w (-4 : Int32)))))) else (some (some (.int (v_X_refuse w (-2 : Int32))), u_X_refuse w (-2 : Int32)))))) else (some (some (.int (v_X_refuse w (-2 : Int32))), u_X_refuse w (-2 : Int32)))) else (some (some (.int (v_X_refuse w (-2 : Int32))), u_X_refuse w (-2 : Int32)))))))
set_option maxHeartbeats 4000000 in
theorem c_X_copy {d : Nat} {r : Option Value} {w' : MW} (w : MW) (x1 : Int32) (x2 : Int32) (x3 : Int32) (x4 : Int32) (x5 : Int32) (hf : f_X_copy w x1 x2 x3 x4 x5 = some (r, w')) : Ct (d + 1) mX_copy [.ref 0, .int x1, .int x2, .int x3, .int x4, .int x5] w r w' := by
  refine eX_copy ?_
  unfold f_X_copy at hf
  refine bX_copy_0 (ct := c_X_isShelf (d := d) w x1) (k := ?_)
  refine bX_copy_4 (kt := fun q2 => ?_) (kf := fun q2 => ?_)
  · replace hf := ite_t q2 hf
    refine bX_copy_14 (ct := c_X_refuse (d := d) w (-1 : Int32)) (k := ?_)
    obtain ⟨rfl, rfl⟩ := ret_e hf
    exact bX_copy_19 
  · replace hf := ite_f q2 hf
    refine bX_copy_7 (ct := c_X_isShelf (d := d) w x2) (k := ?_)
    refine bX_copy_11 (kt := fun q6 => ?_) (kf := fun q6 => ?_)
    · replace hf := ite_f q6 hf
      obtain ⟨g7_0, hf⟩ := grd_e hf
      obtain ⟨g7_1, hf⟩ := grd_e hf
      refine bX_copy_20 (y1 := 34) (y2 := 35 + 2 * x1.toNatClampNeg) (h3 := (vpb_ok g7_0)) (h4 := shr_sh (vpb_ok g7_0)) (y3 := 34) (y4 := 35 + 2 * x2.toNatClampNeg) (h7 := (vpb_ok g7_1)) (h8 := shr_sh (vpb_ok g7_1)) (h9 := sh_k (sh_of (vpb_ok g7_0))) (ct := c_Sh_isMan (d := d) w (35 + 2 * x1.toNatClampNeg) (sh_of (vpb_ok g7_0))) (k := ?_)
      refine bX_copy_41 (kt := fun q8 => ?_) (kf := fun q8 => ?_)
      · replace hf := ite_f q8 hf
        refine bX_copy_52 (ct := c_X_refuse (d := d) w (-2 : Int32)) (k := ?_)
        obtain ⟨rfl, rfl⟩ := ret_e hf
        exact bX_copy_58 
      · replace hf := ite_t q8 hf
        refine bX_copy_44 (h1 := sh_k (sh_of (vpb_ok g7_1))) (ct := c_Sh_isMan (d := d) w (35 + 2 * x2.toNatClampNeg) (sh_of (vpb_ok g7_1))) (k := ?_)
        refine bX_copy_49 (kt := fun q12 => ?_) (kf := fun q12 => ?_)
        · replace hf := ite_t q12 hf
          refine bX_copy_59 (h1 := sh_k (sh_of (vpb_ok g7_0))) (ct := c_Sh_isRow (d := d) w (35 + 2 * x1.toNatClampNeg) (sh_of (vpb_ok g7_0))) (k := ?_)
          refine bX_copy_64 (kt := fun q14 => ?_) (kf := fun q14 => ?_)
          · replace hf := ite_t q14 hf
            refine bX_copy_95 (h1 := sh_k (sh_of (vpb_ok g7_0))) (ct := c_Sh_isRow (d := d) w (35 + 2 * x1.toNatClampNeg) (sh_of (vpb_ok g7_0))) (k := ?_)
            refine bX_copy_100 (kt := fun q16 => ?_) (kf := fun q16 => ?_)
            · replace hf := ite_t q16 hf
              refine bX_copy_111 (ct := c_X_refuse (d := d) w (-3 : Int32)) (k := ?_)
              obtain ⟨rfl, rfl⟩ := ret_e hf
              exact bX_copy_117 
            · replace hf := ite_f q16 hf
              refine bX_copy_103 (h1 := sh_k (sh_of (vpb_ok g7_1))) (ct := c_Sh_isRow (d := d) w (35 + 2 * x2.toNatClampNeg) (sh_of (vpb_ok g7_1))) (k := ?_)
              refine bX_copy_108 (kt := fun q20 => ?_) (kf := fun q20 => ?_)
              · replace hf := ite_f q20 hf
                refine bX_copy_118 (kt := fun q21 => ?_) (kf := fun q21 => ?_)
                · replace hf := ite_t q21 hf
                  refine bX_copy_130 (kt := fun q22 => ?_) (kf := fun q22 => ?_)
                  · replace hf := ite_t q22 hf
                    refine bX_copy_164 (ct := c_X_refuse (d := d) w (-5 : Int32)) (k := ?_)
                    obtain ⟨rfl, rfl⟩ := ret_e hf
                    exact bX_copy_170 
                  · replace hf := ite_f q22 hf
                    refine bX_copy_134 (kt := fun q25 => ?_) (kf := fun q25 => ?_)
                    · replace hf := ite_t q25 hf
                      refine bX_copy_164 (ct := c_X_refuse (d := d) w (-5 : Int32)) (k := ?_)
                      obtain ⟨rfl, rfl⟩ := ret_e hf
                      exact bX_copy_170 
                    · replace hf := ite_f q25 hf
                      refine bX_copy_139 (h1 := sh_g1 (sh_of (vpb_ok g7_0))) (kt := fun q28 => ?_) (kf := fun q28 => ?_)
                      · replace hf := ite_t q28 hf
                        refine bX_copy_164 (ct := c_X_refuse (d := d) w (-5 : Int32)) (k := ?_)
                        obtain ⟨rfl, rfl⟩ := ret_e hf
                        exact bX_copy_170 
                      · replace hf := ite_f q28 hf
                        refine bX_copy_151 (h1 := sh_g1 (sh_of (vpb_ok g7_1))) (kt := fun q31 => ?_) (kf := fun q31 => ?_)
                        · replace hf := ite_t q31 hf
                          obtain ⟨g32_0, hf⟩ := grd_e hf
                          obtain ⟨rfl, rfl⟩ := ret_e hf
                          exact bX_copy_171 (y1 := 35 + 2 * x1.toNatClampNeg + 1) (h1 := sh_r2 (sh_of (vpb_ok g7_0))) (y2 := 35 + 2 * x2.toNatClampNeg + 1) (h2 := sh_r2 (sh_of (vpb_ok g7_1))) (h3 := ⟨sh_k1 (sh_of (vpb_ok g7_0)), sh_k1 (sh_of (vpb_ok g7_1))⟩) (h4 := by rw [sh_l160 (sh_of (vpb_ok g7_0)), sh_l160 (sh_of (vpb_ok g7_1))]; exact g32_0)
                        · replace hf := ite_f q31 hf
                          refine bX_copy_164 (ct := c_X_refuse (d := d) w (-5 : Int32)) (k := ?_)
                          obtain ⟨rfl, rfl⟩ := ret_e hf
                          exact bX_copy_170 
                · replace hf := ite_f q21 hf
                  refine bX_copy_123 (ct := c_X_refuse (d := d) w (-4 : Int32)) (k := ?_)
                  obtain ⟨rfl, rfl⟩ := ret_e hf
                  exact bX_copy_129 
              · replace hf := ite_t q20 hf
                refine bX_copy_111 (ct := c_X_refuse (d := d) w (-3 : Int32)) (k := ?_)
                obtain ⟨rfl, rfl⟩ := ret_e hf
                exact bX_copy_117 
          · replace hf := ite_f q14 hf
            refine bX_copy_67 (h1 := sh_k (sh_of (vpb_ok g7_1))) (ct := c_Sh_isRow (d := d) w (35 + 2 * x2.toNatClampNeg) (sh_of (vpb_ok g7_1))) (k := ?_)
            refine bX_copy_72 (kt := fun q40 => ?_) (kf := fun q40 => ?_)
            · replace hf := ite_t q40 hf
              refine bX_copy_95 (h1 := sh_k (sh_of (vpb_ok g7_0))) (ct := c_Sh_isRow (d := d) w (35 + 2 * x1.toNatClampNeg) (sh_of (vpb_ok g7_0))) (k := ?_)
              refine bX_copy_100 (kt := fun q42 => ?_) (kf := fun q42 => ?_)
              · replace hf := ite_t q42 hf
                refine bX_copy_111 (ct := c_X_refuse (d := d) w (-3 : Int32)) (k := ?_)
                obtain ⟨rfl, rfl⟩ := ret_e hf
                exact bX_copy_117 
              · replace hf := ite_f q42 hf
                refine bX_copy_103 (h1 := sh_k (sh_of (vpb_ok g7_1))) (ct := c_Sh_isRow (d := d) w (35 + 2 * x2.toNatClampNeg) (sh_of (vpb_ok g7_1))) (k := ?_)
                refine bX_copy_108 (kt := fun q46 => ?_) (kf := fun q46 => ?_)
                · replace hf := ite_f q46 hf
                  refine bX_copy_118 (kt := fun q47 => ?_) (kf := fun q47 => ?_)
                  · replace hf := ite_t q47 hf
                    refine bX_copy_130 (kt := fun q48 => ?_) (kf := fun q48 => ?_)
                    · replace hf := ite_t q48 hf
                      refine bX_copy_164 (ct := c_X_refuse (d := d) w (-5 : Int32)) (k := ?_)
                      obtain ⟨rfl, rfl⟩ := ret_e hf
                      exact bX_copy_170 
                    · replace hf := ite_f q48 hf
                      refine bX_copy_134 (kt := fun q51 => ?_) (kf := fun q51 => ?_)
                      · replace hf := ite_t q51 hf
                        refine bX_copy_164 (ct := c_X_refuse (d := d) w (-5 : Int32)) (k := ?_)
                        obtain ⟨rfl, rfl⟩ := ret_e hf
                        exact bX_copy_170 
                      · replace hf := ite_f q51 hf
                        refine bX_copy_139 (h1 := sh_g1 (sh_of (vpb_ok g7_0))) (kt := fun q54 => ?_) (kf := fun q54 => ?_)
                        · replace hf := ite_t q54 hf
                          refine bX_copy_164 (ct := c_X_refuse (d := d) w (-5 : Int32)) (k := ?_)
                          obtain ⟨rfl, rfl⟩ := ret_e hf
                          exact bX_copy_170 
                        · replace hf := ite_f q54 hf
                          refine bX_copy_151 (h1 := sh_g1 (sh_of (vpb_ok g7_1))) (kt := fun q57 => ?_) (kf := fun q57 => ?_)
                          · replace hf := ite_t q57 hf
                            obtain ⟨g58_0, hf⟩ := grd_e hf
                            obtain ⟨rfl, rfl⟩ := ret_e hf
                            exact bX_copy_171 (y1 := 35 + 2 * x1.toNatClampNeg + 1) (h1 := sh_r2 (sh_of (vpb_ok g7_0))) (y2 := 35 + 2 * x2.toNatClampNeg + 1) (h2 := sh_r2 (sh_of (vpb_ok g7_1))) (h3 := ⟨sh_k1 (sh_of (vpb_ok g7_0)), sh_k1 (sh_of (vpb_ok g7_1))⟩) (h4 := by rw [sh_l160 (sh_of (vpb_ok g7_0)), sh_l160 (sh_of (vpb_ok g7_1))]; exact g58_0)
                          · replace hf := ite_f q57 hf
                            refine bX_copy_164 (ct := c_X_refuse (d := d) w (-5 : Int32)) (k := ?_)
                            obtain ⟨rfl, rfl⟩ := ret_e hf
                            exact bX_copy_170 
                  · replace hf := ite_f q47 hf
                    refine bX_copy_123 (ct := c_X_refuse (d := d) w (-4 : Int32)) (k := ?_)
                    obtain ⟨rfl, rfl⟩ := ret_e hf
                    exact bX_copy_129 
                · replace hf := ite_t q46 hf
                  refine bX_copy_111 (ct := c_X_refuse (d := d) w (-3 : Int32)) (k := ?_)
                  obtain ⟨rfl, rfl⟩ := ret_e hf
                  exact bX_copy_117 
            · replace hf := ite_f q40 hf
              refine bX_copy_75 (h1 := sh_g0 (sh_of (vpb_ok g7_0))) (h2 := sh_g0 (sh_of (vpb_ok g7_1))) (kt := fun q65 => ?_) (kf := fun q65 => ?_)
              · replace hf := ite_t q65 hf
                refine bX_copy_95 (h1 := sh_k (sh_of (vpb_ok g7_0))) (ct := c_Sh_isRow (d := d) w (35 + 2 * x1.toNatClampNeg) (sh_of (vpb_ok g7_0))) (k := ?_)
                refine bX_copy_100 (kt := fun q67 => ?_) (kf := fun q67 => ?_)
                · replace hf := ite_t q67 hf
                  refine bX_copy_111 (ct := c_X_refuse (d := d) w (-3 : Int32)) (k := ?_)
                  obtain ⟨rfl, rfl⟩ := ret_e hf
                  exact bX_copy_117 
                · replace hf := ite_f q67 hf
                  refine bX_copy_103 (h1 := sh_k (sh_of (vpb_ok g7_1))) (ct := c_Sh_isRow (d := d) w (35 + 2 * x2.toNatClampNeg) (sh_of (vpb_ok g7_1))) (k := ?_)
                  refine bX_copy_108 (kt := fun q71 => ?_) (kf := fun q71 => ?_)
                  · replace hf := ite_f q71 hf
                    refine bX_copy_118 (kt := fun q72 => ?_) (kf := fun q72 => ?_)
                    · replace hf := ite_t q72 hf
                      refine bX_copy_130 (kt := fun q73 => ?_) (kf := fun q73 => ?_)
                      · replace hf := ite_t q73 hf
                        refine bX_copy_164 (ct := c_X_refuse (d := d) w (-5 : Int32)) (k := ?_)
                        obtain ⟨rfl, rfl⟩ := ret_e hf
                        exact bX_copy_170 
                      · replace hf := ite_f q73 hf
                        refine bX_copy_134 (kt := fun q76 => ?_) (kf := fun q76 => ?_)
                        · replace hf := ite_t q76 hf
                          refine bX_copy_164 (ct := c_X_refuse (d := d) w (-5 : Int32)) (k := ?_)
                          obtain ⟨rfl, rfl⟩ := ret_e hf
                          exact bX_copy_170 
                        · replace hf := ite_f q76 hf
                          refine bX_copy_139 (h1 := sh_g1 (sh_of (vpb_ok g7_0))) (kt := fun q79 => ?_) (kf := fun q79 => ?_)
                          · replace hf := ite_t q79 hf
                            refine bX_copy_164 (ct := c_X_refuse (d := d) w (-5 : Int32)) (k := ?_)
                            obtain ⟨rfl, rfl⟩ := ret_e hf
                            exact bX_copy_170 
                          · replace hf := ite_f q79 hf
                            refine bX_copy_151 (h1 := sh_g1 (sh_of (vpb_ok g7_1))) (kt := fun q82 => ?_) (kf := fun q82 => ?_)
                            · replace hf := ite_t q82 hf
                              obtain ⟨g83_0, hf⟩ := grd_e hf
                              obtain ⟨rfl, rfl⟩ := ret_e hf
                              exact bX_copy_171 (y1 := 35 + 2 * x1.toNatClampNeg + 1) (h1 := sh_r2 (sh_of (vpb_ok g7_0))) (y2 := 35 + 2 * x2.toNatClampNeg + 1) (h2 := sh_r2 (sh_of (vpb_ok g7_1))) (h3 := ⟨sh_k1 (sh_of (vpb_ok g7_0)), sh_k1 (sh_of (vpb_ok g7_1))⟩) (h4 := by rw [sh_l160 (sh_of (vpb_ok g7_0)), sh_l160 (sh_of (vpb_ok g7_1))]; exact g83_0)
                            · replace hf := ite_f q82 hf
                              refine bX_copy_164 (ct := c_X_refuse (d := d) w (-5 : Int32)) (k := ?_)
                              obtain ⟨rfl, rfl⟩ := ret_e hf
                              exact bX_copy_170 
                    · replace hf := ite_f q72 hf
                      refine bX_copy_123 (ct := c_X_refuse (d := d) w (-4 : Int32)) (k := ?_)
                      obtain ⟨rfl, rfl⟩ := ret_e hf
                      exact bX_copy_129 
                  · replace hf := ite_t q71 hf
                    refine bX_copy_111 (ct := c_X_refuse (d := d) w (-3 : Int32)) (k := ?_)
                    obtain ⟨rfl, rfl⟩ := ret_e hf
                    exact bX_copy_117 
              · replace hf := ite_f q65 hf
                refine bX_copy_88 (ct := c_X_refuse (d := d) w (-2 : Int32)) (k := ?_)
                obtain ⟨rfl, rfl⟩ := ret_e hf
                exact bX_copy_94 
        · replace hf := ite_f q12 hf
          refine bX_copy_52 (ct := c_X_refuse (d := d) w (-2 : Int32)) (k := ?_)
          obtain ⟨rfl, rfl⟩ := ret_e hf
          exact bX_copy_58 
    · replace hf := ite_t q6 hf
      refine bX_copy_14 (ct := c_X_refuse (d := d) w (-1 : Int32)) (k := ?_)
      obtain ⟨rfl, rfl⟩ := ret_e hf
      exact bX_copy_19 
-- X_element
def f_X_element (w : MW) (x1 : Int32) (x2 : Int32) : Option RT := if (v_X_isShelf w x1) = 0 then (some (some (.long (Int64.ofNat 0)), w)) else (grd (vpb x1 8 = true) (if (v_Sh_isRow w (35 + 2 * x1.toNatClampNeg)) = 0 then (some (some (.long (Int64.ofNat 0)), w)) else (grd (vpb x1 8 = true) (if (v_Sh_has w (35 + 2 * x1.toNatClampNeg) x2) = 0 then (some (some (.long (Int64.ofNat 0)), w)) else (grd (vpb x1 8 = true) (grd (vpb x2 160 = true) (some (some (.long (w.2.1 (35 + 2 * x1.toNatClampNeg + 1) x2.toNatClampNeg)), w))))))))
set_option maxHeartbeats 4000000 in
theorem c_X_element {d : Nat} {r : Option Value} {w' : MW} (w : MW) (x1 : Int32) (x2 : Int32) (hf : f_X_element w x1 x2 = some (r, w')) : Ct (d + 1) mX_element [.ref 0, .int x1, .int x2] w r w' := by
  refine eX_element ?_
  unfold f_X_element at hf
  refine bX_element_0 (ct := c_X_isShelf (d := d) w x1) (k := ?_)
  refine bX_element_4 (kt := fun q2 => ?_) (kf := fun q2 => ?_)
  · replace hf := ite_t q2 hf
    obtain ⟨rfl, rfl⟩ := ret_e hf
    exact bX_element_32 
  · replace hf := ite_f q2 hf
    obtain ⟨g4_0, hf⟩ := grd_e hf
    refine bX_element_7 (y1 := 34) (y2 := 35 + 2 * x1.toNatClampNeg) (h3 := (vpb_ok g4_0)) (h4 := shr_sh (vpb_ok g4_0)) (h5 := sh_k (sh_of (vpb_ok g4_0))) (ct := c_Sh_isRow (d := d) w (35 + 2 * x1.toNatClampNeg) (sh_of (vpb_ok g4_0))) (k := ?_)
    refine bX_element_16 (kt := fun q5 => ?_) (kf := fun q5 => ?_)
    · replace hf := ite_t q5 hf
      obtain ⟨rfl, rfl⟩ := ret_e hf
      exact bX_element_32 
    · replace hf := ite_f q5 hf
      obtain ⟨g7_0, hf⟩ := grd_e hf
      refine bX_element_19 (y1 := 34) (y2 := 35 + 2 * x1.toNatClampNeg) (h3 := (vpb_ok g7_0)) (h4 := shr_sh (vpb_ok g7_0)) (h5 := sh_k (sh_of (vpb_ok g7_0))) (ct := c_Sh_has (d := d) w (35 + 2 * x1.toNatClampNeg) x2 (sh_of (vpb_ok g7_0))) (k := ?_)
      refine bX_element_29 (kt := fun q8 => ?_) (kf := fun q8 => ?_)
      · replace hf := ite_f q8 hf
        obtain ⟨g9_0, hf⟩ := grd_e hf
        obtain ⟨g9_1, hf⟩ := grd_e hf
        obtain ⟨rfl, rfl⟩ := ret_e hf
        exact bX_element_34 (y1 := 34) (y2 := 35 + 2 * x1.toNatClampNeg) (h3 := (vpb_ok g9_0)) (h4 := shr_sh (vpb_ok g9_0)) (y3 := 35 + 2 * x1.toNatClampNeg + 1) (h5 := sh_r2 (sh_of (vpb_ok g9_0))) (h6 := sh_k1 (sh_of (vpb_ok g9_0))) (h7 := sh_in (sh_of (vpb_ok g9_0)) (vpb_ok g9_1))
      · replace hf := ite_t q8 hf
        obtain ⟨rfl, rfl⟩ := ret_e hf
        exact bX_element_32 
-- X_show
def f_X_show (w : MW) (x1 : Int32) (x2 : Int32) : Option RT := if (v_X_isShelf w x1) = 0 then (some (some (.int (v_X_refuse w (-1 : Int32))), u_X_refuse w (-1 : Int32))) else (if x2 = (-1) then (grd (vpb x1 8 = true) (some (some (.int (0 : Int32)), u_Sh_takeNothing w (35 + 2 * x1.toNatClampNeg)))) else (if (v_Ct_isMan w 1 x2) = 0 then (some (some (.int (v_X_refuse w (-1 : Int32))), u_X_refuse w (-1 : Int32))) else (grd (vpb x1 8 = true) (some (some (.int (1 : Int32)), u_Sh_takeMan w (35 + 2 * x1.toNatClampNeg) x2)))))
set_option maxHeartbeats 4000000 in
theorem c_X_show {d : Nat} {r : Option Value} {w' : MW} (w : MW) (x1 : Int32) (x2 : Int32) (hf : f_X_show w x1 x2 = some (r, w')) : Ct (d + 1) mX_show [.ref 0, .int x1, .int x2] w r w' := by
  refine eX_show ?_
  unfold f_X_show at hf
  refine bX_show_0 (ct := c_X_isShelf (d := d) w x1) (k := ?_)
  refine bX_show_4 (kt := fun q2 => ?_) (kf := fun q2 => ?_)
  · replace hf := ite_f q2 hf
    refine bX_show_13 (kt := fun q3 => ?_) (kf := fun q3 => ?_)
    · replace hf := ite_f q3 hf
      refine bX_show_29 (y1 := 1) (ct := c_Ct_isMan (d := d) w 1 x2 ct1) (k := ?_)
      refine bX_show_37 (kt := fun q5 => ?_) (kf := fun q5 => ?_)
      · replace hf := ite_f q5 hf
        obtain ⟨g6_0, hf⟩ := grd_e hf
        refine bX_show_46 (y1 := 34) (y2 := 35 + 2 * x1.toNatClampNeg) (h3 := (vpb_ok g6_0)) (h4 := shr_sh (vpb_ok g6_0)) (h5 := sh_k (sh_of (vpb_ok g6_0))) (ct := c_Sh_takeMan (d := d) w (35 + 2 * x1.toNatClampNeg) x2 (sh_of (vpb_ok g6_0))) (k := ?_)
        obtain ⟨rfl, rfl⟩ := ret_e hf
        exact bX_show_56 
      · replace hf := ite_t q5 hf
        refine bX_show_40 (ct := c_X_refuse (d := d) w (-1 : Int32)) (k := ?_)
        obtain ⟨rfl, rfl⟩ := ret_e hf
        exact bX_show_45 
    · replace hf := ite_t q3 hf
      obtain ⟨g10_0, hf⟩ := grd_e hf
      refine bX_show_18 (y1 := 34) (y2 := 35 + 2 * x1.toNatClampNeg) (h3 := (vpb_ok g10_0)) (h4 := shr_sh (vpb_ok g10_0)) (h5 := sh_k (sh_of (vpb_ok g10_0))) (ct := c_Sh_takeNothing (d := d) w (35 + 2 * x1.toNatClampNeg) (sh_of (vpb_ok g10_0))) (k := ?_)
      obtain ⟨rfl, rfl⟩ := ret_e hf
      exact bX_show_27 
  · replace hf := ite_t q2 hf
    refine bX_show_7 (ct := c_X_refuse (d := d) w (-1 : Int32)) (k := ?_)
    obtain ⟨rfl, rfl⟩ := ret_e hf
    exact bX_show_12 
-- X_holds
def f_X_holds (w : MW) (x1 : Int32) : Option RT := if (v_X_isShelf w x1) = 0 then (some (some (.int (-1 : Int32)), w)) else (grd (vpb x1 8 = true) (some (some (.int (w.1 (35 + 2 * x1.toNatClampNeg) 0)), w)))
set_option maxHeartbeats 4000000 in
theorem c_X_holds {d : Nat} {r : Option Value} {w' : MW} (w : MW) (x1 : Int32) (hf : f_X_holds w x1 = some (r, w')) : Ct (d + 1) mX_holds [.ref 0, .int x1] w r w' := by
  refine eX_holds ?_
  unfold f_X_holds at hf
  refine bX_holds_0 (ct := c_X_isShelf (d := d) w x1) (k := ?_)
  refine bX_holds_4 (kt := fun q2 => ?_) (kf := fun q2 => ?_)
  · replace hf := ite_t q2 hf
    refine bX_holds_19 (k := ?_)
    obtain ⟨rfl, rfl⟩ := ret_e hf
    exact bX_holds_20 
  · replace hf := ite_f q2 hf
    obtain ⟨g5_0, hf⟩ := grd_e hf
    refine bX_holds_7 (y1 := 34) (y2 := 35 + 2 * x1.toNatClampNeg) (h3 := (vpb_ok g5_0)) (h4 := shr_sh (vpb_ok g5_0)) (h5 := sh_g0 (sh_of (vpb_ok g5_0))) (k := ?_)
    obtain ⟨rfl, rfl⟩ := ret_e hf
    exact bX_holds_20 
-- X_isUnder
def f_X_isUnder_4 : Nat → MW → Int32 → Int32 → Int32 → Option RT
  | 0, _, _, _, _ => none
  | n + 1, w, x1, x2, x3 => if 7 ≤ x3 then (some (some (.int (0 : Int32)), w)) else (if (v_X_isKind w x2) = 0 then (some (some (.int (0 : Int32)), w)) else (if x2 = x1 then (some (some (.int (1 : Int32)), w)) else (grd (vpb x2 7 = true) (f_X_isUnder_4 n w x1 (w.1 81 x2.toNatClampNeg) (x3 + 1)))))
set_option maxHeartbeats 4000000 in
theorem r_X_isUnder_4 {d : Nat} {r : Option Value} {w' : MW} : ∀ (n : Nat) (w : MW) (x1 : Int32) (x2 : Int32) (x3 : Int32), f_X_isUnder_4 n w x1 x2 x3 = some (r, w') → Rn (d + 1) mX_isUnder 4 [none, some (.int x1), some (.int x2), some (.int x3)] [] w r w' := by
  intro n
  induction n with
  | zero =>
    intro w x1 x2 x3 hf
    cases hf
  | succ n ih =>
    intro w x1 x2 x3 hf
    rw [f_X_isUnder_4] at hf
    refine bX_isUnder_4 (kt := fun q1 => ?_) (kf := fun q1 => ?_)
    · replace hf := ite_t q1 hf
      obtain ⟨rfl, rfl⟩ := ret_e hf
      exact bX_isUnder_36 
    · replace hf := ite_f q1 hf
      refine bX_isUnder_10 (ct := c_X_isKind (d := d) w x2) (k := ?_)
      refine bX_isUnder_14 (kt := fun q4 => ?_) (kf := fun q4 => ?_)
      · replace hf := ite_t q4 hf
        obtain ⟨rfl, rfl⟩ := ret_e hf
        exact bX_isUnder_36 
      · replace hf := ite_f q4 hf
        refine bX_isUnder_17 (kt := fun q6 => ?_) (kf := fun q6 => ?_)
        · replace hf := ite_f q6 hf
          obtain ⟨g7_0, hf⟩ := grd_e hf
          refine bX_isUnder_24 (h1 := (Or.inr (by decide))) (h2 := (vpb_ok g7_0)) (k := ?_)
          exact ih w x1 (w.1 81 x2.toNatClampNeg) (x3 + 1) hf
        · replace hf := ite_t q6 hf
          obtain ⟨rfl, rfl⟩ := ret_e hf
          exact bX_isUnder_22 
def f_X_isUnder (w : MW) (x0 : Int32) (x1 : Int32) : Option RT := f_X_isUnder_4 FU w x1 x0 (0 : Int32)
set_option maxHeartbeats 4000000 in
theorem c_X_isUnder {d : Nat} {r : Option Value} {w' : MW} (w : MW) (x0 : Int32) (x1 : Int32) (hf : f_X_isUnder w x0 x1 = some (r, w')) : Ct (d + 1) mX_isUnder [.int x0, .int x1] w r w' := by
  refine eX_isUnder ?_
  unfold f_X_isUnder at hf
  refine bX_isUnder_0 (k := ?_)
  exact r_X_isUnder_4 FU w x1 x0 (0 : Int32) hf
-- X_thirds
def f_X_thirds_7 : Nat → MW → Int32 → Int32 → Int32 → Int32 → Option RT
  | 0, _, _, _, _, _ => none
  | n + 1, w, x1, x2, x3, x4 => if x2 ≤ x4 then (some (some (.int x3), w)) else (if 30 ≤ x4 then (some (some (.int x3), w)) else (if x4 < x1 then (f_X_thirds_7 n w x1 x2 x3 (x4 + 3)) else (f_X_thirds_7 n w x1 x2 (x3 ||| ((1 : Int32) <<< (x4 &&& 31))) (x4 + 3))))
set_option maxHeartbeats 4000000 in
theorem r_X_thirds_7 {d : Nat} {r : Option Value} {w' : MW} : ∀ (n : Nat) (w : MW) (x1 : Int32) (x2 : Int32) (x3 : Int32) (x4 : Int32), f_X_thirds_7 n w x1 x2 x3 x4 = some (r, w') → Rn d mX_thirds 7 [none, some (.int x1), some (.int x2), some (.int x3), some (.int x4)] [] w r w' := by
  intro n
  induction n with
  | zero =>
    intro w x1 x2 x3 x4 hf
    cases hf
  | succ n ih =>
    intro w x1 x2 x3 x4 hf
    rw [f_X_thirds_7] at hf
    refine bX_thirds_7 (kt := fun q1 => ?_) (kf := fun q1 => ?_)
    · replace hf := ite_t q1 hf
      obtain ⟨rfl, rfl⟩ := ret_e hf
      exact bX_thirds_39 
    · replace hf := ite_f q1 hf
      refine bX_thirds_13 (kt := fun q3 => ?_) (kf := fun q3 => ?_)
      · replace hf := ite_t q3 hf
        obtain ⟨rfl, rfl⟩ := ret_e hf
        exact bX_thirds_39 
      · replace hf := ite_f q3 hf
        refine bX_thirds_20 (kt := fun q5 => ?_) (kf := fun q5 => ?_)
        · replace hf := ite_t q5 hf
          refine bX_thirds_33 (k := ?_)
          exact ih w x1 x2 x3 (x4 + 3) hf
        · replace hf := ite_f q5 hf
          refine bX_thirds_26 (k := ?_)
          refine bX_thirds_33 (k := ?_)
          exact ih w x1 x2 (x3 ||| ((1 : Int32) <<< (x4 &&& 31))) (x4 + 3) hf
def f_X_thirds (w : MW) (x0 : Int32) (x1 : Int32) (x2 : Int32) : Option RT := f_X_thirds_7 FU w x1 x2 (0 : Int32) (x0 - x0 / 3 * 3)
set_option maxHeartbeats 4000000 in
theorem c_X_thirds {d : Nat} {r : Option Value} {w' : MW} (w : MW) (x0 : Int32) (x1 : Int32) (x2 : Int32) (hf : f_X_thirds w x0 x1 x2 = some (r, w')) : Ct d mX_thirds [.int x0, .int x1, .int x2] w r w' := by
  refine eX_thirds ?_
  unfold f_X_thirds at hf
  refine bX_thirds_0 (k := ?_)
  exact r_X_thirds_7 FU w x1 x2 (0 : Int32) (x0 - x0 / 3 * 3) hf
-- X_span
def f_X_span_8 : Nat → MW → Int32 → Int32 → Int32 → Option RT
  | 0, _, _, _, _ => none
  | n + 1, w, x1, x2, x3 => if x1 ≤ x3 then (some (some (.int x2), w)) else (if 30 ≤ x3 then (some (some (.int x2), w)) else (f_X_span_8 n w x1 (x2 ||| ((1 : Int32) <<< (x3 &&& 31))) (x3 + 1)))
set_option maxHeartbeats 4000000 in
theorem r_X_span_8 {d : Nat} {r : Option Value} {w' : MW} : ∀ (n : Nat) (w : MW) (x1 : Int32) (x2 : Int32) (x3 : Int32), f_X_span_8 n w x1 x2 x3 = some (r, w') → Rn d mX_span 8 [none, some (.int x1), some (.int x2), some (.int x3)] [] w r w' := by
  intro n
  induction n with
  | zero =>
    intro w x1 x2 x3 hf
    cases hf
  | succ n ih =>
    intro w x1 x2 x3 hf
    rw [f_X_span_8] at hf
    refine bX_span_8 (kt := fun q1 => ?_) (kf := fun q1 => ?_)
    · replace hf := ite_t q1 hf
      obtain ⟨rfl, rfl⟩ := ret_e hf
      exact bX_span_31 
    · replace hf := ite_f q1 hf
      refine bX_span_13 (kt := fun q3 => ?_) (kf := fun q3 => ?_)
      · replace hf := ite_t q3 hf
        obtain ⟨rfl, rfl⟩ := ret_e hf
        exact bX_span_31 
      · replace hf := ite_f q3 hf
        refine bX_span_19 (k := ?_)
        exact ih w x1 (x2 ||| ((1 : Int32) <<< (x3 &&& 31))) (x3 + 1) hf
def f_X_span (w : MW) (x0 : Int32) (x1 : Int32) : Option RT := f_X_span_8 FU w x1 (0 : Int32) (if x0 < 0 then 0 else x0)
set_option maxHeartbeats 4000000 in
theorem c_X_span {d : Nat} {r : Option Value} {w' : MW} (w : MW) (x0 : Int32) (x1 : Int32) (hf : f_X_span w x0 x1 = some (r, w')) : Ct d mX_span [.int x0, .int x1] w r w' := by
  refine eX_span ?_
  unfold f_X_span at hf
  refine bX_span_0 (k := ?_)
  exact r_X_span_8 FU w x1 (0 : Int32) (if x0 < 0 then 0 else x0) hf
-- X_missing
def f_X_missing_7 : Nat → MW → Int32 → Int32 → Int32 → Int32 → Int32 → Option RT
  | 0, _, _, _, _, _, _ => none
  | n + 1, w, x0, x1, x2, x3, x4 => if 30 ≤ x4 then (some (some (.int x2), w)) else (if ((ush x0 x4) &&& 1) = 0 then (f_X_missing_7 n w x0 x1 x2 x3 (x4 + 1)) else (if x3 = 0 then (f_X_missing_7 n w x0 x1 x2 (x1 + 1) (x4 + 1)) else (f_X_missing_7 n w x0 x1 (x2 ||| ((1 : Int32) <<< (x4 &&& 31))) (x3 + (-1)) (x4 + 1))))
set_option maxHeartbeats 4000000 in
theorem r_X_missing_7 {d : Nat} {r : Option Value} {w' : MW} : ∀ (n : Nat) (w : MW) (x0 : Int32) (x1 : Int32) (x2 : Int32) (x3 : Int32) (x4 : Int32), f_X_missing_7 n w x0 x1 x2 x3 x4 = some (r, w') → Rn d mX_missing 7 [some (.int x0), some (.int x1), some (.int x2), some (.int x3), some (.int x4)] [] w r w' := by
  intro n
  induction n with
  | zero =>
    intro w x0 x1 x2 x3 x4 hf
    cases hf
  | succ n ih =>
    intro w x0 x1 x2 x3 x4 hf
    rw [f_X_missing_7] at hf
    refine bX_missing_7 (kt := fun q1 => ?_) (kf := fun q1 => ?_)
    · replace hf := ite_t q1 hf
      obtain ⟨rfl, rfl⟩ := ret_e hf
      exact bX_missing_53 
    · replace hf := ite_f q1 hf
      refine bX_missing_14 (kt := fun q3 => ?_) (kf := fun q3 => ?_)
      · replace hf := ite_f q3 hf
        refine bX_missing_26 (kt := fun q4 => ?_) (kf := fun q4 => ?_)
        · replace hf := ite_f q4 hf
          refine bX_missing_37 (k := ?_)
          refine bX_missing_47 (k := ?_)
          exact ih w x0 x1 (x2 ||| ((1 : Int32) <<< (x4 &&& 31))) (x3 + (-1)) (x4 + 1) hf
        · replace hf := ite_t q4 hf
          refine bX_missing_30 (k := ?_)
          refine bX_missing_47 (k := ?_)
          exact ih w x0 x1 x2 (x1 + 1) (x4 + 1) hf
      · replace hf := ite_t q3 hf
        refine bX_missing_23 (k := ?_)
        refine bX_missing_47 (k := ?_)
        exact ih w x0 x1 x2 x3 (x4 + 1) hf
def f_X_missing (w : MW) (x0 : Int32) (x1 : Int32) : Option RT := f_X_missing_7 FU w x0 x1 (0 : Int32) x1 (0 : Int32)
set_option maxHeartbeats 4000000 in
theorem c_X_missing {d : Nat} {r : Option Value} {w' : MW} (w : MW) (x0 : Int32) (x1 : Int32) (hf : f_X_missing w x0 x1 = some (r, w')) : Ct d mX_missing [.int x0, .int x1] w r w' := by
  refine eX_missing ?_
  unfold f_X_missing at hf
  refine bX_missing_0 (k := ?_)
  exact r_X_missing_7 FU w x0 x1 (0 : Int32) x1 (0 : Int32) hf
-- X_everyOther
def f_X_everyOther_6 : Nat → MW → Int32 → Int32 → Int32 → Int32 → Option RT
  | 0, _, _, _, _, _ => none
  | n + 1, w, x0, x1, x2, x3 => if 30 ≤ x3 then (some (some (.int x1), w)) else (if ((ush x0 x3) &&& 1) = 0 then (f_X_everyOther_6 n w x0 x1 x2 (x3 + 1)) else (if x2 = 0 then (if x2 = 0 then (f_X_everyOther_6 n w x0 x1 (1 : Int32) (x3 + 1)) else (f_X_everyOther_6 n w x0 x1 (0 : Int32) (x3 + 1))) else (if x2 = 0 then (f_X_everyOther_6 n w x0 (x1 ||| ((1 : Int32) <<< (x3 &&& 31))) (1 : Int32) (x3 + 1)) else (f_X_everyOther_6 n w x0 (x1 ||| ((1 : Int32) <<< (x3 &&& 31))) (0 : Int32) (x3 + 1)))))
set_option maxHeartbeats 4000000 in
theorem r_X_everyOther_6 {d : Nat} {r : Option Value} {w' : MW} : ∀ (n : Nat) (w : MW) (x0 : Int32) (x1 : Int32) (x2 : Int32) (x3 : Int32), f_X_everyOther_6 n w x0 x1 x2 x3 = some (r, w') → Rn d mX_everyOther 6 [some (.int x0), some (.int x1), some (.int x2), some (.int x3)] [] w r w' := by
  intro n
  induction n with
  | zero =>
    intro w x0 x1 x2 x3 hf
    cases hf
  | succ n ih =>
    intro w x0 x1 x2 x3 hf
    rw [f_X_everyOther_6] at hf
    refine bX_everyOther_6 (kt := fun q1 => ?_) (kf := fun q1 => ?_)
    · replace hf := ite_t q1 hf
      obtain ⟨rfl, rfl⟩ := ret_e hf
      exact bX_everyOther_49 
    · replace hf := ite_f q1 hf
      refine bX_everyOther_12 (kt := fun q3 => ?_) (kf := fun q3 => ?_)
      · replace hf := ite_f q3 hf
        refine bX_everyOther_23 (kt := fun q4 => ?_) (kf := fun q4 => ?_)
        · replace hf := ite_t q4 hf
          refine bX_everyOther_33 (kt := fun q5 => ?_) (kf := fun q5 => ?_)
          · replace hf := ite_f q5 hf
            refine bX_everyOther_41 (k := ?_)
            refine bX_everyOther_42 (k := ?_)
            refine bX_everyOther_43 (k := ?_)
            exact ih w x0 x1 (0 : Int32) (x3 + 1) hf
          · replace hf := ite_t q5 hf
            refine bX_everyOther_37 (k := ?_)
            refine bX_everyOther_42 (k := ?_)
            refine bX_everyOther_43 (k := ?_)
            exact ih w x0 x1 (1 : Int32) (x3 + 1) hf
        · replace hf := ite_f q4 hf
          refine bX_everyOther_27 (k := ?_)
          refine bX_everyOther_33 (kt := fun q13 => ?_) (kf := fun q13 => ?_)
          · replace hf := ite_f q13 hf
            refine bX_everyOther_41 (k := ?_)
            refine bX_everyOther_42 (k := ?_)
            refine bX_everyOther_43 (k := ?_)
            exact ih w x0 (x1 ||| ((1 : Int32) <<< (x3 &&& 31))) (0 : Int32) (x3 + 1) hf
          · replace hf := ite_t q13 hf
            refine bX_everyOther_37 (k := ?_)
            refine bX_everyOther_42 (k := ?_)
            refine bX_everyOther_43 (k := ?_)
            exact ih w x0 (x1 ||| ((1 : Int32) <<< (x3 &&& 31))) (1 : Int32) (x3 + 1) hf
      · replace hf := ite_t q3 hf
        refine bX_everyOther_20 (k := ?_)
        refine bX_everyOther_43 (k := ?_)
        exact ih w x0 x1 x2 (x3 + 1) hf
def f_X_everyOther (w : MW) (x0 : Int32) : Option RT := f_X_everyOther_6 FU w x0 (0 : Int32) (1 : Int32) (0 : Int32)
set_option maxHeartbeats 4000000 in
theorem c_X_everyOther {d : Nat} {r : Option Value} {w' : MW} (w : MW) (x0 : Int32) (hf : f_X_everyOther w x0 = some (r, w')) : Ct d mX_everyOther [.int x0] w r w' := by
  refine eX_everyOther ?_
  unfold f_X_everyOther at hf
  refine bX_everyOther_0 (k := ?_)
  exact r_X_everyOther_6 FU w x0 (0 : Int32) (1 : Int32) (0 : Int32) hf
-- JI_bitCount
def f_JI_bitCount (w : MW) (x0 : Int32) : Option RT := some (some (.int ((((((((x0 - ((ush x0 1) &&& 1431655765)) &&& 858993459) + ((ush (x0 - ((ush x0 1) &&& 1431655765)) 2) &&& 858993459)) + (ush (((x0 - ((ush x0 1) &&& 1431655765)) &&& 858993459) + ((ush (x0 - ((ush x0 1) &&& 1431655765)) 2) &&& 858993459)) 4)) &&& 252645135) + (ush (((((x0 - ((ush x0 1) &&& 1431655765)) &&& 858993459) + ((ush (x0 - ((ush x0 1) &&& 1431655765)) 2) &&& 858993459)) + (ush (((x0 - ((ush x0 1) &&& 1431655765)) &&& 858993459) + ((ush (x0 - ((ush x0 1) &&& 1431655765)) 2) &&& 858993459)) 4)) &&& 252645135) 8)) + (ush ((((((x0 - ((ush x0 1) &&& 1431655765)) &&& 858993459) + ((ush (x0 - ((ush x0 1) &&& 1431655765)) 2) &&& 858993459)) + (ush (((x0 - ((ush x0 1) &&& 1431655765)) &&& 858993459) + ((ush (x0 - ((ush x0 1) &&& 1431655765)) 2) &&& 858993459)) 4)) &&& 252645135) + (ush (((((x0 - ((ush x0 1) &&& 1431655765)) &&& 858993459) + ((ush (x0 - ((ush x0 1) &&& 1431655765)) 2) &&& 858993459)) + (ush (((x0 - ((ush x0 1) &&& 1431655765)) &&& 858993459) + ((ush (x0 - ((ush x0 1) &&& 1431655765)) 2) &&& 858993459)) 4)) &&& 252645135) 8)) 16)) &&& 63)), w)
set_option maxHeartbeats 4000000 in
theorem c_JI_bitCount {d : Nat} {r : Option Value} {w' : MW} (w : MW) (x0 : Int32) (hf : f_JI_bitCount w x0 = some (r, w')) : Ct d mJI_bitCount [.int x0] w r w' := by
  refine eJI_bitCount ?_
  unfold f_JI_bitCount at hf
  obtain ⟨rfl, rfl⟩ := ret_e hf
  exact bJI_bitCount_0 
-- X_man
def f_X_man (w : MW) (x1 : Int32) (x2 : Int32) (x3 : Int32) : Option RT := if (v_X_isKind w x1) = 0 then (some (some (.int (v_X_refuse w (-1 : Int32))), u_X_refuse w (-1 : Int32))) else (if x2 < 0 then (some (some (.int (v_X_refuse w (-6 : Int32))), u_X_refuse w (-6 : Int32))) else (if 10 ≤ x2 then (some (some (.int (v_X_refuse w (-6 : Int32))), u_X_refuse w (-6 : Int32))) else (if x3 < 0 then (some (some (.int (v_X_refuse w (-6 : Int32))), u_X_refuse w (-6 : Int32))) else (if x3 < 3 then (if (w.1 1 1) < 8 then (grd ((w.1 1 1) < 8 → vpb (w.1 1 1) 8 = true) (some (some (.int (((u_Ct_addMan w 1 x1 x2 x3).1 1 1) - 1)), u_Ct_addMan w 1 x1 x2 x3))) else (some (some (.int (v_X_refuse w (-7 : Int32))), u_X_refuse w (-7 : Int32)))) else (some (some (.int (v_X_refuse w (-6 : Int32))), u_X_refuse w (-6 : Int32)))))))
set_option maxHeartbeats 4000000 in
theorem c_X_man {d : Nat} {r : Option Value} {w' : MW} (w : MW) (x1 : Int32) (x2 : Int32) (x3 : Int32) (hf : f_X_man w x1 x2 x3 = some (r, w')) : Ct (d + 2) mX_man [.ref 0, .int x1, .int x2, .int x3] w r w' := by
  refine eX_man ?_
  unfold f_X_man at hf
  refine bX_man_0 (ct := c_X_isKind (d := d + 1) w x1) (k := ?_)
  refine bX_man_4 (kt := fun q2 => ?_) (kf := fun q2 => ?_)
  · replace hf := ite_f q2 hf
    refine bX_man_13 (kt := fun q3 => ?_) (kf := fun q3 => ?_)
    · replace hf := ite_t q3 hf
      refine bX_man_32 (ct := c_X_refuse (d := d + 1) w (-6 : Int32)) (k := ?_)
      obtain ⟨rfl, rfl⟩ := ret_e hf
      exact bX_man_38 
    · replace hf := ite_f q3 hf
      refine bX_man_17 (kt := fun q6 => ?_) (kf := fun q6 => ?_)
      · replace hf := ite_t q6 hf
        refine bX_man_32 (ct := c_X_refuse (d := d + 1) w (-6 : Int32)) (k := ?_)
        obtain ⟨rfl, rfl⟩ := ret_e hf
        exact bX_man_38 
      · replace hf := ite_f q6 hf
        refine bX_man_23 (kt := fun q9 => ?_) (kf := fun q9 => ?_)
        · replace hf := ite_t q9 hf
          refine bX_man_32 (ct := c_X_refuse (d := d + 1) w (-6 : Int32)) (k := ?_)
          obtain ⟨rfl, rfl⟩ := ret_e hf
          exact bX_man_38 
        · replace hf := ite_f q9 hf
          refine bX_man_27 (kt := fun q12 => ?_) (kf := fun q12 => ?_)
          · replace hf := ite_t q12 hf
            refine bX_man_39 (y1 := 1) (kt := fun q13 => ?_) (kf := fun q13 => ?_)
            · replace hf := ite_t q13 hf
              obtain ⟨g14_0, hf⟩ := grd_e hf
              refine bX_man_58 (y1 := 1) (ct := c_Ct_addMan (d := d) w 1 x1 x2 x3 ct1 (fun z0 => vpb_ok (g14_0 z0))) (k := ?_)
              obtain ⟨rfl, rfl⟩ := ret_e hf
              exact bX_man_68 (y1 := 1)
            · replace hf := ite_f q13 hf
              refine bX_man_51 (ct := c_X_refuse (d := d + 1) w (-7 : Int32)) (k := ?_)
              obtain ⟨rfl, rfl⟩ := ret_e hf
              exact bX_man_57 
          · replace hf := ite_f q12 hf
            refine bX_man_32 (ct := c_X_refuse (d := d + 1) w (-6 : Int32)) (k := ?_)
            obtain ⟨rfl, rfl⟩ := ret_e hf
            exact bX_man_38 
  · replace hf := ite_t q2 hf
    refine bX_man_7 (ct := c_X_refuse (d := d + 1) w (-1 : Int32)) (k := ?_)
    obtain ⟨rfl, rfl⟩ := ret_e hf
    exact bX_man_12 
-- X_meet
def f_X_meet (w : MW) (x1 : Int32) (x2 : Int32) (x3 : Int32) : Option RT := if (v_Ct_isMan w 1 x1) = 0 then (some (some (.int (v_X_refuse w (-1 : Int32))), u_X_refuse w (-1 : Int32))) else (if (v_Ct_isMan w 1 x2) = 0 then (some (some (.int (v_X_refuse w (-1 : Int32))), u_X_refuse w (-1 : Int32))) else (if x1 = x2 then (some (some (.int (v_X_refuse w (-6 : Int32))), u_X_refuse w (-6 : Int32))) else (grd (¬ (v_Ct_isMan w 1 x1) = 0 → vpb x1 8 = true) (if (v_Ct_doMeet w 1 x1 x2) = 0 then (grd (¬ (v_Ct_isMan w 1 x1) = 0 → ¬ (v_Ct_isMan w 1 x2) = 0 → x3 = 0 → vpb x1 8 = true) (grd (¬ (v_Ct_isMan w 1 x1) = 0 → ¬ (v_Ct_isMan w 1 x2) = 0 → x3 = 0 → vpb x2 8 = true) (grd (¬ (v_Ct_isMan w 1 x1) = 0 → ¬ (v_Ct_isMan w 1 x2) = 0 → ¬ x3 = 0 → vpb x1 8 = true) (grd (¬ (v_Ct_isMan w 1 x1) = 0 → ¬ (v_Ct_isMan w 1 x2) = 0 → ¬ x3 = 0 → vpb x2 8 = true) (some (some (.int (0 : Int32)), u_Ct_link w 1 x1 x2 x3)))))) else (grd (¬ (v_Ct_isMan w 1 x1) = 0 → ¬ (v_Ct_isMan w 1 x2) = 0 → x3 = 0 → vpb x1 8 = true) (grd (¬ (v_Ct_isMan w 1 x1) = 0 → ¬ (v_Ct_isMan w 1 x2) = 0 → x3 = 0 → vpb x2 8 = true) (grd (¬ (v_Ct_isMan w 1 x1) = 0 → ¬ (v_Ct_isMan w 1 x2) = 0 → ¬ x3 = 0 → vpb x1 8 = true) (grd (¬ (v_Ct_isMan w 1 x1) = 0 → ¬ (v_Ct_isMan w 1 x2) = 0 → ¬ x3 = 0 → vpb x2 8 = true) (some (some (.int (1 : Int32)), u_Ct_link w 1 x1 x2 x3))))))))))
set_option maxHeartbeats 4000000 in
theorem c_X_meet {d : Nat} {r : Option Value} {w' : MW} (w : MW) (x1 : Int32) (x2 : Int32) (x3 : Int32) (hf : f_X_meet w x1 x2 x3 = some (r, w')) : Ct (d + 2) mX_meet [.ref 0, .int x1, .int x2, .int x3] w r w' := by
  refine eX_meet ?_
  unfold f_X_meet at hf
  refine bX_meet_0 (y1 := 1) (ct := c_Ct_isMan (d := d + 1) w 1 x1 ct1) (k := ?_)
  refine bX_meet_8 (kt := fun q2 => ?_) (kf := fun q2 => ?_)
  · replace hf := ite_t q2 hf
    refine bX_meet_22 (ct := c_X_refuse (d := d + 1) w (-1 : Int32)) (k := ?_)
    obtain ⟨rfl, rfl⟩ := ret_e hf
    exact bX_meet_27 
  · replace hf := ite_f q2 hf
    refine bX_meet_11 (y1 := 1) (ct := c_Ct_isMan (d := d + 1) w 1 x2 ct1) (k := ?_)
    refine bX_meet_19 (kt := fun q6 => ?_) (kf := fun q6 => ?_)
    · replace hf := ite_f q6 hf
      refine bX_meet_28 (kt := fun q7 => ?_) (kf := fun q7 => ?_)
      · replace hf := ite_f q7 hf
        obtain ⟨g8_0, hf⟩ := grd_e hf
        refine bX_meet_40 (y1 := 1) (ct := c_Ct_doMeet (d := d) w 1 x1 x2 ct1 (fun z0 => vpb_ok (g8_0 z0))) (k := ?_)
        refine bX_meet_49 (kt := fun q9 => ?_) (kf := fun q9 => ?_)
        · replace hf := ite_t q9 hf
          refine bX_meet_56 (k := ?_)
          obtain ⟨g11_0, hf⟩ := grd_e hf
          obtain ⟨g11_1, hf⟩ := grd_e hf
          obtain ⟨g11_2, hf⟩ := grd_e hf
          obtain ⟨g11_3, hf⟩ := grd_e hf
          refine bX_meet_57 (y1 := 1) (ct := c_Ct_link (d := d) w 1 x1 x2 x3 ct1 (fun z0 z1 z2 => vpb_ok (g11_0 z0 z1 z2)) (fun z0 z1 z2 => vpb_ok (g11_1 z0 z1 z2)) (fun z0 z1 z2 => vpb_ok (g11_2 z0 z1 z2)) (fun z0 z1 z2 => vpb_ok (g11_3 z0 z1 z2))) (k := ?_)
          obtain ⟨rfl, rfl⟩ := ret_e hf
          exact bX_meet_69 
        · replace hf := ite_f q9 hf
          refine bX_meet_52 (k := ?_)
          obtain ⟨g14_0, hf⟩ := grd_e hf
          obtain ⟨g14_1, hf⟩ := grd_e hf
          obtain ⟨g14_2, hf⟩ := grd_e hf
          obtain ⟨g14_3, hf⟩ := grd_e hf
          refine bX_meet_57 (y1 := 1) (ct := c_Ct_link (d := d) w 1 x1 x2 x3 ct1 (fun z0 z1 z2 => vpb_ok (g14_0 z0 z1 z2)) (fun z0 z1 z2 => vpb_ok (g14_1 z0 z1 z2)) (fun z0 z1 z2 => vpb_ok (g14_2 z0 z1 z2)) (fun z0 z1 z2 => vpb_ok (g14_3 z0 z1 z2))) (k := ?_)
          obtain ⟨rfl, rfl⟩ := ret_e hf
          exact bX_meet_69 
      · replace hf := ite_t q7 hf
        refine bX_meet_33 (ct := c_X_refuse (d := d + 1) w (-6 : Int32)) (k := ?_)
        obtain ⟨rfl, rfl⟩ := ret_e hf
        exact bX_meet_39 
    · replace hf := ite_t q6 hf
      refine bX_meet_22 (ct := c_X_refuse (d := d + 1) w (-1 : Int32)) (k := ?_)
      obtain ⟨rfl, rfl⟩ := ret_e hf
      exact bX_meet_27 
-- Sh_firstWrong
def f_Sh_firstWrong_2 (a0 : Nat) : Nat → MW → Int32 → Int32 → Option RT
  | 0, _, _, _ => none
  | n + 1, w, x1, x2 => if x1 ≤ x2 then (some (some (.int (-1 : Int32)), w)) else (if (w.1 a0 1) ≤ x2 then (some (some (.int (-1 : Int32)), w)) else (grd (¬ x2 < 0 → ¬ (w.1 a0 1) ≤ x2 → vpb x2 160 = true) (if (v_Sh_asInt w a0 x2) < 0 then (some (some (.int x2), w)) else (if (v_Sh_asInt w a0 x2) < 40 then (f_Sh_firstWrong_2 a0 n w x1 (x2 + 1)) else (some (some (.int x2), w))))))
set_option maxHeartbeats 4000000 in
theorem r_Sh_firstWrong_2 {d : Nat} {r : Option Value} {w' : MW} (a0 : Nat) (c0 : isSh a0) : ∀ (n : Nat) (w : MW) (x1 : Int32) (x2 : Int32), f_Sh_firstWrong_2 a0 n w x1 x2 = some (r, w') → Rn (d + 1) mSh_firstWrong 2 [some (.ref a0), some (.int x1), some (.int x2), none] [] w r w' := by
  intro n
  induction n with
  | zero =>
    intro w x1 x2 hf
    cases hf
  | succ n ih =>
    intro w x1 x2 hf
    rw [f_Sh_firstWrong_2] at hf
    refine bSh_firstWrong_2 (kt := fun q1 => ?_) (kf := fun q1 => ?_)
    · replace hf := ite_t q1 hf
      obtain ⟨rfl, rfl⟩ := ret_e hf
      exact bSh_firstWrong_39 
    · replace hf := ite_f q1 hf
      refine bSh_firstWrong_7 (h1 := sh_g1 c0) (kt := fun q3 => ?_) (kf := fun q3 => ?_)
      · replace hf := ite_t q3 hf
        obtain ⟨rfl, rfl⟩ := ret_e hf
        exact bSh_firstWrong_39 
      · replace hf := ite_f q3 hf
        obtain ⟨g5_0, hf⟩ := grd_e hf
        refine bSh_firstWrong_15 (h1 := sh_k c0) (ct := c_Sh_asInt (d := d) w a0 x2 c0 (fun z0 z1 => vpb_ok (g5_0 z0 z1))) (k := ?_)
        refine bSh_firstWrong_20 (kt := fun q6 => ?_) (kf := fun q6 => ?_)
        · replace hf := ite_t q6 hf
          obtain ⟨rfl, rfl⟩ := ret_e hf
          exact bSh_firstWrong_31 
        · replace hf := ite_f q6 hf
          refine bSh_firstWrong_25 (kt := fun q8 => ?_) (kf := fun q8 => ?_)
          · replace hf := ite_t q8 hf
            refine bSh_firstWrong_33 (k := ?_)
            exact ih w x1 (x2 + 1) hf
          · replace hf := ite_f q8 hf
            obtain ⟨rfl, rfl⟩ := ret_e hf
            exact bSh_firstWrong_31 
def f_Sh_firstWrong (w : MW) (a0 : Nat) (x1 : Int32) : Option RT := f_Sh_firstWrong_2 a0 FU w x1 (0 : Int32)
set_option maxHeartbeats 4000000 in
theorem c_Sh_firstWrong {d : Nat} {r : Option Value} {w' : MW} (w : MW) (a0 : Nat) (x1 : Int32) (c0 : isSh a0) (hf : f_Sh_firstWrong w a0 x1 = some (r, w')) : Ct (d + 1) mSh_firstWrong [.ref a0, .int x1] w r w' := by
  refine eSh_firstWrong ?_
  unfold f_Sh_firstWrong at hf
  refine bSh_firstWrong_0 (k := ?_)
  exact r_Sh_firstWrong_2 a0 c0 FU w x1 (0 : Int32) hf
-- X_word
def f_X_word (w : MW) (x1 : Int32) : Option RT := if (v_Ct_isPlace w 1 x1) = 0 then (some (some (.int (v_X_refuse w (-5 : Int32))), u_X_refuse w (-5 : Int32))) else (grd (vpb x1 30 = true) (some (some (.int (w.1 11 x1.toNatClampNeg)), w)))
set_option maxHeartbeats 4000000 in
theorem c_X_word {d : Nat} {r : Option Value} {w' : MW} (w : MW) (x1 : Int32) (hf : f_X_word w x1 = some (r, w')) : Ct (d + 1) mX_word [.ref 0, .int x1] w r w' := by
  refine eX_word ?_
  unfold f_X_word at hf
  refine bX_word_0 (y1 := 1) (ct := c_Ct_isPlace (d := d) w 1 x1 ct1) (k := ?_)
  refine bX_word_8 (kt := fun q2 => ?_) (kf := fun q2 => ?_)
  · replace hf := ite_f q2 hf
    obtain ⟨g3_0, hf⟩ := grd_e hf
    obtain ⟨rfl, rfl⟩ := ret_e hf
    exact bX_word_18 (y1 := 1) (y2 := 11) (h4 := (vpb_ok g3_0))
  · replace hf := ite_t q2 hf
    refine bX_word_11 (ct := c_X_refuse (d := d) w (-5 : Int32)) (k := ?_)
    obtain ⟨rfl, rfl⟩ := ret_e hf
    exact bX_word_17 
-- Ct_become
def f_Ct_become_2 (a0 : Nat) (a1 : Nat) : Nat → MW → Int32 → Option RT
  | 0, _, _ => none
  | n + 1, w, x2 => if 8 ≤ x2 then (some (none, setI (setI (setA (setI w a0 1 (w.1 a1 1)) (a0 + 10) (va_cpy ((setI w a0 1 (w.1 a1 1)).1 (a1 + 10)) ((setI w a0 1 (w.1 a1 1)).1 (a0 + 10)) (0 : Int32).toNatClampNeg (0 : Int32).toNatClampNeg (30 : Int32).toNatClampNeg)) a0 3 ((setA (setI w a0 1 (w.1 a1 1)) (a0 + 10) (va_cpy ((setI w a0 1 (w.1 a1 1)).1 (a1 + 10)) ((setI w a0 1 (w.1 a1 1)).1 (a0 + 10)) (0 : Int32).toNatClampNeg (0 : Int32).toNatClampNeg (30 : Int32).toNatClampNeg)).1 a1 3)) a0 4 ((setI (setA (setI w a0 1 (w.1 a1 1)) (a0 + 10) (va_cpy ((setI w a0 1 (w.1 a1 1)).1 (a1 + 10)) ((setI w a0 1 (w.1 a1 1)).1 (a0 + 10)) (0 : Int32).toNatClampNeg (0 : Int32).toNatClampNeg (30 : Int32).toNatClampNeg)) a0 3 ((setA (setI w a0 1 (w.1 a1 1)) (a0 + 10) (va_cpy ((setI w a0 1 (w.1 a1 1)).1 (a1 + 10)) ((setI w a0 1 (w.1 a1 1)).1 (a0 + 10)) (0 : Int32).toNatClampNeg (0 : Int32).toNatClampNeg (30 : Int32).toNatClampNeg)).1 a1 3)).1 a1 4))) else (grd (vpb x2 8 = true) (f_Ct_become_2 a0 a1 n (u_Mn_become w (a0 + 2 + x2.toNatClampNeg) (a1 + 2 + x2.toNatClampNeg)) (x2 + 1)))
set_option maxHeartbeats 4000000 in
theorem r_Ct_become_2 {d : Nat} {r : Option Value} {w' : MW} (a0 : Nat) (a1 : Nat) (c0 : isCt a0) (c1 : isCt a1) : ∀ (n : Nat) (w : MW) (x2 : Int32), f_Ct_become_2 a0 a1 n w x2 = some (r, w') → Rn (d + 1) mCt_become 2 [some (.ref a0), some (.ref a1), some (.int x2)] [] w r w' := by
  intro n
  induction n with
  | zero =>
    intro w x2 hf
    cases hf
  | succ n ih =>
    intro w x2 hf
    rw [f_Ct_become_2] at hf
    refine bCt_become_2 (kt := fun q1 => ?_) (kf := fun q1 => ?_)
    · replace hf := ite_t q1 hf
      obtain ⟨rfl, rfl⟩ := ret_e hf
      exact bCt_become_29 (h1 := ct_g1 c1) (h2 := ct_g1 c0) (y1 := a1 + 10) (h3 := ct_r2 c1) (y2 := a0 + 10) (h4 := ct_r2 c0) (h5 := ⟨ct_k10 c1, ct_k10 c0⟩) (h6 := by rw [ct_l30 c1]; rw [ct_l30 c0]; decide) (h7 := ct_g3 c1) (h8 := ct_g3 c0) (h9 := ct_g4 c1) (h10 := ct_g4 c0)
    · replace hf := ite_f q1 hf
      obtain ⟨g3_0, hf⟩ := grd_e hf
      refine bCt_become_8 (y1 := a0 + 1) (h1 := ct_r0 c0) (y2 := a0 + 2 + x2.toNatClampNeg) (h2 := ct_k12 c0) (h3 := ct_l8 c0 (vpb_ok g3_0)) (h4 := ct_mn c0 (vpb_ok g3_0)) (y3 := a1 + 1) (h5 := ct_r0 c1) (y4 := a1 + 2 + x2.toNatClampNeg) (h6 := ct_k12 c1) (h7 := ct_l8 c1 (vpb_ok g3_0)) (h8 := ct_mn c1 (vpb_ok g3_0)) (h9 := mn_k (mn_of c0 (vpb_ok g3_0))) (ct := c_Mn_become (d := d) w (a0 + 2 + x2.toNatClampNeg) (a1 + 2 + x2.toNatClampNeg) (mn_of c0 (vpb_ok g3_0)) (mn_of c1 (vpb_ok g3_0))) (k := ?_)
      refine bCt_become_23 (k := ?_)
      exact ih (u_Mn_become w (a0 + 2 + x2.toNatClampNeg) (a1 + 2 + x2.toNatClampNeg)) (x2 + 1) hf
def f_Ct_become (w : MW) (a0 : Nat) (a1 : Nat) : Option RT := f_Ct_become_2 a0 a1 FU w (0 : Int32)
set_option maxHeartbeats 4000000 in
theorem c_Ct_become {d : Nat} {r : Option Value} {w' : MW} (w : MW) (a0 : Nat) (a1 : Nat) (c0 : isCt a0) (c1 : isCt a1) (hf : f_Ct_become w a0 a1 = some (r, w')) : Ct (d + 1) mCt_become [.ref a0, .ref a1] w r w' := by
  refine eCt_become ?_
  unfold f_Ct_become at hf
  refine bCt_become_0 (k := ?_)
  exact r_Ct_become_2 a0 a1 c0 c1 FU w (0 : Int32) hf
-- Rd_takeWord
def f_Rd_takeWord_2 (a1 : Nat) (a2 : Nat) : Nat → MW → Int32 → Option RT
  | 0, _, _ => none
  | n + 1, w, x3 => bI (f_JS_length w a2) (fun v1 w1 => if v1 ≤ x3 then (some (none, w1)) else (if (w1.1 52 3) = (-1) then (bI (f_JS_charAt w1 a2 x3) (fun v6 w6 => grd (¬ (v_Sh_has w6 a1 (w6.1 52 1)) = 0 → ¬ (w6.1 52 1) < 0 → ¬ (w6.1 a1 1) ≤ (w6.1 52 1) → vpb (w6.1 52 1) 160 = true) (f_Rd_takeWord_2 a1 a2 n (u_Rd_take w6 a1 v6) (x3 + 1)))) else (some (none, w1))))
set_option maxHeartbeats 4000000 in
theorem r_Rd_takeWord_2 {d : Nat} {r : Option Value} {w' : MW} (a1 : Nat) (a2 : Nat) (c1 : isSh a1) (c2 : isT a2) : ∀ (n : Nat) (w : MW) (x3 : Int32), f_Rd_takeWord_2 a1 a2 n w x3 = some (r, w') → Rn (d + 4) mRd_takeWord 2 [some (.ref 52), some (.ref a1), some (.ref a2), some (.int x3)] [] w r w' := by
  intro n
  induction n with
  | zero =>
    intro w x3 hf
    cases hf
  | succ n ih =>
    intro w x3 hf
    rw [f_Rd_takeWord_2] at hf
    obtain ⟨v1, w1, e1, hf⟩ := bI_e hf
    refine bRd_takeWord_2 (h1 := c2) (ct := c_JS_length (d := d + 2) w a2 c2 e1) (k := ?_)
    refine bRd_takeWord_7 (kt := fun q2 => ?_) (kf := fun q2 => ?_)
    · replace hf := ite_t q2 hf
      obtain ⟨rfl, rfl⟩ := ret_e hf
      exact bRd_takeWord_34 
    · replace hf := ite_f q2 hf
      refine bRd_takeWord_10 (kt := fun q4 => ?_) (kf := fun q4 => ?_)
      · replace hf := ite_f q4 hf
        obtain ⟨rfl, rfl⟩ := ret_e hf
        exact bRd_takeWord_34 
      · replace hf := ite_t q4 hf
        obtain ⟨v6, w6, e6, hf⟩ := bI_e hf
        refine bRd_takeWord_18 (h1 := c2) (ct := c_JS_charAt (d := d) w1 a2 x3 c2 e6) (k := ?_)
        obtain ⟨g7_0, hf⟩ := grd_e hf
        refine bRd_takeWord_25 (ct := c_Rd_take (d := d + 2) w6 a1 v6 c1 (fun z0 z1 z2 => vpb_ok (g7_0 z0 z1 z2))) (k := ?_)
        refine bRd_takeWord_28 (k := ?_)
        exact ih (u_Rd_take w6 a1 v6) (x3 + 1) hf
def f_Rd_takeWord (w : MW) (a1 : Nat) (a2 : Nat) : Option RT := f_Rd_takeWord_2 a1 a2 FU w (0 : Int32)
set_option maxHeartbeats 4000000 in
theorem c_Rd_takeWord {d : Nat} {r : Option Value} {w' : MW} (w : MW) (a1 : Nat) (a2 : Nat) (c1 : isSh a1) (c2 : isT a2) (hf : f_Rd_takeWord w a1 a2 = some (r, w')) : Ct (d + 4) mRd_takeWord [.ref 52, .ref a1, .ref a2] w r w' := by
  refine eRd_takeWord ?_
  unfold f_Rd_takeWord at hf
  refine bRd_takeWord_0 (k := ?_)
  exact r_Rd_takeWord_2 a1 a2 c1 c2 FU w (0 : Int32) hf
-- Rd_lacksRoom
def f_Rd_lacksRoom (w : MW) (x1 : Int32) : Option RT := if x1 = 0 then (if 8 ≤ (w.1 23 1) then (some (some (.int (1 : Int32)), w)) else (if x1 = 3 then (if (w.1 23 3) < 30 then (some (some (.int (0 : Int32)), w)) else (some (some (.int (1 : Int32)), w))) else (some (some (.int (0 : Int32)), w)))) else (if x1 = 3 then (if (w.1 23 3) < 30 then (some (some (.int (0 : Int32)), w)) else (some (some (.int (1 : Int32)), w))) else (some (some (.int (0 : Int32)), w)))
set_option maxHeartbeats 4000000 in
theorem c_Rd_lacksRoom {d : Nat} {r : Option Value} {w' : MW} (w : MW) (x1 : Int32) (hf : f_Rd_lacksRoom w x1 = some (r, w')) : Ct d mRd_lacksRoom [.ref 52, .int x1] w r w' := by
  refine eRd_lacksRoom ?_
  unfold f_Rd_lacksRoom at hf
  refine bRd_lacksRoom_0 (kt := fun q1 => ?_) (kf := fun q1 => ?_)
  · replace hf := ite_f q1 hf
    refine bRd_lacksRoom_16 (kt := fun q2 => ?_) (kf := fun q2 => ?_)
    · replace hf := ite_f q2 hf
      refine bRd_lacksRoom_37 (k := ?_)
      obtain ⟨rfl, rfl⟩ := ret_e hf
      exact bRd_lacksRoom_38 
    · replace hf := ite_t q2 hf
      refine bRd_lacksRoom_21 (y1 := 23) (kt := fun q5 => ?_) (kf := fun q5 => ?_)
      · replace hf := ite_t q5 hf
        refine bRd_lacksRoom_37 (k := ?_)
        obtain ⟨rfl, rfl⟩ := ret_e hf
        exact bRd_lacksRoom_38 
      · replace hf := ite_f q5 hf
        refine bRd_lacksRoom_33 (k := ?_)
        obtain ⟨rfl, rfl⟩ := ret_e hf
        exact bRd_lacksRoom_38 
  · replace hf := ite_t q1 hf
    refine bRd_lacksRoom_4 (y1 := 23) (kt := fun q10 => ?_) (kf := fun q10 => ?_)
    · replace hf := ite_t q10 hf
      refine bRd_lacksRoom_33 (k := ?_)
      obtain ⟨rfl, rfl⟩ := ret_e hf
      exact bRd_lacksRoom_38 
    · replace hf := ite_f q10 hf
      refine bRd_lacksRoom_16 (kt := fun q13 => ?_) (kf := fun q13 => ?_)
      · replace hf := ite_f q13 hf
        refine bRd_lacksRoom_37 (k := ?_)
        obtain ⟨rfl, rfl⟩ := ret_e hf
        exact bRd_lacksRoom_38 
      · replace hf := ite_t q13 hf
        refine bRd_lacksRoom_21 (y1 := 23) (kt := fun q16 => ?_) (kf := fun q16 => ?_)
        · replace hf := ite_t q16 hf
          refine bRd_lacksRoom_37 (k := ?_)
          obtain ⟨rfl, rfl⟩ := ret_e hf
          exact bRd_lacksRoom_38 
        · replace hf := ite_f q16 hf
          refine bRd_lacksRoom_33 (k := ?_)
          obtain ⟨rfl, rfl⟩ := ret_e hf
          exact bRd_lacksRoom_38 
-- Rd_takeNumber
def f_Rd_takeNumber_40 (a1 : Nat) : Nat → MW → Int32 → Int32 → Int32 → Option RT
  | 0, _, _, _, _ => none
  | n + 1, w, x2, x3, x4 => if 2 ≤ x4 then (if (w.1 52 1) = (w.1 52 2) then (some (some (.int x3), setI w 52 3 (w.1 52 2))) else (if x3 < x2 then (some (some (.int x3), w)) else (some (some (.int x3), setI w 52 3 (w.1 52 2))))) else (grd (¬ (w.1 52 1) < 0 → ¬ (w.1 a1 1) ≤ (w.1 52 1) → vpb (w.1 52 1) 160 = true) (if (v_Rd_isDigit w (v_Sh_asInt w a1 (w.1 52 1))) = 0 then (if (w.1 52 1) = (w.1 52 2) then (some (some (.int x3), setI w 52 3 (w.1 52 2))) else (if x3 < x2 then (some (some (.int x3), w)) else (some (some (.int x3), setI w 52 3 (w.1 52 2))))) else (grd (¬ (w.1 52 1) < 0 → ¬ (w.1 a1 1) ≤ (w.1 52 1) → vpb (w.1 52 1) 160 = true) (f_Rd_takeNumber_40 a1 n (setI w 52 1 ((w.1 52 1) + 1)) x2 (((10 * x3) + (v_Sh_asInt w a1 (w.1 52 1))) - 48) (x4 + 1)))))
set_option maxHeartbeats 4000000 in
theorem r_Rd_takeNumber_40 {d : Nat} {r : Option Value} {w' : MW} (a1 : Nat) (c1 : isSh a1) : ∀ (n : Nat) (w : MW) (x2 : Int32) (x3 : Int32) (x4 : Int32), f_Rd_takeNumber_40 a1 n w x2 x3 x4 = some (r, w') → Rn (d + 2) mRd_takeNumber 40 [some (.ref 52), some (.ref a1), some (.int x2), some (.int x3), some (.int x4)] [] w r w' := by
  intro n
  induction n with
  | zero =>
    intro w x2 x3 x4 hf
    cases hf
  | succ n ih =>
    intro w x2 x3 x4 hf
    rw [f_Rd_takeNumber_40] at hf
    refine bRd_takeNumber_40 (kt := fun q1 => ?_) (kf := fun q1 => ?_)
    · replace hf := ite_t q1 hf
      refine bRd_takeNumber_93 (kt := fun q2 => ?_) (kf := fun q2 => ?_)
      · replace hf := ite_t q2 hf
        refine bRd_takeNumber_109 (k := ?_)
        obtain ⟨rfl, rfl⟩ := ret_e hf
        exact bRd_takeNumber_117 
      · replace hf := ite_f q2 hf
        refine bRd_takeNumber_104 (kt := fun q5 => ?_) (kf := fun q5 => ?_)
        · replace hf := ite_t q5 hf
          obtain ⟨rfl, rfl⟩ := ret_e hf
          exact bRd_takeNumber_117 
        · replace hf := ite_f q5 hf
          refine bRd_takeNumber_109 (k := ?_)
          obtain ⟨rfl, rfl⟩ := ret_e hf
          exact bRd_takeNumber_117 
    · replace hf := ite_f q1 hf
      obtain ⟨g9_0, hf⟩ := grd_e hf
      refine bRd_takeNumber_46 (h2 := sh_k c1) (ct := c_Sh_asInt (d := d + 1) w a1 (w.1 52 1) c1 (fun z0 z1 => vpb_ok (g9_0 z0 z1))) (k := ?_)
      refine bRd_takeNumber_54 (ct := c_Rd_isDigit (d := d + 1) w (v_Sh_asInt w a1 (w.1 52 1))) (k := ?_)
      refine bRd_takeNumber_57 (kt := fun q11 => ?_) (kf := fun q11 => ?_)
      · replace hf := ite_t q11 hf
        refine bRd_takeNumber_93 (kt := fun q12 => ?_) (kf := fun q12 => ?_)
        · replace hf := ite_t q12 hf
          refine bRd_takeNumber_109 (k := ?_)
          obtain ⟨rfl, rfl⟩ := ret_e hf
          exact bRd_takeNumber_117 
        · replace hf := ite_f q12 hf
          refine bRd_takeNumber_104 (kt := fun q15 => ?_) (kf := fun q15 => ?_)
          · replace hf := ite_t q15 hf
            obtain ⟨rfl, rfl⟩ := ret_e hf
            exact bRd_takeNumber_117 
          · replace hf := ite_f q15 hf
            refine bRd_takeNumber_109 (k := ?_)
            obtain ⟨rfl, rfl⟩ := ret_e hf
            exact bRd_takeNumber_117 
      · replace hf := ite_f q11 hf
        obtain ⟨g19_0, hf⟩ := grd_e hf
        refine bRd_takeNumber_60 (h2 := sh_k c1) (ct := c_Sh_asInt (d := d + 1) w a1 (w.1 52 1) c1 (fun z0 z1 => vpb_ok (g19_0 z0 z1))) (k := ?_)
        refine bRd_takeNumber_72 (k := ?_)
        exact ih (setI w 52 1 ((w.1 52 1) + 1)) x2 (((10 * x3) + (v_Sh_asInt w a1 (w.1 52 1))) - 48) (x4 + 1) hf
def f_Rd_takeNumber (w : MW) (a1 : Nat) (x2 : Int32) : Option RT := if (w.1 52 3) = (-1) then (grd (¬ (v_Sh_has w a1 (w.1 52 1)) = 0 → ¬ (w.1 52 1) < 0 → ¬ (w.1 a1 1) ≤ (w.1 52 1) → vpb (w.1 52 1) 160 = true) (if ((u_Rd_take w a1 (32 : Int32)).1 52 3) = (-1) then (f_Rd_takeNumber_40 a1 FU (setI (u_Rd_take w a1 (32 : Int32)) 52 2 ((u_Rd_take w a1 (32 : Int32)).1 52 1)) x2 (0 : Int32) (0 : Int32)) else (some (some (.int (0 : Int32)), u_Rd_take w a1 (32 : Int32))))) else (some (some (.int (0 : Int32)), w))
set_option maxHeartbeats 4000000 in
theorem c_Rd_takeNumber {d : Nat} {r : Option Value} {w' : MW} (w : MW) (a1 : Nat) (x2 : Int32) (c1 : isSh a1) (hf : f_Rd_takeNumber w a1 x2 = some (r, w')) : Ct (d + 2) mRd_takeNumber [.ref 52, .ref a1, .int x2] w r w' := by
  refine eRd_takeNumber ?_
  unfold f_Rd_takeNumber at hf
  refine bRd_takeNumber_0 (kt := fun q1 => ?_) (kf := fun q1 => ?_)
  · replace hf := ite_t q1 hf
    obtain ⟨g2_0, hf⟩ := grd_e hf
    refine bRd_takeNumber_10 (ct := c_Rd_take (d := d) w a1 (32 : Int32) c1 (fun z0 z1 z2 => vpb_ok (g2_0 z0 z1 z2))) (k := ?_)
    refine bRd_takeNumber_17 (kt := fun q3 => ?_) (kf := fun q3 => ?_)
    · replace hf := ite_t q3 hf
      refine bRd_takeNumber_27 (k := ?_)
      exact r_Rd_takeNumber_40 a1 c1 FU (setI (u_Rd_take w a1 (32 : Int32)) 52 2 ((u_Rd_take w a1 (32 : Int32)).1 52 1)) x2 (0 : Int32) (0 : Int32) hf
    · replace hf := ite_f q3 hf
      obtain ⟨rfl, rfl⟩ := ret_e hf
      exact bRd_takeNumber_25 
  · replace hf := ite_f q1 hf
    obtain ⟨rfl, rfl⟩ := ret_e hf
    exact bRd_takeNumber_8 
-- Rd_readMeeting
def f_Rd_readMeeting (w : MW) (a1 : Nat) (x2 : Int32) : Option RT := bI (f_Rd_takeNumber w a1 (w.1 23 1)) (fun v1 w1 => bI (f_Rd_takeNumber w1 a1 (w1.1 23 1)) (fun v2 w2 => if (w2.1 52 3) = (-1) then (if v1 = v2 then (some (none, setI w2 52 3 (w2.1 52 2))) else (grd (¬ (v_Ct_isMan w2 23 v1) = 0 → ¬ (v_Ct_isMan w2 23 v2) = 0 → x2 = 0 → vpb v1 8 = true) (grd (¬ (v_Ct_isMan w2 23 v1) = 0 → ¬ (v_Ct_isMan w2 23 v2) = 0 → x2 = 0 → vpb v2 8 = true) (grd (¬ (v_Ct_isMan w2 23 v1) = 0 → ¬ (v_Ct_isMan w2 23 v2) = 0 → ¬ x2 = 0 → vpb v1 8 = true) (grd (¬ (v_Ct_isMan w2 23 v1) = 0 → ¬ (v_Ct_isMan w2 23 v2) = 0 → ¬ x2 = 0 → vpb v2 8 = true) (some (none, u_Ct_link w2 23 v1 v2 x2))))))) else (some (none, w2))))
set_option maxHeartbeats 4000000 in
theorem c_Rd_readMeeting {d : Nat} {r : Option Value} {w' : MW} (w : MW) (a1 : Nat) (x2 : Int32) (c1 : isSh a1) (hf : f_Rd_readMeeting w a1 x2 = some (r, w')) : Ct (d + 3) mRd_readMeeting [.ref 52, .ref a1, .int x2] w r w' := by
  refine eRd_readMeeting ?_
  unfold f_Rd_readMeeting at hf
  obtain ⟨v1, w1, e1, hf⟩ := bI_e hf
  refine bRd_readMeeting_0 (y1 := 23) (ct := c_Rd_takeNumber (d := d) w a1 (w.1 23 1) c1 e1) (k := ?_)
  obtain ⟨v2, w2, e2, hf⟩ := bI_e hf
  refine bRd_readMeeting_12 (y1 := 23) (ct := c_Rd_takeNumber (d := d) w1 a1 (w1.1 23 1) c1 e2) (k := ?_)
  refine bRd_readMeeting_25 (kt := fun q3 => ?_) (kf := fun q3 => ?_)
  · replace hf := ite_t q3 hf
    refine bRd_readMeeting_36 (kt := fun q4 => ?_) (kf := fun q4 => ?_)
    · replace hf := ite_f q4 hf
      obtain ⟨g5_0, hf⟩ := grd_e hf
      obtain ⟨g5_1, hf⟩ := grd_e hf
      obtain ⟨g5_2, hf⟩ := grd_e hf
      obtain ⟨g5_3, hf⟩ := grd_e hf
      refine bRd_readMeeting_53 (y1 := 23) (ct := c_Ct_link (d := d + 1) w2 23 v1 v2 x2 ct23 (fun z0 z1 z2 => vpb_ok (g5_0 z0 z1 z2)) (fun z0 z1 z2 => vpb_ok (g5_1 z0 z1 z2)) (fun z0 z1 z2 => vpb_ok (g5_2 z0 z1 z2)) (fun z0 z1 z2 => vpb_ok (g5_3 z0 z1 z2))) (k := ?_)
      obtain ⟨rfl, rfl⟩ := ret_e hf
      exact bRd_readMeeting_64 
    · replace hf := ite_t q4 hf
      refine bRd_readMeeting_42 (k := ?_)
      obtain ⟨rfl, rfl⟩ := ret_e hf
      exact bRd_readMeeting_64 
  · replace hf := ite_f q3 hf
    obtain ⟨rfl, rfl⟩ := ret_e hf
    exact bRd_readMeeting_35 
-- Rd_readWord
def f_Rd_readWord (w : MW) (a1 : Nat) : Option RT := bI (f_Rd_takeNumber w a1 (40 : Int32)) (fun v1 w1 => if (w1.1 52 3) = (-1) then (grd ((w1.1 23 3) < 30 → vpb (w1.1 23 3) 30 = true) (some (none, u_Ct_addWord w1 23 v1))) else (some (none, w1)))
set_option maxHeartbeats 4000000 in
theorem c_Rd_readWord {d : Nat} {r : Option Value} {w' : MW} (w : MW) (a1 : Nat) (c1 : isSh a1) (hf : f_Rd_readWord w a1 = some (r, w')) : Ct (d + 3) mRd_readWord [.ref 52, .ref a1] w r w' := by
  refine eRd_readWord ?_
  unfold f_Rd_readWord at hf
  obtain ⟨v1, w1, e1, hf⟩ := bI_e hf
  refine bRd_readWord_0 (ct := c_Rd_takeNumber (d := d) w a1 (40 : Int32) c1 e1) (k := ?_)
  refine bRd_readWord_7 (kt := fun q2 => ?_) (kf := fun q2 => ?_)
  · replace hf := ite_f q2 hf
    obtain ⟨rfl, rfl⟩ := ret_e hf
    exact bRd_readWord_24 
  · replace hf := ite_t q2 hf
    obtain ⟨g4_0, hf⟩ := grd_e hf
    refine bRd_readWord_16 (y1 := 23) (ct := c_Ct_addWord (d := d + 2) w1 23 v1 ct23 (fun z0 => vpb_ok (g4_0 z0))) (k := ?_)
    obtain ⟨rfl, rfl⟩ := ret_e hf
    exact bRd_readWord_24 
-- X_fault
def f_X_fault (w : MW) : Option RT := some (some (.int (w.1 0 9)), w)
set_option maxHeartbeats 4000000 in
theorem c_X_fault {d : Nat} {r : Option Value} {w' : MW} (w : MW) (hf : f_X_fault w = some (r, w')) : Ct d mX_fault [.ref 0] w r w' := by
  refine eX_fault ?_
  unfold f_X_fault at hf
  obtain ⟨rfl, rfl⟩ := ret_e hf
  exact bX_fault_0 
-- Co_rideOnce
def f_Co_rideOnce_27 (k17 : MW → Int32 → Option RT) : Nat → MW → Int32 → Int32 → Option RT
  | 0, _, _, _ => none
  | n + 1, w, x1, x2 => if (w.1 53 3) ≤ x2 then (k17 w (x1 + 1)) else (grd (vpb x1 8 = true) (if ((ush (w.1 56 x1.toNatClampNeg) x2) &&& 1) = 1 then (grd (vpb x1 8 = true) (grd (vpb x2 8 = true) (f_Co_rideOnce_27 k17 n (setI w 54 x1.toNatClampNeg ((w.1 54 x1.toNatClampNeg) ||| (w.1 55 x2.toNatClampNeg))) x1 (x2 + 1)))) else (f_Co_rideOnce_27 k17 n w x1 (x2 + 1))))
set_option maxHeartbeats 4000000 in
theorem r_Co_rideOnce_27 {d : Nat} {r : Option Value} {w' : MW} (k17 : MW → Int32 → Option RT) (hk17 : ∀ w x1, k17 w x1 = some (r, w') → Rn d mCo_rideOnce 17 [some (.ref 53), some (.int x1), none] [] w r w') : ∀ (n : Nat) (w : MW) (x1 : Int32) (x2 : Int32), f_Co_rideOnce_27 k17 n w x1 x2 = some (r, w') → Rn d mCo_rideOnce 27 [some (.ref 53), some (.int x1), some (.int x2)] [] w r w' := by
  intro n
  induction n with
  | zero =>
    intro w x1 x2 hf
    cases hf
  | succ n ih =>
    intro w x1 x2 hf
    rw [f_Co_rideOnce_27] at hf
    refine bCo_rideOnce_27 (kt := fun q1 => ?_) (kf := fun q1 => ?_)
    · replace hf := ite_t q1 hf
      refine bCo_rideOnce_70 (k := ?_)
      exact hk17 w (x1 + 1) hf
    · replace hf := ite_f q1 hf
      obtain ⟨g3_0, hf⟩ := grd_e hf
      refine bCo_rideOnce_35 (y1 := 56) (h3 := (vpb_ok g3_0)) (kt := fun q3 => ?_) (kf := fun q3 => ?_)
      · replace hf := ite_f q3 hf
        refine bCo_rideOnce_64 (k := ?_)
        exact ih w x1 (x2 + 1) hf
      · replace hf := ite_t q3 hf
        obtain ⟨g5_0, hf⟩ := grd_e hf
        obtain ⟨g5_1, hf⟩ := grd_e hf
        refine bCo_rideOnce_49 (y1 := 54) (h3 := (vpb_ok g5_0)) (y2 := 55) (h6 := (vpb_ok g5_1)) (h8 := (vpb_ok g5_0)) (k := ?_)
        refine bCo_rideOnce_64 (k := ?_)
        exact ih (setI w 54 x1.toNatClampNeg ((w.1 54 x1.toNatClampNeg) ||| (w.1 55 x2.toNatClampNeg))) x1 (x2 + 1) hf
def f_Co_rideOnce_17 : Nat → MW → Int32 → Option RT
  | 0, _, _ => none
  | n + 1, w, x1 => if (w.1 53 3) ≤ x1 then (some (none, w)) else (f_Co_rideOnce_27 (fun w x1 => f_Co_rideOnce_17 n w x1) FU w x1 (0 : Int32))
set_option maxHeartbeats 4000000 in
theorem r_Co_rideOnce_17 {d : Nat} {r : Option Value} {w' : MW} : ∀ (n : Nat) (w : MW) (x1 : Int32), f_Co_rideOnce_17 n w x1 = some (r, w') → Rn d mCo_rideOnce 17 [some (.ref 53), some (.int x1), none] [] w r w' := by
  intro n
  induction n with
  | zero =>
    intro w x1 hf
    cases hf
  | succ n ih =>
    intro w x1 hf
    rw [f_Co_rideOnce_17] at hf
    refine bCo_rideOnce_17 (kt := fun q1 => ?_) (kf := fun q1 => ?_)
    · replace hf := ite_t q1 hf
      obtain ⟨rfl, rfl⟩ := ret_e hf
      exact bCo_rideOnce_76 
    · replace hf := ite_f q1 hf
      refine bCo_rideOnce_25 (k := ?_)
      exact r_Co_rideOnce_27 (fun w x1 => f_Co_rideOnce_17 n w x1) ih FU w x1 (0 : Int32) hf
def f_Co_rideOnce (w : MW) : Option RT := f_Co_rideOnce_17 FU (setA w 55 (va_cpy (w.1 54) (w.1 55) (0 : Int32).toNatClampNeg (0 : Int32).toNatClampNeg (8 : Int32).toNatClampNeg)) (0 : Int32)
set_option maxHeartbeats 4000000 in
theorem c_Co_rideOnce {d : Nat} {r : Option Value} {w' : MW} (w : MW) (hf : f_Co_rideOnce w = some (r, w')) : Ct d mCo_rideOnce [.ref 53] w r w' := by
  refine eCo_rideOnce ?_
  unfold f_Co_rideOnce at hf
  refine bCo_rideOnce_0 (y1 := 54) (y2 := 55) (h3 := ⟨rfl, rfl⟩) (h4 := (by decide)) (k := ?_)
  exact r_Co_rideOnce_17 FU (setA w 55 (va_cpy (w.1 54) (w.1 55) (0 : Int32).toNatClampNeg (0 : Int32).toNatClampNeg (8 : Int32).toNatClampNeg)) (0 : Int32) hf
-- X_senseIn
def f_X_senseIn_11 (a0 : Nat) : Nat → MW → Int32 → Int32 → Int32 → Int32 → Int32 → Int32 → Option RT
  | 0, _, _, _, _, _, _, _ => none
  | n + 1, w, x1, x2, x3, x4, x5, x6 => if x1 ≤ x6 then (some (some (.int (-1 : Int32)), w)) else (if (Int32.ofNat (aln w a0)) ≤ x6 then (some (some (.int (-1 : Int32)), w)) else (if ((ush x2 x6) &&& 1) = 0 then (f_X_senseIn_11 a0 n w x1 x2 x3 x4 x5 (x6 + 1)) else (grd (vpb x6 30 = true) (if x3 = (-1) then (if ((w.1 a0 x6.toNatClampNeg) - (w.1 a0 x6.toNatClampNeg) / 4 * 4) = 0 then (f_X_senseIn_11 a0 n w x1 x2 ((w.1 a0 x6.toNatClampNeg) / 4) x4 x5 (x6 + 1)) else (f_X_senseIn_11 a0 n w x1 x2 x3 x4 x5 (x6 + 1))) else (if ((w.1 a0 x6.toNatClampNeg) - (w.1 a0 x6.toNatClampNeg) / 4 * 4) = 2 then (f_X_senseIn_11 a0 n w x1 x2 x3 x4 (x5 + 1) (x6 + 1)) else (if ((w.1 a0 x6.toNatClampNeg) - (w.1 a0 x6.toNatClampNeg) / 4 * 4) = 1 then (if x4 = (-1) then (f_X_senseIn_11 a0 n w x1 x2 x3 ((w.1 a0 x6.toNatClampNeg) / 4) x5 (x6 + 1)) else (if ((w.1 a0 x6.toNatClampNeg) - (w.1 a0 x6.toNatClampNeg) / 4 * 4) = 0 then (if x4 = (-1) then (f_X_senseIn_11 a0 n w x1 x2 x3 x4 x5 (x6 + 1)) else (if (x5 - x5 / 2 * 2) = 1 then (some (some (.int ((((100 * x3) + (10 * x4)) + ((w.1 a0 x6.toNatClampNeg) / 4)) + 1000)), w)) else (some (some (.int ((((100 * x3) + (10 * x4)) + ((w.1 a0 x6.toNatClampNeg) / 4)) + 0)), w)))) else (f_X_senseIn_11 a0 n w x1 x2 x3 x4 x5 (x6 + 1)))) else (if ((w.1 a0 x6.toNatClampNeg) - (w.1 a0 x6.toNatClampNeg) / 4 * 4) = 0 then (if x4 = (-1) then (f_X_senseIn_11 a0 n w x1 x2 x3 x4 x5 (x6 + 1)) else (if (x5 - x5 / 2 * 2) = 1 then (some (some (.int ((((100 * x3) + (10 * x4)) + ((w.1 a0 x6.toNatClampNeg) / 4)) + 1000)), w)) else (some (some (.int ((((100 * x3) + (10 * x4)) + ((w.1 a0 x6.toNatClampNeg) / 4)) + 0)), w)))) else (f_X_senseIn_11 a0 n w x1 x2 x3 x4 x5 (x6 + 1)))))))))
set_option maxHeartbeats 4000000 in
theorem r_X_senseIn_11 {d : Nat} {r : Option Value} {w' : MW} (a0 : Nat) (c0 : isIRow a0) : ∀ (n : Nat) (w : MW) (x1 : Int32) (x2 : Int32) (x3 : Int32) (x4 : Int32) (x5 : Int32) (x6 : Int32), f_X_senseIn_11 a0 n w x1 x2 x3 x4 x5 x6 = some (r, w') → Rn d mX_senseIn 11 [some (.ref a0), some (.int x1), some (.int x2), some (.int x3), some (.int x4), some (.int x5), some (.int x6), none, none] [] w r w' := by
  intro n
  induction n with
  | zero =>
    intro w x1 x2 x3 x4 x5 x6 hf
    cases hf
  | succ n ih =>
    intro w x1 x2 x3 x4 x5 x6 hf
    rw [f_X_senseIn_11] at hf
    refine bX_senseIn_11 (kt := fun q1 => ?_) (kf := fun q1 => ?_)
    · replace hf := ite_t q1 hf
      obtain ⟨rfl, rfl⟩ := ret_e hf
      exact bX_senseIn_146 
    · replace hf := ite_f q1 hf
      refine bX_senseIn_17 (h1 := (Or.inl (c0).1)) (kt := fun q3 => ?_) (kf := fun q3 => ?_)
      · replace hf := ite_t q3 hf
        obtain ⟨rfl, rfl⟩ := ret_e hf
        exact bX_senseIn_146 
      · replace hf := ite_f q3 hf
        refine bX_senseIn_24 (kt := fun q5 => ?_) (kf := fun q5 => ?_)
        · replace hf := ite_f q5 hf
          obtain ⟨g6_0, hf⟩ := grd_e hf
          refine bX_senseIn_36 (h1 := (Or.inl (c0).1)) (h2 := al_in (c0).1 (c0).2 (vpb_ok g6_0)) (h3 := (Or.inl (c0).1)) (h4 := al_in (c0).1 (c0).2 (vpb_ok g6_0)) (kt := fun q6 => ?_) (kf := fun q6 => ?_)
          · replace hf := ite_f q6 hf
            refine bX_senseIn_68 (kt := fun q7 => ?_) (kf := fun q7 => ?_)
            · replace hf := ite_f q7 hf
              refine bX_senseIn_80 (kt := fun q8 => ?_) (kf := fun q8 => ?_)
              · replace hf := ite_f q8 hf
                refine bX_senseIn_99 (kt := fun q9 => ?_) (kf := fun q9 => ?_)
                · replace hf := ite_f q9 hf
                  refine bX_senseIn_140 (k := ?_)
                  exact ih w x1 x2 x3 x4 x5 (x6 + 1) hf
                · replace hf := ite_t q9 hf
                  refine bX_senseIn_104 (kt := fun q11 => ?_) (kf := fun q11 => ?_)
                  · replace hf := ite_t q11 hf
                    refine bX_senseIn_140 (k := ?_)
                    exact ih w x1 x2 x3 x4 x5 (x6 + 1) hf
                  · replace hf := ite_f q11 hf
                    refine bX_senseIn_110 (kt := fun q13 => ?_) (kf := fun q13 => ?_)
                    · replace hf := ite_f q13 hf
                      refine bX_senseIn_137 (k := ?_)
                      obtain ⟨rfl, rfl⟩ := ret_e hf
                      exact bX_senseIn_138 
                    · replace hf := ite_t q13 hf
                      refine bX_senseIn_131 (k := ?_)
                      obtain ⟨rfl, rfl⟩ := ret_e hf
                      exact bX_senseIn_138 
              · replace hf := ite_t q8 hf
                refine bX_senseIn_86 (kt := fun q18 => ?_) (kf := fun q18 => ?_)
                · replace hf := ite_f q18 hf
                  refine bX_senseIn_99 (kt := fun q19 => ?_) (kf := fun q19 => ?_)
                  · replace hf := ite_f q19 hf
                    refine bX_senseIn_140 (k := ?_)
                    exact ih w x1 x2 x3 x4 x5 (x6 + 1) hf
                  · replace hf := ite_t q19 hf
                    refine bX_senseIn_104 (kt := fun q21 => ?_) (kf := fun q21 => ?_)
                    · replace hf := ite_t q21 hf
                      refine bX_senseIn_140 (k := ?_)
                      exact ih w x1 x2 x3 x4 x5 (x6 + 1) hf
                    · replace hf := ite_f q21 hf
                      refine bX_senseIn_110 (kt := fun q23 => ?_) (kf := fun q23 => ?_)
                      · replace hf := ite_f q23 hf
                        refine bX_senseIn_137 (k := ?_)
                        obtain ⟨rfl, rfl⟩ := ret_e hf
                        exact bX_senseIn_138 
                      · replace hf := ite_t q23 hf
                        refine bX_senseIn_131 (k := ?_)
                        obtain ⟨rfl, rfl⟩ := ret_e hf
                        exact bX_senseIn_138 
                · replace hf := ite_t q18 hf
                  refine bX_senseIn_92 (k := ?_)
                  refine bX_senseIn_140 (k := ?_)
                  exact ih w x1 x2 x3 ((w.1 a0 x6.toNatClampNeg) / 4) x5 (x6 + 1) hf
            · replace hf := ite_t q7 hf
              refine bX_senseIn_74 (k := ?_)
              refine bX_senseIn_140 (k := ?_)
              exact ih w x1 x2 x3 x4 (x5 + 1) (x6 + 1) hf
          · replace hf := ite_t q6 hf
            refine bX_senseIn_57 (kt := fun q32 => ?_) (kf := fun q32 => ?_)
            · replace hf := ite_f q32 hf
              refine bX_senseIn_140 (k := ?_)
              exact ih w x1 x2 x3 x4 x5 (x6 + 1) hf
            · replace hf := ite_t q32 hf
              refine bX_senseIn_62 (k := ?_)
              refine bX_senseIn_140 (k := ?_)
              exact ih w x1 x2 ((w.1 a0 x6.toNatClampNeg) / 4) x4 x5 (x6 + 1) hf
        · replace hf := ite_t q5 hf
          refine bX_senseIn_33 (k := ?_)
          refine bX_senseIn_140 (k := ?_)
          exact ih w x1 x2 x3 x4 x5 (x6 + 1) hf
def f_X_senseIn (w : MW) (a0 : Nat) (x1 : Int32) (x2 : Int32) : Option RT := f_X_senseIn_11 a0 FU w x1 x2 (-1 : Int32) (-1 : Int32) (0 : Int32) (0 : Int32)
set_option maxHeartbeats 4000000 in
theorem c_X_senseIn {d : Nat} {r : Option Value} {w' : MW} (w : MW) (a0 : Nat) (x1 : Int32) (x2 : Int32) (c0 : isIRow a0) (hf : f_X_senseIn w a0 x1 x2 = some (r, w')) : Ct d mX_senseIn [.ref a0, .int x1, .int x2] w r w' := by
  refine eX_senseIn ?_
  unfold f_X_senseIn at hf
  refine bX_senseIn_0 (k := ?_)
  exact r_X_senseIn_11 a0 c0 FU w x1 x2 (-1 : Int32) (-1 : Int32) (0 : Int32) (0 : Int32) hf
-- X_belief
def f_X_belief (w : MW) (x1 : Int32) : Option RT := if (v_Ct_isMan w 1 x1) = 0 then (some (some (.int (v_X_refuseFar w (-1 : Int32))), u_X_refuseFar w (-1 : Int32))) else (grd (vpb x1 8 = true) (some (some (.int (w.1 (1 + 2 + x1.toNatClampNeg) 3)), w)))
set_option maxHeartbeats 4000000 in
theorem c_X_belief {d : Nat} {r : Option Value} {w' : MW} (w : MW) (x1 : Int32) (hf : f_X_belief w x1 = some (r, w')) : Ct (d + 2) mX_belief [.ref 0, .int x1] w r w' := by
  refine eX_belief ?_
  unfold f_X_belief at hf
  refine bX_belief_0 (y1 := 1) (ct := c_Ct_isMan (d := d + 1) w 1 x1 ct1) (k := ?_)
  refine bX_belief_8 (kt := fun q2 => ?_) (kf := fun q2 => ?_)
  · replace hf := ite_f q2 hf
    obtain ⟨g3_0, hf⟩ := grd_e hf
    obtain ⟨rfl, rfl⟩ := ret_e hf
    exact bX_belief_17 (y1 := 1) (y2 := 2) (y3 := 1 + 2 + x1.toNatClampNeg) (h3 := ct_k12 ct1) (h4 := ct_l8 ct1 (vpb_ok g3_0)) (h5 := ct_mn ct1 (vpb_ok g3_0)) (h6 := mn_g (mn_of ct1 (vpb_ok g3_0)) 3 (by decide))
  · replace hf := ite_t q2 hf
    refine bX_belief_11 (ct := c_X_refuseFar (d := d) w (-1 : Int32)) (k := ?_)
    obtain ⟨rfl, rfl⟩ := ret_e hf
    exact bX_belief_16 
-- Cl_heardByAny
def f_Cl_heardByAny_4 : Nat → MW → Int32 → Int32 → Int32 → Option RT
  | 0, _, _, _, _ => none
  | n + 1, w, x1, x2, x3 => if 8 ≤ x3 then (some (some (.int x2), w)) else (if ((ush x1 x3) &&& 1) = 1 then (grd (vpb x3 8 = true) (f_Cl_heardByAny_4 n w x1 (x2 ||| (w.1 59 x3.toNatClampNeg)) (x3 + 1))) else (f_Cl_heardByAny_4 n w x1 x2 (x3 + 1)))
set_option maxHeartbeats 4000000 in
theorem r_Cl_heardByAny_4 {d : Nat} {r : Option Value} {w' : MW} : ∀ (n : Nat) (w : MW) (x1 : Int32) (x2 : Int32) (x3 : Int32), f_Cl_heardByAny_4 n w x1 x2 x3 = some (r, w') → Rn d mCl_heardByAny 4 [some (.ref 57), some (.int x1), some (.int x2), some (.int x3)] [] w r w' := by
  intro n
  induction n with
  | zero =>
    intro w x1 x2 x3 hf
    cases hf
  | succ n ih =>
    intro w x1 x2 x3 hf
    rw [f_Cl_heardByAny_4] at hf
    refine bCl_heardByAny_4 (kt := fun q1 => ?_) (kf := fun q1 => ?_)
    · replace hf := ite_t q1 hf
      obtain ⟨rfl, rfl⟩ := ret_e hf
      exact bCl_heardByAny_34 
    · replace hf := ite_f q1 hf
      refine bCl_heardByAny_10 (kt := fun q3 => ?_) (kf := fun q3 => ?_)
      · replace hf := ite_f q3 hf
        refine bCl_heardByAny_28 (k := ?_)
        exact ih w x1 x2 (x3 + 1) hf
      · replace hf := ite_t q3 hf
        obtain ⟨g5_0, hf⟩ := grd_e hf
        refine bCl_heardByAny_19 (y1 := 59) (h3 := (vpb_ok g5_0)) (k := ?_)
        refine bCl_heardByAny_28 (k := ?_)
        exact ih w x1 (x2 ||| (w.1 59 x3.toNatClampNeg)) (x3 + 1) hf
def f_Cl_heardByAny (w : MW) (x1 : Int32) : Option RT := f_Cl_heardByAny_4 FU w x1 (0 : Int32) (0 : Int32)
set_option maxHeartbeats 4000000 in
theorem c_Cl_heardByAny {d : Nat} {r : Option Value} {w' : MW} (w : MW) (x1 : Int32) (hf : f_Cl_heardByAny w x1 = some (r, w')) : Ct d mCl_heardByAny [.ref 57, .int x1] w r w' := by
  refine eCl_heardByAny ?_
  unfold f_Cl_heardByAny at hf
  refine bCl_heardByAny_0 (k := ?_)
  exact r_Cl_heardByAny_4 FU w x1 (0 : Int32) (0 : Int32) hf
-- Co_sendAway
def f_Co_sendAway_2 : Nat → MW → Int32 → Int32 → Option RT
  | 0, _, _, _ => none
  | n + 1, w, x1, x2 => if (w.1 53 3) ≤ x2 then (some (none, w)) else (if ((ush x1 x2) &&& 1) = 1 then (grd (vpb x2 8 = true) (f_Co_sendAway_2 n (setI w 56 x2.toNatClampNeg 0) x1 (x2 + 1))) else (grd (vpb x2 8 = true) (grd (vpb x2 8 = true) (f_Co_sendAway_2 n (setI w 56 x2.toNatClampNeg ((w.1 56 x2.toNatClampNeg) &&& (x1 ^^^ (-1)))) x1 (x2 + 1)))))
set_option maxHeartbeats 4000000 in
theorem r_Co_sendAway_2 {d : Nat} {r : Option Value} {w' : MW} : ∀ (n : Nat) (w : MW) (x1 : Int32) (x2 : Int32), f_Co_sendAway_2 n w x1 x2 = some (r, w') → Rn d mCo_sendAway 2 [some (.ref 53), some (.int x1), some (.int x2)] [] w r w' := by
  intro n
  induction n with
  | zero =>
    intro w x1 x2 hf
    cases hf
  | succ n ih =>
    intro w x1 x2 hf
    rw [f_Co_sendAway_2] at hf
    refine bCo_sendAway_2 (kt := fun q1 => ?_) (kf := fun q1 => ?_)
    · replace hf := ite_t q1 hf
      obtain ⟨rfl, rfl⟩ := ret_e hf
      exact bCo_sendAway_45 
    · replace hf := ite_f q1 hf
      refine bCo_sendAway_10 (y1 := 56) (kt := fun q3 => ?_) (kf := fun q3 => ?_)
      · replace hf := ite_f q3 hf
        obtain ⟨g4_0, hf⟩ := grd_e hf
        refine bCo_sendAway_28 (y1 := 56) (h3 := (vpb_ok g4_0)) (k := ?_)
        obtain ⟨g5_0, hf⟩ := grd_e hf
        refine bCo_sendAway_38 (h2 := (vpb_ok g5_0)) (k := ?_)
        exact ih (setI w 56 x2.toNatClampNeg ((w.1 56 x2.toNatClampNeg) &&& (x1 ^^^ (-1)))) x1 (x2 + 1) hf
      · replace hf := ite_t q3 hf
        refine bCo_sendAway_24 (k := ?_)
        obtain ⟨g7_0, hf⟩ := grd_e hf
        refine bCo_sendAway_38 (h2 := (vpb_ok g7_0)) (k := ?_)
        exact ih (setI w 56 x2.toNatClampNeg 0) x1 (x2 + 1) hf
def f_Co_sendAway (w : MW) (x1 : Int32) : Option RT := f_Co_sendAway_2 FU w x1 (0 : Int32)
set_option maxHeartbeats 4000000 in
theorem c_Co_sendAway {d : Nat} {r : Option Value} {w' : MW} (w : MW) (x1 : Int32) (hf : f_Co_sendAway w x1 = some (r, w')) : Ct d mCo_sendAway [.ref 53, .int x1] w r w' := by
  refine eCo_sendAway ?_
  unfold f_Co_sendAway at hf
  refine bCo_sendAway_0 (k := ?_)
  exact r_Co_sendAway_2 FU w x1 (0 : Int32) hf
-- X_speak
def f_X_speak (w : MW) (x1 : Int32) (x2 : Int32) (x3 : Int32) (x4 : Int32) : Option RT := if (v_X_maySpeak w x1) = 0 then (some (some (.int (v_X_refuse w (-6 : Int32))), u_X_refuse w (-6 : Int32))) else (if (v_X_maySpeak w x2) = 0 then (some (some (.int (v_X_refuse w (-6 : Int32))), u_X_refuse w (-6 : Int32))) else (if (v_X_maySpeak w x3) = 0 then (some (some (.int (v_X_refuse w (-6 : Int32))), u_X_refuse w (-6 : Int32))) else (if x4 = (-1) then (some (some (.int (3 * (if v_X_ownLength w x1 < if v_X_ownLength w x2 < v_X_ownLength w x3 then v_X_ownLength w x3 else v_X_ownLength w x2 then if v_X_ownLength w x2 < v_X_ownLength w x3 then v_X_ownLength w x3 else v_X_ownLength w x2 else v_X_ownLength w x1))), w)) else (if x4 < 0 then (some (some (.int (v_X_refuse w (-5 : Int32))), u_X_refuse w (-5 : Int32))) else (if x4 < (3 * (if v_X_ownLength w x1 < if v_X_ownLength w x2 < v_X_ownLength w x3 then v_X_ownLength w x3 else v_X_ownLength w x2 then if v_X_ownLength w x2 < v_X_ownLength w x3 then v_X_ownLength w x3 else v_X_ownLength w x2 else v_X_ownLength w x1)) then (if (x4 - x4 / 3 * 3) = 0 then (some (some (.int (v_X_ownWord w x1 (x4 / 3))), w)) else (if (x4 - x4 / 3 * 3) = 1 then (some (some (.int (v_X_ownWord w x2 (x4 / 3))), w)) else (some (some (.int (v_X_ownWord w x3 (x4 / 3))), w)))) else (some (some (.int (v_X_refuse w (-5 : Int32))), u_X_refuse w (-5 : Int32))))))))
set_option maxHeartbeats 4000000 in
theorem c_X_speak {d : Nat} {r : Option Value} {w' : MW} (w : MW) (x1 : Int32) (x2 : Int32) (x3 : Int32) (x4 : Int32) (hf : f_X_speak w x1 x2 x3 x4 = some (r, w')) : Ct (d + 2) mX_speak [.ref 0, .int x1, .int x2, .int x3, .int x4] w r w' := by
  refine eX_speak ?_
  unfold f_X_speak at hf
  refine bX_speak_0 (ct := c_X_maySpeak (d := d + 1) w x1) (k := ?_)
  refine bX_speak_4 (kt := fun q2 => ?_) (kf := fun q2 => ?_)
  · replace hf := ite_t q2 hf
    refine bX_speak_21 (ct := c_X_refuse (d := d + 1) w (-6 : Int32)) (k := ?_)
    obtain ⟨rfl, rfl⟩ := ret_e hf
    exact bX_speak_27 
  · replace hf := ite_f q2 hf
    refine bX_speak_7 (ct := c_X_maySpeak (d := d + 1) w x2) (k := ?_)
    refine bX_speak_11 (kt := fun q6 => ?_) (kf := fun q6 => ?_)
    · replace hf := ite_t q6 hf
      refine bX_speak_21 (ct := c_X_refuse (d := d + 1) w (-6 : Int32)) (k := ?_)
      obtain ⟨rfl, rfl⟩ := ret_e hf
      exact bX_speak_27 
    · replace hf := ite_f q6 hf
      refine bX_speak_14 (ct := c_X_maySpeak (d := d + 1) w x3) (k := ?_)
      refine bX_speak_18 (kt := fun q10 => ?_) (kf := fun q10 => ?_)
      · replace hf := ite_f q10 hf
        refine bX_speak_28 (ct := c_X_ownLength (d := d + 1) w x1) (k := ?_)
        refine bX_speak_32 (ct := c_X_ownLength (d := d + 1) w x2) (k := ?_)
        refine bX_speak_36 (ct := c_X_ownLength (d := d + 1) w x3) (k := ?_)
        refine bX_speak_40 (kt := fun q14 => ?_) (kf := fun q14 => ?_)
        · replace hf := ite_f q14 hf
          refine bX_speak_63 (kt := fun q15 => ?_) (kf := fun q15 => ?_)
          · replace hf := ite_t q15 hf
            refine bX_speak_75 (ct := c_X_refuse (d := d + 1) w (-5 : Int32)) (k := ?_)
            obtain ⟨rfl, rfl⟩ := ret_e hf
            exact bX_speak_81 
          · replace hf := ite_f q15 hf
            refine bX_speak_68 (kt := fun q18 => ?_) (kf := fun q18 => ?_)
            · replace hf := ite_t q18 hf
              refine bX_speak_82 (kt := fun q19 => ?_) (kf := fun q19 => ?_)
              · replace hf := ite_f q19 hf
                refine bX_speak_97 (kt := fun q20 => ?_) (kf := fun q20 => ?_)
                · replace hf := ite_f q20 hf
                  refine bX_speak_107 (k := ?_)
                  refine bX_speak_108 (ct := c_X_ownWord (d := d) w x3 (x4 / 3)) (k := ?_)
                  obtain ⟨rfl, rfl⟩ := ret_e hf
                  exact bX_speak_115 
                · replace hf := ite_t q20 hf
                  refine bX_speak_103 (k := ?_)
                  refine bX_speak_108 (ct := c_X_ownWord (d := d) w x2 (x4 / 3)) (k := ?_)
                  obtain ⟨rfl, rfl⟩ := ret_e hf
                  exact bX_speak_115 
              · replace hf := ite_t q19 hf
                refine bX_speak_93 (k := ?_)
                refine bX_speak_108 (ct := c_X_ownWord (d := d) w x1 (x4 / 3)) (k := ?_)
                obtain ⟨rfl, rfl⟩ := ret_e hf
                exact bX_speak_115 
            · replace hf := ite_f q18 hf
              refine bX_speak_75 (ct := c_X_refuse (d := d + 1) w (-5 : Int32)) (k := ?_)
              obtain ⟨rfl, rfl⟩ := ret_e hf
              exact bX_speak_81 
        · replace hf := ite_t q14 hf
          obtain ⟨rfl, rfl⟩ := ret_e hf
          exact bX_speak_60 
      · replace hf := ite_t q10 hf
        refine bX_speak_21 (ct := c_X_refuse (d := d + 1) w (-6 : Int32)) (k := ?_)
        obtain ⟨rfl, rfl⟩ := ret_e hf
        exact bX_speak_27 
