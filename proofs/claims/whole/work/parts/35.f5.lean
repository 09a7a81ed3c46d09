-- M_makesBy
def f_M_makesBy (w : MW) (x1 : Int32) (x2 : Int32) : Option RT := grd (vpb x1 8 = true) (if (w.1 66 x1.toNatClampNeg) = 6 then (grd (¬ 20 ≤ (w.1 62 15) → vpb (w.1 62 15) 20 = true) (grd (vpb x1 8 = true) (if (w.1 66 x1.toNatClampNeg) = 3 then (grd (¬ 20 ≤ ((u_M_ran w (71 : Int32)).1 62 15) → vpb ((u_M_ran w (71 : Int32)).1 62 15) 20 = true) (if (w.1 66 x1.toNatClampNeg) = 2 then (grd (¬ 20 ≤ ((u_M_ran (u_M_ran w (71 : Int32)) (40 : Int32)).1 62 15) → vpb ((u_M_ran (u_M_ran w (71 : Int32)) (40 : Int32)).1 62 15) 20 = true) (grd (¬ 20 ≤ ((u_M_ran (u_M_ran (u_M_ran w (71 : Int32)) (40 : Int32)) (30 : Int32)).1 62 15) → vpb ((u_M_ran (u_M_ran (u_M_ran w (71 : Int32)) (40 : Int32)) (30 : Int32)).1 62 15) 20 = true) (bI (f_M_hearsBy (u_M_ran (u_M_ran (u_M_ran (u_M_ran w (71 : Int32)) (40 : Int32)) (30 : Int32)) (11 : Int32)) x1 (x2 + 1)) (fun v115 w115 => if (w.1 66 x1.toNatClampNeg) = 2 then (some (some (.int ((v115 * 2) * 3)), w115)) else (if (w.1 66 x1.toNatClampNeg) = 5 then (some (some (.int ((v115 * 2) * 3)), w115)) else (some (some (.int (v115 * 2)), w115))))))) else (if (w.1 66 x1.toNatClampNeg) = 5 then (grd (¬ 20 ≤ ((u_M_ran (u_M_ran w (71 : Int32)) (40 : Int32)).1 62 15) → vpb ((u_M_ran (u_M_ran w (71 : Int32)) (40 : Int32)).1 62 15) 20 = true) (grd (¬ 20 ≤ ((u_M_ran (u_M_ran (u_M_ran w (71 : Int32)) (40 : Int32)) (30 : Int32)).1 62 15) → vpb ((u_M_ran (u_M_ran (u_M_ran w (71 : Int32)) (40 : Int32)) (30 : Int32)).1 62 15) 20 = true) (bI (f_M_hearsBy (u_M_ran (u_M_ran (u_M_ran (u_M_ran w (71 : Int32)) (40 : Int32)) (30 : Int32)) (11 : Int32)) x1 (x2 + 1)) (fun v137 w137 => if (w.1 66 x1.toNatClampNeg) = 2 then (some (some (.int ((v137 * 2) * 3)), w137)) else (if (w.1 66 x1.toNatClampNeg) = 5 then (some (some (.int ((v137 * 2) * 3)), w137)) else (some (some (.int (v137 * 2)), w137))))))) else (grd (¬ 20 ≤ ((u_M_ran (u_M_ran w (71 : Int32)) (40 : Int32)).1 62 15) → vpb ((u_M_ran (u_M_ran w (71 : Int32)) (40 : Int32)).1 62 15) 20 = true) (bI (f_M_hearsBy (u_M_ran (u_M_ran (u_M_ran w (71 : Int32)) (40 : Int32)) (11 : Int32)) x1 (x2 + 1)) (fun v126 w126 => if (w.1 66 x1.toNatClampNeg) = 2 then (some (some (.int ((v126 * 2) * 3)), w126)) else (if (w.1 66 x1.toNatClampNeg) = 5 then (some (some (.int ((v126 * 2) * 3)), w126)) else (some (some (.int (v126 * 2)), w126))))))))) else (if (w.1 66 x1.toNatClampNeg) = 2 then (grd (¬ 20 ≤ ((u_M_ran w (71 : Int32)).1 62 15) → vpb ((u_M_ran w (71 : Int32)).1 62 15) 20 = true) (grd (¬ 20 ≤ ((u_M_ran (u_M_ran w (71 : Int32)) (30 : Int32)).1 62 15) → vpb ((u_M_ran (u_M_ran w (71 : Int32)) (30 : Int32)).1 62 15) 20 = true) (bI (f_M_hearsBy (u_M_ran (u_M_ran (u_M_ran w (71 : Int32)) (30 : Int32)) (11 : Int32)) x1 (x2 - ((u_M_ran w (71 : Int32)).1 67 x1.toNatClampNeg))) (fun v79 w79 => if (w.1 66 x1.toNatClampNeg) = 2 then (some (some (.int ((v79 * 2) * 3)), w79)) else (if (w.1 66 x1.toNatClampNeg) = 5 then (some (some (.int ((v79 * 2) * 3)), w79)) else (some (some (.int (v79 * 2)), w79))))))) else (if (w.1 66 x1.toNatClampNeg) = 5 then (grd (¬ 20 ≤ ((u_M_ran w (71 : Int32)).1 62 15) → vpb ((u_M_ran w (71 : Int32)).1 62 15) 20 = true) (grd (¬ 20 ≤ ((u_M_ran (u_M_ran w (71 : Int32)) (30 : Int32)).1 62 15) → vpb ((u_M_ran (u_M_ran w (71 : Int32)) (30 : Int32)).1 62 15) 20 = true) (bI (f_M_hearsBy (u_M_ran (u_M_ran (u_M_ran w (71 : Int32)) (30 : Int32)) (11 : Int32)) x1 (x2 - ((u_M_ran w (71 : Int32)).1 67 x1.toNatClampNeg))) (fun v101 w101 => if (w.1 66 x1.toNatClampNeg) = 2 then (some (some (.int ((v101 * 2) * 3)), w101)) else (if (w.1 66 x1.toNatClampNeg) = 5 then (some (some (.int ((v101 * 2) * 3)), w101)) else (some (some (.int (v101 * 2)), w101))))))) else (grd (¬ 20 ≤ ((u_M_ran w (71 : Int32)).1 62 15) → vpb ((u_M_ran w (71 : Int32)).1 62 15) 20 = true) (bI (f_M_hearsBy (u_M_ran (u_M_ran w (71 : Int32)) (11 : Int32)) x1 (x2 - ((u_M_ran w (71 : Int32)).1 67 x1.toNatClampNeg))) (fun v90 w90 => if (w.1 66 x1.toNatClampNeg) = 2 then (some (some (.int ((v90 * 2) * 3)), w90)) else (if (w.1 66 x1.toNatClampNeg) = 5 then (some (some (.int ((v90 * 2) * 3)), w90)) else (some (some (.int (v90 * 2)), w90))))))))))) else (if (w.1 66 x1.toNatClampNeg) = 3 then (grd (¬ 20 ≤ (w.1 62 15) → vpb (w.1 62 15) 20 = true) (if (w.1 66 x1.toNatClampNeg) = 2 then (grd (¬ 20 ≤ ((u_M_ran w (40 : Int32)).1 62 15) → vpb ((u_M_ran w (40 : Int32)).1 62 15) 20 = true) (grd (¬ 20 ≤ ((u_M_ran (u_M_ran w (40 : Int32)) (30 : Int32)).1 62 15) → vpb ((u_M_ran (u_M_ran w (40 : Int32)) (30 : Int32)).1 62 15) 20 = true) (bI (f_M_hearsBy (u_M_ran (u_M_ran (u_M_ran w (40 : Int32)) (30 : Int32)) (11 : Int32)) x1 (x2 + 1)) (fun v42 w42 => if (w.1 66 x1.toNatClampNeg) = 2 then (some (some (.int ((v42 * 2) * 3)), w42)) else (if (w.1 66 x1.toNatClampNeg) = 5 then (some (some (.int ((v42 * 2) * 3)), w42)) else (some (some (.int (v42 * 2)), w42))))))) else (if (w.1 66 x1.toNatClampNeg) = 5 then (grd (¬ 20 ≤ ((u_M_ran w (40 : Int32)).1 62 15) → vpb ((u_M_ran w (40 : Int32)).1 62 15) 20 = true) (grd (¬ 20 ≤ ((u_M_ran (u_M_ran w (40 : Int32)) (30 : Int32)).1 62 15) → vpb ((u_M_ran (u_M_ran w (40 : Int32)) (30 : Int32)).1 62 15) 20 = true) (bI (f_M_hearsBy (u_M_ran (u_M_ran (u_M_ran w (40 : Int32)) (30 : Int32)) (11 : Int32)) x1 (x2 + 1)) (fun v64 w64 => if (w.1 66 x1.toNatClampNeg) = 2 then (some (some (.int ((v64 * 2) * 3)), w64)) else (if (w.1 66 x1.toNatClampNeg) = 5 then (some (some (.int ((v64 * 2) * 3)), w64)) else (some (some (.int (v64 * 2)), w64))))))) else (grd (¬ 20 ≤ ((u_M_ran w (40 : Int32)).1 62 15) → vpb ((u_M_ran w (40 : Int32)).1 62 15) 20 = true) (bI (f_M_hearsBy (u_M_ran (u_M_ran w (40 : Int32)) (11 : Int32)) x1 (x2 + 1)) (fun v53 w53 => if (w.1 66 x1.toNatClampNeg) = 2 then (some (some (.int ((v53 * 2) * 3)), w53)) else (if (w.1 66 x1.toNatClampNeg) = 5 then (some (some (.int ((v53 * 2) * 3)), w53)) else (some (some (.int (v53 * 2)), w53))))))))) else (if (w.1 66 x1.toNatClampNeg) = 2 then (grd (¬ 20 ≤ (w.1 62 15) → vpb (w.1 62 15) 20 = true) (grd (¬ 20 ≤ ((u_M_ran w (30 : Int32)).1 62 15) → vpb ((u_M_ran w (30 : Int32)).1 62 15) 20 = true) (bI (f_M_hearsBy (u_M_ran (u_M_ran w (30 : Int32)) (11 : Int32)) x1 x2) (fun v6 w6 => if (w.1 66 x1.toNatClampNeg) = 2 then (some (some (.int ((v6 * 2) * 3)), w6)) else (if (w.1 66 x1.toNatClampNeg) = 5 then (some (some (.int ((v6 * 2) * 3)), w6)) else (some (some (.int (v6 * 2)), w6))))))) else (if (w.1 66 x1.toNatClampNeg) = 5 then (grd (¬ 20 ≤ (w.1 62 15) → vpb (w.1 62 15) 20 = true) (grd (¬ 20 ≤ ((u_M_ran w (30 : Int32)).1 62 15) → vpb ((u_M_ran w (30 : Int32)).1 62 15) 20 = true) (bI (f_M_hearsBy (u_M_ran (u_M_ran w (30 : Int32)) (11 : Int32)) x1 x2) (fun v28 w28 => if (w.1 66 x1.toNatClampNeg) = 2 then (some (some (.int ((v28 * 2) * 3)), w28)) else (if (w.1 66 x1.toNatClampNeg) = 5 then (some (some (.int ((v28 * 2) * 3)), w28)) else (some (some (.int (v28 * 2)), w28))))))) else (grd (¬ 20 ≤ (w.1 62 15) → vpb (w.1 62 15) 20 = true) (bI (f_M_hearsBy (u_M_ran w (11 : Int32)) x1 x2) (fun v17 w17 => if (w.1 66 x1.toNatClampNeg) = 2 then (some (some (.int ((v17 * 2) * 3)), w17)) else (if (w.1 66 x1.toNatClampNeg) = 5 then (some (some (.int ((v17 * 2) * 3)), w17)) else (some (some (.int (v17 * 2)), w17))))))))))
set_option maxHeartbeats 4000000 in
theorem c_M_makesBy {d : Nat} {r : Option Value} {w' : MW} (w : MW) (x1 : Int32) (x2 : Int32) (hf : f_M_makesBy w x1 x2 = some (r, w')) : Ct (d + 2) mM_makesBy [.ref 62, .int x1, .int x2] w r w' := by
  refine eM_makesBy ?_
  unfold f_M_makesBy at hf
  obtain ⟨g1_0, hf⟩ := grd_e hf
  refine bM_makesBy_0 (y1 := 66) (h3 := (vpb_ok g1_0)) (kt := fun q1 => ?_) (kf := fun q1 => ?_)
  · replace hf := ite_f q1 hf
    refine bM_makesBy_32 (kt := fun q2 => ?_) (kf := fun q2 => ?_)
    · replace hf := ite_f q2 hf
      refine bM_makesBy_48 (kt := fun q3 => ?_) (kf := fun q3 => ?_)
      · replace hf := ite_t q3 hf
        obtain ⟨g4_0, hf⟩ := grd_e hf
        refine bM_makesBy_58 (ct := c_M_ran (d := d + 1) w (30 : Int32) (fun z0 => vpb_ok (g4_0 z0))) (k := ?_)
        obtain ⟨g5_0, hf⟩ := grd_e hf
        refine bM_makesBy_64 (ct := c_M_ran (d := d + 1) (u_M_ran w (30 : Int32)) (11 : Int32) (fun z0 => vpb_ok (g5_0 z0))) (k := ?_)
        obtain ⟨v6, w6, e6, hf⟩ := bI_e hf
        refine bM_makesBy_70 (ct := c_M_hearsBy (d := d) (u_M_ran (u_M_ran w (30 : Int32)) (11 : Int32)) x1 x2 e6) (k := ?_)
        refine bM_makesBy_77 (kt := fun q7 => ?_) (kf := fun q7 => ?_)
        · replace hf := ite_t q7 hf
          refine bM_makesBy_91 (k := ?_)
          obtain ⟨rfl, rfl⟩ := ret_e hf
          exact bM_makesBy_100 
        · replace hf := ite_f q7 hf
          refine bM_makesBy_86 (kt := fun q10 => ?_) (kf := fun q10 => ?_)
          · replace hf := ite_f q10 hf
            refine bM_makesBy_98 (k := ?_)
            obtain ⟨rfl, rfl⟩ := ret_e hf
            exact bM_makesBy_100 
          · replace hf := ite_t q10 hf
            refine bM_makesBy_91 (k := ?_)
            obtain ⟨rfl, rfl⟩ := ret_e hf
            exact bM_makesBy_100 
      · replace hf := ite_f q3 hf
        refine bM_makesBy_53 (kt := fun q15 => ?_) (kf := fun q15 => ?_)
        · replace hf := ite_f q15 hf
          obtain ⟨g16_0, hf⟩ := grd_e hf
          refine bM_makesBy_64 (ct := c_M_ran (d := d + 1) w (11 : Int32) (fun z0 => vpb_ok (g16_0 z0))) (k := ?_)
          obtain ⟨v17, w17, e17, hf⟩ := bI_e hf
          refine bM_makesBy_70 (ct := c_M_hearsBy (d := d) (u_M_ran w (11 : Int32)) x1 x2 e17) (k := ?_)
          refine bM_makesBy_77 (kt := fun q18 => ?_) (kf := fun q18 => ?_)
          · replace hf := ite_t q18 hf
            refine bM_makesBy_91 (k := ?_)
            obtain ⟨rfl, rfl⟩ := ret_e hf
            exact bM_makesBy_100 
          · replace hf := ite_f q18 hf
            refine bM_makesBy_86 (kt := fun q21 => ?_) (kf := fun q21 => ?_)
            · replace hf := ite_f q21 hf
              refine bM_makesBy_98 (k := ?_)
              obtain ⟨rfl, rfl⟩ := ret_e hf
              exact bM_makesBy_100 
            · replace hf := ite_t q21 hf
              refine bM_makesBy_91 (k := ?_)
              obtain ⟨rfl, rfl⟩ := ret_e hf
              exact bM_makesBy_100 
        · replace hf := ite_t q15 hf
          obtain ⟨g26_0, hf⟩ := grd_e hf
          refine bM_makesBy_58 (ct := c_M_ran (d := d + 1) w (30 : Int32) (fun z0 => vpb_ok (g26_0 z0))) (k := ?_)
          obtain ⟨g27_0, hf⟩ := grd_e hf
          refine bM_makesBy_64 (ct := c_M_ran (d := d + 1) (u_M_ran w (30 : Int32)) (11 : Int32) (fun z0 => vpb_ok (g27_0 z0))) (k := ?_)
          obtain ⟨v28, w28, e28, hf⟩ := bI_e hf
          refine bM_makesBy_70 (ct := c_M_hearsBy (d := d) (u_M_ran (u_M_ran w (30 : Int32)) (11 : Int32)) x1 x2 e28) (k := ?_)
          refine bM_makesBy_77 (kt := fun q29 => ?_) (kf := fun q29 => ?_)
          · replace hf := ite_t q29 hf
            refine bM_makesBy_91 (k := ?_)
            obtain ⟨rfl, rfl⟩ := ret_e hf
            exact bM_makesBy_100 
          · replace hf := ite_f q29 hf
            refine bM_makesBy_86 (kt := fun q32 => ?_) (kf := fun q32 => ?_)
            · replace hf := ite_f q32 hf
              refine bM_makesBy_98 (k := ?_)
              obtain ⟨rfl, rfl⟩ := ret_e hf
              exact bM_makesBy_100 
            · replace hf := ite_t q32 hf
              refine bM_makesBy_91 (k := ?_)
              obtain ⟨rfl, rfl⟩ := ret_e hf
              exact bM_makesBy_100 
    · replace hf := ite_t q2 hf
      obtain ⟨g37_0, hf⟩ := grd_e hf
      refine bM_makesBy_37 (ct := c_M_ran (d := d + 1) w (40 : Int32) (fun z0 => vpb_ok (g37_0 z0))) (k := ?_)
      refine bM_makesBy_43 (k := ?_)
      refine bM_makesBy_48 (kt := fun q39 => ?_) (kf := fun q39 => ?_)
      · replace hf := ite_t q39 hf
        obtain ⟨g40_0, hf⟩ := grd_e hf
        refine bM_makesBy_58 (ct := c_M_ran (d := d + 1) (u_M_ran w (40 : Int32)) (30 : Int32) (fun z0 => vpb_ok (g40_0 z0))) (k := ?_)
        obtain ⟨g41_0, hf⟩ := grd_e hf
        refine bM_makesBy_64 (ct := c_M_ran (d := d + 1) (u_M_ran (u_M_ran w (40 : Int32)) (30 : Int32)) (11 : Int32) (fun z0 => vpb_ok (g41_0 z0))) (k := ?_)
        obtain ⟨v42, w42, e42, hf⟩ := bI_e hf
        refine bM_makesBy_70 (ct := c_M_hearsBy (d := d) (u_M_ran (u_M_ran (u_M_ran w (40 : Int32)) (30 : Int32)) (11 : Int32)) x1 (x2 + 1) e42) (k := ?_)
        refine bM_makesBy_77 (kt := fun q43 => ?_) (kf := fun q43 => ?_)
        · replace hf := ite_t q43 hf
          refine bM_makesBy_91 (k := ?_)
          obtain ⟨rfl, rfl⟩ := ret_e hf
          exact bM_makesBy_100 
        · replace hf := ite_f q43 hf
          refine bM_makesBy_86 (kt := fun q46 => ?_) (kf := fun q46 => ?_)
          · replace hf := ite_f q46 hf
            refine bM_makesBy_98 (k := ?_)
            obtain ⟨rfl, rfl⟩ := ret_e hf
            exact bM_makesBy_100 
          · replace hf := ite_t q46 hf
            refine bM_makesBy_91 (k := ?_)
            obtain ⟨rfl, rfl⟩ := ret_e hf
            exact bM_makesBy_100 
      · replace hf := ite_f q39 hf
        refine bM_makesBy_53 (kt := fun q51 => ?_) (kf := fun q51 => ?_)
        · replace hf := ite_f q51 hf
          obtain ⟨g52_0, hf⟩ := grd_e hf
          refine bM_makesBy_64 (ct := c_M_ran (d := d + 1) (u_M_ran w (40 : Int32)) (11 : Int32) (fun z0 => vpb_ok (g52_0 z0))) (k := ?_)
          obtain ⟨v53, w53, e53, hf⟩ := bI_e hf
          refine bM_makesBy_70 (ct := c_M_hearsBy (d := d) (u_M_ran (u_M_ran w (40 : Int32)) (11 : Int32)) x1 (x2 + 1) e53) (k := ?_)
          refine bM_makesBy_77 (kt := fun q54 => ?_) (kf := fun q54 => ?_)
          · replace hf := ite_t q54 hf
            refine bM_makesBy_91 (k := ?_)
            obtain ⟨rfl, rfl⟩ := ret_e hf
            exact bM_makesBy_100 
          · replace hf := ite_f q54 hf
            refine bM_makesBy_86 (kt := fun q57 => ?_) (kf := fun q57 => ?_)
            · replace hf := ite_f q57 hf
              refine bM_makesBy_98 (k := ?_)
              obtain ⟨rfl, rfl⟩ := ret_e hf
              exact bM_makesBy_100 
            · replace hf := ite_t q57 hf
              refine bM_makesBy_91 (k := ?_)
              obtain ⟨rfl, rfl⟩ := ret_e hf
              exact bM_makesBy_100 
        · replace hf := ite_t q51 hf
          obtain ⟨g62_0, hf⟩ := grd_e hf
          refine bM_makesBy_58 (ct := c_M_ran (d := d + 1) (u_M_ran w (40 : Int32)) (30 : Int32) (fun z0 => vpb_ok (g62_0 z0))) (k := ?_)
          obtain ⟨g63_0, hf⟩ := grd_e hf
          refine bM_makesBy_64 (ct := c_M_ran (d := d + 1) (u_M_ran (u_M_ran w (40 : Int32)) (30 : Int32)) (11 : Int32) (fun z0 => vpb_ok (g63_0 z0))) (k := ?_)
          obtain ⟨v64, w64, e64, hf⟩ := bI_e hf
          refine bM_makesBy_70 (ct := c_M_hearsBy (d := d) (u_M_ran (u_M_ran (u_M_ran w (40 : Int32)) (30 : Int32)) (11 : Int32)) x1 (x2 + 1) e64) (k := ?_)
          refine bM_makesBy_77 (kt := fun q65 => ?_) (kf := fun q65 => ?_)
          · replace hf := ite_t q65 hf
            refine bM_makesBy_91 (k := ?_)
            obtain ⟨rfl, rfl⟩ := ret_e hf
            exact bM_makesBy_100 
          · replace hf := ite_f q65 hf
            refine bM_makesBy_86 (kt := fun q68 => ?_) (kf := fun q68 => ?_)
            · replace hf := ite_f q68 hf
              refine bM_makesBy_98 (k := ?_)
              obtain ⟨rfl, rfl⟩ := ret_e hf
              exact bM_makesBy_100 
            · replace hf := ite_t q68 hf
              refine bM_makesBy_91 (k := ?_)
              obtain ⟨rfl, rfl⟩ := ret_e hf
              exact bM_makesBy_100 
  · replace hf := ite_t q1 hf
    obtain ⟨g73_0, hf⟩ := grd_e hf
    refine bM_makesBy_16 (ct := c_M_ran (d := d + 1) w (71 : Int32) (fun z0 => vpb_ok (g73_0 z0))) (k := ?_)
    obtain ⟨g74_0, hf⟩ := grd_e hf
    refine bM_makesBy_22 (y1 := 67) (h3 := (vpb_ok g74_0)) (k := ?_)
    refine bM_makesBy_32 (kt := fun q75 => ?_) (kf := fun q75 => ?_)
    · replace hf := ite_f q75 hf
      refine bM_makesBy_48 (kt := fun q76 => ?_) (kf := fun q76 => ?_)
      · replace hf := ite_t q76 hf
        obtain ⟨g77_0, hf⟩ := grd_e hf
        refine bM_makesBy_58 (ct := c_M_ran (d := d + 1) (u_M_ran w (71 : Int32)) (30 : Int32) (fun z0 => vpb_ok (g77_0 z0))) (k := ?_)
        obtain ⟨g78_0, hf⟩ := grd_e hf
        refine bM_makesBy_64 (ct := c_M_ran (d := d + 1) (u_M_ran (u_M_ran w (71 : Int32)) (30 : Int32)) (11 : Int32) (fun z0 => vpb_ok (g78_0 z0))) (k := ?_)
        obtain ⟨v79, w79, e79, hf⟩ := bI_e hf
        refine bM_makesBy_70 (ct := c_M_hearsBy (d := d) (u_M_ran (u_M_ran (u_M_ran w (71 : Int32)) (30 : Int32)) (11 : Int32)) x1 (x2 - ((u_M_ran w (71 : Int32)).1 67 x1.toNatClampNeg)) e79) (k := ?_)
        refine bM_makesBy_77 (kt := fun q80 => ?_) (kf := fun q80 => ?_)
        · replace hf := ite_t q80 hf
          refine bM_makesBy_91 (k := ?_)
          obtain ⟨rfl, rfl⟩ := ret_e hf
          exact bM_makesBy_100 
        · replace hf := ite_f q80 hf
          refine bM_makesBy_86 (kt := fun q83 => ?_) (kf := fun q83 => ?_)
          · replace hf := ite_f q83 hf
            refine bM_makesBy_98 (k := ?_)
            obtain ⟨rfl, rfl⟩ := ret_e hf
            exact bM_makesBy_100 
          · replace hf := ite_t q83 hf
            refine bM_makesBy_91 (k := ?_)
            obtain ⟨rfl, rfl⟩ := ret_e hf
            exact bM_makesBy_100 
      · replace hf := ite_f q76 hf
        refine bM_makesBy_53 (kt := fun q88 => ?_) (kf := fun q88 => ?_)
        · replace hf := ite_f q88 hf
          obtain ⟨g89_0, hf⟩ := grd_e hf
          refine bM_makesBy_64 (ct := c_M_ran (d := d + 1) (u_M_ran w (71 : Int32)) (11 : Int32) (fun z0 => vpb_ok (g89_0 z0))) (k := ?_)
          obtain ⟨v90, w90, e90, hf⟩ := bI_e hf
          refine bM_makesBy_70 (ct := c_M_hearsBy (d := d) (u_M_ran (u_M_ran w (71 : Int32)) (11 : Int32)) x1 (x2 - ((u_M_ran w (71 : Int32)).1 67 x1.toNatClampNeg)) e90) (k := ?_)
          refine bM_makesBy_77 (kt := fun q91 => ?_) (kf := fun q91 => ?_)
          · replace hf := ite_t q91 hf
            refine bM_makesBy_91 (k := ?_)
            obtain ⟨rfl, rfl⟩ := ret_e hf
            exact bM_makesBy_100 
          · replace hf := ite_f q91 hf
            refine bM_makesBy_86 (kt := fun q94 => ?_) (kf := fun q94 => ?_)
            · replace hf := ite_f q94 hf
              refine bM_makesBy_98 (k := ?_)
              obtain ⟨rfl, rfl⟩ := ret_e hf
              exact bM_makesBy_100 
            · replace hf := ite_t q94 hf
              refine bM_makesBy_91 (k := ?_)
              obtain ⟨rfl, rfl⟩ := ret_e hf
              exact bM_makesBy_100 
        · replace hf := ite_t q88 hf
          obtain ⟨g99_0, hf⟩ := grd_e hf
          refine bM_makesBy_58 (ct := c_M_ran (d := d + 1) (u_M_ran w (71 : Int32)) (30 : Int32) (fun z0 => vpb_ok (g99_0 z0))) (k := ?_)
          obtain ⟨g100_0, hf⟩ := grd_e hf
          refine bM_makesBy_64 (ct := c_M_ran (d := d + 1) (u_M_ran (u_M_ran w (71 : Int32)) (30 : Int32)) (11 : Int32) (fun z0 => vpb_ok (g100_0 z0))) (k := ?_)
          obtain ⟨v101, w101, e101, hf⟩ := bI_e hf
          refine bM_makesBy_70 (ct := c_M_hearsBy (d := d) (u_M_ran (u_M_ran (u_M_ran w (71 : Int32)) (30 : Int32)) (11 : Int32)) x1 (x2 - ((u_M_ran w (71 : Int32)).1 67 x1.toNatClampNeg)) e101) (k := ?_)
          refine bM_makesBy_77 (kt := fun q102 => ?_) (kf := fun q102 => ?_)
          · replace hf := ite_t q102 hf
            refine bM_makesBy_91 (k := ?_)
            obtain ⟨rfl, rfl⟩ := ret_e hf
            exact bM_makesBy_100 
          · replace hf := ite_f q102 hf
            refine bM_makesBy_86 (kt := fun q105 => ?_) (kf := fun q105 => ?_)
            · replace hf := ite_f q105 hf
              refine bM_makesBy_98 (k := ?_)
              obtain ⟨rfl, rfl⟩ := ret_e hf
              exact bM_makesBy_100 
            · replace hf := ite_t q105 hf
              refine bM_makesBy_91 (k := ?_)
              obtain ⟨rfl, rfl⟩ := ret_e hf
              exact bM_makesBy_100 
    · replace hf := ite_t q75 hf
      obtain ⟨g110_0, hf⟩ := grd_e hf
      refine bM_makesBy_37 (ct := c_M_ran (d := d + 1) (u_M_ran w (71 : Int32)) (40 : Int32) (fun z0 => vpb_ok (g110_0 z0))) (k := ?_)
      refine bM_makesBy_43 (k := ?_)
      refine bM_makesBy_48 (kt := fun q112 => ?_) (kf := fun q112 => ?_)
      · replace hf := ite_t q112 hf
        obtain ⟨g113_0, hf⟩ := grd_e hf
        refine bM_makesBy_58 (ct := c_M_ran (d := d + 1) (u_M_ran (u_M_ran w (71 : Int32)) (40 : Int32)) (30 : Int32) (fun z0 => vpb_ok (g113_0 z0))) (k := ?_)
        obtain ⟨g114_0, hf⟩ := grd_e hf
        refine bM_makesBy_64 (ct := c_M_ran (d := d + 1) (u_M_ran (u_M_ran (u_M_ran w (71 : Int32)) (40 : Int32)) (30 : Int32)) (11 : Int32) (fun z0 => vpb_ok (g114_0 z0))) (k := ?_)
        obtain ⟨v115, w115, e115, hf⟩ := bI_e hf
        refine bM_makesBy_70 (ct := c_M_hearsBy (d := d) (u_M_ran (u_M_ran (u_M_ran (u_M_ran w (71 : Int32)) (40 : Int32)) (30 : Int32)) (11 : Int32)) x1 (x2 + 1) e115) (k := ?_)
        refine bM_makesBy_77 (kt := fun q116 => ?_) (kf := fun q116 => ?_)
        · replace hf := ite_t q116 hf
          refine bM_makesBy_91 (k := ?_)
          obtain ⟨rfl, rfl⟩ := ret_e hf
          exact bM_makesBy_100 
        · replace hf := ite_f q116 hf
          refine bM_makesBy_86 (kt := fun q119 => ?_) (kf := fun q119 => ?_)
          · replace hf := ite_f q119 hf
            refine bM_makesBy_98 (k := ?_)
            obtain ⟨rfl, rfl⟩ := ret_e hf
            exact bM_makesBy_100 
          · replace hf := ite_t q119 hf
            refine bM_makesBy_91 (k := ?_)
            obtain ⟨rfl, rfl⟩ := ret_e hf
            exact bM_makesBy_100 
      · replace hf := ite_f q112 hf
        refine bM_makesBy_53 (kt := fun q124 => ?_) (kf := fun q124 => ?_)
        · replace hf := ite_f q124 hf
          obtain ⟨g125_0, hf⟩ := grd_e hf
          refine bM_makesBy_64 (ct := c_M_ran (d := d + 1) (u_M_ran (u_M_ran w (71 : Int32)) (40 : Int32)) (11 : Int32) (fun z0 => vpb_ok (g125_0 z0))) (k := ?_)
          obtain ⟨v126, w126, e126, hf⟩ := bI_e hf
          refine bM_makesBy_70 (ct := c_M_hearsBy (d := d) (u_M_ran (u_M_ran (u_M_ran w (71 : Int32)) (40 : Int32)) (11 : Int32)) x1 (x2 + 1) e126) (k := ?_)
          refine bM_makesBy_77 (kt := fun q127 => ?_) (kf := fun q127 => ?_)
          · replace hf := ite_t q127 hf
            refine bM_makesBy_91 (k := ?_)
            obtain ⟨rfl, rfl⟩ := ret_e hf
            exact bM_makesBy_100 
          · replace hf := ite_f q127 hf
            refine bM_makesBy_86 (kt := fun q130 => ?_) (kf := fun q130 => ?_)
            · replace hf := ite_f q130 hf
              refine bM_makesBy_98 (k := ?_)
              obtain ⟨rfl, rfl⟩ := ret_e hf
              exact bM_makesBy_100 
            · replace hf := ite_t q130 hf
              refine bM_makesBy_91 (k := ?_)
              obtain ⟨rfl, rfl⟩ := ret_e hf
              exact bM_makesBy_100 
        · replace hf := ite_t q124 hf
          obtain ⟨g135_0, hf⟩ := grd_e hf
          refine bM_makesBy_58 (ct := c_M_ran (d := d + 1) (u_M_ran (u_M_ran w (71 : Int32)) (40 : Int32)) (30 : Int32) (fun z0 => vpb_ok (g135_0 z0))) (k := ?_)
          obtain ⟨g136_0, hf⟩ := grd_e hf
          refine bM_makesBy_64 (ct := c_M_ran (d := d + 1) (u_M_ran (u_M_ran (u_M_ran w (71 : Int32)) (40 : Int32)) (30 : Int32)) (11 : Int32) (fun z0 => vpb_ok (g136_0 z0))) (k := ?_)
          obtain ⟨v137, w137, e137, hf⟩ := bI_e hf
          refine bM_makesBy_70 (ct := c_M_hearsBy (d := d) (u_M_ran (u_M_ran (u_M_ran (u_M_ran w (71 : Int32)) (40 : Int32)) (30 : Int32)) (11 : Int32)) x1 (x2 + 1) e137) (k := ?_)
          refine bM_makesBy_77 (kt := fun q138 => ?_) (kf := fun q138 => ?_)
          · replace hf := ite_t q138 hf
            refine bM_makesBy_91 (k := ?_)
            obtain ⟨rfl, rfl⟩ := ret_e hf
            exact bM_makesBy_100 
          · replace hf := ite_f q138 hf
            refine bM_makesBy_86 (kt := fun q141 => ?_) (kf := fun q141 => ?_)
            · replace hf := ite_f q141 hf
              refine bM_makesBy_98 (k := ?_)
              obtain ⟨rfl, rfl⟩ := ret_e hf
              exact bM_makesBy_100 
            · replace hf := ite_t q141 hf
              refine bM_makesBy_91 (k := ?_)
              obtain ⟨rfl, rfl⟩ := ret_e hf
              exact bM_makesBy_100 
-- M_tellsBy
def f_M_tellsBy (w : MW) (x1 : Int32) (x2 : Int32) : Option RT := grd (vpb x1 8 = true) (if (w.1 66 x1.toNatClampNeg) = 4 then (grd (¬ 20 ≤ (w.1 62 15) → vpb (w.1 62 15) 20 = true) (if (w.1 66 x1.toNatClampNeg) = 5 then (grd (¬ 20 ≤ ((u_M_ran w (50 : Int32)).1 62 15) → vpb ((u_M_ran w (50 : Int32)).1 62 15) 20 = true) (grd (¬ 20 ≤ ((u_M_ran (u_M_ran w (50 : Int32)) (60 : Int32)).1 62 15) → vpb ((u_M_ran (u_M_ran w (50 : Int32)) (60 : Int32)).1 62 15) 20 = true) (bI (f_M_makesBy (u_M_ran (u_M_ran (u_M_ran w (50 : Int32)) (60 : Int32)) (12 : Int32)) x1 x2) (fun v20 w20 => grd (vpb x1 8 = true) (bI (f_M_hearsBy w20 x1 (x2 - (w20.1 67 x1.toNatClampNeg))) (fun v21 w21 => if (w.1 66 x1.toNatClampNeg) = 4 then (some (some (.int (-(v20 ^^^ v21))), w21)) else (if (w.1 66 x1.toNatClampNeg) = 6 then (some (some (.int (-(v20 ^^^ v21))), w21)) else (if (w.1 66 x1.toNatClampNeg) = 5 then (some (some (.int ((v20 ^^^ v21) ^^^ 5)), w21)) else (some (some (.int (v20 ^^^ v21)), w21)))))))))) else (grd (¬ 20 ≤ ((u_M_ran w (50 : Int32)).1 62 15) → vpb ((u_M_ran w (50 : Int32)).1 62 15) 20 = true) (bI (f_M_makesBy (u_M_ran (u_M_ran w (50 : Int32)) (12 : Int32)) x1 x2) (fun v5 w5 => grd (vpb x1 8 = true) (bI (f_M_hearsBy w5 x1 (x2 - (w5.1 67 x1.toNatClampNeg))) (fun v6 w6 => if (w.1 66 x1.toNatClampNeg) = 4 then (some (some (.int (-(v5 ^^^ v6))), w6)) else (if (w.1 66 x1.toNatClampNeg) = 6 then (some (some (.int (-(v5 ^^^ v6))), w6)) else (if (w.1 66 x1.toNatClampNeg) = 5 then (some (some (.int ((v5 ^^^ v6) ^^^ 5)), w6)) else (some (some (.int (v5 ^^^ v6)), w6))))))))))) else (if (w.1 66 x1.toNatClampNeg) = 6 then (grd (¬ 20 ≤ (w.1 62 15) → vpb (w.1 62 15) 20 = true) (if (w.1 66 x1.toNatClampNeg) = 5 then (grd (¬ 20 ≤ ((u_M_ran w (50 : Int32)).1 62 15) → vpb ((u_M_ran w (50 : Int32)).1 62 15) 20 = true) (grd (¬ 20 ≤ ((u_M_ran (u_M_ran w (50 : Int32)) (60 : Int32)).1 62 15) → vpb ((u_M_ran (u_M_ran w (50 : Int32)) (60 : Int32)).1 62 15) 20 = true) (bI (f_M_makesBy (u_M_ran (u_M_ran (u_M_ran w (50 : Int32)) (60 : Int32)) (12 : Int32)) x1 x2) (fun v82 w82 => grd (vpb x1 8 = true) (bI (f_M_hearsBy w82 x1 (x2 - (w82.1 67 x1.toNatClampNeg))) (fun v83 w83 => if (w.1 66 x1.toNatClampNeg) = 4 then (some (some (.int (-(v82 ^^^ v83))), w83)) else (if (w.1 66 x1.toNatClampNeg) = 6 then (some (some (.int (-(v82 ^^^ v83))), w83)) else (if (w.1 66 x1.toNatClampNeg) = 5 then (some (some (.int ((v82 ^^^ v83) ^^^ 5)), w83)) else (some (some (.int (v82 ^^^ v83)), w83)))))))))) else (grd (¬ 20 ≤ ((u_M_ran w (50 : Int32)).1 62 15) → vpb ((u_M_ran w (50 : Int32)).1 62 15) 20 = true) (bI (f_M_makesBy (u_M_ran (u_M_ran w (50 : Int32)) (12 : Int32)) x1 x2) (fun v67 w67 => grd (vpb x1 8 = true) (bI (f_M_hearsBy w67 x1 (x2 - (w67.1 67 x1.toNatClampNeg))) (fun v68 w68 => if (w.1 66 x1.toNatClampNeg) = 4 then (some (some (.int (-(v67 ^^^ v68))), w68)) else (if (w.1 66 x1.toNatClampNeg) = 6 then (some (some (.int (-(v67 ^^^ v68))), w68)) else (if (w.1 66 x1.toNatClampNeg) = 5 then (some (some (.int ((v67 ^^^ v68) ^^^ 5)), w68)) else (some (some (.int (v67 ^^^ v68)), w68))))))))))) else (if (w.1 66 x1.toNatClampNeg) = 5 then (grd (¬ 20 ≤ (w.1 62 15) → vpb (w.1 62 15) 20 = true) (grd (¬ 20 ≤ ((u_M_ran w (60 : Int32)).1 62 15) → vpb ((u_M_ran w (60 : Int32)).1 62 15) 20 = true) (bI (f_M_makesBy (u_M_ran (u_M_ran w (60 : Int32)) (12 : Int32)) x1 x2) (fun v51 w51 => grd (vpb x1 8 = true) (bI (f_M_hearsBy w51 x1 (x2 - (w51.1 67 x1.toNatClampNeg))) (fun v52 w52 => if (w.1 66 x1.toNatClampNeg) = 4 then (some (some (.int (-(v51 ^^^ v52))), w52)) else (if (w.1 66 x1.toNatClampNeg) = 6 then (some (some (.int (-(v51 ^^^ v52))), w52)) else (if (w.1 66 x1.toNatClampNeg) = 5 then (some (some (.int ((v51 ^^^ v52) ^^^ 5)), w52)) else (some (some (.int (v51 ^^^ v52)), w52)))))))))) else (grd (¬ 20 ≤ (w.1 62 15) → vpb (w.1 62 15) 20 = true) (bI (f_M_makesBy (u_M_ran w (12 : Int32)) x1 x2) (fun v36 w36 => grd (vpb x1 8 = true) (bI (f_M_hearsBy w36 x1 (x2 - (w36.1 67 x1.toNatClampNeg))) (fun v37 w37 => if (w.1 66 x1.toNatClampNeg) = 4 then (some (some (.int (-(v36 ^^^ v37))), w37)) else (if (w.1 66 x1.toNatClampNeg) = 6 then (some (some (.int (-(v36 ^^^ v37))), w37)) else (if (w.1 66 x1.toNatClampNeg) = 5 then (some (some (.int ((v36 ^^^ v37) ^^^ 5)), w37)) else (some (some (.int (v36 ^^^ v37)), w37))))))))))))
set_option maxHeartbeats 4000000 in
theorem c_M_tellsBy {d : Nat} {r : Option Value} {w' : MW} (w : MW) (x1 : Int32) (x2 : Int32) (hf : f_M_tellsBy w x1 x2 = some (r, w')) : Ct (d + 3) mM_tellsBy [.ref 62, .int x1, .int x2] w r w' := by
  refine eM_tellsBy ?_
  unfold f_M_tellsBy at hf
  obtain ⟨g1_0, hf⟩ := grd_e hf
  refine bM_tellsBy_0 (y1 := 66) (h3 := (vpb_ok g1_0)) (kt := fun q1 => ?_) (kf := fun q1 => ?_)
  · replace hf := ite_t q1 hf
    obtain ⟨g2_0, hf⟩ := grd_e hf
    refine bM_tellsBy_18 (ct := c_M_ran (d := d + 2) w (50 : Int32) (fun z0 => vpb_ok (g2_0 z0))) (k := ?_)
    refine bM_tellsBy_24 (kt := fun q3 => ?_) (kf := fun q3 => ?_)
    · replace hf := ite_f q3 hf
      obtain ⟨g4_0, hf⟩ := grd_e hf
      refine bM_tellsBy_35 (ct := c_M_ran (d := d + 2) (u_M_ran w (50 : Int32)) (12 : Int32) (fun z0 => vpb_ok (g4_0 z0))) (k := ?_)
      obtain ⟨v5, w5, e5, hf⟩ := bI_e hf
      refine bM_tellsBy_41 (ct := c_M_makesBy (d := d) (u_M_ran (u_M_ran w (50 : Int32)) (12 : Int32)) x1 x2 e5) (k := ?_)
      obtain ⟨g6_0, hf⟩ := grd_e hf
      obtain ⟨v6, w6, e6, hf⟩ := bI_e hf
      refine bM_tellsBy_47 (y1 := 67) (h3 := (vpb_ok g6_0)) (ct := c_M_hearsBy (d := d + 1) w5 x1 (x2 - (w5.1 67 x1.toNatClampNeg)) e6) (k := ?_)
      refine bM_tellsBy_64 (kt := fun q7 => ?_) (kf := fun q7 => ?_)
      · replace hf := ite_t q7 hf
        refine bM_tellsBy_78 (k := ?_)
        obtain ⟨rfl, rfl⟩ := ret_e hf
        exact bM_tellsBy_98 
      · replace hf := ite_f q7 hf
        refine bM_tellsBy_72 (kt := fun q10 => ?_) (kf := fun q10 => ?_)
        · replace hf := ite_f q10 hf
          refine bM_tellsBy_84 (kt := fun q11 => ?_) (kf := fun q11 => ?_)
          · replace hf := ite_f q11 hf
            refine bM_tellsBy_96 (k := ?_)
            obtain ⟨rfl, rfl⟩ := ret_e hf
            exact bM_tellsBy_98 
          · replace hf := ite_t q11 hf
            refine bM_tellsBy_89 (k := ?_)
            obtain ⟨rfl, rfl⟩ := ret_e hf
            exact bM_tellsBy_98 
        · replace hf := ite_t q10 hf
          refine bM_tellsBy_78 (k := ?_)
          obtain ⟨rfl, rfl⟩ := ret_e hf
          exact bM_tellsBy_98 
    · replace hf := ite_t q3 hf
      obtain ⟨g18_0, hf⟩ := grd_e hf
      refine bM_tellsBy_29 (ct := c_M_ran (d := d + 2) (u_M_ran w (50 : Int32)) (60 : Int32) (fun z0 => vpb_ok (g18_0 z0))) (k := ?_)
      obtain ⟨g19_0, hf⟩ := grd_e hf
      refine bM_tellsBy_35 (ct := c_M_ran (d := d + 2) (u_M_ran (u_M_ran w (50 : Int32)) (60 : Int32)) (12 : Int32) (fun z0 => vpb_ok (g19_0 z0))) (k := ?_)
      obtain ⟨v20, w20, e20, hf⟩ := bI_e hf
      refine bM_tellsBy_41 (ct := c_M_makesBy (d := d) (u_M_ran (u_M_ran (u_M_ran w (50 : Int32)) (60 : Int32)) (12 : Int32)) x1 x2 e20) (k := ?_)
      obtain ⟨g21_0, hf⟩ := grd_e hf
      obtain ⟨v21, w21, e21, hf⟩ := bI_e hf
      refine bM_tellsBy_47 (y1 := 67) (h3 := (vpb_ok g21_0)) (ct := c_M_hearsBy (d := d + 1) w20 x1 (x2 - (w20.1 67 x1.toNatClampNeg)) e21) (k := ?_)
      refine bM_tellsBy_64 (kt := fun q22 => ?_) (kf := fun q22 => ?_)
      · replace hf := ite_t q22 hf
        refine bM_tellsBy_78 (k := ?_)
        obtain ⟨rfl, rfl⟩ := ret_e hf
        exact bM_tellsBy_98 
      · replace hf := ite_f q22 hf
        refine bM_tellsBy_72 (kt := fun q25 => ?_) (kf := fun q25 => ?_)
        · replace hf := ite_f q25 hf
          refine bM_tellsBy_84 (kt := fun q26 => ?_) (kf := fun q26 => ?_)
          · replace hf := ite_f q26 hf
            refine bM_tellsBy_96 (k := ?_)
            obtain ⟨rfl, rfl⟩ := ret_e hf
            exact bM_tellsBy_98 
          · replace hf := ite_t q26 hf
            refine bM_tellsBy_89 (k := ?_)
            obtain ⟨rfl, rfl⟩ := ret_e hf
            exact bM_tellsBy_98 
        · replace hf := ite_t q25 hf
          refine bM_tellsBy_78 (k := ?_)
          obtain ⟨rfl, rfl⟩ := ret_e hf
          exact bM_tellsBy_98 
  · replace hf := ite_f q1 hf
    refine bM_tellsBy_12 (kt := fun q33 => ?_) (kf := fun q33 => ?_)
    · replace hf := ite_f q33 hf
      refine bM_tellsBy_24 (kt := fun q34 => ?_) (kf := fun q34 => ?_)
      · replace hf := ite_f q34 hf
        obtain ⟨g35_0, hf⟩ := grd_e hf
        refine bM_tellsBy_35 (ct := c_M_ran (d := d + 2) w (12 : Int32) (fun z0 => vpb_ok (g35_0 z0))) (k := ?_)
        obtain ⟨v36, w36, e36, hf⟩ := bI_e hf
        refine bM_tellsBy_41 (ct := c_M_makesBy (d := d) (u_M_ran w (12 : Int32)) x1 x2 e36) (k := ?_)
        obtain ⟨g37_0, hf⟩ := grd_e hf
        obtain ⟨v37, w37, e37, hf⟩ := bI_e hf
        refine bM_tellsBy_47 (y1 := 67) (h3 := (vpb_ok g37_0)) (ct := c_M_hearsBy (d := d + 1) w36 x1 (x2 - (w36.1 67 x1.toNatClampNeg)) e37) (k := ?_)
        refine bM_tellsBy_64 (kt := fun q38 => ?_) (kf := fun q38 => ?_)
        · replace hf := ite_t q38 hf
          refine bM_tellsBy_78 (k := ?_)
          obtain ⟨rfl, rfl⟩ := ret_e hf
          exact bM_tellsBy_98 
        · replace hf := ite_f q38 hf
          refine bM_tellsBy_72 (kt := fun q41 => ?_) (kf := fun q41 => ?_)
          · replace hf := ite_f q41 hf
            refine bM_tellsBy_84 (kt := fun q42 => ?_) (kf := fun q42 => ?_)
            · replace hf := ite_f q42 hf
              refine bM_tellsBy_96 (k := ?_)
              obtain ⟨rfl, rfl⟩ := ret_e hf
              exact bM_tellsBy_98 
            · replace hf := ite_t q42 hf
              refine bM_tellsBy_89 (k := ?_)
              obtain ⟨rfl, rfl⟩ := ret_e hf
              exact bM_tellsBy_98 
          · replace hf := ite_t q41 hf
            refine bM_tellsBy_78 (k := ?_)
            obtain ⟨rfl, rfl⟩ := ret_e hf
            exact bM_tellsBy_98 
      · replace hf := ite_t q34 hf
        obtain ⟨g49_0, hf⟩ := grd_e hf
        refine bM_tellsBy_29 (ct := c_M_ran (d := d + 2) w (60 : Int32) (fun z0 => vpb_ok (g49_0 z0))) (k := ?_)
        obtain ⟨g50_0, hf⟩ := grd_e hf
        refine bM_tellsBy_35 (ct := c_M_ran (d := d + 2) (u_M_ran w (60 : Int32)) (12 : Int32) (fun z0 => vpb_ok (g50_0 z0))) (k := ?_)
        obtain ⟨v51, w51, e51, hf⟩ := bI_e hf
        refine bM_tellsBy_41 (ct := c_M_makesBy (d := d) (u_M_ran (u_M_ran w (60 : Int32)) (12 : Int32)) x1 x2 e51) (k := ?_)
        obtain ⟨g52_0, hf⟩ := grd_e hf
        obtain ⟨v52, w52, e52, hf⟩ := bI_e hf
        refine bM_tellsBy_47 (y1 := 67) (h3 := (vpb_ok g52_0)) (ct := c_M_hearsBy (d := d + 1) w51 x1 (x2 - (w51.1 67 x1.toNatClampNeg)) e52) (k := ?_)
        refine bM_tellsBy_64 (kt := fun q53 => ?_) (kf := fun q53 => ?_)
        · replace hf := ite_t q53 hf
          refine bM_tellsBy_78 (k := ?_)
          obtain ⟨rfl, rfl⟩ := ret_e hf
          exact bM_tellsBy_98 
        · replace hf := ite_f q53 hf
          refine bM_tellsBy_72 (kt := fun q56 => ?_) (kf := fun q56 => ?_)
          · replace hf := ite_f q56 hf
            refine bM_tellsBy_84 (kt := fun q57 => ?_) (kf := fun q57 => ?_)
            · replace hf := ite_f q57 hf
              refine bM_tellsBy_96 (k := ?_)
              obtain ⟨rfl, rfl⟩ := ret_e hf
              exact bM_tellsBy_98 
            · replace hf := ite_t q57 hf
              refine bM_tellsBy_89 (k := ?_)
              obtain ⟨rfl, rfl⟩ := ret_e hf
              exact bM_tellsBy_98 
          · replace hf := ite_t q56 hf
            refine bM_tellsBy_78 (k := ?_)
            obtain ⟨rfl, rfl⟩ := ret_e hf
            exact bM_tellsBy_98 
    · replace hf := ite_t q33 hf
      obtain ⟨g64_0, hf⟩ := grd_e hf
      refine bM_tellsBy_18 (ct := c_M_ran (d := d + 2) w (50 : Int32) (fun z0 => vpb_ok (g64_0 z0))) (k := ?_)
      refine bM_tellsBy_24 (kt := fun q65 => ?_) (kf := fun q65 => ?_)
      · replace hf := ite_f q65 hf
        obtain ⟨g66_0, hf⟩ := grd_e hf
        refine bM_tellsBy_35 (ct := c_M_ran (d := d + 2) (u_M_ran w (50 : Int32)) (12 : Int32) (fun z0 => vpb_ok (g66_0 z0))) (k := ?_)
        obtain ⟨v67, w67, e67, hf⟩ := bI_e hf
        refine bM_tellsBy_41 (ct := c_M_makesBy (d := d) (u_M_ran (u_M_ran w (50 : Int32)) (12 : Int32)) x1 x2 e67) (k := ?_)
        obtain ⟨g68_0, hf⟩ := grd_e hf
        obtain ⟨v68, w68, e68, hf⟩ := bI_e hf
        refine bM_tellsBy_47 (y1 := 67) (h3 := (vpb_ok g68_0)) (ct := c_M_hearsBy (d := d + 1) w67 x1 (x2 - (w67.1 67 x1.toNatClampNeg)) e68) (k := ?_)
        refine bM_tellsBy_64 (kt := fun q69 => ?_) (kf := fun q69 => ?_)
        · replace hf := ite_t q69 hf
          refine bM_tellsBy_78 (k := ?_)
          obtain ⟨rfl, rfl⟩ := ret_e hf
          exact bM_tellsBy_98 
        · replace hf := ite_f q69 hf
          refine bM_tellsBy_72 (kt := fun q72 => ?_) (kf := fun q72 => ?_)
          · replace hf := ite_f q72 hf
            refine bM_tellsBy_84 (kt := fun q73 => ?_) (kf := fun q73 => ?_)
            · replace hf := ite_f q73 hf
              refine bM_tellsBy_96 (k := ?_)
              obtain ⟨rfl, rfl⟩ := ret_e hf
              exact bM_tellsBy_98 
            · replace hf := ite_t q73 hf
              refine bM_tellsBy_89 (k := ?_)
              obtain ⟨rfl, rfl⟩ := ret_e hf
              exact bM_tellsBy_98 
          · replace hf := ite_t q72 hf
            refine bM_tellsBy_78 (k := ?_)
            obtain ⟨rfl, rfl⟩ := ret_e hf
            exact bM_tellsBy_98 
      · replace hf := ite_t q65 hf
        obtain ⟨g80_0, hf⟩ := grd_e hf
        refine bM_tellsBy_29 (ct := c_M_ran (d := d + 2) (u_M_ran w (50 : Int32)) (60 : Int32) (fun z0 => vpb_ok (g80_0 z0))) (k := ?_)
        obtain ⟨g81_0, hf⟩ := grd_e hf
        refine bM_tellsBy_35 (ct := c_M_ran (d := d + 2) (u_M_ran (u_M_ran w (50 : Int32)) (60 : Int32)) (12 : Int32) (fun z0 => vpb_ok (g81_0 z0))) (k := ?_)
        obtain ⟨v82, w82, e82, hf⟩ := bI_e hf
        refine bM_tellsBy_41 (ct := c_M_makesBy (d := d) (u_M_ran (u_M_ran (u_M_ran w (50 : Int32)) (60 : Int32)) (12 : Int32)) x1 x2 e82) (k := ?_)
        obtain ⟨g83_0, hf⟩ := grd_e hf
        obtain ⟨v83, w83, e83, hf⟩ := bI_e hf
        refine bM_tellsBy_47 (y1 := 67) (h3 := (vpb_ok g83_0)) (ct := c_M_hearsBy (d := d + 1) w82 x1 (x2 - (w82.1 67 x1.toNatClampNeg)) e83) (k := ?_)
        refine bM_tellsBy_64 (kt := fun q84 => ?_) (kf := fun q84 => ?_)
        · replace hf := ite_t q84 hf
          refine bM_tellsBy_78 (k := ?_)
          obtain ⟨rfl, rfl⟩ := ret_e hf
          exact bM_tellsBy_98 
        · replace hf := ite_f q84 hf
          refine bM_tellsBy_72 (kt := fun q87 => ?_) (kf := fun q87 => ?_)
          · replace hf := ite_f q87 hf
            refine bM_tellsBy_84 (kt := fun q88 => ?_) (kf := fun q88 => ?_)
            · replace hf := ite_f q88 hf
              refine bM_tellsBy_96 (k := ?_)
              obtain ⟨rfl, rfl⟩ := ret_e hf
              exact bM_tellsBy_98 
            · replace hf := ite_t q88 hf
              refine bM_tellsBy_89 (k := ?_)
              obtain ⟨rfl, rfl⟩ := ret_e hf
              exact bM_tellsBy_98 
          · replace hf := ite_t q87 hf
            refine bM_tellsBy_78 (k := ?_)
            obtain ⟨rfl, rfl⟩ := ret_e hf
            exact bM_tellsBy_98 
-- M_trace
def f_M_trace (w : MW) (x1 : Int32) : Option RT := if x1 < 0 then (some (some (.int (-1 : Int32)), w)) else (if (w.1 62 15) ≤ x1 then (some (some (.int (-1 : Int32)), w)) else (if 20 ≤ x1 then (some (some (.int (-1 : Int32)), w)) else (grd (vpb x1 20 = true) (some (some (.int (w.1 74 x1.toNatClampNeg)), w)))))
set_option maxHeartbeats 4000000 in
theorem c_M_trace {d : Nat} {r : Option Value} {w' : MW} (w : MW) (x1 : Int32) (hf : f_M_trace w x1 = some (r, w')) : Ct d mM_trace [.ref 62, .int x1] w r w' := by
  refine eM_trace ?_
  unfold f_M_trace at hf
  refine bM_trace_0 (kt := fun q1 => ?_) (kf := fun q1 => ?_)
  · replace hf := ite_t q1 hf
    refine bM_trace_27 (k := ?_)
    obtain ⟨rfl, rfl⟩ := ret_e hf
    exact bM_trace_28 
  · replace hf := ite_f q1 hf
    refine bM_trace_4 (kt := fun q4 => ?_) (kf := fun q4 => ?_)
    · replace hf := ite_t q4 hf
      refine bM_trace_27 (k := ?_)
      obtain ⟨rfl, rfl⟩ := ret_e hf
      exact bM_trace_28 
    · replace hf := ite_f q4 hf
      refine bM_trace_12 (kt := fun q7 => ?_) (kf := fun q7 => ?_)
      · replace hf := ite_t q7 hf
        refine bM_trace_27 (k := ?_)
        obtain ⟨rfl, rfl⟩ := ret_e hf
        exact bM_trace_28 
      · replace hf := ite_f q7 hf
        obtain ⟨g10_0, hf⟩ := grd_e hf
        refine bM_trace_18 (y1 := 74) (h3 := (vpb_ok g10_0)) (k := ?_)
        obtain ⟨rfl, rfl⟩ := ret_e hf
        exact bM_trace_28 
-- M_image
def f_M_image (w : MW) : Option RT := bV (f_M_keep (setI w 62 17 1) 75) (fun w1 => some (some (.int (w1.1 62 3)), w1))
set_option maxHeartbeats 4000000 in
theorem c_M_image {d : Nat} {r : Option Value} {w' : MW} (w : MW) (hf : f_M_image w = some (r, w')) : Ct (d + 1) mM_image [.ref 62] w r w' := by
  refine eM_image ?_
  unfold f_M_image at hf
  obtain ⟨w1, e1, hf⟩ := bV_e hf
  refine bM_image_0 (y1 := 75) (ct := c_M_keep (d := d) (setI w 62 17 1) 75 ⟨rfl, rfl⟩ e1) (k := ?_)
  obtain ⟨rfl, rfl⟩ := ret_e hf
  exact bM_image_13 
-- M_restore
def f_M_restore_24 : Nat → MW → Int32 → Option RT
  | 0, _, _ => none
  | n + 1, w, x1 => if 8 ≤ x1 then (some (some (.int (w.1 62 3)), w)) else (grd (vpb x1 8 = true) (if (v_M_isRow w x1) = 0 then (grd (vpb x1 8 = true) (if (w.1 63 x1.toNatClampNeg) < (w.1 62 3) then (f_M_restore_24 n w (x1 + 1)) else (grd (vpb x1 8 = true) (f_M_restore_24 n (setI w 63 x1.toNatClampNeg (-1)) (x1 + 1))))) else (f_M_restore_24 n w (x1 + 1))))
set_option maxHeartbeats 4000000 in
theorem r_M_restore_24 {d : Nat} {r : Option Value} {w' : MW} : ∀ (n : Nat) (w : MW) (x1 : Int32), f_M_restore_24 n w x1 = some (r, w') → Rn (d + 1) mM_restore 24 [some (.ref 62), some (.int x1)] [] w r w' := by
  intro n
  induction n with
  | zero =>
    intro w x1 hf
    cases hf
  | succ n ih =>
    intro w x1 hf
    rw [f_M_restore_24] at hf
    refine bM_restore_24 (kt := fun q1 => ?_) (kf := fun q1 => ?_)
    · replace hf := ite_t q1 hf
      obtain ⟨rfl, rfl⟩ := ret_e hf
      exact bM_restore_64 
    · replace hf := ite_f q1 hf
      obtain ⟨g3_0, hf⟩ := grd_e hf
      refine bM_restore_30 (ct := c_M_isRow (d := d) w x1 (vpb_ok g3_0)) (k := ?_)
      refine bM_restore_35 (kt := fun q4 => ?_) (kf := fun q4 => ?_)
      · replace hf := ite_f q4 hf
        refine bM_restore_58 (k := ?_)
        exact ih w (x1 + 1) hf
      · replace hf := ite_t q4 hf
        obtain ⟨g6_0, hf⟩ := grd_e hf
        refine bM_restore_38 (y1 := 63) (h3 := (vpb_ok g6_0)) (kt := fun q6 => ?_) (kf := fun q6 => ?_)
        · replace hf := ite_t q6 hf
          refine bM_restore_58 (k := ?_)
          exact ih w (x1 + 1) hf
        · replace hf := ite_f q6 hf
          obtain ⟨g8_0, hf⟩ := grd_e hf
          refine bM_restore_51 (y1 := 63) (h3 := (vpb_ok g8_0)) (k := ?_)
          refine bM_restore_58 (k := ?_)
          exact ih (setI w 63 x1.toNatClampNeg (-1)) (x1 + 1) hf
def f_M_restore (w : MW) : Option RT := if (w.1 62 17) = 0 then (some (some (.int (v_M_no w (-6 : Int32))), u_M_no w (-6 : Int32))) else (bV (f_M_again w 75) (fun w2 => f_M_restore_24 FU w2 (0 : Int32)))
set_option maxHeartbeats 4000000 in
theorem c_M_restore {d : Nat} {r : Option Value} {w' : MW} (w : MW) (hf : f_M_restore w = some (r, w')) : Ct (d + 1) mM_restore [.ref 62] w r w' := by
  refine eM_restore ?_
  unfold f_M_restore at hf
  refine bM_restore_0 (kt := fun q1 => ?_) (kf := fun q1 => ?_)
  · replace hf := ite_f q1 hf
    obtain ⟨w2, e2, hf⟩ := bV_e hf
    refine bM_restore_14 (y1 := 75) (ct := c_M_again (d := d) w 75 ⟨rfl, rfl⟩ e2) (k := ?_)
    refine bM_restore_22 (k := ?_)
    exact r_M_restore_24 FU w2 (0 : Int32) hf
  · replace hf := ite_t q1 hf
    refine bM_restore_7 (ct := c_M_no (d := d) w (-6 : Int32) (vpd (i := (-(-6 : Int32))) (n := 8) (by decide))) (k := ?_)
    obtain ⟨rfl, rfl⟩ := ret_e hf
    exact bM_restore_13 
-- M_status
def f_M_status_115 : Nat → MW → Int32 → Int32 → Option RT
  | 0, _, _, _ => none
  | n + 1, w, x2, x3 => if (w.1 62 3) ≤ x3 then (some (some (.int x2), w)) else (grd (vpb x3 8 = true) (if (w.1 69 x3.toNatClampNeg) = (-1) then (f_M_status_115 n w x2 (x3 + 1)) else (f_M_status_115 n w (x2 + 1) (x3 + 1))))
set_option maxHeartbeats 4000000 in
theorem r_M_status_115 {d : Nat} {r : Option Value} {w' : MW} : ∀ (n : Nat) (w : MW) (x2 : Int32) (x3 : Int32), f_M_status_115 n w x2 x3 = some (r, w') → Rn (d + 1) mM_status 115 [some (.ref 62), none, some (.int x2), some (.int x3)] [] w r w' := by
  intro n
  induction n with
  | zero =>
    intro w x2 x3 hf
    cases hf
  | succ n ih =>
    intro w x2 x3 hf
    rw [f_M_status_115] at hf
    refine bM_status_115 (kt := fun q1 => ?_) (kf := fun q1 => ?_)
    · replace hf := ite_t q1 hf
      obtain ⟨rfl, rfl⟩ := ret_e hf
      exact bM_status_142 
    · replace hf := ite_f q1 hf
      obtain ⟨g3_0, hf⟩ := grd_e hf
      refine bM_status_123 (y1 := 69) (h3 := (vpb_ok g3_0)) (kt := fun q3 => ?_) (kf := fun q3 => ?_)
      · replace hf := ite_t q3 hf
        refine bM_status_136 (k := ?_)
        exact ih w x2 (x3 + 1) hf
      · replace hf := ite_f q3 hf
        refine bM_status_133 (k := ?_)
        refine bM_status_136 (k := ?_)
        exact ih w (x2 + 1) (x3 + 1) hf
def f_M_status_88 : Nat → MW → Int32 → Int32 → Option RT
  | 0, _, _, _ => none
  | n + 1, w, x2, x3 => if (w.1 62 3) ≤ x3 then (some (some (.int x2), w)) else (grd (vpb x3 8 = true) (f_M_status_88 n w (x2 + (w.1 70 x3.toNatClampNeg)) (x3 + 1)))
set_option maxHeartbeats 4000000 in
theorem r_M_status_88 {d : Nat} {r : Option Value} {w' : MW} : ∀ (n : Nat) (w : MW) (x2 : Int32) (x3 : Int32), f_M_status_88 n w x2 x3 = some (r, w') → Rn (d + 1) mM_status 88 [some (.ref 62), none, some (.int x2), some (.int x3)] [] w r w' := by
  intro n
  induction n with
  | zero =>
    intro w x2 x3 hf
    cases hf
  | succ n ih =>
    intro w x2 x3 hf
    rw [f_M_status_88] at hf
    refine bM_status_88 (kt := fun q1 => ?_) (kf := fun q1 => ?_)
    · replace hf := ite_t q1 hf
      obtain ⟨rfl, rfl⟩ := ret_e hf
      exact bM_status_111 
    · replace hf := ite_f q1 hf
      obtain ⟨g3_0, hf⟩ := grd_e hf
      refine bM_status_96 (y1 := 70) (h3 := (vpb_ok g3_0)) (k := ?_)
      exact ih w (x2 + (w.1 70 x3.toNatClampNeg)) (x3 + 1) hf
def f_M_status_56 : Nat → MW → Int32 → Int32 → Option RT
  | 0, _, _, _ => none
  | n + 1, w, x2, x3 => if (w.1 62 3) ≤ x3 then (some (some (.int (x2 / 2)), w)) else (grd (vpb x3 8 = true) (bI (f_JI_bitCount w (w.1 71 x3.toNatClampNeg)) (fun v3 w3 => f_M_status_56 n w3 (x2 + v3) (x3 + 1))))
set_option maxHeartbeats 4000000 in
theorem r_M_status_56 {d : Nat} {r : Option Value} {w' : MW} : ∀ (n : Nat) (w : MW) (x2 : Int32) (x3 : Int32), f_M_status_56 n w x2 x3 = some (r, w') → Rn (d + 1) mM_status 56 [some (.ref 62), none, some (.int x2), some (.int x3)] [] w r w' := by
  intro n
  induction n with
  | zero =>
    intro w x2 x3 hf
    cases hf
  | succ n ih =>
    intro w x2 x3 hf
    rw [f_M_status_56] at hf
    refine bM_status_56 (kt := fun q1 => ?_) (kf := fun q1 => ?_)
    · replace hf := ite_t q1 hf
      obtain ⟨rfl, rfl⟩ := ret_e hf
      exact bM_status_82 
    · replace hf := ite_f q1 hf
      obtain ⟨g3_0, hf⟩ := grd_e hf
      obtain ⟨v3, w3, e3, hf⟩ := bI_e hf
      refine bM_status_64 (y1 := 71) (h3 := (vpb_ok g3_0)) (ct := c_JI_bitCount (d := d) w (w.1 71 x3.toNatClampNeg) e3) (k := ?_)
      refine bM_status_74 (k := ?_)
      exact ih w3 (x2 + v3) (x3 + 1) hf
def f_M_status (w : MW) (x1 : Int32) : Option RT := if x1 = 0 then (some (some (.int (w.1 62 3)), w)) else if x1 = 1 then (some (some (.int (w.1 62 10)), w)) else if x1 = 2 then (f_M_status_56 FU w (0 : Int32) (0 : Int32)) else if x1 = 3 then (f_M_status_88 FU w (0 : Int32) (0 : Int32)) else if x1 = 4 then (f_M_status_115 FU w (0 : Int32) (0 : Int32)) else if x1 = 5 then (some (some (.int (w.1 62 12)), w)) else if x1 = 6 then (some (some (.int (w.1 62 15)), w)) else (if (v_M_within w x1 (11 : Int32) (17 : Int32)) = 0 then (some (some (.int (-1 : Int32)), w)) else (grd (vpb (x1 - 10) 8 = true) (some (some (.int (w.1 73 (x1 - 10).toNatClampNeg)), w))))
set_option maxHeartbeats 4000000 in
theorem c_M_status {d : Nat} {r : Option Value} {w' : MW} (w : MW) (x1 : Int32) (hf : f_M_status w x1 = some (r, w')) : Ct (d + 1) mM_status [.ref 62, .int x1] w r w' := by
  refine eM_status ?_
  unfold f_M_status at hf
  refine bM_status_0 (k0 := fun q1_0 => ?_) (k1 := fun q1_1 => ?_) (k2 := fun q1_2 => ?_) (k3 := fun q1_3 => ?_) (k4 := fun q1_4 => ?_) (k5 := fun q1_5 => ?_) (k6 := fun q1_6 => ?_) (kd := fun q1_0 q1_1 q1_2 q1_3 q1_4 q1_5 q1_6 => ?_)
  · have hq := q1_0
    replace hf := ite_t hq hf
    obtain ⟨rfl, rfl⟩ := ret_e hf
    exact bM_status_44 
  · have hq := q1_1
    replace hf := ite_f (by rw [hq]; decide) hf
    replace hf := ite_t hq hf
    obtain ⟨rfl, rfl⟩ := ret_e hf
    exact bM_status_49 
  · have hq := q1_2
    replace hf := ite_f (by rw [hq]; decide) hf
    replace hf := ite_f (by rw [hq]; decide) hf
    replace hf := ite_t hq hf
    refine bM_status_54 (k := ?_)
    exact r_M_status_56 FU w (0 : Int32) (0 : Int32) hf
  · have hq := q1_3
    replace hf := ite_f (by rw [hq]; decide) hf
    replace hf := ite_f (by rw [hq]; decide) hf
    replace hf := ite_f (by rw [hq]; decide) hf
    replace hf := ite_t hq hf
    refine bM_status_86 (k := ?_)
    exact r_M_status_88 FU w (0 : Int32) (0 : Int32) hf
  · have hq := q1_4
    replace hf := ite_f (by rw [hq]; decide) hf
    replace hf := ite_f (by rw [hq]; decide) hf
    replace hf := ite_f (by rw [hq]; decide) hf
    replace hf := ite_f (by rw [hq]; decide) hf
    replace hf := ite_t hq hf
    refine bM_status_113 (k := ?_)
    exact r_M_status_115 FU w (0 : Int32) (0 : Int32) hf
  · have hq := q1_5
    replace hf := ite_f (by rw [hq]; decide) hf
    replace hf := ite_f (by rw [hq]; decide) hf
    replace hf := ite_f (by rw [hq]; decide) hf
    replace hf := ite_f (by rw [hq]; decide) hf
    replace hf := ite_f (by rw [hq]; decide) hf
    replace hf := ite_t hq hf
    obtain ⟨rfl, rfl⟩ := ret_e hf
    exact bM_status_144 
  · have hq := q1_6
    replace hf := ite_f (by rw [hq]; decide) hf
    replace hf := ite_f (by rw [hq]; decide) hf
    replace hf := ite_f (by rw [hq]; decide) hf
    replace hf := ite_f (by rw [hq]; decide) hf
    replace hf := ite_f (by rw [hq]; decide) hf
    replace hf := ite_f (by rw [hq]; decide) hf
    replace hf := ite_t hq hf
    obtain ⟨rfl, rfl⟩ := ret_e hf
    exact bM_status_149 
  · replace hf := ite_f q1_0 hf
    replace hf := ite_f q1_1 hf
    replace hf := ite_f q1_2 hf
    replace hf := ite_f q1_3 hf
    replace hf := ite_f q1_4 hf
    replace hf := ite_f q1_5 hf
    replace hf := ite_f q1_6 hf
    refine bM_status_154 (ct := c_M_within (d := d) w x1 (11 : Int32) (17 : Int32)) (k := ?_)
    refine bM_status_162 (kt := fun q10 => ?_) (kf := fun q10 => ?_)
    · replace hf := ite_t q10 hf
      refine bM_status_177 (k := ?_)
      obtain ⟨rfl, rfl⟩ := ret_e hf
      exact bM_status_178 
    · replace hf := ite_f q10 hf
      obtain ⟨g13_0, hf⟩ := grd_e hf
      refine bM_status_165 (y1 := 73) (h3 := (vpb_ok g13_0)) (k := ?_)
      obtain ⟨rfl, rfl⟩ := ret_e hf
      exact bM_status_178 
-- X_row
def f_X_row (w : MW) (x1 : Int32) (x2 : Int32) (x3 : Int32) : Option RT := if (v_X_isShelf w x1) = 0 then (some (some (.int (v_X_refuse w (-1 : Int32))), u_X_refuse w (-1 : Int32))) else (if 0 ≤ x3 then (if x2 < 0 then (some (some (.int (v_X_refuse w (-6 : Int32))), u_X_refuse w (-6 : Int32))) else (if x2 < 4 then (if x3 ≤ 160 then (grd (vpb x1 8 = true) (bV (f_Sh_takeRow w (35 + 2 * x1.toNatClampNeg) x2 x3) (fun w9 => some (some (.int (1 : Int32)), w9)))) else (some (some (.int (v_X_refuse w (-7 : Int32))), u_X_refuse w (-7 : Int32)))) else (some (some (.int (v_X_refuse w (-6 : Int32))), u_X_refuse w (-6 : Int32))))) else (some (some (.int (v_X_refuse w (-4 : Int32))), u_X_refuse w (-4 : Int32))))
set_option maxHeartbeats 4000000 in
theorem c_X_row {d : Nat} {r : Option Value} {w' : MW} (w : MW) (x1 : Int32) (x2 : Int32) (x3 : Int32) (hf : f_X_row w x1 x2 x3 = some (r, w')) : Ct (d + 1) mX_row [.ref 0, .int x1, .int x2, .int x3] w r w' := by
  refine eX_row ?_
  unfold f_X_row at hf
  refine bX_row_0 (ct := c_X_isShelf (d := d) w x1) (k := ?_)
  refine bX_row_4 (kt := fun q2 => ?_) (kf := fun q2 => ?_)
  · replace hf := ite_f q2 hf
    refine bX_row_13 (kt := fun q3 => ?_) (kf := fun q3 => ?_)
    · replace hf := ite_t q3 hf
      refine bX_row_24 (kt := fun q4 => ?_) (kf := fun q4 => ?_)
      · replace hf := ite_t q4 hf
        refine bX_row_33 (ct := c_X_refuse (d := d) w (-6 : Int32)) (k := ?_)
        obtain ⟨rfl, rfl⟩ := ret_e hf
        exact bX_row_39 
      · replace hf := ite_f q4 hf
        refine bX_row_28 (kt := fun q7 => ?_) (kf := fun q7 => ?_)
        · replace hf := ite_t q7 hf
          refine bX_row_40 (kt := fun q8 => ?_) (kf := fun q8 => ?_)
          · replace hf := ite_t q8 hf
            obtain ⟨g9_0, hf⟩ := grd_e hf
            obtain ⟨w9, e9, hf⟩ := bV_e hf
            refine bX_row_54 (y1 := 34) (y2 := 35 + 2 * x1.toNatClampNeg) (h3 := (vpb_ok g9_0)) (h4 := shr_sh (vpb_ok g9_0)) (h5 := sh_k (sh_of (vpb_ok g9_0))) (ct := c_Sh_takeRow (d := d) w (35 + 2 * x1.toNatClampNeg) x2 x3 (sh_of (vpb_ok g9_0)) e9) (k := ?_)
            obtain ⟨rfl, rfl⟩ := ret_e hf
            exact bX_row_65 
          · replace hf := ite_f q8 hf
            refine bX_row_47 (ct := c_X_refuse (d := d) w (-7 : Int32)) (k := ?_)
            obtain ⟨rfl, rfl⟩ := ret_e hf
            exact bX_row_53 
        · replace hf := ite_f q7 hf
          refine bX_row_33 (ct := c_X_refuse (d := d) w (-6 : Int32)) (k := ?_)
          obtain ⟨rfl, rfl⟩ := ret_e hf
          exact bX_row_39 
    · replace hf := ite_f q3 hf
      refine bX_row_17 (ct := c_X_refuse (d := d) w (-4 : Int32)) (k := ?_)
      obtain ⟨rfl, rfl⟩ := ret_e hf
      exact bX_row_23 
  · replace hf := ite_t q2 hf
    refine bX_row_7 (ct := c_X_refuse (d := d) w (-1 : Int32)) (k := ?_)
    obtain ⟨rfl, rfl⟩ := ret_e hf
    exact bX_row_12 
-- X_placesBy
def f_X_placesBy (w : MW) (x0 : Int32) (x1 : Int32) (x2 : Int32) (x3 : Int32) : Option RT := bI (f_X_thirds w x2 (0 : Int32) x3) (fun v1 w1 => if x0 = 1 then (bI (f_X_thirds w1 (x2 + 1) x1 x3) (fun v3 w3 => some (some (.int (v1 ||| v3)), w3))) else if x0 = 2 then (bI (f_X_missing w1 v1 x1) (fun v5 w5 => some (some (.int v5), w5))) else if x0 = 3 then (bI (f_X_span w1 x1 x3) (fun v7 w7 => some (some (.int (v1 ||| v7)), w7))) else if x0 = 4 then (bI (f_X_thirds w1 x2 (0 : Int32) (if x3 < x1 then x3 else x1)) (fun v9 w9 => bI (f_X_thirds w9 (x2 + 1) x1 x3) (fun v10 w10 => some (some (.int (v9 ||| v10)), w10)))) else if x0 = 5 then (bI (f_X_missing w1 v1 x1) (fun v12 w12 => bI (f_X_everyOther w12 v12) (fun v13 w13 => some (some (.int v13), w13)))) else if x0 = 6 then (bI (f_X_thirds w1 x2 (0 : Int32) (if x3 < x1 then x3 else x1)) (fun v15 w15 => bI (f_X_thirds w15 (x2 + 1) x1 (if x3 < 2 * x1 then x3 else 2 * x1)) (fun v16 w16 => bI (f_X_thirds w16 (x2 + 2) (2 * x1) x3) (fun v17 w17 => some (some (.int ((v15 ||| v16) ||| v17)), w17))))) else (some (some (.int v1), w1)))
set_option maxHeartbeats 4000000 in
theorem c_X_placesBy {d : Nat} {r : Option Value} {w' : MW} (w : MW) (x0 : Int32) (x1 : Int32) (x2 : Int32) (x3 : Int32) (hf : f_X_placesBy w x0 x1 x2 x3 = some (r, w')) : Ct (d + 1) mX_placesBy [.int x0, .int x1, .int x2, .int x3] w r w' := by
  refine eX_placesBy ?_
  unfold f_X_placesBy at hf
  obtain ⟨v1, w1, e1, hf⟩ := bI_e hf
  refine bX_placesBy_0 (ct := c_X_thirds (d := d) w x2 (0 : Int32) x3 e1) (k := ?_)
  refine bX_placesBy_6 (k1 := fun q2_1 => ?_) (k2 := fun q2_2 => ?_) (k3 := fun q2_3 => ?_) (k4 := fun q2_4 => ?_) (k5 := fun q2_5 => ?_) (k6 := fun q2_6 => ?_) (kd := fun q2_1 q2_2 q2_3 q2_4 q2_5 q2_6 => ?_)
  · have hq := q2_1
    replace hf := ite_t hq hf
    obtain ⟨v3, w3, e3, hf⟩ := bI_e hf
    refine bX_placesBy_48 (ct := c_X_thirds (d := d) w1 (x2 + 1) x1 x3 e3) (k := ?_)
    obtain ⟨rfl, rfl⟩ := ret_e hf
    exact bX_placesBy_58 
  · have hq := q2_2
    replace hf := ite_f (by rw [hq]; decide) hf
    replace hf := ite_t hq hf
    obtain ⟨v5, w5, e5, hf⟩ := bI_e hf
    refine bX_placesBy_69 (ct := c_X_missing (d := d) w1 v1 x1 e5) (k := ?_)
    obtain ⟨rfl, rfl⟩ := ret_e hf
    exact bX_placesBy_75 
  · have hq := q2_3
    replace hf := ite_f (by rw [hq]; decide) hf
    replace hf := ite_f (by rw [hq]; decide) hf
    replace hf := ite_t hq hf
    obtain ⟨v7, w7, e7, hf⟩ := bI_e hf
    refine bX_placesBy_60 (ct := c_X_span (d := d) w1 x1 x3 e7) (k := ?_)
    obtain ⟨rfl, rfl⟩ := ret_e hf
    exact bX_placesBy_67 
  · have hq := q2_4
    replace hf := ite_f (by rw [hq]; decide) hf
    replace hf := ite_f (by rw [hq]; decide) hf
    replace hf := ite_f (by rw [hq]; decide) hf
    replace hf := ite_t hq hf
    obtain ⟨v9, w9, e9, hf⟩ := bI_e hf
    refine bX_placesBy_86 (ct := c_X_thirds (d := d) w1 x2 (0 : Int32) (if x3 < x1 then x3 else x1) e9) (k := ?_)
    obtain ⟨v10, w10, e10, hf⟩ := bI_e hf
    refine bX_placesBy_96 (ct := c_X_thirds (d := d) w9 (x2 + 1) x1 x3 e10) (k := ?_)
    obtain ⟨rfl, rfl⟩ := ret_e hf
    exact bX_placesBy_104 
  · have hq := q2_5
    replace hf := ite_f (by rw [hq]; decide) hf
    replace hf := ite_f (by rw [hq]; decide) hf
    replace hf := ite_f (by rw [hq]; decide) hf
    replace hf := ite_f (by rw [hq]; decide) hf
    replace hf := ite_t hq hf
    obtain ⟨v12, w12, e12, hf⟩ := bI_e hf
    refine bX_placesBy_76 (ct := c_X_missing (d := d) w1 v1 x1 e12) (k := ?_)
    obtain ⟨v13, w13, e13, hf⟩ := bI_e hf
    refine bX_placesBy_82 (ct := c_X_everyOther (d := d) w12 v12 e13) (k := ?_)
    obtain ⟨rfl, rfl⟩ := ret_e hf
    exact bX_placesBy_85 
  · have hq := q2_6
    replace hf := ite_f (by rw [hq]; decide) hf
    replace hf := ite_f (by rw [hq]; decide) hf
    replace hf := ite_f (by rw [hq]; decide) hf
    replace hf := ite_f (by rw [hq]; decide) hf
    replace hf := ite_f (by rw [hq]; decide) hf
    replace hf := ite_t hq hf
    obtain ⟨v15, w15, e15, hf⟩ := bI_e hf
    refine bX_placesBy_106 (ct := c_X_thirds (d := d) w1 x2 (0 : Int32) (if x3 < x1 then x3 else x1) e15) (k := ?_)
    obtain ⟨v16, w16, e16, hf⟩ := bI_e hf
    refine bX_placesBy_116 (ct := c_X_thirds (d := d) w15 (x2 + 1) x1 (if x3 < 2 * x1 then x3 else 2 * x1) e16) (k := ?_)
    obtain ⟨v17, w17, e17, hf⟩ := bI_e hf
    refine bX_placesBy_130 (ct := c_X_thirds (d := d) w16 (x2 + 2) (2 * x1) x3 e17) (k := ?_)
    obtain ⟨rfl, rfl⟩ := ret_e hf
    exact bX_placesBy_141 
  · replace hf := ite_f q2_1 hf
    replace hf := ite_f q2_2 hf
    replace hf := ite_f q2_3 hf
    replace hf := ite_f q2_4 hf
    replace hf := ite_f q2_5 hf
    replace hf := ite_f q2_6 hf
    obtain ⟨rfl, rfl⟩ := ret_e hf
    exact bX_placesBy_143 
-- X_say
def f_X_say_58 : Nat → MW → Int32 → Nat → Int32 → Option RT
  | 0, _, _, _, _ => none
  | n + 1, w, x2, a4, x5 => if x2 ≤ x5 then (some (some (.int x2), w)) else (grd (¬ x5 < 0 → ¬ (w.1 a4 1) ≤ x5 → vpb x5 160 = true) (grd ((w.1 1 3) < 30 → vpb (w.1 1 3) 30 = true) (f_X_say_58 n (u_Ct_addWord w 1 (v_Sh_asInt w a4 x5)) x2 a4 (x5 + 1))))
set_option maxHeartbeats 4000000 in
theorem r_X_say_58 {d : Nat} {r : Option Value} {w' : MW} : ∀ (n : Nat) (w : MW) (x2 : Int32) (a4 : Nat) (x5 : Int32), isSh a4 → f_X_say_58 n w x2 a4 x5 = some (r, w') → Rn (d + 3) mX_say 58 [some (.ref 0), none, some (.int x2), none, some (.ref a4), some (.int x5)] [] w r w' := by
  intro n
  induction n with
  | zero =>
    intro w x2 a4 x5 c4 hf
    cases hf
  | succ n ih =>
    intro w x2 a4 x5 c4 hf
    rw [f_X_say_58] at hf
    refine bX_say_58 (kt := fun q1 => ?_) (kf := fun q1 => ?_)
    · replace hf := ite_t q1 hf
      obtain ⟨rfl, rfl⟩ := ret_e hf
      exact bX_say_84 
    · replace hf := ite_f q1 hf
      obtain ⟨g3_0, hf⟩ := grd_e hf
      refine bX_say_64 (y1 := 1) (h2 := sh_k c4) (ct := c_Sh_asInt (d := d + 2) w a4 x5 c4 (fun z0 z1 => vpb_ok (g3_0 z0 z1))) (k := ?_)
      obtain ⟨g4_0, hf⟩ := grd_e hf
      refine bX_say_75 (ct := c_Ct_addWord (d := d + 2) w 1 (v_Sh_asInt w a4 x5) ct1 (fun z0 => vpb_ok (g4_0 z0))) (k := ?_)
      refine bX_say_78 (k := ?_)
      exact ih (u_Ct_addWord w 1 (v_Sh_asInt w a4 x5)) x2 a4 (x5 + 1) c4 hf
def f_X_say (w : MW) (x1 : Int32) (x2 : Int32) : Option RT := grd ((v_X_rowRefusal w x1) = 0 → 0 ≤ x2 → vpb x1 8 = true) (if (v_X_tellRefusal w x1 x2) = 0 then (grd (vpb x1 8 = true) (if 30 < x2 then (some (some (.int (v_X_refuse w (-6 : Int32))), u_X_refuse w (-6 : Int32))) else (bI (f_Sh_firstWrong w (35 + 2 * x1.toNatClampNeg) x2) (fun v6 w6 => if v6 = (-1) then (f_X_say_58 FU (u_Ct_hushWords w6 1) x2 (35 + 2 * x1.toNatClampNeg) (0 : Int32)) else (some (some (.int (v_X_refuse w6 (-6 : Int32))), u_X_refuse w6 (-6 : Int32))))))) else (some (some (.int (v_X_refuse w (v_X_tellRefusal w x1 x2))), u_X_refuse w (v_X_tellRefusal w x1 x2))))
set_option maxHeartbeats 4000000 in
theorem c_X_say {d : Nat} {r : Option Value} {w' : MW} (w : MW) (x1 : Int32) (x2 : Int32) (hf : f_X_say w x1 x2 = some (r, w')) : Ct (d + 3) mX_say [.ref 0, .int x1, .int x2] w r w' := by
  refine eX_say ?_
  unfold f_X_say at hf
  obtain ⟨g1_0, hf⟩ := grd_e hf
  refine bX_say_0 (ct := c_X_tellRefusal (d := d) w x1 x2 (fun z0 z1 => vpb_ok (g1_0 z0 z1))) (k := ?_)
  refine bX_say_6 (kt := fun q2 => ?_) (kf := fun q2 => ?_)
  · replace hf := ite_t q2 hf
    obtain ⟨g3_0, hf⟩ := grd_e hf
    refine bX_say_17 (y1 := 34) (y2 := 35 + 2 * x1.toNatClampNeg) (h3 := (vpb_ok g3_0)) (h4 := shr_sh (vpb_ok g3_0)) (kt := fun q3 => ?_) (kf := fun q3 => ?_)
    · replace hf := ite_t q3 hf
      refine bX_say_41 (ct := c_X_refuse (d := d + 2) w (-6 : Int32)) (k := ?_)
      obtain ⟨rfl, rfl⟩ := ret_e hf
      exact bX_say_47 
    · replace hf := ite_f q3 hf
      obtain ⟨v6, w6, e6, hf⟩ := bI_e hf
      refine bX_say_31 (h1 := sh_k (sh_of (vpb_ok g3_0))) (ct := c_Sh_firstWrong (d := d + 1) w (35 + 2 * x1.toNatClampNeg) x2 (sh_of (vpb_ok g3_0)) e6) (k := ?_)
      refine bX_say_37 (kt := fun q7 => ?_) (kf := fun q7 => ?_)
      · replace hf := ite_t q7 hf
        refine bX_say_48 (y1 := 1) (ct := c_Ct_hushWords (d := d + 2) w6 1 ct1) (k := ?_)
        refine bX_say_55 (k := ?_)
        exact r_X_say_58 FU (u_Ct_hushWords w6 1) x2 (35 + 2 * x1.toNatClampNeg) (0 : Int32) ((sh_of (vpb_ok g3_0))) hf
      · replace hf := ite_f q7 hf
        refine bX_say_41 (ct := c_X_refuse (d := d + 2) w6 (-6 : Int32)) (k := ?_)
        obtain ⟨rfl, rfl⟩ := ret_e hf
        exact bX_say_47 
  · replace hf := ite_f q2 hf
    refine bX_say_11 (ct := c_X_refuse (d := d + 2) w (v_X_tellRefusal w x1 x2)) (k := ?_)
    obtain ⟨rfl, rfl⟩ := ret_e hf
    exact bX_say_16 
-- Rd_readMan
def f_Rd_readMan (w : MW) (a1 : Nat) : Option RT := bI (f_Rd_takeNumber w a1 (7 : Int32)) (fun v1 w1 => bI (f_Rd_takeNumber w1 a1 (10 : Int32)) (fun v2 w2 => bI (f_Rd_takeNumber w2 a1 (3 : Int32)) (fun v3 w3 => if (w3.1 52 3) = (-1) then (grd ((w3.1 23 1) < 8 → vpb (w3.1 23 1) 8 = true) (some (none, u_Ct_addMan w3 23 v1 v2 v3))) else (some (none, w3)))))
set_option maxHeartbeats 4000000 in
theorem c_Rd_readMan {d : Nat} {r : Option Value} {w' : MW} (w : MW) (a1 : Nat) (c1 : isSh a1) (hf : f_Rd_readMan w a1 = some (r, w')) : Ct (d + 3) mRd_readMan [.ref 52, .ref a1] w r w' := by
  refine eRd_readMan ?_
  unfold f_Rd_readMan at hf
  obtain ⟨v1, w1, e1, hf⟩ := bI_e hf
  refine bRd_readMan_0 (ct := c_Rd_takeNumber (d := d) w a1 (7 : Int32) c1 e1) (k := ?_)
  obtain ⟨v2, w2, e2, hf⟩ := bI_e hf
  refine bRd_readMan_7 (ct := c_Rd_takeNumber (d := d) w1 a1 (10 : Int32) c1 e2) (k := ?_)
  obtain ⟨v3, w3, e3, hf⟩ := bI_e hf
  refine bRd_readMan_15 (ct := c_Rd_takeNumber (d := d) w2 a1 (3 : Int32) c1 e3) (k := ?_)
  refine bRd_readMan_22 (kt := fun q4 => ?_) (kf := fun q4 => ?_)
  · replace hf := ite_f q4 hf
    obtain ⟨rfl, rfl⟩ := ret_e hf
    exact bRd_readMan_43 
  · replace hf := ite_t q4 hf
    obtain ⟨g6_0, hf⟩ := grd_e hf
    refine bRd_readMan_32 (y1 := 23) (ct := c_Ct_addMan (d := d + 1) w3 23 v1 v2 v3 ct23 (fun z0 => vpb_ok (g6_0 z0))) (k := ?_)
    obtain ⟨rfl, rfl⟩ := ret_e hf
    exact bRd_readMan_43 
-- Co_ride
def f_Co_ride_2 : Nat → MW → Int32 → Int32 → Option RT
  | 0, _, _, _ => none
  | n + 1, w, x1, x2 => if x1 ≤ x2 then (some (none, w)) else (bV (f_Co_rideOnce w ) (fun w3 => f_Co_ride_2 n w3 x1 (x2 + 1)))
set_option maxHeartbeats 4000000 in
theorem r_Co_ride_2 {d : Nat} {r : Option Value} {w' : MW} : ∀ (n : Nat) (w : MW) (x1 : Int32) (x2 : Int32), f_Co_ride_2 n w x1 x2 = some (r, w') → Rn (d + 1) mCo_ride 2 [some (.ref 53), some (.int x1), some (.int x2)] [] w r w' := by
  intro n
  induction n with
  | zero =>
    intro w x1 x2 hf
    cases hf
  | succ n ih =>
    intro w x1 x2 hf
    rw [f_Co_ride_2] at hf
    refine bCo_ride_2 (kt := fun q1 => ?_) (kf := fun q1 => ?_)
    · replace hf := ite_t q1 hf
      obtain ⟨rfl, rfl⟩ := ret_e hf
      exact bCo_ride_17 
    · replace hf := ite_f q1 hf
      obtain ⟨w3, e3, hf⟩ := bV_e hf
      refine bCo_ride_7 (ct := c_Co_rideOnce (d := d) w e3) (k := ?_)
      refine bCo_ride_11 (k := ?_)
      exact ih w3 x1 (x2 + 1) hf
def f_Co_ride (w : MW) (x1 : Int32) : Option RT := f_Co_ride_2 FU w x1 (0 : Int32)
set_option maxHeartbeats 4000000 in
theorem c_Co_ride {d : Nat} {r : Option Value} {w' : MW} (w : MW) (x1 : Int32) (hf : f_Co_ride w x1 = some (r, w')) : Ct (d + 1) mCo_ride [.ref 53, .int x1] w r w' := by
  refine eCo_ride ?_
  unfold f_Co_ride at hf
  refine bCo_ride_0 (k := ?_)
  exact r_Co_ride_2 FU w x1 (0 : Int32) hf
-- Ct_senseOf
def f_Ct_senseOf (w : MW) (a0 : Nat) (x1 : Int32) : Option RT := bI (f_X_senseIn w (a0 + 10) (w.1 a0 3) x1) (fun v1 w1 => some (some (.int v1), w1))
set_option maxHeartbeats 4000000 in
theorem c_Ct_senseOf {d : Nat} {r : Option Value} {w' : MW} (w : MW) (a0 : Nat) (x1 : Int32) (c0 : isCt a0) (hf : f_Ct_senseOf w a0 x1 = some (r, w')) : Ct (d + 1) mCt_senseOf [.ref a0, .int x1] w r w' := by
  refine eCt_senseOf ?_
  unfold f_Ct_senseOf at hf
  obtain ⟨v1, w1, e1, hf⟩ := bI_e hf
  refine bCt_senseOf_0 (y1 := a0 + 10) (h1 := ct_r2 c0) (h2 := ct_g3 c0) (ct := c_X_senseIn (d := d) w (a0 + 10) (w.1 a0 3) x1 ⟨ct_k10 c0, ct_l30 c0⟩ e1) (k := ?_)
  obtain ⟨rfl, rfl⟩ := ret_e hf
  exact bCt_senseOf_12 
-- Ct_wholeSense
def f_Ct_wholeSense (w : MW) (a0 : Nat) : Option RT := bI (f_X_span w (0 : Int32) (w.1 a0 3)) (fun v1 w1 => bI (f_Ct_senseOf w1 a0 v1) (fun v2 w2 => some (some (.int v2), w2)))
set_option maxHeartbeats 4000000 in
theorem c_Ct_wholeSense {d : Nat} {r : Option Value} {w' : MW} (w : MW) (a0 : Nat) (c0 : isCt a0) (hf : f_Ct_wholeSense w a0 = some (r, w')) : Ct (d + 2) mCt_wholeSense [.ref a0] w r w' := by
  refine eCt_wholeSense ?_
  unfold f_Ct_wholeSense at hf
  obtain ⟨v1, w1, e1, hf⟩ := bI_e hf
  refine bCt_wholeSense_0 (h1 := ct_g3 c0) (ct := c_X_span (d := d + 1) w (0 : Int32) (w.1 a0 3) e1) (k := ?_)
  obtain ⟨v2, w2, e2, hf⟩ := bI_e hf
  refine bCt_wholeSense_9 (h1 := ct_k c0) (ct := c_Ct_senseOf (d := d) w1 a0 v1 c0 e2) (k := ?_)
  obtain ⟨rfl, rfl⟩ := ret_e hf
  exact bCt_wholeSense_12 
-- Cl_isSure
def f_Cl_isSure_87 (a1 : Nat) (k65 : MW → Int32 → Int32 → Int32 → Int32 → Int32 → Option RT) : Nat → MW → Int32 → Int32 → Int32 → Int32 → Int32 → Int32 → Option RT
  | 0, _, _, _, _, _, _, _ => none
  | n + 1, w, x2, x3, x4, x5, x6, x7 => if 3 < x7 then (k65 w x2 x3 x4 x5 (x6 + 1)) else (grd (vpb x6 30 = true) (bI (f_X_senseIn (setI w 58 x6.toNatClampNeg x7) 58 x3 x4) (fun v3 w3 => if v3 = x5 then (f_Cl_isSure_87 a1 k65 n w3 x2 x3 x4 x5 x6 (x7 + 1)) else (some (some (.int (0 : Int32)), w3)))))
set_option maxHeartbeats 4000000 in
theorem r_Cl_isSure_87 {d : Nat} {r : Option Value} {w' : MW} (a1 : Nat) (c1 : isCt a1) (k65 : MW → Int32 → Int32 → Int32 → Int32 → Int32 → Option RT) (hk65 : ∀ w x2 x3 x4 x5 x6, k65 w x2 x3 x4 x5 x6 = some (r, w') → Rn (d + 2) mCl_isSure 65 [some (.ref 57), none, some (.int x2), some (.int x3), some (.int x4), some (.int x5), some (.int x6), none] [] w r w') : ∀ (n : Nat) (w : MW) (x2 : Int32) (x3 : Int32) (x4 : Int32) (x5 : Int32) (x6 : Int32) (x7 : Int32), f_Cl_isSure_87 a1 k65 n w x2 x3 x4 x5 x6 x7 = some (r, w') → Rn (d + 2) mCl_isSure 87 [some (.ref 57), none, some (.int x2), some (.int x3), some (.int x4), some (.int x5), some (.int x6), some (.int x7)] [] w r w' := by
  intro n
  induction n with
  | zero =>
    intro w x2 x3 x4 x5 x6 x7 hf
    cases hf
  | succ n ih =>
    intro w x2 x3 x4 x5 x6 x7 hf
    rw [f_Cl_isSure_87] at hf
    refine bCl_isSure_87 (kt := fun q1 => ?_) (kf := fun q1 => ?_)
    · replace hf := ite_t q1 hf
      refine bCl_isSure_125 (k := ?_)
      exact hk65 w x2 x3 x4 x5 (x6 + 1) hf
    · replace hf := ite_f q1 hf
      obtain ⟨g3_0, hf⟩ := grd_e hf
      obtain ⟨v3, w3, e3, hf⟩ := bI_e hf
      refine bCl_isSure_93 (y1 := 58) (h3 := (vpb_ok g3_0)) (y2 := 58) (ct := c_X_senseIn (d := d + 1) (setI w 58 x6.toNatClampNeg x7) 58 x3 x4 ⟨rfl, rfl⟩ e3) (k := ?_)
      refine bCl_isSure_112 (kt := fun q4 => ?_) (kf := fun q4 => ?_)
      · replace hf := ite_t q4 hf
        refine bCl_isSure_119 (k := ?_)
        exact ih w3 x2 x3 x4 x5 x6 (x7 + 1) hf
      · replace hf := ite_f q4 hf
        obtain ⟨rfl, rfl⟩ := ret_e hf
        exact bCl_isSure_117 
def f_Cl_isSure_65 (a1 : Nat) : Nat → MW → Int32 → Int32 → Int32 → Int32 → Int32 → Option RT
  | 0, _, _, _, _, _, _ => none
  | n + 1, w, x2, x3, x4, x5, x6 => if x3 ≤ x6 then (some (some (.int (1 : Int32)), w)) else (if ((ush x2 x6) &&& 1) = 1 then (f_Cl_isSure_65 a1 n w x2 x3 x4 x5 (x6 + 1)) else (f_Cl_isSure_87 a1 (fun w x2 x3 x4 x5 x6 => f_Cl_isSure_65 a1 n w x2 x3 x4 x5 x6) FU w x2 x3 x4 x5 x6 (0 : Int32)))
set_option maxHeartbeats 4000000 in
theorem r_Cl_isSure_65 {d : Nat} {r : Option Value} {w' : MW} (a1 : Nat) (c1 : isCt a1) : ∀ (n : Nat) (w : MW) (x2 : Int32) (x3 : Int32) (x4 : Int32) (x5 : Int32) (x6 : Int32), f_Cl_isSure_65 a1 n w x2 x3 x4 x5 x6 = some (r, w') → Rn (d + 2) mCl_isSure 65 [some (.ref 57), none, some (.int x2), some (.int x3), some (.int x4), some (.int x5), some (.int x6), none] [] w r w' := by
  intro n
  induction n with
  | zero =>
    intro w x2 x3 x4 x5 x6 hf
    cases hf
  | succ n ih =>
    intro w x2 x3 x4 x5 x6 hf
    rw [f_Cl_isSure_65] at hf
    refine bCl_isSure_65 (kt := fun q1 => ?_) (kf := fun q1 => ?_)
    · replace hf := ite_t q1 hf
      obtain ⟨rfl, rfl⟩ := ret_e hf
      exact bCl_isSure_131 
    · replace hf := ite_f q1 hf
      refine bCl_isSure_71 (kt := fun q3 => ?_) (kf := fun q3 => ?_)
      · replace hf := ite_f q3 hf
        refine bCl_isSure_84 (k := ?_)
        exact r_Cl_isSure_87 a1 c1 (fun w x2 x3 x4 x5 x6 => f_Cl_isSure_65 a1 n w x2 x3 x4 x5 x6) ih FU w x2 x3 x4 x5 x6 (0 : Int32) hf
      · replace hf := ite_t q3 hf
        refine bCl_isSure_81 (k := ?_)
        refine bCl_isSure_125 (k := ?_)
        exact ih w x2 x3 x4 x5 (x6 + 1) hf
def f_Cl_isSure_22 (a1 : Nat) : Nat → MW → Int32 → Int32 → Int32 → Int32 → Int32 → Option RT
  | 0, _, _, _, _, _, _ => none
  | n + 1, w, x2, x3, x4, x5, x6 => if x3 ≤ x6 then (f_Cl_isSure_65 a1 FU w x2 x3 x4 x5 (0 : Int32)) else (if ((ush x2 x6) &&& 1) = 1 then (grd (vpb x6 30 = true) (grd (vpb x6 30 = true) (f_Cl_isSure_22 a1 n (setI w 58 x6.toNatClampNeg (w.1 (a1 + 10) x6.toNatClampNeg)) x2 x3 x4 x5 (x6 + 1)))) else (grd (vpb x6 30 = true) (f_Cl_isSure_22 a1 n (setI w 58 x6.toNatClampNeg 3) x2 x3 x4 x5 (x6 + 1))))
set_option maxHeartbeats 4000000 in
theorem r_Cl_isSure_22 {d : Nat} {r : Option Value} {w' : MW} (a1 : Nat) (c1 : isCt a1) : ∀ (n : Nat) (w : MW) (x2 : Int32) (x3 : Int32) (x4 : Int32) (x5 : Int32) (x6 : Int32), f_Cl_isSure_22 a1 n w x2 x3 x4 x5 x6 = some (r, w') → Rn (d + 2) mCl_isSure 22 [some (.ref 57), some (.ref a1), some (.int x2), some (.int x3), some (.int x4), some (.int x5), some (.int x6), none] [] w r w' := by
  intro n
  induction n with
  | zero =>
    intro w x2 x3 x4 x5 x6 hf
    cases hf
  | succ n ih =>
    intro w x2 x3 x4 x5 x6 hf
    rw [f_Cl_isSure_22] at hf
    refine bCl_isSure_22 (kt := fun q1 => ?_) (kf := fun q1 => ?_)
    · replace hf := ite_t q1 hf
      refine bCl_isSure_62 (k := ?_)
      exact r_Cl_isSure_65 a1 c1 FU w x2 x3 x4 x5 (0 : Int32) hf
    · replace hf := ite_f q1 hf
      refine bCl_isSure_28 (y1 := 58) (kt := fun q3 => ?_) (kf := fun q3 => ?_)
      · replace hf := ite_f q3 hf
        refine bCl_isSure_54 (k := ?_)
        obtain ⟨g5_0, hf⟩ := grd_e hf
        refine bCl_isSure_55 (h2 := (vpb_ok g5_0)) (k := ?_)
        exact ih (setI w 58 x6.toNatClampNeg 3) x2 x3 x4 x5 (x6 + 1) hf
      · replace hf := ite_t q3 hf
        obtain ⟨g6_0, hf⟩ := grd_e hf
        refine bCl_isSure_44 (y1 := a1 + 10) (h1 := ct_r2 c1) (h2 := Or.inl (ct_k10 c1)) (h3 := al_in (ct_k10 c1) (ct_l30 c1) (vpb_ok g6_0)) (k := ?_)
        obtain ⟨g7_0, hf⟩ := grd_e hf
        refine bCl_isSure_55 (h2 := (vpb_ok g7_0)) (k := ?_)
        exact ih (setI w 58 x6.toNatClampNeg (w.1 (a1 + 10) x6.toNatClampNeg)) x2 x3 x4 x5 (x6 + 1) hf
def f_Cl_isSure (w : MW) (a1 : Nat) (x2 : Int32) : Option RT := bI (f_X_span w (0 : Int32) (w.1 a1 3)) (fun v1 w1 => bI (f_Ct_senseOf w1 a1 x2) (fun v2 w2 => f_Cl_isSure_22 a1 FU w2 x2 (w.1 a1 3) v1 v2 (0 : Int32)))
set_option maxHeartbeats 4000000 in
theorem c_Cl_isSure {d : Nat} {r : Option Value} {w' : MW} (w : MW) (a1 : Nat) (x2 : Int32) (c1 : isCt a1) (hf : f_Cl_isSure w a1 x2 = some (r, w')) : Ct (d + 2) mCl_isSure [.ref 57, .ref a1, .int x2] w r w' := by
  refine eCl_isSure ?_
  unfold f_Cl_isSure at hf
  obtain ⟨v1, w1, e1, hf⟩ := bI_e hf
  refine bCl_isSure_0 (h1 := ct_g3 c1) (ct := c_X_span (d := d + 1) w (0 : Int32) (w.1 a1 3) e1) (k := ?_)
  obtain ⟨v2, w2, e2, hf⟩ := bI_e hf
  refine bCl_isSure_10 (h1 := ct_k c1) (ct := c_Ct_senseOf (d := d) w1 a1 x2 c1 e2) (k := ?_)
  refine bCl_isSure_17 (k := ?_)
  exact r_Cl_isSure_22 a1 c1 FU w2 x2 (w.1 a1 3) v1 v2 (0 : Int32) hf
-- Co_roundsUntilWhole
def f_Co_roundsUntilWhole_23 (a1 : Nat) : Nat → MW → Int32 → Int32 → Int32 → Option RT
  | 0, _, _, _, _ => none
  | n + 1, w, x2, x3, x4 => if 9 < x4 then (some (some (.int (-1 : Int32)), w)) else (grd (vpb x2 8 = true) (bI (f_Ct_senseOf w a1 (w.1 54 x2.toNatClampNeg)) (fun v3 w3 => if v3 = x3 then (some (some (.int x4), w3)) else (bV (f_Co_rideOnce w3 ) (fun w5 => f_Co_roundsUntilWhole_23 a1 n w5 x2 x3 (x4 + 1))))))
set_option maxHeartbeats 4000000 in
theorem r_Co_roundsUntilWhole_23 {d : Nat} {r : Option Value} {w' : MW} (a1 : Nat) (c1 : isCt a1) : ∀ (n : Nat) (w : MW) (x2 : Int32) (x3 : Int32) (x4 : Int32), f_Co_roundsUntilWhole_23 a1 n w x2 x3 x4 = some (r, w') → Rn (d + 3) mCo_roundsUntilWhole 23 [some (.ref 53), some (.ref a1), some (.int x2), some (.int x3), some (.int x4)] [] w r w' := by
  intro n
  induction n with
  | zero =>
    intro w x2 x3 x4 hf
    cases hf
  | succ n ih =>
    intro w x2 x3 x4 hf
    rw [f_Co_roundsUntilWhole_23] at hf
    refine bCo_roundsUntilWhole_23 (kt := fun q1 => ?_) (kf := fun q1 => ?_)
    · replace hf := ite_t q1 hf
      obtain ⟨rfl, rfl⟩ := ret_e hf
      exact bCo_roundsUntilWhole_57 
    · replace hf := ite_f q1 hf
      obtain ⟨g3_0, hf⟩ := grd_e hf
      obtain ⟨v3, w3, e3, hf⟩ := bI_e hf
      refine bCo_roundsUntilWhole_30 (y1 := 54) (h3 := (vpb_ok g3_0)) (h4 := ct_k c1) (ct := c_Ct_senseOf (d := d + 1) w a1 (w.1 54 x2.toNatClampNeg) c1 e3) (k := ?_)
      refine bCo_roundsUntilWhole_40 (kt := fun q4 => ?_) (kf := fun q4 => ?_)
      · replace hf := ite_f q4 hf
        obtain ⟨w5, e5, hf⟩ := bV_e hf
        refine bCo_roundsUntilWhole_47 (ct := c_Co_rideOnce (d := d + 2) w3 e5) (k := ?_)
        refine bCo_roundsUntilWhole_51 (k := ?_)
        exact ih w5 x2 x3 (x4 + 1) hf
      · replace hf := ite_t q4 hf
        obtain ⟨rfl, rfl⟩ := ret_e hf
        exact bCo_roundsUntilWhole_44 
def f_Co_roundsUntilWhole (w : MW) (a1 : Nat) (x2 : Int32) : Option RT := bI (f_Ct_wholeSense w a1) (fun v1 w1 => if v1 = (-1) then (some (some (.int (-1 : Int32)), w1)) else (if (v_Ct_isMan w1 a1 x2) = 0 then (some (some (.int (-1 : Int32)), w1)) else (f_Co_roundsUntilWhole_23 a1 FU w1 x2 v1 (0 : Int32))))
set_option maxHeartbeats 4000000 in
theorem c_Co_roundsUntilWhole {d : Nat} {r : Option Value} {w' : MW} (w : MW) (a1 : Nat) (x2 : Int32) (c1 : isCt a1) (hf : f_Co_roundsUntilWhole w a1 x2 = some (r, w')) : Ct (d + 3) mCo_roundsUntilWhole [.ref 53, .ref a1, .int x2] w r w' := by
  refine eCo_roundsUntilWhole ?_
  unfold f_Co_roundsUntilWhole at hf
  obtain ⟨v1, w1, e1, hf⟩ := bI_e hf
  refine bCo_roundsUntilWhole_0 (h1 := ct_k c1) (ct := c_Ct_wholeSense (d := d) w a1 c1 e1) (k := ?_)
  refine bCo_roundsUntilWhole_4 (kt := fun q2 => ?_) (kf := fun q2 => ?_)
  · replace hf := ite_t q2 hf
    obtain ⟨rfl, rfl⟩ := ret_e hf
    exact bCo_roundsUntilWhole_18 
  · replace hf := ite_f q2 hf
    refine bCo_roundsUntilWhole_10 (h1 := ct_k c1) (ct := c_Ct_isMan (d := d + 2) w1 a1 x2 c1) (k := ?_)
    refine bCo_roundsUntilWhole_15 (kt := fun q5 => ?_) (kf := fun q5 => ?_)
    · replace hf := ite_f q5 hf
      refine bCo_roundsUntilWhole_20 (k := ?_)
      exact r_Co_roundsUntilWhole_23 a1 c1 FU w1 x2 v1 (0 : Int32) hf
    · replace hf := ite_t q5 hf
      obtain ⟨rfl, rfl⟩ := ret_e hf
      exact bCo_roundsUntilWhole_18 
-- Co_falseOnes
def f_Co_falseOnes_10 (a1 : Nat) : Nat → MW → Int32 → Int32 → Int32 → Option RT
  | 0, _, _, _, _ => none
  | n + 1, w, x2, x3, x4 => if (w.1 53 3) ≤ x4 then (some (some (.int x3), w)) else (grd (vpb x4 8 = true) (bI (f_Ct_senseOf w a1 (w.1 54 x4.toNatClampNeg)) (fun v3 w3 => if v3 = (-1) then (f_Co_falseOnes_10 a1 n w3 x2 x3 (x4 + 1)) else (if v3 = x2 then (f_Co_falseOnes_10 a1 n w3 x2 x3 (x4 + 1)) else (f_Co_falseOnes_10 a1 n w3 x2 (x3 ||| ((1 : Int32) <<< (x4 &&& 31))) (x4 + 1))))))
set_option maxHeartbeats 4000000 in
theorem r_Co_falseOnes_10 {d : Nat} {r : Option Value} {w' : MW} (a1 : Nat) (c1 : isCt a1) : ∀ (n : Nat) (w : MW) (x2 : Int32) (x3 : Int32) (x4 : Int32), f_Co_falseOnes_10 a1 n w x2 x3 x4 = some (r, w') → Rn (d + 3) mCo_falseOnes 10 [some (.ref 53), some (.ref a1), some (.int x2), some (.int x3), some (.int x4), none] [] w r w' := by
  intro n
  induction n with
  | zero =>
    intro w x2 x3 x4 hf
    cases hf
  | succ n ih =>
    intro w x2 x3 x4 hf
    rw [f_Co_falseOnes_10] at hf
    refine bCo_falseOnes_10 (kt := fun q1 => ?_) (kf := fun q1 => ?_)
    · replace hf := ite_t q1 hf
      obtain ⟨rfl, rfl⟩ := ret_e hf
      exact bCo_falseOnes_57 
    · replace hf := ite_f q1 hf
      obtain ⟨g3_0, hf⟩ := grd_e hf
      obtain ⟨v3, w3, e3, hf⟩ := bI_e hf
      refine bCo_falseOnes_19 (y1 := 54) (h3 := (vpb_ok g3_0)) (h4 := ct_k c1) (ct := c_Ct_senseOf (d := d + 1) w a1 (w.1 54 x4.toNatClampNeg) c1 e3) (k := ?_)
      refine bCo_falseOnes_30 (kt := fun q4 => ?_) (kf := fun q4 => ?_)
      · replace hf := ite_t q4 hf
        refine bCo_falseOnes_51 (k := ?_)
        exact ih w3 x2 x3 (x4 + 1) hf
      · replace hf := ite_f q4 hf
        refine bCo_falseOnes_38 (kt := fun q6 => ?_) (kf := fun q6 => ?_)
        · replace hf := ite_t q6 hf
          refine bCo_falseOnes_51 (k := ?_)
          exact ih w3 x2 x3 (x4 + 1) hf
        · replace hf := ite_f q6 hf
          refine bCo_falseOnes_44 (k := ?_)
          refine bCo_falseOnes_51 (k := ?_)
          exact ih w3 x2 (x3 ||| ((1 : Int32) <<< (x4 &&& 31))) (x4 + 1) hf
def f_Co_falseOnes (w : MW) (a1 : Nat) : Option RT := bI (f_Ct_wholeSense w a1) (fun v1 w1 => f_Co_falseOnes_10 a1 FU w1 v1 (0 : Int32) (0 : Int32))
set_option maxHeartbeats 4000000 in
theorem c_Co_falseOnes {d : Nat} {r : Option Value} {w' : MW} (w : MW) (a1 : Nat) (c1 : isCt a1) (hf : f_Co_falseOnes w a1 = some (r, w')) : Ct (d + 3) mCo_falseOnes [.ref 53, .ref a1] w r w' := by
  refine eCo_falseOnes ?_
  unfold f_Co_falseOnes at hf
  obtain ⟨v1, w1, e1, hf⟩ := bI_e hf
  refine bCo_falseOnes_0 (h1 := ct_k c1) (ct := c_Ct_wholeSense (d := d) w a1 c1 e1) (k := ?_)
  refine bCo_falseOnes_4 (k := ?_)
  exact r_Co_falseOnes_10 a1 c1 FU w1 v1 (0 : Int32) (0 : Int32) hf
-- Co_howManyHaveWhole
def f_Co_howManyHaveWhole_17 (a1 : Nat) : Nat → MW → Int32 → Int32 → Int32 → Option RT
  | 0, _, _, _, _ => none
  | n + 1, w, x2, x3, x4 => if (w.1 53 3) ≤ x4 then (some (some (.int x3), w)) else (grd (vpb x4 8 = true) (bI (f_Ct_senseOf w a1 (w.1 54 x4.toNatClampNeg)) (fun v3 w3 => if v3 = x2 then (f_Co_howManyHaveWhole_17 a1 n w3 x2 (x3 + 1) (x4 + 1)) else (f_Co_howManyHaveWhole_17 a1 n w3 x2 x3 (x4 + 1)))))
set_option maxHeartbeats 4000000 in
theorem r_Co_howManyHaveWhole_17 {d : Nat} {r : Option Value} {w' : MW} (a1 : Nat) (c1 : isCt a1) : ∀ (n : Nat) (w : MW) (x2 : Int32) (x3 : Int32) (x4 : Int32), f_Co_howManyHaveWhole_17 a1 n w x2 x3 x4 = some (r, w') → Rn (d + 3) mCo_howManyHaveWhole 17 [some (.ref 53), some (.ref a1), some (.int x2), some (.int x3), some (.int x4)] [] w r w' := by
  intro n
  induction n with
  | zero =>
    intro w x2 x3 x4 hf
    cases hf
  | succ n ih =>
    intro w x2 x3 x4 hf
    rw [f_Co_howManyHaveWhole_17] at hf
    refine bCo_howManyHaveWhole_17 (kt := fun q1 => ?_) (kf := fun q1 => ?_)
    · replace hf := ite_t q1 hf
      obtain ⟨rfl, rfl⟩ := ret_e hf
      exact bCo_howManyHaveWhole_50 
    · replace hf := ite_f q1 hf
      obtain ⟨g3_0, hf⟩ := grd_e hf
      obtain ⟨v3, w3, e3, hf⟩ := bI_e hf
      refine bCo_howManyHaveWhole_26 (y1 := 54) (h3 := (vpb_ok g3_0)) (h4 := ct_k c1) (ct := c_Ct_senseOf (d := d + 1) w a1 (w.1 54 x4.toNatClampNeg) c1 e3) (k := ?_)
      refine bCo_howManyHaveWhole_37 (kt := fun q4 => ?_) (kf := fun q4 => ?_)
      · replace hf := ite_f q4 hf
        refine bCo_howManyHaveWhole_44 (k := ?_)
        exact ih w3 x2 x3 (x4 + 1) hf
      · replace hf := ite_t q4 hf
        refine bCo_howManyHaveWhole_41 (k := ?_)
        refine bCo_howManyHaveWhole_44 (k := ?_)
        exact ih w3 x2 (x3 + 1) (x4 + 1) hf
def f_Co_howManyHaveWhole (w : MW) (a1 : Nat) : Option RT := bI (f_Ct_wholeSense w a1) (fun v1 w1 => if v1 = (-1) then (some (some (.int (0 : Int32)), w1)) else (f_Co_howManyHaveWhole_17 a1 FU w1 v1 (0 : Int32) (0 : Int32)))
set_option maxHeartbeats 4000000 in
theorem c_Co_howManyHaveWhole {d : Nat} {r : Option Value} {w' : MW} (w : MW) (a1 : Nat) (c1 : isCt a1) (hf : f_Co_howManyHaveWhole w a1 = some (r, w')) : Ct (d + 3) mCo_howManyHaveWhole [.ref 53, .ref a1] w r w' := by
  refine eCo_howManyHaveWhole ?_
  unfold f_Co_howManyHaveWhole at hf
  obtain ⟨v1, w1, e1, hf⟩ := bI_e hf
  refine bCo_howManyHaveWhole_0 (h1 := ct_k c1) (ct := c_Ct_wholeSense (d := d) w a1 c1 e1) (k := ?_)
  refine bCo_howManyHaveWhole_4 (kt := fun q2 => ?_) (kf := fun q2 => ?_)
  · replace hf := ite_f q2 hf
    refine bCo_howManyHaveWhole_12 (k := ?_)
    exact r_Co_howManyHaveWhole_17 a1 c1 FU w1 v1 (0 : Int32) (0 : Int32) hf
  · replace hf := ite_t q2 hf
    obtain ⟨rfl, rfl⟩ := ret_e hf
    exact bCo_howManyHaveWhole_10 
-- Cl_shortestFor
def f_Cl_shortestFor_17 (a1 : Nat) (a2 : Nat) (k5 : MW → Int32 → Int32 → Option RT) : Nat → MW → Int32 → Int32 → Int64 → Int32 → Option RT
  | 0, _, _, _, _, _ => none
  | n + 1, w, x3, x4, z5, x7 => if (w.1 a1 1) ≤ x7 then (bI (f_JL_bitCount w z5) (fun v2 w2 => if v2 ≤ 0 then (k5 w2 x3 (x4 + 1)) else (k5 w2 (if x3 < (x4 + (3 * (v2 - 1))) + 1 then (x4 + (3 * (v2 - 1))) + 1 else x3) (x4 + 1)))) else (grd (vpb x7 8 = true) (if (w.1 (a1 + 2 + x7.toNatClampNeg) 2) = x4 then (grd (¬ x7 < 0 → ¬ (w.1 a2 1) ≤ x7 → vpb x7 160 = true) (f_Cl_shortestFor_17 a1 a2 k5 n w x3 x4 (z5 ||| ((Int64.ofNat 1) <<< ((v_Sh_asInt w a2 x7).toInt64 &&& 63))) (x7 + 1))) else (f_Cl_shortestFor_17 a1 a2 k5 n w x3 x4 z5 (x7 + 1))))
set_option maxHeartbeats 4000000 in
theorem r_Cl_shortestFor_17 {d : Nat} {r : Option Value} {w' : MW} (a1 : Nat) (a2 : Nat) (c1 : isCt a1) (c2 : isSh a2) (k5 : MW → Int32 → Int32 → Option RT) (hk5 : ∀ w x3 x4, k5 w x3 x4 = some (r, w') → Rn (d + 1) mCl_shortestFor 5 [none, some (.ref a1), some (.ref a2), some (.int x3), some (.int x4), none, none, none] [] w r w') : ∀ (n : Nat) (w : MW) (x3 : Int32) (x4 : Int32) (z5 : Int64) (x7 : Int32), f_Cl_shortestFor_17 a1 a2 k5 n w x3 x4 z5 x7 = some (r, w') → Rn (d + 1) mCl_shortestFor 17 [none, some (.ref a1), some (.ref a2), some (.int x3), some (.int x4), some (.long z5), none, some (.int x7)] [] w r w' := by
  intro n
  induction n with
  | zero =>
    intro w x3 x4 z5 x7 hf
    cases hf
  | succ n ih =>
    intro w x3 x4 z5 x7 hf
    rw [f_Cl_shortestFor_17] at hf
    refine bCl_shortestFor_17 (h1 := ct_g1 c1) (kt := fun q1 => ?_) (kf := fun q1 => ?_)
    · replace hf := ite_t q1 hf
      obtain ⟨v2, w2, e2, hf⟩ := bI_e hf
      refine bCl_shortestFor_60 (ct := c_JL_bitCount (d := d) w z5 e2) (k := ?_)
      refine bCl_shortestFor_65 (kt := fun q3 => ?_) (kf := fun q3 => ?_)
      · replace hf := ite_t q3 hf
        refine bCl_shortestFor_88 (k := ?_)
        exact hk5 w2 x3 (x4 + 1) hf
      · replace hf := ite_f q3 hf
        refine bCl_shortestFor_72 (k := ?_)
        refine bCl_shortestFor_88 (k := ?_)
        exact hk5 w2 (if x3 < (x4 + (3 * (v2 - 1))) + 1 then (x4 + (3 * (v2 - 1))) + 1 else x3) (x4 + 1) hf
    · replace hf := ite_f q1 hf
      obtain ⟨g7_0, hf⟩ := grd_e hf
      refine bCl_shortestFor_26 (y1 := a1 + 1) (h1 := ct_r0 c1) (y2 := a1 + 2 + x7.toNatClampNeg) (h2 := ct_k12 c1) (h3 := ct_l8 c1 (vpb_ok g7_0)) (h4 := ct_mn c1 (vpb_ok g7_0)) (h5 := mn_g (mn_of c1 (vpb_ok g7_0)) 2 (by decide)) (kt := fun q7 => ?_) (kf := fun q7 => ?_)
      · replace hf := ite_f q7 hf
        refine bCl_shortestFor_54 (k := ?_)
        exact ih w x3 x4 z5 (x7 + 1) hf
      · replace hf := ite_t q7 hf
        obtain ⟨g9_0, hf⟩ := grd_e hf
        refine bCl_shortestFor_41 (h1 := sh_k c2) (ct := c_Sh_asInt (d := d) w a2 x7 c2 (fun z0 z1 => vpb_ok (g9_0 z0 z1))) (k := ?_)
        refine bCl_shortestFor_50 (k := ?_)
        refine bCl_shortestFor_54 (k := ?_)
        exact ih w x3 x4 (z5 ||| ((Int64.ofNat 1) <<< ((v_Sh_asInt w a2 x7).toInt64 &&& 63))) (x7 + 1) hf
def f_Cl_shortestFor_5 (a1 : Nat) (a2 : Nat) : Nat → MW → Int32 → Int32 → Option RT
  | 0, _, _, _ => none
  | n + 1, w, x3, x4 => if 3 ≤ x4 then (some (some (.int x3), w)) else (f_Cl_shortestFor_17 a1 a2 (fun w x3 x4 => f_Cl_shortestFor_5 a1 a2 n w x3 x4) FU w x3 x4 (Int64.ofNat 0) (0 : Int32))
set_option maxHeartbeats 4000000 in
theorem r_Cl_shortestFor_5 {d : Nat} {r : Option Value} {w' : MW} (a1 : Nat) (a2 : Nat) (c1 : isCt a1) (c2 : isSh a2) : ∀ (n : Nat) (w : MW) (x3 : Int32) (x4 : Int32), f_Cl_shortestFor_5 a1 a2 n w x3 x4 = some (r, w') → Rn (d + 1) mCl_shortestFor 5 [none, some (.ref a1), some (.ref a2), some (.int x3), some (.int x4), none, none, none] [] w r w' := by
  intro n
  induction n with
  | zero =>
    intro w x3 x4 hf
    cases hf
  | succ n ih =>
    intro w x3 x4 hf
    rw [f_Cl_shortestFor_5] at hf
    refine bCl_shortestFor_5 (kt := fun q1 => ?_) (kf := fun q1 => ?_)
    · replace hf := ite_t q1 hf
      obtain ⟨rfl, rfl⟩ := ret_e hf
      exact bCl_shortestFor_94 
    · replace hf := ite_f q1 hf
      refine bCl_shortestFor_11 (k := ?_)
      exact r_Cl_shortestFor_17 a1 a2 c1 c2 (fun w x3 x4 => f_Cl_shortestFor_5 a1 a2 n w x3 x4) ih FU w x3 x4 (Int64.ofNat 0) (0 : Int32) hf
def f_Cl_shortestFor (w : MW) (a1 : Nat) (a2 : Nat) : Option RT := f_Cl_shortestFor_5 a1 a2 FU w (0 : Int32) (0 : Int32)
set_option maxHeartbeats 4000000 in
theorem c_Cl_shortestFor {d : Nat} {r : Option Value} {w' : MW} (w : MW) (a1 : Nat) (a2 : Nat) (c1 : isCt a1) (c2 : isSh a2) (hf : f_Cl_shortestFor w a1 a2 = some (r, w')) : Ct (d + 1) mCl_shortestFor [.ref 57, .ref a1, .ref a2] w r w' := by
  refine eCl_shortestFor ?_
  unfold f_Cl_shortestFor at hf
  refine bCl_shortestFor_0 (k := ?_)
  exact r_Cl_shortestFor_5 a1 a2 c1 c2 FU w (0 : Int32) (0 : Int32) hf
-- Cl_slipHearsJust
def f_Cl_slipHearsJust (w : MW) (a1 : Nat) (x2 : Int32) (x3 : Int32) (a4 : Nat) : Option RT := bI (f_X_placesBy w (4 : Int32) x3 x2 (w.1 a1 3)) (fun v1 w1 => bI (f_Cl_isJust w1 a1 v1 a4) (fun v2 w2 => grd (v2 = 0 ∨ v2 = 1) (some (some (.int v2), w2))))
set_option maxHeartbeats 4000000 in
theorem c_Cl_slipHearsJust {d : Nat} {r : Option Value} {w' : MW} (w : MW) (a1 : Nat) (x2 : Int32) (x3 : Int32) (a4 : Nat) (c1 : isCt a1) (c4 : isSh a4) (hf : f_Cl_slipHearsJust w a1 x2 x3 a4 = some (r, w')) : Ct (d + 2) mCl_slipHearsJust [.ref 57, .ref a1, .int x2, .int x3, .ref a4] w r w' := by
  refine eCl_slipHearsJust ?_
  unfold f_Cl_slipHearsJust at hf
  obtain ⟨v1, w1, e1, hf⟩ := bI_e hf
  refine bCl_slipHearsJust_0 (h1 := ct_g3 c1) (ct := c_X_placesBy (d := d) w (4 : Int32) x3 x2 (w.1 a1 3) e1) (k := ?_)
  obtain ⟨v2, w2, e2, hf⟩ := bI_e hf
  refine bCl_slipHearsJust_12 (ct := c_Cl_isJust (d := d) w1 a1 v1 a4 c1 c4 e2) (k := ?_)
  obtain ⟨g3_z, hf⟩ := grd_e hf
  obtain ⟨rfl, rfl⟩ := ret_e hf
  exact bCl_slipHearsJust_17 (hn := nz g3_z)
-- Cl_firstSlip
def f_Cl_firstSlip_11 (a1 : Nat) (a2 : Nat) (k2 : MW → Int32 → Option RT) : Nat → MW → Int32 → Int32 → Option RT
  | 0, _, _, _ => none
  | n + 1, w, x3, x4 => if x4 < 0 then (k2 w (x3 + 1)) else (bI (f_Cl_slipHearsJust w a1 x3 x4 a2) (fun v3 w3 => if v3 = 0 then (f_Cl_firstSlip_11 a1 a2 k2 n w3 x3 (x4 + (-1))) else (some (some (.int ((100 * x3) + x4)), w3))))
set_option maxHeartbeats 4000000 in
theorem r_Cl_firstSlip_11 {d : Nat} {r : Option Value} {w' : MW} (a1 : Nat) (a2 : Nat) (c1 : isCt a1) (c2 : isSh a2) (k2 : MW → Int32 → Option RT) (hk2 : ∀ w x3, k2 w x3 = some (r, w') → Rn (d + 3) mCl_firstSlip 2 [some (.ref 57), some (.ref a1), some (.ref a2), some (.int x3), none] [] w r w') : ∀ (n : Nat) (w : MW) (x3 : Int32) (x4 : Int32), f_Cl_firstSlip_11 a1 a2 k2 n w x3 x4 = some (r, w') → Rn (d + 3) mCl_firstSlip 11 [some (.ref 57), some (.ref a1), some (.ref a2), some (.int x3), some (.int x4)] [] w r w' := by
  intro n
  induction n with
  | zero =>
    intro w x3 x4 hf
    cases hf
  | succ n ih =>
    intro w x3 x4 hf
    rw [f_Cl_firstSlip_11] at hf
    refine bCl_firstSlip_11 (kt := fun q1 => ?_) (kf := fun q1 => ?_)
    · replace hf := ite_t q1 hf
      refine bCl_firstSlip_42 (k := ?_)
      exact hk2 w (x3 + 1) hf
    · replace hf := ite_f q1 hf
      obtain ⟨v3, w3, e3, hf⟩ := bI_e hf
      refine bCl_firstSlip_16 (ct := c_Cl_slipHearsJust (d := d) w a1 x3 x4 a2 c1 c2 e3) (k := ?_)
      refine bCl_firstSlip_25 (kt := fun q4 => ?_) (kf := fun q4 => ?_)
      · replace hf := ite_t q4 hf
        refine bCl_firstSlip_36 (k := ?_)
        exact ih w3 x3 (x4 + (-1)) hf
      · replace hf := ite_f q4 hf
        obtain ⟨rfl, rfl⟩ := ret_e hf
        exact bCl_firstSlip_28 
def f_Cl_firstSlip_2 (a1 : Nat) (a2 : Nat) : Nat → MW → Int32 → Option RT
  | 0, _, _ => none
  | n + 1, w, x3 => if 3 ≤ x3 then (some (some (.int (-1 : Int32)), w)) else (f_Cl_firstSlip_11 a1 a2 (fun w x3 => f_Cl_firstSlip_2 a1 a2 n w x3) FU w x3 (30 : Int32))
set_option maxHeartbeats 4000000 in
theorem r_Cl_firstSlip_2 {d : Nat} {r : Option Value} {w' : MW} (a1 : Nat) (a2 : Nat) (c1 : isCt a1) (c2 : isSh a2) : ∀ (n : Nat) (w : MW) (x3 : Int32), f_Cl_firstSlip_2 a1 a2 n w x3 = some (r, w') → Rn (d + 3) mCl_firstSlip 2 [some (.ref 57), some (.ref a1), some (.ref a2), some (.int x3), none] [] w r w' := by
  intro n
  induction n with
  | zero =>
    intro w x3 hf
    cases hf
  | succ n ih =>
    intro w x3 hf
    rw [f_Cl_firstSlip_2] at hf
    refine bCl_firstSlip_2 (kt := fun q1 => ?_) (kf := fun q1 => ?_)
    · replace hf := ite_t q1 hf
      obtain ⟨rfl, rfl⟩ := ret_e hf
      exact bCl_firstSlip_48 
    · replace hf := ite_f q1 hf
      refine bCl_firstSlip_7 (k := ?_)
      exact r_Cl_firstSlip_11 a1 a2 c1 c2 (fun w x3 => f_Cl_firstSlip_2 a1 a2 n w x3) ih FU w x3 (30 : Int32) hf
def f_Cl_firstSlip (w : MW) (a1 : Nat) (a2 : Nat) : Option RT := f_Cl_firstSlip_2 a1 a2 FU w (0 : Int32)
set_option maxHeartbeats 4000000 in
theorem c_Cl_firstSlip {d : Nat} {r : Option Value} {w' : MW} (w : MW) (a1 : Nat) (a2 : Nat) (c1 : isCt a1) (c2 : isSh a2) (hf : f_Cl_firstSlip w a1 a2 = some (r, w')) : Ct (d + 3) mCl_firstSlip [.ref 57, .ref a1, .ref a2] w r w' := by
  refine eCl_firstSlip ?_
  unfold f_Cl_firstSlip at hf
  refine bCl_firstSlip_0 (k := ?_)
  exact r_Cl_firstSlip_2 a1 a2 c1 c2 FU w (0 : Int32) hf
