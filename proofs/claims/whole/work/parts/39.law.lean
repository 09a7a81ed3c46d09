def f_L_law_1432 (k18 : MW → Int32 → Option RT) : Nat → MW → Int32 → Option RT
  | 0, _, _ => none
  | n + 1, w, x3 => k18 w (x3 + 6)
set_option maxHeartbeats 4000000 in
theorem r_L_law_1432 {d : Nat} {r : Option Value} {w' : MW} (k18 : MW → Int32 → Option RT) (hk18 : ∀ w x3, k18 w x3 = some (r, w') → Rn (d + 65) mL_law 18 [some (.ref 83), some (.ref 0), some (.ref 62), some (.int x3)] [] w r w') : ∀ (n : Nat) (w : MW) (x3 : Int32), f_L_law_1432 k18 n w x3 = some (r, w') → Rn (d + 65) mL_law 1432 [some (.ref 83), some (.ref 0), some (.ref 62), some (.int x3)] [] w r w' := by
  intro n
  induction n with
  | zero =>
    intro w x3 hf
    cases hf
  | succ n ih =>
    intro w x3 hf
    rw [f_L_law_1432] at hf
    refine bL_law_1432 (k := ?_)
    exact hk18 w (x3 + 6) hf
def f_L_law_1409 (k18 : MW → Int32 → Option RT) : Nat → MW → Int32 → Option RT
  | 0, _, _ => none
  | n + 1, w, x3 => grd (vpb (x3 + 1) (aln w 83) = true) (bI (f_X_status w (w.1 83 (x3 + 1).toNatClampNeg)) (fun v1 w1 => grd (vpb (x3 + 1) (aln w1 83) = true) (bI (f_M_status w1 (w1.1 83 (x3 + 1).toNatClampNeg)) (fun v2 w2 => if v1 = v2 then (f_L_law_1432 k18 FU w2 x3) else (some (some (.int (0 : Int32)), w2))))))
set_option maxHeartbeats 4000000 in
theorem r_L_law_1409 {d : Nat} {r : Option Value} {w' : MW} (k18 : MW → Int32 → Option RT) (hk18 : ∀ w x3, k18 w x3 = some (r, w') → Rn (d + 65) mL_law 18 [some (.ref 83), some (.ref 0), some (.ref 62), some (.int x3)] [] w r w') : ∀ (n : Nat) (w : MW) (x3 : Int32), f_L_law_1409 k18 n w x3 = some (r, w') → Rn (d + 65) mL_law 1409 [some (.ref 83), some (.ref 0), some (.ref 62), some (.int x3)] [] w r w' := by
  intro n
  induction n with
  | zero =>
    intro w x3 hf
    cases hf
  | succ n ih =>
    intro w x3 hf
    rw [f_L_law_1409] at hf
    obtain ⟨g1_0, hf⟩ := grd_e hf
    obtain ⟨v1, w1, e1, hf⟩ := bI_e hf
    refine bL_law_1409 (h1 := (Or.inr (by decide))) (h2 := (vpb_ok g1_0)) (ct := c_X_status (d := d + 62) w (w.1 83 (x3 + 1).toNatClampNeg) e1) (k := ?_)
    obtain ⟨g2_0, hf⟩ := grd_e hf
    obtain ⟨v2, w2, e2, hf⟩ := bI_e hf
    refine bL_law_1418 (h1 := (Or.inr (by decide))) (h2 := (vpb_ok g2_0)) (ct := c_M_status (d := d + 63) w1 (w1.1 83 (x3 + 1).toNatClampNeg) e2) (k := ?_)
    refine bL_law_1427 (kt := fun q3 => ?_) (kf := fun q3 => ?_)
    · replace hf := ite_t q3 hf
      exact r_L_law_1432 (k18) hk18 FU w2 x3 hf
    · replace hf := ite_f q3 hf
      obtain ⟨rfl, rfl⟩ := ret_e hf
      exact bL_law_1430 
def f_L_law_1396 (k18 : MW → Int32 → Option RT) : Nat → MW → Int32 → Option RT
  | 0, _, _ => none
  | n + 1, w, x3 => bI (f_X_restore w ) (fun v1 w1 => bI (f_M_restore w1 ) (fun v2 w2 => if v1 = v2 then (f_L_law_1432 k18 FU w2 x3) else (some (some (.int (0 : Int32)), w2))))
set_option maxHeartbeats 4000000 in
theorem r_L_law_1396 {d : Nat} {r : Option Value} {w' : MW} (k18 : MW → Int32 → Option RT) (hk18 : ∀ w x3, k18 w x3 = some (r, w') → Rn (d + 65) mL_law 18 [some (.ref 83), some (.ref 0), some (.ref 62), some (.int x3)] [] w r w') : ∀ (n : Nat) (w : MW) (x3 : Int32), f_L_law_1396 k18 n w x3 = some (r, w') → Rn (d + 65) mL_law 1396 [some (.ref 83), some (.ref 0), some (.ref 62), some (.int x3)] [] w r w' := by
  intro n
  induction n with
  | zero =>
    intro w x3 hf
    cases hf
  | succ n ih =>
    intro w x3 hf
    rw [f_L_law_1396] at hf
    obtain ⟨v1, w1, e1, hf⟩ := bI_e hf
    refine bL_law_1396 (ct := c_X_restore (d := d + 62) w e1) (k := ?_)
    obtain ⟨v2, w2, e2, hf⟩ := bI_e hf
    refine bL_law_1400 (ct := c_M_restore (d := d + 63) w1 e2) (k := ?_)
    refine bL_law_1404 (kt := fun q3 => ?_) (kf := fun q3 => ?_)
    · replace hf := ite_t q3 hf
      exact r_L_law_1432 (k18) hk18 FU w2 x3 hf
    · replace hf := ite_f q3 hf
      obtain ⟨rfl, rfl⟩ := ret_e hf
      exact bL_law_1407 
def f_L_law_1383 (k18 : MW → Int32 → Option RT) : Nat → MW → Int32 → Option RT
  | 0, _, _ => none
  | n + 1, w, x3 => bI (f_X_image w ) (fun v1 w1 => bI (f_M_image w1 ) (fun v2 w2 => if v1 = v2 then (f_L_law_1432 k18 FU w2 x3) else (some (some (.int (0 : Int32)), w2))))
set_option maxHeartbeats 4000000 in
theorem r_L_law_1383 {d : Nat} {r : Option Value} {w' : MW} (k18 : MW → Int32 → Option RT) (hk18 : ∀ w x3, k18 w x3 = some (r, w') → Rn (d + 65) mL_law 18 [some (.ref 83), some (.ref 0), some (.ref 62), some (.int x3)] [] w r w') : ∀ (n : Nat) (w : MW) (x3 : Int32), f_L_law_1383 k18 n w x3 = some (r, w') → Rn (d + 65) mL_law 1383 [some (.ref 83), some (.ref 0), some (.ref 62), some (.int x3)] [] w r w' := by
  intro n
  induction n with
  | zero =>
    intro w x3 hf
    cases hf
  | succ n ih =>
    intro w x3 hf
    rw [f_L_law_1383] at hf
    obtain ⟨v1, w1, e1, hf⟩ := bI_e hf
    refine bL_law_1383 (ct := c_X_image (d := d + 62) w e1) (k := ?_)
    obtain ⟨v2, w2, e2, hf⟩ := bI_e hf
    refine bL_law_1387 (ct := c_M_image (d := d + 63) w1 e2) (k := ?_)
    refine bL_law_1391 (kt := fun q3 => ?_) (kf := fun q3 => ?_)
    · replace hf := ite_t q3 hf
      exact r_L_law_1432 (k18) hk18 FU w2 x3 hf
    · replace hf := ite_f q3 hf
      obtain ⟨rfl, rfl⟩ := ret_e hf
      exact bL_law_1394 
def f_L_law_1360 (k18 : MW → Int32 → Option RT) : Nat → MW → Int32 → Option RT
  | 0, _, _ => none
  | n + 1, w, x3 => grd (vpb (x3 + 1) (aln w 83) = true) (bI (f_X_trace w (w.1 83 (x3 + 1).toNatClampNeg)) (fun v1 w1 => grd (vpb (x3 + 1) (aln w1 83) = true) (bI (f_M_trace w1 (w1.1 83 (x3 + 1).toNatClampNeg)) (fun v2 w2 => if v1 = v2 then (f_L_law_1432 k18 FU w2 x3) else (some (some (.int (0 : Int32)), w2))))))
set_option maxHeartbeats 4000000 in
theorem r_L_law_1360 {d : Nat} {r : Option Value} {w' : MW} (k18 : MW → Int32 → Option RT) (hk18 : ∀ w x3, k18 w x3 = some (r, w') → Rn (d + 65) mL_law 18 [some (.ref 83), some (.ref 0), some (.ref 62), some (.int x3)] [] w r w') : ∀ (n : Nat) (w : MW) (x3 : Int32), f_L_law_1360 k18 n w x3 = some (r, w') → Rn (d + 65) mL_law 1360 [some (.ref 83), some (.ref 0), some (.ref 62), some (.int x3)] [] w r w' := by
  intro n
  induction n with
  | zero =>
    intro w x3 hf
    cases hf
  | succ n ih =>
    intro w x3 hf
    rw [f_L_law_1360] at hf
    obtain ⟨g1_0, hf⟩ := grd_e hf
    obtain ⟨v1, w1, e1, hf⟩ := bI_e hf
    refine bL_law_1360 (h1 := (Or.inr (by decide))) (h2 := (vpb_ok g1_0)) (ct := c_X_trace (d := d + 63) w (w.1 83 (x3 + 1).toNatClampNeg) e1) (k := ?_)
    obtain ⟨g2_0, hf⟩ := grd_e hf
    obtain ⟨v2, w2, e2, hf⟩ := bI_e hf
    refine bL_law_1369 (h1 := (Or.inr (by decide))) (h2 := (vpb_ok g2_0)) (ct := c_M_trace (d := d + 64) w1 (w1.1 83 (x3 + 1).toNatClampNeg) e2) (k := ?_)
    refine bL_law_1378 (kt := fun q3 => ?_) (kf := fun q3 => ?_)
    · replace hf := ite_t q3 hf
      exact r_L_law_1432 (k18) hk18 FU w2 x3 hf
    · replace hf := ite_f q3 hf
      obtain ⟨rfl, rfl⟩ := ret_e hf
      exact bL_law_1381 
def f_L_law_1317 (k18 : MW → Int32 → Option RT) : Nat → MW → Int32 → Option RT
  | 0, _, _ => none
  | n + 1, w, x3 => grd (vpb (x3 + 1) (aln w 83) = true) (grd (vpb (x3 + 2) (aln w 83) = true) (grd (vpb (x3 + 3) (aln w 83) = true) (bI (f_X_act w (w.1 83 (x3 + 1).toNatClampNeg) (w.1 83 (x3 + 2).toNatClampNeg) (w.1 83 (x3 + 3).toNatClampNeg)) (fun v1 w1 => grd (vpb (x3 + 1) (aln w1 83) = true) (grd (vpb (x3 + 2) (aln w1 83) = true) (grd (vpb (x3 + 3) (aln w1 83) = true) (bI (f_M_act w1 (w1.1 83 (x3 + 1).toNatClampNeg) (w1.1 83 (x3 + 2).toNatClampNeg) (w1.1 83 (x3 + 3).toNatClampNeg)) (fun v2 w2 => if v1 = v2 then (f_L_law_1432 k18 FU w2 x3) else (some (some (.int (0 : Int32)), w2))))))))))
set_option maxHeartbeats 4000000 in
theorem r_L_law_1317 {d : Nat} {r : Option Value} {w' : MW} (k18 : MW → Int32 → Option RT) (hk18 : ∀ w x3, k18 w x3 = some (r, w') → Rn (d + 65) mL_law 18 [some (.ref 83), some (.ref 0), some (.ref 62), some (.int x3)] [] w r w') : ∀ (n : Nat) (w : MW) (x3 : Int32), f_L_law_1317 k18 n w x3 = some (r, w') → Rn (d + 65) mL_law 1317 [some (.ref 83), some (.ref 0), some (.ref 62), some (.int x3)] [] w r w' := by
  intro n
  induction n with
  | zero =>
    intro w x3 hf
    cases hf
  | succ n ih =>
    intro w x3 hf
    rw [f_L_law_1317] at hf
    obtain ⟨g1_0, hf⟩ := grd_e hf
    obtain ⟨g1_1, hf⟩ := grd_e hf
    obtain ⟨g1_2, hf⟩ := grd_e hf
    obtain ⟨v1, w1, e1, hf⟩ := bI_e hf
    refine bL_law_1317 (h1 := (Or.inr (by decide))) (h2 := (vpb_ok g1_0)) (h3 := (Or.inr (by decide))) (h4 := (vpb_ok g1_1)) (h5 := (Or.inr (by decide))) (h6 := (vpb_ok g1_2)) (ct := c_X_act (d := d) w (w.1 83 (x3 + 1).toNatClampNeg) (w.1 83 (x3 + 2).toNatClampNeg) (w.1 83 (x3 + 3).toNatClampNeg) e1) (k := ?_)
    obtain ⟨g2_0, hf⟩ := grd_e hf
    obtain ⟨g2_1, hf⟩ := grd_e hf
    obtain ⟨g2_2, hf⟩ := grd_e hf
    obtain ⟨v2, w2, e2, hf⟩ := bI_e hf
    refine bL_law_1336 (h1 := (Or.inr (by decide))) (h2 := (vpb_ok g2_0)) (h3 := (Or.inr (by decide))) (h4 := (vpb_ok g2_1)) (h5 := (Or.inr (by decide))) (h6 := (vpb_ok g2_2)) (ct := c_M_act (d := d + 60) w1 (w1.1 83 (x3 + 1).toNatClampNeg) (w1.1 83 (x3 + 2).toNatClampNeg) (w1.1 83 (x3 + 3).toNatClampNeg) e2) (k := ?_)
    refine bL_law_1355 (kt := fun q3 => ?_) (kf := fun q3 => ?_)
    · replace hf := ite_t q3 hf
      exact r_L_law_1432 (k18) hk18 FU w2 x3 hf
    · replace hf := ite_f q3 hf
      obtain ⟨rfl, rfl⟩ := ret_e hf
      exact bL_law_1358 
def f_L_law_1294 (k18 : MW → Int32 → Option RT) : Nat → MW → Int32 → Option RT
  | 0, _, _ => none
  | n + 1, w, x3 => grd (vpb (x3 + 1) (aln w 83) = true) (bI (f_X_seed w (w.1 83 (x3 + 1).toNatClampNeg)) (fun v1 w1 => grd (vpb (x3 + 1) (aln w1 83) = true) (bI (f_M_seed w1 (w1.1 83 (x3 + 1).toNatClampNeg)) (fun v2 w2 => if v1 = v2 then (f_L_law_1432 k18 FU w2 x3) else (some (some (.int (0 : Int32)), w2))))))
set_option maxHeartbeats 4000000 in
theorem r_L_law_1294 {d : Nat} {r : Option Value} {w' : MW} (k18 : MW → Int32 → Option RT) (hk18 : ∀ w x3, k18 w x3 = some (r, w') → Rn (d + 65) mL_law 18 [some (.ref 83), some (.ref 0), some (.ref 62), some (.int x3)] [] w r w') : ∀ (n : Nat) (w : MW) (x3 : Int32), f_L_law_1294 k18 n w x3 = some (r, w') → Rn (d + 65) mL_law 1294 [some (.ref 83), some (.ref 0), some (.ref 62), some (.int x3)] [] w r w' := by
  intro n
  induction n with
  | zero =>
    intro w x3 hf
    cases hf
  | succ n ih =>
    intro w x3 hf
    rw [f_L_law_1294] at hf
    obtain ⟨g1_0, hf⟩ := grd_e hf
    obtain ⟨v1, w1, e1, hf⟩ := bI_e hf
    refine bL_law_1294 (h1 := (Or.inr (by decide))) (h2 := (vpb_ok g1_0)) (ct := c_X_seed (d := d + 64) w (w.1 83 (x3 + 1).toNatClampNeg) e1) (k := ?_)
    obtain ⟨g2_0, hf⟩ := grd_e hf
    obtain ⟨v2, w2, e2, hf⟩ := bI_e hf
    refine bL_law_1303 (h1 := (Or.inr (by decide))) (h2 := (vpb_ok g2_0)) (ct := c_M_seed (d := d + 64) w1 (w1.1 83 (x3 + 1).toNatClampNeg) e2) (k := ?_)
    refine bL_law_1312 (kt := fun q3 => ?_) (kf := fun q3 => ?_)
    · replace hf := ite_t q3 hf
      exact r_L_law_1432 (k18) hk18 FU w2 x3 hf
    · replace hf := ite_f q3 hf
      obtain ⟨rfl, rfl⟩ := ret_e hf
      exact bL_law_1315 
def f_L_law_1271 (k18 : MW → Int32 → Option RT) : Nat → MW → Int32 → Option RT
  | 0, _, _ => none
  | n + 1, w, x3 => grd (vpb (x3 + 1) (aln w 83) = true) (bI (f_X_reign w (w.1 83 (x3 + 1).toNatClampNeg)) (fun v1 w1 => grd (vpb (x3 + 1) (aln w1 83) = true) (bI (f_M_reign w1 (w1.1 83 (x3 + 1).toNatClampNeg)) (fun v2 w2 => if v1 = v2 then (f_L_law_1432 k18 FU w2 x3) else (some (some (.int (0 : Int32)), w2))))))
set_option maxHeartbeats 4000000 in
theorem r_L_law_1271 {d : Nat} {r : Option Value} {w' : MW} (k18 : MW → Int32 → Option RT) (hk18 : ∀ w x3, k18 w x3 = some (r, w') → Rn (d + 65) mL_law 18 [some (.ref 83), some (.ref 0), some (.ref 62), some (.int x3)] [] w r w') : ∀ (n : Nat) (w : MW) (x3 : Int32), f_L_law_1271 k18 n w x3 = some (r, w') → Rn (d + 65) mL_law 1271 [some (.ref 83), some (.ref 0), some (.ref 62), some (.int x3)] [] w r w' := by
  intro n
  induction n with
  | zero =>
    intro w x3 hf
    cases hf
  | succ n ih =>
    intro w x3 hf
    rw [f_L_law_1271] at hf
    obtain ⟨g1_0, hf⟩ := grd_e hf
    obtain ⟨v1, w1, e1, hf⟩ := bI_e hf
    refine bL_law_1271 (h1 := (Or.inr (by decide))) (h2 := (vpb_ok g1_0)) (ct := c_X_reign (d := d + 58) w (w.1 83 (x3 + 1).toNatClampNeg) e1) (k := ?_)
    obtain ⟨g2_0, hf⟩ := grd_e hf
    obtain ⟨v2, w2, e2, hf⟩ := bI_e hf
    refine bL_law_1280 (h1 := (Or.inr (by decide))) (h2 := (vpb_ok g2_0)) (ct := c_M_reign (d := d + 60) w1 (w1.1 83 (x3 + 1).toNatClampNeg) e2) (k := ?_)
    refine bL_law_1289 (kt := fun q3 => ?_) (kf := fun q3 => ?_)
    · replace hf := ite_t q3 hf
      exact r_L_law_1432 (k18) hk18 FU w2 x3 hf
    · replace hf := ite_f q3 hf
      obtain ⟨rfl, rfl⟩ := ret_e hf
      exact bL_law_1292 
def f_L_law_1248 (k18 : MW → Int32 → Option RT) : Nat → MW → Int32 → Option RT
  | 0, _, _ => none
  | n + 1, w, x3 => grd (vpb (x3 + 1) (aln w 83) = true) (bI (f_X_audience w (w.1 83 (x3 + 1).toNatClampNeg)) (fun v1 w1 => grd (vpb (x3 + 1) (aln w1 83) = true) (bI (f_M_audience w1 (w1.1 83 (x3 + 1).toNatClampNeg)) (fun v2 w2 => if v1 = v2 then (f_L_law_1432 k18 FU w2 x3) else (some (some (.int (0 : Int32)), w2))))))
set_option maxHeartbeats 4000000 in
theorem r_L_law_1248 {d : Nat} {r : Option Value} {w' : MW} (k18 : MW → Int32 → Option RT) (hk18 : ∀ w x3, k18 w x3 = some (r, w') → Rn (d + 65) mL_law 18 [some (.ref 83), some (.ref 0), some (.ref 62), some (.int x3)] [] w r w') : ∀ (n : Nat) (w : MW) (x3 : Int32), f_L_law_1248 k18 n w x3 = some (r, w') → Rn (d + 65) mL_law 1248 [some (.ref 83), some (.ref 0), some (.ref 62), some (.int x3)] [] w r w' := by
  intro n
  induction n with
  | zero =>
    intro w x3 hf
    cases hf
  | succ n ih =>
    intro w x3 hf
    rw [f_L_law_1248] at hf
    obtain ⟨g1_0, hf⟩ := grd_e hf
    obtain ⟨v1, w1, e1, hf⟩ := bI_e hf
    refine bL_law_1248 (h1 := (Or.inr (by decide))) (h2 := (vpb_ok g1_0)) (ct := c_X_audience (d := d + 58) w (w.1 83 (x3 + 1).toNatClampNeg) e1) (k := ?_)
    obtain ⟨g2_0, hf⟩ := grd_e hf
    obtain ⟨v2, w2, e2, hf⟩ := bI_e hf
    refine bL_law_1257 (h1 := (Or.inr (by decide))) (h2 := (vpb_ok g2_0)) (ct := c_M_audience (d := d + 60) w1 (w1.1 83 (x3 + 1).toNatClampNeg) e2) (k := ?_)
    refine bL_law_1266 (kt := fun q3 => ?_) (kf := fun q3 => ?_)
    · replace hf := ite_t q3 hf
      exact r_L_law_1432 (k18) hk18 FU w2 x3 hf
    · replace hf := ite_f q3 hf
      obtain ⟨rfl, rfl⟩ := ret_e hf
      exact bL_law_1269 
def f_L_law_1205 (k18 : MW → Int32 → Option RT) : Nat → MW → Int32 → Option RT
  | 0, _, _ => none
  | n + 1, w, x3 => grd (vpb (x3 + 1) (aln w 83) = true) (grd (vpb (x3 + 2) (aln w 83) = true) (grd (vpb (x3 + 3) (aln w 83) = true) (bI (f_X_would w (w.1 83 (x3 + 1).toNatClampNeg) (w.1 83 (x3 + 2).toNatClampNeg) (w.1 83 (x3 + 3).toNatClampNeg)) (fun v1 w1 => grd (vpb (x3 + 1) (aln w1 83) = true) (grd (vpb (x3 + 2) (aln w1 83) = true) (grd (vpb (x3 + 3) (aln w1 83) = true) (bI (f_M_would w1 (w1.1 83 (x3 + 1).toNatClampNeg) (w1.1 83 (x3 + 2).toNatClampNeg) (w1.1 83 (x3 + 3).toNatClampNeg)) (fun v2 w2 => if v1 = v2 then (f_L_law_1432 k18 FU w2 x3) else (some (some (.int (0 : Int32)), w2))))))))))
set_option maxHeartbeats 4000000 in
theorem r_L_law_1205 {d : Nat} {r : Option Value} {w' : MW} (k18 : MW → Int32 → Option RT) (hk18 : ∀ w x3, k18 w x3 = some (r, w') → Rn (d + 65) mL_law 18 [some (.ref 83), some (.ref 0), some (.ref 62), some (.int x3)] [] w r w') : ∀ (n : Nat) (w : MW) (x3 : Int32), f_L_law_1205 k18 n w x3 = some (r, w') → Rn (d + 65) mL_law 1205 [some (.ref 83), some (.ref 0), some (.ref 62), some (.int x3)] [] w r w' := by
  intro n
  induction n with
  | zero =>
    intro w x3 hf
    cases hf
  | succ n ih =>
    intro w x3 hf
    rw [f_L_law_1205] at hf
    obtain ⟨g1_0, hf⟩ := grd_e hf
    obtain ⟨g1_1, hf⟩ := grd_e hf
    obtain ⟨g1_2, hf⟩ := grd_e hf
    obtain ⟨v1, w1, e1, hf⟩ := bI_e hf
    refine bL_law_1205 (h1 := (Or.inr (by decide))) (h2 := (vpb_ok g1_0)) (h3 := (Or.inr (by decide))) (h4 := (vpb_ok g1_1)) (h5 := (Or.inr (by decide))) (h6 := (vpb_ok g1_2)) (ct := c_X_would (d := d + 61) w (w.1 83 (x3 + 1).toNatClampNeg) (w.1 83 (x3 + 2).toNatClampNeg) (w.1 83 (x3 + 3).toNatClampNeg) e1) (k := ?_)
    obtain ⟨g2_0, hf⟩ := grd_e hf
    obtain ⟨g2_1, hf⟩ := grd_e hf
    obtain ⟨g2_2, hf⟩ := grd_e hf
    obtain ⟨v2, w2, e2, hf⟩ := bI_e hf
    refine bL_law_1224 (h1 := (Or.inr (by decide))) (h2 := (vpb_ok g2_0)) (h3 := (Or.inr (by decide))) (h4 := (vpb_ok g2_1)) (h5 := (Or.inr (by decide))) (h6 := (vpb_ok g2_2)) (ct := c_M_would (d := d + 61) w1 (w1.1 83 (x3 + 1).toNatClampNeg) (w1.1 83 (x3 + 2).toNatClampNeg) (w1.1 83 (x3 + 3).toNatClampNeg) e2) (k := ?_)
    refine bL_law_1243 (kt := fun q3 => ?_) (kf := fun q3 => ?_)
    · replace hf := ite_t q3 hf
      exact r_L_law_1432 (k18) hk18 FU w2 x3 hf
    · replace hf := ite_f q3 hf
      obtain ⟨rfl, rfl⟩ := ret_e hf
      exact bL_law_1246 
def f_L_law_1172 (k18 : MW → Int32 → Option RT) : Nat → MW → Int32 → Option RT
  | 0, _, _ => none
  | n + 1, w, x3 => grd (vpb (x3 + 1) (aln w 83) = true) (grd (vpb (x3 + 2) (aln w 83) = true) (bI (f_X_judge w (w.1 83 (x3 + 1).toNatClampNeg) (w.1 83 (x3 + 2).toNatClampNeg)) (fun v1 w1 => grd (vpb (x3 + 1) (aln w1 83) = true) (grd (vpb (x3 + 2) (aln w1 83) = true) (bI (f_M_judge w1 (w1.1 83 (x3 + 1).toNatClampNeg) (w1.1 83 (x3 + 2).toNatClampNeg)) (fun v2 w2 => if v1 = v2 then (f_L_law_1432 k18 FU w2 x3) else (some (some (.int (0 : Int32)), w2))))))))
set_option maxHeartbeats 4000000 in
theorem r_L_law_1172 {d : Nat} {r : Option Value} {w' : MW} (k18 : MW → Int32 → Option RT) (hk18 : ∀ w x3, k18 w x3 = some (r, w') → Rn (d + 65) mL_law 18 [some (.ref 83), some (.ref 0), some (.ref 62), some (.int x3)] [] w r w') : ∀ (n : Nat) (w : MW) (x3 : Int32), f_L_law_1172 k18 n w x3 = some (r, w') → Rn (d + 65) mL_law 1172 [some (.ref 83), some (.ref 0), some (.ref 62), some (.int x3)] [] w r w' := by
  intro n
  induction n with
  | zero =>
    intro w x3 hf
    cases hf
  | succ n ih =>
    intro w x3 hf
    rw [f_L_law_1172] at hf
    obtain ⟨g1_0, hf⟩ := grd_e hf
    obtain ⟨g1_1, hf⟩ := grd_e hf
    obtain ⟨v1, w1, e1, hf⟩ := bI_e hf
    refine bL_law_1172 (h1 := (Or.inr (by decide))) (h2 := (vpb_ok g1_0)) (h3 := (Or.inr (by decide))) (h4 := (vpb_ok g1_1)) (ct := c_X_judge (d := d + 61) w (w.1 83 (x3 + 1).toNatClampNeg) (w.1 83 (x3 + 2).toNatClampNeg) e1) (k := ?_)
    obtain ⟨g2_0, hf⟩ := grd_e hf
    obtain ⟨g2_1, hf⟩ := grd_e hf
    obtain ⟨v2, w2, e2, hf⟩ := bI_e hf
    refine bL_law_1186 (h1 := (Or.inr (by decide))) (h2 := (vpb_ok g2_0)) (h3 := (Or.inr (by decide))) (h4 := (vpb_ok g2_1)) (ct := c_M_judge (d := d + 61) w1 (w1.1 83 (x3 + 1).toNatClampNeg) (w1.1 83 (x3 + 2).toNatClampNeg) e2) (k := ?_)
    refine bL_law_1200 (kt := fun q3 => ?_) (kf := fun q3 => ?_)
    · replace hf := ite_t q3 hf
      exact r_L_law_1432 (k18) hk18 FU w2 x3 hf
    · replace hf := ite_f q3 hf
      obtain ⟨rfl, rfl⟩ := ret_e hf
      exact bL_law_1203 
def f_L_law_1159 (k18 : MW → Int32 → Option RT) : Nat → MW → Int32 → Option RT
  | 0, _, _ => none
  | n + 1, w, x3 => bI (f_X_swap w ) (fun v1 w1 => bI (f_M_swap w1 ) (fun v2 w2 => if v1 = v2 then (f_L_law_1432 k18 FU w2 x3) else (some (some (.int (0 : Int32)), w2))))
set_option maxHeartbeats 4000000 in
theorem r_L_law_1159 {d : Nat} {r : Option Value} {w' : MW} (k18 : MW → Int32 → Option RT) (hk18 : ∀ w x3, k18 w x3 = some (r, w') → Rn (d + 65) mL_law 18 [some (.ref 83), some (.ref 0), some (.ref 62), some (.int x3)] [] w r w') : ∀ (n : Nat) (w : MW) (x3 : Int32), f_L_law_1159 k18 n w x3 = some (r, w') → Rn (d + 65) mL_law 1159 [some (.ref 83), some (.ref 0), some (.ref 62), some (.int x3)] [] w r w' := by
  intro n
  induction n with
  | zero =>
    intro w x3 hf
    cases hf
  | succ n ih =>
    intro w x3 hf
    rw [f_L_law_1159] at hf
    obtain ⟨v1, w1, e1, hf⟩ := bI_e hf
    refine bL_law_1159 (ct := c_X_swap (d := d + 58) w e1) (k := ?_)
    obtain ⟨v2, w2, e2, hf⟩ := bI_e hf
    refine bL_law_1163 (ct := c_M_swap (d := d + 61) w1 e2) (k := ?_)
    refine bL_law_1167 (kt := fun q3 => ?_) (kf := fun q3 => ?_)
    · replace hf := ite_t q3 hf
      exact r_L_law_1432 (k18) hk18 FU w2 x3 hf
    · replace hf := ite_f q3 hf
      obtain ⟨rfl, rfl⟩ := ret_e hf
      exact bL_law_1170 
def f_L_law_1136 (k18 : MW → Int32 → Option RT) : Nat → MW → Int32 → Option RT
  | 0, _, _ => none
  | n + 1, w, x3 => grd (vpb (x3 + 1) (aln w 83) = true) (bI (f_X_could w (w.1 83 (x3 + 1).toNatClampNeg)) (fun v1 w1 => grd (vpb (x3 + 1) (aln w1 83) = true) (bI (f_M_could w1 (w1.1 83 (x3 + 1).toNatClampNeg)) (fun v2 w2 => if v1 = v2 then (f_L_law_1432 k18 FU w2 x3) else (some (some (.int (0 : Int32)), w2))))))
set_option maxHeartbeats 4000000 in
theorem r_L_law_1136 {d : Nat} {r : Option Value} {w' : MW} (k18 : MW → Int32 → Option RT) (hk18 : ∀ w x3, k18 w x3 = some (r, w') → Rn (d + 65) mL_law 18 [some (.ref 83), some (.ref 0), some (.ref 62), some (.int x3)] [] w r w') : ∀ (n : Nat) (w : MW) (x3 : Int32), f_L_law_1136 k18 n w x3 = some (r, w') → Rn (d + 65) mL_law 1136 [some (.ref 83), some (.ref 0), some (.ref 62), some (.int x3)] [] w r w' := by
  intro n
  induction n with
  | zero =>
    intro w x3 hf
    cases hf
  | succ n ih =>
    intro w x3 hf
    rw [f_L_law_1136] at hf
    obtain ⟨g1_0, hf⟩ := grd_e hf
    obtain ⟨v1, w1, e1, hf⟩ := bI_e hf
    refine bL_law_1136 (h1 := (Or.inr (by decide))) (h2 := (vpb_ok g1_0)) (ct := c_X_could (d := d + 59) w (w.1 83 (x3 + 1).toNatClampNeg) e1) (k := ?_)
    obtain ⟨g2_0, hf⟩ := grd_e hf
    obtain ⟨v2, w2, e2, hf⟩ := bI_e hf
    refine bL_law_1145 (h1 := (Or.inr (by decide))) (h2 := (vpb_ok g2_0)) (ct := c_M_could (d := d + 62) w1 (w1.1 83 (x3 + 1).toNatClampNeg) e2) (k := ?_)
    refine bL_law_1154 (kt := fun q3 => ?_) (kf := fun q3 => ?_)
    · replace hf := ite_t q3 hf
      exact r_L_law_1432 (k18) hk18 FU w2 x3 hf
    · replace hf := ite_f q3 hf
      obtain ⟨rfl, rfl⟩ := ret_e hf
      exact bL_law_1157 
def f_L_law_1103 (k18 : MW → Int32 → Option RT) : Nat → MW → Int32 → Option RT
  | 0, _, _ => none
  | n + 1, w, x3 => grd (vpb (x3 + 1) (aln w 83) = true) (grd (vpb (x3 + 2) (aln w 83) = true) (bI (f_X_count w (w.1 83 (x3 + 1).toNatClampNeg) (w.1 83 (x3 + 2).toNatClampNeg)) (fun v1 w1 => grd (vpb (x3 + 1) (aln w1 83) = true) (grd (vpb (x3 + 2) (aln w1 83) = true) (bI (f_M_count w1 (w1.1 83 (x3 + 1).toNatClampNeg) (w1.1 83 (x3 + 2).toNatClampNeg)) (fun v2 w2 => if v1 = v2 then (f_L_law_1432 k18 FU w2 x3) else (some (some (.int (0 : Int32)), w2))))))))
set_option maxHeartbeats 4000000 in
theorem r_L_law_1103 {d : Nat} {r : Option Value} {w' : MW} (k18 : MW → Int32 → Option RT) (hk18 : ∀ w x3, k18 w x3 = some (r, w') → Rn (d + 65) mL_law 18 [some (.ref 83), some (.ref 0), some (.ref 62), some (.int x3)] [] w r w') : ∀ (n : Nat) (w : MW) (x3 : Int32), f_L_law_1103 k18 n w x3 = some (r, w') → Rn (d + 65) mL_law 1103 [some (.ref 83), some (.ref 0), some (.ref 62), some (.int x3)] [] w r w' := by
  intro n
  induction n with
  | zero =>
    intro w x3 hf
    cases hf
  | succ n ih =>
    intro w x3 hf
    rw [f_L_law_1103] at hf
    obtain ⟨g1_0, hf⟩ := grd_e hf
    obtain ⟨g1_1, hf⟩ := grd_e hf
    obtain ⟨v1, w1, e1, hf⟩ := bI_e hf
    refine bL_law_1103 (h1 := (Or.inr (by decide))) (h2 := (vpb_ok g1_0)) (h3 := (Or.inr (by decide))) (h4 := (vpb_ok g1_1)) (ct := c_X_count (d := d + 60) w (w.1 83 (x3 + 1).toNatClampNeg) (w.1 83 (x3 + 2).toNatClampNeg) e1) (k := ?_)
    obtain ⟨g2_0, hf⟩ := grd_e hf
    obtain ⟨g2_1, hf⟩ := grd_e hf
    obtain ⟨v2, w2, e2, hf⟩ := bI_e hf
    refine bL_law_1117 (h1 := (Or.inr (by decide))) (h2 := (vpb_ok g2_0)) (h3 := (Or.inr (by decide))) (h4 := (vpb_ok g2_1)) (ct := c_M_count (d := d + 62) w1 (w1.1 83 (x3 + 1).toNatClampNeg) (w1.1 83 (x3 + 2).toNatClampNeg) e2) (k := ?_)
    refine bL_law_1131 (kt := fun q3 => ?_) (kf := fun q3 => ?_)
    · replace hf := ite_t q3 hf
      exact r_L_law_1432 (k18) hk18 FU w2 x3 hf
    · replace hf := ite_f q3 hf
      obtain ⟨rfl, rfl⟩ := ret_e hf
      exact bL_law_1134 
def f_L_law_1080 (k18 : MW → Int32 → Option RT) : Nat → MW → Int32 → Option RT
  | 0, _, _ => none
  | n + 1, w, x3 => grd (vpb (x3 + 1) (aln w 83) = true) (bI (f_X_needs w (w.1 83 (x3 + 1).toNatClampNeg)) (fun v1 w1 => grd (vpb (x3 + 1) (aln w1 83) = true) (bI (f_M_needs w1 (w1.1 83 (x3 + 1).toNatClampNeg)) (fun v2 w2 => if v1 = v2 then (f_L_law_1432 k18 FU w2 x3) else (some (some (.int (0 : Int32)), w2))))))
set_option maxHeartbeats 4000000 in
theorem r_L_law_1080 {d : Nat} {r : Option Value} {w' : MW} (k18 : MW → Int32 → Option RT) (hk18 : ∀ w x3, k18 w x3 = some (r, w') → Rn (d + 65) mL_law 18 [some (.ref 83), some (.ref 0), some (.ref 62), some (.int x3)] [] w r w') : ∀ (n : Nat) (w : MW) (x3 : Int32), f_L_law_1080 k18 n w x3 = some (r, w') → Rn (d + 65) mL_law 1080 [some (.ref 83), some (.ref 0), some (.ref 62), some (.int x3)] [] w r w' := by
  intro n
  induction n with
  | zero =>
    intro w x3 hf
    cases hf
  | succ n ih =>
    intro w x3 hf
    rw [f_L_law_1080] at hf
    obtain ⟨g1_0, hf⟩ := grd_e hf
    obtain ⟨v1, w1, e1, hf⟩ := bI_e hf
    refine bL_law_1080 (h1 := (Or.inr (by decide))) (h2 := (vpb_ok g1_0)) (ct := c_X_needs (d := d + 62) w (w.1 83 (x3 + 1).toNatClampNeg) e1) (k := ?_)
    obtain ⟨g2_0, hf⟩ := grd_e hf
    obtain ⟨v2, w2, e2, hf⟩ := bI_e hf
    refine bL_law_1089 (h1 := (Or.inr (by decide))) (h2 := (vpb_ok g2_0)) (ct := c_M_needs (d := d + 61) w1 (w1.1 83 (x3 + 1).toNatClampNeg) e2) (k := ?_)
    refine bL_law_1098 (kt := fun q3 => ?_) (kf := fun q3 => ?_)
    · replace hf := ite_t q3 hf
      exact r_L_law_1432 (k18) hk18 FU w2 x3 hf
    · replace hf := ite_f q3 hf
      obtain ⟨rfl, rfl⟩ := ret_e hf
      exact bL_law_1101 
def f_L_law_1027 (k18 : MW → Int32 → Option RT) : Nat → MW → Int32 → Option RT
  | 0, _, _ => none
  | n + 1, w, x3 => grd (vpb (x3 + 1) (aln w 83) = true) (grd (vpb (x3 + 2) (aln w 83) = true) (grd (vpb (x3 + 3) (aln w 83) = true) (grd (vpb (x3 + 4) (aln w 83) = true) (bI (f_X_speak w (w.1 83 (x3 + 1).toNatClampNeg) (w.1 83 (x3 + 2).toNatClampNeg) (w.1 83 (x3 + 3).toNatClampNeg) (w.1 83 (x3 + 4).toNatClampNeg)) (fun v1 w1 => grd (vpb (x3 + 1) (aln w1 83) = true) (grd (vpb (x3 + 2) (aln w1 83) = true) (grd (vpb (x3 + 3) (aln w1 83) = true) (grd (vpb (x3 + 4) (aln w1 83) = true) (bI (f_M_speak w1 (w1.1 83 (x3 + 1).toNatClampNeg) (w1.1 83 (x3 + 2).toNatClampNeg) (w1.1 83 (x3 + 3).toNatClampNeg) (w1.1 83 (x3 + 4).toNatClampNeg)) (fun v2 w2 => if v1 = v2 then (f_L_law_1432 k18 FU w2 x3) else (some (some (.int (0 : Int32)), w2))))))))))))
set_option maxHeartbeats 4000000 in
theorem r_L_law_1027 {d : Nat} {r : Option Value} {w' : MW} (k18 : MW → Int32 → Option RT) (hk18 : ∀ w x3, k18 w x3 = some (r, w') → Rn (d + 65) mL_law 18 [some (.ref 83), some (.ref 0), some (.ref 62), some (.int x3)] [] w r w') : ∀ (n : Nat) (w : MW) (x3 : Int32), f_L_law_1027 k18 n w x3 = some (r, w') → Rn (d + 65) mL_law 1027 [some (.ref 83), some (.ref 0), some (.ref 62), some (.int x3)] [] w r w' := by
  intro n
  induction n with
  | zero =>
    intro w x3 hf
    cases hf
  | succ n ih =>
    intro w x3 hf
    rw [f_L_law_1027] at hf
    obtain ⟨g1_0, hf⟩ := grd_e hf
    obtain ⟨g1_1, hf⟩ := grd_e hf
    obtain ⟨g1_2, hf⟩ := grd_e hf
    obtain ⟨g1_3, hf⟩ := grd_e hf
    obtain ⟨v1, w1, e1, hf⟩ := bI_e hf
    refine bL_law_1027 (h1 := (Or.inr (by decide))) (h2 := (vpb_ok g1_0)) (h3 := (Or.inr (by decide))) (h4 := (vpb_ok g1_1)) (h5 := (Or.inr (by decide))) (h6 := (vpb_ok g1_2)) (h7 := (Or.inr (by decide))) (h8 := (vpb_ok g1_3)) (ct := c_X_speak (d := d + 62) w (w.1 83 (x3 + 1).toNatClampNeg) (w.1 83 (x3 + 2).toNatClampNeg) (w.1 83 (x3 + 3).toNatClampNeg) (w.1 83 (x3 + 4).toNatClampNeg) e1) (k := ?_)
    obtain ⟨g2_0, hf⟩ := grd_e hf
    obtain ⟨g2_1, hf⟩ := grd_e hf
    obtain ⟨g2_2, hf⟩ := grd_e hf
    obtain ⟨g2_3, hf⟩ := grd_e hf
    obtain ⟨v2, w2, e2, hf⟩ := bI_e hf
    refine bL_law_1051 (h1 := (Or.inr (by decide))) (h2 := (vpb_ok g2_0)) (h3 := (Or.inr (by decide))) (h4 := (vpb_ok g2_1)) (h5 := (Or.inr (by decide))) (h6 := (vpb_ok g2_2)) (h7 := (Or.inr (by decide))) (h8 := (vpb_ok g2_3)) (ct := c_M_speak (d := d + 62) w1 (w1.1 83 (x3 + 1).toNatClampNeg) (w1.1 83 (x3 + 2).toNatClampNeg) (w1.1 83 (x3 + 3).toNatClampNeg) (w1.1 83 (x3 + 4).toNatClampNeg) e2) (k := ?_)
    refine bL_law_1075 (kt := fun q3 => ?_) (kf := fun q3 => ?_)
    · replace hf := ite_t q3 hf
      exact r_L_law_1432 (k18) hk18 FU w2 x3 hf
    · replace hf := ite_f q3 hf
      obtain ⟨rfl, rfl⟩ := ret_e hf
      exact bL_law_1078 
def f_L_law_1014 (k18 : MW → Int32 → Option RT) : Nat → MW → Int32 → Option RT
  | 0, _, _ => none
  | n + 1, w, x3 => bI (f_X_lose w ) (fun v1 w1 => bI (f_M_lose w1 ) (fun v2 w2 => if v1 = v2 then (f_L_law_1432 k18 FU w2 x3) else (some (some (.int (0 : Int32)), w2))))
set_option maxHeartbeats 4000000 in
theorem r_L_law_1014 {d : Nat} {r : Option Value} {w' : MW} (k18 : MW → Int32 → Option RT) (hk18 : ∀ w x3, k18 w x3 = some (r, w') → Rn (d + 65) mL_law 18 [some (.ref 83), some (.ref 0), some (.ref 62), some (.int x3)] [] w r w') : ∀ (n : Nat) (w : MW) (x3 : Int32), f_L_law_1014 k18 n w x3 = some (r, w') → Rn (d + 65) mL_law 1014 [some (.ref 83), some (.ref 0), some (.ref 62), some (.int x3)] [] w r w' := by
  intro n
  induction n with
  | zero =>
    intro w x3 hf
    cases hf
  | succ n ih =>
    intro w x3 hf
    rw [f_L_law_1014] at hf
    obtain ⟨v1, w1, e1, hf⟩ := bI_e hf
    refine bL_law_1014 (ct := c_X_lose (d := d + 58) w e1) (k := ?_)
    obtain ⟨v2, w2, e2, hf⟩ := bI_e hf
    refine bL_law_1018 (ct := c_M_lose (d := d + 60) w1 e2) (k := ?_)
    refine bL_law_1022 (kt := fun q3 => ?_) (kf := fun q3 => ?_)
    · replace hf := ite_t q3 hf
      exact r_L_law_1432 (k18) hk18 FU w2 x3 hf
    · replace hf := ite_f q3 hf
      obtain ⟨rfl, rfl⟩ := ret_e hf
      exact bL_law_1025 
def f_L_law_991 (k18 : MW → Int32 → Option RT) : Nat → MW → Int32 → Option RT
  | 0, _, _ => none
  | n + 1, w, x3 => grd (vpb (x3 + 1) (aln w 83) = true) (bI (f_X_apart w (w.1 83 (x3 + 1).toNatClampNeg)) (fun v1 w1 => grd (vpb (x3 + 1) (aln w1 83) = true) (bI (f_M_apart w1 (w1.1 83 (x3 + 1).toNatClampNeg)) (fun v2 w2 => if v1 = v2 then (f_L_law_1432 k18 FU w2 x3) else (some (some (.int (0 : Int32)), w2))))))
set_option maxHeartbeats 4000000 in
theorem r_L_law_991 {d : Nat} {r : Option Value} {w' : MW} (k18 : MW → Int32 → Option RT) (hk18 : ∀ w x3, k18 w x3 = some (r, w') → Rn (d + 65) mL_law 18 [some (.ref 83), some (.ref 0), some (.ref 62), some (.int x3)] [] w r w') : ∀ (n : Nat) (w : MW) (x3 : Int32), f_L_law_991 k18 n w x3 = some (r, w') → Rn (d + 65) mL_law 991 [some (.ref 83), some (.ref 0), some (.ref 62), some (.int x3)] [] w r w' := by
  intro n
  induction n with
  | zero =>
    intro w x3 hf
    cases hf
  | succ n ih =>
    intro w x3 hf
    rw [f_L_law_991] at hf
    obtain ⟨g1_0, hf⟩ := grd_e hf
    obtain ⟨v1, w1, e1, hf⟩ := bI_e hf
    refine bL_law_991 (h1 := (Or.inr (by decide))) (h2 := (vpb_ok g1_0)) (ct := c_X_apart (d := d + 58) w (w.1 83 (x3 + 1).toNatClampNeg) e1) (k := ?_)
    obtain ⟨g2_0, hf⟩ := grd_e hf
    obtain ⟨v2, w2, e2, hf⟩ := bI_e hf
    refine bL_law_1000 (h1 := (Or.inr (by decide))) (h2 := (vpb_ok g2_0)) (ct := c_M_apart (d := d + 60) w1 (w1.1 83 (x3 + 1).toNatClampNeg) e2) (k := ?_)
    refine bL_law_1009 (kt := fun q3 => ?_) (kf := fun q3 => ?_)
    · replace hf := ite_t q3 hf
      exact r_L_law_1432 (k18) hk18 FU w2 x3 hf
    · replace hf := ite_f q3 hf
      obtain ⟨rfl, rfl⟩ := ret_e hf
      exact bL_law_1012 
def f_L_law_968 (k18 : MW → Int32 → Option RT) : Nat → MW → Int32 → Option RT
  | 0, _, _ => none
  | n + 1, w, x3 => grd (vpb (x3 + 1) (aln w 83) = true) (bI (f_X_wrongOnes w (w.1 83 (x3 + 1).toNatClampNeg)) (fun v1 w1 => grd (vpb (x3 + 1) (aln w1 83) = true) (bI (f_M_wrongOnes w1 (w1.1 83 (x3 + 1).toNatClampNeg)) (fun v2 w2 => if v1 = v2 then (f_L_law_1432 k18 FU w2 x3) else (some (some (.int (0 : Int32)), w2))))))
set_option maxHeartbeats 4000000 in
theorem r_L_law_968 {d : Nat} {r : Option Value} {w' : MW} (k18 : MW → Int32 → Option RT) (hk18 : ∀ w x3, k18 w x3 = some (r, w') → Rn (d + 65) mL_law 18 [some (.ref 83), some (.ref 0), some (.ref 62), some (.int x3)] [] w r w') : ∀ (n : Nat) (w : MW) (x3 : Int32), f_L_law_968 k18 n w x3 = some (r, w') → Rn (d + 65) mL_law 968 [some (.ref 83), some (.ref 0), some (.ref 62), some (.int x3)] [] w r w' := by
  intro n
  induction n with
  | zero =>
    intro w x3 hf
    cases hf
  | succ n ih =>
    intro w x3 hf
    rw [f_L_law_968] at hf
    obtain ⟨g1_0, hf⟩ := grd_e hf
    obtain ⟨v1, w1, e1, hf⟩ := bI_e hf
    refine bL_law_968 (h1 := (Or.inr (by decide))) (h2 := (vpb_ok g1_0)) (ct := c_X_wrongOnes (d := d + 59) w (w.1 83 (x3 + 1).toNatClampNeg) e1) (k := ?_)
    obtain ⟨g2_0, hf⟩ := grd_e hf
    obtain ⟨v2, w2, e2, hf⟩ := bI_e hf
    refine bL_law_977 (h1 := (Or.inr (by decide))) (h2 := (vpb_ok g2_0)) (ct := c_M_wrongOnes (d := d + 61) w1 (w1.1 83 (x3 + 1).toNatClampNeg) e2) (k := ?_)
    refine bL_law_986 (kt := fun q3 => ?_) (kf := fun q3 => ?_)
    · replace hf := ite_t q3 hf
      exact r_L_law_1432 (k18) hk18 FU w2 x3 hf
    · replace hf := ite_f q3 hf
      obtain ⟨rfl, rfl⟩ := ret_e hf
      exact bL_law_989 
def f_L_law_945 (k18 : MW → Int32 → Option RT) : Nat → MW → Int32 → Option RT
  | 0, _, _ => none
  | n + 1, w, x3 => grd (vpb (x3 + 1) (aln w 83) = true) (bI (f_X_soon w (w.1 83 (x3 + 1).toNatClampNeg)) (fun v1 w1 => grd (vpb (x3 + 1) (aln w1 83) = true) (bI (f_M_soon w1 (w1.1 83 (x3 + 1).toNatClampNeg)) (fun v2 w2 => if v1 = v2 then (f_L_law_1432 k18 FU w2 x3) else (some (some (.int (0 : Int32)), w2))))))
set_option maxHeartbeats 4000000 in
theorem r_L_law_945 {d : Nat} {r : Option Value} {w' : MW} (k18 : MW → Int32 → Option RT) (hk18 : ∀ w x3, k18 w x3 = some (r, w') → Rn (d + 65) mL_law 18 [some (.ref 83), some (.ref 0), some (.ref 62), some (.int x3)] [] w r w') : ∀ (n : Nat) (w : MW) (x3 : Int32), f_L_law_945 k18 n w x3 = some (r, w') → Rn (d + 65) mL_law 945 [some (.ref 83), some (.ref 0), some (.ref 62), some (.int x3)] [] w r w' := by
  intro n
  induction n with
  | zero =>
    intro w x3 hf
    cases hf
  | succ n ih =>
    intro w x3 hf
    rw [f_L_law_945] at hf
    obtain ⟨g1_0, hf⟩ := grd_e hf
    obtain ⟨v1, w1, e1, hf⟩ := bI_e hf
    refine bL_law_945 (h1 := (Or.inr (by decide))) (h2 := (vpb_ok g1_0)) (ct := c_X_soon (d := d + 59) w (w.1 83 (x3 + 1).toNatClampNeg) e1) (k := ?_)
    obtain ⟨g2_0, hf⟩ := grd_e hf
    obtain ⟨v2, w2, e2, hf⟩ := bI_e hf
    refine bL_law_954 (h1 := (Or.inr (by decide))) (h2 := (vpb_ok g2_0)) (ct := c_M_soon (d := d + 60) w1 (w1.1 83 (x3 + 1).toNatClampNeg) e2) (k := ?_)
    refine bL_law_963 (kt := fun q3 => ?_) (kf := fun q3 => ?_)
    · replace hf := ite_t q3 hf
      exact r_L_law_1432 (k18) hk18 FU w2 x3 hf
    · replace hf := ite_f q3 hf
      obtain ⟨rfl, rfl⟩ := ret_e hf
      exact bL_law_966 
def f_L_law_922 (k18 : MW → Int32 → Option RT) : Nat → MW → Int32 → Option RT
  | 0, _, _ => none
  | n + 1, w, x3 => grd (vpb (x3 + 1) (aln w 83) = true) (bI (f_X_ask w (w.1 83 (x3 + 1).toNatClampNeg)) (fun v1 w1 => grd (vpb (x3 + 1) (aln w1 83) = true) (bI (f_M_ask w1 (w1.1 83 (x3 + 1).toNatClampNeg)) (fun v2 w2 => if v1 = v2 then (f_L_law_1432 k18 FU w2 x3) else (some (some (.int (0 : Int32)), w2))))))
set_option maxHeartbeats 4000000 in
theorem r_L_law_922 {d : Nat} {r : Option Value} {w' : MW} (k18 : MW → Int32 → Option RT) (hk18 : ∀ w x3, k18 w x3 = some (r, w') → Rn (d + 65) mL_law 18 [some (.ref 83), some (.ref 0), some (.ref 62), some (.int x3)] [] w r w') : ∀ (n : Nat) (w : MW) (x3 : Int32), f_L_law_922 k18 n w x3 = some (r, w') → Rn (d + 65) mL_law 922 [some (.ref 83), some (.ref 0), some (.ref 62), some (.int x3)] [] w r w' := by
  intro n
  induction n with
  | zero =>
    intro w x3 hf
    cases hf
  | succ n ih =>
    intro w x3 hf
    rw [f_L_law_922] at hf
    obtain ⟨g1_0, hf⟩ := grd_e hf
    obtain ⟨v1, w1, e1, hf⟩ := bI_e hf
    refine bL_law_922 (h1 := (Or.inr (by decide))) (h2 := (vpb_ok g1_0)) (ct := c_X_ask (d := d + 57) w (w.1 83 (x3 + 1).toNatClampNeg) e1) (k := ?_)
    obtain ⟨g2_0, hf⟩ := grd_e hf
    obtain ⟨v2, w2, e2, hf⟩ := bI_e hf
    refine bL_law_931 (h1 := (Or.inr (by decide))) (h2 := (vpb_ok g2_0)) (ct := c_M_ask (d := d + 61) w1 (w1.1 83 (x3 + 1).toNatClampNeg) e2) (k := ?_)
    refine bL_law_940 (kt := fun q3 => ?_) (kf := fun q3 => ?_)
    · replace hf := ite_t q3 hf
      exact r_L_law_1432 (k18) hk18 FU w2 x3 hf
    · replace hf := ite_f q3 hf
      obtain ⟨rfl, rfl⟩ := ret_e hf
      exact bL_law_943 
def f_L_law_909 (k18 : MW → Int32 → Option RT) : Nat → MW → Int32 → Option RT
  | 0, _, _ => none
  | n + 1, w, x3 => bI (f_X_cover w ) (fun v1 w1 => bI (f_M_cover w1 ) (fun v2 w2 => if v1 = v2 then (f_L_law_1432 k18 FU w2 x3) else (some (some (.int (0 : Int32)), w2))))
set_option maxHeartbeats 4000000 in
theorem r_L_law_909 {d : Nat} {r : Option Value} {w' : MW} (k18 : MW → Int32 → Option RT) (hk18 : ∀ w x3, k18 w x3 = some (r, w') → Rn (d + 65) mL_law 18 [some (.ref 83), some (.ref 0), some (.ref 62), some (.int x3)] [] w r w') : ∀ (n : Nat) (w : MW) (x3 : Int32), f_L_law_909 k18 n w x3 = some (r, w') → Rn (d + 65) mL_law 909 [some (.ref 83), some (.ref 0), some (.ref 62), some (.int x3)] [] w r w' := by
  intro n
  induction n with
  | zero =>
    intro w x3 hf
    cases hf
  | succ n ih =>
    intro w x3 hf
    rw [f_L_law_909] at hf
    obtain ⟨v1, w1, e1, hf⟩ := bI_e hf
    refine bL_law_909 (ct := c_X_cover (d := d + 58) w e1) (k := ?_)
    obtain ⟨v2, w2, e2, hf⟩ := bI_e hf
    refine bL_law_913 (ct := c_M_cover (d := d + 61) w1 e2) (k := ?_)
    refine bL_law_917 (kt := fun q3 => ?_) (kf := fun q3 => ?_)
    · replace hf := ite_t q3 hf
      exact r_L_law_1432 (k18) hk18 FU w2 x3 hf
    · replace hf := ite_f q3 hf
      obtain ⟨rfl, rfl⟩ := ret_e hf
      exact bL_law_920 
def f_L_law_876 (k18 : MW → Int32 → Option RT) : Nat → MW → Int32 → Option RT
  | 0, _, _ => none
  | n + 1, w, x3 => grd (vpb (x3 + 1) (aln w 83) = true) (grd (vpb (x3 + 2) (aln w 83) = true) (bI (f_X_together w (w.1 83 (x3 + 1).toNatClampNeg) (w.1 83 (x3 + 2).toNatClampNeg)) (fun v1 w1 => grd (vpb (x3 + 1) (aln w1 83) = true) (grd (vpb (x3 + 2) (aln w1 83) = true) (bI (f_M_together w1 (w1.1 83 (x3 + 1).toNatClampNeg) (w1.1 83 (x3 + 2).toNatClampNeg)) (fun v2 w2 => if v1 = v2 then (f_L_law_1432 k18 FU w2 x3) else (some (some (.int (0 : Int32)), w2))))))))
set_option maxHeartbeats 4000000 in
theorem r_L_law_876 {d : Nat} {r : Option Value} {w' : MW} (k18 : MW → Int32 → Option RT) (hk18 : ∀ w x3, k18 w x3 = some (r, w') → Rn (d + 65) mL_law 18 [some (.ref 83), some (.ref 0), some (.ref 62), some (.int x3)] [] w r w') : ∀ (n : Nat) (w : MW) (x3 : Int32), f_L_law_876 k18 n w x3 = some (r, w') → Rn (d + 65) mL_law 876 [some (.ref 83), some (.ref 0), some (.ref 62), some (.int x3)] [] w r w' := by
  intro n
  induction n with
  | zero =>
    intro w x3 hf
    cases hf
  | succ n ih =>
    intro w x3 hf
    rw [f_L_law_876] at hf
    obtain ⟨g1_0, hf⟩ := grd_e hf
    obtain ⟨g1_1, hf⟩ := grd_e hf
    obtain ⟨v1, w1, e1, hf⟩ := bI_e hf
    refine bL_law_876 (h1 := (Or.inr (by decide))) (h2 := (vpb_ok g1_0)) (h3 := (Or.inr (by decide))) (h4 := (vpb_ok g1_1)) (ct := c_X_together (d := d + 58) w (w.1 83 (x3 + 1).toNatClampNeg) (w.1 83 (x3 + 2).toNatClampNeg) e1) (k := ?_)
    obtain ⟨g2_0, hf⟩ := grd_e hf
    obtain ⟨g2_1, hf⟩ := grd_e hf
    obtain ⟨v2, w2, e2, hf⟩ := bI_e hf
    refine bL_law_890 (h1 := (Or.inr (by decide))) (h2 := (vpb_ok g2_0)) (h3 := (Or.inr (by decide))) (h4 := (vpb_ok g2_1)) (ct := c_M_together (d := d + 60) w1 (w1.1 83 (x3 + 1).toNatClampNeg) (w1.1 83 (x3 + 2).toNatClampNeg) e2) (k := ?_)
    refine bL_law_904 (kt := fun q3 => ?_) (kf := fun q3 => ?_)
    · replace hf := ite_t q3 hf
      exact r_L_law_1432 (k18) hk18 FU w2 x3 hf
    · replace hf := ite_f q3 hf
      obtain ⟨rfl, rfl⟩ := ret_e hf
      exact bL_law_907 
def f_L_law_853 (k18 : MW → Int32 → Option RT) : Nat → MW → Int32 → Option RT
  | 0, _, _ => none
  | n + 1, w, x3 => grd (vpb (x3 + 1) (aln w 83) = true) (bI (f_X_belief w (w.1 83 (x3 + 1).toNatClampNeg)) (fun v1 w1 => grd (vpb (x3 + 1) (aln w1 83) = true) (bI (f_M_belief w1 (w1.1 83 (x3 + 1).toNatClampNeg)) (fun v2 w2 => if v1 = v2 then (f_L_law_1432 k18 FU w2 x3) else (some (some (.int (0 : Int32)), w2))))))
set_option maxHeartbeats 4000000 in
theorem r_L_law_853 {d : Nat} {r : Option Value} {w' : MW} (k18 : MW → Int32 → Option RT) (hk18 : ∀ w x3, k18 w x3 = some (r, w') → Rn (d + 65) mL_law 18 [some (.ref 83), some (.ref 0), some (.ref 62), some (.int x3)] [] w r w') : ∀ (n : Nat) (w : MW) (x3 : Int32), f_L_law_853 k18 n w x3 = some (r, w') → Rn (d + 65) mL_law 853 [some (.ref 83), some (.ref 0), some (.ref 62), some (.int x3)] [] w r w' := by
  intro n
  induction n with
  | zero =>
    intro w x3 hf
    cases hf
  | succ n ih =>
    intro w x3 hf
    rw [f_L_law_853] at hf
    obtain ⟨g1_0, hf⟩ := grd_e hf
    obtain ⟨v1, w1, e1, hf⟩ := bI_e hf
    refine bL_law_853 (h1 := (Or.inr (by decide))) (h2 := (vpb_ok g1_0)) (ct := c_X_belief (d := d + 62) w (w.1 83 (x3 + 1).toNatClampNeg) e1) (k := ?_)
    obtain ⟨g2_0, hf⟩ := grd_e hf
    obtain ⟨v2, w2, e2, hf⟩ := bI_e hf
    refine bL_law_862 (h1 := (Or.inr (by decide))) (h2 := (vpb_ok g2_0)) (ct := c_M_belief (d := d + 62) w1 (w1.1 83 (x3 + 1).toNatClampNeg) e2) (k := ?_)
    refine bL_law_871 (kt := fun q3 => ?_) (kf := fun q3 => ?_)
    · replace hf := ite_t q3 hf
      exact r_L_law_1432 (k18) hk18 FU w2 x3 hf
    · replace hf := ite_f q3 hf
      obtain ⟨rfl, rfl⟩ := ret_e hf
      exact bL_law_874 
def f_L_law_820 (k18 : MW → Int32 → Option RT) : Nat → MW → Int32 → Option RT
  | 0, _, _ => none
  | n + 1, w, x3 => grd (vpb (x3 + 1) (aln w 83) = true) (grd (vpb (x3 + 2) (aln w 83) = true) (bI (f_X_known w (w.1 83 (x3 + 1).toNatClampNeg) (w.1 83 (x3 + 2).toNatClampNeg)) (fun v1 w1 => grd (vpb (x3 + 1) (aln w1 83) = true) (grd (vpb (x3 + 2) (aln w1 83) = true) (bI (f_M_known w1 (w1.1 83 (x3 + 1).toNatClampNeg) (w1.1 83 (x3 + 2).toNatClampNeg)) (fun v2 w2 => if v1 = v2 then (f_L_law_1432 k18 FU w2 x3) else (some (some (.int (0 : Int32)), w2))))))))
set_option maxHeartbeats 4000000 in
theorem r_L_law_820 {d : Nat} {r : Option Value} {w' : MW} (k18 : MW → Int32 → Option RT) (hk18 : ∀ w x3, k18 w x3 = some (r, w') → Rn (d + 65) mL_law 18 [some (.ref 83), some (.ref 0), some (.ref 62), some (.int x3)] [] w r w') : ∀ (n : Nat) (w : MW) (x3 : Int32), f_L_law_820 k18 n w x3 = some (r, w') → Rn (d + 65) mL_law 820 [some (.ref 83), some (.ref 0), some (.ref 62), some (.int x3)] [] w r w' := by
  intro n
  induction n with
  | zero =>
    intro w x3 hf
    cases hf
  | succ n ih =>
    intro w x3 hf
    rw [f_L_law_820] at hf
    obtain ⟨g1_0, hf⟩ := grd_e hf
    obtain ⟨g1_1, hf⟩ := grd_e hf
    obtain ⟨v1, w1, e1, hf⟩ := bI_e hf
    refine bL_law_820 (h1 := (Or.inr (by decide))) (h2 := (vpb_ok g1_0)) (h3 := (Or.inr (by decide))) (h4 := (vpb_ok g1_1)) (ct := c_X_known (d := d + 58) w (w.1 83 (x3 + 1).toNatClampNeg) (w.1 83 (x3 + 2).toNatClampNeg) e1) (k := ?_)
    obtain ⟨g2_0, hf⟩ := grd_e hf
    obtain ⟨g2_1, hf⟩ := grd_e hf
    obtain ⟨v2, w2, e2, hf⟩ := bI_e hf
    refine bL_law_834 (h1 := (Or.inr (by decide))) (h2 := (vpb_ok g2_0)) (h3 := (Or.inr (by decide))) (h4 := (vpb_ok g2_1)) (ct := c_M_known (d := d + 61) w1 (w1.1 83 (x3 + 1).toNatClampNeg) (w1.1 83 (x3 + 2).toNatClampNeg) e2) (k := ?_)
    refine bL_law_848 (kt := fun q3 => ?_) (kf := fun q3 => ?_)
    · replace hf := ite_t q3 hf
      exact r_L_law_1432 (k18) hk18 FU w2 x3 hf
    · replace hf := ite_f q3 hf
      obtain ⟨rfl, rfl⟩ := ret_e hf
      exact bL_law_851 
def f_L_law_807 (k18 : MW → Int32 → Option RT) : Nat → MW → Int32 → Option RT
  | 0, _, _ => none
  | n + 1, w, x3 => bI (f_X_whole w ) (fun v1 w1 => bI (f_M_whole w1 ) (fun v2 w2 => if v1 = v2 then (f_L_law_1432 k18 FU w2 x3) else (some (some (.int (0 : Int32)), w2))))
set_option maxHeartbeats 4000000 in
theorem r_L_law_807 {d : Nat} {r : Option Value} {w' : MW} (k18 : MW → Int32 → Option RT) (hk18 : ∀ w x3, k18 w x3 = some (r, w') → Rn (d + 65) mL_law 18 [some (.ref 83), some (.ref 0), some (.ref 62), some (.int x3)] [] w r w') : ∀ (n : Nat) (w : MW) (x3 : Int32), f_L_law_807 k18 n w x3 = some (r, w') → Rn (d + 65) mL_law 807 [some (.ref 83), some (.ref 0), some (.ref 62), some (.int x3)] [] w r w' := by
  intro n
  induction n with
  | zero =>
    intro w x3 hf
    cases hf
  | succ n ih =>
    intro w x3 hf
    rw [f_L_law_807] at hf
    obtain ⟨v1, w1, e1, hf⟩ := bI_e hf
    refine bL_law_807 (ct := c_X_whole (d := d + 61) w e1) (k := ?_)
    obtain ⟨v2, w2, e2, hf⟩ := bI_e hf
    refine bL_law_811 (ct := c_M_whole (d := d + 61) w1 e2) (k := ?_)
    refine bL_law_815 (kt := fun q3 => ?_) (kf := fun q3 => ?_)
    · replace hf := ite_t q3 hf
      exact r_L_law_1432 (k18) hk18 FU w2 x3 hf
    · replace hf := ite_f q3 hf
      obtain ⟨rfl, rfl⟩ := ret_e hf
      exact bL_law_818 
def f_L_law_774 (k18 : MW → Int32 → Option RT) : Nat → MW → Int32 → Option RT
  | 0, _, _ => none
  | n + 1, w, x3 => grd (vpb (x3 + 1) (aln w 83) = true) (grd (vpb (x3 + 2) (aln w 83) = true) (bI (f_X_sense w (w.1 83 (x3 + 1).toNatClampNeg) (w.1 83 (x3 + 2).toNatClampNeg)) (fun v1 w1 => grd (vpb (x3 + 1) (aln w1 83) = true) (grd (vpb (x3 + 2) (aln w1 83) = true) (bI (f_M_sense w1 (w1.1 83 (x3 + 1).toNatClampNeg) (w1.1 83 (x3 + 2).toNatClampNeg)) (fun v2 w2 => if v1 = v2 then (f_L_law_1432 k18 FU w2 x3) else (some (some (.int (0 : Int32)), w2))))))))
set_option maxHeartbeats 4000000 in
theorem r_L_law_774 {d : Nat} {r : Option Value} {w' : MW} (k18 : MW → Int32 → Option RT) (hk18 : ∀ w x3, k18 w x3 = some (r, w') → Rn (d + 65) mL_law 18 [some (.ref 83), some (.ref 0), some (.ref 62), some (.int x3)] [] w r w') : ∀ (n : Nat) (w : MW) (x3 : Int32), f_L_law_774 k18 n w x3 = some (r, w') → Rn (d + 65) mL_law 774 [some (.ref 83), some (.ref 0), some (.ref 62), some (.int x3)] [] w r w' := by
  intro n
  induction n with
  | zero =>
    intro w x3 hf
    cases hf
  | succ n ih =>
    intro w x3 hf
    rw [f_L_law_774] at hf
    obtain ⟨g1_0, hf⟩ := grd_e hf
    obtain ⟨g1_1, hf⟩ := grd_e hf
    obtain ⟨v1, w1, e1, hf⟩ := bI_e hf
    refine bL_law_774 (h1 := (Or.inr (by decide))) (h2 := (vpb_ok g1_0)) (h3 := (Or.inr (by decide))) (h4 := (vpb_ok g1_1)) (ct := c_X_sense (d := d + 58) w (w.1 83 (x3 + 1).toNatClampNeg) (w.1 83 (x3 + 2).toNatClampNeg) e1) (k := ?_)
    obtain ⟨g2_0, hf⟩ := grd_e hf
    obtain ⟨g2_1, hf⟩ := grd_e hf
    obtain ⟨v2, w2, e2, hf⟩ := bI_e hf
    refine bL_law_788 (h1 := (Or.inr (by decide))) (h2 := (vpb_ok g2_0)) (h3 := (Or.inr (by decide))) (h4 := (vpb_ok g2_1)) (ct := c_M_sense (d := d + 61) w1 (w1.1 83 (x3 + 1).toNatClampNeg) (w1.1 83 (x3 + 2).toNatClampNeg) e2) (k := ?_)
    refine bL_law_802 (kt := fun q3 => ?_) (kf := fun q3 => ?_)
    · replace hf := ite_t q3 hf
      exact r_L_law_1432 (k18) hk18 FU w2 x3 hf
    · replace hf := ite_f q3 hf
      obtain ⟨rfl, rfl⟩ := ret_e hf
      exact bL_law_805 
def f_L_law_741 (k18 : MW → Int32 → Option RT) : Nat → MW → Int32 → Option RT
  | 0, _, _ => none
  | n + 1, w, x3 => grd (vpb (x3 + 1) (aln w 83) = true) (grd (vpb (x3 + 2) (aln w 83) = true) (bI (f_X_hears w (w.1 83 (x3 + 1).toNatClampNeg) (w.1 83 (x3 + 2).toNatClampNeg)) (fun v1 w1 => grd (vpb (x3 + 1) (aln w1 83) = true) (grd (vpb (x3 + 2) (aln w1 83) = true) (bI (f_M_hears w1 (w1.1 83 (x3 + 1).toNatClampNeg) (w1.1 83 (x3 + 2).toNatClampNeg)) (fun v2 w2 => if v1 = v2 then (f_L_law_1432 k18 FU w2 x3) else (some (some (.int (0 : Int32)), w2))))))))
set_option maxHeartbeats 4000000 in
theorem r_L_law_741 {d : Nat} {r : Option Value} {w' : MW} (k18 : MW → Int32 → Option RT) (hk18 : ∀ w x3, k18 w x3 = some (r, w') → Rn (d + 65) mL_law 18 [some (.ref 83), some (.ref 0), some (.ref 62), some (.int x3)] [] w r w') : ∀ (n : Nat) (w : MW) (x3 : Int32), f_L_law_741 k18 n w x3 = some (r, w') → Rn (d + 65) mL_law 741 [some (.ref 83), some (.ref 0), some (.ref 62), some (.int x3)] [] w r w' := by
  intro n
  induction n with
  | zero =>
    intro w x3 hf
    cases hf
  | succ n ih =>
    intro w x3 hf
    rw [f_L_law_741] at hf
    obtain ⟨g1_0, hf⟩ := grd_e hf
    obtain ⟨g1_1, hf⟩ := grd_e hf
    obtain ⟨v1, w1, e1, hf⟩ := bI_e hf
    refine bL_law_741 (h1 := (Or.inr (by decide))) (h2 := (vpb_ok g1_0)) (h3 := (Or.inr (by decide))) (h4 := (vpb_ok g1_1)) (ct := c_X_hears (d := d + 60) w (w.1 83 (x3 + 1).toNatClampNeg) (w.1 83 (x3 + 2).toNatClampNeg) e1) (k := ?_)
    obtain ⟨g2_0, hf⟩ := grd_e hf
    obtain ⟨g2_1, hf⟩ := grd_e hf
    obtain ⟨v2, w2, e2, hf⟩ := bI_e hf
    refine bL_law_755 (h1 := (Or.inr (by decide))) (h2 := (vpb_ok g2_0)) (h3 := (Or.inr (by decide))) (h4 := (vpb_ok g2_1)) (ct := c_M_hears (d := d + 62) w1 (w1.1 83 (x3 + 1).toNatClampNeg) (w1.1 83 (x3 + 2).toNatClampNeg) e2) (k := ?_)
    refine bL_law_769 (kt := fun q3 => ?_) (kf := fun q3 => ?_)
    · replace hf := ite_t q3 hf
      exact r_L_law_1432 (k18) hk18 FU w2 x3 hf
    · replace hf := ite_f q3 hf
      obtain ⟨rfl, rfl⟩ := ret_e hf
      exact bL_law_772 
def f_L_law_728 (k18 : MW → Int32 → Option RT) : Nat → MW → Int32 → Option RT
  | 0, _, _ => none
  | n + 1, w, x3 => bI (f_X_fault w ) (fun v1 w1 => bI (f_M_fault w1 ) (fun v2 w2 => if v1 = v2 then (f_L_law_1432 k18 FU w2 x3) else (some (some (.int (0 : Int32)), w2))))
set_option maxHeartbeats 4000000 in
theorem r_L_law_728 {d : Nat} {r : Option Value} {w' : MW} (k18 : MW → Int32 → Option RT) (hk18 : ∀ w x3, k18 w x3 = some (r, w') → Rn (d + 65) mL_law 18 [some (.ref 83), some (.ref 0), some (.ref 62), some (.int x3)] [] w r w') : ∀ (n : Nat) (w : MW) (x3 : Int32), f_L_law_728 k18 n w x3 = some (r, w') → Rn (d + 65) mL_law 728 [some (.ref 83), some (.ref 0), some (.ref 62), some (.int x3)] [] w r w' := by
  intro n
  induction n with
  | zero =>
    intro w x3 hf
    cases hf
  | succ n ih =>
    intro w x3 hf
    rw [f_L_law_728] at hf
    obtain ⟨v1, w1, e1, hf⟩ := bI_e hf
    refine bL_law_728 (ct := c_X_fault (d := d + 64) w e1) (k := ?_)
    obtain ⟨v2, w2, e2, hf⟩ := bI_e hf
    refine bL_law_732 (ct := c_M_fault (d := d + 64) w1 e2) (k := ?_)
    refine bL_law_736 (kt := fun q3 => ?_) (kf := fun q3 => ?_)
    · replace hf := ite_t q3 hf
      exact r_L_law_1432 (k18) hk18 FU w2 x3 hf
    · replace hf := ite_f q3 hf
      obtain ⟨rfl, rfl⟩ := ret_e hf
      exact bL_law_739 
def f_L_law_705 (k18 : MW → Int32 → Option RT) : Nat → MW → Int32 → Option RT
  | 0, _, _ => none
  | n + 1, w, x3 => grd (vpb (x3 + 1) (aln w 83) = true) (bI (f_X_court w (w.1 83 (x3 + 1).toNatClampNeg)) (fun v1 w1 => grd (vpb (x3 + 1) (aln w1 83) = true) (bI (f_M_court w1 (w1.1 83 (x3 + 1).toNatClampNeg)) (fun v2 w2 => if v1 = v2 then (f_L_law_1432 k18 FU w2 x3) else (some (some (.int (0 : Int32)), w2))))))
set_option maxHeartbeats 4000000 in
theorem r_L_law_705 {d : Nat} {r : Option Value} {w' : MW} (k18 : MW → Int32 → Option RT) (hk18 : ∀ w x3, k18 w x3 = some (r, w') → Rn (d + 65) mL_law 18 [some (.ref 83), some (.ref 0), some (.ref 62), some (.int x3)] [] w r w') : ∀ (n : Nat) (w : MW) (x3 : Int32), f_L_law_705 k18 n w x3 = some (r, w') → Rn (d + 65) mL_law 705 [some (.ref 83), some (.ref 0), some (.ref 62), some (.int x3)] [] w r w' := by
  intro n
  induction n with
  | zero =>
    intro w x3 hf
    cases hf
  | succ n ih =>
    intro w x3 hf
    rw [f_L_law_705] at hf
    obtain ⟨g1_0, hf⟩ := grd_e hf
    obtain ⟨v1, w1, e1, hf⟩ := bI_e hf
    refine bL_law_705 (h1 := (Or.inr (by decide))) (h2 := (vpb_ok g1_0)) (ct := c_X_court (d := d + 57) w (w.1 83 (x3 + 1).toNatClampNeg) e1) (k := ?_)
    obtain ⟨g2_0, hf⟩ := grd_e hf
    obtain ⟨v2, w2, e2, hf⟩ := bI_e hf
    refine bL_law_714 (h1 := (Or.inr (by decide))) (h2 := (vpb_ok g2_0)) (ct := c_M_court (d := d + 57) w1 (w1.1 83 (x3 + 1).toNatClampNeg) e2) (k := ?_)
    refine bL_law_723 (kt := fun q3 => ?_) (kf := fun q3 => ?_)
    · replace hf := ite_t q3 hf
      exact r_L_law_1432 (k18) hk18 FU w2 x3 hf
    · replace hf := ite_f q3 hf
      obtain ⟨rfl, rfl⟩ := ret_e hf
      exact bL_law_726 
def f_L_law_682 (k18 : MW → Int32 → Option RT) : Nat → MW → Int32 → Option RT
  | 0, _, _ => none
  | n + 1, w, x3 => grd (vpb (x3 + 1) (aln w 83) = true) (bI (f_X_word w (w.1 83 (x3 + 1).toNatClampNeg)) (fun v1 w1 => grd (vpb (x3 + 1) (aln w1 83) = true) (bI (f_M_word w1 (w1.1 83 (x3 + 1).toNatClampNeg)) (fun v2 w2 => if v1 = v2 then (f_L_law_1432 k18 FU w2 x3) else (some (some (.int (0 : Int32)), w2))))))
set_option maxHeartbeats 4000000 in
theorem r_L_law_682 {d : Nat} {r : Option Value} {w' : MW} (k18 : MW → Int32 → Option RT) (hk18 : ∀ w x3, k18 w x3 = some (r, w') → Rn (d + 65) mL_law 18 [some (.ref 83), some (.ref 0), some (.ref 62), some (.int x3)] [] w r w') : ∀ (n : Nat) (w : MW) (x3 : Int32), f_L_law_682 k18 n w x3 = some (r, w') → Rn (d + 65) mL_law 682 [some (.ref 83), some (.ref 0), some (.ref 62), some (.int x3)] [] w r w' := by
  intro n
  induction n with
  | zero =>
    intro w x3 hf
    cases hf
  | succ n ih =>
    intro w x3 hf
    rw [f_L_law_682] at hf
    obtain ⟨g1_0, hf⟩ := grd_e hf
    obtain ⟨v1, w1, e1, hf⟩ := bI_e hf
    refine bL_law_682 (h1 := (Or.inr (by decide))) (h2 := (vpb_ok g1_0)) (ct := c_X_word (d := d + 63) w (w.1 83 (x3 + 1).toNatClampNeg) e1) (k := ?_)
    obtain ⟨g2_0, hf⟩ := grd_e hf
    obtain ⟨v2, w2, e2, hf⟩ := bI_e hf
    refine bL_law_691 (h1 := (Or.inr (by decide))) (h2 := (vpb_ok g2_0)) (ct := c_M_word (d := d + 63) w1 (w1.1 83 (x3 + 1).toNatClampNeg) e2) (k := ?_)
    refine bL_law_700 (kt := fun q3 => ?_) (kf := fun q3 => ?_)
    · replace hf := ite_t q3 hf
      exact r_L_law_1432 (k18) hk18 FU w2 x3 hf
    · replace hf := ite_f q3 hf
      obtain ⟨rfl, rfl⟩ := ret_e hf
      exact bL_law_703 
def f_L_law_649 (k18 : MW → Int32 → Option RT) : Nat → MW → Int32 → Option RT
  | 0, _, _ => none
  | n + 1, w, x3 => grd (vpb (x3 + 1) (aln w 83) = true) (grd (vpb (x3 + 2) (aln w 83) = true) (bI (f_X_say w (w.1 83 (x3 + 1).toNatClampNeg) (w.1 83 (x3 + 2).toNatClampNeg)) (fun v1 w1 => grd (vpb (x3 + 1) (aln w1 83) = true) (grd (vpb (x3 + 2) (aln w1 83) = true) (bI (f_M_say w1 (w1.1 83 (x3 + 1).toNatClampNeg) (w1.1 83 (x3 + 2).toNatClampNeg)) (fun v2 w2 => if v1 = v2 then (f_L_law_1432 k18 FU w2 x3) else (some (some (.int (0 : Int32)), w2))))))))
set_option maxHeartbeats 4000000 in
theorem r_L_law_649 {d : Nat} {r : Option Value} {w' : MW} (k18 : MW → Int32 → Option RT) (hk18 : ∀ w x3, k18 w x3 = some (r, w') → Rn (d + 65) mL_law 18 [some (.ref 83), some (.ref 0), some (.ref 62), some (.int x3)] [] w r w') : ∀ (n : Nat) (w : MW) (x3 : Int32), f_L_law_649 k18 n w x3 = some (r, w') → Rn (d + 65) mL_law 649 [some (.ref 83), some (.ref 0), some (.ref 62), some (.int x3)] [] w r w' := by
  intro n
  induction n with
  | zero =>
    intro w x3 hf
    cases hf
  | succ n ih =>
    intro w x3 hf
    rw [f_L_law_649] at hf
    obtain ⟨g1_0, hf⟩ := grd_e hf
    obtain ⟨g1_1, hf⟩ := grd_e hf
    obtain ⟨v1, w1, e1, hf⟩ := bI_e hf
    refine bL_law_649 (h1 := (Or.inr (by decide))) (h2 := (vpb_ok g1_0)) (h3 := (Or.inr (by decide))) (h4 := (vpb_ok g1_1)) (ct := c_X_say (d := d + 61) w (w.1 83 (x3 + 1).toNatClampNeg) (w.1 83 (x3 + 2).toNatClampNeg) e1) (k := ?_)
    obtain ⟨g2_0, hf⟩ := grd_e hf
    obtain ⟨g2_1, hf⟩ := grd_e hf
    obtain ⟨v2, w2, e2, hf⟩ := bI_e hf
    refine bL_law_663 (h1 := (Or.inr (by decide))) (h2 := (vpb_ok g2_0)) (h3 := (Or.inr (by decide))) (h4 := (vpb_ok g2_1)) (ct := c_M_say (d := d + 61) w1 (w1.1 83 (x3 + 1).toNatClampNeg) (w1.1 83 (x3 + 2).toNatClampNeg) e2) (k := ?_)
    refine bL_law_677 (kt := fun q3 => ?_) (kf := fun q3 => ?_)
    · replace hf := ite_t q3 hf
      exact r_L_law_1432 (k18) hk18 FU w2 x3 hf
    · replace hf := ite_f q3 hf
      obtain ⟨rfl, rfl⟩ := ret_e hf
      exact bL_law_680 
def f_L_law_590 (k18 : MW → Int32 → Option RT) : Nat → MW → Int32 → Option RT
  | 0, _, _ => none
  | n + 1, w, x3 => grd (vpb (x3 + 1) (aln w 83) = true) (grd (vpb (x3 + 2) (aln w 83) = true) (grd (vpb (x3 + 3) (aln w 83) = true) (if (w.1 83 (x3 + 3).toNatClampNeg) = 0 then (bI (f_X_meet w (w.1 83 (x3 + 1).toNatClampNeg) (w.1 83 (x3 + 2).toNatClampNeg) (0 : Int32)) (fun v3 w3 => grd (vpb (x3 + 1) (aln w3 83) = true) (grd (vpb (x3 + 2) (aln w3 83) = true) (grd (vpb (x3 + 3) (aln w3 83) = true) (if (w3.1 83 (x3 + 3).toNatClampNeg) = 0 then (bI (f_M_meet w3 (w3.1 83 (x3 + 1).toNatClampNeg) (w3.1 83 (x3 + 2).toNatClampNeg) (0 : Int32)) (fun v6 w6 => if v3 = v6 then (f_L_law_1432 k18 FU w6 x3) else (some (some (.int (0 : Int32)), w6)))) else (bI (f_M_meet w3 (w3.1 83 (x3 + 1).toNatClampNeg) (w3.1 83 (x3 + 2).toNatClampNeg) (1 : Int32)) (fun v10 w10 => if v3 = v10 then (f_L_law_1432 k18 FU w10 x3) else (some (some (.int (0 : Int32)), w10))))))))) else (bI (f_X_meet w (w.1 83 (x3 + 1).toNatClampNeg) (w.1 83 (x3 + 2).toNatClampNeg) (1 : Int32)) (fun v14 w14 => grd (vpb (x3 + 1) (aln w14 83) = true) (grd (vpb (x3 + 2) (aln w14 83) = true) (grd (vpb (x3 + 3) (aln w14 83) = true) (if (w14.1 83 (x3 + 3).toNatClampNeg) = 0 then (bI (f_M_meet w14 (w14.1 83 (x3 + 1).toNatClampNeg) (w14.1 83 (x3 + 2).toNatClampNeg) (0 : Int32)) (fun v17 w17 => if v14 = v17 then (f_L_law_1432 k18 FU w17 x3) else (some (some (.int (0 : Int32)), w17)))) else (bI (f_M_meet w14 (w14.1 83 (x3 + 1).toNatClampNeg) (w14.1 83 (x3 + 2).toNatClampNeg) (1 : Int32)) (fun v21 w21 => if v14 = v21 then (f_L_law_1432 k18 FU w21 x3) else (some (some (.int (0 : Int32)), w21))))))))))))
set_option maxHeartbeats 4000000 in
theorem r_L_law_590 {d : Nat} {r : Option Value} {w' : MW} (k18 : MW → Int32 → Option RT) (hk18 : ∀ w x3, k18 w x3 = some (r, w') → Rn (d + 65) mL_law 18 [some (.ref 83), some (.ref 0), some (.ref 62), some (.int x3)] [] w r w') : ∀ (n : Nat) (w : MW) (x3 : Int32), f_L_law_590 k18 n w x3 = some (r, w') → Rn (d + 65) mL_law 590 [some (.ref 83), some (.ref 0), some (.ref 62), some (.int x3)] [] w r w' := by
  intro n
  induction n with
  | zero =>
    intro w x3 hf
    cases hf
  | succ n ih =>
    intro w x3 hf
    rw [f_L_law_590] at hf
    obtain ⟨g1_0, hf⟩ := grd_e hf
    obtain ⟨g1_1, hf⟩ := grd_e hf
    obtain ⟨g1_2, hf⟩ := grd_e hf
    refine bL_law_590 (h1 := (Or.inr (by decide))) (h2 := (vpb_ok g1_0)) (h3 := (Or.inr (by decide))) (h4 := (vpb_ok g1_1)) (h5 := (Or.inr (by decide))) (h6 := (vpb_ok g1_2)) (kt := fun q1 => ?_) (kf := fun q1 => ?_)
    · replace hf := ite_t q1 hf
      refine bL_law_613 (k := ?_)
      obtain ⟨v3, w3, e3, hf⟩ := bI_e hf
      refine bL_law_614 (ct := c_X_meet (d := d + 62) w (w.1 83 (x3 + 1).toNatClampNeg) (w.1 83 (x3 + 2).toNatClampNeg) (0 : Int32) e3) (k := ?_)
      obtain ⟨g4_0, hf⟩ := grd_e hf
      obtain ⟨g4_1, hf⟩ := grd_e hf
      obtain ⟨g4_2, hf⟩ := grd_e hf
      refine bL_law_617 (h1 := (Or.inr (by decide))) (h2 := (vpb_ok g4_0)) (h3 := (Or.inr (by decide))) (h4 := (vpb_ok g4_1)) (h5 := (Or.inr (by decide))) (h6 := (vpb_ok g4_2)) (kt := fun q4 => ?_) (kf := fun q4 => ?_)
      · replace hf := ite_t q4 hf
        refine bL_law_640 (k := ?_)
        obtain ⟨v6, w6, e6, hf⟩ := bI_e hf
        refine bL_law_641 (ct := c_M_meet (d := d + 62) w3 (w3.1 83 (x3 + 1).toNatClampNeg) (w3.1 83 (x3 + 2).toNatClampNeg) (0 : Int32) e6) (k := ?_)
        refine bL_law_644 (kt := fun q7 => ?_) (kf := fun q7 => ?_)
        · replace hf := ite_t q7 hf
          exact r_L_law_1432 (k18) hk18 FU w6 x3 hf
        · replace hf := ite_f q7 hf
          obtain ⟨rfl, rfl⟩ := ret_e hf
          exact bL_law_647 
      · replace hf := ite_f q4 hf
        refine bL_law_636 (k := ?_)
        obtain ⟨v10, w10, e10, hf⟩ := bI_e hf
        refine bL_law_641 (ct := c_M_meet (d := d + 62) w3 (w3.1 83 (x3 + 1).toNatClampNeg) (w3.1 83 (x3 + 2).toNatClampNeg) (1 : Int32) e10) (k := ?_)
        refine bL_law_644 (kt := fun q11 => ?_) (kf := fun q11 => ?_)
        · replace hf := ite_t q11 hf
          exact r_L_law_1432 (k18) hk18 FU w10 x3 hf
        · replace hf := ite_f q11 hf
          obtain ⟨rfl, rfl⟩ := ret_e hf
          exact bL_law_647 
    · replace hf := ite_f q1 hf
      refine bL_law_609 (k := ?_)
      obtain ⟨v14, w14, e14, hf⟩ := bI_e hf
      refine bL_law_614 (ct := c_X_meet (d := d + 62) w (w.1 83 (x3 + 1).toNatClampNeg) (w.1 83 (x3 + 2).toNatClampNeg) (1 : Int32) e14) (k := ?_)
      obtain ⟨g15_0, hf⟩ := grd_e hf
      obtain ⟨g15_1, hf⟩ := grd_e hf
      obtain ⟨g15_2, hf⟩ := grd_e hf
      refine bL_law_617 (h1 := (Or.inr (by decide))) (h2 := (vpb_ok g15_0)) (h3 := (Or.inr (by decide))) (h4 := (vpb_ok g15_1)) (h5 := (Or.inr (by decide))) (h6 := (vpb_ok g15_2)) (kt := fun q15 => ?_) (kf := fun q15 => ?_)
      · replace hf := ite_t q15 hf
        refine bL_law_640 (k := ?_)
        obtain ⟨v17, w17, e17, hf⟩ := bI_e hf
        refine bL_law_641 (ct := c_M_meet (d := d + 62) w14 (w14.1 83 (x3 + 1).toNatClampNeg) (w14.1 83 (x3 + 2).toNatClampNeg) (0 : Int32) e17) (k := ?_)
        refine bL_law_644 (kt := fun q18 => ?_) (kf := fun q18 => ?_)
        · replace hf := ite_t q18 hf
          exact r_L_law_1432 (k18) hk18 FU w17 x3 hf
        · replace hf := ite_f q18 hf
          obtain ⟨rfl, rfl⟩ := ret_e hf
          exact bL_law_647 
      · replace hf := ite_f q15 hf
        refine bL_law_636 (k := ?_)
        obtain ⟨v21, w21, e21, hf⟩ := bI_e hf
        refine bL_law_641 (ct := c_M_meet (d := d + 62) w14 (w14.1 83 (x3 + 1).toNatClampNeg) (w14.1 83 (x3 + 2).toNatClampNeg) (1 : Int32) e21) (k := ?_)
        refine bL_law_644 (kt := fun q22 => ?_) (kf := fun q22 => ?_)
        · replace hf := ite_t q22 hf
          exact r_L_law_1432 (k18) hk18 FU w21 x3 hf
        · replace hf := ite_f q22 hf
          obtain ⟨rfl, rfl⟩ := ret_e hf
          exact bL_law_647 
def f_L_law_557 (k18 : MW → Int32 → Option RT) : Nat → MW → Int32 → Option RT
  | 0, _, _ => none
  | n + 1, w, x3 => grd (vpb (x3 + 1) (aln w 83) = true) (grd (vpb (x3 + 2) (aln w 83) = true) (bI (f_X_manOf w (w.1 83 (x3 + 1).toNatClampNeg) (w.1 83 (x3 + 2).toNatClampNeg)) (fun v1 w1 => grd (vpb (x3 + 1) (aln w1 83) = true) (grd (vpb (x3 + 2) (aln w1 83) = true) (bI (f_M_manOf w1 (w1.1 83 (x3 + 1).toNatClampNeg) (w1.1 83 (x3 + 2).toNatClampNeg)) (fun v2 w2 => if v1 = v2 then (f_L_law_1432 k18 FU w2 x3) else (some (some (.int (0 : Int32)), w2))))))))
set_option maxHeartbeats 4000000 in
theorem r_L_law_557 {d : Nat} {r : Option Value} {w' : MW} (k18 : MW → Int32 → Option RT) (hk18 : ∀ w x3, k18 w x3 = some (r, w') → Rn (d + 65) mL_law 18 [some (.ref 83), some (.ref 0), some (.ref 62), some (.int x3)] [] w r w') : ∀ (n : Nat) (w : MW) (x3 : Int32), f_L_law_557 k18 n w x3 = some (r, w') → Rn (d + 65) mL_law 557 [some (.ref 83), some (.ref 0), some (.ref 62), some (.int x3)] [] w r w' := by
  intro n
  induction n with
  | zero =>
    intro w x3 hf
    cases hf
  | succ n ih =>
    intro w x3 hf
    rw [f_L_law_557] at hf
    obtain ⟨g1_0, hf⟩ := grd_e hf
    obtain ⟨g1_1, hf⟩ := grd_e hf
    obtain ⟨v1, w1, e1, hf⟩ := bI_e hf
    refine bL_law_557 (h1 := (Or.inr (by decide))) (h2 := (vpb_ok g1_0)) (h3 := (Or.inr (by decide))) (h4 := (vpb_ok g1_1)) (ct := c_X_manOf (d := d + 60) w (w.1 83 (x3 + 1).toNatClampNeg) (w.1 83 (x3 + 2).toNatClampNeg) e1) (k := ?_)
    obtain ⟨g2_0, hf⟩ := grd_e hf
    obtain ⟨g2_1, hf⟩ := grd_e hf
    obtain ⟨v2, w2, e2, hf⟩ := bI_e hf
    refine bL_law_571 (h1 := (Or.inr (by decide))) (h2 := (vpb_ok g2_0)) (h3 := (Or.inr (by decide))) (h4 := (vpb_ok g2_1)) (ct := c_M_manOf (d := d + 62) w1 (w1.1 83 (x3 + 1).toNatClampNeg) (w1.1 83 (x3 + 2).toNatClampNeg) e2) (k := ?_)
    refine bL_law_585 (kt := fun q3 => ?_) (kf := fun q3 => ?_)
    · replace hf := ite_t q3 hf
      exact r_L_law_1432 (k18) hk18 FU w2 x3 hf
    · replace hf := ite_f q3 hf
      obtain ⟨rfl, rfl⟩ := ret_e hf
      exact bL_law_588 
def f_L_law_514 (k18 : MW → Int32 → Option RT) : Nat → MW → Int32 → Option RT
  | 0, _, _ => none
  | n + 1, w, x3 => grd (vpb (x3 + 1) (aln w 83) = true) (grd (vpb (x3 + 2) (aln w 83) = true) (grd (vpb (x3 + 3) (aln w 83) = true) (bI (f_X_man w (w.1 83 (x3 + 1).toNatClampNeg) (w.1 83 (x3 + 2).toNatClampNeg) (w.1 83 (x3 + 3).toNatClampNeg)) (fun v1 w1 => grd (vpb (x3 + 1) (aln w1 83) = true) (grd (vpb (x3 + 2) (aln w1 83) = true) (grd (vpb (x3 + 3) (aln w1 83) = true) (bI (f_M_man w1 (w1.1 83 (x3 + 1).toNatClampNeg) (w1.1 83 (x3 + 2).toNatClampNeg) (w1.1 83 (x3 + 3).toNatClampNeg)) (fun v2 w2 => if v1 = v2 then (f_L_law_1432 k18 FU w2 x3) else (some (some (.int (0 : Int32)), w2))))))))))
set_option maxHeartbeats 4000000 in
theorem r_L_law_514 {d : Nat} {r : Option Value} {w' : MW} (k18 : MW → Int32 → Option RT) (hk18 : ∀ w x3, k18 w x3 = some (r, w') → Rn (d + 65) mL_law 18 [some (.ref 83), some (.ref 0), some (.ref 62), some (.int x3)] [] w r w') : ∀ (n : Nat) (w : MW) (x3 : Int32), f_L_law_514 k18 n w x3 = some (r, w') → Rn (d + 65) mL_law 514 [some (.ref 83), some (.ref 0), some (.ref 62), some (.int x3)] [] w r w' := by
  intro n
  induction n with
  | zero =>
    intro w x3 hf
    cases hf
  | succ n ih =>
    intro w x3 hf
    rw [f_L_law_514] at hf
    obtain ⟨g1_0, hf⟩ := grd_e hf
    obtain ⟨g1_1, hf⟩ := grd_e hf
    obtain ⟨g1_2, hf⟩ := grd_e hf
    obtain ⟨v1, w1, e1, hf⟩ := bI_e hf
    refine bL_law_514 (h1 := (Or.inr (by decide))) (h2 := (vpb_ok g1_0)) (h3 := (Or.inr (by decide))) (h4 := (vpb_ok g1_1)) (h5 := (Or.inr (by decide))) (h6 := (vpb_ok g1_2)) (ct := c_X_man (d := d + 62) w (w.1 83 (x3 + 1).toNatClampNeg) (w.1 83 (x3 + 2).toNatClampNeg) (w.1 83 (x3 + 3).toNatClampNeg) e1) (k := ?_)
    obtain ⟨g2_0, hf⟩ := grd_e hf
    obtain ⟨g2_1, hf⟩ := grd_e hf
    obtain ⟨g2_2, hf⟩ := grd_e hf
    obtain ⟨v2, w2, e2, hf⟩ := bI_e hf
    refine bL_law_533 (h1 := (Or.inr (by decide))) (h2 := (vpb_ok g2_0)) (h3 := (Or.inr (by decide))) (h4 := (vpb_ok g2_1)) (h5 := (Or.inr (by decide))) (h6 := (vpb_ok g2_2)) (ct := c_M_man (d := d + 63) w1 (w1.1 83 (x3 + 1).toNatClampNeg) (w1.1 83 (x3 + 2).toNatClampNeg) (w1.1 83 (x3 + 3).toNatClampNeg) e2) (k := ?_)
    refine bL_law_552 (kt := fun q3 => ?_) (kf := fun q3 => ?_)
    · replace hf := ite_t q3 hf
      exact r_L_law_1432 (k18) hk18 FU w2 x3 hf
    · replace hf := ite_f q3 hf
      obtain ⟨rfl, rfl⟩ := ret_e hf
      exact bL_law_555 
def f_L_law_481 (k18 : MW → Int32 → Option RT) : Nat → MW → Int32 → Option RT
  | 0, _, _ => none
  | n + 1, w, x3 => grd (vpb (x3 + 1) (aln w 83) = true) (grd (vpb (x3 + 2) (aln w 83) = true) (bI (f_X_says w (w.1 83 (x3 + 1).toNatClampNeg) (w.1 83 (x3 + 2).toNatClampNeg)) (fun v1 w1 => grd (vpb (x3 + 1) (aln w1 83) = true) (grd (vpb (x3 + 2) (aln w1 83) = true) (bI (f_M_says w1 (w1.1 83 (x3 + 1).toNatClampNeg) (w1.1 83 (x3 + 2).toNatClampNeg)) (fun v2 w2 => if v1 = v2 then (f_L_law_1432 k18 FU w2 x3) else (some (some (.int (0 : Int32)), w2))))))))
set_option maxHeartbeats 4000000 in
theorem r_L_law_481 {d : Nat} {r : Option Value} {w' : MW} (k18 : MW → Int32 → Option RT) (hk18 : ∀ w x3, k18 w x3 = some (r, w') → Rn (d + 65) mL_law 18 [some (.ref 83), some (.ref 0), some (.ref 62), some (.int x3)] [] w r w') : ∀ (n : Nat) (w : MW) (x3 : Int32), f_L_law_481 k18 n w x3 = some (r, w') → Rn (d + 65) mL_law 481 [some (.ref 83), some (.ref 0), some (.ref 62), some (.int x3)] [] w r w' := by
  intro n
  induction n with
  | zero =>
    intro w x3 hf
    cases hf
  | succ n ih =>
    intro w x3 hf
    rw [f_L_law_481] at hf
    obtain ⟨g1_0, hf⟩ := grd_e hf
    obtain ⟨g1_1, hf⟩ := grd_e hf
    obtain ⟨v1, w1, e1, hf⟩ := bI_e hf
    refine bL_law_481 (h1 := (Or.inr (by decide))) (h2 := (vpb_ok g1_0)) (h3 := (Or.inr (by decide))) (h4 := (vpb_ok g1_1)) (ct := c_X_says (d := d + 60) w (w.1 83 (x3 + 1).toNatClampNeg) (w.1 83 (x3 + 2).toNatClampNeg) e1) (k := ?_)
    obtain ⟨g2_0, hf⟩ := grd_e hf
    obtain ⟨g2_1, hf⟩ := grd_e hf
    obtain ⟨v2, w2, e2, hf⟩ := bI_e hf
    refine bL_law_495 (h1 := (Or.inr (by decide))) (h2 := (vpb_ok g2_0)) (h3 := (Or.inr (by decide))) (h4 := (vpb_ok g2_1)) (ct := c_M_says (d := d + 62) w1 (w1.1 83 (x3 + 1).toNatClampNeg) (w1.1 83 (x3 + 2).toNatClampNeg) e2) (k := ?_)
    refine bL_law_509 (kt := fun q3 => ?_) (kf := fun q3 => ?_)
    · replace hf := ite_t q3 hf
      exact r_L_law_1432 (k18) hk18 FU w2 x3 hf
    · replace hf := ite_f q3 hf
      obtain ⟨rfl, rfl⟩ := ret_e hf
      exact bL_law_512 
def f_L_law_458 (k18 : MW → Int32 → Option RT) : Nat → MW → Int32 → Option RT
  | 0, _, _ => none
  | n + 1, w, x3 => grd (vpb (x3 + 1) (aln w 83) = true) (bI (f_X_holds w (w.1 83 (x3 + 1).toNatClampNeg)) (fun v1 w1 => grd (vpb (x3 + 1) (aln w1 83) = true) (bI (f_M_holds w1 (w1.1 83 (x3 + 1).toNatClampNeg)) (fun v2 w2 => if v1 = v2 then (f_L_law_1432 k18 FU w2 x3) else (some (some (.int (0 : Int32)), w2))))))
set_option maxHeartbeats 4000000 in
theorem r_L_law_458 {d : Nat} {r : Option Value} {w' : MW} (k18 : MW → Int32 → Option RT) (hk18 : ∀ w x3, k18 w x3 = some (r, w') → Rn (d + 65) mL_law 18 [some (.ref 83), some (.ref 0), some (.ref 62), some (.int x3)] [] w r w') : ∀ (n : Nat) (w : MW) (x3 : Int32), f_L_law_458 k18 n w x3 = some (r, w') → Rn (d + 65) mL_law 458 [some (.ref 83), some (.ref 0), some (.ref 62), some (.int x3)] [] w r w' := by
  intro n
  induction n with
  | zero =>
    intro w x3 hf
    cases hf
  | succ n ih =>
    intro w x3 hf
    rw [f_L_law_458] at hf
    obtain ⟨g1_0, hf⟩ := grd_e hf
    obtain ⟨v1, w1, e1, hf⟩ := bI_e hf
    refine bL_law_458 (h1 := (Or.inr (by decide))) (h2 := (vpb_ok g1_0)) (ct := c_X_holds (d := d + 63) w (w.1 83 (x3 + 1).toNatClampNeg) e1) (k := ?_)
    obtain ⟨g2_0, hf⟩ := grd_e hf
    obtain ⟨v2, w2, e2, hf⟩ := bI_e hf
    refine bL_law_467 (h1 := (Or.inr (by decide))) (h2 := (vpb_ok g2_0)) (ct := c_M_holds (d := d + 63) w1 (w1.1 83 (x3 + 1).toNatClampNeg) e2) (k := ?_)
    refine bL_law_476 (kt := fun q3 => ?_) (kf := fun q3 => ?_)
    · replace hf := ite_t q3 hf
      exact r_L_law_1432 (k18) hk18 FU w2 x3 hf
    · replace hf := ite_f q3 hf
      obtain ⟨rfl, rfl⟩ := ret_e hf
      exact bL_law_479 
def f_L_law_425 (k18 : MW → Int32 → Option RT) : Nat → MW → Int32 → Option RT
  | 0, _, _ => none
  | n + 1, w, x3 => grd (vpb (x3 + 1) (aln w 83) = true) (grd (vpb (x3 + 2) (aln w 83) = true) (bI (f_X_show w (w.1 83 (x3 + 1).toNatClampNeg) (w.1 83 (x3 + 2).toNatClampNeg)) (fun v1 w1 => grd (vpb (x3 + 1) (aln w1 83) = true) (grd (vpb (x3 + 2) (aln w1 83) = true) (bI (f_M_show w1 (w1.1 83 (x3 + 1).toNatClampNeg) (w1.1 83 (x3 + 2).toNatClampNeg)) (fun v2 w2 => if v1 = v2 then (f_L_law_1432 k18 FU w2 x3) else (some (some (.int (0 : Int32)), w2))))))))
set_option maxHeartbeats 4000000 in
theorem r_L_law_425 {d : Nat} {r : Option Value} {w' : MW} (k18 : MW → Int32 → Option RT) (hk18 : ∀ w x3, k18 w x3 = some (r, w') → Rn (d + 65) mL_law 18 [some (.ref 83), some (.ref 0), some (.ref 62), some (.int x3)] [] w r w') : ∀ (n : Nat) (w : MW) (x3 : Int32), f_L_law_425 k18 n w x3 = some (r, w') → Rn (d + 65) mL_law 425 [some (.ref 83), some (.ref 0), some (.ref 62), some (.int x3)] [] w r w' := by
  intro n
  induction n with
  | zero =>
    intro w x3 hf
    cases hf
  | succ n ih =>
    intro w x3 hf
    rw [f_L_law_425] at hf
    obtain ⟨g1_0, hf⟩ := grd_e hf
    obtain ⟨g1_1, hf⟩ := grd_e hf
    obtain ⟨v1, w1, e1, hf⟩ := bI_e hf
    refine bL_law_425 (h1 := (Or.inr (by decide))) (h2 := (vpb_ok g1_0)) (h3 := (Or.inr (by decide))) (h4 := (vpb_ok g1_1)) (ct := c_X_show (d := d + 63) w (w.1 83 (x3 + 1).toNatClampNeg) (w.1 83 (x3 + 2).toNatClampNeg) e1) (k := ?_)
    obtain ⟨g2_0, hf⟩ := grd_e hf
    obtain ⟨g2_1, hf⟩ := grd_e hf
    obtain ⟨v2, w2, e2, hf⟩ := bI_e hf
    refine bL_law_439 (h1 := (Or.inr (by decide))) (h2 := (vpb_ok g2_0)) (h3 := (Or.inr (by decide))) (h4 := (vpb_ok g2_1)) (ct := c_M_show (d := d + 62) w1 (w1.1 83 (x3 + 1).toNatClampNeg) (w1.1 83 (x3 + 2).toNatClampNeg) e2) (k := ?_)
    refine bL_law_453 (kt := fun q3 => ?_) (kf := fun q3 => ?_)
    · replace hf := ite_t q3 hf
      exact r_L_law_1432 (k18) hk18 FU w2 x3 hf
    · replace hf := ite_f q3 hf
      obtain ⟨rfl, rfl⟩ := ret_e hf
      exact bL_law_456 
def f_L_law_391 (k18 : MW → Int32 → Option RT) : Nat → MW → Int32 → Option RT
  | 0, _, _ => none
  | n + 1, w, x3 => grd (vpb (x3 + 1) (aln w 83) = true) (grd (vpb (x3 + 2) (aln w 83) = true) (bJ (f_X_element w (w.1 83 (x3 + 1).toNatClampNeg) (w.1 83 (x3 + 2).toNatClampNeg)) (fun v1 w1 => grd (vpb (x3 + 1) (aln w1 83) = true) (grd (vpb (x3 + 2) (aln w1 83) = true) (bJ (f_M_element w1 (w1.1 83 (x3 + 1).toNatClampNeg) (w1.1 83 (x3 + 2).toNatClampNeg)) (fun v2 w2 => if (lg_cmp v1 v2) = 0 then (f_L_law_1432 k18 FU w2 x3) else (some (some (.int (0 : Int32)), w2))))))))
set_option maxHeartbeats 4000000 in
theorem r_L_law_391 {d : Nat} {r : Option Value} {w' : MW} (k18 : MW → Int32 → Option RT) (hk18 : ∀ w x3, k18 w x3 = some (r, w') → Rn (d + 65) mL_law 18 [some (.ref 83), some (.ref 0), some (.ref 62), some (.int x3)] [] w r w') : ∀ (n : Nat) (w : MW) (x3 : Int32), f_L_law_391 k18 n w x3 = some (r, w') → Rn (d + 65) mL_law 391 [some (.ref 83), some (.ref 0), some (.ref 62), some (.int x3)] [] w r w' := by
  intro n
  induction n with
  | zero =>
    intro w x3 hf
    cases hf
  | succ n ih =>
    intro w x3 hf
    rw [f_L_law_391] at hf
    obtain ⟨g1_0, hf⟩ := grd_e hf
    obtain ⟨g1_1, hf⟩ := grd_e hf
    obtain ⟨v1, w1, e1, hf⟩ := bJ_e hf
    refine bL_law_391 (h1 := (Or.inr (by decide))) (h2 := (vpb_ok g1_0)) (h3 := (Or.inr (by decide))) (h4 := (vpb_ok g1_1)) (ct := c_X_element (d := d + 63) w (w.1 83 (x3 + 1).toNatClampNeg) (w.1 83 (x3 + 2).toNatClampNeg) e1) (k := ?_)
    obtain ⟨g2_0, hf⟩ := grd_e hf
    obtain ⟨g2_1, hf⟩ := grd_e hf
    obtain ⟨v2, w2, e2, hf⟩ := bJ_e hf
    refine bL_law_405 (h1 := (Or.inr (by decide))) (h2 := (vpb_ok g2_0)) (h3 := (Or.inr (by decide))) (h4 := (vpb_ok g2_1)) (ct := c_M_element (d := d + 63) w1 (w1.1 83 (x3 + 1).toNatClampNeg) (w1.1 83 (x3 + 2).toNatClampNeg) e2) (k := ?_)
    refine bL_law_419 (kt := fun q3 => ?_) (kf := fun q3 => ?_)
    · replace hf := ite_t q3 hf
      exact r_L_law_1432 (k18) hk18 FU w2 x3 hf
    · replace hf := ite_f q3 hf
      obtain ⟨rfl, rfl⟩ := ret_e hf
      exact bL_law_423 
def f_L_law_328 (k18 : MW → Int32 → Option RT) : Nat → MW → Int32 → Option RT
  | 0, _, _ => none
  | n + 1, w, x3 => grd (vpb (x3 + 1) (aln w 83) = true) (grd (vpb (x3 + 2) (aln w 83) = true) (grd (vpb (x3 + 3) (aln w 83) = true) (grd (vpb (x3 + 4) (aln w 83) = true) (grd (vpb (x3 + 5) (aln w 83) = true) (bI (f_X_copy w (w.1 83 (x3 + 1).toNatClampNeg) (w.1 83 (x3 + 2).toNatClampNeg) (w.1 83 (x3 + 3).toNatClampNeg) (w.1 83 (x3 + 4).toNatClampNeg) (w.1 83 (x3 + 5).toNatClampNeg)) (fun v1 w1 => grd (vpb (x3 + 1) (aln w1 83) = true) (grd (vpb (x3 + 2) (aln w1 83) = true) (grd (vpb (x3 + 3) (aln w1 83) = true) (grd (vpb (x3 + 4) (aln w1 83) = true) (grd (vpb (x3 + 5) (aln w1 83) = true) (bI (f_M_copy w1 (w1.1 83 (x3 + 1).toNatClampNeg) (w1.1 83 (x3 + 2).toNatClampNeg) (w1.1 83 (x3 + 3).toNatClampNeg) (w1.1 83 (x3 + 4).toNatClampNeg) (w1.1 83 (x3 + 5).toNatClampNeg)) (fun v2 w2 => if v1 = v2 then (f_L_law_1432 k18 FU w2 x3) else (some (some (.int (0 : Int32)), w2))))))))))))))
set_option maxHeartbeats 4000000 in
theorem r_L_law_328 {d : Nat} {r : Option Value} {w' : MW} (k18 : MW → Int32 → Option RT) (hk18 : ∀ w x3, k18 w x3 = some (r, w') → Rn (d + 65) mL_law 18 [some (.ref 83), some (.ref 0), some (.ref 62), some (.int x3)] [] w r w') : ∀ (n : Nat) (w : MW) (x3 : Int32), f_L_law_328 k18 n w x3 = some (r, w') → Rn (d + 65) mL_law 328 [some (.ref 83), some (.ref 0), some (.ref 62), some (.int x3)] [] w r w' := by
  intro n
  induction n with
  | zero =>
    intro w x3 hf
    cases hf
  | succ n ih =>
    intro w x3 hf
    rw [f_L_law_328] at hf
    obtain ⟨g1_0, hf⟩ := grd_e hf
    obtain ⟨g1_1, hf⟩ := grd_e hf
    obtain ⟨g1_2, hf⟩ := grd_e hf
    obtain ⟨g1_3, hf⟩ := grd_e hf
    obtain ⟨g1_4, hf⟩ := grd_e hf
    obtain ⟨v1, w1, e1, hf⟩ := bI_e hf
    refine bL_law_328 (h1 := (Or.inr (by decide))) (h2 := (vpb_ok g1_0)) (h3 := (Or.inr (by decide))) (h4 := (vpb_ok g1_1)) (h5 := (Or.inr (by decide))) (h6 := (vpb_ok g1_2)) (h7 := (Or.inr (by decide))) (h8 := (vpb_ok g1_3)) (h9 := (Or.inr (by decide))) (h10 := (vpb_ok g1_4)) (ct := c_X_copy (d := d + 63) w (w.1 83 (x3 + 1).toNatClampNeg) (w.1 83 (x3 + 2).toNatClampNeg) (w.1 83 (x3 + 3).toNatClampNeg) (w.1 83 (x3 + 4).toNatClampNeg) (w.1 83 (x3 + 5).toNatClampNeg) e1) (k := ?_)
    obtain ⟨g2_0, hf⟩ := grd_e hf
    obtain ⟨g2_1, hf⟩ := grd_e hf
    obtain ⟨g2_2, hf⟩ := grd_e hf
    obtain ⟨g2_3, hf⟩ := grd_e hf
    obtain ⟨g2_4, hf⟩ := grd_e hf
    obtain ⟨v2, w2, e2, hf⟩ := bI_e hf
    refine bL_law_357 (h1 := (Or.inr (by decide))) (h2 := (vpb_ok g2_0)) (h3 := (Or.inr (by decide))) (h4 := (vpb_ok g2_1)) (h5 := (Or.inr (by decide))) (h6 := (vpb_ok g2_2)) (h7 := (Or.inr (by decide))) (h8 := (vpb_ok g2_3)) (h9 := (Or.inr (by decide))) (h10 := (vpb_ok g2_4)) (ct := c_M_copy (d := d + 63) w1 (w1.1 83 (x3 + 1).toNatClampNeg) (w1.1 83 (x3 + 2).toNatClampNeg) (w1.1 83 (x3 + 3).toNatClampNeg) (w1.1 83 (x3 + 4).toNatClampNeg) (w1.1 83 (x3 + 5).toNatClampNeg) e2) (k := ?_)
    refine bL_law_386 (kt := fun q3 => ?_) (kf := fun q3 => ?_)
    · replace hf := ite_t q3 hf
      exact r_L_law_1432 (k18) hk18 FU w2 x3 hf
    · replace hf := ite_f q3 hf
      obtain ⟨rfl, rfl⟩ := ret_e hf
      exact bL_law_389 
def f_L_law_255 (k18 : MW → Int32 → Option RT) : Nat → MW → Int32 → Option RT
  | 0, _, _ => none
  | n + 1, w, x3 => grd (vpb (x3 + 1) (aln w 83) = true) (grd (vpb (x3 + 2) (aln w 83) = true) (grd (vpb (x3 + 3) (aln w 83) = true) (grd (vpb (x3 + 4) (aln w 83) = true) (bI (f_X_set w (w.1 83 (x3 + 1).toNatClampNeg) (w.1 83 (x3 + 2).toNatClampNeg) ((((w.1 83 (x3 + 3).toNatClampNeg).toInt64) <<< ((32 : Int32).toInt64 &&& 63)) ||| (((w.1 83 (x3 + 4).toNatClampNeg).toInt64) &&& 4294967295))) (fun v1 w1 => grd (vpb (x3 + 1) (aln w1 83) = true) (grd (vpb (x3 + 2) (aln w1 83) = true) (grd (vpb (x3 + 3) (aln w1 83) = true) (grd (vpb (x3 + 4) (aln w1 83) = true) (bI (f_M_set w1 (w1.1 83 (x3 + 1).toNatClampNeg) (w1.1 83 (x3 + 2).toNatClampNeg) ((((w1.1 83 (x3 + 3).toNatClampNeg).toInt64) <<< ((32 : Int32).toInt64 &&& 63)) ||| (((w1.1 83 (x3 + 4).toNatClampNeg).toInt64) &&& 4294967295))) (fun v2 w2 => if v1 = v2 then (f_L_law_1432 k18 FU w2 x3) else (some (some (.int (0 : Int32)), w2))))))))))))
set_option maxHeartbeats 4000000 in
theorem r_L_law_255 {d : Nat} {r : Option Value} {w' : MW} (k18 : MW → Int32 → Option RT) (hk18 : ∀ w x3, k18 w x3 = some (r, w') → Rn (d + 65) mL_law 18 [some (.ref 83), some (.ref 0), some (.ref 62), some (.int x3)] [] w r w') : ∀ (n : Nat) (w : MW) (x3 : Int32), f_L_law_255 k18 n w x3 = some (r, w') → Rn (d + 65) mL_law 255 [some (.ref 83), some (.ref 0), some (.ref 62), some (.int x3)] [] w r w' := by
  intro n
  induction n with
  | zero =>
    intro w x3 hf
    cases hf
  | succ n ih =>
    intro w x3 hf
    rw [f_L_law_255] at hf
    obtain ⟨g1_0, hf⟩ := grd_e hf
    obtain ⟨g1_1, hf⟩ := grd_e hf
    obtain ⟨g1_2, hf⟩ := grd_e hf
    obtain ⟨g1_3, hf⟩ := grd_e hf
    obtain ⟨v1, w1, e1, hf⟩ := bI_e hf
    refine bL_law_255 (h1 := (Or.inr (by decide))) (h2 := (vpb_ok g1_0)) (h3 := (Or.inr (by decide))) (h4 := (vpb_ok g1_1)) (h5 := (Or.inr (by decide))) (h6 := (vpb_ok g1_2)) (h7 := (Or.inr (by decide))) (h8 := (vpb_ok g1_3)) (ct := c_X_set (d := d + 62) w (w.1 83 (x3 + 1).toNatClampNeg) (w.1 83 (x3 + 2).toNatClampNeg) ((((w.1 83 (x3 + 3).toNatClampNeg).toInt64) <<< ((32 : Int32).toInt64 &&& 63)) ||| (((w.1 83 (x3 + 4).toNatClampNeg).toInt64) &&& 4294967295)) e1) (k := ?_)
    obtain ⟨g2_0, hf⟩ := grd_e hf
    obtain ⟨g2_1, hf⟩ := grd_e hf
    obtain ⟨g2_2, hf⟩ := grd_e hf
    obtain ⟨g2_3, hf⟩ := grd_e hf
    obtain ⟨v2, w2, e2, hf⟩ := bI_e hf
    refine bL_law_289 (h1 := (Or.inr (by decide))) (h2 := (vpb_ok g2_0)) (h3 := (Or.inr (by decide))) (h4 := (vpb_ok g2_1)) (h5 := (Or.inr (by decide))) (h6 := (vpb_ok g2_2)) (h7 := (Or.inr (by decide))) (h8 := (vpb_ok g2_3)) (ct := c_M_set (d := d + 62) w1 (w1.1 83 (x3 + 1).toNatClampNeg) (w1.1 83 (x3 + 2).toNatClampNeg) ((((w1.1 83 (x3 + 3).toNatClampNeg).toInt64) <<< ((32 : Int32).toInt64 &&& 63)) ||| (((w1.1 83 (x3 + 4).toNatClampNeg).toInt64) &&& 4294967295)) e2) (k := ?_)
    refine bL_law_323 (kt := fun q3 => ?_) (kf := fun q3 => ?_)
    · replace hf := ite_t q3 hf
      exact r_L_law_1432 (k18) hk18 FU w2 x3 hf
    · replace hf := ite_f q3 hf
      obtain ⟨rfl, rfl⟩ := ret_e hf
      exact bL_law_326 
def f_L_law_212 (k18 : MW → Int32 → Option RT) : Nat → MW → Int32 → Option RT
  | 0, _, _ => none
  | n + 1, w, x3 => grd (vpb (x3 + 1) (aln w 83) = true) (grd (vpb (x3 + 2) (aln w 83) = true) (grd (vpb (x3 + 3) (aln w 83) = true) (bI (f_X_row w (w.1 83 (x3 + 1).toNatClampNeg) (w.1 83 (x3 + 2).toNatClampNeg) (w.1 83 (x3 + 3).toNatClampNeg)) (fun v1 w1 => grd (vpb (x3 + 1) (aln w1 83) = true) (grd (vpb (x3 + 2) (aln w1 83) = true) (grd (vpb (x3 + 3) (aln w1 83) = true) (bI (f_M_row w1 (w1.1 83 (x3 + 1).toNatClampNeg) (w1.1 83 (x3 + 2).toNatClampNeg) (w1.1 83 (x3 + 3).toNatClampNeg)) (fun v2 w2 => if v1 = v2 then (f_L_law_1432 k18 FU w2 x3) else (some (some (.int (0 : Int32)), w2))))))))))
set_option maxHeartbeats 4000000 in
theorem r_L_law_212 {d : Nat} {r : Option Value} {w' : MW} (k18 : MW → Int32 → Option RT) (hk18 : ∀ w x3, k18 w x3 = some (r, w') → Rn (d + 65) mL_law 18 [some (.ref 83), some (.ref 0), some (.ref 62), some (.int x3)] [] w r w') : ∀ (n : Nat) (w : MW) (x3 : Int32), f_L_law_212 k18 n w x3 = some (r, w') → Rn (d + 65) mL_law 212 [some (.ref 83), some (.ref 0), some (.ref 62), some (.int x3)] [] w r w' := by
  intro n
  induction n with
  | zero =>
    intro w x3 hf
    cases hf
  | succ n ih =>
    intro w x3 hf
    rw [f_L_law_212] at hf
    obtain ⟨g1_0, hf⟩ := grd_e hf
    obtain ⟨g1_1, hf⟩ := grd_e hf
    obtain ⟨g1_2, hf⟩ := grd_e hf
    obtain ⟨v1, w1, e1, hf⟩ := bI_e hf
    refine bL_law_212 (h1 := (Or.inr (by decide))) (h2 := (vpb_ok g1_0)) (h3 := (Or.inr (by decide))) (h4 := (vpb_ok g1_1)) (h5 := (Or.inr (by decide))) (h6 := (vpb_ok g1_2)) (ct := c_X_row (d := d + 63) w (w.1 83 (x3 + 1).toNatClampNeg) (w.1 83 (x3 + 2).toNatClampNeg) (w.1 83 (x3 + 3).toNatClampNeg) e1) (k := ?_)
    obtain ⟨g2_0, hf⟩ := grd_e hf
    obtain ⟨g2_1, hf⟩ := grd_e hf
    obtain ⟨g2_2, hf⟩ := grd_e hf
    obtain ⟨v2, w2, e2, hf⟩ := bI_e hf
    refine bL_law_231 (h1 := (Or.inr (by decide))) (h2 := (vpb_ok g2_0)) (h3 := (Or.inr (by decide))) (h4 := (vpb_ok g2_1)) (h5 := (Or.inr (by decide))) (h6 := (vpb_ok g2_2)) (ct := c_M_row (d := d + 63) w1 (w1.1 83 (x3 + 1).toNatClampNeg) (w1.1 83 (x3 + 2).toNatClampNeg) (w1.1 83 (x3 + 3).toNatClampNeg) e2) (k := ?_)
    refine bL_law_250 (kt := fun q3 => ?_) (kf := fun q3 => ?_)
    · replace hf := ite_t q3 hf
      exact r_L_law_1432 (k18) hk18 FU w2 x3 hf
    · replace hf := ite_f q3 hf
      obtain ⟨rfl, rfl⟩ := ret_e hf
      exact bL_law_253 
def f_L_law_18 : Nat → MW → Int32 → Option RT
  | 0, _, _ => none
  | n + 1, w, x3 => if ((Int32.ofNat (aln w 83)) - 6) < x3 then (some (some (.int (1 : Int32)), w)) else (grd (vpb x3 (aln w 83) = true) (if ((w.1 83 x3.toNatClampNeg) &&& 63) = 0 then (f_L_law_212 (fun w x3 => f_L_law_18 n w x3) FU w x3) else if ((w.1 83 x3.toNatClampNeg) &&& 63) = 1 then (f_L_law_255 (fun w x3 => f_L_law_18 n w x3) FU w x3) else if ((w.1 83 x3.toNatClampNeg) &&& 63) = 2 then (f_L_law_328 (fun w x3 => f_L_law_18 n w x3) FU w x3) else if ((w.1 83 x3.toNatClampNeg) &&& 63) = 3 then (f_L_law_391 (fun w x3 => f_L_law_18 n w x3) FU w x3) else if ((w.1 83 x3.toNatClampNeg) &&& 63) = 4 then (f_L_law_425 (fun w x3 => f_L_law_18 n w x3) FU w x3) else if ((w.1 83 x3.toNatClampNeg) &&& 63) = 5 then (f_L_law_458 (fun w x3 => f_L_law_18 n w x3) FU w x3) else if ((w.1 83 x3.toNatClampNeg) &&& 63) = 6 then (f_L_law_481 (fun w x3 => f_L_law_18 n w x3) FU w x3) else if ((w.1 83 x3.toNatClampNeg) &&& 63) = 7 then (f_L_law_514 (fun w x3 => f_L_law_18 n w x3) FU w x3) else if ((w.1 83 x3.toNatClampNeg) &&& 63) = 8 then (f_L_law_557 (fun w x3 => f_L_law_18 n w x3) FU w x3) else if ((w.1 83 x3.toNatClampNeg) &&& 63) = 9 then (f_L_law_590 (fun w x3 => f_L_law_18 n w x3) FU w x3) else if ((w.1 83 x3.toNatClampNeg) &&& 63) = 10 then (f_L_law_649 (fun w x3 => f_L_law_18 n w x3) FU w x3) else if ((w.1 83 x3.toNatClampNeg) &&& 63) = 11 then (f_L_law_682 (fun w x3 => f_L_law_18 n w x3) FU w x3) else if ((w.1 83 x3.toNatClampNeg) &&& 63) = 12 then (f_L_law_705 (fun w x3 => f_L_law_18 n w x3) FU w x3) else if ((w.1 83 x3.toNatClampNeg) &&& 63) = 13 then (f_L_law_728 (fun w x3 => f_L_law_18 n w x3) FU w x3) else if ((w.1 83 x3.toNatClampNeg) &&& 63) = 14 then (f_L_law_741 (fun w x3 => f_L_law_18 n w x3) FU w x3) else if ((w.1 83 x3.toNatClampNeg) &&& 63) = 15 then (f_L_law_774 (fun w x3 => f_L_law_18 n w x3) FU w x3) else if ((w.1 83 x3.toNatClampNeg) &&& 63) = 16 then (f_L_law_807 (fun w x3 => f_L_law_18 n w x3) FU w x3) else if ((w.1 83 x3.toNatClampNeg) &&& 63) = 17 then (f_L_law_820 (fun w x3 => f_L_law_18 n w x3) FU w x3) else if ((w.1 83 x3.toNatClampNeg) &&& 63) = 18 then (f_L_law_853 (fun w x3 => f_L_law_18 n w x3) FU w x3) else if ((w.1 83 x3.toNatClampNeg) &&& 63) = 19 then (f_L_law_876 (fun w x3 => f_L_law_18 n w x3) FU w x3) else if ((w.1 83 x3.toNatClampNeg) &&& 63) = 20 then (f_L_law_909 (fun w x3 => f_L_law_18 n w x3) FU w x3) else if ((w.1 83 x3.toNatClampNeg) &&& 63) = 21 then (f_L_law_922 (fun w x3 => f_L_law_18 n w x3) FU w x3) else if ((w.1 83 x3.toNatClampNeg) &&& 63) = 22 then (f_L_law_945 (fun w x3 => f_L_law_18 n w x3) FU w x3) else if ((w.1 83 x3.toNatClampNeg) &&& 63) = 23 then (f_L_law_968 (fun w x3 => f_L_law_18 n w x3) FU w x3) else if ((w.1 83 x3.toNatClampNeg) &&& 63) = 24 then (f_L_law_991 (fun w x3 => f_L_law_18 n w x3) FU w x3) else if ((w.1 83 x3.toNatClampNeg) &&& 63) = 25 then (f_L_law_1014 (fun w x3 => f_L_law_18 n w x3) FU w x3) else if ((w.1 83 x3.toNatClampNeg) &&& 63) = 26 then (f_L_law_1027 (fun w x3 => f_L_law_18 n w x3) FU w x3) else if ((w.1 83 x3.toNatClampNeg) &&& 63) = 27 then (f_L_law_1080 (fun w x3 => f_L_law_18 n w x3) FU w x3) else if ((w.1 83 x3.toNatClampNeg) &&& 63) = 28 then (f_L_law_1103 (fun w x3 => f_L_law_18 n w x3) FU w x3) else if ((w.1 83 x3.toNatClampNeg) &&& 63) = 29 then (f_L_law_1136 (fun w x3 => f_L_law_18 n w x3) FU w x3) else if ((w.1 83 x3.toNatClampNeg) &&& 63) = 30 then (f_L_law_1159 (fun w x3 => f_L_law_18 n w x3) FU w x3) else if ((w.1 83 x3.toNatClampNeg) &&& 63) = 31 then (f_L_law_1172 (fun w x3 => f_L_law_18 n w x3) FU w x3) else if ((w.1 83 x3.toNatClampNeg) &&& 63) = 32 then (f_L_law_1205 (fun w x3 => f_L_law_18 n w x3) FU w x3) else if ((w.1 83 x3.toNatClampNeg) &&& 63) = 33 then (f_L_law_1248 (fun w x3 => f_L_law_18 n w x3) FU w x3) else if ((w.1 83 x3.toNatClampNeg) &&& 63) = 34 then (f_L_law_1271 (fun w x3 => f_L_law_18 n w x3) FU w x3) else if ((w.1 83 x3.toNatClampNeg) &&& 63) = 35 then (f_L_law_1294 (fun w x3 => f_L_law_18 n w x3) FU w x3) else if ((w.1 83 x3.toNatClampNeg) &&& 63) = 36 then (f_L_law_1317 (fun w x3 => f_L_law_18 n w x3) FU w x3) else if ((w.1 83 x3.toNatClampNeg) &&& 63) = 37 then (f_L_law_1360 (fun w x3 => f_L_law_18 n w x3) FU w x3) else if ((w.1 83 x3.toNatClampNeg) &&& 63) = 38 then (f_L_law_1383 (fun w x3 => f_L_law_18 n w x3) FU w x3) else if ((w.1 83 x3.toNatClampNeg) &&& 63) = 39 then (f_L_law_1396 (fun w x3 => f_L_law_18 n w x3) FU w x3) else if ((w.1 83 x3.toNatClampNeg) &&& 63) = 40 then (f_L_law_1409 (fun w x3 => f_L_law_18 n w x3) FU w x3) else (f_L_law_1432 (fun w x3 => f_L_law_18 n w x3) FU w x3)))
set_option maxHeartbeats 4000000 in
theorem r_L_law_18 {d : Nat} {r : Option Value} {w' : MW} : ∀ (n : Nat) (w : MW) (x3 : Int32), f_L_law_18 n w x3 = some (r, w') → Rn (d + 65) mL_law 18 [some (.ref 83), some (.ref 0), some (.ref 62), some (.int x3)] [] w r w' := by
  intro n
  induction n with
  | zero =>
    intro w x3 hf
    cases hf
  | succ n ih =>
    intro w x3 hf
    rw [f_L_law_18] at hf
    refine bL_law_18 (h1 := (Or.inr (by decide))) (kt := fun q1 => ?_) (kf := fun q1 => ?_)
    · replace hf := ite_t q1 hf
      obtain ⟨rfl, rfl⟩ := ret_e hf
      exact bL_law_1438 
    · replace hf := ite_f q1 hf
      obtain ⟨g3_0, hf⟩ := grd_e hf
      refine bL_law_27 (h1 := (Or.inr (by decide))) (h2 := (vpb_ok g3_0)) (k0 := fun q3_0 => ?_) (k1 := fun q3_1 => ?_) (k2 := fun q3_2 => ?_) (k3 := fun q3_3 => ?_) (k4 := fun q3_4 => ?_) (k5 := fun q3_5 => ?_) (k6 := fun q3_6 => ?_) (k7 := fun q3_7 => ?_) (k8 := fun q3_8 => ?_) (k9 := fun q3_9 => ?_) (k10 := fun q3_10 => ?_) (k11 := fun q3_11 => ?_) (k12 := fun q3_12 => ?_) (k13 := fun q3_13 => ?_) (k14 := fun q3_14 => ?_) (k15 := fun q3_15 => ?_) (k16 := fun q3_16 => ?_) (k17 := fun q3_17 => ?_) (k18 := fun q3_18 => ?_) (k19 := fun q3_19 => ?_) (k20 := fun q3_20 => ?_) (k21 := fun q3_21 => ?_) (k22 := fun q3_22 => ?_) (k23 := fun q3_23 => ?_) (k24 := fun q3_24 => ?_) (k25 := fun q3_25 => ?_) (k26 := fun q3_26 => ?_) (k27 := fun q3_27 => ?_) (k28 := fun q3_28 => ?_) (k29 := fun q3_29 => ?_) (k30 := fun q3_30 => ?_) (k31 := fun q3_31 => ?_) (k32 := fun q3_32 => ?_) (k33 := fun q3_33 => ?_) (k34 := fun q3_34 => ?_) (k35 := fun q3_35 => ?_) (k36 := fun q3_36 => ?_) (k37 := fun q3_37 => ?_) (k38 := fun q3_38 => ?_) (k39 := fun q3_39 => ?_) (k40 := fun q3_40 => ?_) (kd := fun q3_0 q3_1 q3_2 q3_3 q3_4 q3_5 q3_6 q3_7 q3_8 q3_9 q3_10 q3_11 q3_12 q3_13 q3_14 q3_15 q3_16 q3_17 q3_18 q3_19 q3_20 q3_21 q3_22 q3_23 q3_24 q3_25 q3_26 q3_27 q3_28 q3_29 q3_30 q3_31 q3_32 q3_33 q3_34 q3_35 q3_36 q3_37 q3_38 q3_39 q3_40 => ?_)
      · have hq := q3_0
        replace hf := ite_t hq hf
        exact r_L_law_212 (fun w x3 => f_L_law_18 n w x3) ih FU w x3 hf
      · have hq := q3_1
        replace hf := ite_f (by rw [hq]; decide) hf
        replace hf := ite_t hq hf
        exact r_L_law_255 (fun w x3 => f_L_law_18 n w x3) ih FU w x3 hf
      · have hq := q3_2
        replace hf := ite_f (by rw [hq]; decide) hf
        replace hf := ite_f (by rw [hq]; decide) hf
        replace hf := ite_t hq hf
        exact r_L_law_328 (fun w x3 => f_L_law_18 n w x3) ih FU w x3 hf
      · have hq := q3_3
        replace hf := ite_f (by rw [hq]; decide) hf
        replace hf := ite_f (by rw [hq]; decide) hf
        replace hf := ite_f (by rw [hq]; decide) hf
        replace hf := ite_t hq hf
        exact r_L_law_391 (fun w x3 => f_L_law_18 n w x3) ih FU w x3 hf
      · have hq := q3_4
        replace hf := ite_f (by rw [hq]; decide) hf
        replace hf := ite_f (by rw [hq]; decide) hf
        replace hf := ite_f (by rw [hq]; decide) hf
        replace hf := ite_f (by rw [hq]; decide) hf
        replace hf := ite_t hq hf
        exact r_L_law_425 (fun w x3 => f_L_law_18 n w x3) ih FU w x3 hf
      · have hq := q3_5
        replace hf := ite_f (by rw [hq]; decide) hf
        replace hf := ite_f (by rw [hq]; decide) hf
        replace hf := ite_f (by rw [hq]; decide) hf
        replace hf := ite_f (by rw [hq]; decide) hf
        replace hf := ite_f (by rw [hq]; decide) hf
        replace hf := ite_t hq hf
        exact r_L_law_458 (fun w x3 => f_L_law_18 n w x3) ih FU w x3 hf
      · have hq := q3_6
        replace hf := ite_f (by rw [hq]; decide) hf
        replace hf := ite_f (by rw [hq]; decide) hf
        replace hf := ite_f (by rw [hq]; decide) hf
        replace hf := ite_f (by rw [hq]; decide) hf
        replace hf := ite_f (by rw [hq]; decide) hf
        replace hf := ite_f (by rw [hq]; decide) hf
        replace hf := ite_t hq hf
        exact r_L_law_481 (fun w x3 => f_L_law_18 n w x3) ih FU w x3 hf
      · have hq := q3_7
        replace hf := ite_f (by rw [hq]; decide) hf
        replace hf := ite_f (by rw [hq]; decide) hf
        replace hf := ite_f (by rw [hq]; decide) hf
        replace hf := ite_f (by rw [hq]; decide) hf
        replace hf := ite_f (by rw [hq]; decide) hf
        replace hf := ite_f (by rw [hq]; decide) hf
        replace hf := ite_f (by rw [hq]; decide) hf
        replace hf := ite_t hq hf
        exact r_L_law_514 (fun w x3 => f_L_law_18 n w x3) ih FU w x3 hf
      · have hq := q3_8
        replace hf := ite_f (by rw [hq]; decide) hf
        replace hf := ite_f (by rw [hq]; decide) hf
        replace hf := ite_f (by rw [hq]; decide) hf
        replace hf := ite_f (by rw [hq]; decide) hf
        replace hf := ite_f (by rw [hq]; decide) hf
        replace hf := ite_f (by rw [hq]; decide) hf
        replace hf := ite_f (by rw [hq]; decide) hf
        replace hf := ite_f (by rw [hq]; decide) hf
        replace hf := ite_t hq hf
        exact r_L_law_557 (fun w x3 => f_L_law_18 n w x3) ih FU w x3 hf
      · have hq := q3_9
        replace hf := ite_f (by rw [hq]; decide) hf
        replace hf := ite_f (by rw [hq]; decide) hf
        replace hf := ite_f (by rw [hq]; decide) hf
        replace hf := ite_f (by rw [hq]; decide) hf
        replace hf := ite_f (by rw [hq]; decide) hf
        replace hf := ite_f (by rw [hq]; decide) hf
        replace hf := ite_f (by rw [hq]; decide) hf
        replace hf := ite_f (by rw [hq]; decide) hf
        replace hf := ite_f (by rw [hq]; decide) hf
        replace hf := ite_t hq hf
        exact r_L_law_590 (fun w x3 => f_L_law_18 n w x3) ih FU w x3 hf
      · have hq := q3_10
        replace hf := ite_f (by rw [hq]; decide) hf
        replace hf := ite_f (by rw [hq]; decide) hf
        replace hf := ite_f (by rw [hq]; decide) hf
        replace hf := ite_f (by rw [hq]; decide) hf
        replace hf := ite_f (by rw [hq]; decide) hf
        replace hf := ite_f (by rw [hq]; decide) hf
        replace hf := ite_f (by rw [hq]; decide) hf
        replace hf := ite_f (by rw [hq]; decide) hf
        replace hf := ite_f (by rw [hq]; decide) hf
        replace hf := ite_f (by rw [hq]; decide) hf
        replace hf := ite_t hq hf
        exact r_L_law_649 (fun w x3 => f_L_law_18 n w x3) ih FU w x3 hf
      · have hq := q3_11
        replace hf := ite_f (by rw [hq]; decide) hf
        replace hf := ite_f (by rw [hq]; decide) hf
        replace hf := ite_f (by rw [hq]; decide) hf
        replace hf := ite_f (by rw [hq]; decide) hf
        replace hf := ite_f (by rw [hq]; decide) hf
        replace hf := ite_f (by rw [hq]; decide) hf
        replace hf := ite_f (by rw [hq]; decide) hf
        replace hf := ite_f (by rw [hq]; decide) hf
        replace hf := ite_f (by rw [hq]; decide) hf
        replace hf := ite_f (by rw [hq]; decide) hf
        replace hf := ite_f (by rw [hq]; decide) hf
        replace hf := ite_t hq hf
        exact r_L_law_682 (fun w x3 => f_L_law_18 n w x3) ih FU w x3 hf
      · have hq := q3_12
        replace hf := ite_f (by rw [hq]; decide) hf
        replace hf := ite_f (by rw [hq]; decide) hf
        replace hf := ite_f (by rw [hq]; decide) hf
        replace hf := ite_f (by rw [hq]; decide) hf
        replace hf := ite_f (by rw [hq]; decide) hf
        replace hf := ite_f (by rw [hq]; decide) hf
        replace hf := ite_f (by rw [hq]; decide) hf
        replace hf := ite_f (by rw [hq]; decide) hf
        replace hf := ite_f (by rw [hq]; decide) hf
        replace hf := ite_f (by rw [hq]; decide) hf
        replace hf := ite_f (by rw [hq]; decide) hf
        replace hf := ite_f (by rw [hq]; decide) hf
        replace hf := ite_t hq hf
        exact r_L_law_705 (fun w x3 => f_L_law_18 n w x3) ih FU w x3 hf
      · have hq := q3_13
        replace hf := ite_f (by rw [hq]; decide) hf
        replace hf := ite_f (by rw [hq]; decide) hf
        replace hf := ite_f (by rw [hq]; decide) hf
        replace hf := ite_f (by rw [hq]; decide) hf
        replace hf := ite_f (by rw [hq]; decide) hf
        replace hf := ite_f (by rw [hq]; decide) hf
        replace hf := ite_f (by rw [hq]; decide) hf
        replace hf := ite_f (by rw [hq]; decide) hf
        replace hf := ite_f (by rw [hq]; decide) hf
        replace hf := ite_f (by rw [hq]; decide) hf
        replace hf := ite_f (by rw [hq]; decide) hf
        replace hf := ite_f (by rw [hq]; decide) hf
        replace hf := ite_f (by rw [hq]; decide) hf
        replace hf := ite_t hq hf
        exact r_L_law_728 (fun w x3 => f_L_law_18 n w x3) ih FU w x3 hf
      · have hq := q3_14
        replace hf := ite_f (by rw [hq]; decide) hf
        replace hf := ite_f (by rw [hq]; decide) hf
        replace hf := ite_f (by rw [hq]; decide) hf
        replace hf := ite_f (by rw [hq]; decide) hf
        replace hf := ite_f (by rw [hq]; decide) hf
        replace hf := ite_f (by rw [hq]; decide) hf
        replace hf := ite_f (by rw [hq]; decide) hf
        replace hf := ite_f (by rw [hq]; decide) hf
        replace hf := ite_f (by rw [hq]; decide) hf
        replace hf := ite_f (by rw [hq]; decide) hf
        replace hf := ite_f (by rw [hq]; decide) hf
        replace hf := ite_f (by rw [hq]; decide) hf
        replace hf := ite_f (by rw [hq]; decide) hf
        replace hf := ite_f (by rw [hq]; decide) hf
        replace hf := ite_t hq hf
        exact r_L_law_741 (fun w x3 => f_L_law_18 n w x3) ih FU w x3 hf
      · have hq := q3_15
        replace hf := ite_f (by rw [hq]; decide) hf
        replace hf := ite_f (by rw [hq]; decide) hf
        replace hf := ite_f (by rw [hq]; decide) hf
        replace hf := ite_f (by rw [hq]; decide) hf
        replace hf := ite_f (by rw [hq]; decide) hf
        replace hf := ite_f (by rw [hq]; decide) hf
        replace hf := ite_f (by rw [hq]; decide) hf
        replace hf := ite_f (by rw [hq]; decide) hf
        replace hf := ite_f (by rw [hq]; decide) hf
        replace hf := ite_f (by rw [hq]; decide) hf
        replace hf := ite_f (by rw [hq]; decide) hf
        replace hf := ite_f (by rw [hq]; decide) hf
        replace hf := ite_f (by rw [hq]; decide) hf
        replace hf := ite_f (by rw [hq]; decide) hf
        replace hf := ite_f (by rw [hq]; decide) hf
        replace hf := ite_t hq hf
        exact r_L_law_774 (fun w x3 => f_L_law_18 n w x3) ih FU w x3 hf
      · have hq := q3_16
        replace hf := ite_f (by rw [hq]; decide) hf
        replace hf := ite_f (by rw [hq]; decide) hf
        replace hf := ite_f (by rw [hq]; decide) hf
        replace hf := ite_f (by rw [hq]; decide) hf
        replace hf := ite_f (by rw [hq]; decide) hf
        replace hf := ite_f (by rw [hq]; decide) hf
        replace hf := ite_f (by rw [hq]; decide) hf
        replace hf := ite_f (by rw [hq]; decide) hf
        replace hf := ite_f (by rw [hq]; decide) hf
        replace hf := ite_f (by rw [hq]; decide) hf
        replace hf := ite_f (by rw [hq]; decide) hf
        replace hf := ite_f (by rw [hq]; decide) hf
        replace hf := ite_f (by rw [hq]; decide) hf
        replace hf := ite_f (by rw [hq]; decide) hf
        replace hf := ite_f (by rw [hq]; decide) hf
        replace hf := ite_f (by rw [hq]; decide) hf
        replace hf := ite_t hq hf
        exact r_L_law_807 (fun w x3 => f_L_law_18 n w x3) ih FU w x3 hf
      · have hq := q3_17
        replace hf := ite_f (by rw [hq]; decide) hf
        replace hf := ite_f (by rw [hq]; decide) hf
        replace hf := ite_f (by rw [hq]; decide) hf
        replace hf := ite_f (by rw [hq]; decide) hf
        replace hf := ite_f (by rw [hq]; decide) hf
        replace hf := ite_f (by rw [hq]; decide) hf
        replace hf := ite_f (by rw [hq]; decide) hf
        replace hf := ite_f (by rw [hq]; decide) hf
        replace hf := ite_f (by rw [hq]; decide) hf
        replace hf := ite_f (by rw [hq]; decide) hf
        replace hf := ite_f (by rw [hq]; decide) hf
        replace hf := ite_f (by rw [hq]; decide) hf
        replace hf := ite_f (by rw [hq]; decide) hf
        replace hf := ite_f (by rw [hq]; decide) hf
        replace hf := ite_f (by rw [hq]; decide) hf
        replace hf := ite_f (by rw [hq]; decide) hf
        replace hf := ite_f (by rw [hq]; decide) hf
        replace hf := ite_t hq hf
        exact r_L_law_820 (fun w x3 => f_L_law_18 n w x3) ih FU w x3 hf
      · have hq := q3_18
        replace hf := ite_f (by rw [hq]; decide) hf
        replace hf := ite_f (by rw [hq]; decide) hf
        replace hf := ite_f (by rw [hq]; decide) hf
        replace hf := ite_f (by rw [hq]; decide) hf
        replace hf := ite_f (by rw [hq]; decide) hf
        replace hf := ite_f (by rw [hq]; decide) hf
        replace hf := ite_f (by rw [hq]; decide) hf
        replace hf := ite_f (by rw [hq]; decide) hf
        replace hf := ite_f (by rw [hq]; decide) hf
        replace hf := ite_f (by rw [hq]; decide) hf
        replace hf := ite_f (by rw [hq]; decide) hf
        replace hf := ite_f (by rw [hq]; decide) hf
        replace hf := ite_f (by rw [hq]; decide) hf
        replace hf := ite_f (by rw [hq]; decide) hf
        replace hf := ite_f (by rw [hq]; decide) hf
        replace hf := ite_f (by rw [hq]; decide) hf
        replace hf := ite_f (by rw [hq]; decide) hf
        replace hf := ite_f (by rw [hq]; decide) hf
        replace hf := ite_t hq hf
        exact r_L_law_853 (fun w x3 => f_L_law_18 n w x3) ih FU w x3 hf
      · have hq := q3_19
        replace hf := ite_f (by rw [hq]; decide) hf
        replace hf := ite_f (by rw [hq]; decide) hf
        replace hf := ite_f (by rw [hq]; decide) hf
        replace hf := ite_f (by rw [hq]; decide) hf
        replace hf := ite_f (by rw [hq]; decide) hf
        replace hf := ite_f (by rw [hq]; decide) hf
        replace hf := ite_f (by rw [hq]; decide) hf
        replace hf := ite_f (by rw [hq]; decide) hf
        replace hf := ite_f (by rw [hq]; decide) hf
        replace hf := ite_f (by rw [hq]; decide) hf
        replace hf := ite_f (by rw [hq]; decide) hf
        replace hf := ite_f (by rw [hq]; decide) hf
        replace hf := ite_f (by rw [hq]; decide) hf
        replace hf := ite_f (by rw [hq]; decide) hf
        replace hf := ite_f (by rw [hq]; decide) hf
        replace hf := ite_f (by rw [hq]; decide) hf
        replace hf := ite_f (by rw [hq]; decide) hf
        replace hf := ite_f (by rw [hq]; decide) hf
        replace hf := ite_f (by rw [hq]; decide) hf
        replace hf := ite_t hq hf
        exact r_L_law_876 (fun w x3 => f_L_law_18 n w x3) ih FU w x3 hf
      · have hq := q3_20
        replace hf := ite_f (by rw [hq]; decide) hf
        replace hf := ite_f (by rw [hq]; decide) hf
        replace hf := ite_f (by rw [hq]; decide) hf
        replace hf := ite_f (by rw [hq]; decide) hf
        replace hf := ite_f (by rw [hq]; decide) hf
        replace hf := ite_f (by rw [hq]; decide) hf
        replace hf := ite_f (by rw [hq]; decide) hf
        replace hf := ite_f (by rw [hq]; decide) hf
        replace hf := ite_f (by rw [hq]; decide) hf
        replace hf := ite_f (by rw [hq]; decide) hf
        replace hf := ite_f (by rw [hq]; decide) hf
        replace hf := ite_f (by rw [hq]; decide) hf
        replace hf := ite_f (by rw [hq]; decide) hf
        replace hf := ite_f (by rw [hq]; decide) hf
        replace hf := ite_f (by rw [hq]; decide) hf
        replace hf := ite_f (by rw [hq]; decide) hf
        replace hf := ite_f (by rw [hq]; decide) hf
        replace hf := ite_f (by rw [hq]; decide) hf
        replace hf := ite_f (by rw [hq]; decide) hf
        replace hf := ite_f (by rw [hq]; decide) hf
        replace hf := ite_t hq hf
        exact r_L_law_909 (fun w x3 => f_L_law_18 n w x3) ih FU w x3 hf
      · have hq := q3_21
        replace hf := ite_f (by rw [hq]; decide) hf
        replace hf := ite_f (by rw [hq]; decide) hf
        replace hf := ite_f (by rw [hq]; decide) hf
        replace hf := ite_f (by rw [hq]; decide) hf
        replace hf := ite_f (by rw [hq]; decide) hf
        replace hf := ite_f (by rw [hq]; decide) hf
        replace hf := ite_f (by rw [hq]; decide) hf
        replace hf := ite_f (by rw [hq]; decide) hf
        replace hf := ite_f (by rw [hq]; decide) hf
        replace hf := ite_f (by rw [hq]; decide) hf
        replace hf := ite_f (by rw [hq]; decide) hf
        replace hf := ite_f (by rw [hq]; decide) hf
        replace hf := ite_f (by rw [hq]; decide) hf
        replace hf := ite_f (by rw [hq]; decide) hf
        replace hf := ite_f (by rw [hq]; decide) hf
        replace hf := ite_f (by rw [hq]; decide) hf
        replace hf := ite_f (by rw [hq]; decide) hf
        replace hf := ite_f (by rw [hq]; decide) hf
        replace hf := ite_f (by rw [hq]; decide) hf
        replace hf := ite_f (by rw [hq]; decide) hf
        replace hf := ite_f (by rw [hq]; decide) hf
        replace hf := ite_t hq hf
        exact r_L_law_922 (fun w x3 => f_L_law_18 n w x3) ih FU w x3 hf
      · have hq := q3_22
        replace hf := ite_f (by rw [hq]; decide) hf
        replace hf := ite_f (by rw [hq]; decide) hf
        replace hf := ite_f (by rw [hq]; decide) hf
        replace hf := ite_f (by rw [hq]; decide) hf
        replace hf := ite_f (by rw [hq]; decide) hf
        replace hf := ite_f (by rw [hq]; decide) hf
        replace hf := ite_f (by rw [hq]; decide) hf
        replace hf := ite_f (by rw [hq]; decide) hf
        replace hf := ite_f (by rw [hq]; decide) hf
        replace hf := ite_f (by rw [hq]; decide) hf
        replace hf := ite_f (by rw [hq]; decide) hf
        replace hf := ite_f (by rw [hq]; decide) hf
        replace hf := ite_f (by rw [hq]; decide) hf
        replace hf := ite_f (by rw [hq]; decide) hf
        replace hf := ite_f (by rw [hq]; decide) hf
        replace hf := ite_f (by rw [hq]; decide) hf
        replace hf := ite_f (by rw [hq]; decide) hf
        replace hf := ite_f (by rw [hq]; decide) hf
        replace hf := ite_f (by rw [hq]; decide) hf
        replace hf := ite_f (by rw [hq]; decide) hf
        replace hf := ite_f (by rw [hq]; decide) hf
        replace hf := ite_f (by rw [hq]; decide) hf
        replace hf := ite_t hq hf
        exact r_L_law_945 (fun w x3 => f_L_law_18 n w x3) ih FU w x3 hf
      · have hq := q3_23
        replace hf := ite_f (by rw [hq]; decide) hf
        replace hf := ite_f (by rw [hq]; decide) hf
        replace hf := ite_f (by rw [hq]; decide) hf
        replace hf := ite_f (by rw [hq]; decide) hf
        replace hf := ite_f (by rw [hq]; decide) hf
        replace hf := ite_f (by rw [hq]; decide) hf
        replace hf := ite_f (by rw [hq]; decide) hf
        replace hf := ite_f (by rw [hq]; decide) hf
        replace hf := ite_f (by rw [hq]; decide) hf
        replace hf := ite_f (by rw [hq]; decide) hf
        replace hf := ite_f (by rw [hq]; decide) hf
        replace hf := ite_f (by rw [hq]; decide) hf
        replace hf := ite_f (by rw [hq]; decide) hf
        replace hf := ite_f (by rw [hq]; decide) hf
        replace hf := ite_f (by rw [hq]; decide) hf
        replace hf := ite_f (by rw [hq]; decide) hf
        replace hf := ite_f (by rw [hq]; decide) hf
        replace hf := ite_f (by rw [hq]; decide) hf
        replace hf := ite_f (by rw [hq]; decide) hf
        replace hf := ite_f (by rw [hq]; decide) hf
        replace hf := ite_f (by rw [hq]; decide) hf
        replace hf := ite_f (by rw [hq]; decide) hf
        replace hf := ite_f (by rw [hq]; decide) hf
        replace hf := ite_t hq hf
        exact r_L_law_968 (fun w x3 => f_L_law_18 n w x3) ih FU w x3 hf
      · have hq := q3_24
        replace hf := ite_f (by rw [hq]; decide) hf
        replace hf := ite_f (by rw [hq]; decide) hf
        replace hf := ite_f (by rw [hq]; decide) hf
        replace hf := ite_f (by rw [hq]; decide) hf
        replace hf := ite_f (by rw [hq]; decide) hf
        replace hf := ite_f (by rw [hq]; decide) hf
        replace hf := ite_f (by rw [hq]; decide) hf
        replace hf := ite_f (by rw [hq]; decide) hf
        replace hf := ite_f (by rw [hq]; decide) hf
        replace hf := ite_f (by rw [hq]; decide) hf
        replace hf := ite_f (by rw [hq]; decide) hf
        replace hf := ite_f (by rw [hq]; decide) hf
        replace hf := ite_f (by rw [hq]; decide) hf
        replace hf := ite_f (by rw [hq]; decide) hf
        replace hf := ite_f (by rw [hq]; decide) hf
        replace hf := ite_f (by rw [hq]; decide) hf
        replace hf := ite_f (by rw [hq]; decide) hf
        replace hf := ite_f (by rw [hq]; decide) hf
        replace hf := ite_f (by rw [hq]; decide) hf
        replace hf := ite_f (by rw [hq]; decide) hf
        replace hf := ite_f (by rw [hq]; decide) hf
        replace hf := ite_f (by rw [hq]; decide) hf
        replace hf := ite_f (by rw [hq]; decide) hf
        replace hf := ite_f (by rw [hq]; decide) hf
        replace hf := ite_t hq hf
        exact r_L_law_991 (fun w x3 => f_L_law_18 n w x3) ih FU w x3 hf
      · have hq := q3_25
        replace hf := ite_f (by rw [hq]; decide) hf
        replace hf := ite_f (by rw [hq]; decide) hf
        replace hf := ite_f (by rw [hq]; decide) hf
        replace hf := ite_f (by rw [hq]; decide) hf
        replace hf := ite_f (by rw [hq]; decide) hf
        replace hf := ite_f (by rw [hq]; decide) hf
        replace hf := ite_f (by rw [hq]; decide) hf
        replace hf := ite_f (by rw [hq]; decide) hf
        replace hf := ite_f (by rw [hq]; decide) hf
        replace hf := ite_f (by rw [hq]; decide) hf
        replace hf := ite_f (by rw [hq]; decide) hf
        replace hf := ite_f (by rw [hq]; decide) hf
        replace hf := ite_f (by rw [hq]; decide) hf
        replace hf := ite_f (by rw [hq]; decide) hf
        replace hf := ite_f (by rw [hq]; decide) hf
        replace hf := ite_f (by rw [hq]; decide) hf
        replace hf := ite_f (by rw [hq]; decide) hf
        replace hf := ite_f (by rw [hq]; decide) hf
        replace hf := ite_f (by rw [hq]; decide) hf
        replace hf := ite_f (by rw [hq]; decide) hf
        replace hf := ite_f (by rw [hq]; decide) hf
        replace hf := ite_f (by rw [hq]; decide) hf
        replace hf := ite_f (by rw [hq]; decide) hf
        replace hf := ite_f (by rw [hq]; decide) hf
        replace hf := ite_f (by rw [hq]; decide) hf
        replace hf := ite_t hq hf
        exact r_L_law_1014 (fun w x3 => f_L_law_18 n w x3) ih FU w x3 hf
      · have hq := q3_26
        replace hf := ite_f (by rw [hq]; decide) hf
        replace hf := ite_f (by rw [hq]; decide) hf
        replace hf := ite_f (by rw [hq]; decide) hf
        replace hf := ite_f (by rw [hq]; decide) hf
        replace hf := ite_f (by rw [hq]; decide) hf
        replace hf := ite_f (by rw [hq]; decide) hf
        replace hf := ite_f (by rw [hq]; decide) hf
        replace hf := ite_f (by rw [hq]; decide) hf
        replace hf := ite_f (by rw [hq]; decide) hf
        replace hf := ite_f (by rw [hq]; decide) hf
        replace hf := ite_f (by rw [hq]; decide) hf
        replace hf := ite_f (by rw [hq]; decide) hf
        replace hf := ite_f (by rw [hq]; decide) hf
        replace hf := ite_f (by rw [hq]; decide) hf
        replace hf := ite_f (by rw [hq]; decide) hf
        replace hf := ite_f (by rw [hq]; decide) hf
        replace hf := ite_f (by rw [hq]; decide) hf
        replace hf := ite_f (by rw [hq]; decide) hf
        replace hf := ite_f (by rw [hq]; decide) hf
        replace hf := ite_f (by rw [hq]; decide) hf
        replace hf := ite_f (by rw [hq]; decide) hf
        replace hf := ite_f (by rw [hq]; decide) hf
        replace hf := ite_f (by rw [hq]; decide) hf
        replace hf := ite_f (by rw [hq]; decide) hf
        replace hf := ite_f (by rw [hq]; decide) hf
        replace hf := ite_f (by rw [hq]; decide) hf
        replace hf := ite_t hq hf
        exact r_L_law_1027 (fun w x3 => f_L_law_18 n w x3) ih FU w x3 hf
      · have hq := q3_27
        replace hf := ite_f (by rw [hq]; decide) hf
        replace hf := ite_f (by rw [hq]; decide) hf
        replace hf := ite_f (by rw [hq]; decide) hf
        replace hf := ite_f (by rw [hq]; decide) hf
        replace hf := ite_f (by rw [hq]; decide) hf
        replace hf := ite_f (by rw [hq]; decide) hf
        replace hf := ite_f (by rw [hq]; decide) hf
        replace hf := ite_f (by rw [hq]; decide) hf
        replace hf := ite_f (by rw [hq]; decide) hf
        replace hf := ite_f (by rw [hq]; decide) hf
        replace hf := ite_f (by rw [hq]; decide) hf
        replace hf := ite_f (by rw [hq]; decide) hf
        replace hf := ite_f (by rw [hq]; decide) hf
        replace hf := ite_f (by rw [hq]; decide) hf
        replace hf := ite_f (by rw [hq]; decide) hf
        replace hf := ite_f (by rw [hq]; decide) hf
        replace hf := ite_f (by rw [hq]; decide) hf
        replace hf := ite_f (by rw [hq]; decide) hf
        replace hf := ite_f (by rw [hq]; decide) hf
        replace hf := ite_f (by rw [hq]; decide) hf
        replace hf := ite_f (by rw [hq]; decide) hf
        replace hf := ite_f (by rw [hq]; decide) hf
        replace hf := ite_f (by rw [hq]; decide) hf
        replace hf := ite_f (by rw [hq]; decide) hf
        replace hf := ite_f (by rw [hq]; decide) hf
        replace hf := ite_f (by rw [hq]; decide) hf
        replace hf := ite_f (by rw [hq]; decide) hf
        replace hf := ite_t hq hf
        exact r_L_law_1080 (fun w x3 => f_L_law_18 n w x3) ih FU w x3 hf
      · have hq := q3_28
        replace hf := ite_f (by rw [hq]; decide) hf
        replace hf := ite_f (by rw [hq]; decide) hf
        replace hf := ite_f (by rw [hq]; decide) hf
        replace hf := ite_f (by rw [hq]; decide) hf
        replace hf := ite_f (by rw [hq]; decide) hf
        replace hf := ite_f (by rw [hq]; decide) hf
        replace hf := ite_f (by rw [hq]; decide) hf
        replace hf := ite_f (by rw [hq]; decide) hf
        replace hf := ite_f (by rw [hq]; decide) hf
        replace hf := ite_f (by rw [hq]; decide) hf
        replace hf := ite_f (by rw [hq]; decide) hf
        replace hf := ite_f (by rw [hq]; decide) hf
        replace hf := ite_f (by rw [hq]; decide) hf
        replace hf := ite_f (by rw [hq]; decide) hf
        replace hf := ite_f (by rw [hq]; decide) hf
        replace hf := ite_f (by rw [hq]; decide) hf
        replace hf := ite_f (by rw [hq]; decide) hf
        replace hf := ite_f (by rw [hq]; decide) hf
        replace hf := ite_f (by rw [hq]; decide) hf
        replace hf := ite_f (by rw [hq]; decide) hf
        replace hf := ite_f (by rw [hq]; decide) hf
        replace hf := ite_f (by rw [hq]; decide) hf
        replace hf := ite_f (by rw [hq]; decide) hf
        replace hf := ite_f (by rw [hq]; decide) hf
        replace hf := ite_f (by rw [hq]; decide) hf
        replace hf := ite_f (by rw [hq]; decide) hf
        replace hf := ite_f (by rw [hq]; decide) hf
        replace hf := ite_f (by rw [hq]; decide) hf
        replace hf := ite_t hq hf
        exact r_L_law_1103 (fun w x3 => f_L_law_18 n w x3) ih FU w x3 hf
      · have hq := q3_29
        replace hf := ite_f (by rw [hq]; decide) hf
        replace hf := ite_f (by rw [hq]; decide) hf
        replace hf := ite_f (by rw [hq]; decide) hf
        replace hf := ite_f (by rw [hq]; decide) hf
        replace hf := ite_f (by rw [hq]; decide) hf
        replace hf := ite_f (by rw [hq]; decide) hf
        replace hf := ite_f (by rw [hq]; decide) hf
        replace hf := ite_f (by rw [hq]; decide) hf
        replace hf := ite_f (by rw [hq]; decide) hf
        replace hf := ite_f (by rw [hq]; decide) hf
        replace hf := ite_f (by rw [hq]; decide) hf
        replace hf := ite_f (by rw [hq]; decide) hf
        replace hf := ite_f (by rw [hq]; decide) hf
        replace hf := ite_f (by rw [hq]; decide) hf
        replace hf := ite_f (by rw [hq]; decide) hf
        replace hf := ite_f (by rw [hq]; decide) hf
        replace hf := ite_f (by rw [hq]; decide) hf
        replace hf := ite_f (by rw [hq]; decide) hf
        replace hf := ite_f (by rw [hq]; decide) hf
        replace hf := ite_f (by rw [hq]; decide) hf
        replace hf := ite_f (by rw [hq]; decide) hf
        replace hf := ite_f (by rw [hq]; decide) hf
        replace hf := ite_f (by rw [hq]; decide) hf
        replace hf := ite_f (by rw [hq]; decide) hf
        replace hf := ite_f (by rw [hq]; decide) hf
        replace hf := ite_f (by rw [hq]; decide) hf
        replace hf := ite_f (by rw [hq]; decide) hf
        replace hf := ite_f (by rw [hq]; decide) hf
        replace hf := ite_f (by rw [hq]; decide) hf
        replace hf := ite_t hq hf
        exact r_L_law_1136 (fun w x3 => f_L_law_18 n w x3) ih FU w x3 hf
      · have hq := q3_30
        replace hf := ite_f (by rw [hq]; decide) hf
        replace hf := ite_f (by rw [hq]; decide) hf
        replace hf := ite_f (by rw [hq]; decide) hf
        replace hf := ite_f (by rw [hq]; decide) hf
        replace hf := ite_f (by rw [hq]; decide) hf
        replace hf := ite_f (by rw [hq]; decide) hf
        replace hf := ite_f (by rw [hq]; decide) hf
        replace hf := ite_f (by rw [hq]; decide) hf
        replace hf := ite_f (by rw [hq]; decide) hf
        replace hf := ite_f (by rw [hq]; decide) hf
        replace hf := ite_f (by rw [hq]; decide) hf
        replace hf := ite_f (by rw [hq]; decide) hf
        replace hf := ite_f (by rw [hq]; decide) hf
        replace hf := ite_f (by rw [hq]; decide) hf
        replace hf := ite_f (by rw [hq]; decide) hf
        replace hf := ite_f (by rw [hq]; decide) hf
        replace hf := ite_f (by rw [hq]; decide) hf
        replace hf := ite_f (by rw [hq]; decide) hf
        replace hf := ite_f (by rw [hq]; decide) hf
        replace hf := ite_f (by rw [hq]; decide) hf
        replace hf := ite_f (by rw [hq]; decide) hf
        replace hf := ite_f (by rw [hq]; decide) hf
        replace hf := ite_f (by rw [hq]; decide) hf
        replace hf := ite_f (by rw [hq]; decide) hf
        replace hf := ite_f (by rw [hq]; decide) hf
        replace hf := ite_f (by rw [hq]; decide) hf
        replace hf := ite_f (by rw [hq]; decide) hf
        replace hf := ite_f (by rw [hq]; decide) hf
        replace hf := ite_f (by rw [hq]; decide) hf
        replace hf := ite_f (by rw [hq]; decide) hf
        replace hf := ite_t hq hf
        exact r_L_law_1159 (fun w x3 => f_L_law_18 n w x3) ih FU w x3 hf
      · have hq := q3_31
        replace hf := ite_f (by rw [hq]; decide) hf
        replace hf := ite_f (by rw [hq]; decide) hf
        replace hf := ite_f (by rw [hq]; decide) hf
        replace hf := ite_f (by rw [hq]; decide) hf
        replace hf := ite_f (by rw [hq]; decide) hf
        replace hf := ite_f (by rw [hq]; decide) hf
        replace hf := ite_f (by rw [hq]; decide) hf
        replace hf := ite_f (by rw [hq]; decide) hf
        replace hf := ite_f (by rw [hq]; decide) hf
        replace hf := ite_f (by rw [hq]; decide) hf
        replace hf := ite_f (by rw [hq]; decide) hf
        replace hf := ite_f (by rw [hq]; decide) hf
        replace hf := ite_f (by rw [hq]; decide) hf
        replace hf := ite_f (by rw [hq]; decide) hf
        replace hf := ite_f (by rw [hq]; decide) hf
        replace hf := ite_f (by rw [hq]; decide) hf
        replace hf := ite_f (by rw [hq]; decide) hf
        replace hf := ite_f (by rw [hq]; decide) hf
        replace hf := ite_f (by rw [hq]; decide) hf
        replace hf := ite_f (by rw [hq]; decide) hf
        replace hf := ite_f (by rw [hq]; decide) hf
        replace hf := ite_f (by rw [hq]; decide) hf
        replace hf := ite_f (by rw [hq]; decide) hf
        replace hf := ite_f (by rw [hq]; decide) hf
        replace hf := ite_f (by rw [hq]; decide) hf
        replace hf := ite_f (by rw [hq]; decide) hf
        replace hf := ite_f (by rw [hq]; decide) hf
        replace hf := ite_f (by rw [hq]; decide) hf
        replace hf := ite_f (by rw [hq]; decide) hf
        replace hf := ite_f (by rw [hq]; decide) hf
        replace hf := ite_f (by rw [hq]; decide) hf
        replace hf := ite_t hq hf
        exact r_L_law_1172 (fun w x3 => f_L_law_18 n w x3) ih FU w x3 hf
      · have hq := q3_32
        replace hf := ite_f (by rw [hq]; decide) hf
        replace hf := ite_f (by rw [hq]; decide) hf
        replace hf := ite_f (by rw [hq]; decide) hf
        replace hf := ite_f (by rw [hq]; decide) hf
        replace hf := ite_f (by rw [hq]; decide) hf
        replace hf := ite_f (by rw [hq]; decide) hf
        replace hf := ite_f (by rw [hq]; decide) hf
        replace hf := ite_f (by rw [hq]; decide) hf
        replace hf := ite_f (by rw [hq]; decide) hf
        replace hf := ite_f (by rw [hq]; decide) hf
        replace hf := ite_f (by rw [hq]; decide) hf
        replace hf := ite_f (by rw [hq]; decide) hf
        replace hf := ite_f (by rw [hq]; decide) hf
        replace hf := ite_f (by rw [hq]; decide) hf
        replace hf := ite_f (by rw [hq]; decide) hf
        replace hf := ite_f (by rw [hq]; decide) hf
        replace hf := ite_f (by rw [hq]; decide) hf
        replace hf := ite_f (by rw [hq]; decide) hf
        replace hf := ite_f (by rw [hq]; decide) hf
        replace hf := ite_f (by rw [hq]; decide) hf
        replace hf := ite_f (by rw [hq]; decide) hf
        replace hf := ite_f (by rw [hq]; decide) hf
        replace hf := ite_f (by rw [hq]; decide) hf
        replace hf := ite_f (by rw [hq]; decide) hf
        replace hf := ite_f (by rw [hq]; decide) hf
        replace hf := ite_f (by rw [hq]; decide) hf
        replace hf := ite_f (by rw [hq]; decide) hf
        replace hf := ite_f (by rw [hq]; decide) hf
        replace hf := ite_f (by rw [hq]; decide) hf
        replace hf := ite_f (by rw [hq]; decide) hf
        replace hf := ite_f (by rw [hq]; decide) hf
        replace hf := ite_f (by rw [hq]; decide) hf
        replace hf := ite_t hq hf
        exact r_L_law_1205 (fun w x3 => f_L_law_18 n w x3) ih FU w x3 hf
      · have hq := q3_33
        replace hf := ite_f (by rw [hq]; decide) hf
        replace hf := ite_f (by rw [hq]; decide) hf
        replace hf := ite_f (by rw [hq]; decide) hf
        replace hf := ite_f (by rw [hq]; decide) hf
        replace hf := ite_f (by rw [hq]; decide) hf
        replace hf := ite_f (by rw [hq]; decide) hf
        replace hf := ite_f (by rw [hq]; decide) hf
        replace hf := ite_f (by rw [hq]; decide) hf
        replace hf := ite_f (by rw [hq]; decide) hf
        replace hf := ite_f (by rw [hq]; decide) hf
        replace hf := ite_f (by rw [hq]; decide) hf
        replace hf := ite_f (by rw [hq]; decide) hf
        replace hf := ite_f (by rw [hq]; decide) hf
        replace hf := ite_f (by rw [hq]; decide) hf
        replace hf := ite_f (by rw [hq]; decide) hf
        replace hf := ite_f (by rw [hq]; decide) hf
        replace hf := ite_f (by rw [hq]; decide) hf
        replace hf := ite_f (by rw [hq]; decide) hf
        replace hf := ite_f (by rw [hq]; decide) hf
        replace hf := ite_f (by rw [hq]; decide) hf
        replace hf := ite_f (by rw [hq]; decide) hf
        replace hf := ite_f (by rw [hq]; decide) hf
        replace hf := ite_f (by rw [hq]; decide) hf
        replace hf := ite_f (by rw [hq]; decide) hf
        replace hf := ite_f (by rw [hq]; decide) hf
        replace hf := ite_f (by rw [hq]; decide) hf
        replace hf := ite_f (by rw [hq]; decide) hf
        replace hf := ite_f (by rw [hq]; decide) hf
        replace hf := ite_f (by rw [hq]; decide) hf
        replace hf := ite_f (by rw [hq]; decide) hf
        replace hf := ite_f (by rw [hq]; decide) hf
        replace hf := ite_f (by rw [hq]; decide) hf
        replace hf := ite_f (by rw [hq]; decide) hf
        replace hf := ite_t hq hf
        exact r_L_law_1248 (fun w x3 => f_L_law_18 n w x3) ih FU w x3 hf
      · have hq := q3_34
        replace hf := ite_f (by rw [hq]; decide) hf
        replace hf := ite_f (by rw [hq]; decide) hf
        replace hf := ite_f (by rw [hq]; decide) hf
        replace hf := ite_f (by rw [hq]; decide) hf
        replace hf := ite_f (by rw [hq]; decide) hf
        replace hf := ite_f (by rw [hq]; decide) hf
        replace hf := ite_f (by rw [hq]; decide) hf
        replace hf := ite_f (by rw [hq]; decide) hf
        replace hf := ite_f (by rw [hq]; decide) hf
        replace hf := ite_f (by rw [hq]; decide) hf
        replace hf := ite_f (by rw [hq]; decide) hf
        replace hf := ite_f (by rw [hq]; decide) hf
        replace hf := ite_f (by rw [hq]; decide) hf
        replace hf := ite_f (by rw [hq]; decide) hf
        replace hf := ite_f (by rw [hq]; decide) hf
        replace hf := ite_f (by rw [hq]; decide) hf
        replace hf := ite_f (by rw [hq]; decide) hf
        replace hf := ite_f (by rw [hq]; decide) hf
        replace hf := ite_f (by rw [hq]; decide) hf
        replace hf := ite_f (by rw [hq]; decide) hf
        replace hf := ite_f (by rw [hq]; decide) hf
        replace hf := ite_f (by rw [hq]; decide) hf
        replace hf := ite_f (by rw [hq]; decide) hf
        replace hf := ite_f (by rw [hq]; decide) hf
        replace hf := ite_f (by rw [hq]; decide) hf
        replace hf := ite_f (by rw [hq]; decide) hf
        replace hf := ite_f (by rw [hq]; decide) hf
        replace hf := ite_f (by rw [hq]; decide) hf
        replace hf := ite_f (by rw [hq]; decide) hf
        replace hf := ite_f (by rw [hq]; decide) hf
        replace hf := ite_f (by rw [hq]; decide) hf
        replace hf := ite_f (by rw [hq]; decide) hf
        replace hf := ite_f (by rw [hq]; decide) hf
        replace hf := ite_f (by rw [hq]; decide) hf
        replace hf := ite_t hq hf
        exact r_L_law_1271 (fun w x3 => f_L_law_18 n w x3) ih FU w x3 hf
      · have hq := q3_35
        replace hf := ite_f (by rw [hq]; decide) hf
        replace hf := ite_f (by rw [hq]; decide) hf
        replace hf := ite_f (by rw [hq]; decide) hf
        replace hf := ite_f (by rw [hq]; decide) hf
        replace hf := ite_f (by rw [hq]; decide) hf
        replace hf := ite_f (by rw [hq]; decide) hf
        replace hf := ite_f (by rw [hq]; decide) hf
        replace hf := ite_f (by rw [hq]; decide) hf
        replace hf := ite_f (by rw [hq]; decide) hf
        replace hf := ite_f (by rw [hq]; decide) hf
        replace hf := ite_f (by rw [hq]; decide) hf
        replace hf := ite_f (by rw [hq]; decide) hf
        replace hf := ite_f (by rw [hq]; decide) hf
        replace hf := ite_f (by rw [hq]; decide) hf
        replace hf := ite_f (by rw [hq]; decide) hf
        replace hf := ite_f (by rw [hq]; decide) hf
        replace hf := ite_f (by rw [hq]; decide) hf
        replace hf := ite_f (by rw [hq]; decide) hf
        replace hf := ite_f (by rw [hq]; decide) hf
        replace hf := ite_f (by rw [hq]; decide) hf
        replace hf := ite_f (by rw [hq]; decide) hf
        replace hf := ite_f (by rw [hq]; decide) hf
        replace hf := ite_f (by rw [hq]; decide) hf
        replace hf := ite_f (by rw [hq]; decide) hf
        replace hf := ite_f (by rw [hq]; decide) hf
        replace hf := ite_f (by rw [hq]; decide) hf
        replace hf := ite_f (by rw [hq]; decide) hf
        replace hf := ite_f (by rw [hq]; decide) hf
        replace hf := ite_f (by rw [hq]; decide) hf
        replace hf := ite_f (by rw [hq]; decide) hf
        replace hf := ite_f (by rw [hq]; decide) hf
        replace hf := ite_f (by rw [hq]; decide) hf
        replace hf := ite_f (by rw [hq]; decide) hf
        replace hf := ite_f (by rw [hq]; decide) hf
        replace hf := ite_f (by rw [hq]; decide) hf
        replace hf := ite_t hq hf
        exact r_L_law_1294 (fun w x3 => f_L_law_18 n w x3) ih FU w x3 hf
      · have hq := q3_36
        replace hf := ite_f (by rw [hq]; decide) hf
        replace hf := ite_f (by rw [hq]; decide) hf
        replace hf := ite_f (by rw [hq]; decide) hf
        replace hf := ite_f (by rw [hq]; decide) hf
        replace hf := ite_f (by rw [hq]; decide) hf
        replace hf := ite_f (by rw [hq]; decide) hf
        replace hf := ite_f (by rw [hq]; decide) hf
        replace hf := ite_f (by rw [hq]; decide) hf
        replace hf := ite_f (by rw [hq]; decide) hf
        replace hf := ite_f (by rw [hq]; decide) hf
        replace hf := ite_f (by rw [hq]; decide) hf
        replace hf := ite_f (by rw [hq]; decide) hf
        replace hf := ite_f (by rw [hq]; decide) hf
        replace hf := ite_f (by rw [hq]; decide) hf
        replace hf := ite_f (by rw [hq]; decide) hf
        replace hf := ite_f (by rw [hq]; decide) hf
        replace hf := ite_f (by rw [hq]; decide) hf
        replace hf := ite_f (by rw [hq]; decide) hf
        replace hf := ite_f (by rw [hq]; decide) hf
        replace hf := ite_f (by rw [hq]; decide) hf
        replace hf := ite_f (by rw [hq]; decide) hf
        replace hf := ite_f (by rw [hq]; decide) hf
        replace hf := ite_f (by rw [hq]; decide) hf
        replace hf := ite_f (by rw [hq]; decide) hf
        replace hf := ite_f (by rw [hq]; decide) hf
        replace hf := ite_f (by rw [hq]; decide) hf
        replace hf := ite_f (by rw [hq]; decide) hf
        replace hf := ite_f (by rw [hq]; decide) hf
        replace hf := ite_f (by rw [hq]; decide) hf
        replace hf := ite_f (by rw [hq]; decide) hf
        replace hf := ite_f (by rw [hq]; decide) hf
        replace hf := ite_f (by rw [hq]; decide) hf
        replace hf := ite_f (by rw [hq]; decide) hf
        replace hf := ite_f (by rw [hq]; decide) hf
        replace hf := ite_f (by rw [hq]; decide) hf
        replace hf := ite_f (by rw [hq]; decide) hf
        replace hf := ite_t hq hf
        exact r_L_law_1317 (fun w x3 => f_L_law_18 n w x3) ih FU w x3 hf
      · have hq := q3_37
        replace hf := ite_f (by rw [hq]; decide) hf
        replace hf := ite_f (by rw [hq]; decide) hf
        replace hf := ite_f (by rw [hq]; decide) hf
        replace hf := ite_f (by rw [hq]; decide) hf
        replace hf := ite_f (by rw [hq]; decide) hf
        replace hf := ite_f (by rw [hq]; decide) hf
        replace hf := ite_f (by rw [hq]; decide) hf
        replace hf := ite_f (by rw [hq]; decide) hf
        replace hf := ite_f (by rw [hq]; decide) hf
        replace hf := ite_f (by rw [hq]; decide) hf
        replace hf := ite_f (by rw [hq]; decide) hf
        replace hf := ite_f (by rw [hq]; decide) hf
        replace hf := ite_f (by rw [hq]; decide) hf
        replace hf := ite_f (by rw [hq]; decide) hf
        replace hf := ite_f (by rw [hq]; decide) hf
        replace hf := ite_f (by rw [hq]; decide) hf
        replace hf := ite_f (by rw [hq]; decide) hf
        replace hf := ite_f (by rw [hq]; decide) hf
        replace hf := ite_f (by rw [hq]; decide) hf
        replace hf := ite_f (by rw [hq]; decide) hf
        replace hf := ite_f (by rw [hq]; decide) hf
        replace hf := ite_f (by rw [hq]; decide) hf
        replace hf := ite_f (by rw [hq]; decide) hf
        replace hf := ite_f (by rw [hq]; decide) hf
        replace hf := ite_f (by rw [hq]; decide) hf
        replace hf := ite_f (by rw [hq]; decide) hf
        replace hf := ite_f (by rw [hq]; decide) hf
        replace hf := ite_f (by rw [hq]; decide) hf
        replace hf := ite_f (by rw [hq]; decide) hf
        replace hf := ite_f (by rw [hq]; decide) hf
        replace hf := ite_f (by rw [hq]; decide) hf
        replace hf := ite_f (by rw [hq]; decide) hf
        replace hf := ite_f (by rw [hq]; decide) hf
        replace hf := ite_f (by rw [hq]; decide) hf
        replace hf := ite_f (by rw [hq]; decide) hf
        replace hf := ite_f (by rw [hq]; decide) hf
        replace hf := ite_f (by rw [hq]; decide) hf
        replace hf := ite_t hq hf
        exact r_L_law_1360 (fun w x3 => f_L_law_18 n w x3) ih FU w x3 hf
      · have hq := q3_38
        replace hf := ite_f (by rw [hq]; decide) hf
        replace hf := ite_f (by rw [hq]; decide) hf
        replace hf := ite_f (by rw [hq]; decide) hf
        replace hf := ite_f (by rw [hq]; decide) hf
        replace hf := ite_f (by rw [hq]; decide) hf
        replace hf := ite_f (by rw [hq]; decide) hf
        replace hf := ite_f (by rw [hq]; decide) hf
        replace hf := ite_f (by rw [hq]; decide) hf
        replace hf := ite_f (by rw [hq]; decide) hf
        replace hf := ite_f (by rw [hq]; decide) hf
        replace hf := ite_f (by rw [hq]; decide) hf
        replace hf := ite_f (by rw [hq]; decide) hf
        replace hf := ite_f (by rw [hq]; decide) hf
        replace hf := ite_f (by rw [hq]; decide) hf
        replace hf := ite_f (by rw [hq]; decide) hf
        replace hf := ite_f (by rw [hq]; decide) hf
        replace hf := ite_f (by rw [hq]; decide) hf
        replace hf := ite_f (by rw [hq]; decide) hf
        replace hf := ite_f (by rw [hq]; decide) hf
        replace hf := ite_f (by rw [hq]; decide) hf
        replace hf := ite_f (by rw [hq]; decide) hf
        replace hf := ite_f (by rw [hq]; decide) hf
        replace hf := ite_f (by rw [hq]; decide) hf
        replace hf := ite_f (by rw [hq]; decide) hf
        replace hf := ite_f (by rw [hq]; decide) hf
        replace hf := ite_f (by rw [hq]; decide) hf
        replace hf := ite_f (by rw [hq]; decide) hf
        replace hf := ite_f (by rw [hq]; decide) hf
        replace hf := ite_f (by rw [hq]; decide) hf
        replace hf := ite_f (by rw [hq]; decide) hf
        replace hf := ite_f (by rw [hq]; decide) hf
        replace hf := ite_f (by rw [hq]; decide) hf
        replace hf := ite_f (by rw [hq]; decide) hf
        replace hf := ite_f (by rw [hq]; decide) hf
        replace hf := ite_f (by rw [hq]; decide) hf
        replace hf := ite_f (by rw [hq]; decide) hf
        replace hf := ite_f (by rw [hq]; decide) hf
        replace hf := ite_f (by rw [hq]; decide) hf
        replace hf := ite_t hq hf
        exact r_L_law_1383 (fun w x3 => f_L_law_18 n w x3) ih FU w x3 hf
      · have hq := q3_39
        replace hf := ite_f (by rw [hq]; decide) hf
        replace hf := ite_f (by rw [hq]; decide) hf
        replace hf := ite_f (by rw [hq]; decide) hf
        replace hf := ite_f (by rw [hq]; decide) hf
        replace hf := ite_f (by rw [hq]; decide) hf
        replace hf := ite_f (by rw [hq]; decide) hf
        replace hf := ite_f (by rw [hq]; decide) hf
        replace hf := ite_f (by rw [hq]; decide) hf
        replace hf := ite_f (by rw [hq]; decide) hf
        replace hf := ite_f (by rw [hq]; decide) hf
        replace hf := ite_f (by rw [hq]; decide) hf
        replace hf := ite_f (by rw [hq]; decide) hf
        replace hf := ite_f (by rw [hq]; decide) hf
        replace hf := ite_f (by rw [hq]; decide) hf
        replace hf := ite_f (by rw [hq]; decide) hf
        replace hf := ite_f (by rw [hq]; decide) hf
        replace hf := ite_f (by rw [hq]; decide) hf
        replace hf := ite_f (by rw [hq]; decide) hf
        replace hf := ite_f (by rw [hq]; decide) hf
        replace hf := ite_f (by rw [hq]; decide) hf
        replace hf := ite_f (by rw [hq]; decide) hf
        replace hf := ite_f (by rw [hq]; decide) hf
        replace hf := ite_f (by rw [hq]; decide) hf
        replace hf := ite_f (by rw [hq]; decide) hf
        replace hf := ite_f (by rw [hq]; decide) hf
        replace hf := ite_f (by rw [hq]; decide) hf
        replace hf := ite_f (by rw [hq]; decide) hf
        replace hf := ite_f (by rw [hq]; decide) hf
        replace hf := ite_f (by rw [hq]; decide) hf
        replace hf := ite_f (by rw [hq]; decide) hf
        replace hf := ite_f (by rw [hq]; decide) hf
        replace hf := ite_f (by rw [hq]; decide) hf
        replace hf := ite_f (by rw [hq]; decide) hf
        replace hf := ite_f (by rw [hq]; decide) hf
        replace hf := ite_f (by rw [hq]; decide) hf
        replace hf := ite_f (by rw [hq]; decide) hf
        replace hf := ite_f (by rw [hq]; decide) hf
        replace hf := ite_f (by rw [hq]; decide) hf
        replace hf := ite_f (by rw [hq]; decide) hf
        replace hf := ite_t hq hf
        exact r_L_law_1396 (fun w x3 => f_L_law_18 n w x3) ih FU w x3 hf
      · have hq := q3_40
        replace hf := ite_f (by rw [hq]; decide) hf
        replace hf := ite_f (by rw [hq]; decide) hf
        replace hf := ite_f (by rw [hq]; decide) hf
        replace hf := ite_f (by rw [hq]; decide) hf
        replace hf := ite_f (by rw [hq]; decide) hf
        replace hf := ite_f (by rw [hq]; decide) hf
        replace hf := ite_f (by rw [hq]; decide) hf
        replace hf := ite_f (by rw [hq]; decide) hf
        replace hf := ite_f (by rw [hq]; decide) hf
        replace hf := ite_f (by rw [hq]; decide) hf
        replace hf := ite_f (by rw [hq]; decide) hf
        replace hf := ite_f (by rw [hq]; decide) hf
        replace hf := ite_f (by rw [hq]; decide) hf
        replace hf := ite_f (by rw [hq]; decide) hf
        replace hf := ite_f (by rw [hq]; decide) hf
        replace hf := ite_f (by rw [hq]; decide) hf
        replace hf := ite_f (by rw [hq]; decide) hf
        replace hf := ite_f (by rw [hq]; decide) hf
        replace hf := ite_f (by rw [hq]; decide) hf
        replace hf := ite_f (by rw [hq]; decide) hf
        replace hf := ite_f (by rw [hq]; decide) hf
        replace hf := ite_f (by rw [hq]; decide) hf
        replace hf := ite_f (by rw [hq]; decide) hf
        replace hf := ite_f (by rw [hq]; decide) hf
        replace hf := ite_f (by rw [hq]; decide) hf
        replace hf := ite_f (by rw [hq]; decide) hf
        replace hf := ite_f (by rw [hq]; decide) hf
        replace hf := ite_f (by rw [hq]; decide) hf
        replace hf := ite_f (by rw [hq]; decide) hf
        replace hf := ite_f (by rw [hq]; decide) hf
        replace hf := ite_f (by rw [hq]; decide) hf
        replace hf := ite_f (by rw [hq]; decide) hf
        replace hf := ite_f (by rw [hq]; decide) hf
        replace hf := ite_f (by rw [hq]; decide) hf
        replace hf := ite_f (by rw [hq]; decide) hf
        replace hf := ite_f (by rw [hq]; decide) hf
        replace hf := ite_f (by rw [hq]; decide) hf
        replace hf := ite_f (by rw [hq]; decide) hf
        replace hf := ite_f (by rw [hq]; decide) hf
        replace hf := ite_f (by rw [hq]; decide) hf
        replace hf := ite_t hq hf
        exact r_L_law_1409 (fun w x3 => f_L_law_18 n w x3) ih FU w x3 hf
      · replace hf := ite_f q3_0 hf
        replace hf := ite_f q3_1 hf
        replace hf := ite_f q3_2 hf
        replace hf := ite_f q3_3 hf
        replace hf := ite_f q3_4 hf
        replace hf := ite_f q3_5 hf
        replace hf := ite_f q3_6 hf
        replace hf := ite_f q3_7 hf
        replace hf := ite_f q3_8 hf
        replace hf := ite_f q3_9 hf
        replace hf := ite_f q3_10 hf
        replace hf := ite_f q3_11 hf
        replace hf := ite_f q3_12 hf
        replace hf := ite_f q3_13 hf
        replace hf := ite_f q3_14 hf
        replace hf := ite_f q3_15 hf
        replace hf := ite_f q3_16 hf
        replace hf := ite_f q3_17 hf
        replace hf := ite_f q3_18 hf
        replace hf := ite_f q3_19 hf
        replace hf := ite_f q3_20 hf
        replace hf := ite_f q3_21 hf
        replace hf := ite_f q3_22 hf
        replace hf := ite_f q3_23 hf
        replace hf := ite_f q3_24 hf
        replace hf := ite_f q3_25 hf
        replace hf := ite_f q3_26 hf
        replace hf := ite_f q3_27 hf
        replace hf := ite_f q3_28 hf
        replace hf := ite_f q3_29 hf
        replace hf := ite_f q3_30 hf
        replace hf := ite_f q3_31 hf
        replace hf := ite_f q3_32 hf
        replace hf := ite_f q3_33 hf
        replace hf := ite_f q3_34 hf
        replace hf := ite_f q3_35 hf
        replace hf := ite_f q3_36 hf
        replace hf := ite_f q3_37 hf
        replace hf := ite_f q3_38 hf
        replace hf := ite_f q3_39 hf
        replace hf := ite_f q3_40 hf
        exact r_L_law_1432 (fun w x3 => f_L_law_18 n w x3) ih FU w x3 hf
def f_L_law (w : MW) : Option RT := f_L_law_18 FU w (0 : Int32)
set_option maxHeartbeats 4000000 in
theorem rn_L_law {d : Nat} {r : Option Value} {w' : MW} (w : MW) (hf : f_L_law w = some (r, w')) : Rn (d + 65) mL_law 16 [some (.ref 83), some (.ref 0), some (.ref 62), none] [] w r w' := by
  unfold f_L_law at hf
  refine bL_law_16 (k := ?_)
  exact r_L_law_18 FU w (0 : Int32) hf
